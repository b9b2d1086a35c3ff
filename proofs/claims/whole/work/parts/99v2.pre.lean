section JV_6b
variable {j : Nat}
theorem pm0 (hj : j < 100) : biP 436 j j 0 := by unfold biP; omega
theorem pm1 (hj : j < 100) : biP 437 j j 1 := by unfold biP; omega
theorem pm8 (hj : j < 100) : biP 444 j j 8 := by unfold biP; omega
theorem pm9 (hj : j < 100) : biP 445 j j 9 := by unfold biP; omega
theorem pm10 (hj : j < 100) : biP 446 j j 10 := by unfold biP; omega
theorem pm11 (hj : j < 100) : biP 447 j j 11 := by unfold biP; omega
theorem pm12 (hj : j < 100) : biP 448 j j 12 := by unfold biP; omega
theorem pm13 (hj : j < 100) : biP 449 j j 13 := by unfold biP; omega
theorem pm2 (hj : j < 100) : blP 441 j j 2 := by unfold blP; omega
theorem pm3 (hj : j < 100) : blP 440 j j 3 := by unfold blP; omega
theorem pm4 (hj : j < 100) : blP 438 j j 4 := by unfold blP; omega
theorem pm5 (hj : j < 100) : blP 439 j j 5 := by unfold blP; omega
theorem pm6 (hj : j < 100) : blP 442 j j 6 := by unfold blP; omega
theorem pm7 (hj : j < 100) : blP 443 j j 7 := by unfold blP; omega
theorem pq4 : blP 215 43 100 4 := by unfold blP; omega
theorem pc0 (hj : j < 100) : aiP (115 + j) 0 j 0 := by unfold aiP; omega
theorem pc1 (hj : j < 100) : aiP (115 + j) 1 j 1 := by unfold aiP; omega
theorem pc2 (hj : j < 100) : aiP (115 + j) 2 j 2 := by unfold aiP; omega
theorem pc3 (hj : j < 100) : aiP (115 + j) 3 j 3 := by unfold aiP; omega
theorem pc8 (hj : j < 100) : aiP (115 + j) 8 j 8 := by unfold aiP; omega
theorem pc9 (hj : j < 100) : aiP (115 + j) 9 j 9 := by unfold aiP; omega
theorem pc10 (hj : j < 100) : aiP (115 + j) 10 j 10 := by unfold aiP; omega
theorem pc11 (hj : j < 100) : aiP (115 + j) 11 j 11 := by unfold aiP; omega
theorem pc12 (hj : j < 100) : aiP (115 + j) 12 j 12 := by unfold aiP; omega
theorem pc13 (hj : j < 100) : aiP (115 + j) 13 j 13 := by unfold aiP; omega
theorem pc4 (hj : j < 100) : alP (115 + j) 4 j 4 := by unfold alP; omega
theorem pc5 (hj : j < 100) : alP (115 + j) 5 j 5 := by unfold alP; omega
theorem pc7 (hj : j < 100) : alP (115 + j) 7 j 7 := by unfold alP; omega
theorem pc12_ : aiP 24 12 100 4 := by unfold aiP; omega
theorem pc11_ (x y : Nat) : ¬ aiP 24 11 x y := by unfold aiP; omega
theorem pc10_ (x y : Nat) : ¬ aiP 24 10 x y := by unfold aiP; omega
theorem pc6_ (hj : j < 100) (x y : Nat) : ¬ alP (115 + j) 6 x y := by unfold alP; omega
end JV_6b
