section JH_7
variable {a h : Nat} {S : jS}
theorem fF_dyu {p : Int32} (hc : ckA S a h) (h1 : -10 ≤ p.toInt) (h2 : p.toInt ≤ 1000000) : ∃ r, F_F_dayUpTo p S = some r ∧ uN S a h (if 120529 < p.toInt then 120529 else p.toInt) r.toInt := by
  unfold F_F_dayUpTo
  rw [fmin]
  simp only [ob_, Int32.reduceToInt]
  have e0 : (Int32.ofInt (if 120529 < p.toInt then 120529 else p.toInt)).toInt = (if 120529 < p.toInt then 120529 else p.toInt) := tI (by split <;> omega) (by split <;> omega)
  generalize hD : (if 120529 < p.toInt then 120529 else p.toInt) = D at *
  have b1 : -10 ≤ D ∧ D ≤ 120529 := by
    rw [← hD]; split <;> omega
  generalize Int32.ofInt D = d at *
  have yb := dt_yr (d := D) (by omega) (by omega)
  have ya := dt_ya D
  have yb2 := dt_yb D
  have y99 : dt_y D ≤ 2299 := by
    by_cases c : 2300 ≤ dt_y D
    · have : dt_y D = 2300 := by omega
      rw [this, d99] at ya
      omega
    · omega
  rw [fD_year (by omega) (by omega)]
  simp only [ob_]
  have e1 : (Int32.ofInt (dt_y d.toInt)).toInt = dt_y D := by rw [e0]; exact tI (by omega) (by omega)
  generalize Int32.ofInt (dt_y d.toInt) = y at *
  rw [fD_month (by omega) (by omega) (by rw [e1, e0]; exact ya) (by rw [e1, e0]; exact yb2)]
  simp only [ob_]
  obtain ⟨o1, o2, o3, o4⟩ := dt_ob ya yb2
  have e2 : (Int32.ofInt (dt_o y.toInt d.toInt)).toInt = dt_o (dt_y D) D := by rw [e1, e0]; exact tI (by omega) (by omega)
  generalize Int32.ofInt (dt_o y.toInt d.toInt) = m at *
  rw [fD_first (by omega) (by omega) (by omega) (by omega)]
  simp only [ob_, jl_]
  have hs := dt_s (y := dt_y D) o1 o2
  have hn := dt_nb (y := dt_y D) (m := dt_o (dt_y D) D)
  have e3 : ((d - Int32.ofInt (dt_m y.toInt m.toInt)) + 1).toInt = D - dt_m (dt_y D) (dt_o (dt_y D) D) + 1 := by
    rw [e1, e2]
    have q : (d - Int32.ofInt (dt_m (dt_y D) (dt_o (dt_y D) D))).toInt = D - dt_m (dt_y D) (dt_o (dt_y D) D) := by
      rw [Int32.toInt_sub, e0, tI (by omega) (by omega)]
      exact bs32 (by omega) (by omega)
    rw [Int32.toInt_add, q]
    exact bs32 (by simp only [Int32.reduceToInt]; omega) (by simp only [Int32.reduceToInt]; omega)
  obtain ⟨r, g1, g2⟩ := lF_34 hc ju_ m ((d - Int32.ofInt (dt_m y.toInt m.toInt)) + 1) y (D - dt_m (dt_y D) (dt_o (dt_y D) D) + 1).toNat (by rw [e3]; omega) (by omega) (by omega) (by omega) (by omega) (by omega) (by omega) (by show _ < ((1000000 : Nat) : Int); omega)
  refine ⟨r, g1, uN_eq g2 ?_⟩
  rw [e1, e2]
  unfold up_
  rw [if_pos (by omega)]
  omega
end JH_7
