section JB4
variable {a : Nat} {S : jS}
def zw (S : jS) (a : Nat) (s u : Int64) (o : Int32) : jS := w_i (w_l (w_l S a 4 s) a 5 u) a 6 o
theorem zw_id : zw S a (S.2.1 a 4) (S.2.1 a 5) (S.1 a 6) = S := by
  unfold zw
  apply S_ext
  · intro b j
    simp only [w_ir, w_l1]
    by_cases h : b = a ∧ j = 6
    · rw [if_pos h, h.1, h.2]
    · rw [if_neg h]
  · intro b j
    simp only [w_i2, w_lr]
    by_cases h : b = a ∧ j = 5
    · rw [if_pos h, h.1, h.2]
    · rw [if_neg h]
      by_cases h2 : b = a ∧ j = 4
      · rw [if_pos h2, h2.1, h2.2]
      · rw [if_neg h2]
  · intro b j; rfl
def zca (S : jS) (a : Nat) : Prop := S.2.1 a 5 = -1152921504606846976 ∨ zst S a (S.2.1 a 4).toInt (S.2.1 a 5).toInt (S.1 a 6).toInt
theorem latv_b {f : Int → Int} {x l : Int} (hl : 1900 ≤ l) (hb : ∀ y, 1970 ≤ y → y ≤ 2299 → -1000000 ≤ f y ∧ f y ≤ 10500000000) : -1152921504606846976 ≤ latv f x l ∧ latv f x l ≤ 10500000000 := by
  have hy : y99 l ≤ 2299 := by unfold y99; split <;> omega
  unfold latv
  split
  · omega
  · have := hb (y99 l) (by omega) hy
    split
    · omega
    · split
      · have := hb (y99 l - 1) (by omega) (by omega)
        omega
      · omega
theorem fstv_b {f : Int → Int} {x l : Int} (hb : ∀ y, 1970 ≤ y → y ≤ 2299 → -1000000 ≤ f y ∧ f y ≤ 10500000000) : -1000000 ≤ fstv f x l ∧ fstv f x l ≤ 1152921504606846976 := by
  have hy : 1970 ≤ y70 l := by unfold y70; split <;> omega
  unfold fstv
  split
  · omega
  · have := hb (y70 l) hy (by omega)
    split
    · omega
    · split
      · have := hb (y70 l + 1) (by omega) (by omega)
        omega
      · omega
theorem zy_ {x : Int64} {b : Int32} (x1 : -1000000 ≤ x.toInt) (x2 : x.toInt ≤ 10413800000) (b1 : -60000 ≤ b.toInt) (b2 : b.toInt ≤ 60000) : ∃ z, F_D_dayOf (x + b.toInt64) S = some z ∧ z.toInt = (x.toInt + b.toInt) / 86400 := by
  have e : (x + b.toInt64).toInt = x.toInt + b.toInt := by
    rw [Int64.toInt_add, Int32.toInt_toInt64]
    exact bs64 (by omega) (by omega)
  refine ⟨_, fD_day (by rw [e]; omega) (by rw [e]; omega), ?_⟩
  rw [e]
  exact tI (by omega) (by omega)
theorem zyy_ {z : Int32} {D : Int} (h : z.toInt = D) (h1 : -20 ≤ D) (h2 : D ≤ 120600) : ∃ w, F_D_yearOf z S = some w ∧ w.toInt = dt_y D := by
  have := dt_yr (d := D) (by omega) (by omega)
  refine ⟨_, fD_year (by omega) (by omega), ?_⟩
  rw [h]
  exact tI (by omega) (by omega)
theorem fZ_find {x : Int64} (hz : zok S a) (x1 : -1000000 ≤ x.toInt) (x2 : x.toInt ≤ 10413800000) : ∃ s u o, F_Z_findStretch a x S = some (zw S a s u o) ∧ zst S a s.toInt u.toInt o.toInt ∧ s.toInt ≤ x.toInt ∧ x.toInt < u.toInt := by
  obtain ⟨z1, z2, z3, z4, z5⟩ := hz
  unfold F_Z_findStretch
  by_cases c : S.1 a 1 = 0
  · rw [if_pos c]
    simp only [jl_]
    refine ⟨-1152921504606846976, 1152921504606846976, S.1 a 0, ?_, ⟨fun t _ _ => Or.inl ⟨c, rfl⟩, Or.inl ?_, Or.inl ?_⟩, ?_, ?_⟩
    · unfold zw
      rw [w_l1, w_l1]
    · simp only [Int64.reduceToInt]
    · simp only [Int64.reduceToInt]
    · simp only [Int64.reduceToInt]; omega
    · simp only [Int64.reduceToInt]; omega
  · rw [if_neg c]
    simp only [jl_]
    obtain ⟨k1, k2⟩ := z5 c
    have ev : (S.1 a 0 + S.1 a 1).toInt = (S.1 a 0).toInt + (S.1 a 1).toInt := by
      rw [Int32.toInt_add]
      exact bs32 (by omega) (by omega)
    generalize hv : S.1 a 0 + S.1 a 1 = v at *
    obtain ⟨d1, g1, g2⟩ := zy_ (S := S) (b := S.1 a 0) x1 x2 (by omega) (by omega)
    obtain ⟨y1, g3, g4⟩ := zyy_ (S := S) g2 (by omega) (by omega)
    obtain ⟨d2, g5, g6⟩ := zy_ (S := S) (b := v) x1 x2 (by omega) (by omega)
    obtain ⟨y2, g7, g8⟩ := zyy_ (S := S) g6 (by omega) (by omega)
    have yb1 := dt_yr (d := (x.toInt + (S.1 a 0).toInt) / 86400) (by omega) (by omega)
    have yb2 := dt_yr (d := (x.toInt + v.toInt) / 86400) (by omega) (by omega)
    rw [g1]; simp only [ob_]
    rw [g3]; simp only [ob_]
    rw [g5]; simp only [ob_]
    rw [g7]; simp only [ob_]
    rw [fY_lat k1 (by omega) (by omega) (by omega) (by omega), fY_lat k2 (by omega) (by omega) (by omega) (by omega), fY_fst k1 (by omega) (by omega) (by omega) (by omega), fY_fst k2 (by omega) (by omega) (by omega) (by omega)]
    simp only [ob_]
    rw [fmax2]
    simp only [ob_]
    rw [fmin2]
    simp only [ob_]
    have fB : (fun y => rsS S (a + 1) y - (S.1 a 0).toInt) = zB S a := rfl
    have fE : (fun y => rsS S (a + 2) y - v.toInt) = zE S a := by
      unfold zE
      rw [ev]
    rw [fB, fE, g4, g8]
    have bB : ∀ y, 1970 ≤ y → y ≤ 2299 → -1000000 ≤ zB S a y ∧ zB S a y ≤ 10500000000 := fun y q1 q2 => by
      have := rsS_b k1 q1 q2
      unfold zB
      omega
    have bE : ∀ y, 1970 ≤ y → y ≤ 2299 → -1000000 ≤ zE S a y ∧ zE S a y ≤ 10500000000 := fun y q1 q2 => by
      have := rsS_b k2 q1 q2
      unfold zE
      omega
    have l1 := rs_cv (x := x.toInt) k1 (f := zB S a) (fun _ => rfl) rfl
    have l2 := rs_cv (x := x.toInt) k2 (f := zE S a) (fun _ => rfl) rfl
    rw [← ev] at l2
    have L1 := lat_v l1.1 l1.2.1 l1.2.2
    have L2 := lat_v l2.1 l2.2.1 l2.2.2
    have L3 := fst_v l1.1 l1.2.1 l1.2.2
    have L4 := fst_v l2.1 l2.2.1 l2.2.2
    have n1 := latv_b (x := x.toInt) (l := dt_y ((x.toInt + (S.1 a 0).toInt) / 86400)) (by omega) bB
    have n2 := latv_b (x := x.toInt) (l := dt_y ((x.toInt + v.toInt) / 86400)) (by omega) bE
    have n3 := fstv_b (x := x.toInt) (l := dt_y ((x.toInt + (S.1 a 0).toInt) / 86400)) bB
    have n4 := fstv_b (x := x.toInt) (l := dt_y ((x.toInt + v.toInt) / 86400)) bE
    generalize latv (zB S a) x.toInt (dt_y ((x.toInt + (S.1 a 0).toInt) / 86400)) = B at *
    generalize latv (zE S a) x.toInt (dt_y ((x.toInt + v.toInt) / 86400)) = E at *
    generalize fstv (zB S a) x.toInt (dt_y ((x.toInt + (S.1 a 0).toInt) / 86400)) = b2 at *
    generalize fstv (zE S a) x.toInt (dt_y ((x.toInt + v.toInt) / 86400)) = e2 at *
    have t1 : (Int64.ofInt B).toInt = B := tL (by omega) (by omega)
    have t2 : (Int64.ofInt E).toInt = E := tL (by omega) (by omega)
    have t3 : (Int64.ofInt b2).toInt = b2 := tL (by omega) (by omega)
    have t4 : (Int64.ofInt e2).toInt = e2 := tL (by omega) (by omega)
    clear l1 l2
    rw [t1, t2, t3, t4]
    have M := zst_mk (b := 0) (e := 0) (o := if B ≤ E then (S.1 a 0).toInt else (S.1 a 0).toInt + (S.1 a 1).toInt) c L1 L2 L3 L4 bB bE (by omega) (by omega) rfl
    have t5 : (Int64.ofInt (if B < E then E else B)).toInt = (if B < E then E else B) := tL (by split <;> omega) (by split <;> omega)
    have t6 : (Int64.ofInt (if e2 < b2 then e2 else b2)).toInt = (if e2 < b2 then e2 else b2) := tL (by split <;> omega) (by split <;> omega)
    refine ⟨Int64.ofInt (if B < E then E else B), Int64.ofInt (if e2 < b2 then e2 else b2), if B ≤ E then S.1 a 0 else v, ?_, ?_⟩
    · unfold zw J_Z_findStretch_164
      simp only [jl_]
      by_cases q : B ≤ E
      · rw [if_pos (by rw [Int64.le_iff_toInt_le, t1, t2]; exact q), if_pos q, w_l1, w_l1]
      · rw [if_neg (by rw [Int64.le_iff_toInt_le, t1, t2]; exact q), if_neg q]
    · rw [t5, t6]
      have t7 : (if B ≤ E then S.1 a 0 else v).toInt = (if B ≤ E then (S.1 a 0).toInt else (S.1 a 0).toInt + (S.1 a 1).toInt) := by
        split
        · rfl
        · exact ev
      rw [t7]
      exact M
theorem fZ_off {x : Int64} (hz : zok S a) (hc : zca S a) (x1 : -1000000 ≤ x.toInt) (x2 : x.toInt ≤ 10413800000) : ∃ s u o, F_Z_offsetAt a x S = some (o, zw S a s u o) ∧ zst S a s.toInt u.toInt o.toInt ∧ s.toInt ≤ x.toInt ∧ x.toInt < u.toInt := by
  have key : ∃ s u o, J_Z_offsetAt_18 a x S = some (o, zw S a s u o) ∧ zst S a s.toInt u.toInt o.toInt ∧ s.toInt ≤ x.toInt ∧ x.toInt < u.toInt := by
    obtain ⟨s, u, o, h1, h2⟩ := fZ_find hz x1 x2
    refine ⟨s, u, o, ?_, h2⟩
    unfold J_Z_offsetAt_18
    rw [h1]
    simp only [ob_]
    have : (zw S a s u o).1 a 6 = o := by
      unfold zw
      rw [w_ir, if_pos ⟨rfl, rfl⟩]
    rw [this]
  unfold F_Z_offsetAt
  by_cases c1 : x < S.2.1 a 4
  · rw [if_pos c1]; exact key
  · rw [if_neg c1]
    by_cases c2 : x < S.2.1 a 5
    · rw [if_pos c2]
      rcases hc with hc | hc
      · exfalso
        rw [hc, Int64.lt_iff_toInt_lt] at c2
        simp only [Int64.reduceToInt] at c2
        omega
      · refine ⟨S.2.1 a 4, S.2.1 a 5, S.1 a 6, by rw [zw_id], hc, ?_, Int64.lt_iff_toInt_lt.mp c2⟩
        have : ¬ x.toInt < (S.2.1 a 4).toInt := fun q => c1 (Int64.lt_iff_toInt_lt.mpr q)
        omega
    · rw [if_neg c2]; exact key
end JB4
