section JM_1
variable {S W : jS} {c z : Nat} {p0 p2 : Int32} {p1 : Int64}
theorem fck0 {p lo hi : Int64} (h1 : lo.toInt ≤ p.toInt) (h2 : p.toInt ≤ hi.toInt) : F_J_checkRange p lo hi S = some (none, S) := by
  unfold F_J_checkRange
  rw [if_neg (fun q => by have := Int64.lt_iff_toInt_lt.mp q; omega), if_pos (Int64.le_iff_toInt_le.mpr h2)]
theorem fck1 {p lo hi : Int64} (h1 : p.toInt < lo.toInt ∨ hi.toInt < p.toInt) : F_J_checkRange p lo hi S = some (some 11, S) := by
  unfold F_J_checkRange
  by_cases q : p < lo
  · rw [if_pos q]
  · rw [if_neg q, if_neg (fun w => by
      have := Int64.le_iff_toInt_le.mp w
      have := Int64.le_iff_toInt_le.mp (Int64.not_lt.mp q)
      omega)]
/-- a field of a local time -/
def locr (d v9 mi p2 : Int32) : Int32 := if p2 = 0 then v9 - v9 / 60 * 60 else if p2 = 1 then (v9 / 60) - (v9 / 60) / 60 * 60 else if p2 = 2 then v9 / 3600 else if p2 = 3 then Int32.ofInt (d.toInt - dt_m (dt_y d.toInt) (dt_o (dt_y d.toInt) d.toInt) + 1) else if p2 = 4 then Int32.ofInt (dt_o (dt_y d.toInt) d.toInt) else if p2 = 5 then Int32.ofInt (dt_y d.toInt) else if p2 = 6 then Int32.ofInt ((d.toInt + 4) % 7 + 1) else mi
theorem fJ_loc (i1 : p0.toInt = z) (i2 : z < 8) (hc : S.2.2 27 z = c) (hj : jz_ c = true) (hk : zok S c) (hca : zca S c) (a1 : 0 ≤ p1.toInt) (a2 : p1.toInt ≤ 10413791999999) (b1 : 0 ≤ p2.toInt) (b2 : p2.toInt ≤ 7) : ∃ s u o, F_J_local p0 p1 p2 S = some (.inl (locr (Int32.ofInt ((p1.toInt / 1000 + o.toInt) / 86400)) ((Int64.ofInt ((p1.toInt / 1000 + o.toInt) % 86400)).toInt32) (o / 60) p2), zw S c s u o) ∧ zst S c s.toInt u.toInt o.toInt ∧ zof S c (p1.toInt / 1000) o.toInt := by
  have e1 := dv1000 a1 a2
  unfold F_J_local
  rw [fck0 (by simp only [Int32.toInt_toInt64, Int64.reduceToInt]; omega) (by simp only [Int32.toInt_toInt64, Int64.reduceToInt]; omega), jxv_0, fck0 (by simp only [Int64.reduceToInt]; omega) (by simp only [Int64.reduceToInt]; omega), jxv_0, fck0 (by simp only [Int32.toInt_toInt64, Int64.reduceToInt]; omega) (by simp only [Int32.toInt_toInt64, Int64.reduceToInt]; omega), jxv_0, j_qi (by omega) (by omega), clN i1, hc, j_qt hj]
  obtain ⟨s, u, o, g1, g2, g3, g4⟩ := fZ_off (x := p1 / 1000) hk hca (by rw [e1]; omega) (by rw [e1]; omega)
  rw [e1] at g3 g4
  have zo := g2.1 _ g3 g4
  have ob := zof_b hk zo
  obtain ⟨k1, k2, k3, k4, -⟩ := hk
  refine ⟨s, u, o, ?_, g2, zo⟩
  rw [g1]
  simp only [ob_, jl_]
  have e2 : (p1 / 1000 + o.toInt64).toInt = p1.toInt / 1000 + o.toInt := by
    rw [Int64.toInt_add, e1, Int32.toInt_toInt64]
    exact bs64 (by omega) (by omega)
  generalize p1 / 1000 + o.toInt64 = v at *
  obtain ⟨V, hV⟩ : ∃ V, p1.toInt / 1000 + o.toInt = V := ⟨_, rfl⟩
  rw [hV] at e2 ⊢
  have Vb : -50400 ≤ V ∧ V ≤ 10413850000 := by omega
  rw [fFM2 (by decide) (by omega) (by omega) (by decide), e2]
  simp only [ob_, Int64.reduceToInt]
  rw [fD_day (by omega) (by omega), e2]
  simp only [ob_]
  have eD : (Int32.ofInt (V / 86400)).toInt = V / 86400 := tI (by omega) (by omega)
  generalize Int32.ofInt (V / 86400) = d at *
  rw [fD_year (by omega) (by omega)]
  simp only [ob_]
  have yr := dt_yr (d := d.toInt) (by omega) (by omega)
  have ey : (Int32.ofInt (dt_y d.toInt)).toInt = dt_y d.toInt := tI (by omega) (by omega)
  have ya := dt_ya d.toInt
  have yb := dt_yb d.toInt
  rw [fD_month (by rw [ey]; omega) (by rw [ey]; omega) (by rw [ey]; exact ya) (by rw [ey]; exact yb), ey]
  simp only [ob_]
  have mb := dt_ob ya yb
  have em : (Int32.ofInt (dt_o (dt_y d.toInt) d.toInt)).toInt = dt_o (dt_y d.toInt) d.toInt := tI (by omega) (by omega)
  unfold locr
  by_cases q0 : p2 = 0
  · rw [if_pos q0, if_pos q0]
  rw [if_neg q0, if_neg q0]
  by_cases q1 : p2 = 1
  · rw [if_pos q1, if_pos q1]
  rw [if_neg q1, if_neg q1]
  by_cases q2 : p2 = 2
  · rw [if_pos q2, if_pos q2]
  rw [if_neg q2, if_neg q2]
  by_cases q3 : p2 = 3
  · rw [if_pos q3, if_pos q3, fD_first (by rw [ey]; omega) (by rw [ey]; omega) (by rw [em]; omega) (by rw [em]; omega), ey, em]
    simp only [ob_]
    have sm := dt_s (y := dt_y d.toInt) mb.1 mb.2.1
    have nb := dt_nb (y := dt_y d.toInt) (m := dt_o (dt_y d.toInt) d.toInt)
    have e4 : (d - Int32.ofInt (dt_m (dt_y d.toInt) (dt_o (dt_y d.toInt) d.toInt)) + 1) = Int32.ofInt (d.toInt - dt_m (dt_y d.toInt) (dt_o (dt_y d.toInt) d.toInt) + 1) := by
      refine ofI ?_
      have eF : (Int32.ofInt (dt_m (dt_y d.toInt) (dt_o (dt_y d.toInt) d.toInt))).toInt = dt_m (dt_y d.toInt) (dt_o (dt_y d.toInt) d.toInt) := tI (by omega) (by omega)
      simp (disch := omega) only [Int32.toInt_add, Int32.toInt_sub, eF, bs32, Int32.reduceToInt]
    rw [e4]
  rw [if_neg q3, if_neg q3]
  by_cases q4 : p2 = 4
  · rw [if_pos q4, if_pos q4]
  rw [if_neg q4, if_neg q4]
  by_cases q5 : p2 = 5
  · rw [if_pos q5, if_pos q5]
  rw [if_neg q5, if_neg q5]
  by_cases q6 : p2 = 6
  · rw [if_pos q6, if_pos q6, fD_wd (by omega) (by omega)]
    simp only [ob_]
  rw [if_neg q6, if_neg q6]
theorem fM_loc (i1 : p0.toInt = z) (i2 : z < 8) (hk : zok W c) (hz : zR W c z) (a1 : 0 ≤ p1.toInt) (a2 : p1.toInt ≤ 10413791999999) (b1 : 0 ≤ p2.toInt) (b2 : p2.toInt ≤ 7) {T : jS} (hT : w_i T 215 0 0 = W) : ∃ (mi : Int32) (y m d : Int32), F_M_local p0 p1 p2 T = some (locr (Int32.ofInt ((p1.toInt / 1000 + 60 * mi.toInt) / 86400)) ((Int64.ofInt ((p1.toInt / 1000 + 60 * mi.toInt) % 86400)).toInt32) mi p2, dt_S W y m d) ∧ zof W c (p1.toInt / 1000) (60 * mi.toInt) := by
  obtain ⟨n, hn, nb, hs⟩ := zR_n hz
  obtain ⟨o1, o2, s1, s2⟩ := zR_b hz hk
  obtain ⟨r, p, r1, r2, r3, r4, r5⟩ := fM_pas (x1 := p0) (t := p1) (S := W) (n := n) (B := W.1 (229 + z)) (by omega) (by omega) nb (by rw [clN i1]; exact hn) (by rw [clN i1]; exact hs)
  rw [clN i1] at r4 r5
  have of := zR_of hk hz (p := p) (x := p1.toInt / 1000) hn r3 (fun i hi => by
    have := r4 i hi
    obtain ⟨e, e1, -⟩ := zR_e hk hz hn (i := i) (by omega)
    omega) (fun i hi1 hi2 => by
    have := r5 i hi1 hi2
    omega)
  unfold F_M_local
  rw [jl_, hT]
  rw [if_neg (show ¬ p0 < 0 from fun q => by
    have := Int32.lt_iff_toInt_lt.mp q
    simp only [Int32.reduceToInt] at this
    omega), if_neg (show ¬ 7 < p0 from fun q => by
    have := Int32.lt_iff_toInt_lt.mp q
    simp only [Int32.reduceToInt] at this
    omega), if_neg (show ¬ p1 < 0 from fun q => by
    have := Int64.lt_iff_toInt_lt.mp q
    simp only [Int64.reduceToInt] at this
    omega), if_neg (show ¬ (10413791999999 : Int64) < p1 from fun q => by
    have := Int64.lt_iff_toInt_lt.mp q
    simp only [Int64.reduceToInt] at this
    omega), if_neg (show ¬ p2 < 0 from fun q => by
    have := Int32.lt_iff_toInt_lt.mp q
    simp only [Int32.reduceToInt] at this
    omega), if_pos (show p2 ≤ 7 from Int32.le_iff_toInt_le.mpr (by simp only [Int32.reduceToInt]; omega)), r1]
  simp only [ob_]
  rw [fM_min (p := p) (by omega) (by omega) r2 (by omega) (by rw [clN i1]; exact o1) (by rw [clN i1]; exact o2) (by rw [clN i1]; exact s1) (by rw [clN i1]; exact s2), clN i1]
  simp only [ob_]
  have mb := mi_b (q := 0 < p ∧ ¬ W.1 (229 + z) (p - 1) = 0) o1 o2 s1 s2
  obtain ⟨mi, hmi⟩ : ∃ mi : Int, ((W.1 217 z).toInt + if 0 < p ∧ ¬ W.1 (229 + z) (p - 1) = 0 then (W.1 218 z).toInt else 0) = mi := ⟨_, rfl⟩
  rw [hmi] at mb
  simp only [hmi] at of ⊢
  clear hmi
  have ei : (Int32.ofInt mi).toInt = mi := tI (by omega) (by omega)
  generalize Int32.ofInt mi = w at *
  rw [← ei] at of
  rw [fFD2 (by decide) (by omega) (by omega) (by decide)]
  simp only [ob_, Int64.reduceToInt, jl_]
  have e2 : (Int64.ofInt (p1.toInt / 1000) + 60 * w.toInt64).toInt = p1.toInt / 1000 + 60 * w.toInt := by
    simp (disch := omega) only [Int64.toInt_add, Int64.toInt_mul, Int32.toInt_toInt64, tL, bs64, Int64.reduceToInt]
  generalize Int64.ofInt (p1.toInt / 1000) + 60 * w.toInt64 = v at *
  obtain ⟨V, hV⟩ : ∃ V, p1.toInt / 1000 + 60 * w.toInt = V := ⟨_, rfl⟩
  have Vb : -50400 ≤ V ∧ V ≤ 10413850000 := by omega
  rw [hV] at e2
  rw [fFD2 (by decide) (by omega) (by omega) (by decide), e2]
  simp only [ob_, Int64.reduceToInt]
  rw [fFM2 (by decide) (by omega) (by omega) (by decide), e2]
  simp only [ob_, Int64.reduceToInt]
  have eD : ((Int64.ofInt (V / 86400)).toInt32).toInt = V / 86400 := l32 (by omega) (by omega)
  have eD2 : (Int64.ofInt (V / 86400)).toInt32 = Int32.ofInt (V / 86400) := ofI eD
  rw [eD2] at eD ⊢
  rw [fM_date (by omega) (by omega)]
  simp only [ob_]
  refine ⟨w, Int32.ofInt (dt_y (Int32.ofInt (V / 86400)).toInt), Int32.ofInt (dt_o (dt_y (Int32.ofInt (V / 86400)).toInt) (Int32.ofInt (V / 86400)).toInt), Int32.ofInt ((Int32.ofInt (V / 86400)).toInt - dt_m (dt_y (Int32.ofInt (V / 86400)).toInt) (dt_o (dt_y (Int32.ofInt (V / 86400)).toInt) (Int32.ofInt (V / 86400)).toInt) + 1), ?_, of⟩
  rw [hV]
  simp only [dS_y, dS_m, dS_d]
  rw [fM_wd (by omega) (by omega)]
  simp only [ob_]
  unfold locr
  split
  · rfl
  split
  · rfl
  split
  · rfl
  split
  · rfl
  split
  · rfl
  split
  · rfl
  split
  · rfl
  rfl
end JM_1
