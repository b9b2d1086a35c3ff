section JB1
/-! when a rule's second lies in a year -/
def rk (mo wk wd mi : Int) : Prop := 1 ≤ mo ∧ mo ≤ 12 ∧ 1 ≤ wk ∧ wk ≤ 5 ∧ 0 ≤ wd ∧ wd ≤ 6 ∧ 0 ≤ mi ∧ mi ≤ 1439
def ra (mo wk wd y : Int) : Int := (wd + 1 - ((dt_m y mo + 4) % 7 + 1)) % 7 + 7 * (wk - 1)
def rd (mo wk wd y : Int) : Int := dt_m y mo + (if ra mo wk wd y < dt_n y mo then ra mo wk wd y else ra mo wk wd y - 7)
def rs (mo wk wd mi y : Int) : Int := rd mo wk wd y * 86400 + mi * 60
theorem rd_b {mo wk wd mi y : Int} (h : rk mo wk wd mi) : dt_m y mo ≤ rd mo wk wd y ∧ rd mo wk wd y < dt_m y (mo + 1) := by
  obtain ⟨h1, h2, h3, h4, h5, h6, h7, h8⟩ := h
  have hb := dt_nb (y := y) (m := mo)
  have hs := dt_s (y := y) h1 h2
  rw [hs]
  unfold rd ra
  split <;> omega
theorem rd_y {mo wk wd mi y : Int} (h : rk mo wk wd mi) : dt_1 y ≤ rd mo wk wd y ∧ rd mo wk wd y < dt_1 (y + 1) := by
  have hb := rd_b (y := y) h
  obtain ⟨h1, h2, -⟩ := h
  have m1 := dt_mm (y := y) (m := 1) (k := mo) (by omega) h1 (by omega)
  have m2 := dt_mm (y := y) (m := mo + 1) (k := 13) (by omega) (by omega) (by omega)
  rw [dt_11] at m1
  rw [dt_13] at m2
  omega
theorem rs_y {mo wk wd mi y : Int} (h : rk mo wk wd mi) : dt_1 y * 86400 ≤ rs mo wk wd mi y ∧ rs mo wk wd mi y < dt_1 (y + 1) * 86400 := by
  have hb := rd_y (y := y) h
  obtain ⟨h1, h2, h3, h4, h5, h6, h7, h8⟩ := h
  unfold rs
  omega
theorem rs_mo {mo wk wd mi x y : Int} (h : rk mo wk wd mi) (hxy : x < y) : rs mo wk wd mi x < rs mo wk wd mi y := by
  have hx := (rs_y (y := x) h).2
  have hy := (rs_y (y := y) h).1
  have := dt_mo hxy
  by_cases e : x + 1 = y
  · rw [e] at hx; omega
  · have := dt_mo (x := x + 1) (y := y) (by omega); omega
theorem d70 : dt_1 1970 = 0 := by decide
theorem d99 : dt_1 2300 = 120530 := by decide
theorem dt_ge {y : Int} (h : 1970 ≤ y) : 0 ≤ dt_1 y := by
  by_cases e : y = 1970
  · rw [e, d70]; omega
  · have := dt_mo (x := 1970) (y := y) (by omega); rw [d70] at this; omega
theorem dt_le {y : Int} (h : y ≤ 2300) : dt_1 y ≤ 120530 := by
  by_cases e : y = 2300
  · rw [e, d99]; omega
  · have := dt_mo (x := y) (y := 2300) (by omega); rw [d99] at this; omega
theorem rs_b {mo wk wd mi y : Int} (h : rk mo wk wd mi) (h1 : 1970 ≤ y) (h2 : y ≤ 2299) : 0 ≤ rs mo wk wd mi y ∧ rs mo wk wd mi y < 10413792000 := by
  have := rs_y (y := y) h
  have := dt_ge h1
  have := dt_le (y := y + 1) (by omega)
  omega
variable {a : Nat} {S : jS} {y : Int32}
/-- the rule that lies at an address -/
def rkS (S : jS) (a : Nat) : Prop := rk (S.1 a 0).toInt (S.1 a 1).toInt (S.1 a 2).toInt (S.1 a 3).toInt
def rsS (S : jS) (a : Nat) (y : Int) : Int := rs (S.1 a 0).toInt (S.1 a 1).toInt (S.1 a 2).toInt (S.1 a 3).toInt y
theorem sec_ar {f v mi : Int32} {F V : Int} (h1 : f.toInt = F) (h2 : v.toInt = V) (b1 : 0 ≤ F + V) (b2 : F + V ≤ 200000) (b3 : 0 ≤ mi.toInt) (b4 : mi.toInt ≤ 1439) : ((f + v : Int32).toInt64 * 86400) + (mi * 60 : Int32).toInt64 = Int64.ofInt ((F + V) * 86400 + mi.toInt * 60) := by
  refine ofL ?_
  have e5 : (f + v).toInt = F + V := by
    rw [Int32.toInt_add, h1, h2]
    exact bs32 (by omega) (by omega)
  have e6 : (mi * 60).toInt = mi.toInt * 60 := by simp (disch := omega) only [Int32.toInt_mul, bs32, Int32.reduceToInt]
  simp (disch := omega) only [Int64.toInt_add, Int64.toInt_mul, Int32.toInt_toInt64, e5, e6, bs64, Int64.reduceToInt]
theorem ra_e {wd wk : Int32} {F : Int} (k3 : 1 ≤ wk.toInt) (k4 : wk.toInt ≤ 5) (k5 : 0 ≤ wd.toInt) (k6 : wd.toInt ≤ 6) : (Int32.ofInt ((wd.toInt + 1 - ((F + 4) % 7 + 1)) % 7) + 7 * (wk - 1)).toInt = (wd.toInt + 1 - ((F + 4) % 7 + 1)) % 7 + 7 * (wk.toInt - 1) := by
  simp (disch := omega) only [Int32.toInt_sub, Int32.toInt_add, Int32.toInt_mul, tI, bs32, Int32.reduceToInt]
theorem rb_e {wd : Int32} {F : Int} (k5 : 0 ≤ wd.toInt) (k6 : wd.toInt ≤ 6) : ((wd + 1) - Int32.ofInt ((F + 4) % 7 + 1)).toInt = wd.toInt + 1 - ((F + 4) % 7 + 1) := by
  simp (disch := omega) only [Int32.toInt_sub, Int32.toInt_add, tI, bs32, Int32.reduceToInt]
theorem m7_e {v : Int32} {V : Int} (h : v.toInt = V) (b1 : 0 ≤ V) (b2 : V ≤ 100) : (v + -7).toInt = V - 7 := by
  rw [Int32.toInt_add, h]
  exact bs32 (by simp only [Int32.reduceToInt]; omega) (by simp only [Int32.reduceToInt]; omega)
theorem ra_b {mo wk wd y : Int} (k3 : 1 ≤ wk) (k4 : wk ≤ 5) : 0 ≤ ra mo wk wd y ∧ ra mo wk wd y ≤ 34 := by
  unfold ra
  omega
theorem dm_b {y m : Int} (h1 : 1970 ≤ y) (h2 : y ≤ 2299) (k1 : 1 ≤ m) (k2 : m ≤ 13) : 0 ≤ dt_m y m ∧ dt_m y m ≤ 120530 := by
  have q1 := dt_ge h1
  have q2 := dt_le (y := y + 1) (by omega)
  have m1 := dt_mm (y := y) (m := 1) (k := m) (by omega) k1 k2
  have m2 := dt_mm (y := y) (m := m) (k := 13) k1 k2 (by omega)
  rw [dt_11] at m1
  rw [dt_13] at m2
  omega
theorem fY_sec (h : rkS S a) (h1 : 1970 ≤ y.toInt) (h2 : y.toInt ≤ 2299) : F_Y_secondIn a y S = some (Int64.ofInt (rsS S a y.toInt)) := by
  unfold rkS at h
  unfold rsS
  have hd := h
  obtain ⟨k1, k2, k3, k4, k5, k6, k7, k8⟩ := h
  have db := dm_b (y := y.toInt) h1 h2 k1 (by omega)
  have hy := rd_y (y := y.toInt) hd
  have hra := ra_b (mo := (S.1 a 0).toInt) (wd := (S.1 a 2).toInt) (y := y.toInt) k3 k4
  have hnb := dt_nb (y := y.toInt) (m := (S.1 a 0).toInt)
  have e1 : (Int32.ofInt (dt_m y.toInt (S.1 a 0).toInt)).toInt = dt_m y.toInt (S.1 a 0).toInt := tI (by omega) (by omega)
  unfold F_Y_secondIn J_Y_secondIn_55
  rw [fD_first (by omega) (by omega) k1 k2]
  simp only [ob_]
  rw [fD_wd (by rw [e1]; omega) (by rw [e1]; omega), e1]
  simp only [ob_]
  have e2 := rb_e (F := dt_m y.toInt (S.1 a 0).toInt) k5 k6
  rw [fFM (by decide) (by rw [e2]; omega) (by rw [e2]; omega) (by decide), e2, fD_len (by omega) (by omega) k1 k2]
  simp only [ob_, jl_, Int32.reduceToInt]
  have e3 := ra_e (F := dt_m y.toInt (S.1 a 0).toInt) k3 k4 k5 k6
  clear e2
  generalize Int32.ofInt (((S.1 a 2).toInt + 1 - ((dt_m y.toInt (S.1 a 0).toInt + 4) % 7 + 1)) % 7) + 7 * (S.1 a 1 - 1) = v at *
  have e3 : v.toInt = ra (S.1 a 0).toInt (S.1 a 1).toInt (S.1 a 2).toInt y.toInt := e3
  have e7 : (Int32.ofInt (dt_n y.toInt (S.1 a 0).toInt)).toInt = dt_n y.toInt (S.1 a 0).toInt := tI (by omega) (by omega)
  have g1 := dt_ge h1
  have g2 := dt_le (y := y.toInt + 1) (by omega)
  unfold rs rd at *
  generalize ra (S.1 a 0).toInt (S.1 a 1).toInt (S.1 a 2).toInt y.toInt = V at *
  by_cases c : V < dt_n y.toInt (S.1 a 0).toInt
  · rw [if_pos (by rw [Int32.lt_iff_toInt_lt, e3, e7]; exact c)]
    rw [if_pos c] at hy ⊢
    exact congrArg some (sec_ar e1 e3 (by omega) (by omega) k7 k8)
  · rw [if_neg (by rw [Int32.lt_iff_toInt_lt, e3, e7]; exact c)]
    rw [if_neg c] at hy ⊢
    exact congrArg some (sec_ar e1 (m7_e e3 (by omega) (by omega)) (by omega) (by omega) k7 k8)
end JB1
