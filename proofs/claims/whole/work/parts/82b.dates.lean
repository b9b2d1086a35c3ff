section JA4
variable {d y m : Int32} {S : jS}
theorem fD_month (h1 : 1900 ≤ y.toInt) (h2 : y.toInt ≤ 2390) (h3 : dt_1 y.toInt ≤ d.toInt) (h4 : d.toInt < dt_1 (y.toInt + 1)) : F_D_monthOf d y S = some (Int32.ofInt (dt_o y.toInt d.toInt)) := by
  have hb1 : -200000 ≤ dt_1 y.toInt ∧ dt_1 y.toInt ≤ 200000 := by unfold dt_1; omega
  have hlb := dt_lb y.toInt
  have h5 := h4
  rw [dt_1s] at h5
  unfold F_D_monthOf
  rw [fD_first h1 (by omega) (by decide) (by decide)]
  simp only [ob_, jl_, Int32.reduceToInt, dt_11]
  have hg : 1 ≤ dt_h y.toInt d.toInt ∧ dt_h y.toInt d.toInt ≤ 12 := by unfold dt_h; omega
  have e1 : ((d - Int32.ofInt (dt_1 y.toInt)) / 31 + 1).toInt = dt_h y.toInt d.toInt := by
    have q : (d - Int32.ofInt (dt_1 y.toInt)).toInt = d.toInt - dt_1 y.toInt := by
      rw [Int32.toInt_sub, tI (by omega) (by omega)]
      exact bs32 (by omega) (by omega)
    rw [Int32.toInt_add, Int32.toInt_div, q]
    simp (disch := omega) only [td_, bs32, Int32.reduceToInt]
    rfl
  have e2 : ((d - Int32.ofInt (dt_1 y.toInt)) / 31 + 1 + 1).toInt = dt_h y.toInt d.toInt + 1 := by
    rw [Int32.toInt_add, e1]
    exact bs32 (by simp only [Int32.reduceToInt]; omega) (by simp only [Int32.reduceToInt]; omega)
  have c1 : (12 ≤ (d - Int32.ofInt (dt_1 y.toInt)) / 31 + 1) ↔ 12 ≤ dt_h y.toInt d.toInt := by
    rw [Int32.le_iff_toInt_le, e1]
    rfl
  simp only [c1]
  unfold dt_o
  by_cases k1 : 12 ≤ dt_h y.toInt d.toInt
  · rw [if_pos k1, if_neg (by omega)]
    exact congrArg some (ofI e1)
  · rw [if_neg k1, fD_first h1 (by omega) (by rw [e2]; omega) (by rw [e2]; omega), e2]
    simp only [ob_]
    have hb2 : -300000 ≤ dt_m y.toInt (dt_h y.toInt d.toInt + 1) ∧ dt_m y.toInt (dt_h y.toInt d.toInt + 1) ≤ 300000 := by
      unfold dt_m
      split <;> omega
    have c2 : (d < Int32.ofInt (dt_m y.toInt (dt_h y.toInt d.toInt + 1))) ↔ d.toInt < dt_m y.toInt (dt_h y.toInt d.toInt + 1) := by rw [Int32.lt_iff_toInt_lt, tI (by omega) (by omega)]
    simp only [c2]
    by_cases k2 : d.toInt < dt_m y.toInt (dt_h y.toInt d.toInt + 1)
    · rw [if_pos k2, if_neg (by omega)]
      exact congrArg some (ofI e1)
    · rw [if_neg k2, if_pos (by omega)]
      exact congrArg some (ofI e2)
theorem fD_wd (h1 : -4 ≤ d.toInt) (h2 : d.toInt ≤ 1000000) : F_D_weekdayOf d S = some (Int32.ofInt ((d.toInt + 4) % 7 + 1)) := by
  unfold F_D_weekdayOf
  refine congrArg some (ofI ?_)
  simp (disch := omega) only [Int32.toInt_add, Int32.toInt_sub, Int32.toInt_mul, Int32.toInt_div, bs32, td_, Int32.reduceToInt]
  omega
theorem fM_wd (h1 : -4 ≤ d.toInt) (h2 : d.toInt ≤ 1000000) : F_M_weekday d S = some (Int32.ofInt ((d.toInt + 4) % 7 + 1)) := by
  have e : (d + 4).toInt = d.toInt + 4 := by simp (disch := omega) only [Int32.toInt_add, bs32, Int32.reduceToInt]
  unfold F_M_weekday
  rw [fFM (by decide) (by rw [e]; omega) (by rw [e]; omega) (by decide), e]
  simp only [ob_, Int32.reduceToInt]
  refine congrArg some (ofI ?_)
  rw [Int32.toInt_add, tI (by omega) (by omega)]
  exact bs32 (by simp only [Int32.reduceToInt]; omega) (by simp only [Int32.reduceToInt]; omega)
theorem fD_day {t : Int64} (h1 : -1000000000000 ≤ t.toInt) (h2 : t.toInt ≤ 1000000000000) : F_D_dayOf t S = some (Int32.ofInt (t.toInt / 86400)) := by
  unfold F_D_dayOf
  rw [fFD2 (by decide) (by omega) (by omega) (by decide)]
  simp only [ob_, Int64.reduceToInt]
  refine congrArg some (ofI ?_)
  rw [Int64.toInt_toInt32, tL (by omega) (by omega)]
  exact bs32 (by omega) (by omega)
end JA4
