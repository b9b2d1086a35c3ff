section JA5
variable {d y m : Int32} {S : jS}
theorem fD_y0 (h1 : -400 ≤ d.toInt) (h2 : d.toInt ≤ 121000) : ∃ z, F_Math_floorDiv (d * 400) 146097 S = some z ∧ z.toInt = 400 * d.toInt / 146097 := by
  have e1 : (d * 400).toInt = 400 * d.toInt := by
    simp (disch := omega) only [Int32.toInt_mul, bs32, Int32.reduceToInt]
    omega
  have e2 : (146097 : Int32).toInt = 146097 := by simp only [Int32.reduceToInt]
  refine ⟨_, fFD (by rw [e2]; omega) (by rw [e1]; omega) (by rw [e1]; omega) (by rw [e2]; omega), ?_⟩
  rw [e1, e2]
  exact tI (by omega) (by omega)
theorem fD_year (h1 : -400 ≤ d.toInt) (h2 : d.toInt ≤ 121000) : F_D_yearOf d S = some (Int32.ofInt (dt_y d.toInt)) := by
  have hg : 1900 ≤ dt_g d.toInt ∧ dt_g d.toInt ≤ 2390 := by unfold dt_g; omega
  obtain ⟨z, hz1, hz2⟩ := fD_y0 (S := S) h1 h2
  have e3 : (1970 + z).toInt = dt_g d.toInt := by
    have hz3 : 1970 + z.toInt = dt_g d.toInt := by rw [hz2]; rfl
    rw [Int32.toInt_add, ← hz3]
    simp only [Int32.reduceToInt]
    exact bs32 (by omega) (by omega)
  have e4 : (1970 + z + 1).toInt = dt_g d.toInt + 1 := by
    rw [Int32.toInt_add, e3]
    exact bs32 (by simp only [Int32.reduceToInt]; omega) (by simp only [Int32.reduceToInt]; omega)
  unfold F_D_yearOf dt_y
  rw [hz1]
  simp only [ob_, jl_]
  generalize dt_g d.toInt = g at *
  rw [fD_first (by rw [e3]; omega) (by rw [e3]; omega) (by decide) (by decide), fD_first (by rw [e4]; omega) (by rw [e4]; omega) (by decide) (by decide), e3, e4]
  simp only [ob_, Int32.reduceToInt, dt_11]
  have b1 := dt_1b (y := g) (by omega) (by omega)
  have b2 := dt_1b (y := g + 1) (by omega) (by omega)
  have c1 : (Int32.ofInt (dt_1 g) ≤ d) ↔ dt_1 g ≤ d.toInt := by rw [Int32.le_iff_toInt_le, tI (by omega) (by omega)]
  have c2 : (d < Int32.ofInt (dt_1 (g + 1))) ↔ d.toInt < dt_1 (g + 1) := by rw [Int32.lt_iff_toInt_lt, tI (by omega) (by omega)]
  simp only [c1, c2]
  by_cases k1 : d.toInt < dt_1 g
  · rw [if_neg (by omega), if_pos k1]
    refine congrArg some (ofI ?_)
    rw [Int32.toInt_sub, e3]
    exact bs32 (by simp only [Int32.reduceToInt]; omega) (by simp only [Int32.reduceToInt]; omega)
  · rw [if_pos (by omega), if_neg k1]
    by_cases k2 : dt_1 (g + 1) ≤ d.toInt
    · rw [if_neg (by omega), if_pos k2]
      exact congrArg some (ofI e4)
    · rw [if_pos (by omega), if_neg k2]
      exact congrArg some (ofI e3)
/-- the reference's date, as it is kept -/
def dt_S (S : jS) (y m d : Int32) : jS := w_i (w_i (w_i S 215 4 y) 215 5 m) 215 6 d
theorem lM_d56 {n : Int} (h1 : 1900 ≤ y.toInt) (h2 : y.toInt ≤ 2390) (h3 : n < dt_1 (y.toInt + 1)) : ∀ (f : Nat) (x m : Int32), 1 ≤ m.toInt → m.toInt ≤ 12 → 12 - m.toInt < f → 0 ≤ x.toInt → x.toInt = n - dt_m y.toInt m.toInt → L_M_date_56 f x (w_i (w_i S 215 4 y) 215 5 m) = some (dt_S S y (Int32.ofInt (dt_o y.toInt n)) (Int32.ofInt (n - dt_m y.toInt (dt_o y.toInt n) + 1))) := by
  intro f
  induction f with
  | zero => intro x m q1 q2 q3; omega
  | succ f ih =>
    intro x m q1 q2 q3 q4 q5
    have r4 : (w_i (w_i S 215 4 y) 215 5 m).1 215 4 = y := by simp [w_ir]
    have r5 : (w_i (w_i S 215 4 y) 215 5 m).1 215 5 = m := by simp [w_ir]
    have hs := dt_s (y := y.toInt) q1 q2
    have hb := dt_nb (y := y.toInt) (m := m.toInt)
    have h13 := dt_13 y.toInt
    have hx : x.toInt ≤ 400 := by
      have := dt_mm (y := y.toInt) (m := 1) (k := m.toInt) (by omega) q1 (by omega)
      rw [dt_11] at this
      have := dt_1s y.toInt
      have := dt_lb y.toInt
      omega
    rw [L_M_date_56, r4, r5, fM_len h1 (by omega) q1 q2]
    simp only [ob_, jl_]
    have c1 : (x < Int32.ofInt (dt_n y.toInt m.toInt)) ↔ x.toInt < dt_n y.toInt m.toInt := by rw [Int32.lt_iff_toInt_lt, tI (by omega) (by omega)]
    by_cases k : x.toInt < dt_n y.toInt m.toInt
    · rw [if_pos (c1.mpr k)]
      have ho := dt_ou (y := y.toInt) (d := n) q1 q2 (by omega) (by omega)
      rw [ho]
      unfold dt_S
      congr 3
      · exact ofI rfl
      · refine ofI ?_
        rw [Int32.toInt_add, q5]
        exact bs32 (by simp only [Int32.reduceToInt]; omega) (by simp only [Int32.reduceToInt]; omega)
    · rw [if_neg (fun q => k (c1.mp q)), w_ii]
      have e1 : (m + 1).toInt = m.toInt + 1 := by simp (disch := omega) only [Int32.toInt_add, bs32, Int32.reduceToInt]
      have k12 : m.toInt < 12 := by
        by_cases c : m.toInt = 12
        · rw [c] at hs q5 k
          have : (12 : Int) + 1 = 13 := rfl
          rw [this, h13] at hs
          omega
        · omega
      refine ih _ _ (by omega) (by omega) (by omega) ?_ ?_
      · rw [Int32.toInt_sub, tI (by omega) (by omega), bs32 (by omega) (by omega)]
        omega
      · rw [Int32.toInt_sub, tI (by omega) (by omega), bs32 (by omega) (by omega), e1, hs]
        omega
theorem lM_d15 (h1 : -366 ≤ d.toInt) (h2 : d.toInt < 120895) : ∀ (f : Nat) (y : Int32), y.toInt - 1968 < f → 1968 ≤ y.toInt → y.toInt ≤ 2380 → d.toInt < dt_1 (y.toInt + 1) → L_M_date_15 f d (w_i S 215 4 y) = some (dt_S S (Int32.ofInt (dt_y d.toInt)) (Int32.ofInt (dt_o (dt_y d.toInt) d.toInt)) (Int32.ofInt (d.toInt - dt_m (dt_y d.toInt) (dt_o (dt_y d.toInt) d.toInt) + 1))) := by
  intro f
  induction f with
  | zero => intro y q1; omega
  | succ f ih =>
    intro y q1 q2 q3 q4
    have r4 : (w_i S 215 4 y).1 215 4 = y := by simp [w_ir]
    have b1 := dt_1b (y := y.toInt) (by omega) (by omega)
    rw [L_M_date_15, r4, fM_num (by omega) (by omega) (by decide) (by decide)]
    simp only [ob_, jl_, Int32.reduceToInt, dt_11]
    have c1 : (Int32.ofInt (dt_1 y.toInt) ≤ d) ↔ dt_1 y.toInt ≤ d.toInt := by rw [Int32.le_iff_toInt_le, tI (by omega) (by omega)]
    by_cases k : dt_1 y.toInt ≤ d.toInt
    · rw [if_pos (c1.mpr k)]
      have hy := dt_yu k q4
      have e1 : (d - Int32.ofInt (dt_1 y.toInt)).toInt = d.toInt - dt_1 y.toInt := by
        rw [Int32.toInt_sub, tI (by omega) (by omega)]
        exact bs32 (by omega) (by omega)
      rw [lM_d56 (n := d.toInt) (by omega) (by omega) q4 ju_ _ 1 (by decide) (by decide) (by decide) (by rw [e1]; omega) (by rw [e1]; simp only [Int32.reduceToInt, dt_11]), hy]
      rw [show Int32.ofInt y.toInt = y from Int32.ofInt_toInt y]
    · rw [if_neg (fun q => k (c1.mp q)), w_ii]
      have e1 : (y - 1).toInt = y.toInt - 1 := by simp (disch := omega) only [Int32.toInt_sub, bs32, Int32.reduceToInt]
      have k68 : 1968 < y.toInt := by
        by_cases c : y.toInt = 1968
        · rw [c] at k
          have : dt_1 1968 = -731 := by decide
          omega
        · omega
      exact ih _ (by omega) (by omega) (by omega) (by rw [e1, Int.sub_add_cancel]; omega)
theorem fM_date (h1 : -366 ≤ d.toInt) (h2 : d.toInt < 120895) : F_M_date d S = some (dt_S S (Int32.ofInt (dt_y d.toInt)) (Int32.ofInt (dt_o (dt_y d.toInt) d.toInt)) (Int32.ofInt (d.toInt - dt_m (dt_y d.toInt) (dt_o (dt_y d.toInt) d.toInt) + 1))) := by
  unfold F_M_date
  rw [fFD (by decide) (by omega) (by omega) (by decide)]
  simp only [ob_, jl_, Int32.reduceToInt]
  have e1 : (1970 + Int32.ofInt (d.toInt / 365)).toInt = 1970 + d.toInt / 365 := by
    rw [Int32.toInt_add, tI (by omega) (by omega)]
    exact bs32 (by simp only [Int32.reduceToInt]; omega) (by simp only [Int32.reduceToInt]; omega)
  refine lM_d15 h1 h2 ju_ _ (by rw [e1]; show _ < ((1000000 : Nat) : Int); omega) (by rw [e1]; omega) (by rw [e1]; omega) ?_
  rw [e1]
  unfold dt_1
  omega
end JA5
