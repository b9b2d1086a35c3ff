section JA1
/-! the calendar -/
def dt_l (y : Int) : Int := if y % 4 = 0 ∧ (¬ y % 100 = 0 ∨ y % 400 = 0) then 1 else 0
def dt_1 (y : Int) : Int := 365 * (y - 1970) + (y - 1) / 4 - (y - 1) / 100 + (y - 1) / 400 - 477
def dt_m (y m : Int) : Int := dt_1 y + (367 * m - 362) / 12 + (if m ≤ 2 then 0 else dt_l y - 2)
def dt_n (y m : Int) : Int := if m = 2 then 28 + dt_l y else if m = 4 ∨ m = 6 ∨ m = 9 ∨ m = 11 then 30 else 31
theorem dt_lb (y : Int) : 0 ≤ dt_l y ∧ dt_l y ≤ 1 := by
  unfold dt_l
  split <;> omega
theorem dt_s {y m : Int} (h1 : 1 ≤ m) (h2 : m ≤ 12) : dt_m y (m + 1) = dt_m y m + dt_n y m := by
  have : m = 1 ∨ m = 2 ∨ m = 3 ∨ m = 4 ∨ m = 5 ∨ m = 6 ∨ m = 7 ∨ m = 8 ∨ m = 9 ∨ m = 10 ∨ m = 11 ∨ m = 12 := by omega
  unfold dt_m dt_n
  rcases this with rfl | rfl | rfl | rfl | rfl | rfl | rfl | rfl | rfl | rfl | rfl | rfl <;> simp <;> omega
theorem dt_1s (y : Int) : dt_1 (y + 1) = dt_1 y + 365 + dt_l y := by
  unfold dt_1 dt_l
  split <;> omega
theorem dt_13 (y : Int) : dt_m y 13 = dt_1 (y + 1) := by
  rw [dt_1s]
  unfold dt_m
  simp
  omega
theorem dt_11 (y : Int) : dt_m y 1 = dt_1 y := by
  unfold dt_m
  simp
theorem dt_nb {y m : Int} : 28 ≤ dt_n y m ∧ dt_n y m ≤ 31 := by
  have := dt_lb y
  unfold dt_n
  split
  · omega
  · split <;> omega
theorem dt_mm {y m k : Int} (h1 : 1 ≤ m) (h2 : m ≤ k) (h3 : k ≤ 13) : dt_m y m ≤ dt_m y k := by
  have hb := dt_lb y
  unfold dt_m
  split <;> split <;> omega
theorem dt_mo {x y : Int} (h : x < y) : dt_1 x + 365 ≤ dt_1 y := by
  unfold dt_1
  omega
theorem lv4 {y : Int32} (h1 : 1900 ≤ y.toInt) (h2 : y.toInt ≤ 2400) : (y - y / 4 * 4 = 0) ↔ y.toInt % 4 = 0 := by
  rw [eqI]
  simp (disch := omega) only [Int32.toInt_add, Int32.toInt_sub, Int32.toInt_mul, Int32.toInt_div, bs32, td_, Int32.reduceToInt]
  omega
theorem lv100 {y : Int32} (h1 : 1900 ≤ y.toInt) (h2 : y.toInt ≤ 2400) : (y - y / 100 * 100 = 0) ↔ y.toInt % 100 = 0 := by
  rw [eqI]
  simp (disch := omega) only [Int32.toInt_add, Int32.toInt_sub, Int32.toInt_mul, Int32.toInt_div, bs32, td_, Int32.reduceToInt]
  omega
theorem lv400 {y : Int32} (h1 : 1900 ≤ y.toInt) (h2 : y.toInt ≤ 2400) : (y - y / 400 * 400 = 0) ↔ y.toInt % 400 = 0 := by
  rw [eqI]
  simp (disch := omega) only [Int32.toInt_add, Int32.toInt_sub, Int32.toInt_mul, Int32.toInt_div, bs32, td_, Int32.reduceToInt]
  omega
theorem mI (m : Int32) (h1 : 1 ≤ m.toInt) (h2 : m.toInt ≤ 13) : m = 1 ∨ m = 2 ∨ m = 3 ∨ m = 4 ∨ m = 5 ∨ m = 6 ∨ m = 7 ∨ m = 8 ∨ m = 9 ∨ m = 10 ∨ m = 11 ∨ m = 12 ∨ m = 13 := by
  simp only [eqI, Int32.reduceToInt]
  omega
variable {y m : Int32} {S : jS}
theorem fM_leap (h1 : 1900 ≤ y.toInt) (h2 : y.toInt ≤ 2400) : F_M_leap y S = some (Int32.ofInt (dt_l y.toInt)) := by
  unfold F_M_leap J_M_leap_13 dt_l
  simp only [lv4 h1 h2, lv100 h1 h2, lv400 h1 h2]
  by_cases a : y.toInt % 4 = 0 <;> by_cases b : y.toInt % 100 = 0 <;> by_cases c : y.toInt % 400 = 0 <;> simp [a, b, c] <;> first | rfl | omega
theorem fM_len (h1 : 1900 ≤ y.toInt) (h2 : y.toInt ≤ 2400) (h3 : 1 ≤ m.toInt) (h4 : m.toInt ≤ 12) : F_M_length y m S = some (Int32.ofInt (dt_n y.toInt m.toInt)) := by
  have hb := dt_lb y.toInt
  have hz : Int32.ofInt (dt_l y.toInt) = 0 ↔ dt_l y.toInt = 0 := by
    rw [eqI, tI (by omega) (by omega)]
    rfl
  unfold F_M_length dt_n
  rw [fM_leap h1 h2]
  simp only [ob_, hz, eqI, Int32.reduceToInt]
  have : m.toInt = 1 ∨ m.toInt = 2 ∨ m.toInt = 3 ∨ m.toInt = 4 ∨ m.toInt = 5 ∨ m.toInt = 6 ∨ m.toInt = 7 ∨ m.toInt = 8 ∨ m.toInt = 9 ∨ m.toInt = 10 ∨ m.toInt = 11 ∨ m.toInt = 12 := by omega
  rcases this with h | h | h | h | h | h | h | h | h | h | h | h <;> rw [h] <;> simp <;> try rfl
  by_cases e : dt_l y.toInt = 0
  · simp [e]
  · have : dt_l y.toInt = 1 := by omega
    simp [this]; decide
theorem fD_len (h1 : 1900 ≤ y.toInt) (h2 : y.toInt ≤ 2400) (h3 : 1 ≤ m.toInt) (h4 : m.toInt ≤ 12) : F_D_monthLength y m S = some (Int32.ofInt (dt_n y.toInt m.toInt)) := by
  unfold F_D_monthLength J_D_monthLength_26 J_D_monthLength_30 J_D_monthLength_31 J_D_monthLength_67 J_D_monthLength_72 dt_n dt_l
  simp only [lv4 h1 h2, lv100 h1 h2, lv400 h1 h2]
  simp only [eqI, Int32.reduceToInt]
  have : m.toInt = 1 ∨ m.toInt = 2 ∨ m.toInt = 3 ∨ m.toInt = 4 ∨ m.toInt = 5 ∨ m.toInt = 6 ∨ m.toInt = 7 ∨ m.toInt = 8 ∨ m.toInt = 9 ∨ m.toInt = 10 ∨ m.toInt = 11 ∨ m.toInt = 12 := by omega
  rcases this with h | h | h | h | h | h | h | h | h | h | h | h <;> rw [h] <;> simp <;> try rfl
  by_cases a : y.toInt % 4 = 0 <;> by_cases b : y.toInt % 100 = 0 <;> by_cases c : y.toInt % 400 = 0 <;> simp [a, b, c] <;> rfl
theorem fD_first (h1 : 1900 ≤ y.toInt) (h2 : y.toInt ≤ 2400) (h3 : 1 ≤ m.toInt) (h4 : m.toInt ≤ 12) : F_D_firstOfMonth y m S = some (Int32.ofInt (dt_m y.toInt m.toInt)) := by
  unfold F_D_firstOfMonth J_D_firstOfMonth_12 J_D_firstOfMonth_28 j_l
  by_cases c : m ≤ 2
  · have c' := Int32.le_iff_toInt_le.mp c
    simp only [Int32.reduceToInt] at c'
    rw [if_pos c, if_pos c]
    refine congrArg some (ofI ?_)
    simp (disch := omega) only [Int32.toInt_add, Int32.toInt_sub, Int32.toInt_mul, Int32.toInt_div, bs32, td_, Int32.reduceToInt]
    unfold dt_m dt_1
    rw [if_pos c']
    have : m.toInt = 1 ∨ m.toInt = 2 := by omega
    rcases this with h | h <;> rw [h] <;> omega
  · have c' : ¬ m.toInt ≤ 2 := fun q => c (Int32.le_iff_toInt_le.mpr q)
    rw [if_neg c, if_neg c]
    refine congrArg some (ofI ?_)
    simp (disch := omega) only [Int32.toInt_add, Int32.toInt_sub, Int32.toInt_mul, Int32.toInt_div, bs32, td_, Int32.reduceToInt]
    unfold dt_m dt_1 dt_l
    rw [if_neg c']
    have : m.toInt = 3 ∨ m.toInt = 4 ∨ m.toInt = 5 ∨ m.toInt = 6 ∨ m.toInt = 7 ∨ m.toInt = 8 ∨ m.toInt = 9 ∨ m.toInt = 10 ∨ m.toInt = 11 ∨ m.toInt = 12 := by omega
    split <;> rcases this with h | h | h | h | h | h | h | h | h | h <;> rw [h] <;> omega
theorem lM_num (h1 : 1900 ≤ y.toInt) (h2 : y.toInt ≤ 2400) (h3 : 1 ≤ m.toInt) (h4 : m.toInt ≤ 13) : ∀ (f : Nat) (x3 x4 : Int32), 1 ≤ x4.toInt → x4.toInt ≤ m.toInt → m.toInt - x4.toInt < f → -1000000 ≤ x3.toInt - dt_m y.toInt x4.toInt + dt_1 y.toInt → x3.toInt - dt_m y.toInt x4.toInt + dt_1 y.toInt ≤ 1000000 → L_M_number_36 S f y m x3 x4 = some (Int32.ofInt (x3.toInt + (dt_m y.toInt m.toInt - dt_m y.toInt x4.toInt))) := by
  intro f
  induction f with
  | zero => intro x3 x4 q1 q2 q3; omega
  | succ f ih =>
    intro x3 x4 q1 q2 q3 q4 q5
    rw [L_M_number_36]
    by_cases c : m ≤ x4
    · have c' := Int32.le_iff_toInt_le.mp c
      rw [if_pos c, show m.toInt = x4.toInt by omega]
      exact congrArg some (ofI (by omega))
    · have c' : ¬ m.toInt ≤ x4.toInt := fun q => c (Int32.le_iff_toInt_le.mpr q)
      have hs := dt_s (y := y.toInt) q1 (by omega)
      have hb := dt_nb (y := y.toInt) (m := x4.toInt)
      have hm1 := dt_mm (y := y.toInt) (m := 1) (k := x4.toInt) (by omega) q1 (by omega)
      have hm2 := dt_mm (y := y.toInt) (m := x4.toInt) (k := 13) (by omega) (by omega) (by omega)
      rw [dt_11] at hm1
      rw [dt_13, dt_1s] at hm2
      have hlb := dt_lb y.toInt
      rw [if_neg c, fM_len h1 h2 q1 (by omega)]
      simp only [ob_, jl_]
      have e1 : (x4 + 1).toInt = x4.toInt + 1 := by simp (disch := omega) only [Int32.toInt_add, bs32, Int32.reduceToInt]
      have e2 : (x3 + Int32.ofInt (dt_n y.toInt x4.toInt)).toInt = x3.toInt + dt_n y.toInt x4.toInt := by
        rw [Int32.toInt_add, tI (by omega) (by omega)]
        exact bs32 (by omega) (by omega)
      rw [ih _ _ (by omega) (by omega) (by omega) (by rw [e1, e2, hs]; omega) (by rw [e1, e2, hs]; omega), e1, e2, hs]
      congr 2
      omega
theorem fM_num (h1 : 1900 ≤ y.toInt) (h2 : y.toInt ≤ 2400) (h3 : 1 ≤ m.toInt) (h4 : m.toInt ≤ 13) : F_M_number y m S = some (Int32.ofInt (dt_m y.toInt m.toInt)) := by
  unfold F_M_number
  simp only [jl_]
  have e : (((365 * (y - 1970) + (y - 1) / 4) - (y - 1) / 100) + (y - 1) / 400 - 477).toInt = dt_1 y.toInt := by
    simp (disch := omega) only [Int32.toInt_add, Int32.toInt_sub, Int32.toInt_mul, Int32.toInt_div, bs32, td_, Int32.reduceToInt]
    unfold dt_1
    omega
  have e1 : (1 : Int32).toInt = 1 := rfl
  have hb : -200000 ≤ dt_1 y.toInt ∧ dt_1 y.toInt ≤ 200000 := by unfold dt_1; omega
  rw [lM_num h1 h2 h3 h4 ju_ _ 1 (by rw [e1]; omega) (by rw [e1]; omega) (by rw [e1]; show _ < ((1000000 : Nat) : Int); omega) (by rw [e, e1, dt_11]; omega) (by rw [e, e1, dt_11]; omega), e, e1, dt_11]
  congr 2
  omega
end JA1
section JA3
def dt_g (d : Int) : Int := 1970 + 400 * d / 146097
def dt_y (d : Int) : Int := if d < dt_1 (dt_g d) then dt_g d - 1 else if dt_1 (dt_g d + 1) ≤ d then dt_g d + 1 else dt_g d
theorem dt_ga (d : Int) : dt_1 (dt_g d - 1) ≤ d := by
  unfold dt_1 dt_g
  omega
theorem dt_gb (d : Int) : d < dt_1 (dt_g d + 2) := by
  unfold dt_1 dt_g
  omega
theorem dt_ya (d : Int) : dt_1 (dt_y d) ≤ d := by
  have h1 := dt_ga d
  unfold dt_y
  split
  · exact h1
  · split <;> omega
theorem dt_yb (d : Int) : d < dt_1 (dt_y d + 1) := by
  have h1 := dt_gb d
  unfold dt_y
  split
  · rw [Int.sub_add_cancel]; assumption
  · split
    · rw [Int.add_assoc]; exact h1
    · omega
theorem dt_yu {d y : Int} (h1 : dt_1 y ≤ d) (h2 : d < dt_1 (y + 1)) : dt_y d = y := by
  have a := dt_ya d
  have b := dt_yb d
  by_cases c : dt_y d < y
  · have := dt_mo (x := dt_y d + 1) (y := y + 1) (by omega)
    by_cases e : dt_y d + 1 = y
    · rw [e] at b; omega
    · have := dt_mo (x := dt_y d + 1) (y := y) (by omega); omega
  · by_cases c2 : y < dt_y d
    · by_cases e : y + 1 = dt_y d
      · rw [e] at h2; omega
      · have := dt_mo (x := y + 1) (y := dt_y d) (by omega); omega
    · omega
theorem dt_yr {d : Int} (h1 : -366 ≤ d) (h2 : d < 120895) : 1968 ≤ dt_y d ∧ dt_y d ≤ 2300 := by
  have a := dt_ya d
  have b := dt_yb d
  constructor
  · by_cases c : dt_y d + 1 < 1969
    · have := dt_mo c
      have e : dt_1 1969 = -365 := by decide
      omega
    · omega
  · by_cases c : 2301 ≤ dt_y d
    · have e : dt_1 2301 = 120895 := by decide
      by_cases c2 : dt_y d = 2301
      · rw [c2] at a; omega
      · have := dt_mo (x := 2301) (y := dt_y d) (by omega); omega
    · omega
def dt_h (y d : Int) : Int := (d - dt_1 y) / 31 + 1
/-- the month of a day in its year -/
def dt_o (y d : Int) : Int := if dt_h y d < 12 ∧ dt_m y (dt_h y d + 1) ≤ d then dt_h y d + 1 else dt_h y d
theorem dt_ob {y d : Int} (h1 : dt_1 y ≤ d) (h2 : d < dt_1 (y + 1)) : 1 ≤ dt_o y d ∧ dt_o y d ≤ 12 ∧ dt_m y (dt_o y d) ≤ d ∧ d < dt_m y (dt_o y d + 1) := by
  rw [dt_1s] at h2
  have hb := dt_lb y
  have hg : 1 ≤ dt_h y d ∧ dt_h y d ≤ 12 := by unfold dt_h; omega
  have hx : d = dt_1 y + (d - dt_1 y) := by omega
  have hh : dt_h y d = (d - dt_1 y) / 31 + 1 := rfl
  unfold dt_o
  generalize dt_h y d = g at *
  have : g = 1 ∨ g = 2 ∨ g = 3 ∨ g = 4 ∨ g = 5 ∨ g = 6 ∨ g = 7 ∨ g = 8 ∨ g = 9 ∨ g = 10 ∨ g = 11 ∨ g = 12 := by omega
  unfold dt_m
  rcases this with rfl | rfl | rfl | rfl | rfl | rfl | rfl | rfl | rfl | rfl | rfl | rfl <;> simp <;> first | (split <;> simp <;> omega) | omega
theorem dt_ou {y d m : Int} (h1 : 1 ≤ m) (h2 : m ≤ 12) (h3 : dt_m y m ≤ d) (h4 : d < dt_m y (m + 1)) : dt_o y d = m := by
  have g1 : dt_1 y ≤ d := by
    have := dt_mm (y := y) (m := 1) (k := m) (by omega) h1 (by omega)
    rw [dt_11] at this; omega
  have g2 : d < dt_1 (y + 1) := by
    have := dt_mm (y := y) (m := m + 1) (k := 13) (by omega) (by omega) (by omega)
    rw [dt_13] at this; omega
  obtain ⟨a1, a2, a3, a4⟩ := dt_ob g1 g2
  by_cases c : dt_o y d < m
  · have := dt_mm (y := y) (m := dt_o y d + 1) (k := m) (by omega) (by omega) (by omega); omega
  · by_cases c2 : m < dt_o y d
    · have := dt_mm (y := y) (m := m + 1) (k := dt_o y d) (by omega) (by omega) (by omega); omega
    · omega
theorem dt_1b {y : Int} (h1 : 1900 ≤ y) (h2 : y ≤ 2400) : -200000 ≤ dt_1 y ∧ dt_1 y ≤ 200000 := by
  unfold dt_1
  omega
end JA3
