section JB2
def lat (f : Int → Int) (x r : Int) : Prop := (r = -1152921504606846976 ∧ ∀ y, 1970 ≤ y → y ≤ 2299 → x < f y) ∨ (∃ y, 1970 ≤ y ∧ y ≤ 2299 ∧ r = f y ∧ f y ≤ x ∧ ∀ z, 1970 ≤ z → z ≤ 2299 → f z ≤ x → f z ≤ f y)
def fst_ (f : Int → Int) (x r : Int) : Prop := (r = 1152921504606846976 ∧ ∀ y, 1970 ≤ y → y ≤ 2299 → f y ≤ x) ∨ (∃ y, 1970 ≤ y ∧ y ≤ 2299 ∧ r = f y ∧ x < f y ∧ ∀ z, 1970 ≤ z → z ≤ 2299 → x < f z → f y ≤ f z)
def y99 (l : Int) : Int := if 2299 < l then 2299 else l
def y70 (l : Int) : Int := if l < 1970 then 1970 else l
def latv (f : Int → Int) (x l : Int) : Int := if y99 l < 1970 then -1152921504606846976 else if f (y99 l) ≤ x then f (y99 l) else if 1970 ≤ y99 l - 1 then f (y99 l - 1) else -1152921504606846976
def fstv (f : Int → Int) (x l : Int) : Int := if 2299 < y70 l then 1152921504606846976 else if x < f (y70 l) then f (y70 l) else if y70 l + 1 ≤ 2299 then f (y70 l + 1) else 1152921504606846976
theorem lat_v {f : Int → Int} {x l : Int} (mo : ∀ y z, y < z → f y < f z) (lo : ∀ y, y < l → f y ≤ x) (hi : ∀ y, l < y → x < f y) : lat f x (latv f x l) := by
  have le : ∀ y z, y ≤ z → f y ≤ f z := fun y z h => by
    by_cases e : y = z
    · rw [e]; exact Int.le_refl _
    · exact Int.le_of_lt (mo y z (by omega))
  have hy : y99 l ≤ 2299 ∧ y99 l ≤ l ∧ (y99 l = l ∨ y99 l = 2299) := by unfold y99; split <;> omega
  unfold latv
  split
  · refine Or.inl ⟨rfl, fun y h1 h2 => ?_⟩
    exact hi y (by omega)
  · split
    next c1 c2 =>
      refine Or.inr ⟨y99 l, by omega, by omega, rfl, c2, fun z h1 h2 h3 => ?_⟩
      by_cases e : z ≤ y99 l
      · exact le _ _ e
      · have := hi z (by omega)
        omega
    next c1 c2 =>
      split
      next c3 =>
        refine Or.inr ⟨y99 l - 1, by omega, by omega, rfl, lo _ (by omega), fun z h1 h2 h3 => ?_⟩
        by_cases e : z ≤ y99 l - 1
        · exact le _ _ e
        · have := le (y99 l) z (by omega)
          omega
      next c3 =>
        refine Or.inl ⟨rfl, fun y h1 h2 => ?_⟩
        have := le (y99 l) y (by omega)
        omega
theorem fst_v {f : Int → Int} {x l : Int} (mo : ∀ y z, y < z → f y < f z) (lo : ∀ y, y < l → f y ≤ x) (hi : ∀ y, l < y → x < f y) : fst_ f x (fstv f x l) := by
  have le : ∀ y z, y ≤ z → f y ≤ f z := fun y z h => by
    by_cases e : y = z
    · rw [e]; exact Int.le_refl _
    · exact Int.le_of_lt (mo y z (by omega))
  have hy : 1970 ≤ y70 l ∧ l ≤ y70 l ∧ (y70 l = l ∨ y70 l = 1970) := by unfold y70; split <;> omega
  unfold fstv
  split
  · refine Or.inl ⟨rfl, fun y h1 h2 => ?_⟩
    exact lo y (by omega)
  · split
    next c1 c2 =>
      refine Or.inr ⟨y70 l, by omega, by omega, rfl, c2, fun z h1 h2 h3 => ?_⟩
      by_cases e : y70 l ≤ z
      · exact le _ _ e
      · have := lo z (by omega)
        omega
    next c1 c2 =>
      split
      next c3 =>
        refine Or.inr ⟨y70 l + 1, by omega, by omega, rfl, hi _ (by omega), fun z h1 h2 h3 => ?_⟩
        by_cases e : y70 l + 1 ≤ z
        · exact le _ _ e
        · have := le z (y70 l) (by omega)
          omega
      next c3 =>
        refine Or.inl ⟨rfl, fun y h1 h2 => ?_⟩
        have := le y (y70 l) (by omega)
        omega
variable {a : Nat} {S : jS}
theorem fmin {x y : Int32} : F_Math_min x y S = some (Int32.ofInt (if y.toInt < x.toInt then y.toInt else x.toInt)) := by
  unfold F_Math_min
  by_cases c : y.toInt < x.toInt
  · rw [if_pos (Int32.lt_iff_toInt_lt.mpr c), if_pos c, Int32.ofInt_toInt]
  · rw [if_neg (fun q => c (Int32.lt_iff_toInt_lt.mp q)), if_neg c, Int32.ofInt_toInt]
theorem fmax {x y : Int32} : F_Math_max x y S = some (Int32.ofInt (if x.toInt < y.toInt then y.toInt else x.toInt)) := by
  unfold F_Math_max
  by_cases c : x.toInt < y.toInt
  · rw [if_pos (Int32.lt_iff_toInt_lt.mpr c), if_pos c, Int32.ofInt_toInt]
  · rw [if_neg (fun q => c (Int32.lt_iff_toInt_lt.mp q)), if_neg c, Int32.ofInt_toInt]
theorem fmin2 {x y : Int64} : F_Math_min2 x y S = some (Int64.ofInt (if y.toInt < x.toInt then y.toInt else x.toInt)) := by
  unfold F_Math_min2
  by_cases c : y.toInt < x.toInt
  · rw [if_pos (Int64.lt_iff_toInt_lt.mpr c), if_pos c, Int64.ofInt_toInt]
  · rw [if_neg (fun q => c (Int64.lt_iff_toInt_lt.mp q)), if_neg c, Int64.ofInt_toInt]
theorem fmax2 {x y : Int64} : F_Math_max2 x y S = some (Int64.ofInt (if x.toInt < y.toInt then y.toInt else x.toInt)) := by
  unfold F_Math_max2
  by_cases c : x.toInt < y.toInt
  · rw [if_pos (Int64.lt_iff_toInt_lt.mpr c), if_pos c, Int64.ofInt_toInt]
  · rw [if_neg (fun q => c (Int64.lt_iff_toInt_lt.mp q)), if_neg c, Int64.ofInt_toInt]
theorem rsS_b (h : rkS S a) {y : Int} (h1 : 1970 ≤ y) (h2 : y ≤ 2299) : 0 ≤ rsS S a y ∧ rsS S a y < 10413792000 := rs_b h h1 h2
theorem so_e {off : Int32} {R : Int} (b1 : 0 ≤ R) (b2 : R < 10413792000) (o1 : -100000 ≤ off.toInt) (o2 : off.toInt ≤ 100000) : (Int64.ofInt R - off.toInt64).toInt = R - off.toInt := by
  rw [Int64.toInt_sub, tL (by omega) (by omega), Int32.toInt_toInt64]
  exact bs64 (by omega) (by omega)
theorem jY_lat {off y : Int32} (h : rkS S a) (o1 : -100000 ≤ off.toInt) (o2 : off.toInt ≤ 100000) (h2 : y.toInt ≤ 2299) : J_Y_latestUpTo_35 S a off y = some (Int64.ofInt (if 1970 ≤ y.toInt then rsS S a y.toInt - off.toInt else -1152921504606846976)) := by
  unfold J_Y_latestUpTo_35
  by_cases c : 1970 ≤ y.toInt
  · have hb := rsS_b h c h2
    rw [if_pos (show (1970 : Int32) ≤ y from Int32.le_iff_toInt_le.mpr c), if_pos c, fY_sec h c h2]
    simp only [ob_]
    exact congrArg some (ofL (so_e hb.1 hb.2 o1 o2))
  · rw [if_neg (fun q : (1970 : Int32) ≤ y => c (Int32.le_iff_toInt_le.mp q)), if_neg c]
    exact congrArg some (ofL (by simp only [Int64.reduceToInt]))
theorem fY_lat {x : Int64} {off ly : Int32} (h : rkS S a) (o1 : -100000 ≤ off.toInt) (o2 : off.toInt ≤ 100000) (l1 : 1900 ≤ ly.toInt) (l2 : ly.toInt ≤ 2400) : F_Y_latestUpTo a x off ly S = some (Int64.ofInt (latv (fun y => rsS S a y - off.toInt) x.toInt ly.toInt)) := by
  unfold F_Y_latestUpTo
  rw [fmin]
  simp only [ob_, Int32.reduceToInt]
  have e1 : (Int32.ofInt (if 2299 < ly.toInt then 2299 else ly.toInt)).toInt = y99 ly.toInt := tI (by split <;> omega) (by split <;> omega)
  have hy : y99 ly.toInt ≤ 2299 ∧ 1900 ≤ y99 ly.toInt := by unfold y99; split <;> omega
  generalize Int32.ofInt (if 2299 < ly.toInt then 2299 else ly.toInt) = z at *
  unfold latv
  generalize y99 ly.toInt = Y at *
  subst e1
  rw [jY_lat h o1 o2 hy.1]
  by_cases c : z.toInt < 1970
  · rw [if_pos (Int32.lt_iff_toInt_lt.mpr c), if_pos c, if_neg (by omega)]
  · have hb := rsS_b h (show 1970 ≤ z.toInt by omega) hy.1
    rw [if_neg (fun q => c (Int32.lt_iff_toInt_lt.mp q)), if_neg c, fY_sec h (by omega) hy.1]
    simp only [ob_]
    have e2 := so_e hb.1 hb.2 o1 o2
    by_cases c2 : rsS S a z.toInt - off.toInt ≤ x.toInt
    · rw [if_pos (by rw [Int64.le_iff_toInt_le, e2]; exact c2), if_pos c2, if_pos (by omega)]
    · rw [if_neg (by rw [Int64.le_iff_toInt_le, e2]; exact c2), if_neg c2]
      have e3 : (z + -1).toInt = z.toInt - 1 := by
        rw [Int32.toInt_add]
        exact bs32 (by simp only [Int32.reduceToInt]; omega) (by simp only [Int32.reduceToInt]; omega)
      rw [jY_lat h o1 o2 (by omega), e3]
theorem jY_fst {off y : Int32} (h : rkS S a) (o1 : -100000 ≤ off.toInt) (o2 : off.toInt ≤ 100000) (h2 : 1970 ≤ y.toInt) : J_Y_firstBehind_35 S a off y = some (Int64.ofInt (if y.toInt ≤ 2299 then rsS S a y.toInt - off.toInt else 1152921504606846976)) := by
  unfold J_Y_firstBehind_35
  by_cases c : y.toInt ≤ 2299
  · have hb := rsS_b h h2 c
    rw [if_pos (Int32.le_iff_toInt_le.mpr c), if_pos c, fY_sec h h2 c]
    simp only [ob_]
    exact congrArg some (ofL (so_e hb.1 hb.2 o1 o2))
  · rw [if_neg (fun q => c (Int32.le_iff_toInt_le.mp q)), if_neg c]
    exact congrArg some (ofL (by simp only [Int64.reduceToInt]))
theorem fY_fst {x : Int64} {off ly : Int32} (h : rkS S a) (o1 : -100000 ≤ off.toInt) (o2 : off.toInt ≤ 100000) (l1 : 1900 ≤ ly.toInt) (l2 : ly.toInt ≤ 2400) : F_Y_firstBehind a x off ly S = some (Int64.ofInt (fstv (fun y => rsS S a y - off.toInt) x.toInt ly.toInt)) := by
  unfold F_Y_firstBehind
  rw [fmax]
  simp only [ob_, Int32.reduceToInt]
  have e1 : (Int32.ofInt (if ly.toInt < 1970 then 1970 else ly.toInt)).toInt = y70 ly.toInt := tI (by split <;> omega) (by split <;> omega)
  have hy : 1970 ≤ y70 ly.toInt ∧ y70 ly.toInt ≤ 2400 := by unfold y70; split <;> omega
  generalize Int32.ofInt (if ly.toInt < 1970 then 1970 else ly.toInt) = z at *
  unfold fstv
  generalize y70 ly.toInt = Y at *
  subst e1
  rw [jY_fst h o1 o2 hy.1]
  by_cases c : 2299 < z.toInt
  · rw [if_pos (show (2299 : Int32) < z from Int32.lt_iff_toInt_lt.mpr c), if_pos c, if_neg (by omega)]
  · have hb := rsS_b h hy.1 (show z.toInt ≤ 2299 by omega)
    rw [if_neg (fun q : (2299 : Int32) < z => c (Int32.lt_iff_toInt_lt.mp q)), if_neg c, fY_sec h hy.1 (by omega)]
    simp only [ob_]
    have e2 := so_e hb.1 hb.2 o1 o2
    by_cases c2 : x.toInt < rsS S a z.toInt - off.toInt
    · rw [if_pos (by rw [Int64.lt_iff_toInt_lt, e2]; exact c2), if_pos c2, if_pos (by omega)]
    · rw [if_neg (by rw [Int64.lt_iff_toInt_lt, e2]; exact c2), if_neg c2]
      have e3 : (z + 1).toInt = z.toInt + 1 := by
        rw [Int32.toInt_add]
        exact bs32 (by simp only [Int32.reduceToInt]; omega) (by simp only [Int32.reduceToInt]; omega)
      rw [jY_fst h o1 o2 (by omega), e3]
end JB2
