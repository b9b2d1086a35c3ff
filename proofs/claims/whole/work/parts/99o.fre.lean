section JU_7
variable {S T U C M Y : jS} {A A' : Nat → Nat → Int} {b j i k n x y : Nat} {p0 : Int32} {p1 : Int64}
theorem fM_66 (h : mA Y A) (i0 : p0.toInt = j) (hj : j < 100) (r : Int64) (hr : r.toInt ≤ 10413791999999) : ∃ Y', J_M_free_66 p0 r Y = some Y' ∧ mA Y' (aFre A j r.toInt) ∧ fm Y Y' := by
  have jq : ∀ {α : Type} {X : Option α}, j_q (j_in p0 100) X = X := fun {α X} => j_qi (by omega) (by omega)
  have g4 := (ms4 h (j := j) (by omega))
  unfold J_M_free_66 J_M_free_83 J_M_free_105
  simp only [jq, clN i0, jl_]
  by_cases q : 0 ≤ r.toInt
  · rw [if_pos (by rw [geL (k := 0) (n := 0) rfl]; exact q), if_pos (by rw [geL (k := 0) (n := 0) rfl]; exact q)]
    refine ⟨_, rfl, ?_, fm_l (fm_i fm_r (by omega)) (by omega)⟩
    unfold aFre
    rw [if_pos ⟨q, hr⟩]
    refine bB_c (ma_l (ma_i h (b := 436) (j := j) (x := j) (y := 0) (by unfold biP; omega) rfl) (b := 438) (j := j) (x := j) (y := 4) (by unfold blP; omega) rfl) (fun x y => ?_)
    simp only [up_r]
    by_cases a : x = j ∧ y = 0
    · rw [if_pos a, if_neg (by omega), if_pos a]; rfl
    · rw [if_neg a]
      by_cases b : x = j ∧ y = 4
      · rw [if_pos b, if_pos b]
      · rw [if_neg b, if_neg b, if_neg a]
  · rw [if_neg (by rw [geL (k := 0) (n := 0) rfl]; exact q), if_neg (by rw [geL (k := 0) (n := 0) rfl]; exact q)]
    refine ⟨_, rfl, ?_, fm_l (fm_i fm_r (by omega)) (by omega)⟩
    unfold aFre
    rw [if_neg (fun w => q w.1)]
    refine bB_c (ma_l (ma_i h (b := 436) (j := j) (x := j) (y := 0) (w := 0) (by unfold biP; omega) rfl) (b := 438) (j := j) (x := j) (y := 4) (w := A j 4) (by unfold blP; omega) ?_) (fun x y => ?_)
    · rw [w_i2]; exact g4
    · simp only [up_r]
      by_cases a : x = j ∧ y = 0
      · rw [if_pos a, if_neg (by omega)]
      · rw [if_neg a]
        by_cases b : x = j ∧ y = 4
        · rw [if_pos b, b.1, b.2]
        · rw [if_neg b]
theorem aFre_o {r r' : Int} (h1 : ¬ (0 ≤ r ∧ r ≤ 10413791999999)) (h2 : ¬ (0 ≤ r' ∧ r' ≤ 10413791999999)) : aFre A j r = aFre A j r' := by
  unfold aFre
  rw [if_neg h1, if_neg h2]
theorem fM_f (h : mA Y A) (i0 : p0.toInt = j) (hj : j < 100) (r : Int64) : ∃ Y', (J_M_following_246 r Y).bind (fun z4 => J_M_free_66 p0 z4.1 z4.2) = some Y' ∧ mA Y' (aFre A j r.toInt) ∧ fm Y Y' := by
  unfold J_M_following_246
  by_cases q : r.toInt ≤ 10413791999999
  · rw [if_pos (by rw [leL (k := 10413791999999) (n := 10413791999999) rfl]; exact q), ob_]
    exact fM_66 h i0 hj r q
  · rw [if_neg (by rw [leL (k := 10413791999999) (n := 10413791999999) rfl]; exact q), ob_]
    obtain ⟨Y', e1, e2, e3⟩ := fM_66 h i0 hj (-1) (by decide)
    exact ⟨Y', e1, by rw [aFre_o (r' := (-1 : Int64).toInt) (fun w => q w.2) (by decide)]; exact e2, e3⟩
/-- it will not be started again -/
def ov (A : Nat → Nat → Int) (j : Nat) : Prop := A j 0 = 3 ∨ A j 1 = 0 ∨ A j 3 = A j 10
theorem fB_over (h1 : bB aiP alP C A) (hj : j < 100) : (ov A j → F_B_isOver (115 + j) C = some 1) ∧ (¬ ov A j → F_B_isOver (115 + j) C = some 0) := by
  have g0 := (cs0 h1 (j := j) (by omega))
  have g1 := (cs1 h1 (j := j) (by omega))
  have g3 := (cs3 h1 (j := j) (by omega))
  have g10 := (cs10 h1 (j := j) (by omega))
  have e0 : (C.1 (115 + j) 0 = 3) = (A j 0 = 3) := by rw [eqI, g0]; rfl
  have e1 : (C.1 (115 + j) 1 = 0) = (A j 1 = 0) := by rw [eqI, g1]; rfl
  have e3 : (C.1 (115 + j) 3 = C.1 (115 + j) 10) = (A j 3 = A j 10) := by rw [eqI, g3, g10]
  unfold ov F_B_isOver
  simp only [e0, e1, e3]
  refine ⟨fun q => ?_, fun q => ?_⟩
  · by_cases a : A j 0 = 3
    · rw [if_pos a]
    · by_cases b : A j 1 = 0
      · rw [if_neg a, if_pos b]
      · rw [if_neg a, if_neg b, if_pos (by omega)]
  · rw [if_neg (by omega), if_neg (by omega), if_neg (by omega)]
theorem fM_fr {B : Int} (h : mA Y A) (hI : jI B A j) (i0 : p0.toInt = j) (hj : j < 100) (h2 : 2 ≤ A j 0) : (ov A j → F_M_free p0 Y = J_M_free_66 p0 (-1) Y) ∧ (¬ ov A j → F_M_free p0 Y = (F_M_following p0 Y).bind (fun z4 => J_M_free_66 p0 z4.1 z4.2)) := by
  have jq : ∀ {α : Type} {X : Option α}, j_q (j_in p0 100) X = X := fun {α X} => j_qi (by omega) (by omega)
  have g0 := (ms0 h (j := j) (by omega))
  have g1 := (ms1 h (j := j) (by omega))
  have g3 := (ms3 h (j := j) (by omega))
  have g10 := (ms10 h (j := j) (by omega))
  have e0 : (Y.1 436 j = 3) = (A j 0 = 3) := by rw [eqI, g0]; rfl
  have e1 : (Y.1 437 j = 0) = (A j 1 = 0) := by rw [eqI, g1]; rfl
  have e2 : (Y.1 446 j ≤ 0) = (A j 10 ≤ 0) := by rw [leI (k := 0) (n := 0) rfl, g10]
  have e3 : (Y.2.1 440 j = (Y.1 446 j).toInt64) = (A j 3 = A j 10) := by rw [eqL, g3, Int32.toInt_toInt64, g10]
  obtain ⟨-, -, J⟩ := hI
  obtain ⟨-, -, -, -, -, -, J10, -, -, J3⟩ := J (by omega)
  have J3' := (J3 h2).1
  have r1 : J_M_free_45 p0 Y = J_M_free_66 p0 (-1) Y := by
    unfold J_M_free_45 J_M_free_50
    rw [if_neg (by decide)]
  have r2 : J_M_free_49 p0 Y = (F_M_following p0 Y).bind (fun z4 => J_M_free_66 p0 z4.1 z4.2) := by
    unfold J_M_free_49 J_M_free_50
    rw [if_pos rfl]
  unfold F_M_free
  simp only [jq, clN i0, e0, e1, e2, e3, r1, r2]
  unfold ov
  refine ⟨fun q => ?_, fun q => ?_⟩
  · by_cases a : A j 0 = 3
    · rw [if_pos a]
    · by_cases b : A j 1 = 0
      · rw [if_neg a, if_pos b]
      · rw [if_neg a, if_neg b, if_neg (by omega), if_pos (by omega)]
  · rw [if_neg (by omega), if_neg (by omega)]
    by_cases c : A j 10 ≤ 0
    · rw [if_pos c]
    · rw [if_neg c, if_neg (by omega)]
/-- the next time of a job of kind 2 or 1 on both sides -/
theorem fol_2 {B : Int} (h : cA C A) (hm : mA Y A) (hI : jI B A j) (i0 : p0.toInt = j) (hj : j < 100) (h2 : 2 ≤ A j 0) (hk : A j 1 = 2) : F_M_following p0 Y = J_M_following_246 (C.2.1 24 8 + C.2.1 (115 + j) 6) Y := by
  have jq : ∀ {α : Type} {X : Option α}, j_q (j_in p0 100) X = X := fun {α X} => j_qi (by omega) (by omega)
  have g1 := (ms1 hm (j := j) (by omega))
  have e1 : (Y.1 437 j = 2) = (A j 1 = 2) := by rw [eqI, g1]; rfl
  have c8 : C.2.1 24 8 = Y.2.1 215 41 := eqL.mpr (by rw [(cg0 h.1), (mg0 hm)])
  have c6 : C.2.1 (115 + j) 6 = Y.2.1 442 j := eqL.mpr (by rw [h.2.1 j hj (by omega), (ms6 hm (j := j) (by omega))])
  unfold F_M_following
  simp only [jq, clN i0, jl_, e1]
  rw [if_pos hk, c8, c6]
theorem fol_1 {B : Int} (h : cA C A) (hm : mA Y A) (hI : jI B A j) (hG : 0 ≤ A 100 0 ∧ A 100 0 ≤ 10413791999999) (i0 : p0.toInt = j) (hj : j < 100) (h2 : 2 ≤ A j 0) (hk : A j 1 = 1) : ∃ r, F_B_rateTimeBehind (115 + j) (C.2.1 24 8) C = some r ∧ F_M_following p0 Y = J_M_following_246 r Y := by
  have jq : ∀ {α : Type} {X : Option α}, j_q (j_in p0 100) X = X := fun {α X} => j_qi (by omega) (by omega)
  obtain ⟨-, -, J⟩ := hI
  obtain ⟨-, -, J6, J4, -, J9, -, -, -, Jr⟩ := J (by omega)
  have J6' := J6 (Or.inl hk)
  have Jr' := (Jr h2).2
  have g1 := (ms1 hm (j := j) (by omega))
  have e1 : (Y.1 437 j = 1) = (A j 1 = 1) := by rw [eqI, g1]; rfl
  have e2 : (Y.1 437 j = 2) = (A j 1 = 2) := by rw [eqI, g1]; rfl
  have c8 : Y.2.1 215 41 = C.2.1 24 8 := eqL.mpr (by rw [(cg0 h.1), (mg0 hm)])
  have c6 : Y.2.1 442 j = C.2.1 (115 + j) 6 := eqL.mpr (by rw [h.2.1 j hj (by omega), (ms6 hm (j := j) (by omega))])
  have c4 : Y.2.1 438 j = C.2.1 (115 + j) 4 := eqL.mpr (by rw [(cs4 h.1 (j := j) (by omega)), (ms4 hm (j := j) (by omega))])
  have c9 : Y.1 445 j = C.1 (115 + j) 9 := eqI.mpr (by rw [(cs9 h.1 (j := j) (by omega)), (ms9 hm (j := j) (by omega))])
  have d6 := h.2.1 j hj (by omega)
  have d4 := (cs4 h.1 (j := j) (by omega))
  have d8 := (cg0 h.1)
  have d9 := (cs9 h.1 (j := j) (by omega))
  have n0 : Unit → ¬ C.2.1 (115 + j) 6 = 0 := fun _ w => by have := eqL.mp w; rw [d6] at this; simp only [Int64.reduceToInt] at this; omega
  unfold F_B_rateTimeBehind F_M_following J_M_following_69
  simp only [jq, clN i0, jl_, e1, e2, c4, c6, c8, c9]
  rw [if_pos (show (1 : Int64) ≤ C.2.1 (115 + j) 6 by rw [geL (k := 1) (n := 1) rfl, d6]; omega), j_qt (b := !decide (C.2.1 (115 + j) 6 = 0)) (by rw [decide_eq_false (n0 ())]; rfl), if_neg (show ¬ A j 1 = 2 by omega), if_pos hk]
  have q9 : (C.1 (115 + j) 9 = 0) = (A j 9 = 0) := by rw [eqI, d9]; rfl
  have q91 : (C.1 (115 + j) 9 = 1) = (A j 9 = 1) := by rw [eqI, d9]; rfl
  have q92 : (C.1 (115 + j) 9 = 2) = (A j 9 = 2) := by rw [eqI, d9]; rfl
  simp only [q9, q91, q92]
  obtain ⟨v, hv⟩ : ∃ v, (C.2.1 24 8 - C.2.1 (115 + j) 4) / C.2.1 (115 + j) 6 = v := ⟨_, rfl⟩
  rw [hv]
  have gen : ∀ w : Int64, w = v → (∃ r, (if A j 9 = 2 then some (C.2.1 (115 + j) 4 + (v + 1) * C.2.1 (115 + j) 6) else if A j 9 = 1 then (if v ≤ 1 then some (C.2.1 (115 + j) 4 + C.2.1 (115 + j) 6) else some (C.2.1 (115 + j) 4 + v * C.2.1 (115 + j) 6)) else some (C.2.1 (115 + j) 4 + C.2.1 (115 + j) 6)) = some r ∧ (if A j 9 = 0 then J_M_following_120 (C.2.1 (115 + j) 4 + C.2.1 (115 + j) 6) Y else if A j 9 = 1 then (F_Math_max2 1 w Y).bind (fun z16 => J_M_following_120 (C.2.1 (115 + j) 4 + C.2.1 (115 + j) 6 * z16) Y) else J_M_following_120 (C.2.1 (115 + j) 4 + C.2.1 (115 + j) 6 * (w + 1)) Y) = J_M_following_246 r Y) := by
    intro w hw
    subst hw
    by_cases a : A j 9 = 2
    · rw [if_pos a, if_neg (show ¬ A j 9 = 0 by omega), if_neg (show ¬ A j 9 = 1 by omega)]
      exact ⟨_, rfl, by rw [Int64.mul_comm]; rfl⟩
    · rw [if_neg a]
      by_cases b : A j 9 = 1
      · rw [if_pos b, if_neg (show ¬ A j 9 = 0 by omega), if_pos b]
        by_cases c : w.toInt ≤ 1
        · rw [if_pos (by rw [leL (k := 1) (n := 1) rfl]; exact c)]
          refine ⟨_, rfl, ?_⟩
          unfold F_Math_max2
          rw [if_neg (by rw [gtL (k := 1) (n := 1) rfl]; omega), ob_, Int64.mul_one]
          rfl
        · rw [if_neg (by rw [leL (k := 1) (n := 1) rfl]; exact c)]
          refine ⟨_, rfl, ?_⟩
          unfold F_Math_max2
          rw [if_pos (by rw [gtL (k := 1) (n := 1) rfl]; omega), ob_, Int64.mul_comm]
          rfl
      · rw [if_neg b, if_pos (show A j 9 = 0 by omega)]
        exact ⟨_, rfl, rfl⟩
  by_cases z : A 100 0 ≤ A j 4
  · rw [if_pos (show C.2.1 24 8 ≤ C.2.1 (115 + j) 4 from Int64.le_iff_toInt_le.mpr (by rw [d8, d4]; exact z))]
    refine gen 0 ?_
    rw [← hv]
    refine eqL.mpr ?_
    have e : C.2.1 24 8 - C.2.1 (115 + j) 4 = 0 := by
      rw [show C.2.1 24 8 = C.2.1 (115 + j) 4 from eqL.mpr (by rw [d8, d4]; omega)]
      exact Int64.sub_self _
    rw [e, Int64.zero_div]
  · rw [if_neg (show ¬ C.2.1 24 8 ≤ C.2.1 (115 + j) 4 from fun w => z (by have := Int64.le_iff_toInt_le.mp w; rw [d8, d4] at this; exact this))]
    try rw [j_qt (b := !decide (C.2.1 (115 + j) 6 = 0)) (by rw [decide_eq_false (n0 ())]; rfl)]
    exact gen v rfl
end JU_7
