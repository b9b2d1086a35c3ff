section JV_2
variable {S T U C M Y D : jS} {A A' : Nat → Nat → Int} {b j i k n x y c f g : Nat} {p0 x5 : Int32} {p1 x3 : Int64}
theorem fM_run (h : mA M A) : ∃ r, F_M_running M = some r ∧ r.toInt = cN A 1 100 := by
  obtain ⟨r, r1, r2⟩ := fM_running (S := M)
  refine ⟨r, r1, ?_⟩
  rw [r2, cN_s (A := A) 100 (fun j hj => (ms0 h (j := j) (by omega)))]
  rfl
/-- the model does not start a job -/
theorem ml_N (h : mA M A) (hn : A 100 1 ≤ cN A 1 100 ∨ ∀ j, ¬ aD A j) : L_M_work_77 (g + 1) M = some (1, M) := by
  obtain ⟨r, r1, r2⟩ := fM_run h
  have g15 := (mg1 h)
  conv => lhs; unfold L_M_work_77
  rw [r1, ob_]
  by_cases q : A 100 1 ≤ cN A 1 100
  · rw [if_pos (Int32.le_iff_toInt_le.mpr (by rw [g15, r2]; exact q))]
  · rw [if_neg (fun w => q (by have := Int32.le_iff_toInt_le.mp w; rw [g15, r2] at this; exact this))]
    obtain ⟨v, v1, v2⟩ := fM_fi h
    have v3 : v.toInt = -1 := by
      rcases v2 with ⟨w, -⟩ | ⟨j, -, -, w, -⟩
      · exact w
      · rcases hn with u | u
        · exact absurd u q
        · exact absurd w (u j)
    rw [v1, ob_, if_neg (by rw [geI (k := 0) (n := 0) rfl]; omega)]
/-- the model starts a job -/
theorem ml_B {B : Int} (h : mA M A) (hI : iA B A) (hB : B < 2000000000) (h5 : A 100 2 < 500) (hw : cN A 1 100 < A 100 1) {r : Int32} (hr : F_M_first M = some r) (i0 : r.toInt = j) (hd : aD A j) : ∃ M', (L_M_work_77 (g + 1) M = if A j 7 = 0 then (F_M_free r M').bind (fun z27 => J_M_work_207 (L_M_work_77 g) z27) else J_M_work_207 (L_M_work_77 g) M') ∧ mA M' (aBeg A j) ∧ fm M M' := by
  obtain ⟨hj, d0, d4⟩ := hd
  obtain ⟨I1, -, I3, I4, I5, I6, -⟩ := hI
  obtain ⟨-, -, J3⟩ := I1 j hj
  obtain ⟨-, -, -, J4, J7, -, -, J8, -⟩ := J3 (by omega)
  obtain ⟨v, v1, v2⟩ := fM_run h
  have g42 := (mg1 h)
  have g41 := (mg0 h)
  have g44 := (mg3 h)
  have g4 := (ms4 h (j := j) (by omega))
  have g3 := (ms3 h (j := j) (by omega))
  have g7 := (ms7 h (j := j) (by omega))
  have gz := (mg2 h)
  obtain ⟨s, hz⟩ : ∃ s : Nat, A 100 2 = s := ⟨(A 100 2).toNat, by omega⟩
  have hz' : (A 100 2).toNat = s := by omega
  rw [hz] at gz
  have jr : ∀ {α : Type} {X : Option α}, j_q (j_in r 100) X = X := fun {α X} => j_qi (by omega) (by omega)
  refine ⟨w_l (w_i (w_l (w_l (w_i (w_l (w_i (w_l M 450 s (M.2.1 215 41)) 451 s r) 452 s (M.2.1 438 j)) 215 49 (M.1 215 49 + 1)) 215 44 (M.2.1 215 44 + 1)) 440 j (M.2.1 440 j + 1)) 436 j 2) 439 j (M.2.1 215 41 + M.2.1 443 j), ?_, ?_, ?_⟩
  · conv => lhs; unfold L_M_work_77
    rw [v1, ob_, if_neg (fun w => by have := Int32.le_iff_toInt_le.mp w; rw [g42, v2] at this; omega), hr, ob_, if_pos (by rw [geI (k := 0) (n := 0) rfl]; omega)]
    have js : ∀ {α : Type} {X : Option α}, j_q (j_in (M.1 215 49) 500) X = X := fun {α X} => j_qi (by omega) (by omega)
    have e1 : ∀ v u, (w_i (w_l M 450 s v) 451 s u).1 215 49 = M.1 215 49 := fun v u => by rw [w_ir, if_neg (by omega)]; rfl
    simp only [jr, js, clN gz, clN i0, jl_, w_l1, e1]
    have e2 : ∀ v u w, (w_l (w_i (w_l M 450 s v) 451 s u) 452 s w).2.1 215 44 = M.2.1 215 44 := fun v u w => by rw [w_lr, if_neg (by omega), w_i2, w_lr, if_neg (by omega)]
    have e3 : ∀ v, (w_l M 450 s v).2.1 438 j = M.2.1 438 j := fun v => by rw [w_lr, if_neg (by omega)]
    simp only [w_i2, e2, e3]
    have e4 : ∀ v u w z q, (w_l (w_i (w_l (w_i (w_l M 450 s v) 451 s u) 452 s w) 215 49 z) 215 44 q).2.1 440 j = M.2.1 440 j := fun v u w z q => by rw [w_lr, if_neg (by omega), w_i2, w_lr, if_neg (by omega), w_i2, w_lr, if_neg (by omega)]
    simp only [e4]
    have e5 : ∀ v u w z q p, (w_l (w_l (w_i (w_l (w_i (w_l M 450 s v) 451 s u) 452 s w) 215 49 z) 215 44 q) 440 j p).2.1 215 41 = M.2.1 215 41 := fun v u w z q p => by rw [w_lr, if_neg (by omega), w_lr, if_neg (by omega), w_i2, w_lr, if_neg (by omega), w_i2, w_lr, if_neg (by omega)]
    have e6 : ∀ v u w z q p, (w_l (w_l (w_i (w_l (w_i (w_l M 450 s v) 451 s u) 452 s w) 215 49 z) 215 44 q) 440 j p).2.1 443 j = M.2.1 443 j := fun v u w z q p => by rw [w_lr, if_neg (by omega), w_lr, if_neg (by omega), w_i2, w_lr, if_neg (by omega), w_i2, w_lr, if_neg (by omega)]
    simp only [e5, e6]
    have e7 : ∀ v u w z q p t, (w_l (w_i (w_l (w_l (w_i (w_l (w_i (w_l M 450 s v) 451 s u) 452 s w) 215 49 z) 215 44 q) 440 j p) 436 j 2) 439 j t).2.1 443 j = M.2.1 443 j := fun v u w z q p t => by rw [w_lr, if_neg (by omega), w_i2, e6]
    rw [e7]
    by_cases q : A j 7 = 0
    · rw [if_pos q, if_pos (eqL.mpr (by rw [g7, q]; rfl))]
    · rw [if_neg q, if_neg (fun w => q (by have := eqL.mp w; rw [g7] at this; exact this))]
  · have t : bB biP blP (w_l (w_i (w_l (w_l (w_i (w_l (w_i (w_l M 450 s (M.2.1 215 41)) 451 s r) 452 s (M.2.1 438 j)) 215 49 (M.1 215 49 + 1)) 215 44 (M.2.1 215 44 + 1)) 440 j (M.2.1 440 j + 1)) 436 j 2) 439 j (M.2.1 215 41 + M.2.1 443 j)) (up (up (up (up (up (up (up (up A (101 + s) 0 (A 100 0)) (101 + s) 1 j) (101 + s) 2 (A j 4)) 100 2 (A 100 2 + 1)) 100 3 (A 100 3 + 1)) j 3 (A j 3 + 1)) j 0 2) j 5 (A 100 0 + A j 7)) := by
      refine ma_l (ma_i (ma_l (ma_l (ma_i (ma_l (ma_i (ma_l h ?_ g41) ?_ i0) ?_ g4) ?_ ?_) ?_ ?_) ?_ ?_) ?_ rfl) ?_ ?_
      all_goals first
        | (unfold biP; omega)
        | (unfold blP; omega)
        | skip
      · rw [hz]; exact adJ gz rfl (by omega) (by omega)
      · exact adL g44 rfl (by omega) (by omega)
      · exact adL g3 rfl (by omega) (by omega)
      · exact adL g41 g7 (by omega) (by omega)
    refine bB_c t (fun x y => ?_)
    unfold aBeg
    rw [hz']
    simp only [up_r]
    by_cases xj : x = j
    · subst xj
      by_cases y0 : y = 0
      · subst y0
        repeat rw [if_neg (by omega)]
        rw [if_pos ⟨rfl, rfl⟩, if_neg (by omega), if_pos ⟨rfl, rfl⟩]
      by_cases y3 : y = 3
      · subst y3
        repeat rw [if_neg (by omega)]
        rw [if_pos ⟨rfl, rfl⟩, if_neg (by omega), if_neg (by omega), if_pos ⟨rfl, rfl⟩]
      by_cases y5 : y = 5
      · subst y5
        repeat rw [if_neg (by omega)]
        rw [if_pos ⟨rfl, rfl⟩, if_pos ⟨rfl, rfl⟩]
      repeat rw [if_neg (by omega)]
    · rw [if_neg (by omega : ¬ (x = j ∧ y = 5)), if_neg (by omega : ¬ (x = j ∧ y = 0)), if_neg (by omega : ¬ (x = j ∧ y = 3)), if_neg (by omega : ¬ (x = j ∧ y = 5)), if_neg (by omega : ¬ (x = j ∧ y = 0)), if_neg (by omega : ¬ (x = j ∧ y = 3))]
  · exact fm_l (fm_i (fm_l (fm_l (fm_i (fm_l (fm_i (fm_l fm_r (by omega)) (by omega)) (by omega)) (by omega)) (by omega)) (by omega)) (by omega)) (by omega)
end JV_2
