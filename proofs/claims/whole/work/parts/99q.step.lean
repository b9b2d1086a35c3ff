section JV_1
variable {S T U C M Y D : jS} {A A' : Nat → Nat → Int} {b j i k n x y c f : Nat} {p0 x5 : Int32} {p1 x3 : Int64}
theorem w_l2 {v w : Int64} : w_l (w_l S b k v) b k w = w_l S b k w := by
  apply S_ext
  · intro a i; rfl
  · intro a i
    rw [w_lr, w_lr, w_lr]
    by_cases q : a = b ∧ i = k
    · rw [if_pos q, if_pos q]
    · rw [if_neg q, if_neg q, if_neg q]
  · intro a i; rfl
theorem aEm_u {B : Int} {j' : Nat} (hI : iA B A) (h1 : aEm A j) (h2 : aEm A j') : j = j' := by
  have a := h1.2 j' h2.1
  have b := h2.2 j h1.1
  exact hI.2.1 j j' h1.1.1 h2.1.1 (by have := h1.1.2.1; omega) (by have := h2.1.2.1; omega) (by omega)
/-- the class at the head of its loop: no job has ended, and the log has room -/
theorem cl_D (h : cA C A) (hE : ∀ j, ¬ aE A j) (h5 : A 100 2 < 500) (hx : x5.toInt < 100000) : L_J_advance_23 (f + 1) x3 x5 C = if A 100 1 ≤ cN A 1 100 then J_J_advance_101 (L_J_advance_23 f) x3 x5 (-1) C else (F_J_firstPending C).bind (fun z17 => J_J_advance_101 (L_J_advance_23 f) x3 x5 z17 C) := by
  obtain ⟨r, r1, r2⟩ := fJ_fe h
  have r3 : r.toInt = -1 := by
    rcases r2 with ⟨q, -⟩ | ⟨i, j, -, -, -, q⟩
    · exact q
    · exact absurd q.1 (hE j)
  have g3 := (cg2 h.1)
  have g15 := (cg1 h.1)
  have g14 := h.2.2.2.2.1
  conv => lhs; unfold L_J_advance_23
  rw [if_neg (by rw [geI (k := 100000) (n := 100000) rfl]; omega), r1, ob_, if_pos (by rw [ltI (k := 0) (n := 0) rfl]; omega), if_pos (by rw [ltI (k := 500) (n := 500) rfl, g3]; exact h5)]
  by_cases q : A 100 1 ≤ cN A 1 100
  · rw [if_pos q, if_pos (Int32.le_iff_toInt_le.mpr (by rw [g15, g14]; exact q))]
  · rw [if_neg q, if_neg (fun w => q (by have := Int32.le_iff_toInt_le.mp w; rw [g15, g14] at this; exact this))]
theorem cl_F (h : cA C A) (hE : ∀ j, ¬ aE A j) (h5 : A 100 2 = 500) (hx : x5.toInt < 100000) : L_J_advance_23 (f + 1) x3 x5 C = some (.inl (C.1 47 3), C) := by
  obtain ⟨r, r1, r2⟩ := fJ_fe h
  have r3 : r.toInt = -1 := by
    rcases r2 with ⟨q, -⟩ | ⟨i, j, -, -, -, q⟩
    · exact q
    · exact absurd q.1 (hE j)
  have g3 := (cg2 h.1)
  conv => lhs; unfold L_J_advance_23
  rw [if_neg (by rw [geI (k := 100000) (n := 100000) rfl]; omega), r1, ob_, if_pos (by rw [ltI (k := 0) (n := 0) rfl]; omega), if_neg (by rw [ltI (k := 500) (n := 500) rfl, g3]; omega)]
theorem cl_E {B : Int} (h : cA C A) (hI : iA B A) (hz : rZ C) (hc : rC C) (hh : rH C) (hE : aEm A j) (i0 : p0.toInt = j) (hx : x5.toInt < 100000) : ∃ r C', L_J_advance_23 (f + 1) x3 x5 C = L_J_advance_23 f x3 (x5 + 1) C' ∧ cA C' (aFre A j r) ∧ fc C C' ∧ rZ C' ∧ ∀ Y, sv C Y → mA Y A → ∃ Y', F_M_free p0 Y = some Y' ∧ mA Y' (aFre A j r) ∧ fm Y Y' := by
  obtain ⟨r, r1, r2⟩ := fJ_fe h
  rcases r2 with ⟨-, q⟩ | ⟨i, j', r3, r4, r5, r6⟩
  · exact absurd hE.1 (q j)
  · have := aEm_u hI r6 hE
    subst this
    obtain ⟨e1, e2, e3⟩ := hE.1
    obtain ⟨v, Z, v1, v2, v3, v4, v6, v5⟩ := fre_ (p0 := p0) h hI hz hc hh i0 e1 e2
    have s6 := h.2.2.2.2.2.1
    obtain ⟨C', c1, c2, c3⟩ := fJ_fre (p0 := r) (p1 := v) v2 r3 r4 (by rw [v6]; exact r5) e1 e2
    refine ⟨v.toInt, C', ?_, c2, fc_t v3 (f0_c c3), f0_z c3 v4, v5⟩
    conv => lhs; unfold L_J_advance_23
    rw [if_neg (by rw [geI (k := 100000) (n := 100000) rfl]; omega), r1, ob_, if_neg (by rw [ltI (k := 0) (n := 0) rfl]; omega), j_qi (by omega) (by omega), clN r3, j_qi (by omega) (by omega), clN r5, v1, ob_]
    simp only []
    rw [c1, ob_]
theorem aH_d {B : Int} {r r' : Int32} (hI : iA B A) (h1 : aH A (aPn A) 100 r) (h2 : aH A (aD A) 100 r') : (∃ j : Nat, r.toInt = j ∧ r'.toInt = j ∧ aD A j) ∨ (r'.toInt = -1 ∧ (∀ j, ¬ aD A j) ∧ ((r.toInt = -1 ∧ ∀ j, ¬ aPn A j) ∨ ∃ j : Nat, r.toInt = j ∧ aPn A j ∧ A 100 0 < A j 4 ∧ ∀ j', aPn A j' → A j 4 ≤ A j' 4)) := by
  rcases h1 with ⟨a1, a2⟩ | ⟨j, a1, a2, a3, a4⟩
  · rcases h2 with ⟨b1, b2⟩ | ⟨j', b1, b2, b3, b4⟩
    · exact Or.inr ⟨b1, fun j q => b2 j q.1 q, Or.inl ⟨a1, fun j q => a2 j q.1 q⟩⟩
    · exact absurd (show aPn A j' from ⟨b3.1, b3.2.1⟩) (a2 j' b2)
  · by_cases d : A j 4 ≤ A 100 0
    · rcases h2 with ⟨b1, b2⟩ | ⟨j', b1, b2, b3, b4⟩
      · exact absurd (show aD A j from ⟨a3.1, a3.2, d⟩) (b2 j a2)
      · have q1 := a4 j' b2 ⟨b3.1, b3.2.1⟩
        have q2 := b4 j a2 ⟨a3.1, a3.2, d⟩
        have e : j = j' := by
          refine hI.2.1 j j' a2 b2 (by have := a3.2; omega) (by have := b3.2.1; omega) ?_
          unfold ah at q1 q2
          omega
        subst e
        exact Or.inl ⟨j, a1, b1, b3⟩
    · have nd : ∀ j', ¬ aD A j' := by
        intro j' q
        have := a4 j' q.1 ⟨q.1, q.2.1⟩
        have := q.2.2
        unfold ah at *
        omega
      rcases h2 with ⟨b1, b2⟩ | ⟨j', b1, b2, b3, b4⟩
      · refine Or.inr ⟨b1, nd, Or.inr ⟨j, a1, a3, by omega, fun j' q => ?_⟩⟩
        have := a4 j' q.1 q
        unfold ah at this
        omega
      · exact absurd b3 (nd j')
/-- the class begins the first due job -/
theorem cl_B {B : Int} (h : cA C A) (hI : iA B A) (hB : B < 2000000000) (hE : ∀ j, ¬ aE A j) (h5 : A 100 2 < 500) (hw : cN A 1 100 < A 100 1) (hx : x5.toInt < 100000) {r : Int32} (hr : F_J_firstPending C = some r) (i0 : r.toInt = j) (hd : aD A j) : ∃ C', L_J_advance_23 (f + 1) x3 x5 C = L_J_advance_23 f x3 (x5 + 1) C' ∧ cA C' (aBeg A j) ∧ f0 C C' := by
  obtain ⟨d1, d2, d3⟩ := hd
  have I4 := hI.2.2.2.1
  obtain ⟨C', c1, c2, c3⟩ := fJ_beg (p0 := r) h hI hB i0 d1 d2 (by omega) h5
  refine ⟨C', ?_, c2, c3⟩
  have g4 := (cs4 h.1 (j := j) (by omega))
  have g8 := (cg0 h.1)
  rw [cl_D h hE h5 hx, if_neg (by omega), hr, ob_]
  unfold J_J_advance_101
  rw [if_neg (by rw [ltI (k := 0) (n := 0) rfl]; omega), j_qi (by omega) (by omega), clN i0, if_neg (fun w => by have := Int64.lt_iff_toInt_lt.mp w; rw [g4, g8] at this; omega), c1, ob_]
/-- the class has nothing to do now -/
theorem cl_N {B : Int} (h : cA C A) (hI : iA B A) (hE : ∀ j, ¬ aE A j) (h5 : A 100 2 < 500) (hx : x5.toInt < 100000) (hn : A 100 1 ≤ cN A 1 100 ∨ ∀ j, ¬ aD A j) : ∃ (t : Int64) (v0 : Int), (L_J_advance_23 (f + 1) x3 x5 C = if t ≤ x3 then L_J_advance_23 f x3 (x5 + 1) (w_l C 24 8 t) else some (.inl (C.1 47 3), w_l C 24 8 x3)) ∧ t.toInt ≤ v0 ∧ (∀ j, j < 100 → 2 ≤ A j 0 → t.toInt ≤ A j 5) ∧ (t.toInt = v0 ∨ ∃ j, j < 100 ∧ 2 ≤ A j 0 ∧ t.toInt = A j 5) ∧ ((A 100 1 ≤ cN A 1 100 ∧ v0 = 1152921504606846976) ∨ (cN A 1 100 < A 100 1 ∧ v0 = 1152921504606846976 ∧ ∀ j, ¬ aPn A j) ∨ ∃ j, cN A 1 100 < A 100 1 ∧ aPn A j ∧ A 100 0 < A j 4 ∧ v0 = A j 4 ∧ ∀ j', aPn A j' → v0 ≤ A j' 4) := by
  have g8 := (cg0 h.1)
  by_cases q : A 100 1 ≤ cN A 1 100
  · obtain ⟨t, t1, t2, t3, t4⟩ := fJ_nt (p0 := -1) (v0 := 1152921504606846976) h (Or.inl ⟨rfl, rfl⟩)
    refine ⟨t, _, ?_, t2, t3, t4, Or.inl ⟨q, rfl⟩⟩
    rw [cl_D h hE h5 hx, if_pos q]
    unfold J_J_advance_101 J_J_advance_135
    rw [if_pos (by decide), t1, ob_]
    rfl
  · obtain ⟨r, r1, r2⟩ := fJ_fp h
    have nd : ∀ j, ¬ aD A j := by
      rcases hn with w | w
      · exact absurd w q
      · exact w
    rcases r2 with ⟨a1, a2⟩ | ⟨j, a1, a2, a3, a4⟩
    · obtain ⟨t, t1, t2, t3, t4⟩ := fJ_nt (p0 := r) (v0 := 1152921504606846976) h (Or.inl ⟨a1, rfl⟩)
      refine ⟨t, _, ?_, t2, t3, t4, Or.inr (Or.inl ⟨by omega, rfl, fun j w => a2 j w.1 w⟩)⟩
      rw [cl_D h hE h5 hx, if_neg q, r1, ob_]
      unfold J_J_advance_101 J_J_advance_135
      rw [if_pos (by rw [ltI (k := 0) (n := 0) rfl]; omega), t1, ob_]
      rfl
    · have d : A 100 0 < A j 4 := by
        have := nd j
        unfold aD at this
        have := a3.2
        omega
      obtain ⟨t, t1, t2, t3, t4⟩ := fJ_nt (p0 := r) (v0 := A j 4) h (Or.inr ⟨j, a1, a2, rfl⟩)
      refine ⟨t, _, ?_, t2, t3, t4, Or.inr (Or.inr ⟨j, by omega, a3, d, rfl, fun j' w => ?_⟩)⟩
      · have g4 := (cs4 h.1 (j := j) (by omega))
        rw [cl_D h hE h5 hx, if_neg q, r1, ob_]
        unfold J_J_advance_101 J_J_advance_135
        rw [if_neg (by rw [ltI (k := 0) (n := 0) rfl]; omega), j_qi (by omega) (by omega), clN a1, if_pos (Int64.lt_iff_toInt_lt.mpr (by rw [g4, g8]; exact d)), t1, ob_]
        rfl
      · have := a4 j' w.1 w
        unfold ah at this
        omega
end JV_1
