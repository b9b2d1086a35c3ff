section JU_6
variable {S T U C M : jS} {A A' : Nat → Nat → Int} {b j i k n x y : Nat} {p0 : Int32} {p1 : Int64}
theorem min2_ {u v : Int64} : ∃ w, F_Math_min2 u v S = some w ∧ w.toInt ≤ u.toInt ∧ w.toInt ≤ v.toInt ∧ (w = u ∨ w = v) := by
  unfold F_Math_min2
  by_cases q : v < u
  · rw [if_pos q]
    have := Int64.lt_iff_toInt_lt.mp q
    exact ⟨v, rfl, by omega, by omega, Or.inr rfl⟩
  · rw [if_neg q]
    have : ¬ v.toInt < u.toInt := fun w => q (Int64.lt_iff_toInt_lt.mpr w)
    exact ⟨u, rfl, by omega, by omega, Or.inl rfl⟩
def aN (A : Nat → Nat → Int) (C : jS) (v0 : Int) (m : Nat) (v : Int) : Prop := v ≤ v0 ∧ (∀ i, i < m → ∀ j : Nat, (C.1 46 i).toInt = j → v ≤ A j 5) ∧ (v = v0 ∨ ∃ i j : Nat, i < m ∧ (C.1 46 i).toInt = j ∧ v = A j 5)
theorem lJ_nt (h : cA C A) {v0 : Int} : ∀ (f : Nat) (x2 : Int64) (x4 : Int32) (m : Nat), x4.toInt = m → m ≤ cN A 1 100 → cN A 1 100 - m < f → aN A C v0 m x2.toInt → ∃ r, L_J_nextTime_23 C f x2 x4 = some r ∧ aN A C v0 (cN A 1 100) r.toInt := by
  obtain ⟨h1, -, h3⟩ := h
  obtain ⟨-, -, s5, s6, s7, -⟩ := h3
  generalize hN : cN A 1 100 = N at *
  intro f
  induction f with
  | zero => intro x2 x4 m _ _ q; omega
  | succ f ih =>
    intro x2 x4 m h2 hm hf hx
    unfold L_J_nextTime_23
    by_cases e : m = N
    · rw [if_pos (Int32.le_iff_toInt_le.mpr (by rw [s5, h2]; omega))]
      exact ⟨x2, rfl, e ▸ hx⟩
    · rw [if_neg (fun w => by have := Int32.le_iff_toInt_le.mp w; rw [s5, h2] at this; omega), j_qi (by omega) (by omega), clN h2]
      obtain ⟨j, j1, j2, j3⟩ := s7 m (by omega)
      rw [j_qi (by omega) (by omega), clN j2]
      have g5 := (cs5 h1 (j := j) (by omega))
      obtain ⟨w, w1, w2, w3, w4⟩ := min2_ (S := C) (u := x2) (v := C.2.1 (115 + j) 5)
      rw [w1, ob_]
      refine ih _ _ (m + 1) (p1I h2 (by omega)) (by omega) (by omega) ?_
      obtain ⟨a1, a2, a3⟩ := hx
      rw [g5] at w3
      refine ⟨by omega, fun i hi j' hj' => ?_, ?_⟩
      · by_cases q : i < m
        · have := a2 i q j' hj'; omega
        · rw [show i = m by omega, j2] at hj'
          rw [show j' = j by omega]; exact w3
      · rcases w4 with q | q
        · rw [q]
          rcases a3 with a3 | ⟨i, j', c1, c2, c3⟩
          · exact Or.inl a3
          · exact Or.inr ⟨i, j', by omega, c2, c3⟩
        · exact Or.inr ⟨m, j, by omega, j2, by rw [q, g5]⟩
/-- when the class has to do something next -/
theorem fJ_nt (h : cA C A) {v0 : Int} (hp : (p0.toInt = -1 ∧ v0 = 1152921504606846976) ∨ ∃ j : Nat, p0.toInt = j ∧ j < 100 ∧ v0 = A j 4) : ∃ r, F_J_nextTime p0 C = some r ∧ r.toInt ≤ v0 ∧ (∀ j, j < 100 → 2 ≤ A j 0 → r.toInt ≤ A j 5) ∧ (r.toInt = v0 ∨ ∃ j, j < 100 ∧ 2 ≤ A j 0 ∧ r.toInt = A j 5) := by
  have h' := h
  obtain ⟨h1, -, -, -, s5, s6, s7, s8, -⟩ := h'
  have core : ∀ v : Int64, v.toInt = v0 → ∃ r, L_J_nextTime_23 C ju_ v 0 = some r ∧ r.toInt ≤ v0 ∧ (∀ j, j < 100 → 2 ≤ A j 0 → r.toInt ≤ A j 5) ∧ (r.toInt = v0 ∨ ∃ j, j < 100 ∧ 2 ≤ A j 0 ∧ r.toInt = A j 5) := by
    intro v hv
    obtain ⟨r, r1, r2, r3, r4⟩ := lJ_nt (v0 := v0) h ju_ v 0 0 rfl (by omega) (by show _ < 1000000; omega) ⟨by omega, fun i hi => by omega, Or.inl hv⟩
    refine ⟨r, r1, r2, fun j hj q => ?_, ?_⟩
    · obtain ⟨i, i1, i2⟩ := s8 j hj q
      exact r3 i i1 j i2
    · rcases r4 with q | ⟨i, j, i1, i2, i3⟩
      · exact Or.inl q
      · obtain ⟨j', c1, c2, c3⟩ := s7 i i1
        have ej : j' = j := by rw [i2] at c2; omega
        subst ej
        exact Or.inr ⟨j', c1, c3, i3⟩
  unfold F_J_nextTime
  rcases hp with ⟨q1, q2⟩ | ⟨j, q1, q2, q3⟩
  · rw [if_neg (by rw [geI (k := 0) (n := 0) rfl]; omega)]
    exact core _ (by rw [q2]; rfl)
  · rw [if_pos (by rw [geI (k := 0) (n := 0) rfl]; omega), j_qi (by omega) (by omega), clN q1, jl_]
    exact core _ (by rw [(cs4 h1 (j := j) (by omega)), q3])
def aX (A : Nat → Nat → Int) (L : Int) (m : Nat) (v : Int) : Prop := v ≤ L ∧ (∀ j, j < m → 2 ≤ A j 0 → A 100 0 < A j 5 → v ≤ A j 5) ∧ (∀ j, j < m → A j 0 = 1 → A 100 0 < A j 4 → v ≤ A j 4) ∧ (v = L ∨ ∃ j, j < m ∧ ((2 ≤ A j 0 ∧ A 100 0 < A j 5 ∧ v = A j 5) ∨ (A j 0 = 1 ∧ A 100 0 < A j 4 ∧ v = A j 4)))
theorem lM_a65 (h : mA M A) {L : Int} {x3 : Int64} {kt : Int64 → jS → Option (Int32 × jS)} : ∀ (f : Nat) (x5 : Int64) (x7 : Int32) (m : Nat), x7.toInt = m → m ≤ 100 → 100 - m < f → aX A L m x5.toInt → ∃ t : Int64, aX A L 100 t.toInt ∧ L_M_advance_65 kt f x3 x5 x7 M = if t ≤ x3 then kt x3 (w_l M 215 41 t) else some (M.1 215 49, w_l M 215 41 x3) := by
  have g8 := (mg0 h)
  intro f
  induction f with
  | zero => intro x5 x7 m _ _ q; omega
  | succ f ih =>
    intro x5 x7 m h2 hm hf hx
    by_cases e : m = 100
    · refine ⟨x5, e ▸ hx, ?_⟩
      conv => lhs; unfold L_M_advance_65
      rw [if_pos (by rw [geI (k := 100) (n := 100) rfl]; omega)]
      rfl
    · skip
      have g0 := (ms0 h (j := m) (by omega))
      have g4 := (ms4 h (j := m) (by omega))
      have g5 := (ms5 h (j := m) (by omega))
      have jq : ∀ {α : Type} {X : Option α}, j_q (j_in x7 100) X = X := fun {α X} => j_qi (by omega) (by omega)
      have st : ∀ (v w : Int), aX A L m v → w ≤ v → (2 ≤ A m 0 → A 100 0 < A m 5 → w ≤ A m 5) → (A m 0 = 1 → A 100 0 < A m 4 → w ≤ A m 4) → (w = v ∨ ((2 ≤ A m 0 ∧ A 100 0 < A m 5 ∧ w = A m 5) ∨ (A m 0 = 1 ∧ A 100 0 < A m 4 ∧ w = A m 4))) → aX A L (m + 1) w := by
        intro v w hv w1 w2 w3 w4
        obtain ⟨a1, a2, a3, a4⟩ := hv
        refine ⟨by omega, fun j hj q1 q2 => ?_, fun j hj q1 q2 => ?_, ?_⟩
        · by_cases q : j < m
          · have := a2 j q q1 q2; omega
          · rw [show j = m by omega] at q1 q2 ⊢; exact w2 q1 q2
        · by_cases q : j < m
          · have := a3 j q q1 q2; omega
          · rw [show j = m by omega] at q1 q2 ⊢; exact w3 q1 q2
        · rcases w4 with q | q
          · rw [q]
            rcases a4 with a4 | ⟨j, c1, c2⟩
            · exact Or.inl a4
            · exact Or.inr ⟨j, by omega, c2⟩
          · exact Or.inr ⟨m, by omega, q⟩
      have red : L_M_advance_65 kt (f + 1) x3 x5 x7 M = if M.1 436 m ≤ 1 then J_M_advance_112 kt (L_M_advance_65 kt f) x3 x5 x7 M else if M.2.1 439 m ≤ M.2.1 215 41 then J_M_advance_112 kt (L_M_advance_65 kt f) x3 x5 x7 M else (F_Math_min2 x5 (M.2.1 439 m) M).bind (fun z26 => J_M_advance_112 kt (L_M_advance_65 kt f) x3 z26 x7 M) := by
        conv => lhs; unfold L_M_advance_65
        rw [if_neg (by rw [geI (k := 100) (n := 100) rfl]; omega)]
        simp only [jq, clN h2]
      have red2 : ∀ z, J_M_advance_112 kt (L_M_advance_65 kt f) x3 z x7 M = if M.1 436 m = 1 then (if M.2.1 438 m ≤ M.2.1 215 41 then L_M_advance_65 kt f x3 z (x7 + 1) M else (F_Math_min2 z (M.2.1 438 m) M).bind (fun z22 => L_M_advance_65 kt f x3 z22 (x7 + 1) M)) else L_M_advance_65 kt f x3 z (x7 + 1) M := by
        intro z
        unfold J_M_advance_112
        simp only [jq, clN h2]
      rw [red]
      simp only [red2]
      by_cases q0 : A m 0 ≤ 1
      · rw [if_pos (by rw [leI (k := 1) (n := 1) rfl, g0]; exact q0)]
        by_cases q1 : A m 0 = 1
        · rw [if_pos (eqI.mpr (by rw [g0, q1]; rfl))]
          by_cases q4 : A m 4 ≤ A 100 0
          · rw [if_pos (Int64.le_iff_toInt_le.mpr (by rw [g8, g4]; exact q4))]
            exact ih _ _ (m + 1) (p1I h2 (by omega)) (by omega) (by omega) (st _ _ hx (by omega) (fun a => by omega) (fun _ a => by omega) (Or.inl rfl))
          · rw [if_neg (fun w => q4 (by have := Int64.le_iff_toInt_le.mp w; rw [g8, g4] at this; exact this))]
            obtain ⟨w, w1, w2, w3, w4⟩ := min2_ (S := M) (u := x5) (v := M.2.1 438 m)
            rw [w1, ob_]
            rw [g4] at w3
            refine ih _ _ (m + 1) (p1I h2 (by omega)) (by omega) (by omega) (st _ _ hx w2 (fun a => by omega) (fun _ a => w3) ?_)
            rcases w4 with q | q
            · exact Or.inl (by rw [q])
            · exact Or.inr (Or.inr ⟨q1, by omega, by rw [q, g4]⟩)
        · rw [if_neg (fun w => q1 (by have := eqI.mp w; rw [g0] at this; exact this))]
          exact ih _ _ (m + 1) (p1I h2 (by omega)) (by omega) (by omega) (st _ _ hx (by omega) (fun a => by omega) (fun a => by omega) (Or.inl rfl))
      · rw [if_neg (by rw [leI (k := 1) (n := 1) rfl, g0]; exact q0)]
        have n1 : Unit → ¬ M.1 436 m = 1 := fun _ w => by have := eqI.mp w; rw [g0] at this; simp only [Int32.reduceToInt] at this; omega
        simp only [if_neg (n1 ())]
        by_cases q5 : A m 5 ≤ A 100 0
        · rw [if_pos (Int64.le_iff_toInt_le.mpr (by rw [g8, g5]; exact q5))]
          exact ih _ _ (m + 1) (p1I h2 (by omega)) (by omega) (by omega) (st _ _ hx (by omega) (fun _ a => by omega) (fun a => by omega) (Or.inl rfl))
        · rw [if_neg (fun w => q5 (by have := Int64.le_iff_toInt_le.mp w; rw [g8, g5] at this; exact this))]
          obtain ⟨w, w1, w2, w3, w4⟩ := min2_ (S := M) (u := x5) (v := M.2.1 439 m)
          rw [w1, ob_]
          rw [g5] at w3
          refine ih _ _ (m + 1) (p1I h2 (by omega)) (by omega) (by omega) (st _ _ hx w2 (fun _ _ => w3) (fun a => by omega) ?_)
          rcases w4 with q | q
          · exact Or.inl (by rw [q])
          · exact Or.inr (Or.inl ⟨by omega, by omega, by rw [q, g5]⟩)
end JU_6
