section JU_4
theorem j_qN {α : Type} {i : Int32} {k n : Nat} {E : Option α} (h : i.toInt = k) (hk : k < n) : j_q (j_in i n) E = E := j_qi (by omega) (by omega)
variable {S T U C M : jS} {A A' : Nat → Nat → Int} {b j i k n x y : Nat} {p0 : Int32} {p1 : Int64}
def aE (A : Nat → Nat → Int) (j : Nat) : Prop := j < 100 ∧ 2 ≤ A j 0 ∧ A j 5 ≤ A 100 0
def aEm (A : Nat → Nat → Int) (j : Nat) : Prop := aE A j ∧ ∀ j', aE A j' → A j 2 ≤ A j' 2
def ah (A : Nat → Nat → Int) (a b : Nat) : Prop := A a 4 < A b 4 ∨ (A a 4 = A b 4 ∧ (A b 8 < A a 8 ∨ (A b 8 = A a 8 ∧ A a 2 < A b 2)))
def aF (A : Nat → Nat → Int) (C : jS) (m : Nat) (x : Int32) : Prop := (x.toInt = -1 ∧ ∀ i, i < m → ∀ j : Nat, (C.1 46 i).toInt = j → A 100 0 < A j 5) ∨ ∃ i j : Nat, i < m ∧ x.toInt = i ∧ (C.1 46 i).toInt = j ∧ A j 5 ≤ A 100 0 ∧ ∀ i' j' : Nat, i' < m → (C.1 46 i').toInt = j' → A j' 5 ≤ A 100 0 → A j 2 ≤ A j' 2
theorem lJ_fe (h : cA C A) : ∀ (f : Nat) (x1 x2 : Int32) (m : Nat), x2.toInt = m → m ≤ cN A 1 100 → cN A 1 100 - m < f → aF A C m x1 → ∃ r, L_J_firstEnded_4 C f x1 x2 = some r ∧ aF A C (cN A 1 100) r := by
  obtain ⟨h1, -, h3⟩ := h
  obtain ⟨-, -, s5, s6, s7, -⟩ := h3
  replace s5 := fun (_ : Unit) => s5
  have g8 := fun (_ : Unit) => (cg0 h1)
  generalize hN : cN A 1 100 = N at *
  intro f
  induction f with
  | zero => intro x1 x2 m _ _ q; omega
  | succ f ih =>
    intro x1 x2 m h2 hm hf hx
    unfold L_J_firstEnded_4
    by_cases e : m = N
    · rw [if_pos (Int32.le_iff_toInt_le.mpr (by rw [s5 (), h2]; omega))]
      exact ⟨x1, rfl, e ▸ hx⟩
    · rw [if_neg (fun w => by have := Int32.le_iff_toInt_le.mp w; rw [s5 (), h2] at this; omega), j_qi (by omega) (by omega), clN h2]
      obtain ⟨j, j1, j2, j3⟩ := s7 m (by omega)
      rw [j_qN j2 j1, clN j2, jl_]
      replace j2 := fun (_ : Unit) => j2
      have g5 := fun (_ : Unit) => (cs5 h1 (j := j) (by omega))
      have go2 := fun (_ : Unit) => (cs2 h1 (j := j) (by omega))
      have one : ∀ i' j' : Nat, i' < m + 1 → ¬ i' < m → (C.1 46 i').toInt = j' → j' = j := by
        intro i' j' a b c
        rw [show i' = m by omega, j2 ()] at c
        omega
      by_cases q : A 100 0 < A j 5
      · rw [if_pos (Int64.lt_iff_toInt_lt.mpr (by rw [g8 (), g5 ()]; exact q))]
        refine ih _ _ (m + 1) (p1I h2 (by omega)) (by omega) (by omega) ?_
        rcases hx with ⟨a1, a2⟩ | ⟨i, j', a1, a2, a3, a4, a5⟩
        · refine Or.inl ⟨a1, fun i hi j' hj' => ?_⟩
          by_cases w : i < m
          · exact a2 i w j' hj'
          · rw [one i j' hi w hj']; exact q
        · refine Or.inr ⟨i, j', by omega, a2, a3, a4, fun i' k' hi' hk' hq => ?_⟩
          by_cases w : i' < m
          · exact a5 i' k' w hk' hq
          · rw [one i' k' hi' w hk'] at hq; omega
      · rw [if_neg (fun w => q (by have := Int64.lt_iff_toInt_lt.mp w; rw [g8 (), g5 ()] at this; exact this))]
        unfold J_J_firstEnded_61
        rcases hx with ⟨a1, a2⟩ | ⟨i, j', a1, a2, a3, a4, a5⟩
        · rw [if_pos (by rw [ltI (k := 0) (n := 0) rfl]; omega)]
          refine ih _ _ (m + 1) (p1I h2 (by omega)) (by omega) (by omega) (Or.inr ⟨m, j, by omega, h2, j2 (), by omega, fun i' k' hi' hk' hq => ?_⟩)
          by_cases w : i' < m
          · have := a2 i' w k' hk'; omega
          · rw [one i' k' hi' w hk']; omega
        · rw [if_neg (by rw [ltI (k := 0) (n := 0) rfl]; omega), j_qi (by omega) (by omega), clN a2]
          obtain ⟨j'', c1, c2, c3⟩ := s7 i (by omega)
          have ej : j'' = j' := by rw [a3] at c2; omega
          subst ej
          rw [j_qN a3 c1, clN a3]
          have go1 := fun (_ : Unit) => (cs2 h1 (j := j'') (by omega))
          by_cases o : A j'' 2 ≤ A j 2
          · rw [if_pos (Int32.le_iff_toInt_le.mpr (by rw [go1 (), go2 ()]; exact o))]
            refine ih _ _ (m + 1) (p1I h2 (by omega)) (by omega) (by omega) (Or.inr ⟨i, j'', by omega, a2, a3, a4, fun i' k' hi' hk' hq => ?_⟩)
            by_cases w : i' < m
            · exact a5 i' k' w hk' hq
            · rw [one i' k' hi' w hk']; exact o
          · rw [if_neg (fun w => o (by have := Int32.le_iff_toInt_le.mp w; rw [go1 (), go2 ()] at this; exact this))]
            refine ih _ _ (m + 1) (p1I h2 (by omega)) (by omega) (by omega) (Or.inr ⟨m, j, by omega, h2, j2 (), by omega, fun i' k' hi' hk' hq => ?_⟩)
            by_cases w : i' < m
            · have := a5 i' k' w hk' hq; omega
            · rw [one i' k' hi' w hk']; omega
/-- the class's first ended job -/
theorem fJ_fe (h : cA C A) : ∃ r, F_J_firstEnded C = some r ∧ ((r.toInt = -1 ∧ ∀ j, ¬ aE A j) ∨ ∃ i j : Nat, r.toInt = i ∧ i < cN A 1 100 ∧ (C.1 46 i).toInt = j ∧ aEm A j) := by
  have h' := h
  obtain ⟨-, -, -, -, s5, s6, s7, s8, -⟩ := h'
  obtain ⟨r, r1, r2⟩ := lJ_fe h ju_ (-1) 0 0 rfl (by omega) (by show _ < 1000000; omega) (Or.inl ⟨rfl, fun i hi => by omega⟩)
  refine ⟨r, r1, ?_⟩
  rcases r2 with ⟨a1, a2⟩ | ⟨i, j, a1, a2, a3, a4, a5⟩
  · refine Or.inl ⟨a1, fun j q => ?_⟩
    obtain ⟨q1, q2, q3⟩ := q
    obtain ⟨i, i1, i2⟩ := s8 j q1 q2
    have := a2 i i1 j i2
    omega
  · refine Or.inr ⟨i, j, a2, a1, a3, ⟨?_, fun j' q => ?_⟩⟩
    · obtain ⟨j', c1, c2, c3⟩ := s7 i a1
      have ej : j' = j := by rw [a3] at c2; omega
      subst ej
      exact ⟨c1, c3, a4⟩
    · obtain ⟨q1, q2, q3⟩ := q
      obtain ⟨i', i1, i2⟩ := s8 j' q1 q2
      exact a5 i' j' i1 i2 q3
def aG (A : Nat → Nat → Int) (m : Nat) (x : Int32) : Prop := (x.toInt = -1 ∧ ∀ j, j < m → ¬ aE A j) ∨ ∃ j : Nat, x.toInt = j ∧ j < m ∧ aE A j ∧ ∀ j', j' < m → aE A j' → A j 2 ≤ A j' 2
theorem lM_w4 (h : mA M A) {kt : jS → Option (Int32 × jS)} : ∀ (f : Nat) (x1 x2 : Int32) (m : Nat), x2.toInt = m → m ≤ 100 → 100 - m < f → aG A m x1 → ∃ r, aG A 100 r ∧ L_M_work_4 kt f x1 x2 M = if 0 ≤ r then (F_M_free r M).bind (fun z3 => kt z3) else L_M_work_77 ju_ M := by
  have g8 := fun (_ : Unit) => (mg0 h)
  intro f
  induction f with
  | zero => intro x1 x2 m _ _ q; omega
  | succ f ih =>
    intro x1 x2 m h2 hm hf hx
    by_cases e : m = 100
    · refine ⟨x1, e ▸ hx, ?_⟩
      conv => lhs; unfold L_M_work_4
      rw [if_pos (by rw [geI (k := 100) (n := 100) rfl]; omega)]
    · skip
      have g0 := fun (_ : Unit) => (ms0 h (j := m) (by omega))
      have g5 := fun (_ : Unit) => (ms5 h (j := m) (by omega))
      have g2 := fun (_ : Unit) => (ms2 h (j := m) (by omega))
      have jq : ∀ {α : Type} {X : Option α}, j_q (j_in x2 100) X = X := fun {α X} => j_qi (by omega) (by omega)
      have no : ¬ aE A m → aG A (m + 1) x1 := by
        intro nE
        rcases hx with ⟨a1, a2⟩ | ⟨j, a1, a2, a3, a4⟩
        · refine Or.inl ⟨a1, fun j hj => ?_⟩
          by_cases w : j < m
          · exact a2 j w
          · rw [show j = m by omega]; exact nE
        · refine Or.inr ⟨j, a1, by omega, a3, fun j' hj' q => ?_⟩
          by_cases w : j' < m
          · exact a4 j' w q
          · rw [show j' = m by omega] at q; exact absurd q nE
      by_cases q0 : A m 0 ≤ 1
      · obtain ⟨r, r1, r2⟩ := ih x1 (x2 + 1) (m + 1) (p1I h2 (by omega)) (by omega) (by omega) (no (fun w => by have := w.2.1; omega))
        refine ⟨r, r1, ?_⟩
        conv => lhs; unfold L_M_work_4
        rw [if_neg (by rw [geI (k := 100) (n := 100) rfl]; omega)]
        simp only [jq, clN h2]
        rw [if_pos (by rw [leI (k := 1) (n := 1) rfl, g0 ()]; exact q0), r2]
      by_cases q5 : A 100 0 < A m 5
      · obtain ⟨r, r1, r2⟩ := ih x1 (x2 + 1) (m + 1) (p1I h2 (by omega)) (by omega) (by omega) (no (fun w => by have := w.2.2; omega))
        refine ⟨r, r1, ?_⟩
        conv => lhs; unfold L_M_work_4
        rw [if_neg (by rw [geI (k := 100) (n := 100) rfl]; omega)]
        simp only [jq, clN h2]
        rw [if_neg (by rw [leI (k := 1) (n := 1) rfl, g0 ()]; exact q0), if_pos (Int64.lt_iff_toInt_lt.mpr (by rw [g8 (), g5 ()]; exact q5)), r2]
      have yE : aE A m := ⟨by omega, by omega, by omega⟩
      have n5 : Unit → ¬ M.2.1 215 41 < M.2.1 439 m := fun _ w => q5 (by have := Int64.lt_iff_toInt_lt.mp w; rw [g8 (), g5 ()] at this; exact this)
      rcases hx with ⟨a1, a2⟩ | ⟨j, a1, a2, a3, a4⟩
      · obtain ⟨r, r1, r2⟩ := ih x2 (x2 + 1) (m + 1) (p1I h2 (by omega)) (by omega) (by omega) (Or.inr ⟨m, h2, by omega, yE, fun j' hj' q => by
          by_cases w : j' < m
          · exact absurd q (a2 j' w)
          · rw [show j' = m by omega]; omega⟩)
        refine ⟨r, r1, ?_⟩
        conv => lhs; unfold L_M_work_4
        rw [if_neg (by rw [geI (k := 100) (n := 100) rfl]; omega)]
        simp only [jq, clN h2]
        rw [if_neg (by rw [leI (k := 1) (n := 1) rfl, g0 ()]; exact q0), if_neg (n5 ()), if_pos (by rw [ltI (k := 0) (n := 0) rfl]; omega)]
        exact r2
      · have go := fun (_ : Unit) => (ms2 h (j := j) (by omega))
        have jq1 : ∀ {α : Type} {X : Option α}, j_q (j_in x1 100) X = X := fun {α X} => j_qi (by omega) (by omega)
        by_cases o : A j 2 ≤ A m 2
        · obtain ⟨r, r1, r2⟩ := ih x1 (x2 + 1) (m + 1) (p1I h2 (by omega)) (by omega) (by omega) (Or.inr ⟨j, a1, by omega, a3, fun j' hj' q => by
            by_cases w : j' < m
            · exact a4 j' w q
            · rw [show j' = m by omega]; exact o⟩)
          refine ⟨r, r1, ?_⟩
          conv => lhs; unfold L_M_work_4
          rw [if_neg (by rw [geI (k := 100) (n := 100) rfl]; omega)]
          simp only [jq, jq1, clN h2, clN a1]
          rw [if_neg (by rw [leI (k := 1) (n := 1) rfl, g0 ()]; exact q0), if_neg (n5 ()), if_neg (by rw [ltI (k := 0) (n := 0) rfl]; omega), if_pos (Int64.le_iff_toInt_le.mpr (by rw [go (), g2 ()]; exact o)), r2]
        · obtain ⟨r, r1, r2⟩ := ih x2 (x2 + 1) (m + 1) (p1I h2 (by omega)) (by omega) (by omega) (Or.inr ⟨m, h2, by omega, yE, fun j' hj' q => by
            by_cases w : j' < m
            · have := a4 j' w q; omega
            · rw [show j' = m by omega]; omega⟩)
          refine ⟨r, r1, ?_⟩
          conv => lhs; unfold L_M_work_4
          rw [if_neg (by rw [geI (k := 100) (n := 100) rfl]; omega)]
          simp only [jq, jq1, clN h2, clN a1]
          rw [if_neg (by rw [leI (k := 1) (n := 1) rfl, g0 ()]; exact q0), if_neg (n5 ()), if_neg (by rw [ltI (k := 0) (n := 0) rfl]; omega), if_neg (fun w => o (by have := Int64.le_iff_toInt_le.mp w; rw [go (), g2 ()] at this; exact this))]
          exact r2
/-- the model's work begins with the ended jobs -/
theorem fM_w0 (h : mA M A) {g : Nat} : (∃ (r : Int32) (j : Nat), r.toInt = j ∧ aEm A j ∧ L_M_work_0 (g + 1) M = (F_M_free r M).bind (L_M_work_0 g)) ∨ ((∀ j, ¬ aE A j) ∧ L_M_work_0 (g + 1) M = L_M_work_77 ju_ M) := by
  obtain ⟨r, r1, r2⟩ := lM_w4 (kt := L_M_work_0 g) h ju_ (-1) 0 0 rfl (by omega) (by show _ < 1000000; omega) (Or.inl ⟨rfl, fun i hi => by omega⟩)
  have e : L_M_work_0 (g + 1) M = L_M_work_4 (L_M_work_0 g) ju_ (-1) 0 M := by conv => lhs; unfold L_M_work_0
  rcases r1 with ⟨a1, a2⟩ | ⟨j, a1, a2, a3, a4⟩
  · refine Or.inr ⟨fun j q => a2 j q.1 q, ?_⟩
    rw [e, r2, if_neg (by rw [geI (k := 0) (n := 0) rfl]; omega)]
  · refine Or.inl ⟨r, j, a1, ⟨a3, fun j' q => a4 j' q.1 q⟩, ?_⟩
    rw [e, r2, if_pos (by rw [geI (k := 0) (n := 0) rfl]; omega)]
end JU_4
