section JU_5
variable {S T U C M : jS} {A A' : Nat → Nat → Int} {b j i k n x y : Nat} {p0 : Int32} {p1 : Int64}
/-- the best of the first m jobs of a kind -/
def aH (A : Nat → Nat → Int) (P : Nat → Prop) (m : Nat) (x : Int32) : Prop := (x.toInt = -1 ∧ ∀ j, j < m → ¬ P j) ∨ ∃ j : Nat, x.toInt = j ∧ j < m ∧ P j ∧ ∀ j', j' < m → P j' → ¬ ah A j' j
theorem aH_n {P : Nat → Prop} {m : Nat} {x : Int32} (hx : aH A P m x) (nP : ¬ P m) : aH A P (m + 1) x := by
  rcases hx with ⟨a1, a2⟩ | ⟨j, a1, a2, a3, a4⟩
  · refine Or.inl ⟨a1, fun j hj => ?_⟩
    by_cases w : j < m
    · exact a2 j w
    · rw [show j = m by omega]; exact nP
  · refine Or.inr ⟨j, a1, by omega, a3, fun j' hj' q => ?_⟩
    by_cases w : j' < m
    · exact a4 j' w q
    · rw [show j' = m by omega] at q; exact absurd q nP
theorem aH_f {P : Nat → Prop} {m : Nat} {x x2 : Int32} (h1 : x.toInt = -1) (hx : aH A P m x) (h2 : x2.toInt = m) (hP : P m) : aH A P (m + 1) x2 := by
  rcases hx with ⟨a1, a2⟩ | ⟨j, a1, a2, a3, a4⟩
  · refine Or.inr ⟨m, h2, by omega, hP, fun j' hj' q => ?_⟩
    by_cases w : j' < m
    · exact absurd q (a2 j' w)
    · rw [show j' = m by omega]; unfold ah; omega
  · omega
theorem aH_k {P : Nat → Prop} {m j : Nat} {x : Int32} (h1 : x.toInt = j) (hx : aH A P m x) (nh : ¬ ah A m j) : aH A P (m + 1) x := by
  rcases hx with ⟨a1, a2⟩ | ⟨j', a1, a2, a3, a4⟩
  · omega
  · have : j' = j := by omega
    subst this
    refine Or.inr ⟨j', a1, by omega, a3, fun i hi q => ?_⟩
    by_cases w : i < m
    · exact a4 i w q
    · rw [show i = m by omega]; exact nh
theorem aH_t {P : Nat → Prop} {m j : Nat} {x x2 : Int32} (h1 : x.toInt = j) (hx : aH A P m x) (h2 : x2.toInt = m) (hP : P m) (nh : ah A m j) : aH A P (m + 1) x2 := by
  rcases hx with ⟨a1, a2⟩ | ⟨j', a1, a2, a3, a4⟩
  · omega
  · have : j' = j := by omega
    subst this
    refine Or.inr ⟨m, h2, by omega, hP, fun i hi q => ?_⟩
    by_cases w : i < m
    · have := a4 i w q
      unfold ah at nh this ⊢
      omega
    · rw [show i = m by omega]; unfold ah; omega
theorem fB_ahead (h1 : bB aiP alP C A) {u v : Nat} (hu : u < 100) (hv : v < 100) : (ah A u v → F_B_isAheadOf (115 + u) (115 + v) C = some 1) ∧ (¬ ah A u v → F_B_isAheadOf (115 + u) (115 + v) C = some 0) := by
  have u4 := (cs4 h1 (j := u) (by omega))
  have v4 := (cs4 h1 (j := v) (by omega))
  have u8 := (cs8 h1 (j := u) (by omega))
  have v8 := (cs8 h1 (j := v) (by omega))
  have u2 := (cs2 h1 (j := u) (by omega))
  have v2 := (cs2 h1 (j := v) (by omega))
  unfold F_B_isAheadOf
  simp only [eqL, eqI, Int32.le_iff_toInt_le, Int64.le_iff_toInt_le, u4, v4, u8, v8, u2, v2]
  refine ⟨fun a => ?_, fun a => ?_⟩
  · unfold ah at a
    by_cases q : A u 4 = A v 4
    · rw [if_pos q]
      by_cases q8 : A u 8 = A v 8
      · rw [if_pos q8, if_neg (by omega)]
      · rw [if_neg q8, if_neg (by omega)]
    · rw [if_neg q, if_neg (by omega)]
  · unfold ah at a
    by_cases q : A u 4 = A v 4
    · rw [if_pos q]
      by_cases q8 : A u 8 = A v 8
      · rw [if_pos q8, if_pos (by omega)]
      · rw [if_neg q8, if_pos (by omega)]
    · rw [if_neg q, if_pos (by omega)]
def aPn (A : Nat → Nat → Int) (j : Nat) : Prop := j < 100 ∧ A j 0 = 1
def aD (A : Nat → Nat → Int) (j : Nat) : Prop := j < 100 ∧ A j 0 = 1 ∧ A j 4 ≤ A 100 0
theorem lJ_fp (h : cA C A) {u : Nat} (hu : (C.1 24 10).toInt = u) (hu1 : u ≤ 100) : ∀ (f : Nat) (x1 x2 : Int32) (m : Nat), x2.toInt = m → m ≤ u → u - m < f → aH A (aPn A) m x1 → ∃ r, L_J_firstPending_4 C f x1 x2 = some r ∧ aH A (aPn A) u r := by
  obtain ⟨h1, -, -⟩ := h
  intro f
  induction f with
  | zero => intro x1 x2 m _ _ q; omega
  | succ f ih =>
    intro x1 x2 m h2 hm hf hx
    unfold L_J_firstPending_4
    by_cases e : m = u
    · rw [if_pos (Int32.le_iff_toInt_le.mpr (by omega))]
      exact ⟨x1, rfl, e ▸ hx⟩
    · rw [if_neg (fun w => by have := Int32.le_iff_toInt_le.mp w; omega)]
      have jq : ∀ {α : Type} {X : Option α}, j_q (j_in x2 100) X = X := fun {α X} => j_qi (by omega) (by omega)
      simp only [jq, clN h2]
      have g0 := (cs0 h1 (j := m) (by omega))
      by_cases q : A m 0 = 1
      · rw [if_pos (eqI.mpr (by rw [g0, q]; rfl))]
        have P : aPn A m := ⟨by omega, q⟩
        by_cases n : x1.toInt = -1
        · rw [if_pos (by rw [ltI (k := 0) (n := 0) rfl]; omega)]
          exact ih _ _ (m + 1) (p1I h2 (by omega)) (by omega) (by omega) (aH_f n hx h2 P)
        · obtain ⟨j, a1, a2⟩ : ∃ j : Nat, x1.toInt = j ∧ j < m := by
            rcases hx with ⟨a1, -⟩ | ⟨j, a1, a2, -⟩
            · exact absurd a1 n
            · exact ⟨j, a1, a2⟩
          rw [if_neg (by rw [ltI (k := 0) (n := 0) rfl]; omega), j_qi (by omega) (by omega), clN a1]
          by_cases a : ah A m j
          · rw [(fB_ahead h1 (by omega) (by omega)).1 a, ob_, if_neg (by decide)]
            exact ih _ _ (m + 1) (p1I h2 (by omega)) (by omega) (by omega) (aH_t a1 hx h2 P a)
          · rw [(fB_ahead h1 (by omega) (by omega)).2 a, ob_, if_pos rfl]
            exact ih _ _ (m + 1) (p1I h2 (by omega)) (by omega) (by omega) (aH_k a1 hx a)
      · rw [if_neg (fun w => q (by have := eqI.mp w; rw [g0] at this; exact this))]
        exact ih _ _ (m + 1) (p1I h2 (by omega)) (by omega) (by omega) (aH_n hx (fun w => q w.2))
/-- the class's first pending job -/
theorem fJ_fp (h : cA C A) : ∃ r, F_J_firstPending C = some r ∧ aH A (aPn A) 100 r := by
  have h' := h
  obtain ⟨-, -, ⟨s1, s2, s3⟩, -⟩ := h'
  obtain ⟨u, hu⟩ : ∃ u : Nat, (C.1 24 10).toInt = u := ⟨(C.1 24 10).toInt.toNat, by omega⟩
  obtain ⟨r, r1, r2⟩ := lJ_fp h hu (by omega) ju_ (-1) 0 0 rfl (by omega) (by show _ < 1000000; omega) (Or.inl ⟨rfl, fun i hi => by omega⟩)
  refine ⟨r, r1, ?_⟩
  rcases r2 with ⟨a1, a2⟩ | ⟨j, a1, a2, a3, a4⟩
  · refine Or.inl ⟨a1, fun j hj q => ?_⟩
    by_cases w : j < u
    · exact a2 j w q
    · have := s3 j hj (by omega)
      have := q.2
      omega
  · refine Or.inr ⟨j, a1, by omega, a3, fun j' hj' q => ?_⟩
    by_cases w : j' < u
    · exact a4 j' w q
    · have := s3 j' hj' (by omega)
      have := q.2
      omega
theorem lM_fi (h : mA M A) : ∀ (f : Nat) (x1 x2 : Int32) (m : Nat), x2.toInt = m → m ≤ 100 → 100 - m < f → aH A (aD A) m x1 → ∃ r, L_M_first_4 M f x1 x2 = some r ∧ aH A (aD A) 100 r := by
  have g8 := (mg0 h)
  intro f
  induction f with
  | zero => intro x1 x2 m _ _ q; omega
  | succ f ih =>
    intro x1 x2 m h2 hm hf hx
    unfold L_M_first_4
    by_cases e : m = 100
    · rw [if_pos (by rw [geI (k := 100) (n := 100) rfl]; omega)]
      exact ⟨x1, rfl, e ▸ hx⟩
    · rw [if_neg (by rw [geI (k := 100) (n := 100) rfl]; omega)]
      have jq : ∀ {α : Type} {X : Option α}, j_q (j_in x2 100) X = X := fun {α X} => j_qi (by omega) (by omega)
      simp only [jq, clN h2]
      have g0 := (ms0 h (j := m) (by omega))
      have g4 := (ms4 h (j := m) (by omega))
      by_cases q : A m 0 = 1
      · rw [if_pos (eqI.mpr (by rw [g0, q]; rfl))]
        by_cases d : A m 4 ≤ A 100 0
        · rw [if_pos (Int64.le_iff_toInt_le.mpr (by rw [g8, g4]; exact d))]
          have P : aD A m := ⟨by omega, q, d⟩
          by_cases n : x1.toInt = -1
          · rw [if_pos (by rw [ltI (k := 0) (n := 0) rfl]; omega)]
            exact ih _ _ (m + 1) (p1I h2 (by omega)) (by omega) (by omega) (aH_f n hx h2 P)
          · obtain ⟨j, a1, a2⟩ : ∃ j : Nat, x1.toInt = j ∧ j < m := by
              rcases hx with ⟨a1, -⟩ | ⟨j, a1, a2, -⟩
              · exact absurd a1 n
              · exact ⟨j, a1, a2⟩
            have jq1 : ∀ {α : Type} {X : Option α}, j_q (j_in x1 100) X = X := fun {α X} => j_qi (by omega) (by omega)
            have j4 := (ms4 h (j := j) (by omega))
            have j8 := (ms8 h (j := j) (by omega))
            have m8 := (ms8 h (j := m) (by omega))
            have j2 := (ms2 h (j := j) (by omega))
            have m2 := (ms2 h (j := m) (by omega))
            rw [if_neg (by rw [ltI (k := 0) (n := 0) rfl]; omega)]
            simp only [jq1, clN a1]
            simp only [eqL, eqI, Int32.lt_iff_toInt_lt, Int64.lt_iff_toInt_lt, Int64.le_iff_toInt_le, g4, j4, j8, m8, j2, m2]
            by_cases a : ah A m j
            · have T := ih _ _ (m + 1) (p1I h2 (by omega)) (by omega) (by omega) (aH_t a1 hx h2 P a)
              unfold ah at a
              by_cases b4 : A m 4 < A j 4
              · rw [if_pos b4]; exact T
              · rw [if_neg b4, if_pos (by omega)]
                by_cases b8 : A j 8 < A m 8
                · rw [if_pos b8]; exact T
                · rw [if_neg b8, if_pos (by omega), if_neg (by omega)]; exact T
            · have T := ih _ _ (m + 1) (p1I h2 (by omega)) (by omega) (by omega) (aH_k a1 hx a)
              unfold ah at a
              rw [if_neg (by omega)]
              by_cases b4 : A m 4 = A j 4
              · rw [if_pos b4, if_neg (by omega)]
                by_cases b8 : A m 8 = A j 8
                · rw [if_pos b8, if_pos (by omega)]; exact T
                · rw [if_neg b8]; exact T
              · rw [if_neg b4]; exact T
        · rw [if_neg (fun w => d (by have := Int64.le_iff_toInt_le.mp w; rw [g8, g4] at this; exact this))]
          exact ih _ _ (m + 1) (p1I h2 (by omega)) (by omega) (by omega) (aH_n hx (fun w => d w.2.2))
      · rw [if_neg (fun w => q (by have := eqI.mp w; rw [g0] at this; exact this))]
        exact ih _ _ (m + 1) (p1I h2 (by omega)) (by omega) (by omega) (aH_n hx (fun w => q w.2.1))
theorem fM_fi (h : mA M A) : ∃ r, F_M_first M = some r ∧ aH A (aD A) 100 r := lM_fi h ju_ (-1) 0 0 rfl (by omega) (by show _ < 1000000; omega) (Or.inl ⟨rfl, fun i hi => by omega⟩)
end JU_5
