section JZ_5
variable {S T C C' M M' D Y : jS} {n p s f a u u0 u1 st L : Nat} {c e x1 x2 x4 x5 x6 x7 x8 x9 : Int32}
/-- the class's set of a field is the model's -/
def kS (C : jS) (a : Nat) (M : jS) (f : Nat) : Prop := (∀ i, i < 330 → bol (M.1 (369 + f) i)) ∧ ∀ u, lo_ f ≤ u → u ≤ hi_ f → (bt (C.2.1 (a + 1) (wd f u)) (bi f u) = true ↔ ¬ M.1 (369 + f) (u - lo_ f) = 0)
/-- only values are in the class's sets -/
def kO (C : jS) (a : Nat) : Prop := ∀ w i, w < 12 → bt (C.2.1 (a + 1) w) i = true → ∃ g u, g < 7 ∧ lo_ g ≤ u ∧ u ≤ hi_ g ∧ w = wd g u ∧ i = bi g u
/-- the other fields are left alone -/
def uO (f : Nat) (C : jS) (a : Nat) (C' : jS) : Prop := ∀ g u, g < 7 → g ≠ f → lo_ g ≤ u → u ≤ hi_ g → bt (C'.2.1 (a + 1) (wd g u)) (bi g u) = bt (C.2.1 (a + 1) (wd g u)) (bi g u)
def gF (f : Nat) (M M' : jS) : Prop := (∀ b j, ¬ (b = 215 ∧ (j = 3 ∨ j = 7)) → b ≠ 369 + f → M'.1 b j = M.1 b j) ∧ M'.2 = M.2
theorem gF_r : gF f M M := ⟨fun _ _ _ _ => rfl, rfl⟩
theorem gF_t (h1 : gF f M M') (h2 : gF f M' D) : gF f M D := ⟨fun b j q r => (h2.1 b j q r).trans (h1.1 b j q r), h2.2.trans h1.2⟩
theorem gF_N (h : gN M M') : gF f M M' := ⟨fun b j q _ => h.1 b j (by omega), h.2⟩
theorem gF_X (h : gF f M M') (hf : f < 7) : GX M M' := ⟨fun b j q r _ => h.1 b j (by omega) (by omega), h.2⟩
theorem uO_r : uO f C a C := fun _ _ _ _ _ _ => rfl
theorem uO_t (h1 : uO f C a C') (h2 : uO f C' a D) : uO f C a D := fun g u q1 q2 q3 q4 => (h2 g u q1 q2 q3 q4).trans (h1 g u q1 q2 q3 q4)
theorem uO_e (h : C'.2 = C.2) : uO f C a C' := fun g u _ _ _ _ => by rw [h]
theorem kO_e (h : C'.2 = C.2) (hk : kO C a) : kO C' a := fun w i hw q => hk w i hw (by rw [← h]; exact q)
theorem kS_e (h : C'.2 = C.2) (hm : ∀ i, M'.1 (369 + f) i = M.1 (369 + f) i) (hk : kS C a M f) : kS C' a M' f := by
  unfold kS at hk ⊢
  simp only [h, hm]
  exact hk
theorem wd_i {g u' : Nat} (hg : g < 7) (hf : f < 7) (h1 : lo_ g ≤ u) (h2 : u ≤ hi_ g) (h3 : lo_ f ≤ u') (h4 : u' ≤ hi_ f) (e1 : wd g u = wd f u') (e2 : bi g u = bi f u') : g = f ∧ u = u' := by
  obtain ⟨l1, l2⟩ := lh6
  unfold wd at e1
  unfold bi at e2
  by_cases q : g = 6
  · subst q
    by_cases w : f = 6
    · subst w
      simp only [if_true] at e1 e2
      exact ⟨rfl, by omega⟩
    · rw [if_pos rfl, if_neg w] at e1
      omega
  · by_cases w : f = 6
    · subst w
      rw [if_neg q, if_pos rfl] at e1
      omega
    · rw [if_neg q, if_neg w] at e1
      rw [if_neg q, if_neg w] at e2
      exact ⟨e1, e2⟩
/-- both sides add the same values -/
theorem as_k {T0 : Nat → Prop} (hf : f < 7) (hT : ∀ t, T0 t → lo_ f ≤ vl f u0 t ∧ vl f u0 t ≤ hi_ f) (hc : ∀ w i, bt (C'.2.1 (a + 1) w) i = true ↔ (bt (C.2.1 (a + 1) w) i = true ∨ ∃ t, T0 t ∧ w = wd f (vl f u0 t) ∧ i = bi f (vl f u0 t))) : (kO C a → kO C' a) ∧ uO f C a C' ∧ ((∀ i, (∃ t, T0 t ∧ i = vl f u0 t - lo_ f) → M'.1 (369 + f) i = 1) → (∀ i, ¬ (∃ t, T0 t ∧ i = vl f u0 t - lo_ f) → M'.1 (369 + f) i = M.1 (369 + f) i) → kS C a M f → kS C' a M' f) := by
  refine ⟨fun hk w i hw q => ?_, fun g u q1 q2 q3 q4 => ?_, fun h1 h2 hk => ⟨fun i hi => ?_, fun u q1 q2 => ?_⟩⟩
  · rcases (hc w i).mp q with v | ⟨t, t1, t2, t3⟩
    · exact hk w i hw v
    · exact ⟨f, vl f u0 t, hf, (hT t t1).1, (hT t t1).2, t2, t3⟩
  · have := hc (wd g u) (bi g u)
    have nt : ¬ ∃ t, T0 t ∧ wd g u = wd f (vl f u0 t) ∧ bi g u = bi f (vl f u0 t) := fun ⟨t, t1, t2, t3⟩ => q2 (wd_i q1 hf q3 q4 (hT t t1).1 (hT t t1).2 t2 t3).1
    cases h1 : bt (C'.2.1 (a + 1) (wd g u)) (bi g u) with
    | true =>
      rcases this.mp h1 with v | v
      · exact v.symm
      · exact absurd v nt
    | false =>
      cases h2 : bt (C.2.1 (a + 1) (wd g u)) (bi g u) with
      | true => rw [this.mpr (Or.inl h2)] at h1; exact h1.symm ▸ rfl
      | false => rfl
  · by_cases w : ∃ t, T0 t ∧ i = vl f u0 t - lo_ f
    · exact Or.inr (h1 i w)
    · rw [h2 i w]; exact hk.1 i hi
  · rw [hc, hk.2 u q1 q2]
    by_cases w : ∃ t, T0 t ∧ u - lo_ f = vl f u0 t - lo_ f
    · rw [h1 _ w]
      obtain ⟨t, t1, t2⟩ := w
      have e : u = vl f u0 t := by have := hT t t1; omega
      exact ⟨fun _ => by decide, fun _ => Or.inr ⟨t, t1, by rw [← e], by rw [← e]⟩⟩
    · rw [h2 _ w]
      constructor
      · rintro (v | ⟨t, t1, t2, t3⟩)
        · exact v
        · exact absurd ⟨t, t1, by rw [(wd_i hf hf q1 q2 (hT t t1).1 (hT t t1).2 t2 t3).2]⟩ w
      · exact fun v => Or.inl v
end JZ_5
