section JQ_1
variable {S T : jS} {h : Nat}
theorem in_s {f g : Nat → Int} {n p : Nat} {d : Int} (hs : ∀ i j, i < j → j < n → f i < f j) (hp : p ≤ n) (h1 : ∀ i, i < p → f i < d) (h2 : ∀ i, p ≤ i → i < n → d < f i) (ga : ∀ j, j < p → g j = f j) (gp : g p = d) (gb : ∀ j, p < j → j ≤ n → g j = f (j - 1)) : (∀ i j, i < j → j < n + 1 → g i < g j) ∧ ∀ x, (∃ i, i < n + 1 ∧ g i = x) ↔ ((∃ i, i < n ∧ f i = x) ∨ x = d) := by
  refine ⟨fun i j hij hj => ?_, fun x => ⟨?_, ?_⟩⟩
  · by_cases c1 : j < p
    · rw [ga j c1, ga i (by omega)]
      exact hs i j hij (by omega)
    · by_cases c2 : j = p
      · rw [c2, gp, ga i (by omega)]
        exact h1 i (by omega)
      · rw [gb j (by omega) (by omega)]
        by_cases c3 : i < p
        · rw [ga i c3]
          by_cases c4 : i = j - 1
          · omega
          · exact hs i (j - 1) (by omega) (by omega)
        · by_cases c4 : i = p
          · rw [c4, gp]
            exact h2 _ (by omega) (by omega)
          · rw [gb i (by omega) (by omega)]
            exact hs _ _ (by omega) (by omega)
  · rintro ⟨i, i1, i2⟩
    by_cases c1 : i < p
    · rw [ga i c1] at i2
      exact Or.inl ⟨i, by omega, i2⟩
    · by_cases c2 : i = p
      · rw [c2, gp] at i2
        exact Or.inr i2.symm
      · rw [gb i (by omega) (by omega)] at i2
        exact Or.inl ⟨i - 1, by omega, i2⟩
  · rintro (⟨i, i1, i2⟩ | rfl)
    · by_cases c1 : i < p
      · exact ⟨i, by omega, by rw [ga i c1]; exact i2⟩
      · refine ⟨i + 1, by omega, ?_⟩
        rw [gb (i + 1) (by omega) (by omega)]
        exact i2
    · exact ⟨p, by omega, gp⟩
theorem rm_s {f g : Nat → Int} {n p : Nat} (hs : ∀ i j, i < j → j < n → f i < f j) (hp : p < n) (ga : ∀ j, j < p → g j = f j) (gb : ∀ j, p ≤ j → j < n - 1 → g j = f (j + 1)) : (∀ i j, i < j → j < n - 1 → g i < g j) ∧ ∀ x, (∃ i, i < n - 1 ∧ g i = x) ↔ ((∃ i, i < n ∧ f i = x) ∧ x ≠ f p) := by
  have inj : ∀ i j, i < n → j < n → f i = f j → i = j := fun i j hi hj e => by
    by_cases c1 : i < j
    · have := hs i j c1 hj
      omega
    · by_cases c2 : j < i
      · have := hs j i c2 hi
        omega
      · omega
  refine ⟨fun i j hij hj => ?_, fun x => ⟨?_, ?_⟩⟩
  · by_cases c1 : j < p
    · rw [ga j c1, ga i (by omega)]
      exact hs i j hij (by omega)
    · rw [gb j (by omega) hj]
      by_cases c3 : i < p
      · rw [ga i c3]
        exact hs _ _ (by omega) (by omega)
      · rw [gb i (by omega) (by omega)]
        exact hs _ _ (by omega) (by omega)
  · rintro ⟨i, i1, i2⟩
    by_cases c1 : i < p
    · rw [ga i c1] at i2
      refine ⟨⟨i, by omega, i2⟩, fun e => ?_⟩
      have := inj i p (by omega) hp (i2.trans e)
      omega
    · rw [gb i (by omega) i1] at i2
      refine ⟨⟨i + 1, by omega, i2⟩, fun e => ?_⟩
      have := inj (i + 1) p (by omega) hp (i2.trans e)
      omega
  · rintro ⟨⟨i, i1, i2⟩, e⟩
    have ne : i ≠ p := fun q => e (by rw [← i2, q])
    by_cases c1 : i < p
    · exact ⟨i, by omega, by rw [ga i c1]; exact i2⟩
    · refine ⟨i - 1, by omega, ?_⟩
      rw [gb (i - 1) (by omega) (by omega), show i - 1 + 1 = i by omega]
      exact i2
end JQ_1
