section JL_2
variable {S V : jS} {a h c k z : Nat}
/-- the changes of a zone of the class, in thousandths -/
def zP (S : jS) (c : Nat) (e : Int64) (b : Int32) : Prop := ∃ y, 1970 ≤ y ∧ y < 2300 ∧ ((b = 1 ∧ e.toInt = 1000 * zB S c y) ∨ (b = 0 ∧ e.toInt = 1000 * zE S c y))
/-- a zone of the class and one of the model say the same -/
def zR (S : jS) (c z : Nat) : Prop := (S.1 c 0).toInt = 60 * (S.1 217 z).toInt ∧ (S.1 c 1).toInt = 60 * (S.1 218 z).toInt ∧ ((S.1 c 1 = 0 ∧ S.1 237 z = 0) ∨ (¬ S.1 c 1 = 0 ∧ S.1 237 z = 660 ∧ evs 660 (S.2.1 (220 + z)) (S.1 (229 + z)) ∧ evp 660 (S.2.1 (220 + z)) (S.1 (229 + z)) (zP S c)))
theorem zR_n (hz : zR S c z) : ∃ n : Nat, (S.1 237 z).toInt = n ∧ n ≤ 660 ∧ evs n (S.2.1 (220 + z)) (S.1 (229 + z)) := by
  rcases hz.2.2 with ⟨-, q⟩ | ⟨-, q, q2, -⟩
  · exact ⟨0, by rw [q]; rfl, by omega, fun i j _ hj => by omega⟩
  · exact ⟨660, by rw [q]; rfl, by omega, q2⟩
theorem zB_b (hk : zok S c) (hs : ¬ S.1 c 1 = 0) {y : Int} (h1 : 1970 ≤ y) (h2 : y ≤ 2299) : -100000 ≤ zB S c y ∧ zB S c y ≤ 10500000000 := by
  obtain ⟨k1, k2, k3, k4, k5⟩ := hk
  have := rsS_b (k5 hs).1 h1 h2
  unfold zB
  omega
theorem zE_b (hk : zok S c) (hs : ¬ S.1 c 1 = 0) {y : Int} (h1 : 1970 ≤ y) (h2 : y ≤ 2299) : -100000 ≤ zE S c y ∧ zE S c y ≤ 10500000000 := by
  obtain ⟨k1, k2, k3, k4, k5⟩ := hk
  have := rsS_b (k5 hs).2 h1 h2
  unfold zE
  omega
/-- every event is a whole second within bounds -/
theorem zR_e (hk : zok S c) (hz : zR S c z) {n : Nat} (hn : (S.1 237 z).toInt = n) {i : Nat} (hi : i < n) : ∃ e : Int, (S.2.1 (220 + z) i).toInt = 1000 * e ∧ -100000 ≤ e ∧ e ≤ 10500000000 := by
  rcases hz.2.2 with ⟨-, q⟩ | ⟨s, q, -, q3⟩
  · rw [q] at hn
    simp only [Int32.reduceToInt] at hn
    omega
  · rw [q] at hn
    simp only [Int32.reduceToInt] at hn
    obtain ⟨y, y1, y2, ⟨-, y3⟩ | ⟨-, y3⟩⟩ := q3.1 i (by omega)
    · have := zB_b hk s y1 (show y ≤ 2299 by omega)
      exact ⟨_, y3, this.1, this.2⟩
    · have := zE_b hk s y1 (show y ≤ 2299 by omega)
      exact ⟨_, y3, this.1, this.2⟩
/-- the offset that the model counts is that of the class -/
theorem zR_of (hk : zok S c) (hz : zR S c z) {n p : Nat} {x : Int} (hn : (S.1 237 z).toInt = n) (hp : p ≤ n) (h1 : ∀ i, i < p → (S.2.1 (220 + z) i).toInt ≤ 1000 * x) (h2 : ∀ i, p ≤ i → i < n → 1000 * x < (S.2.1 (220 + z) i).toInt) : zof S c x (60 * ((S.1 217 z).toInt + if 0 < p ∧ ¬ S.1 (229 + z) (p - 1) = 0 then (S.1 218 z).toInt else 0)) := by
  obtain ⟨z1, z2, ⟨q, q2⟩ | ⟨s, q, qs, qp⟩⟩ := hz
  · rw [q2] at hn
    simp only [Int32.reduceToInt] at hn
    refine Or.inl ⟨q, ?_⟩
    rw [if_neg (fun w => by omega)]
    omega
  · rw [q] at hn
    simp only [Int32.reduceToInt] at hn
    have hn' : n = 660 := by omega
    subst hn'
    have ev : ∀ (b : Int32) (y : Int), 1970 ≤ y → y ≤ 2299 → ∀ e : Int, (-100000 ≤ e ∧ e ≤ 10500000000) → (∀ w : Int64, w.toInt = 1000 * e → (b = 1 ∧ w.toInt = 1000 * zB S c y) ∨ (b = 0 ∧ w.toInt = 1000 * zE S c y)) → ∃ i, i < 660 ∧ (S.2.1 (220 + z) i).toInt = 1000 * e ∧ S.1 (229 + z) i = b := by
      intro b y y1 y2 e eb hp
      have e1 : (Int64.ofInt (1000 * e)).toInt = 1000 * e := tL (by omega) (by omega)
      obtain ⟨i, i1, i2, i3⟩ := qp.2 (Int64.ofInt (1000 * e)) b ⟨y, y1, by omega, hp _ e1⟩
      exact ⟨i, i1, by rw [i2, e1], i3⟩
    have key : zsum S c x ↔ (0 < p ∧ ¬ S.1 (229 + z) (p - 1) = 0) := by
      constructor
      · rintro ⟨y, y1, y2, y3, y4⟩
        obtain ⟨i, i1, i2, i3⟩ := ev 1 y y1 y2 (zB S c y) (zB_b hk s y1 y2) (fun e he => Or.inl ⟨rfl, he⟩)
        have ip : i < p := by
          by_cases g : i < p
          · exact g
          · have := h2 i (by omega) i1
            omega
        refine ⟨by omega, fun w => ?_⟩
        obtain ⟨y', w1, w2, ⟨w3, -⟩ | ⟨-, w3⟩⟩ := qp.1 (p - 1) (by omega)
        · rw [w] at w3; exact absurd w3 (by decide)
        · have l1 := h1 (p - 1) (by omega)
          have l2 := y4 y' w1 (by omega) (by omega)
          have l3 := evs_le qs (i := i) (j := p - 1) (by omega) (by omega)
          omega
      · rintro ⟨p1, p2⟩
        obtain ⟨y, w1, w2, ⟨w3, w4⟩ | ⟨w3, -⟩⟩ := qp.1 (p - 1) (by omega)
        · have l1 := h1 (p - 1) (by omega)
          refine ⟨y, w1, by omega, by omega, fun z' u1 u2 u3 => ?_⟩
          obtain ⟨i, i1, i2, i3⟩ := ev 0 z' u1 u2 (zE S c z') (zE_b hk s u1 u2) (fun e he => Or.inr ⟨rfl, he⟩)
          have ip : i < p := by
            by_cases g : i < p
            · exact g
            · have := h2 i (by omega) i1
              omega
          have ip2 : i ≠ p - 1 := fun w => p2 (by rw [← w]; exact i3)
          rcases qs i (p - 1) (by omega) (by omega) with l | ⟨-, l⟩
          · have := Int64.lt_iff_toInt_lt.mp l
            omega
          · exact absurd (l i3) p2
        · exact absurd w3 p2
    by_cases g : 0 < p ∧ ¬ S.1 (229 + z) (p - 1) = 0
    · rw [if_pos g]
      exact Or.inr (Or.inl ⟨s, key.mpr g, by omega⟩)
    · rw [if_neg g]
      exact Or.inr (Or.inr ⟨s, fun w => g (key.mp w), by omega⟩)
end JL_2
