section JU_9
variable {S T U C M Y D : jS} {A A' : Nat → Nat → Int} {b j i k n x y c : Nat} {p0 : Int32} {p1 : Int64}
/-- how far the work of one advance is from its end -/
def pv (A : Nat → Nat → Int) (j : Nat) : Nat := if A j 0 = 1 then (if A j 4 ≤ A 100 0 then 0 else 1) else if 2 ≤ A j 0 then (if A j 5 ≤ A 100 0 then 2 else 3) else 0
def ps (A : Nat → Nat → Int) : Nat → Nat
  | 0 => 0
  | n + 1 => ps A n + pv A n
def pS (A : Nat → Nat → Int) : Nat := ps A 100 + 4 * (500 - (A 100 2).toNat)
theorem ps_e (n : Nat) (h : ∀ i, i < n → pv A' i = pv A i) : ps A' n = ps A n := by
  induction n with
  | zero => rfl
  | succ n ih => unfold ps; rw [ih (fun i hi => h i (by omega)), h n (by omega)]
theorem ps_u (n j : Nat) (hj : j < n) (h : ∀ i, i < n → i ≠ j → pv A' i = pv A i) : ps A' n + pv A j = ps A n + pv A' j := by
  induction n with
  | zero => omega
  | succ n ih =>
    unfold ps
    by_cases e : j = n
    · subst e
      rw [ps_e j (fun i hi => h i (by omega) (by omega))]
      omega
    · have := ih (by omega) (fun i hi hn => h i (by omega) hn)
      have := h n (by omega) (fun w => e w.symm)
      omega
theorem ps_l (n : Nat) (h : ∀ i, i < n → pv A' i ≤ pv A i) : ps A' n ≤ ps A n := by
  induction n with
  | zero => exact Nat.le_refl _
  | succ n ih =>
    unfold ps
    have := ih (fun i hi => h i (by omega))
    have := h n (by omega)
    omega
theorem ps_s (n j : Nat) (hj : j < n) (h : ∀ i, i < n → pv A' i ≤ pv A i) (hs : pv A' j < pv A j) : ps A' n < ps A n := by
  induction n with
  | zero => omega
  | succ n ih =>
    unfold ps
    by_cases e : j = n
    · subst e
      have := ps_l (A := A) (A' := A') j (fun i hi => h i (by omega))
      omega
    · have := ih (by omega) (fun i hi => h i (by omega))
      have := h n (by omega)
      omega
theorem pv_b : pv A j ≤ 3 := by
  unfold pv
  split
  · split <;> omega
  · split
    · split <;> omega
    · omega
theorem ps_b (n : Nat) : ps A n ≤ 3 * n := by
  induction n with
  | zero => exact Nat.le_refl _
  | succ n ih =>
    unfold ps
    have := pv_b (A := A) (j := n)
    omega
theorem pS_b : pS A ≤ 2300 := by
  unfold pS
  have := ps_b (A := A) 100
  omega
theorem pS_beg (hd : aD A j) (h1 : 0 ≤ A 100 2) (h2 : A 100 2 < 500) : pS (aBeg A j) < pS A := by
  obtain ⟨hj, d0, d4⟩ := hd
  obtain ⟨b2, b3, bg⟩ := aBeg_g (A := A) hj
  have c := bg 0 (by omega) (by omega)
  have := ps_u (A := A) (A' := aBeg A j) 100 j hj (fun i hi hn => by
    unfold pv
    rw [aBeg_n hj hi hn, aBeg_n hj hi hn, aBeg_n hj hi hn, c])
  have p0 : pv A j = 0 := by
    unfold pv
    rw [if_pos d0, if_pos d4]
  have := pv_b (A := aBeg A j) (j := j)
  unfold pS
  rw [b2]
  omega
theorem pS_fre {r : Int} (hd : aE A j) : pS (aFre A j r) < pS A := by
  obtain ⟨hj, d0, d5⟩ := hd
  have g : ∀ i, aFre A j r 100 i = A 100 i := fun i => aFre_n (by omega) i
  have := ps_u (A := A) (A' := aFre A j r) 100 j hj (fun i hi hn => by
    unfold pv
    rw [aFre_n hn, aFre_n hn, aFre_n hn, g])
  have p0 : pv A j = 2 := by
    unfold pv
    rw [if_neg (by omega), if_pos d0, if_pos d5]
  have p1 : pv (aFre A j r) j ≤ 1 := by
    unfold pv
    rcases aFre_j (A := A) (j := j) (r := r) with ⟨-, -, q, -⟩ | ⟨-, q, -⟩
    · rw [if_pos q]
      split <;> omega
    · rw [if_neg (by omega), if_neg (by omega)]
      omega
  unfold pS
  rw [g]
  omega
theorem pS_clk {t : Int} (h1 : A 100 0 ≤ t) (hj : j < 100) (hq : (2 ≤ A j 0 ∧ A 100 0 < A j 5 ∧ A j 5 ≤ t) ∨ (A j 0 = 1 ∧ A 100 0 < A j 4 ∧ A j 4 ≤ t)) : pS (up A 100 0 t) < pS A := by
  have g : ∀ i, i < 100 → ∀ k, up A 100 0 t i k = A i k := fun i hi k => by rw [up_r, if_neg (by omega)]
  have g0 : up A 100 0 t 100 0 = t := by rw [up_r, if_pos ⟨rfl, rfl⟩]
  have g2 : up A 100 0 t 100 2 = A 100 2 := by rw [up_r, if_neg (by omega)]
  have := ps_s (A := A) (A' := up A 100 0 t) 100 j hj (fun i hi => by
    unfold pv
    rw [g i hi, g i hi, g i hi, g0]
    by_cases a : A i 0 = 1
    · rw [if_pos a, if_pos a]
      split <;> split <;> omega
    · rw [if_neg a, if_neg a]
      by_cases b : 2 ≤ A i 0
      · rw [if_pos b, if_pos b]
        split <;> split <;> omega
      · rw [if_neg b, if_neg b]
        omega) (by
    unfold pv
    rw [g j hj, g j hj, g j hj, g0]
    rcases hq with ⟨q1, q2, q3⟩ | ⟨q1, q2, q3⟩
    · rw [if_neg (show ¬ A j 0 = 1 by omega), if_neg (show ¬ A j 0 = 1 by omega), if_pos q1, if_pos q1, if_pos q3, if_neg (show ¬ A j 5 ≤ A 100 0 by omega)]
      omega
    · rw [if_pos q1, if_pos q1, if_pos q3, if_neg (show ¬ A j 4 ≤ A 100 0 by omega)]
      omega)
  unfold pS
  rw [g2]
  omega
theorem iA_clk {B t : Int} (h : iA B A) (h1 : A 100 0 ≤ t) (h2 : t ≤ 10413791999999) : iA B (up A 100 0 t) := by
  obtain ⟨I1, I2, I3, I4, I5, I6, I7⟩ := h
  have g : ∀ i, i < 100 → ∀ k, up A 100 0 t i k = A i k := fun i hi k => by rw [up_r, if_neg (by omega)]
  have g0 : up A 100 0 t 100 0 = t := by rw [up_r, if_pos ⟨rfl, rfl⟩]
  have gn : ∀ k, k ≠ 0 → up A 100 0 t 100 k = A 100 k := fun k hk => by rw [up_r, if_neg (by omega)]
  refine ⟨fun j hj => ?_, fun j j' hj hj' => ?_, ?_, ?_, ?_, ?_, ?_⟩
  · obtain ⟨a1, a2, a3⟩ := I1 j hj
    unfold jI
    simp only [g j hj, g0, gn 4 (by omega)]
    refine ⟨a1, a2, fun q => ?_⟩
    obtain ⟨b1, b2, b3, b4, b5, b6, b7, b8, b9, b10⟩ := a3 q
    exact ⟨b1, b2, b3, b4, b5, b6, b7, b8, b9, fun w => ⟨(b10 w).1, by have := (b10 w).2; omega⟩⟩
  · simp only [g j hj, g j' hj']
    exact I2 j j' hj hj'
  · rw [g0]; omega
  · rw [gn 1 (by omega)]; exact I4
  · rw [gn 2 (by omega)]; exact I5
  · rw [gn 3 (by omega)]; exact I6
  · rw [gn 4 (by omega)]; exact I7
theorem jI_m {B B' : Int} (h : jI B A j) (hb : B ≤ B') : jI B' A j := by
  obtain ⟨a1, a2, a3⟩ := h
  refine ⟨a1, a2, fun q => ?_⟩
  obtain ⟨b1, b2, b3, b4, b5, b6, b7, b8, b9, b10⟩ := a3 q
  exact ⟨b1, b2, b3, b4, b5, b6, b7, ⟨b8.1, by omega⟩, b9, b10⟩
theorem iA_m {B B' : Int} (h : iA B A) (hb : B ≤ B') : iA B' A := by
  obtain ⟨I1, I2, I3, I4, I5, I6, I7⟩ := h
  exact ⟨fun j hj => jI_m (I1 j hj) hb, I2, I3, I4, I5, ⟨I6.1, by omega⟩, ⟨I7.1, by omega⟩⟩
theorem iA_beg {B : Int} (h : iA B A) (hd : aD A j) (h5 : A 100 2 < 500) : iA (B + 1) (aBeg A j) := by
  obtain ⟨I1, I2, I3, I4, I5, I6, I7⟩ := h
  obtain ⟨hj, d0, d4⟩ := hd
  obtain ⟨b2, b3, bg⟩ := aBeg_g (A := A) hj
  obtain ⟨j0, j3, j5, jo⟩ := aBeg_j (A := A) hj
  refine ⟨fun i hi => ?_, fun i i' hi hi' => ?_, ?_, ?_, ?_, ?_, ?_⟩
  · by_cases e : i = j
    · subst e
      obtain ⟨a1, a2, a3⟩ := I1 i hi
      obtain ⟨b1, b2, b3, b4, b5, b6, b7, b8, b9, b10⟩ := a3 (by omega)
      unfold jI
      rw [j0, j3, bg 0 (by omega) (by omega), bg 4 (by omega) (by omega)]
      simp only [jo 1 (by omega) (by omega) (by omega), jo 2 (by omega) (by omega) (by omega), jo 4 (by omega) (by omega) (by omega), jo 6 (by omega) (by omega) (by omega), jo 7 (by omega) (by omega) (by omega), jo 9 (by omega) (by omega) (by omega), jo 10 (by omega) (by omega) (by omega), jo 11 (by omega) (by omega) (by omega), jo 12 (by omega) (by omega) (by omega), jo 13 (by omega) (by omega) (by omega)]
      exact ⟨by omega, by omega, fun _ => ⟨b1, b2, b3, b4, b5, b6, b7, by omega, b9, fun _ => by omega⟩⟩
    · have := jI_m (I1 i hi) (show B ≤ B + 1 by omega)
      unfold jI at this ⊢
      simp only [aBeg_n hj hi e, bg 0 (by omega) (by omega), bg 4 (by omega) (by omega)]
      exact this
  · have st : ∀ i, i < 100 → (aBeg A j i 0 ≠ 0 → A i 0 ≠ 0) ∧ aBeg A j i 2 = A i 2 := by
      intro i hi
      by_cases e : i = j
      · subst e
        exact ⟨fun _ => by omega, jo 2 (by omega) (by omega) (by omega)⟩
      · rw [aBeg_n hj hi e, aBeg_n hj hi e]
        exact ⟨fun q => q, rfl⟩
    intro q1 q2 q3
    rw [(st i hi).2, (st i' hi').2] at q3
    exact I2 i i' hi hi' ((st i hi).1 q1) ((st i' hi').1 q2) q3
  · rw [bg 0 (by omega) (by omega)]; exact I3
  · rw [bg 1 (by omega) (by omega)]; exact I4
  · rw [b2]; omega
  · rw [b3]; omega
  · rw [bg 4 (by omega) (by omega)]; omega
theorem iA_fre {B r : Int} (h : iA B A) (hj : j < 100) (h2 : A j 0 ≠ 0) : iA B (aFre A j r) := by
  obtain ⟨I1, I2, I3, I4, I5, I6, I7⟩ := h
  have g : ∀ i, aFre A j r 100 i = A 100 i := fun i => aFre_n (by omega) i
  have af := aFre_j (A := A) (j := j) (r := r)
  refine ⟨fun i hi => ?_, fun i i' hi hi' => ?_, ?_, ?_, ?_, ?_, ?_⟩
  · by_cases e : i = j
    · subst e
      obtain ⟨a1, a2, a3⟩ := I1 i hi
      obtain ⟨b1, b2, b3, b4, b5, b6, b7, b8, b9, b10⟩ := a3 h2
      rcases af with ⟨r1, r2, q0, q4, jo⟩ | ⟨-, q0, -⟩
      · unfold jI
        rw [q0, q4, g]
        simp only [jo 1 (by omega) (by omega), jo 2 (by omega) (by omega), jo 3 (by omega) (by omega), jo 6 (by omega) (by omega), jo 7 (by omega) (by omega), jo 9 (by omega) (by omega), jo 10 (by omega) (by omega), jo 11 (by omega) (by omega), jo 12 (by omega) (by omega), jo 13 (by omega) (by omega)]
        rw [g]
        exact ⟨by omega, by omega, fun _ => ⟨b1, b2, b3, ⟨r1, r2⟩, b5, b6, b7, b8, b9, fun w => by omega⟩⟩
      · unfold jI
        rw [q0]
        exact ⟨by omega, by omega, fun w => absurd rfl w⟩
    · have := I1 i hi
      unfold jI at this ⊢
      simp only [aFre_n e, g]
      exact this
  · have st : ∀ i, i < 100 → (aFre A j r i 0 ≠ 0 → A i 0 ≠ 0) ∧ aFre A j r i 2 = A i 2 := by
      intro i hi
      by_cases e : i = j
      · subst e
        refine ⟨fun _ => h2, ?_⟩
        rcases af with ⟨-, -, -, -, jo⟩ | ⟨-, -, jo⟩
        · exact jo 2 (by omega) (by omega)
        · exact jo 2 (by omega)
      · rw [aFre_n e, aFre_n e]
        exact ⟨fun q => q, rfl⟩
    intro q1 q2 q3
    rw [(st i hi).2, (st i' hi').2] at q3
    exact I2 i i' hi hi' ((st i hi).1 q1) ((st i' hi').1 q2) q3
  · rw [g]; exact I3
  · rw [g]; exact I4
  · rw [g]; exact I5
  · rw [g]; exact I6
  · rw [g]; exact I7
end JU_9
