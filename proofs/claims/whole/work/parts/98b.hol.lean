section JQ_2
variable {S T : jS} {h : Nat}
theorem cpk {sp dp n : Int32} {N s d m : Nat} (h1 : sp.toInt = s) (h2 : dp.toInt = d) (h3 : n.toInt = m) (b1 : s + m ≤ N) (b2 : d + m ≤ N) : cp_ok sp dp n N = true := by
  unfold cp_ok
  simp only [clN h1, clN h2, clN h3, Bool.and_eq_true, Bool.not_eq_true', decide_eq_false_iff_not, decide_eq_true_eq]
  refine ⟨⟨⟨⟨fun q => ?_, fun q => ?_⟩, fun q => ?_⟩, b1⟩, b2⟩
  · have := Int32.lt_iff_toInt_lt.mp q
    simp only [Int32.reduceToInt] at this
    omega
  · have := Int32.lt_iff_toInt_lt.mp q
    simp only [Int32.reduceToInt] at this
    omega
  · have := Int32.lt_iff_toInt_lt.mp q
    simp only [Int32.reduceToInt] at this
    omega
theorem sbI {x y : Int32} {n p : Nat} (h1 : x.toInt = n) (h2 : y.toInt = p) (hp : p ≤ n) : (x - y).toInt = ((n - p : Nat) : Int) := by
  have := hiI x
  rw [Int32.toInt_sub, h1, h2, bs32 (by omega) (by omega)]
  omega
theorem fH_in {p0 d : Int32} {n p : Nat} (hh : 100 ≤ h) (hk : hsk S h) (hn : (S.1 h 1).toInt = n) (n2 : n < 200) (hp : p0.toInt = p) (pn : p ≤ n) (h1 : ∀ i, i < p → (S.1 (h + 1) i).toInt < d.toInt) (h2 : ∀ i, p ≤ i → i < n → d.toInt < (S.1 (h + 1) i).toInt) : ∃ T, F_H_insert h p0 d S = some T ∧ T.2 = S.2 ∧ (∀ b, b ≠ h → b ≠ h + 1 → T.1 b = S.1 b) ∧ T.1 h 1 = S.1 h 1 + 1 ∧ hsk T h ∧ ∀ x, hld T h x ↔ (hld S h x ∨ x = d.toInt) := by
  have hn200 : hn_ h = 200 := by unfold hn_; rw [if_neg (by omega)]
  obtain ⟨k1, k2, k3, k4⟩ := hk
  have es := sbI hn hp pn
  have ep := p1I hp (by omega)
  unfold F_H_insert
  rw [hn200, j_qt (cpk hp ep es (by omega) (by omega)), jl_, j_qi (by omega) (by omega), jl_, jl_, clN hp, clN ep, clN es]
  have r1 : ∀ j, (w_i (w_i (w_c S (h + 1) p (p + 1) (n - p)) (h + 1) p d) h 1 ((w_i (w_c S (h + 1) p (p + 1) (n - p)) (h + 1) p d).1 h 1 + 1)).1 (h + 1) j = if j = p then d else if p + 1 ≤ j ∧ j < p + 1 + (n - p) then S.1 (h + 1) (j - (p + 1) + p) else S.1 (h + 1) j := by
    intro j
    rw [w_ir, if_neg (fun q => by omega), w_ir]
    by_cases e : j = p
    · rw [if_pos ⟨rfl, e⟩, if_pos e]
    · rw [if_neg (fun q => e q.2), if_neg e, w_cr, if_pos rfl]
      rfl
  have r2 : (w_i (w_c S (h + 1) p (p + 1) (n - p)) (h + 1) p d).1 h 1 = S.1 h 1 := by
    rw [w_ir, if_neg (fun q => by omega), w_cr, if_neg (by omega)]
  have r3 : (w_i (w_i (w_c S (h + 1) p (p + 1) (n - p)) (h + 1) p d) h 1 ((w_i (w_c S (h + 1) p (p + 1) (n - p)) (h + 1) p d).1 h 1 + 1)).1 h 1 = S.1 h 1 + 1 := by
    rw [w_ir, if_pos ⟨rfl, rfl⟩, r2]
  have r4 : ∀ b, b ≠ h → b ≠ h + 1 → (w_i (w_i (w_c S (h + 1) p (p + 1) (n - p)) (h + 1) p d) h 1 ((w_i (w_c S (h + 1) p (p + 1) (n - p)) (h + 1) p d).1 h 1 + 1)).1 b = S.1 b := by
    intro b q1 q2
    funext j
    rw [w_ir, if_neg (fun q => q1 q.1), w_ir, if_neg (fun q => q2 q.1), w_cr, if_neg q2]
  refine ⟨_, rfl, rfl, r4, r3, ?_⟩
  generalize w_i (w_i (w_c S (h + 1) p (p + 1) (n - p)) (h + 1) p d) h 1 ((w_i (w_c S (h + 1) p (p + 1) (n - p)) (h + 1) p d).1 h 1 + 1) = T at *
  have e3 : (T.1 h 1).toInt = n + 1 := by
    rw [r3, p1I hn (by omega)]
    omega
  obtain ⟨s1, s2⟩ := in_s (f := fun i => (S.1 (h + 1) i).toInt) (g := fun i => (T.1 (h + 1) i).toInt) (n := n) (p := p) (d := d.toInt) (fun i j q1 q2 => k4 i j q1 (by omega)) pn h1 h2 (fun j q => by
      simp only [r1]
      rw [if_neg (by omega), if_neg (by omega)]) (by
      simp only [r1]
      rw [if_true]) (fun j q1 q2 => by
      simp only [r1]
      rw [if_neg (by omega), if_pos (by omega), show j - (p + 1) + p = j - 1 by omega])
  refine ⟨⟨by omega, by omega, by omega, fun i j q1 q2 => s1 i j q1 (by omega)⟩, fun x => ?_⟩
  have := s2 x
  unfold hld
  rw [e3, hn]
  constructor
  · rintro ⟨i, i1, i2⟩
    rcases this.mp ⟨i, by omega, i2⟩ with ⟨j, j1, j2⟩ | j
    · exact Or.inl ⟨j, by omega, j2⟩
    · exact Or.inr j
  · intro q
    obtain ⟨i, i1, i2⟩ := this.mpr (by
      rcases q with ⟨j, j1, j2⟩ | j
      · exact Or.inl ⟨j, by omega, j2⟩
      · exact Or.inr j)
    exact ⟨i, by omega, i2⟩
theorem fH_rm {p0 : Int32} {n p : Nat} (hh : 100 ≤ h) (hk : hsk S h) (hn : (S.1 h 1).toInt = n) (hp : p0.toInt = p) (pn : p < n) : ∃ T, F_H_removeAt h p0 S = some T ∧ T.2 = S.2 ∧ (∀ b, b ≠ h → b ≠ h + 1 → T.1 b = S.1 b) ∧ T.1 h 1 = S.1 h 1 - 1 ∧ hsk T h ∧ ∀ x, hld T h x ↔ (hld S h x ∧ x ≠ (S.1 (h + 1) p).toInt) := by
  have hn200 : hn_ h = 200 := by unfold hn_; rw [if_neg (by omega)]
  obtain ⟨k1, k2, k3, k4⟩ := hk
  have es := sbI hn hp (by omega)
  have es2 := mI1 es (by omega)
  have ep := p1I hp (by omega)
  unfold F_H_removeAt
  rw [hn200, j_qt (cpk ep hp es2 (by omega) (by omega)), jl_, jl_, clN hp, clN ep, clN es2]
  have r1 : ∀ j, (w_i (w_c S (h + 1) (p + 1) p (n - p - 1)) h 1 ((w_c S (h + 1) (p + 1) p (n - p - 1)).1 h 1 - 1)).1 (h + 1) j = if p ≤ j ∧ j < p + (n - p - 1) then S.1 (h + 1) (j - p + (p + 1)) else S.1 (h + 1) j := by
    intro j
    rw [w_ir, if_neg (fun q => by omega), w_cr, if_pos rfl]
    rfl
  have r3 : (w_i (w_c S (h + 1) (p + 1) p (n - p - 1)) h 1 ((w_c S (h + 1) (p + 1) p (n - p - 1)).1 h 1 - 1)).1 h 1 = S.1 h 1 - 1 := by
    rw [w_ir, if_pos ⟨rfl, rfl⟩, w_cr, if_neg (by omega)]
  have r4 : ∀ b, b ≠ h → b ≠ h + 1 → (w_i (w_c S (h + 1) (p + 1) p (n - p - 1)) h 1 ((w_c S (h + 1) (p + 1) p (n - p - 1)).1 h 1 - 1)).1 b = S.1 b := by
    intro b q1 q2
    funext j
    rw [w_ir, if_neg (fun q => q1 q.1), w_cr, if_neg q2]
  refine ⟨_, rfl, rfl, r4, r3, ?_⟩
  generalize w_i (w_c S (h + 1) (p + 1) p (n - p - 1)) h 1 ((w_c S (h + 1) (p + 1) p (n - p - 1)).1 h 1 - 1) = T at *
  have e3 : (T.1 h 1).toInt = ((n - 1 : Nat) : Int) := by
    rw [r3, mI1 hn (by omega)]
  obtain ⟨s1, s2⟩ := rm_s (f := fun i => (S.1 (h + 1) i).toInt) (g := fun i => (T.1 (h + 1) i).toInt) (n := n) (p := p) (fun i j q1 q2 => k4 i j q1 (by omega)) pn (fun j q => by
      simp only [r1]
      rw [if_neg (by omega)]) (fun j q1 q2 => by
      simp only [r1]
      rw [if_pos (by omega), show j - p + (p + 1) = j + 1 by omega])
  refine ⟨⟨by omega, by omega, by omega, fun i j q1 q2 => s1 i j q1 (by omega)⟩, fun x => ?_⟩
  have := s2 x
  unfold hld
  rw [e3, hn]
  constructor
  · rintro ⟨i, i1, i2⟩
    obtain ⟨⟨j, j1, j2⟩, j3⟩ := this.mp ⟨i, by omega, i2⟩
    exact ⟨⟨j, by omega, j2⟩, j3⟩
  · rintro ⟨⟨j, j1, j2⟩, j3⟩
    obtain ⟨i, i1, i2⟩ := this.mpr ⟨⟨j, by omega, j2⟩, j3⟩
    exact ⟨i, by omega, i2⟩
end JQ_2
