section JU_1
variable {S T U C : jS} {A A' : Nat → Nat → Int} {b j i k n x y : Nat}
/-- one number is changed -/
def up (A : Nat → Nat → Int) (j i : Nat) (v : Int) : Nat → Nat → Int := fun b k => if b = j ∧ k = i then v else A b k
theorem up_r {v : Int} : up A j i v b k = if b = j ∧ k = i then v else A b k := rfl
/-- how many of the first n jobs have a state above k -/
def cN (A : Nat → Nat → Int) (k : Int) : Nat → Nat
  | 0 => 0
  | n + 1 => cN A k n + (if A n 0 ≤ k then 0 else 1)
theorem cN_b {k : Int} (n : Nat) : cN A k n ≤ n := by
  induction n with
  | zero => exact Nat.le_refl _
  | succ n ih => unfold cN; split <;> omega
theorem cN_e {k : Int} (n : Nat) (h : ∀ j, j < n → (A' j 0 ≤ k ↔ A j 0 ≤ k)) : cN A' k n = cN A k n := by
  induction n with
  | zero => rfl
  | succ n ih =>
    unfold cN
    rw [ih (fun j hj => h j (by omega))]
    have := h n (by omega)
    by_cases q : A n 0 ≤ k
    · rw [if_pos q, if_pos (this.mpr q)]
    · rw [if_neg q, if_neg (fun w => q (this.mp w))]
theorem cN_u {k : Int} (n j : Nat) (hj : j < n) (h : ∀ i, i < n → i ≠ j → (A' i 0 ≤ k ↔ A i 0 ≤ k)) : cN A' k n + (if A j 0 ≤ k then 0 else 1) = cN A k n + (if A' j 0 ≤ k then 0 else 1) := by
  induction n with
  | zero => omega
  | succ n ih =>
    unfold cN
    by_cases e : j = n
    · subst e
      rw [cN_e j (fun i hi => h i (by omega) (by omega))]
      omega
    · have g := ih (by omega) (fun i hi hn => h i (by omega) hn)
      have := h n (by omega) (fun w => e w.symm)
      by_cases q : A n 0 ≤ k
      · rw [if_pos q, if_pos (this.mpr q)]; omega
      · rw [if_neg q, if_neg (fun w => q (this.mp w))]; omega
theorem cN_f {k : Int} (n : Nat) (h : ∀ j, j < n → k < A j 0) : cN A k n = n := by
  induction n with
  | zero => rfl
  | succ n ih =>
    unfold cN
    rw [ih (fun j hj => h j (by omega)), if_neg (by have := h n (by omega); omega)]
theorem cN_m {k : Int} (n m : Nat) (h : n ≤ m) : cN A k n ≤ cN A k m := by
  induction m with
  | zero => rw [show n = 0 by omega]; exact Nat.le_refl _
  | succ m ih =>
    by_cases e : n = m + 1
    · rw [e]; exact Nat.le_refl _
    · have := ih (by omega)
      conv => rhs; unfold cN
      omega
theorem cN_s {k : Int32} (n : Nat) (h : ∀ j, j < n → (S.1 436 j).toInt = A j 0) : stN S k n = cN A k.toInt n := by
  induction n with
  | zero => rfl
  | succ n ih =>
    unfold stN cN
    rw [ih (fun j hj => h j (by omega)), ← h n (by omega)]
    by_cases q : S.1 436 n ≤ k
    · rw [if_pos q, if_pos (Int32.le_iff_toInt_le.mp q)]
    · rw [if_neg q, if_neg (fun w => q (Int32.le_iff_toInt_le.mpr w))]
/-- the memory has the numbers of A, cell by cell -/
def bB (P Q : Nat → Nat → Nat → Nat → Prop) (S : jS) (A : Nat → Nat → Int) : Prop := (∀ b j x y, P b j x y → (S.1 b j).toInt = A x y) ∧ (∀ b j x y, Q b j x y → (S.2.1 b j).toInt = A x y)
def aiP (b j x y : Nat) : Prop := (115 ≤ b ∧ b < 215 ∧ x + 115 = b ∧ y = j ∧ j < 14 ∧ ¬ (4 ≤ j ∧ j ≤ 7)) ∨ (b = 24 ∧ j = 15 ∧ x = 100 ∧ y = 1) ∨ (b = 47 ∧ j = 3 ∧ x = 100 ∧ y = 2) ∨ (b = 24 ∧ j = 12 ∧ x = 100 ∧ y = 4) ∨ (b = 24 ∧ j = 16 ∧ x = 100 ∧ y = 5) ∨ (b = 49 ∧ j < 500 ∧ x = 101 + j ∧ y = 1)
def alP (b j x y : Nat) : Prop := (115 ≤ b ∧ b < 215 ∧ x + 115 = b ∧ y = j ∧ (j = 4 ∨ j = 5 ∨ j = 7)) ∨ (b = 24 ∧ j = 8 ∧ x = 100 ∧ y = 0) ∨ (b = 47 ∧ j = 4 ∧ x = 100 ∧ y = 3) ∨ (b = 48 ∧ j < 500 ∧ x = 101 + j ∧ y = 0) ∨ (b = 50 ∧ j < 500 ∧ x = 101 + j ∧ y = 2)
def biP (b j x y : Nat) : Prop := (j < 100 ∧ x = j ∧ 436 ≤ b ∧ (b < 438 ∨ 444 ≤ b ∧ b < 450) ∧ y + 436 = b) ∨ (b = 215 ∧ j = 42 ∧ x = 100 ∧ y = 1) ∨ (b = 215 ∧ j = 49 ∧ x = 100 ∧ y = 2) ∨ (b = 215 ∧ j = 45 ∧ x = 100 ∧ y = 5) ∨ (b = 451 ∧ j < 500 ∧ x = 101 + j ∧ y = 1)
def blP (b j x y : Nat) : Prop := (j < 100 ∧ x = j ∧ ((b = 441 ∧ y = 2) ∨ (b = 440 ∧ y = 3) ∨ (b = 438 ∧ y = 4) ∨ (b = 439 ∧ y = 5) ∨ (b = 442 ∧ y = 6) ∨ (b = 443 ∧ y = 7))) ∨ (b = 215 ∧ j = 41 ∧ x = 100 ∧ y = 0) ∨ (b = 215 ∧ j = 44 ∧ x = 100 ∧ y = 3) ∨ (b = 215 ∧ j = 43 ∧ x = 100 ∧ y = 4) ∨ (b = 450 ∧ j < 500 ∧ x = 101 + j ∧ y = 0) ∨ (b = 452 ∧ j < 500 ∧ x = 101 + j ∧ y = 2)
theorem bB_c {P Q : Nat → Nat → Nat → Nat → Prop} (h : bB P Q S A) (e : ∀ x y, A' x y = A x y) : bB P Q S A' := ⟨fun b j x y q => by rw [e]; exact h.1 b j x y q, fun b j x y q => by rw [e]; exact h.2 b j x y q⟩
theorem ca_i {v : Int32} {w : Int} (h : bB aiP alP S A) (hp : aiP b j x y) (hv : v.toInt = w) : bB aiP alP (w_i S b j v) (up A x y w) := by
  refine ⟨fun b' j' x' y' q => ?_, fun b' j' x' y' q => ?_⟩
  · rw [w_ir, up_r]
    by_cases e : b' = b ∧ j' = j
    · rw [if_pos e, if_pos (by obtain ⟨rfl, rfl⟩ := e; unfold aiP at q hp; omega), hv]
    · rw [if_neg e, if_neg (by unfold aiP at q hp; omega)]
      exact h.1 _ _ _ _ q
  · rw [w_i2, up_r, if_neg (by unfold alP at q; unfold aiP at hp; omega)]
    exact h.2 _ _ _ _ q
theorem ca_l {v : Int64} {w : Int} (h : bB aiP alP S A) (hp : alP b j x y) (hv : v.toInt = w) : bB aiP alP (w_l S b j v) (up A x y w) := by
  refine ⟨fun b' j' x' y' q => ?_, fun b' j' x' y' q => ?_⟩
  · rw [w_l1, up_r, if_neg (by unfold aiP at q; unfold alP at hp; omega)]
    exact h.1 _ _ _ _ q
  · rw [w_lr, up_r]
    by_cases e : b' = b ∧ j' = j
    · rw [if_pos e, if_pos (by obtain ⟨rfl, rfl⟩ := e; unfold alP at q hp; omega), hv]
    · rw [if_neg e, if_neg (by unfold alP at q hp; omega)]
      exact h.2 _ _ _ _ q
theorem ca_o {v : Int32} (h : bB aiP alP S A) (hp : ∀ x y, ¬ aiP b j x y) : bB aiP alP (w_i S b j v) A := by
  refine ⟨fun b' j' x' y' q => ?_, fun b' j' x' y' q => ?_⟩
  · rw [w_ir, if_neg (fun e => by obtain ⟨rfl, rfl⟩ := e; exact hp _ _ q)]
    exact h.1 _ _ _ _ q
  · rw [w_i2]; exact h.2 _ _ _ _ q
theorem ca_q {v : Int64} (h : bB aiP alP S A) (hp : ∀ x y, ¬ alP b j x y) : bB aiP alP (w_l S b j v) A := by
  refine ⟨fun b' j' x' y' q => ?_, fun b' j' x' y' q => ?_⟩
  · rw [w_l1]; exact h.1 _ _ _ _ q
  · rw [w_lr, if_neg (fun e => by obtain ⟨rfl, rfl⟩ := e; exact hp _ _ q)]
    exact h.2 _ _ _ _ q
theorem ma_i {v : Int32} {w : Int} (h : bB biP blP S A) (hp : biP b j x y) (hv : v.toInt = w) : bB biP blP (w_i S b j v) (up A x y w) := by
  refine ⟨fun b' j' x' y' q => ?_, fun b' j' x' y' q => ?_⟩
  · rw [w_ir, up_r]
    by_cases e : b' = b ∧ j' = j
    · rw [if_pos e, if_pos (by obtain ⟨rfl, rfl⟩ := e; unfold biP at q hp; omega), hv]
    · rw [if_neg e, if_neg (by unfold biP at q hp; omega)]
      exact h.1 _ _ _ _ q
  · rw [w_i2, up_r, if_neg (by unfold blP at q; unfold biP at hp; omega)]
    exact h.2 _ _ _ _ q
theorem ma_l {v : Int64} {w : Int} (h : bB biP blP S A) (hp : blP b j x y) (hv : v.toInt = w) : bB biP blP (w_l S b j v) (up A x y w) := by
  refine ⟨fun b' j' x' y' q => ?_, fun b' j' x' y' q => ?_⟩
  · rw [w_l1, up_r, if_neg (by unfold biP at q; unfold blP at hp; omega)]
    exact h.1 _ _ _ _ q
  · rw [w_lr, up_r]
    by_cases e : b' = b ∧ j' = j
    · rw [if_pos e, if_pos (by obtain ⟨rfl, rfl⟩ := e; unfold blP at q hp; omega), hv]
    · rw [if_neg e, if_neg (by unfold blP at q hp; omega)]
      exact h.2 _ _ _ _ q
theorem ma_o {v : Int32} (h : bB biP blP S A) (hp : ∀ x y, ¬ biP b j x y) : bB biP blP (w_i S b j v) A := by
  refine ⟨fun b' j' x' y' q => ?_, fun b' j' x' y' q => ?_⟩
  · rw [w_ir, if_neg (fun e => by obtain ⟨rfl, rfl⟩ := e; exact hp _ _ q)]
    exact h.1 _ _ _ _ q
  · rw [w_i2]; exact h.2 _ _ _ _ q
/-- a row of the class's jobs -/
def jr (b : Nat) : Prop := b = 24 ∨ (46 ≤ b ∧ b ≤ 50) ∨ (115 ≤ b ∧ b < 215)
/-- what the class's side of the jobs may write -/
def fc (S T : jS) : Prop := (∀ b j, ¬ jr b → ¬ (jz_ b = true ∧ j = 6) → T.1 b j = S.1 b j) ∧ (∀ b j, ¬ jr b → ¬ (jz_ b = true ∧ (j = 4 ∨ j = 5)) → T.2.1 b j = S.2.1 b j) ∧ (∀ b j, b ≠ 32 → T.2.2 b j = S.2.2 b j)
/-- the same, zones left alone -/
def f0 (S T : jS) : Prop := (∀ b j, ¬ jr b → T.1 b j = S.1 b j) ∧ (∀ b j, ¬ jr b → T.2.1 b j = S.2.1 b j) ∧ T.2.2 = S.2.2
/-- what the model's side may write -/
def fm (S T : jS) : Prop := (∀ b j, b < 436 → ¬ (b = 215 ∧ (j = 4 ∨ j = 5 ∨ j = 6 ∨ j = 42 ∨ j = 45 ∨ j = 49)) → T.1 b j = S.1 b j) ∧ (∀ b j, b < 436 → ¬ (b = 215 ∧ (j = 41 ∨ j = 43 ∨ j = 44)) → T.2.1 b j = S.2.1 b j) ∧ T.2.2 = S.2.2
theorem fc_r : fc S S := ⟨fun _ _ _ _ => rfl, fun _ _ _ _ => rfl, fun _ _ _ => rfl⟩
theorem fc_t (h1 : fc S T) (h2 : fc T U) : fc S U := ⟨fun b j q r => (h2.1 b j q r).trans (h1.1 b j q r), fun b j q r => (h2.2.1 b j q r).trans (h1.2.1 b j q r), fun b j q => (h2.2.2 b j q).trans (h1.2.2 b j q)⟩
theorem f0_r : f0 S S := ⟨fun _ _ _ => rfl, fun _ _ _ => rfl, rfl⟩
theorem f0_tt (h1 : f0 S T) (h2 : f0 T U) : f0 S U := ⟨fun b j q => (h2.1 b j q).trans (h1.1 b j q), fun b j q => (h2.2.1 b j q).trans (h1.2.1 b j q), h2.2.2.trans h1.2.2⟩
theorem f0_c (h : f0 S T) : fc S T := ⟨fun b j q _ => h.1 b j q, fun b j q _ => h.2.1 b j q, fun b j _ => by rw [h.2.2]⟩
theorem f0_i {v : Int32} (h : f0 S T) (hb : jr b) : f0 S (w_i T b j v) := ⟨fun b' j' q => by rw [w_ir, if_neg (fun e : b' = b ∧ j' = j => q (e.1 ▸ hb))]; exact h.1 b' j' q, fun b' j' q => by rw [w_i2]; exact h.2.1 b' j' q, h.2.2⟩
theorem f0_l {v : Int64} (h : f0 S T) (hb : jr b) : f0 S (w_l T b j v) := ⟨fun b' j' q => by rw [w_l1]; exact h.1 b' j' q, fun b' j' q => by rw [w_lr, if_neg (fun e : b' = b ∧ j' = j => q (e.1 ▸ hb))]; exact h.2.1 b' j' q, h.2.2⟩
theorem fm_r : fm S S := ⟨fun _ _ _ _ => rfl, fun _ _ _ _ => rfl, rfl⟩
theorem fm_t (h1 : fm S T) (h2 : fm T U) : fm S U := ⟨fun b j q r => (h2.1 b j q r).trans (h1.1 b j q r), fun b j q r => (h2.2.1 b j q r).trans (h1.2.1 b j q r), h2.2.2.trans h1.2.2⟩
theorem fm_i {v : Int32} (h : fm S T) (hb : 436 ≤ b ∨ (b = 215 ∧ (j = 4 ∨ j = 5 ∨ j = 6 ∨ j = 42 ∨ j = 45 ∨ j = 49))) : fm S (w_i T b j v) := ⟨fun b' j' q r => by rw [w_ir, if_neg (by omega)]; exact h.1 b' j' q r, fun b' j' q r => by rw [w_i2]; exact h.2.1 b' j' q r, h.2.2⟩
theorem fm_l {v : Int64} (h : fm S T) (hb : 436 ≤ b ∨ (b = 215 ∧ (j = 41 ∨ j = 43 ∨ j = 44))) : fm S (w_l T b j v) := ⟨fun b' j' q r => by rw [w_l1]; exact h.1 b' j' q r, fun b' j' q r => by rw [w_lr, if_neg (by omega)]; exact h.2.1 b' j' q r, h.2.2⟩
theorem fm_d {yy m d : Int32} (h : fm S T) : fm S (dt_S T yy m d) := by
  refine ⟨fun b j q r => ?_, fun b j q r => h.2.1 b j q r, h.2.2⟩
  by_cases e : b = 215
  · subst e
    rw [dS_o (by omega) (by omega) (by omega)]
    exact h.1 _ _ q r
  · rw [dS_1 e]; exact h.1 _ _ q r
theorem fc_v (h : fc S T) : sv S T := ⟨fun b j q r => h.1 b j (by unfold jr; unfold nj at q; omega) r, fun b j q r => h.2.1 b j (by unfold jr; unfold nj at q; omega) r, trivial, h.2.2⟩
theorem fm_v (h : fm S T) : sv S T := ⟨fun b j q r => h.1 b j (by unfold nj at q; omega) (by unfold nj at q; omega), fun b j q r => h.2.1 b j (by unfold nj at q; omega) (by unfold nj at q; omega), trivial, fun b j _ => by rw [h.2.2]⟩
theorem zca_v {c : Nat} (hs : sv S T) (hc : jz_ c = true) (h4 : T.2.1 c 4 = S.2.1 c 4) (h5 : T.2.1 c 5 = S.2.1 c 5) (h6 : T.1 c 6 = S.1 c 6) : zca T c = zca S c := by
  unfold zca
  rw [h4, h5, h6, sv_zst hs hc]
theorem f0_z (h : f0 S T) (hz : rZ S) : rZ T := by
  refine sv_rZ (fc_v (f0_c h)) (fun z h8 => ?_) hz
  obtain ⟨Z1, -, -, Z4, -⟩ := hz.2.1 z h8
  have b := jz_b Z1
  have n : ¬ jr (S.2.2 27 z) := by unfold jr; omega
  rw [zca_v (fc_v (f0_c h)) Z1 (h.2.1 _ _ n) (h.2.1 _ _ n) (h.1 _ _ n)]
  exact Z4
theorem fm_z (h : fm S T) (hz : rZ S) : rZ T := by
  refine sv_rZ (fm_v h) (fun z h8 => ?_) hz
  obtain ⟨Z1, -, -, Z4, -⟩ := hz.2.1 z h8
  have b := jz_b Z1
  rw [zca_v (fm_v h) Z1 (h.2.1 _ _ (by omega) (by omega)) (h.2.1 _ _ (by omega) (by omega)) (h.1 _ _ (by omega) (by omega))]
  exact Z4
theorem fc_m (h : fc S T) (hm : bB biP blP S A) : bB biP blP T A := by
  refine ⟨fun b j x y q => ?_, fun b j x y q => ?_⟩
  · rw [h.1 b j (by unfold jr; unfold biP at q; omega) (fun w => by have := jz_b w.1; unfold biP at q; omega)]
    exact hm.1 _ _ _ _ q
  · rw [h.2.1 b j (by unfold jr; unfold blP at q; omega) (fun w => by have := jz_b w.1; unfold blP at q; omega)]
    exact hm.2 _ _ _ _ q
theorem fm_a (h : fm S T) (hm : bB aiP alP S A) : bB aiP alP T A := by
  refine ⟨fun b j x y q => ?_, fun b j x y q => ?_⟩
  · rw [h.1 b j (by unfold aiP at q; omega) (by unfold aiP at q; omega)]
    exact hm.1 _ _ _ _ q
  · rw [h.2.1 b j (by unfold alP at q; omega) (by unfold alP at q; omega)]
    exact hm.2 _ _ _ _ q
theorem dS_bB {yy m d : Int32} (hm : bB biP blP S A) : bB biP blP (dt_S S yy m d) A := by
  refine ⟨fun b j x y q => ?_, fun b j x y q => hm.2 _ _ _ _ q⟩
  by_cases e : b = 215
  · subst e
    rw [dS_o (by unfold biP at q; omega) (by unfold biP at q; omega) (by unfold biP at q; omega)]
    exact hm.1 _ _ _ _ q
  · rw [dS_1 e]; exact hm.1 _ _ _ _ q
end JU_1
