section JX_6
variable {S T C C' M M' D Y : jS} {n p s a i k z : Nat} {c e lo hi x1 x3 x4 k0 : Int32}
/-- what reading a zone writes, class and model -/
def FZ (a : Nat) (C C' : jS) : Prop := (∀ b j, ¬ (b = 25 ∧ (j = 2 ∨ j = 3)) → ¬ (a ≤ b ∧ b ≤ a + 2) → C'.1 b j = C.1 b j) ∧ (∀ b j, b ≠ a → C'.2.1 b j = C.2.1 b j) ∧ C'.2.2 = C.2.2
def GZ (z : Nat) (M M' : jS) : Prop := (∀ b j, ¬ (b = 215 ∧ (j = 3 ∨ j = 7)) → ¬ ((b = 217 ∨ b = 218 ∨ b = 237) ∧ j = z) → b ≠ 238 → b ≠ 229 + z → M'.1 b j = M.1 b j) ∧ (∀ b j, b ≠ 220 + z → M'.2.1 b j = M.2.1 b j) ∧ M'.2.2 = M.2.2
theorem FZ_r : FZ a C C := ⟨fun _ _ _ _ => rfl, fun _ _ _ => rfl, rfl⟩
theorem FZ_t (h1 : FZ a C C') (h2 : FZ a C' D) : FZ a C D := ⟨fun b j q r => (h2.1 b j q r).trans (h1.1 b j q r), fun b j q => (h2.2.1 b j q).trans (h1.2.1 b j q), h2.2.2.trans h1.2.2⟩
theorem GZ_r : GZ z M M := ⟨fun _ _ _ _ _ _ => rfl, fun _ _ _ => rfl, rfl⟩
theorem GZ_t (h1 : GZ z M M') (h2 : GZ z M' D) : GZ z M D := ⟨fun b j q r s t => (h2.1 b j q r s t).trans (h1.1 b j q r s t), fun b j q => (h2.2.1 b j q).trans (h1.2.1 b j q), h2.2.2.trans h1.2.2⟩
theorem FZ_T (h : fT C C') : FZ a C C' := ⟨fun b j q _ => h.1 b j q, fun b j _ => by rw [h.2], by rw [h.2]⟩
theorem GZ_N (h : gN M M') : GZ z M M' := ⟨fun b j q _ _ _ => h.1 b j q, fun b j _ => by rw [h.2], by rw [h.2]⟩
theorem FZ_R {b : Nat} (h : fR b C C') (h1 : a ≤ b) (h2 : b ≤ a + 2) : FZ a C C' := ⟨fun b' j q r => h.1 b' j q (by omega), fun b j _ => by rw [h.2], by rw [h.2]⟩
theorem GZ_R (h : gR k M M') : GZ z M M' := ⟨fun b j q _ r _ => h.1 b j q (by omega), fun b j _ => by rw [h.2], by rw [h.2]⟩
theorem FZ_i {j : Nat} {v : Int32} : FZ a C (w_i C a j v) := ⟨fun b i q r => by rw [w_ir, if_neg (by omega)], fun b j _ => rfl, rfl⟩
/-- what the model keeps of a zone -/
def zm (M : jS) (z : Nat) (x3 x4 : Int32) : Prop := M.1 217 z = x3 ∧ M.1 218 z = x4 ∧ (∀ j, bol (M.1 (229 + z) j)) ∧ ((x4 = 0 ∧ M.1 237 z = 0) ∨ (¬ x4 = 0 ∧ M.1 237 z = 660 ∧ evs 660 (M.2.1 (220 + z)) (M.1 (229 + z)) ∧ evp 660 (M.2.1 (220 + z)) (M.1 (229 + z)) (mP M x3.toInt x4.toInt 2300)))
theorem vS_i : vS S x1 (S.2.1 (220 + x1.toNatClampNeg)) (S.1 (229 + x1.toNatClampNeg)) (S.1 237 x1.toNatClampNeg) = S := by
  unfold vS eS
  rw [wB_id, wE_id]
  apply S_ext
  · intro b j
    rw [w_ir]
    by_cases q : b = 237 ∧ j = x1.toNatClampNeg
    · rw [if_pos q, q.1, q.2]
    · rw [if_neg q]
  · intro b j; rfl
  · intro b j; rfl
theorem jM_133 (hz : x1.toInt = z) (hz8 : z < 8) (hb : ∀ j, bol (M.1 (229 + z) j)) (o1 : -840 ≤ x3.toInt) (o2 : x3.toInt ≤ 840) (s1 : 0 ≤ x4.toInt) (s2 : x4.toInt ≤ 120) (r0 : ¬ x4 = 0 → rkM M 0 ∧ rkM M 4) : ∃ M', J_M_readZone_133 x1 x3 x4 M = some (none, M') ∧ GZ z M M' ∧ (∀ j, M'.1 238 j = M.1 238 j) ∧ (M'.1 215 = M.1 215) ∧ zm M' z x3 x4 := by
  have jq : ∀ {α : Type} {X : Option α}, j_q (j_in x1 8) X = X := fun {α X} => j_qN hz hz8
  have cz := clN hz
  unfold J_M_readZone_133
  simp only [jq, jl_, cz]
  have f1 : GZ z M (w_i (w_i (w_i M 217 z x3) 218 z x4) 237 z 0) := ⟨fun b j _ q _ _ => by rw [w_ir, if_neg (by omega), w_ir, if_neg (by omega), w_ir, if_neg (by omega)], fun b j _ => rfl, rfl⟩
  have t217 : (w_i (w_i (w_i M 217 z x3) 218 z x4) 237 z 0).1 217 z = x3 := by rw [w_ir, if_neg (by omega), w_ir, if_neg (by omega), w_ir, if_pos ⟨rfl, rfl⟩]
  have t218 : (w_i (w_i (w_i M 217 z x3) 218 z x4) 237 z 0).1 218 z = x4 := by rw [w_ir, if_neg (by omega), w_ir, if_pos ⟨rfl, rfl⟩]
  have t237 : (w_i (w_i (w_i M 217 z x3) 218 z x4) 237 z 0).1 237 z = 0 := by rw [w_ir, if_pos ⟨rfl, rfl⟩]
  have t229 : ∀ j, (w_i (w_i (w_i M 217 z x3) 218 z x4) 237 z 0).1 (229 + z) j = M.1 (229 + z) j := fun j => by rw [w_ir, if_neg (by omega), w_ir, if_neg (by omega), w_ir, if_neg (by omega)]
  have t238 : ∀ j, (w_i (w_i (w_i M 217 z x3) 218 z x4) 237 z 0).1 238 j = M.1 238 j := fun j => by rw [w_ir, if_neg (by omega), w_ir, if_neg (by omega), w_ir, if_neg (by omega)]
  have t215 : (w_i (w_i (w_i M 217 z x3) 218 z x4) 237 z 0).1 215 = M.1 215 := funext fun j => by rw [w_ir, if_neg (by omega), w_ir, if_neg (by omega), w_ir, if_neg (by omega)]
  generalize w_i (w_i (w_i M 217 z x3) 218 z x4) 237 z 0 = T at *
  by_cases q : x4 = 0
  · rw [if_pos q]
    exact ⟨T, rfl, f1, t238, t215, t217, t218, fun j => by rw [t229]; exact hb j, Or.inl ⟨q, t237⟩⟩
  · rw [if_neg q]
    obtain ⟨q0, q4⟩ := r0 q
    have k0 : rkM T 0 := by unfold rkM; simp only [t238]; exact q0
    have k4 : rkM T 4 := by unfold rkM; simp only [t238]; exact q4
    have n0 : x4.toInt ≠ 0 := fun w => q (eqI.mpr (by rw [w]; rfl))
    obtain ⟨E', B', r1, r2, r3, r4⟩ := lM_rz (S := T) (x1 := x1) (x3 := x3) (x4 := x4) k0 k4 (by omega) (by omega) o1 o2 (by omega) s2 ju_ 1970 1970 (T.2.1 (220 + x1.toNatClampNeg)) (T.1 (229 + x1.toNatClampNeg)) rfl (by omega) (by omega) (by show _ < (1000000 : Int); omega) (fun j => by rw [cz, t229]; exact hb j) (fun i j _ hj => by simp at hj) ⟨fun i hi => by simp at hi, fun e b w => by
      obtain ⟨y, y1, y2, -⟩ := w
      omega⟩
    have e0 : Int32.ofInt (2 * (1970 - 1970)) = T.1 237 x1.toNatClampNeg := by rw [cz, t237]; rfl
    rw [e0, vS_i] at r1
    have z8 : x1.toNatClampNeg < 8 := by omega
    have v238 : ∀ j, (vS T x1 E' B' 660).1 238 j = T.1 238 j := fun j => vS_r z8 j
    have vo : ∀ b j, ¬ (b = 237 ∧ j = z) → b ≠ 229 + z → (vS T x1 E' B' 660).1 b j = T.1 b j := by
      intro b j q1 q2
      unfold vS eS
      rw [cz, w_ir, if_neg q1, wE_1, wB_n q2]
    have vl : ∀ b j, b ≠ 220 + z → (vS T x1 E' B' 660).2.1 b j = T.2.1 b j := by
      intro b j q1
      unfold vS eS
      rw [cz, w_i2]
      unfold wE wB
      simp [q1]
    have ve : (vS T x1 E' B' 660).2.1 (220 + z) = E' := by rw [← cz]; exact vS_e
    have vb : (vS T x1 E' B' 660).1 (229 + z) = B' := by rw [← cz]; exact vS_b z8
    refine ⟨vS T x1 E' B' 660, r1, GZ_t f1 ⟨fun b j _ q2 _ q4 => vo b j (by omega) q4, fun b j q1 => vl b j q1, rfl⟩, fun j => by rw [v238, t238], ?_, ?_, ?_, ?_, Or.inr ⟨q, ?_, ?_, ?_⟩⟩
    · rw [← t215]
      exact funext fun j => vo 215 j (by omega) (by omega)
    · rw [vo 217 z (by omega) (by omega), t217]
    · rw [vo 218 z (by omega) (by omega), t218]
    · intro j; rw [vb]; exact r2 j
    · rw [← cz]; exact vS_c
    · rw [ve, vb]; exact r3
    · rw [ve, vb]
      refine evp_c r4 (fun e b => ?_)
      unfold mP mB mE rsM
      simp only [v238]
end JX_6
