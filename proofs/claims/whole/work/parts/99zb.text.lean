section JX_2
variable {S T C C' M M' : jS} {n p : Nat} {c e x1 x2 x3 : Int32}
/-- class and model read the same text at the same place -/
def tx (C M : jS) (n p : Nat) : Prop := n ≤ 400 ∧ p ≤ n ∧ (C.1 25 1).toInt = n ∧ (M.1 215 2).toInt = n ∧ (C.1 25 2).toInt = p ∧ (M.1 215 7).toInt = p ∧ (C.1 25 3 = -1 ∧ M.1 215 3 = -1) ∧ ∀ j : Nat, j < n → C.1 26 j = M.1 216 j ∧ -128 ≤ (C.1 26 j).toInt ∧ (C.1 26 j).toInt ≤ 127
/-- the class's text is broken -/
def bk (C : jS) (n p : Nat) (e : Int32) : Prop := n ≤ 400 ∧ p ≤ n ∧ (C.1 25 1).toInt = n ∧ (C.1 25 2).toInt = p ∧ C.1 25 3 = e ∧ e ≠ -1
def fT (C C' : jS) : Prop := (∀ b j, ¬ (b = 25 ∧ (j = 2 ∨ j = 3)) → C'.1 b j = C.1 b j) ∧ C'.2 = C.2
def gN (M M' : jS) : Prop := (∀ b j, ¬ (b = 215 ∧ (j = 3 ∨ j = 7)) → M'.1 b j = M.1 b j) ∧ M'.2 = M.2
theorem fT_r : fT C C := ⟨fun _ _ _ => rfl, rfl⟩
theorem gN_r : gN M M := ⟨fun _ _ _ => rfl, rfl⟩
theorem fT_t {D : jS} (h1 : fT C C') (h2 : fT C' D) : fT C D := ⟨fun b j q => (h2.1 b j q).trans (h1.1 b j q), h2.2.trans h1.2⟩
theorem gN_t {D : jS} (h1 : gN M M') (h2 : gN M' D) : gN M D := ⟨fun b j q => (h2.1 b j q).trans (h1.1 b j q), h2.2.trans h1.2⟩
theorem fT_i {j : Nat} {v : Int32} (hj : j = 2 ∨ j = 3) : fT C (w_i C 25 j v) := ⟨fun b i q => by rw [w_ir, if_neg (by omega)], rfl⟩
theorem gN_i {j : Nat} {v : Int32} (hj : j = 3 ∨ j = 7) : gN M (w_i M 215 j v) := ⟨fun b i q => by rw [w_ir, if_neg (by omega)], rfl⟩
/-- what stands at the place -/
def pkv (C : jS) (n p : Nat) : Int32 := if p < n then C.1 26 p &&& 255 else -1
theorem by256 : ∀ k : Fin 256, (Int32.ofInt ((k.val : Int) - 128) &&& 255 = 32 → k.val = 160) ∧ 0 ≤ (Int32.ofInt ((k.val : Int) - 128) &&& 255).toInt := by
  decide +kernel
theorem by_ {x : Int32} (h1 : -128 ≤ x.toInt) (h2 : x.toInt ≤ 127) : (x &&& 255 = 32 ↔ x = 32) ∧ 0 ≤ (x &&& 255).toInt := by
  obtain ⟨a, b⟩ := by256 ⟨(x.toInt + 128).toNat, by omega⟩
  have e : Int32.ofInt ((((x.toInt + 128).toNat : Nat) : Int) - 128) = x := eqI.mpr (by rw [tI (by omega) (by omega)]; omega)
  simp only [e] at a b
  refine ⟨⟨fun q => ?_, fun q => by rw [q]; decide⟩, b⟩
  have := a q
  exact eqI.mpr (by simp only [Int32.reduceToInt]; omega)
theorem pkv_0 (h : tx C M n p) (hp : p < n) : 0 ≤ (pkv C n p).toInt := by
  unfold pkv
  rw [if_pos hp]
  have := h.2.2.2.2.2.2.2 p hp
  exact (by_ this.2.1 this.2.2).2
theorem pkv_1 (hp : ¬ p < n) : pkv C n p = -1 := by
  unfold pkv
  rw [if_neg hp]
theorem fT_pk (h : tx C M n p) : F_T_peek C = some (pkv C n p) := by
  obtain ⟨h1, h2, h3, h4, h5, h6, h7, h8⟩ := h
  unfold F_T_peek pkv
  rw [if_pos h7.1]
  by_cases q : p < n
  · rw [if_pos (Int32.lt_iff_toInt_lt.mpr (by rw [h3, h5]; omega)), if_pos q, j_qN h5 (by omega), clN h5]
  · rw [if_neg (fun w => q (by have := Int32.lt_iff_toInt_lt.mp w; rw [h3, h5] at this; omega)), if_neg q]
theorem fM_pk (h : tx C M n p) : F_M_peek M = some (pkv C n p) := by
  obtain ⟨h1, h2, h3, h4, h5, h6, h7, h8⟩ := h
  unfold F_M_peek pkv
  by_cases q : p < n
  · rw [if_neg (fun w => by have := Int32.le_iff_toInt_le.mp w; rw [h4, h6] at this; omega), if_pos q, j_qN h6 (by omega), clN h6, (h8 p q).1]
  · rw [if_pos (Int32.le_iff_toInt_le.mpr (by rw [h4, h6]; omega)), if_neg q]
theorem fB_pk (h : bk C n p e) : F_T_peek C = some (-1) := by
  obtain ⟨h1, h2, h3, h4, h5, h6⟩ := h
  unfold F_T_peek
  rw [h5, if_neg h6]
/-- one sign on, on both sides -/
def c_1 (C : jS) : jS := w_i C 25 2 (C.1 25 2 + 1)
def m_1 (M : jS) : jS := w_i M 215 7 (M.1 215 7 + 1)
theorem fT_1 : fT C (c_1 C) := fT_i (Or.inl rfl)
theorem gN_1 : gN M (m_1 M) := gN_i (Or.inr rfl)
theorem tx_1 (h : tx C M n p) (hp : p < n) : tx (c_1 C) (m_1 M) n (p + 1) := by
  obtain ⟨h1, h2, h3, h4, h5, h6, h7, h8⟩ := h
  unfold c_1 m_1
  refine ⟨h1, by omega, ?_, ?_, ?_, ?_, ?_, fun j hj => ?_⟩
  · rw [w_ir, if_neg (by omega)]; exact h3
  · rw [w_ir, if_neg (by omega)]; exact h4
  · rw [w_ir, if_pos ⟨rfl, rfl⟩]; exact p1I h5 (by omega)
  · rw [w_ir, if_pos ⟨rfl, rfl⟩]; exact p1I h6 (by omega)
  · exact ⟨by rw [w_ir, if_neg (by omega)]; exact h7.1, by rw [w_ir, if_neg (by omega)]; exact h7.2⟩
  · rw [w_ir, if_neg (by omega), w_ir, if_neg (by omega)]; exact h8 j hj
theorem bk_1 (h : bk C n p e) (hp : p < n) : bk (c_1 C) n (p + 1) e := by
  obtain ⟨h1, h2, h3, h4, h5, h6⟩ := h
  unfold c_1
  refine ⟨h1, by omega, ?_, ?_, ?_, h6⟩
  · rw [w_ir, if_neg (by omega)]; exact h3
  · rw [w_ir, if_pos ⟨rfl, rfl⟩]; exact p1I h4 (by omega)
  · rw [w_ir, if_neg (by omega)]; exact h5
theorem fT_tk (h : tx C M n p) (hc : 0 ≤ c.toInt) : (pkv C n p = c → p < n ∧ F_T_take c C = some (1, c_1 C)) ∧ (¬ pkv C n p = c → F_T_take c C = some (0, C)) := by
  unfold F_T_take
  rw [fT_pk h, ob_, jl_]
  refine ⟨fun q => ⟨?_, by rw [if_pos q]; rfl⟩, fun q => by rw [if_neg q]⟩
  by_cases w : p < n
  · exact w
  · rw [pkv_1 w] at q
    rw [← q] at hc
    exact absurd hc (by decide)
theorem fB_tk (h : bk C n p e) (hc : 0 ≤ c.toInt) : F_T_take c C = some (0, C) := by
  unfold F_T_take
  rw [fB_pk h, ob_, if_neg (fun w => by rw [← w] at hc; exact absurd hc (by decide))]
theorem fT_br (h : tx C M n p) {v : Int32} (hv : v ≠ -1) : F_T_breakAt v C = some (w_i C 25 3 v) ∧ bk (w_i C 25 3 v) n p v := by
  obtain ⟨h1, h2, h3, h4, h5, h6, h7, h8⟩ := h
  refine ⟨by unfold F_T_breakAt; rw [if_pos h7.1, jl_], h1, h2, ?_, ?_, ?_, hv⟩
  · rw [w_ir, if_neg (by omega)]; exact h3
  · rw [w_ir, if_neg (by omega)]; exact h5
  · rw [w_ir, if_pos ⟨rfl, rfl⟩]
theorem fB_br (h : bk C n p e) {v : Int32} : F_T_breakAt v C = some C := by
  obtain ⟨h1, h2, h3, h4, h5, h6⟩ := h
  unfold F_T_breakAt
  rw [h5, if_neg h6]
/-- how both sides may come out of a step -/
def oX (C M : jS) (n : Nat) (C' : jS) (ok : jS → Prop) (bad : jS → Prop) : Prop := fT C C' ∧ ((∃ M' d, ok M' ∧ gN M M' ∧ tx C' M' n ((C.1 25 2).toNatClampNeg + d)) ∨ (∃ M' p' e, bad M' ∧ gN M M' ∧ bk C' n p' e ∧ M'.1 215 3 = e))
theorem c1_p (h : tx C M n p) (q : p < n) : ((c_1 C).1 25 2).toNatClampNeg = (C.1 25 2).toNatClampNeg + 1 := by
  rw [clN (tx_1 h q).2.2.2.2.1, clN h.2.2.2.2.1]
theorem pos_n (h : tx C M n p) : C.1 25 2 ≠ -1 := fun w => by
  have := h.2.2.2.2.1
  rw [w] at this
  simp only [Int32.reduceToInt] at this
  omega
theorem pos_e (h : tx C M n p) : M.1 215 7 = C.1 25 2 := eqI.mpr (by rw [h.2.2.2.2.1, h.2.2.2.2.2.1])
theorem fM_bad {v : Int32} : F_M_bad v M = some (some 12, w_i M 215 3 v) := rfl
theorem bad_e (h : tx C M n p) {v : Int32} (hv : v ≠ -1) : (∃ M' p' e, (some (some 12, w_i M 215 3 v) : Option (Option Nat × jS)) = some (some 12, M') ∧ gN M M' ∧ bk (w_i C 25 3 v) n p' e ∧ M'.1 215 3 = e) := ⟨_, p, v, rfl, gN_i (Or.inl rfl), (fT_br h hv).2, by rw [w_ir, if_pos ⟨rfl, rfl⟩]⟩
/-- a sign is required -/
theorem fT_rq (h : tx C M n p) (hc : 0 ≤ c.toInt) : ∃ C', F_T_require c C = some C' ∧ oX C M n C' (fun M' => F_M_expect c M = some (none, M')) (fun M' => F_M_expect c M = some (some 12, M')) := by
  unfold F_T_require F_M_expect J_M_expect_16
  by_cases q : pkv C n p = c
  · obtain ⟨a, b⟩ := (fT_tk h hc).1 q
    rw [b, ob_, fM_pk h, ob_]
    refine ⟨c_1 C, by rw [if_neg (show ¬ (1 : Int32) = 0 by decide)], fT_1, Or.inl ⟨m_1 M, 1, by rw [if_pos q, jl_]; rfl, gN_1, by rw [clN h.2.2.2.2.1]; exact tx_1 h a⟩⟩
  · rw [(fT_tk h hc).2 q, ob_, fM_pk h, ob_, if_pos rfl, if_neg q, fM_bad, jxv_1, pos_e h]
    obtain ⟨b1, b2⟩ := fT_br h (pos_n h)
    refine ⟨_, by rw [b1, ob_], fT_i (Or.inr rfl), Or.inr ⟨w_i M 215 3 (C.1 25 2), p, C.1 25 2, rfl, gN_i (Or.inl rfl), b2, by rw [w_ir, if_pos ⟨rfl, rfl⟩]⟩⟩
theorem fB_rq (h : bk C n p e) (hc : 0 ≤ c.toInt) : F_T_require c C = some C := by
  unfold F_T_require
  rw [fB_tk h hc, ob_, if_pos rfl, fB_br h, ob_]
theorem fT_dn (h : tx C M n p) : F_T_isDone C = some (if p < n then 0 else 1) := by
  unfold F_T_isDone
  rw [fT_pk h, ob_]
  by_cases q : p < n
  · rw [if_pos q, if_neg (fun w => by have := pkv_0 h q; rw [w] at this; exact absurd this (by decide))]
  · rw [if_neg q, pkv_1 q, if_pos rfl]
theorem fB_dn (h : bk C n p e) : F_T_isDone C = some 1 := by
  unfold F_T_isDone
  rw [fB_pk h, ob_, if_pos rfl]
theorem fM_dn (h : tx C M n p) : (M.1 215 2 ≤ M.1 215 7) = ¬ p < n := by
  obtain ⟨h1, h2, h3, h4, h5, h6, h7, h8⟩ := h
  rw [Int32.le_iff_toInt_le, h4, h6]
  exact propext ⟨fun _ => by omega, fun _ => by omega⟩
/-- the end is required -/
theorem fT_re (h : tx C M n p) : ∃ C', F_T_requireEnd C = some C' ∧ fT C C' ∧ ((¬ p < n ∧ C' = C) ∨ (p < n ∧ bk C' n p (M.1 215 7))) := by
  unfold F_T_requireEnd
  rw [fT_dn h, ob_]
  by_cases q : p < n
  · rw [if_pos q, if_pos rfl]
    obtain ⟨b1, b2⟩ := fT_br h (pos_n h)
    exact ⟨_, by rw [b1, ob_], fT_i (Or.inr rfl), Or.inr ⟨q, by rw [pos_e h]; exact b2⟩⟩
  · rw [if_neg q, if_neg (by decide)]
    exact ⟨C, rfl, fT_r, Or.inl ⟨q, rfl⟩⟩
theorem fB_re (h : bk C n p e) : F_T_requireEnd C = some C := by
  unfold F_T_requireEnd
  rw [fB_dn h, ob_, if_neg (by decide)]
end JX_2
