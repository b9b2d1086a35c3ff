section JX_4
variable {S T C C' M M' D Y : jS} {n p s a i k : Nat} {c e lo hi x3 k0 : Int32}
theorem tx_c {v : Int32} (h : tx C M n p) (h1 : a ≠ 25) (h2 : a ≠ 26) : tx (w_i C a i v) M n p := by
  obtain ⟨h1', h2', h3, h4, h5, h6, h7, h8⟩ := h
  refine ⟨h1', h2', ?_, h4, ?_, h6, ?_, fun j hj => ?_⟩
  · rw [w_ir, if_neg (by omega)]; exact h3
  · rw [w_ir, if_neg (by omega)]; exact h5
  · exact ⟨by rw [w_ir, if_neg (by omega)]; exact h7.1, h7.2⟩
  · rw [w_ir, if_neg (by omega)]; exact h8 j hj
theorem tx_m {v : Int32} (h : tx C M n p) (h1 : a ≠ 215) (h2 : a ≠ 216) : tx C (w_i M a i v) n p := by
  obtain ⟨h1', h2', h3, h4, h5, h6, h7, h8⟩ := h
  refine ⟨h1', h2', h3, ?_, h5, ?_, ⟨h7.1, by rw [w_ir, if_neg (by omega)]; exact h7.2⟩, fun j hj => ?_⟩
  · rw [w_ir, if_neg (by omega)]; exact h4
  · rw [w_ir, if_neg (by omega)]; exact h6
  · rw [w_ir, if_neg (by omega)]; exact h8 j hj
theorem bk_c {v : Int32} (h : bk C n p e) (h1 : a ≠ 25) : bk (w_i C a i v) n p e := by
  obtain ⟨h1', h2, h3, h4, h5, h6⟩ := h
  refine ⟨h1', h2, ?_, ?_, ?_, h6⟩
  · rw [w_ir, if_neg (by omega)]; exact h3
  · rw [w_ir, if_neg (by omega)]; exact h4
  · rw [w_ir, if_neg (by omega)]; exact h5
/-- blanks on both sides -/
theorem lT_bl : ∀ (f g : Nat) (C M : jS) (p : Nat), tx C M n p → n - p < f → n - p < g → ∃ C' M' d, L_T_requireBlanks_6 f C = some C' ∧ L_M_blanks_17 g M = some (none, M') ∧ fT C C' ∧ gN M M' ∧ tx C' M' n (p + d) := by
  intro f
  induction f with
  | zero => intro g C M p _ q; omega
  | succ f ih =>
    intro g C M p h hf hg
    obtain ⟨g, rfl⟩ : ∃ k, g = k + 1 := ⟨g - 1, by omega⟩
    unfold L_T_requireBlanks_6 L_M_blanks_17
    rw [fM_pk h, ob_]
    have h' := h
    obtain ⟨a1, a2, a3, a4, a5, a6, a7, a8⟩ := h'
    by_cases q : p < n
    · have b8 := a8 p q
      have by' := (by_ b8.2.1 b8.2.2).1
      have pk : pkv C n p = C.1 26 p &&& 255 := by unfold pkv; rw [if_pos q]
      rw [if_neg (fun w => by have := Int32.le_iff_toInt_le.mp w; rw [a3, a5] at this; omega), j_qN a5 (by omega), clN a5]
      by_cases w : C.1 26 p = 32
      · rw [if_pos w, if_pos (by rw [pk]; exact by'.mpr w), jl_, jl_]
        obtain ⟨C', M', p', r1, r2, r3, r4, r5⟩ := ih g (c_1 C) (m_1 M) (p + 1) (tx_1 h q) (by omega) (by omega)
        exact ⟨C', M', 1 + p', r1, r2, fT_t fT_1 r3, gN_t gN_1 r4, by rw [← Nat.add_assoc]; exact r5⟩
      · rw [if_neg w, if_neg (fun v => w (by'.mp (by rw [← pk]; exact v)))]
        exact ⟨C, M, 0, rfl, rfl, fT_r, gN_r, h⟩
    · rw [if_pos (Int32.le_iff_toInt_le.mpr (by rw [a3, a5]; omega)), if_neg (fun w => by rw [pkv_1 q] at w; exact absurd w (by decide))]
      exact ⟨C, M, 0, rfl, rfl, fT_r, gN_r, h⟩
theorem lB_bl : ∀ (f : Nat) (C : jS) (p : Nat), bk C n p e → n - p < f → ∃ C' p', L_T_requireBlanks_6 f C = some C' ∧ fT C C' ∧ bk C' n p' e := by
  intro f
  induction f with
  | zero => intro C p _ q; omega
  | succ f ih =>
    intro C p h hf
    unfold L_T_requireBlanks_6
    have h' := h
    obtain ⟨a1, a2, a3, a5, a6, a7⟩ := h'
    by_cases q : p < n
    · rw [if_neg (fun w => by have := Int32.le_iff_toInt_le.mp w; rw [a3, a5] at this; omega), j_qN a5 (by omega), clN a5]
      by_cases w : C.1 26 p = 32
      · rw [if_pos w, jl_]
        obtain ⟨C', p', r1, r2, r3⟩ := ih (c_1 C) (p + 1) (bk_1 h q) (by omega)
        exact ⟨C', p', r1, fT_t fT_1 r2, r3⟩
      · rw [if_neg w]
        exact ⟨C, p, rfl, fT_r, h⟩
    · rw [if_pos (Int32.le_iff_toInt_le.mpr (by rw [a3, a5]; omega))]
      exact ⟨C, p, rfl, fT_r, h⟩
theorem fB_bl (h : bk C n p e) : ∃ C' p', F_T_requireBlanks C = some C' ∧ fT C C' ∧ bk C' n p' e := by
  unfold F_T_requireBlanks
  rw [fB_rq h (by decide), ob_]
  exact lB_bl ju_ C p h (by show _ < 1000000; have := h.1; omega)
theorem fT_bl (h : tx C M n p) : ∃ C', F_T_requireBlanks C = some C' ∧ oX C M n C' (fun M' => F_M_blanks M = some (none, M')) (fun M' => F_M_blanks M = some (some 12, M')) := by
  have hn := h.1
  unfold F_T_requireBlanks F_M_blanks F_T_require
  rw [fM_pk h, ob_]
  by_cases q : pkv C n p = 32
  · obtain ⟨a, b⟩ := (fT_tk h (by decide)).1 q
    rw [b, ob_, if_neg (show ¬ (1 : Int32) = 0 by decide), ob_, if_pos q]
    obtain ⟨C', M', p', r1, r2, r3, r4, r5⟩ := lT_bl ju_ 999999 (c_1 C) (m_1 M) (p + 1) (tx_1 h a) (by show _ < 1000000; omega) (by omega)
    have mo : L_M_blanks_17 ju_ M = L_M_blanks_17 999999 (m_1 M) := by
      rw [show ju_ = 999999 + 1 from rfl]
      conv => lhs; unfold L_M_blanks_17
      rw [fM_pk h, ob_, if_pos q, jl_]
      rfl
    refine ⟨C', r1, fT_t fT_1 r3, Or.inl ⟨M', 1 + p', ?_, gN_t gN_1 r4, by rw [clN h.2.2.2.2.1, ← Nat.add_assoc]; exact r5⟩⟩
    rw [mo, r2]
  · obtain ⟨b1, b2⟩ := fT_br h (pos_n h)
    rw [(fT_tk h (by decide)).2 q, ob_, if_pos rfl, b1, ob_, ob_, if_neg q, fM_bad, jxv_1, pos_e h]
    obtain ⟨C', p', r1, r2, r3⟩ := lB_bl ju_ _ p b2 (by show _ < 1000000; omega)
    exact ⟨C', r1, fT_t (fT_i (Or.inr rfl)) r2, Or.inr ⟨_, p', _, rfl, gN_i (Or.inl rfl), r3, by rw [w_ir, if_pos ⟨rfl, rfl⟩]⟩⟩
/-- a sign, a number, kept: on both sides -/
def fA (a i : Nat) (C C' : jS) : Prop := (∀ b j, ¬ (b = 25 ∧ (j = 2 ∨ j = 3)) → ¬ (b = a ∧ j = i) → C'.1 b j = C.1 b j) ∧ C'.2 = C.2
def gA (k : Nat) (M M' : jS) : Prop := (∀ b j, ¬ (b = 215 ∧ (j = 3 ∨ j = 7)) → ¬ (b = 238 ∧ j = k) → M'.1 b j = M.1 b j) ∧ M'.2 = M.2
theorem s4_ (h : tx C M n p) (hc : 0 ≤ c.toInt) (h1 : 0 ≤ lo.toInt) (h2 : lo.toInt ≤ hi.toInt) (h3 : hi.toInt ≤ 2299) (ha : a ≠ 25) (ha' : a ≠ 26) (hk : k0.toInt = k) (hk8 : k < 8) : ∃ v C1, (∀ K : jS → Option jS, (F_T_require c C).bind (fun z => (F_T_number lo hi z).bind (fun z2 => j_l (w_i z2.2 a i z2.1) K)) = K C1) ∧ fA a i C C1 ∧ C1.1 a i = v ∧ (lo.toInt ≤ v.toInt ∧ v.toInt ≤ hi.toInt) ∧ ((∃ M1 p1, (∀ K : jS → Option (Option Nat × jS), j_xv (F_M_expect c M) (fun c S => (some c, S)) (fun S1 => j_x (F_M_ranged lo hi S1) (fun c S => (some c, S)) (fun z3 S2 => j_q (j_in k0 8) (j_l (w_i S2 238 ((k0 : Int32).toNatClampNeg) z3) K))) = K M1) ∧ gA k M M1 ∧ M1.1 238 k = v ∧ tx C1 M1 n p1) ∨ (∃ M1 p1 e, (∀ K : jS → Option (Option Nat × jS), j_xv (F_M_expect c M) (fun c S => (some c, S)) (fun S1 => j_x (F_M_ranged lo hi S1) (fun c S => (some c, S)) (fun z3 S2 => j_q (j_in k0 8) (j_l (w_i S2 238 ((k0 : Int32).toNatClampNeg) z3) K))) = some (some 12, M1)) ∧ gA k M M1 ∧ bk C1 n p1 e ∧ M1.1 215 3 = e)) := by
  obtain ⟨D, d1, d2, d3⟩ := fT_rq h hc
  have fr : ∀ {D E : jS} {v : Int32}, fT C D → fT D E → fA a i C (w_i E a i v) := by
    intro D E v f1 f2
    refine ⟨fun b j q1 q2 => ?_, by rw [w_i2, f2.2, f1.2]⟩
    rw [w_ir, if_neg q2, f2.1 b j q1, f1.1 b j q1]
  rcases d3 with ⟨Y, q, m1, m2, m3⟩ | ⟨Y, q, e, m1, m2, m3, m4⟩
  · obtain ⟨v, E, e1, e2, e3, e4⟩ := fT_nu m3 h1 h2 h3
    refine ⟨v, w_i E a i v, fun K => ?_, fr d2 e3, by rw [w_ir, if_pos ⟨rfl, rfl⟩], e2, ?_⟩
    · rw [d1, ob_, e1, ob_, jl_]
    · rcases e4 with ⟨X, t, o1, o2, o3⟩ | ⟨X, t, e, o1, o2, o3, o4⟩
      · refine Or.inl ⟨w_i X 238 k v, _, fun K => ?_, ⟨fun b j q1 q2 => ?_, by rw [w_i2, o2.2, m2.2]⟩, by rw [w_ir, if_pos ⟨rfl, rfl⟩], tx_m (tx_c o3 ha ha') (by omega) (by omega)⟩
        · rw [m1, jxv_0, o1, jx_0, j_qN hk hk8, clN hk, jl_]
        · rw [w_ir, if_neg q2, o2.1 b j q1, m2.1 b j q1]
      · refine Or.inr ⟨X, t, e, fun K => ?_, ⟨fun b j q1 q2 => ?_, by rw [o2.2, m2.2]⟩, bk_c o3 ha, o4⟩
        · rw [m1, jxv_0, o1, jx_1]
        · rw [o2.1 b j q1, m2.1 b j q1]
  · refine ⟨lo, w_i D a i lo, fun K => ?_, fr d2 fT_r, by rw [w_ir, if_pos ⟨rfl, rfl⟩], ⟨by omega, h2⟩, Or.inr ⟨Y, q, e, fun K => ?_, ⟨fun b j q1 q2 => m2.1 b j q1, m2.2⟩, bk_c m3 ha, m4⟩⟩
    · rw [d1, ob_, fB_nu m3, ob_, jl_]
    · rw [m1, jxv_1]
theorem s4b (h : bk C n p e) (hc : 0 ≤ c.toInt) (h2 : lo.toInt ≤ hi.toInt) (ha : a ≠ 25) : ∃ v C1, (∀ K : jS → Option jS, (F_T_require c C).bind (fun z => (F_T_number lo hi z).bind (fun z2 => j_l (w_i z2.2 a i z2.1) K)) = K C1) ∧ fA a i C C1 ∧ C1.1 a i = v ∧ (lo.toInt ≤ v.toInt ∧ v.toInt ≤ hi.toInt) ∧ bk C1 n p e := by
  refine ⟨lo, w_i C a i lo, fun K => ?_, ⟨fun b j q1 q2 => ?_, rfl⟩, by rw [w_ir, if_pos ⟨rfl, rfl⟩], ⟨by omega, h2⟩, bk_c h ha⟩
  · rw [fB_rq h hc, ob_, fB_nu h, ob_, jl_]
  · rw [w_ir, if_neg q2]
/-- a rule, read by the class -/
def fR (a : Nat) (C C' : jS) : Prop := (∀ b j, ¬ (b = 25 ∧ (j = 2 ∨ j = 3)) → b ≠ a → C'.1 b j = C.1 b j) ∧ C'.2 = C.2
def gR (k : Nat) (M M' : jS) : Prop := (∀ b j, ¬ (b = 215 ∧ (j = 3 ∨ j = 7)) → ¬ (b = 238 ∧ k ≤ j ∧ j < k + 4) → M'.1 b j = M.1 b j) ∧ M'.2 = M.2
theorem fY_b (h : bk C n p e) (ha : a ≠ 25) : ∃ C' p', F_Y_readFrom a C = some C' ∧ fR a C C' ∧ bk C' n p' e ∧ rkS C' a := by
  obtain ⟨v0, C0, a0, b0, c0, r0, k0⟩ := s4b (c := 77) (lo := 1) (hi := 12) (i := 0) h (by decide) (by decide) ha
  obtain ⟨v1, C1, a1, b1, c1, r1, k1⟩ := s4b (c := 46) (lo := 1) (hi := 5) (i := 1) k0 (by decide) (by decide) ha
  obtain ⟨v2, C2, a2, b2, c2, r2, k2⟩ := s4b (c := 46) (lo := 0) (hi := 6) (i := 2) k1 (by decide) (by decide) ha
  obtain ⟨v3, C3, a3, b3, c3, r3, k3⟩ := s4b (c := 47) (lo := 0) (hi := 1439) (i := 3) k2 (by decide) (by decide) ha
  refine ⟨C3, p, ?_, ⟨fun b j q1 q2 => ?_, by rw [b3.2, b2.2, b1.2, b0.2]⟩, k3, ?_⟩
  · unfold F_Y_readFrom
    rw [a0, a1, a2, a3]
  · rw [b3.1 b j q1 (by omega), b2.1 b j q1 (by omega), b1.1 b j q1 (by omega), b0.1 b j q1 (by omega)]
  · unfold rkS rk
    rw [b3.1 a 0 (by omega) (by omega), b2.1 a 0 (by omega) (by omega), b1.1 a 0 (by omega) (by omega), c0, b3.1 a 1 (by omega) (by omega), b2.1 a 1 (by omega) (by omega), c1, b3.1 a 2 (by omega) (by omega), c2, c3]
    simp only [Int32.reduceToInt] at r0 r1 r2 r3
    omega
end JX_4
