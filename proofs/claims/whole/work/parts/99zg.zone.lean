section JX_7
variable {S T C C' M M' D Y : jS} {n p s a i k z : Nat} {c e lo hi x1 x3 x4 k0 : Int32}
def fQ (a : Nat) (C C' : jS) : Prop := (∀ b j, ¬ (b = 25 ∧ (j = 2 ∨ j = 3)) → b ≠ a + 1 → b ≠ a + 2 → C'.1 b j = C.1 b j) ∧ C'.2 = C.2
def gQ (M M' : jS) : Prop := (∀ b j, ¬ (b = 215 ∧ (j = 3 ∨ j = 7)) → b ≠ 238 → M'.1 b j = M.1 b j) ∧ M'.2 = M.2
theorem fT_R {b : Nat} (h : fT C C') : fR b C C' := ⟨fun b' j q _ => h.1 b' j q, h.2⟩
theorem fR_t {b : Nat} (h1 : fR b C C') (h2 : fR b C' D) : fR b C D := ⟨fun b' j q r => (h2.1 b' j q r).trans (h1.1 b' j q r), h2.2.trans h1.2⟩
theorem gN_R (h : gN M M') : gR k M M' := ⟨fun b j q _ => h.1 b j q, h.2⟩
theorem gR_Q (h : gR k M M') : gQ M M' := ⟨fun b j q r => h.1 b j q (by omega), h.2⟩
theorem gN_Q (h : gN M M') : gQ M M' := ⟨fun b j q _ => h.1 b j q, h.2⟩
theorem gQ_t (h1 : gQ M M') (h2 : gQ M' D) : gQ M D := ⟨fun b j q r => (h2.1 b j q r).trans (h1.1 b j q r), h2.2.trans h1.2⟩
theorem fR_Q {b : Nat} (h : fR b C C') (hb : b = a + 1 ∨ b = a + 2) : fQ a C C' := ⟨fun b' j q r s => h.1 b' j q (by omega), h.2⟩
theorem fT_Q (h : fT C C') : fQ a C C' := ⟨fun b j q _ _ => h.1 b j q, h.2⟩
theorem fQ_t (h1 : fQ a C C') (h2 : fQ a C' D) : fQ a C D := ⟨fun b j q r s => (h2.1 b j q r s).trans (h1.1 b j q r s), h2.2.trans h1.2⟩
/-- the second half of a rule's reading -/
noncomputable def Zt2 (a : Nat) (C : jS) : Option jS := (F_T_requireBlanks C).bind (fun z16 => (F_Y_readFrom (a + 2) z16).bind (fun z17 => (F_T_requireEnd z17).bind (fun z18 => some z18)))
noncomputable def Zt1 (a : Nat) (C : jS) : Option jS := (F_T_requireBlanks C).bind (fun z14 => (F_Y_readFrom (a + 1) z14).bind (fun z15 => Zt2 a z15))
noncomputable def Mt2 (x1 x3 x4 : Int32) (S : jS) : Option (Option Nat × jS) := j_xv (F_M_blanks S) (fun c S => (some c, S)) (fun S30 => j_xv (F_M_rule 4 S30) (fun c S => (some c, S)) (fun S31 => if (S31.1 215 2) ≤ (S31.1 215 7) then (J_M_readZone_133 x1 x3 x4 S31) else (j_xv (F_M_bad (S31.1 215 7) S31) (fun c S => (some c, S)) (fun S33 => J_M_readZone_133 x1 x3 x4 S33))))
noncomputable def Mt1 (x1 x3 x4 : Int32) (S : jS) : Option (Option Nat × jS) := j_xv (F_M_blanks S) (fun c S => (some c, S)) (fun S28 => j_xv (F_M_rule 0 S28) (fun c S => (some c, S)) (fun S29 => Mt2 x1 x3 x4 S29))
theorem Zt2_b (h : bk C n p e) (ha : a + 2 ≠ 25) : ∃ C' p', Zt2 a C = some C' ∧ fR (a + 2) C C' ∧ bk C' n p' e ∧ rkS C' (a + 2) := by
  obtain ⟨C1, p1, a1, a2, a3⟩ := fB_bl h
  obtain ⟨C2, p2, b1, b2, b3, b4⟩ := fY_b (a := a + 2) a3 ha
  exact ⟨C2, p2, by unfold Zt2; rw [a1, ob_, b1, ob_, fB_re b3, ob_], fR_t (fT_R a2) b2, b3, b4⟩
theorem Zt2_s (h : tx C M n p) (ha : a + 2 ≠ 25) (ha' : a + 2 ≠ 26) : ∃ C', Zt2 a C = some C' ∧ fR (a + 2) C C' ∧ rkS C' (a + 2) ∧ ((∃ M' p', Mt2 x1 x3 x4 M = J_M_readZone_133 x1 x3 x4 M' ∧ gR 4 M M' ∧ tx C' M' n p' ∧ ∀ i, i < 4 → C'.1 (a + 2) i = M'.1 238 (4 + i)) ∨ (∃ M' p' e, Mt2 x1 x3 x4 M = some (some 12, M') ∧ gR 4 M M' ∧ bk C' n p' e ∧ M'.1 215 3 = e)) := by
  obtain ⟨C1, a1, a2, a3⟩ := fT_bl h
  rcases a3 with ⟨M1, p1, m1, m2, m3⟩ | ⟨M1, p1, e, m1, m2, m3, m4⟩
  · obtain ⟨C2, b1, b2, b3, b4⟩ := fY_rd (a := a + 2) (k0 := 4) (k := 4) m3 ha ha' rfl (by omega)
    rcases b4 with ⟨M2, p2, q1, q2, q3, q4⟩ | ⟨M2, p2, e, q1, q2, q3, q4⟩
    · obtain ⟨C3, c1, c2, c3⟩ := fT_re q3
      have e2 : fR (a + 2) C C3 := fR_t (fR_t (fT_R a2) b2) (fT_R c2)
      have rr : ∀ i, C3.1 (a + 2) i = C2.1 (a + 2) i := fun i => c2.1 (a + 2) i (by omega)
      refine ⟨C3, by unfold Zt2; rw [a1, ob_, b1, ob_, c1, ob_], e2, ?_, ?_⟩
      · unfold rkS at b3 ⊢; simp only [rr]; exact b3
      · rcases c3 with ⟨w, c4⟩ | ⟨w, c4⟩
        · refine Or.inl ⟨M2, p2, ?_, gR_t (gN_R m2) q2, c4 ▸ q3, fun i hi => by rw [rr]; exact q4 i hi⟩
          unfold Mt2
          rw [m1, jxv_0, q1, jxv_0, if_pos (by rw [fM_dn q3]; exact w)]
        · refine Or.inr ⟨w_i M2 215 3 (M2.1 215 7), p2, _, ?_, gR_t (gR_t (gN_R m2) q2) (gN_R (gN_i (Or.inl rfl))), c4, by rw [w_ir, if_pos ⟨rfl, rfl⟩]⟩
          unfold Mt2
          rw [m1, jxv_0, q1, jxv_0, if_neg (by rw [fM_dn q3]; exact fun v => v w), fM_bad, jxv_1]
    · refine ⟨C2, by unfold Zt2; rw [a1, ob_, b1, ob_, fB_re q3, ob_], fR_t (fT_R a2) b2, b3, Or.inr ⟨M2, p2, e, ?_, gR_t (gN_R m2) q2, q3, q4⟩⟩
      unfold Mt2
      rw [m1, jxv_0, q1, jxv_1]
  · obtain ⟨C2, p2, b1, b2, b3, b4⟩ := fY_b (a := a + 2) m3 ha
    refine ⟨C2, by unfold Zt2; rw [a1, ob_, b1, ob_, fB_re b3, ob_], fR_t (fT_R a2) b2, b4, Or.inr ⟨M1, p2, e, ?_, gN_R m2, b3, m4⟩⟩
    unfold Mt2
    rw [m1, jxv_1]
theorem rk_r {b c : Nat} (h : rkS C b) (hf : fR c C C') (h1 : b ≠ 25) (h2 : b ≠ c) : rkS C' b := by
  have e : ∀ i, C'.1 b i = C.1 b i := fun i => hf.1 b i (by omega) h2
  unfold rkS at h ⊢
  simp only [e]
  exact h
theorem Zt1_b (h : bk C n p e) (ha : a + 2 ≠ 25) (ha1 : a + 1 ≠ 25) : ∃ C' p', Zt1 a C = some C' ∧ fQ a C C' ∧ bk C' n p' e ∧ rkS C' (a + 1) ∧ rkS C' (a + 2) := by
  obtain ⟨C1, p1, a1, a2, a3⟩ := fB_bl h
  obtain ⟨C2, p2, b1, b2, b3, b4⟩ := fY_b (a := a + 1) a3 ha1
  obtain ⟨C3, p3, c1, c2, c3, c4⟩ := Zt2_b (a := a) b3 ha
  exact ⟨C3, p3, by unfold Zt1; rw [a1, ob_, b1, ob_, c1], fQ_t (fQ_t (fT_Q a2) (fR_Q b2 (Or.inl rfl))) (fR_Q c2 (Or.inr rfl)), c3, rk_r b4 c2 ha1 (by omega), c4⟩
theorem Zt1_s (h : tx C M n p) (ha : a + 2 ≠ 25) (ha' : a + 2 ≠ 26) (ha1 : a + 1 ≠ 25) (ha1' : a + 1 ≠ 26) : ∃ C', Zt1 a C = some C' ∧ fQ a C C' ∧ rkS C' (a + 1) ∧ rkS C' (a + 2) ∧ ((∃ M' p', Mt1 x1 x3 x4 M = J_M_readZone_133 x1 x3 x4 M' ∧ gQ M M' ∧ tx C' M' n p' ∧ (∀ i, i < 4 → C'.1 (a + 1) i = M'.1 238 i) ∧ ∀ i, i < 4 → C'.1 (a + 2) i = M'.1 238 (4 + i)) ∨ (∃ M' p' e, Mt1 x1 x3 x4 M = some (some 12, M') ∧ gQ M M' ∧ bk C' n p' e ∧ M'.1 215 3 = e)) := by
  obtain ⟨C1, a1, a2, a3⟩ := fT_bl h
  rcases a3 with ⟨M1, p1, m1, m2, m3⟩ | ⟨M1, p1, e, m1, m2, m3, m4⟩
  · obtain ⟨C2, b1, b2, b3, b4⟩ := fY_rd (a := a + 1) (k0 := 0) (k := 0) m3 ha1 ha1' rfl (by omega)
    rcases b4 with ⟨M2, p2, q1, q2, q3, q4⟩ | ⟨M2, p2, e, q1, q2, q3, q4⟩
    · obtain ⟨C3, c1, c2, c3, c4⟩ := Zt2_s (a := a) (x1 := x1) (x3 := x3) (x4 := x4) q3 ha ha'
      refine ⟨C3, by unfold Zt1; rw [a1, ob_, b1, ob_, c1], fQ_t (fQ_t (fT_Q a2) (fR_Q b2 (Or.inl rfl))) (fR_Q c2 (Or.inr rfl)), rk_r b3 c2 ha1 (by omega), c3, ?_⟩
      rcases c4 with ⟨M3, p3, o1, o2, o3, o4⟩ | ⟨M3, p3, e, o1, o2, o3, o4⟩
      · refine Or.inl ⟨M3, p3, ?_, gQ_t (gQ_t (gN_Q m2) (gR_Q q2)) (gR_Q o2), o3, fun i hi => ?_, o4⟩
        · unfold Mt1
          rw [m1, jxv_0, q1, jxv_0, o1]
        · rw [c2.1 (a + 1) i (by omega) (by omega), q4 i hi, Nat.zero_add, o2.1 238 i (by omega) (by omega)]
      · refine Or.inr ⟨M3, p3, e, ?_, gQ_t (gQ_t (gN_Q m2) (gR_Q q2)) (gR_Q o2), o3, o4⟩
        unfold Mt1
        rw [m1, jxv_0, q1, jxv_0, o1]
    · obtain ⟨C3, p3, c1, c2, c3, c4⟩ := Zt2_b (a := a) q3 ha
      refine ⟨C3, by unfold Zt1; rw [a1, ob_, b1, ob_, c1], fQ_t (fQ_t (fT_Q a2) (fR_Q b2 (Or.inl rfl))) (fR_Q c2 (Or.inr rfl)), rk_r b3 c2 ha1 (by omega), c4, Or.inr ⟨M2, p3, e, ?_, gQ_t (gN_Q m2) (gR_Q q2), c3, q4⟩⟩
      unfold Mt1
      rw [m1, jxv_0, q1, jxv_1]
  · obtain ⟨C2, p2, b1, b2, b3, b4⟩ := fY_b (a := a + 1) m3 ha1
    obtain ⟨C3, p3, c1, c2, c3, c4⟩ := Zt2_b (a := a) b3 ha
    refine ⟨C3, by unfold Zt1; rw [a1, ob_, b1, ob_, c1], fQ_t (fQ_t (fT_Q a2) (fR_Q b2 (Or.inl rfl))) (fR_Q c2 (Or.inr rfl)), rk_r b4 c2 ha1 (by omega), c4, Or.inr ⟨M1, p3, e, ?_, gN_Q m2, c3, m4⟩⟩
    unfold Mt1
    rw [m1, jxv_1]
end JX_7
