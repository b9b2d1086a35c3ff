section KA_6
variable {S T C C' M M' D Y : jS} {n p s f a u k g h' : Nat} {c e v x1 x3 : Int32}
theorem kS_T (hk : kS C a M h') (hh : h' < 7) (hn : h' ≠ f) (hc : cJ f a C C') (hg : gT f M M') : kS C' a M' h' := kS_o hk hh hn hc.1 (fun i => hg.1 (369 + h') i (by omega) (by omega))
theorem kS_B (hk : kS C a M h') (hc : fT C C') (hg : gN M M') : kS C' a M' h' := kS_e hc.2 (fun i => hg.1 (369 + h') i (by omega)) hk
theorem ne_B (hk : ne_ C a h') (hc : fT C C') : ne_ C' a h' := ne_o hk (fun w i q => by rw [hc.2]; exact q)
theorem z_B (hk : z_ C a h') (hc : fT C C') : z_ C' a h' := fun u u1 u2 => by rw [hc.2]; exact hk u u1 u2
theorem kO_B (hk : kO C a) (hc : fT C C') : kO C' a := kO_e hc.2 hk
/-- a plain field of the model's loop -/
theorem stg (h : tx C M n p) (ha : a ≠ 25) (ha' : a ≠ 26) (hx : x3.toInt = f) (hf : f < 7) (h3 : f ≠ 3) (h5 : f ≠ 5) (hz : z_ C a f) : ∃ C', F_CR_readItems a x3 C = some C' ∧ FX a C C' ∧ ((cI f a C C' ∧ ∃ M' d, (∀ kt, J_M_readCron_74 kt x1 x3 M = J_M_readCron_179 kt x1 x3 M') ∧ gT f M M' ∧ tx C' M' n (p + d) ∧ kS C' a M' f ∧ ne_ C' a f) ∨ (∃ M' p' e, (∀ kt, J_M_readCron_74 kt x1 x3 M = some (some 12, M')) ∧ GX M M' ∧ bk C' n p' e ∧ M'.1 215 3 = e)) := by
  obtain ⟨C', c1, c2, c3⟩ := pf_ (a := a) h ha ha' hx hf h3 h5 hz
  refine ⟨C', c1, c2, ?_⟩
  rcases c3 with ⟨w0, M', d, w1, w2, w3, w4, w5⟩ | ⟨M', p', e, w1, w2, w3, w4⟩
  · exact Or.inl ⟨w0, M', d, fun kt => by rw [m74 h3 h5 hx, w1, jxv_0], w2, w3, w4, w5⟩
  · exact Or.inr ⟨M', p', e, fun kt => by rw [m74 h3 h5 hx, w1, jxv_1], w2, w3, w4⟩
/-- the blanks behind a field -/
theorem blk (h : tx C M n p) (hx : x3.toInt = f) (hf : f < 5) : ∃ C', F_T_requireBlanks C = some C' ∧ fT C C' ∧ ((∃ M' d, J_M_readCron_179 (L_M_readCron_12 (g + 1)) x1 x3 M = J_M_readCron_74 (L_M_readCron_12 g) x1 (x3 + 1) M' ∧ gN M M' ∧ tx C' M' n (p + d)) ∨ (∃ M' p' e, J_M_readCron_179 (L_M_readCron_12 (g + 1)) x1 x3 M = some (some 12, M') ∧ gN M M' ∧ bk C' n p' e ∧ M'.1 215 3 = e)) := by
  obtain ⟨C', a1, a2, a3⟩ := fT_bl h
  refine ⟨C', a1, a2, ?_⟩
  rw [m179 h hx hf]
  rcases a3 with ⟨M', d, m1, m2, m3⟩ | ⟨M', p', e, m1, m2, m3, m4⟩
  · rw [clN h.2.2.2.2.1] at m3
    exact Or.inl ⟨M', d, by rw [m1, jxv_0], m2, m3⟩
  · exact Or.inr ⟨M', p', e, by rw [m1, jxv_1], m2, m3, m4⟩
/-- the class clears a cron -/
theorem lC_cl : ∀ (g : Nat) (x2 : Int32) (k : Nat) (C : jS), x2.toInt = k → k ≤ 12 → 12 - k < g → (∀ w, w < k → C.2.1 (a + 1) w = 0) → ∃ C', L_C_clear_2 g a x2 C = some C' ∧ (∀ b j, b ≠ a → C'.1 b j = C.1 b j) ∧ C'.1 a 1 = 0 ∧ (∀ b j, b ≠ a + 1 → C'.2.1 b j = C.2.1 b j) ∧ C'.2.2 = C.2.2 ∧ ∀ w, w < 12 → C'.2.1 (a + 1) w = 0 := by
  intro g
  induction g with
  | zero => intro x2 k C _ _ q; omega
  | succ g ih =>
    intro x2 k C h2 hk hg hz
    unfold L_C_clear_2
    by_cases e : k = 12
    · subst e
      rw [if_pos (by rw [geI (k := 12) (n := 12) rfl]; omega), jl_]
      exact ⟨_, rfl, fun b j q => by rw [w_ir, if_neg (by omega)], by rw [w_ir, if_pos ⟨rfl, rfl⟩], fun _ _ _ => rfl, rfl, fun w hw => hz w hw⟩
    · rw [if_neg (by rw [geI (k := 12) (n := 12) rfl]; omega), j_qN h2 (by omega), clN h2, jl_]
      obtain ⟨C', c1, c2, c3, c4, c5, c6⟩ := ih (x2 + 1) (k + 1) (w_l C (a + 1) k 0) (p1I h2 (by omega)) (by omega) (by omega) (fun w hw => by
        rw [w_lr]
        by_cases q : w = k
        · rw [if_pos ⟨rfl, q⟩]
        · rw [if_neg (fun v => q v.2)]; exact hz w (by omega))
      exact ⟨C', c1, c2, c3, fun b j q => by rw [c4 b j q, w_lr, if_neg (by omega)], c5, c6⟩
/-- all that a cron read says -/
def aL (C : jS) (a : Nat) (M : jS) : Prop := kO C a ∧ (kS C a M 0 ∧ ne_ C a 0) ∧ (kS C a M 1 ∧ ne_ C a 1) ∧ (kS C a M 2 ∧ ne_ C a 2) ∧ kS C a M 4 ∧ kS C a M 6 ∧ dW C a M
theorem dY_k (h : dY C a M) (hc : ∀ j, C'.1 a j = C.1 a j) (hm : ∀ j, M'.1 453 j = M.1 453 j) (hk : kS C a M 3 → kS C' a M' 3) : dY C' a M' := by
  unfold dY at h ⊢
  simp only [hc, hm]
  rcases h with ⟨a1, a2, a3⟩ | w
  · exact Or.inl ⟨a1, a2, hk a3⟩
  · exact Or.inr w
theorem dW_k (h : dW C a M) (hc : ∀ j, C'.1 a j = C.1 a j) (hm : ∀ j, M'.1 453 j = M.1 453 j) (hk : kS C a M 3 → kS C' a M' 3) (hk5 : kS C a M 5 → kS C' a M' 5) : dW C' a M' := by
  unfold dW at h ⊢
  simp only [hc, hm]
  rcases h with ⟨a1, a2, a3, a4⟩ | ⟨a1, a2, a3, a4⟩ | w
  · exact Or.inl ⟨a1, a2, a3, hk a4⟩
  · exact Or.inr (Or.inl ⟨a1, a2, a3, hk5 a4⟩)
  · exact Or.inr (Or.inr w)
theorem rc_ (h : tx C (w_z (w_i M 215 7 0)) n 0) (ha : a ≠ 25) (ha' : a ≠ 26) : ∃ C', F_CR_readCron a C = some C' ∧ FX a C C' ∧ ((∃ M' p', F_M_readCron x1 M = L_M_readCron_248 ju_ x1 0 M' ∧ GX M M' ∧ tx C' M' n p' ∧ aL C' a M') ∨ (∃ M' p' e, F_M_readCron x1 M = some (some 12, M') ∧ GX M M' ∧ bk C' n p' e ∧ M'.1 215 3 = e)) := by
  have gz : GX M (w_z (w_i M 215 7 0)) := by
    refine ⟨fun b j q1 _ q3 => ?_, rfl⟩
    unfold w_z
    simp only [if_neg q3]
    rw [w_ir, if_neg (by omega)]
  -- the class clears
  obtain ⟨C0, c1, c2, c3, c4, c5, c6⟩ := lC_cl (a := a) ju_ 0 0 C rfl (by omega) (by show _ < 1000000; omega) (fun w hw => by omega)
  have f0 : FX a C C0 := ⟨fun b j _ q => c2 b j q, c4, c5⟩
  have h0 : tx C0 (w_z (w_i M 215 7 0)) n 0 := by
    have e25 : C0.1 25 = C.1 25 := funext fun j => c2 25 j (fun w => ha w.symm)
    have e26 : C0.1 26 = C.1 26 := funext fun j => c2 26 j (fun w => ha' w.symm)
    unfold tx at h ⊢
    rw [e25, e26]
    exact h
  have z0 : ∀ f, f < 7 → z_ C0 a f := by
    intro f hf u u1 u2
    have : wd f u < 12 := by
      unfold wd
      obtain ⟨l1, l2⟩ := lh6
      split
      · rename_i w; subst w; omega
      · omega
    rw [c6 _ this]
    exact bt_0
  have o0 : kO C0 a := fun w i hw q => by rw [c6 w hw, bt_0] at q; exact absurd q (by decide)
  -- the model begins
  have mb : F_M_readCron x1 M = J_M_readCron_74 (L_M_readCron_12 999999) x1 0 (w_z (w_i M 215 7 0)) := by
    unfold F_M_readCron
    rw [jl_, jl_, show ju_ = 999999 + 1 from rfl]
    conv => lhs; unfold L_M_readCron_12
    unfold J_M_readCron_66
    rw [if_neg (by decide), if_neg (by decide), if_pos (by decide)]
  have eC : F_CR_readCron a C = (F_CR_readItems a 0 C0).bind (fun z2 => R1 a z2) := by
    unfold F_CR_readCron R1 R2 R3
    rw [show F_C_clear a C = some C0 from c1, ob_]
  rw [mb, eC]
  generalize w_z (w_i M 215 7 0) = M0 at *
  -- seconds
  obtain ⟨C1, a1, a2, a3⟩ := stg (x1 := x1) (a := a) (x3 := 0) (f := 0) h0 ha ha' rfl (by omega) (by omega) (by omega) (z0 0 (by omega))
  rw [a1, ob_]
  rcases a3 with ⟨i1, M1, d1, m1, g1, t1, k1, n1⟩ | ⟨M1, p', e, m1, m2, m3, m4⟩
  rotate_left
  · obtain ⟨C', p2, r1, r2, r3⟩ := r1b (a := a) m3 ha
    exact ⟨C', r1, FX_t (FX_t f0 a2) r2, Or.inr ⟨M1, p2, e, m1 _, GX_t gz m2, r3, m4⟩⟩
  rw [m1]
  have j1 := cJ_I i1
  have F1 : FX a C C1 := FX_t f0 a2
  have G1 : GX M M1 := GX_t gz (gT_X g1 (by omega))
  have zz1 : ∀ f, f < 7 → f ≠ 0 → z_ C1 a f := fun f hf q => z_o (z0 f hf) hf q j1.1
  have o1 := j1.2.1 o0
  have q1 : C1.1 a 1 = 0 := by rw [i1.2.2.2.1]; exact c3
  clear a1 a2 i1 m1 g1 z0 o0 j1 f0 gz h0 c1 c2 c3 c4 c5 c6 mb eC
  -- blanks
  unfold R1
  obtain ⟨C2, b1, b2, b3⟩ := blk (x1 := x1) (g := 999998) (x3 := 0) (f := 0) t1 rfl (by omega)
  rw [b1, ob_]
  rcases b3 with ⟨M2, d2, m1, g2, t2⟩ | ⟨M2, p', e, m1, m2, m3, m4⟩
  rotate_left
  · obtain ⟨C3, y1, y2, y3⟩ := ri_b (a := a) (x1 := 1) (f := 1) m3 ha rfl (by omega)
    obtain ⟨C', p2, r1, r2, r3⟩ := r2b (a := a) y3 ha
    exact ⟨C', by rw [y1, ob_, r1], FX_t (FX_t (FX_t F1 (FX_T b2)) y2) r2, Or.inr ⟨M2, p2, e, m1, GX_t G1 (GX_N m2), r3, m4⟩⟩
  rw [m1, show (0 : Int32) + 1 = 1 from rfl]
  have F2 := FX_t F1 (FX_T (a := a) b2)
  have G2 := GX_t G1 (GX_N g2)
  have k2 := kS_B k1 b2 g2
  have n2 := ne_B n1 b2
  have zz2 : ∀ f, f < 7 → f ≠ 0 → z_ C2 a f := fun f hf q => z_B (zz1 f hf q) b2
  have o2 := kO_B o1 b2
  have q2 : C2.1 a 1 = 0 := by rw [b2.1 a 1 (by omega)]; exact q1
  clear b1 b2 m1 g2 zz1 o1 q1 k1 n1 F1 G1 t1
  -- minutes
  obtain ⟨C3, a1, a2, a3⟩ := stg (x1 := x1) (a := a) (x3 := 1) (f := 1) t2 ha ha' rfl (by omega) (by omega) (by omega) (zz2 1 (by omega) (by omega))
  rw [a1, ob_]
  rcases a3 with ⟨i1, M3, d3, m1, g1, t3, k31, n31⟩ | ⟨M3, p', e, m1, m2, m3, m4⟩
  rotate_left
  · obtain ⟨C', p2, r1, r2, r3⟩ := r2b (a := a) m3 ha
    exact ⟨C', r1, FX_t (FX_t F2 a2) r2, Or.inr ⟨M3, p2, e, m1 _, GX_t G2 m2, r3, m4⟩⟩
  rw [m1]
  have j1 := cJ_I i1
  have F3 := FX_t F2 a2
  have G3 := GX_t G2 (gT_X g1 (by omega))
  have k30 := kS_T k2 (by omega) (by omega) j1 g1
  have n30 := ne_o n2 j1.2.2
  have zz3 : ∀ f, f < 7 → f ≠ 0 → f ≠ 1 → z_ C3 a f := fun f hf q w => z_o (zz2 f hf q) hf w j1.1
  have o3 := j1.2.1 o2
  have q3 : C3.1 a 1 = 0 := by rw [i1.2.2.2.1]; exact q2
  clear a1 a2 i1 m1 g1 j1 zz2 o2 q2 k2 n2 F2 G2 t2
  -- blanks
  unfold R2
  obtain ⟨C4, b1, b2, b3⟩ := blk (x1 := x1) (g := 999997) (x3 := 1) (f := 1) t3 rfl (by omega)
  rw [b1, ob_]
  rcases b3 with ⟨M4, d4, m1, g2, t4⟩ | ⟨M4, p', e, m1, m2, m3, m4⟩
  rotate_left
  · obtain ⟨C5, y1, y2, y3⟩ := ri_b (a := a) (x1 := 2) (f := 2) m3 ha rfl (by omega)
    obtain ⟨C', p2, r1, r2, r3⟩ := r3b (a := a) y3 ha
    exact ⟨C', by rw [y1, ob_, r1], FX_t (FX_t (FX_t F3 (FX_T b2)) y2) r2, Or.inr ⟨M4, p2, e, m1, GX_t G3 (GX_N m2), r3, m4⟩⟩
  rw [m1, show (1 : Int32) + 1 = 2 from rfl]
  have F4 := FX_t F3 (FX_T (a := a) b2)
  have G4 := GX_t G3 (GX_N g2)
  have k40 := kS_B k30 b2 g2
  have k41 := kS_B k31 b2 g2
  have n40 := ne_B n30 b2
  have n41 := ne_B n31 b2
  have zz4 : ∀ f, f < 7 → f ≠ 0 → f ≠ 1 → z_ C4 a f := fun f hf q w => z_B (zz3 f hf q w) b2
  have o4 := kO_B o3 b2
  have q4 : C4.1 a 1 = 0 := by rw [b2.1 a 1 (by omega)]; exact q3
  clear b1 b2 m1 g2 zz3 o3 q3 k30 k31 n30 n31 F3 G3 t3
  -- hours
  obtain ⟨C5, a1, a2, a3⟩ := stg (x1 := x1) (a := a) (x3 := 2) (f := 2) t4 ha ha' rfl (by omega) (by omega) (by omega) (zz4 2 (by omega) (by omega) (by omega))
  rw [a1, ob_]
  rcases a3 with ⟨i1, M5, d5, m1, g1, t5, k52, n52⟩ | ⟨M5, p', e, m1, m2, m3, m4⟩
  rotate_left
  · obtain ⟨C', p2, r1, r2, r3⟩ := r3b (a := a) m3 ha
    exact ⟨C', r1, FX_t (FX_t F4 a2) r2, Or.inr ⟨M5, p2, e, m1 _, GX_t G4 m2, r3, m4⟩⟩
  rw [m1]
  have j1 := cJ_I i1
  have F5 := FX_t F4 a2
  have G5 := GX_t G4 (gT_X g1 (by omega))
  have k50 := kS_T k40 (by omega) (by omega) j1 g1
  have k51 := kS_T k41 (by omega) (by omega) j1 g1
  have n50 := ne_o n40 j1.2.2
  have n51 := ne_o n41 j1.2.2
  have zz5 : ∀ f, f < 7 → 3 ≤ f → z_ C5 a f := fun f hf q => z_o (zz4 f hf (by omega) (by omega)) hf (by omega) j1.1
  have o5 := j1.2.1 o4
  have q5 : C5.1 a 1 = 0 := by rw [i1.2.2.2.1]; exact q4
  clear a1 a2 i1 m1 g1 j1 zz4 o4 q4 k40 k41 n40 n41 F4 G4 t4
  -- blanks
  unfold R3
  obtain ⟨C6, b1, b2, b3⟩ := blk (x1 := x1) (g := 999996) (x3 := 2) (f := 2) t5 rfl (by omega)
  rw [b1, ob_]
  rcases b3 with ⟨M6, d6, m1, g2, t6⟩ | ⟨M6, p', e, m1, m2, m3, m4⟩
  rotate_left
  · obtain ⟨C7, y1, y2, y3⟩ := ri_b (a := a) (x1 := 3) (f := 3) m3 ha rfl (by omega)
    obtain ⟨C', p2, r1, r2, r3⟩ := j48b (a := a) y3 ha
    exact ⟨C', by rw [dy_b m3, ob_, if_pos rfl, y1, ob_, r1], FX_t (FX_t (FX_t F5 (FX_T b2)) y2) r2, Or.inr ⟨M6, p2, e, m1, GX_t G5 (GX_N m2), r3, m4⟩⟩
  have F6 := FX_t F5 (FX_T (a := a) b2)
  have G6 := GX_t G5 (GX_N g2)
  have k60 := kS_B k50 b2 g2
  have k61 := kS_B k51 b2 g2
  have k62 := kS_B k52 b2 g2
  have n60 := ne_B n50 b2
  have n61 := ne_B n51 b2
  have n62 := ne_B n52 b2
  have zz6 : ∀ f, f < 7 → 3 ≤ f → z_ C6 a f := fun f hf q => z_B (zz5 f hf q) b2
  have o6 := kO_B o5 b2
  have q6 : C6.1 a 1 = 0 := by rw [b2.1 a 1 (by omega)]; exact q5
  rw [m1, show (2 : Int32) + 1 = 3 from rfl]
  have e74 : J_M_readCron_74 (L_M_readCron_12 999996) x1 3 M6 = J_M_readCron_116 (L_M_readCron_12 999996) x1 3 M6 := by
    unfold J_M_readCron_74
    rw [if_neg (by decide)]
  rw [e74, m116]
  clear b1 b2 m1 g2 zz5 o5 q5 k50 k51 k52 n50 n51 n52 F5 G5 t5 e74
  -- the day
  obtain ⟨C7, a1, a2, a3⟩ := dF_ (a := a) t6 ha ha' q6 (zz6 3 (by omega) (by omega))
  rw [a1]
  rcases a3 with ⟨j1, M7', d7, m1, g1, t7', x7⟩ | ⟨M7, p', e, m1, m2, m3, m4⟩
  rotate_left
  · obtain ⟨C', p2, r1, r2, r3⟩ := j48b (a := a) m3 ha
    exact ⟨C', r1, FX_t (FX_t F6 a2) r2, Or.inr ⟨M7, p2, e, by rw [m1, jxv_1], GX_t G6 m2, r3, m4⟩⟩
  rw [m1, jxv_0]
  have F7 := FX_t F6 a2
  have G7 := GX_t (GX_t G6 (gT_X g1 (by omega))) (GX_w (M := M7') (x := 0))
  have ew : ∀ (h' i : Nat), h' < 7 → (w_3 M7' 0).1 (369 + h') i = M7'.1 (369 + h') i := fun h' i q => w3_r.2.2.2.1 (369 + h') i (by omega)
  have k70 : kS C7 a (w_3 M7' 0) 0 := kS_e rfl (fun i => ew 0 i (by omega)) (kS_T k60 (by omega) (by omega) j1 g1)
  have k71 : kS C7 a (w_3 M7' 0) 1 := kS_e rfl (fun i => ew 1 i (by omega)) (kS_T k61 (by omega) (by omega) j1 g1)
  have k72 : kS C7 a (w_3 M7' 0) 2 := kS_e rfl (fun i => ew 2 i (by omega)) (kS_T k62 (by omega) (by omega) j1 g1)
  have n70 := ne_o n60 j1.2.2
  have n71 := ne_o n61 j1.2.2
  have n72 := ne_o n62 j1.2.2
  have zz7 : ∀ f, f < 7 → 4 ≤ f → z_ C7 a f := fun f hf q => z_o (zz6 f hf (by omega)) hf (by omega) j1.1
  have o7 := j1.2.1 o6
  have y7 := dX_Y x7
  have t7 := tx_w (x := 0) t7'
  generalize w_3 M7' 0 = M7 at *
  clear a1 a2 m1 g1 j1 zz6 o6 q6 k60 k61 k62 n60 n61 n62 F6 G6 t6 t7' x7 ew
  -- blanks
  unfold J_CR_readCron_48
  obtain ⟨C8, b1, b2, b3⟩ := blk (x1 := x1) (g := 999995) (x3 := 3) (f := 3) t7 rfl (by omega)
  rw [b1, ob_]
  rcases b3 with ⟨M8, d8, m1, g2, t8⟩ | ⟨M8, p', e, m1, m2, m3, m4⟩
  rotate_left
  · obtain ⟨C9, b1', b2', b3'⟩ := ri_b (a := a) (x1 := 4) (f := 4) m3 ha rfl (by omega)
    obtain ⟨C10, p3, d1', d2', d3'⟩ := fB_bl b3'
    obtain ⟨r, C11, e1, e2, e3⟩ := wk_b (a := a) d3' ha
    have f4 : FX a C C11 := FX_t (FX_t (FX_t (FX_t F7 (FX_T b2)) b2') (FX_T d2')) e2
    rw [b1', ob_, d1', ob_, e1, ob_]
    by_cases q : r = 0
    · obtain ⟨C12, i1, i2, i3⟩ := ri_b (a := a) (x1 := 5) (f := 5) e3 ha rfl (by omega)
      obtain ⟨C', p4, r1, r2, r3⟩ := j76b (a := a) i3 ha
      exact ⟨C', by rw [if_pos q, i1, ob_, r1], FX_t (FX_t f4 i2) r2, Or.inr ⟨M8, p4, e, m1, GX_t G7 (GX_N m2), r3, m4⟩⟩
    · obtain ⟨C', p4, r1, r2, r3⟩ := j76b (a := a) e3 ha
      exact ⟨C', by rw [if_neg q, r1], FX_t f4 r2, Or.inr ⟨M8, p4, e, m1, GX_t G7 (GX_N m2), r3, m4⟩⟩
  rw [m1, show (3 : Int32) + 1 = 4 from rfl]
  have F8 := FX_t F7 (FX_T (a := a) b2)
  have G8 := GX_t G7 (GX_N g2)
  have k80 := kS_B k70 b2 g2
  have k81 := kS_B k71 b2 g2
  have k82 := kS_B k72 b2 g2
  have n80 := ne_B n70 b2
  have n81 := ne_B n71 b2
  have n82 := ne_B n72 b2
  have zz8 : ∀ f, f < 7 → 4 ≤ f → z_ C8 a f := fun f hf q => z_B (zz7 f hf q) b2
  have o8 := kO_B o7 b2
  have y8 : dY C8 a M8 := dY_k y7 (fun j => b2.1 a j (by omega)) (fun j => g2.1 453 j (by omega)) (fun k => kS_B k b2 g2)
  clear b1 b2 m1 g2 zz7 o7 y7 k70 k71 k72 n70 n71 n72 F7 G7 t7
  -- months
  obtain ⟨C9, a1, a2, a3⟩ := stg (x1 := x1) (a := a) (x3 := 4) (f := 4) t8 ha ha' rfl (by omega) (by omega) (by omega) (zz8 4 (by omega) (by omega))
  rw [a1, ob_]
  rcases a3 with ⟨i1, M9, d9, m1, g1, t9, k94, -⟩ | ⟨M9, p', e, m1, m2, m3, m4⟩
  rotate_left
  · obtain ⟨C10, p3, d1', d2', d3'⟩ := fB_bl m3
    obtain ⟨r, C11, e1, e2, e3⟩ := wk_b (a := a) d3' ha
    have f4 : FX a C C11 := FX_t (FX_t (FX_t F8 a2) (FX_T d2')) e2
    rw [d1', ob_, e1, ob_]
    by_cases q : r = 0
    · obtain ⟨C12, i1, i2, i3⟩ := ri_b (a := a) (x1 := 5) (f := 5) e3 ha rfl (by omega)
      obtain ⟨C', p4, r1, r2, r3⟩ := j76b (a := a) i3 ha
      exact ⟨C', by rw [if_pos q, i1, ob_, r1], FX_t (FX_t f4 i2) r2, Or.inr ⟨M9, p4, e, m1 _, GX_t G8 m2, r3, m4⟩⟩
    · obtain ⟨C', p4, r1, r2, r3⟩ := j76b (a := a) e3 ha
      exact ⟨C', by rw [if_neg q, r1], FX_t f4 r2, Or.inr ⟨M9, p4, e, m1 _, GX_t G8 m2, r3, m4⟩⟩
  rw [m1]
  have j1 := cJ_I i1
  have F9 := FX_t F8 a2
  have G9 := GX_t G8 (gT_X g1 (by omega))
  have k90 := kS_T k80 (by omega) (by omega) j1 g1
  have k91 := kS_T k81 (by omega) (by omega) j1 g1
  have k92 := kS_T k82 (by omega) (by omega) j1 g1
  have n90 := ne_o n80 j1.2.2
  have n91 := ne_o n81 j1.2.2
  have n92 := ne_o n82 j1.2.2
  have zz9 : ∀ f, f < 7 → 5 ≤ f → z_ C9 a f := fun f hf q => z_o (zz8 f hf (by omega)) hf (by omega) j1.1
  have o9 := j1.2.1 o8
  have y9 : dY C9 a M9 := dY_k y8 (fun j => i1.2.2.2.1 j) (fun j => g1.1 453 j (by omega) (by omega)) (fun k => kS_T k (by omega) (by omega) j1 g1)
  clear a1 a2 i1 m1 g1 j1 zz8 o8 y8 k80 k81 k82 n80 n81 n82 F8 G8 t8
  -- blanks
  obtain ⟨C10, b1, b2, b3⟩ := blk (x1 := x1) (g := 999994) (x3 := 4) (f := 4) t9 rfl (by omega)
  rw [b1, ob_]
  rcases b3 with ⟨M10, d10, m1, g2, t10⟩ | ⟨M10, p', e, m1, m2, m3, m4⟩
  rotate_left
  · obtain ⟨r, C11, e1, e2, e3⟩ := wk_b (a := a) m3 ha
    have f4 : FX a C C11 := FX_t (FX_t F9 (FX_T b2)) e2
    rw [e1, ob_]
    by_cases q : r = 0
    · obtain ⟨C12, i1, i2, i3⟩ := ri_b (a := a) (x1 := 5) (f := 5) e3 ha rfl (by omega)
      obtain ⟨C', p4, r1, r2, r3⟩ := j76b (a := a) i3 ha
      exact ⟨C', by rw [if_pos q, i1, ob_, r1], FX_t (FX_t f4 i2) r2, Or.inr ⟨M10, p4, e, m1, GX_t G9 (GX_N m2), r3, m4⟩⟩
    · obtain ⟨C', p4, r1, r2, r3⟩ := j76b (a := a) e3 ha
      exact ⟨C', by rw [if_neg q, r1], FX_t f4 r2, Or.inr ⟨M10, p4, e, m1, GX_t G9 (GX_N m2), r3, m4⟩⟩
  rw [m1, show (4 : Int32) + 1 = 5 from rfl]
  have F10 := FX_t F9 (FX_T (a := a) b2)
  have G10 := GX_t G9 (GX_N g2)
  have kA0 := kS_B k90 b2 g2
  have kA1 := kS_B k91 b2 g2
  have kA2 := kS_B k92 b2 g2
  have kA4 := kS_B k94 b2 g2
  have nA0 := ne_B n90 b2
  have nA1 := ne_B n91 b2
  have nA2 := ne_B n92 b2
  have zzA : ∀ f, f < 7 → 5 ≤ f → z_ C10 a f := fun f hf q => z_B (zz9 f hf q) b2
  have oA := kO_B o9 b2
  have yA : dY C10 a M10 := dY_k y9 (fun j => b2.1 a j (by omega)) (fun j => g2.1 453 j (by omega)) (fun k => kS_B k b2 g2)
  clear b1 b2 m1 g2 zz9 o9 y9 k90 k91 k92 k94 n90 n91 n92 F9 G9 t9
  -- the weekday
  obtain ⟨C11, a1, a2, a3⟩ := wF_ (x1 := x1) (a := a) t10 ha ha' yA (zzA 5 (by omega) (by omega))
  rw [a1]
  rcases a3 with ⟨j1, M11', d11, m1, g1, t11', w11⟩ | ⟨M11, p', e, m1, m2, m3, m4⟩
  rotate_left
  · obtain ⟨C', p2, r1, r2, r3⟩ := j76b (a := a) m3 ha
    exact ⟨C', r1, FX_t (FX_t F10 a2) r2, Or.inr ⟨M11, p2, e, m1 _, GX_t G10 m2, r3, m4⟩⟩
  rw [m1]
  have F11 := FX_t F10 a2
  have G11 := GX_t (GX_t G10 (gT_X g1 (by omega))) (GX_w (M := M11') (x := 3))
  have ew : ∀ (h' i : Nat), h' < 7 → (w_3 M11' 3).1 (369 + h') i = M11'.1 (369 + h') i := fun h' i q => w3_r.2.2.2.1 (369 + h') i (by omega)
  have kB0 : kS C11 a (w_3 M11' 3) 0 := kS_e rfl (fun i => ew 0 i (by omega)) (kS_T kA0 (by omega) (by omega) j1 g1)
  have kB1 : kS C11 a (w_3 M11' 3) 1 := kS_e rfl (fun i => ew 1 i (by omega)) (kS_T kA1 (by omega) (by omega) j1 g1)
  have kB2 : kS C11 a (w_3 M11' 3) 2 := kS_e rfl (fun i => ew 2 i (by omega)) (kS_T kA2 (by omega) (by omega) j1 g1)
  have kB4 : kS C11 a (w_3 M11' 3) 4 := kS_e rfl (fun i => ew 4 i (by omega)) (kS_T kA4 (by omega) (by omega) j1 g1)
  have nB0 := ne_o nA0 j1.2.2
  have nB1 := ne_o nA1 j1.2.2
  have nB2 := ne_o nA2 j1.2.2
  have zB6 : z_ C11 a 6 := z_o (zzA 6 (by omega) (by omega)) (by omega) (by omega) j1.1
  have oB := j1.2.1 oA
  have t11 := tx_w (x := 3) t11'
  generalize w_3 M11' 3 = M11 at *
  clear a1 a2 m1 g1 j1 zzA oA yA kA0 kA1 kA2 kA4 nA0 nA1 nA2 F10 G10 t10 t11' ew
  -- the years
  obtain ⟨C12, a1, a2, a3⟩ := yF_ (x1 := x1) (g := 999992) (a := a) t11 ha ha' zB6
  refine ⟨C12, a1, FX_t F11 a2, ?_⟩
  rcases a3 with ⟨i1, M12, p12, m1, g1, t12, k126⟩ | ⟨M12, p', e, m1, m2, m3, m4⟩
  · have j1 := cJ_I i1
    exact Or.inl ⟨M12, p12, m1, GX_t G11 (gT_X g1 (by omega)), t12, j1.2.1 oB, ⟨kS_T kB0 (by omega) (by omega) j1 g1, ne_o nB0 j1.2.2⟩, ⟨kS_T kB1 (by omega) (by omega) j1 g1, ne_o nB1 j1.2.2⟩, ⟨kS_T kB2 (by omega) (by omega) j1 g1, ne_o nB2 j1.2.2⟩, kS_T kB4 (by omega) (by omega) j1 g1, k126, dW_k w11 (fun j => i1.2.2.2.1 j) (fun j => g1.1 453 j (by omega) (by omega)) (fun k => kS_T k (by omega) (by omega) j1 g1) (fun k => kS_T k (by omega) (by omega) j1 g1)⟩
  · exact Or.inr ⟨M12, p', e, m1, GX_t G11 m2, m3, m4⟩
end KA_6
