section JZ_9
variable {S T C C' M M' D Y : jS} {n p s f a u u0 u1 st L k : Nat} {c e v lo hi x1 x2 x3 x4 x5 x6 x7 x8 x9 : Int32}
/-- how a field comes out -/
def rO (f a n p : Nat) (sg : Prop) (C M C' : jS) (R : Option (Option Nat × jS)) : Prop := FX a C C' ∧ ((cI f a C C' ∧ ∃ M' d, R = some (none, M') ∧ gF f M M' ∧ tx C' M' n (p + d) ∧ kS C' a M' f ∧ ∃ u, lo_ f ≤ u ∧ u ≤ hi_ f ∧ bt (C'.2.1 (a + 1) (wd f u)) (bi f u) = true) ∨ (sg ∧ C'.2 = C.2 ∧ ∃ M' d v, R = some (none, M') ∧ gT f M M' ∧ tx C' M' n (p + d) ∧ sR C' a M' f v ∧ (lo_ f : Int) ≤ v.toInt ∧ v.toInt ≤ hi_ f) ∨ (∃ M' p' e, R = some (some 12, M') ∧ GX M M' ∧ bk C' n p' e ∧ M'.1 215 3 = e))
theorem ri_e {g : Nat} : L_CR_readItems_5 (g + 1) a x1 0 x4 C = some C := by
  unfold L_CR_readItems_5
  rw [if_pos rfl]
theorem ri_b (h : bk C n p e) (ha : a ≠ 25) (hx : x1.toInt = f) (hf : f < 7) : ∃ C', F_CR_readItems a x1 C = some C' ∧ FX a C C' ∧ bk C' n p e := by
  obtain ⟨C', c1, c2, c3⟩ := itb (a := a) (x2 := 1) h ha hx hf
  refine ⟨C', ?_, c2, c3⟩
  unfold F_CR_readItems
  rw [show ju_ = 999998 + 1 + 1 from rfl]
  unfold L_CR_readItems_5 J_CR_readItems_30 J_CR_readItems_49
  rw [if_neg (by decide), if_neg (by decide), if_pos rfl, c1, ob_, if_neg (show ¬ (1 : Int32) = 0 by decide), fB_tk c3 (by decide), ob_, if_pos rfl]
  exact ri_e
theorem ri_l (ha : a ≠ 25) (ha' : a ≠ 26) (hx : x1.toInt = f) (hf : f < 7) : ∀ (g g2 : Nat) (C M : jS) (p k : Nat) (x4 x2 : Int32), tx C M n p → kS C a M f → x4.toInt = k → 2 * k ≤ p → ((k = 0 ∧ x2 = 1) ∨ (k ≠ 0 ∧ x2 = 0)) → n - p + 2 ≤ g → n - p < g2 → ∃ C', L_CR_readItems_5 g a x1 1 x4 C = some C' ∧ rO f a n p (k = 0) C M C' (L_M_items_26 g2 x1 x2 M) := by
  intro g
  induction g with
  | zero => intro g2 C M p k x4 x2 _ _ _ _ _ q; omega
  | succ g ih =>
    intro g2 C M p k x4 x2 h hk h4 hkp hx2 hg hg2
    obtain ⟨g2, rfl⟩ : ∃ j, g2 = j + 1 := ⟨g2 - 1, by omega⟩
    have hn := h.1
    have hp := h.2.1
    obtain ⟨r, C1, c1, c2, c3⟩ := it_ (x2 := x2) h ha ha' hk hx hf
    have em : L_M_items_26 (g2 + 1) x1 x2 M = mi (L_M_items_26 g2) x1 x2 M := by
      conv => lhs; unfold L_M_items_26
      rfl
    have ec : L_CR_readItems_5 (g + 1) a x1 1 x4 C = (if r = 0 then L_CR_readItems_5 g a x1 0 (x4 + 1) C1 else ((F_T_take 44 C1).bind (fun z6 => if z6.1 = 0 then L_CR_readItems_5 g a x1 0 (x4 + 1) z6.2 else L_CR_readItems_5 g a x1 1 (x4 + 1) z6.2))) := by
      conv => lhs; unfold L_CR_readItems_5
      unfold J_CR_readItems_30 J_CR_readItems_49
      rw [if_neg (by decide), if_neg (by rw [geI (k := 400) (n := 400) rfl]; omega)]
      rcases hx2 with ⟨k0, e2⟩ | ⟨k0, e2⟩
      · rw [if_pos (eqI.mpr (by rw [h4, k0]; rfl)), ← e2, c1, ob_]
      · rw [if_neg (fun w => k0 (by rw [w] at h4; simp only [Int32.reduceToInt] at h4; omega)), ← e2, c1, ob_]
    rw [em, ec]
    obtain ⟨g, rfl⟩ : ∃ j, g = j + 1 := ⟨g - 1, by omega⟩
    rcases c3 with ⟨r1, cc, M1, d, u, m1, m2, m3, m4, m5, m6, m7, m8⟩ | ⟨r0, z, s2, M1, d, v, m1, m2, m3, m4, m5, m6⟩ | ⟨M1, p', e, m1, m2, m3, m4⟩
    · rw [r1, if_neg (show ¬ (1 : Int32) = 0 by decide), m1]
      unfold itE
      rw [fM_pk m3, ob_]
      by_cases q : pkv C1 n (p + d) = 44
      · obtain ⟨t1, t2⟩ := (fT_tk m3 (c := 44) (by decide)).1 q
        rw [t2, ob_, if_neg (show ¬ (1 : Int32) = 0 by decide), if_pos q, jl_]
        obtain ⟨C2, e1, e2⟩ := ih g2 (c_1 C1) (m_1 M1) (p + d + 1) (k + 1) (x4 + 1) 0 (tx_1 m3 t1) (kS_e rfl (fun i => gN_1.1 (369 + f) i (by omega)) m5) (p1I h4 (by omega)) (by omega) (Or.inr ⟨by omega, rfl⟩) (by omega) (by omega)
        refine ⟨C2, e1, ?_⟩
        obtain ⟨e3, e4⟩ := e2
        have f1 : FX a C (c_1 C1) := FX_t c2 (FX_T fT_1)
        have gm : gF f M (m_1 M1) := gF_t m2 (gF_N gN_1)
        refine ⟨FX_t f1 e3, ?_⟩
        rcases e4 with ⟨w0, M', d', w1, w2, w3, w4, w5⟩ | ⟨w0, -⟩ | ⟨M', p', e, w1, w2, w3, w4⟩
        · exact Or.inl ⟨cI_t (cI_t cc (cI_T fT_1 ha)) w0, M', d + 1 + d', w1, gF_t gm w2, by rw [← Nat.add_assoc, ← Nat.add_assoc]; exact w3, w4, w5⟩
        · omega
        · exact Or.inr (Or.inr ⟨M', p', e, w1, GX_t (gF_X gm hf) w2, w3, w4⟩)
      · rw [(fT_tk m3 (c := 44) (by decide)).2 q, ob_, if_pos rfl, if_neg q]
        exact ⟨C1, ri_e, c2, Or.inl ⟨cc, M1, d, rfl, m2, m3, m5, u, m6, m7, m8⟩⟩
    · rw [r0, if_pos rfl, m1]
      have k0 : k = 0 := by
        rcases hx2 with ⟨w, -⟩ | ⟨-, w⟩
        · exact w
        · exact absurd w z
      exact ⟨C1, ri_e, c2, Or.inr (Or.inl ⟨k0, s2, M1, d, v, rfl, gT_S m2, m3, m4, m5, m6⟩)⟩
    · rw [m1]
      by_cases q : r = 0
      · rw [if_pos q]
        exact ⟨C1, ri_e, c2, Or.inr (Or.inr ⟨M1, p', e, rfl, m2, m3, m4⟩)⟩
      · rw [if_neg q, fB_tk m3 (by decide), ob_, if_pos rfl]
        exact ⟨C1, ri_e, c2, Or.inr (Or.inr ⟨M1, p', e, rfl, m2, m3, m4⟩)⟩
/-- the model clears its set -/
theorem lM_2 (hx : x1.toInt = f) (hf : f < 7) : ∀ (g : Nat) (x2 : Int32) (k : Nat) (M : jS), x2.toInt = k → k ≤ 330 → 330 - k < g → (∀ i, i < k → M.1 (369 + f) i = 0) → ∃ M', L_M_items_2 g x1 x2 M = L_M_items_26 ju_ x1 1 M' ∧ (∀ b j, b ≠ 369 + f → M'.1 b j = M.1 b j) ∧ M'.2 = M.2 ∧ (∀ i, i < 330 → M'.1 (369 + f) i = 0) ∧ ∀ i, 330 ≤ i → M'.1 (369 + f) i = M.1 (369 + f) i := by
  intro g
  induction g with
  | zero => intro x2 k M _ _ q; omega
  | succ g ih =>
    intro x2 k M h2 hk hg hz
    by_cases e : k = 330
    · subst e
      refine ⟨M, ?_, fun _ _ _ => rfl, rfl, hz, fun _ _ => rfl⟩
      conv => lhs; unfold L_M_items_2
      rw [if_pos (by rw [geI (k := 330) (n := 330) rfl]; omega)]
    · have nb : vp_nar .boolean 0 = 0 := nar_b (Or.inl rfl)
      obtain ⟨M', m1, m2, m3, m4, m5⟩ := ih (x2 + 1) (k + 1) (w_i M (369 + f) k 0) (p1I h2 (by omega)) (by omega) (by omega) (fun i hi => by
        rw [w_ir]
        by_cases w : i = k
        · rw [if_pos ⟨rfl, w⟩]
        · rw [if_neg (fun v => w v.2)]; exact hz i (by omega))
      refine ⟨M', ?_, fun b j hb => by rw [m2 b j hb, w_ir, if_neg (by omega)], by rw [m3, w_i2], m4, fun i hi => by rw [m5 i hi, w_ir, if_neg (by omega)]⟩
      conv => lhs; unfold L_M_items_2
      rw [if_neg (by rw [geI (k := 330) (n := 330) rfl]; omega), j_qN hx hf, j_qN h2 (by omega), clN hx, clN h2, nb, jl_, m1]
/-- the items of a field on both sides -/
theorem ri_ (h : tx C M n p) (ha : a ≠ 25) (ha' : a ≠ 26) (hx : x1.toInt = f) (hf : f < 7) (hz : ∀ u, lo_ f ≤ u → u ≤ hi_ f → bt (C.2.1 (a + 1) (wd f u)) (bi f u) = false) : ∃ C', F_CR_readItems a x1 C = some C' ∧ rO f a n p True C M C' (F_M_items x1 M) := by
  obtain ⟨l1, l2, l3, l4, l5⟩ := lhN hf
  obtain ⟨M1, m1, m2, m3, m4, m5⟩ := lM_2 (M := M) hx hf ju_ 0 0 rfl (by omega) (by show _ < 1000000; omega) (fun i hi => by omega)
  have hn := h.1
  have k1 : kS C a M1 f := by
    refine ⟨fun i hi => Or.inl (m4 i hi), fun u u1 u2 => ?_⟩
    · rw [hz u u1 u2, m4 (u - lo_ f) (by omega)]
      simp
  obtain ⟨C', c1, c2, c3⟩ := ri_l ha ha' hx hf ju_ ju_ C M1 p 0 0 1 (tx_e h rfl m2 hf) k1 rfl (by omega) (Or.inl ⟨rfl, rfl⟩) (by show _ ≤ 1000000; omega) (by show _ < 1000000; omega)
  have gm : gF f M M1 := ⟨fun b j _ q => m2 b j q, m3⟩
  refine ⟨C', c1, c2, ?_⟩
  have e : F_M_items x1 M = L_M_items_26 ju_ x1 1 M1 := m1
  rw [e]
  rcases c3 with ⟨w0, M', d', w1, w2, w3, w4, w5⟩ | ⟨w0, w1, M', d', v, w2, w3, w4, w5, w6, w7⟩ | ⟨M', p', e, w1, w2, w3, w4⟩
  · exact Or.inl ⟨w0, M', d', w1, gF_t gm w2, w3, w4, w5⟩
  · exact Or.inr (Or.inl ⟨trivial, w1, M', d', v, w2, gT_t (gT_F gm) w3, w4, w5, w6, w7⟩)
  · exact Or.inr (Or.inr ⟨M', p', e, w1, GX_t (gF_X gm hf) w2, w3, w4⟩)
end JZ_9
