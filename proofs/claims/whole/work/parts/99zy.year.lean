section KA_5
variable {S T C C' M M' D Y : jS} {n p s f a u k g : Nat} {c e v x1 x3 : Int32}
theorem of_1 {L : Nat} : ∀ (g s t : Nat), s ≤ t → t ≤ L → t - s < g → of_ 1 L g s t := by
  intro g
  induction g with
  | zero => intro s t _ _ q; omega
  | succ g ih =>
    intro s t h1 h2 h3
    refine ⟨by omega, ?_⟩
    by_cases e : t = s
    · exact Or.inl e
    · exact Or.inr (ih (s + 1) t (by omega) h2 (by omega))
/-- all the years, in the class -/
theorem yr_c : ∃ C', F_CR_addSome a 6 1970 2299 1 C = some C' ∧ C'.1 = C.1 ∧ cI 6 a C C' ∧ ∀ u, lo_ 6 ≤ u → u ≤ hi_ 6 → bt (C'.2.1 (a + 1) (wd 6 u)) (bi 6 u) = true := by
  obtain ⟨l1, l2⟩ := lh6
  obtain ⟨C', c1, c2, c3, c4⟩ := fC_as (a := a) (C := C) (x1 := 6) (f := 6) (p1 := 1970) (p2 := 2299) (p3 := 1) (u0 := 1970) (u1 := 2299) (st := 1) rfl (by omega) rfl (by omega) (by omega) rfl (by omega) (by omega) rfl (by omega) (by omega)
  have hT : ∀ t, of_ 1 (if 1970 ≤ 2299 then 2299 - 1970 else 2299 + (hi_ 6 - lo_ 6 + 1) - 1970) ju_ 0 t → lo_ 6 ≤ vl 6 1970 t ∧ vl 6 1970 t ≤ hi_ 6 := fun t ht => vl_b (L := if 1970 ≤ 2299 then 2299 - 1970 else 2299 + (hi_ 6 - lo_ 6 + 1) - 1970) (by omega) (by omega) (by omega) (by rw [if_pos (by omega)]; omega) (of_b _ _ _ ht).2
  obtain ⟨k1, k2, -⟩ := as_k (M := C) (M' := C) (show 6 < 7 by omega) hT c4
  refine ⟨C', c1, c2, ⟨c3, k2, k1, fun j => by rw [c2], fun w i q => (c4 w i).mpr (Or.inl q)⟩, fun u u1 u2 => (c4 _ _).mpr (Or.inr ⟨u - 1970, of_1 ju_ 0 (u - 1970) (by omega) (by rw [if_pos (by omega)]; omega) (by show _ < 1000000; omega), ?_⟩)⟩
  have : vl 6 1970 (u - 1970) = u := by
    unfold vl
    rw [if_pos (by omega)]
    omega
  rw [this]
  exact ⟨rfl, rfl⟩
/-- all the years, in the model -/
theorem lM_38 : ∀ (g : Nat) (x4 : Int32) (k : Nat) (M : jS), x4.toInt = k → k ≤ 330 → 330 - k < g → (∀ i, i < k → M.1 375 i = 1) → ∃ M', L_M_readCron_38 g x1 x4 M = J_M_readCron_227 x1 M' ∧ (∀ b j, b ≠ 375 → M'.1 b j = M.1 b j) ∧ M'.2 = M.2 ∧ ∀ i, i < 330 → M'.1 375 i = 1 := by
  intro g
  induction g with
  | zero => intro x4 k M _ _ q; omega
  | succ g ih =>
    intro x4 k M h2 hk hg hz
    by_cases e : k = 330
    · subst e
      refine ⟨M, ?_, fun _ _ _ => rfl, rfl, hz⟩
      conv => lhs; unfold L_M_readCron_38
      rw [if_pos (by rw [geI (k := 330) (n := 330) rfl]; omega)]
    · have n1 : vp_nar .boolean 1 = 1 := nar_b (Or.inr rfl)
      obtain ⟨M', m1, m2, m3, m4⟩ := ih (x4 + 1) (k + 1) (w_i M 375 k 1) (p1I h2 (by omega)) (by omega) (by omega) (fun i hi => by
        rw [w_ir]
        by_cases w : i = k
        · rw [if_pos ⟨rfl, w⟩]
        · rw [if_neg (fun v => w v.2)]; exact hz i (by omega))
      refine ⟨M', ?_, fun b j hb => by rw [m2 b j hb, w_ir, if_neg (by omega)], by rw [m3, w_i2], m4⟩
      conv => lhs; unfold L_M_readCron_38
      rw [if_neg (by rw [geI (k := 330) (n := 330) rfl]; omega), j_qt (show j_in 6 7 = true by decide), j_qN h2 (by omega), clN h2, show 369 + (6 : Int32).toNatClampNeg = 375 from rfl, n1, jl_, m1]
theorem m227 (h : tx C M n p) (hp : ¬ p < n) : J_M_readCron_227 x1 M = L_M_readCron_248 ju_ x1 0 M := by
  unfold J_M_readCron_227
  rw [if_pos (by rw [fM_dn h]; exact hp)]
theorem m227b (h : tx C M n p) (hp : p < n) : J_M_readCron_227 x1 M = some (some 12, w_i M 215 3 (M.1 215 7)) := by
  unfold J_M_readCron_227
  rw [if_neg (by rw [fM_dn h]; exact fun w => w hp), fM_bad, jxv_1]
/-- the model behind the years -/
theorem m179e (h : tx C M n p) : J_M_readCron_179 (L_M_readCron_12 (g + 1)) x1 6 M = J_M_readCron_227 x1 M := by
  unfold J_M_readCron_179 J_M_readCron_193
  rw [if_pos (by decide)]
  have k7 : ∀ S : jS, L_M_readCron_12 (g + 1) x1 (6 + 1) S = J_M_readCron_227 x1 S := by
    intro S
    conv => lhs; unfold L_M_readCron_12
    rw [if_pos (by decide)]
  rw [k7, fM_pk h, ob_]
  by_cases q : p < n
  · rw [if_neg (by rw [fM_dn h]; exact fun w => w q)]
    by_cases w : pkv C n p = 32
    · rw [if_pos w]
    · rw [if_neg w, m227b h q]
      unfold J_M_readCron_213
      rw [fM_bad, jxv_1]
  · rw [if_pos (by rw [fM_dn h]; exact q)]
/-- the years on both sides -/
theorem yF_ (h : tx C M n p) (ha : a ≠ 25) (ha' : a ≠ 26) (hz : z_ C a 6) : ∃ C', J_CR_readCron_76 a C = some C' ∧ FX a C C' ∧ ((cI 6 a C C' ∧ ∃ M' p', J_M_readCron_179 (L_M_readCron_12 (g + 1 + 1)) x1 5 M = L_M_readCron_248 ju_ x1 0 M' ∧ gT 6 M M' ∧ tx C' M' n p' ∧ kS C' a M' 6) ∨ (∃ M' p' e, J_M_readCron_179 (L_M_readCron_12 (g + 1 + 1)) x1 5 M = some (some 12, M') ∧ GX M M' ∧ bk C' n p' e ∧ M'.1 215 3 = e)) := by
  obtain ⟨l1, l2⟩ := lh6
  have h' := h
  obtain ⟨b1, b2, b3, b4, b5, b6, b7, b8⟩ := h'
  unfold J_CR_readCron_76
  rw [fT_dn h, ob_]
  have k6 : L_M_readCron_12 (g + 1 + 1) x1 (5 + 1) M = if M.1 215 7 = M.1 215 2 then L_M_readCron_38 ju_ x1 0 M else J_M_readCron_66 (L_M_readCron_12 (g + 1)) x1 6 M := by
    conv => lhs; unfold L_M_readCron_12
    rw [if_neg (by decide), if_pos (by decide)]
    rfl
  by_cases q : p < n
  · rw [if_pos q, if_pos rfl]
    have ne7 : ¬ M.1 215 7 = M.1 215 2 := fun w => by
      have := eqI.mp w
      rw [b6, b4] at this
      omega
    have mm : J_M_readCron_179 (L_M_readCron_12 (g + 1 + 1)) x1 5 M = j_xv (F_M_blanks M) (fun c S => (some c, S)) (fun S62 => J_M_readCron_74 (L_M_readCron_12 (g + 1)) x1 6 S62) := by
      unfold J_M_readCron_179 J_M_readCron_193
      rw [if_pos (by decide), if_neg (by rw [fM_dn h]; exact fun w => w q), fM_pk h, ob_]
      by_cases w : pkv C n p = 32
      · rw [if_pos w, k6, if_neg ne7]
        unfold J_M_readCron_66
        rw [if_neg (by decide)]
      · rw [if_neg w]
        unfold J_M_readCron_213 F_M_blanks
        rw [fM_bad, jxv_1, fM_pk h, ob_, if_neg w, jxv_1, jxv_1]
    rw [mm]
    obtain ⟨C1, a1, a2, a3⟩ := fT_bl h
    rw [a1, ob_]
    have z1 : z_ C1 a 6 := z_o (f := 0) hz (by omega) (by omega) (uO_e a2.2)
    rcases a3 with ⟨M1, d1, m1, m2, m3⟩ | ⟨M1, p', e, m1, m2, m3, m4⟩
    · rw [m1, jxv_0, m74 (f := 6) (by omega) (by omega) rfl]
      obtain ⟨C2, c1, c2, c3⟩ := pf_ (a := a) (x1 := 6) (f := 6) m3 ha ha' rfl (by omega) (by omega) (by omega) z1
      rw [c1, ob_]
      rcases c3 with ⟨w0, M2, d2, w1, w2, w3, w4, w5⟩ | ⟨M2, p', e, w1, w2, w3, w4⟩
      · rw [w1, jxv_0, m179e w3]
        obtain ⟨C3, e1, e2, e3⟩ := fT_re w3
        have fr : FX a C C3 := FX_t (FX_t (FX_T a2) c2) (FX_T e2)
        refine ⟨C3, by rw [e1, ob_], fr, ?_⟩
        rcases e3 with ⟨y, e4⟩ | ⟨y, e4⟩
        · subst e4
          exact Or.inl ⟨cI_t (cI_T a2 ha) w0, M2, _, m227 w3 y, gT_t (gT_S (gS_N m2)) w2, w3, w4⟩
        · exact Or.inr ⟨w_i M2 215 3 (M2.1 215 7), _, _, m227b w3 y, GX_t (GX_t (GX_N m2) (gT_X w2 (by omega))) (GX_N (gN_i (Or.inl rfl))), e4, by rw [w_ir, if_pos ⟨rfl, rfl⟩]⟩
      · rw [w1, jxv_1]
        exact ⟨C2, by rw [fB_re w3, ob_], FX_t (FX_T a2) c2, Or.inr ⟨M2, p', e, rfl, GX_t (GX_N m2) w2, w3, w4⟩⟩
    · rw [m1, jxv_1]
      obtain ⟨C2, c1, c2, c3⟩ := ri_b (a := a) (x1 := 6) (f := 6) m3 ha rfl (by omega)
      exact ⟨C2, by rw [c1, ob_, fB_re c3, ob_], FX_t (FX_T a2) c2, Or.inr ⟨M1, p', e, rfl, GX_N m2, c3, m4⟩⟩
  · rw [if_neg q, if_neg (by decide)]
    have e7 : M.1 215 7 = M.1 215 2 := eqI.mpr (by rw [b6, b4]; omega)
    obtain ⟨C', c1, c2, c3, c4⟩ := yr_c (a := a) (C := C)
    obtain ⟨M', m1, m2, m3, m4⟩ := lM_38 (x1 := x1) ju_ 0 0 M rfl (by omega) (by show _ < 1000000; omega) (fun i hi => by omega)
    have h1 : tx C' M' n p := tx_e (f := 6) h c2 (fun b j q => m2 b j (by omega)) (by omega)
    refine ⟨C', by rw [c1, ob_], c3.1, Or.inl ⟨c3, M', p, ?_, ⟨fun b j _ q2 => m2 b j (by omega), m3⟩, h1, ⟨fun i hi => Or.inr (m4 i hi), fun u u1 u2 => ?_⟩⟩⟩
    · unfold J_M_readCron_179 J_M_readCron_193
      rw [if_pos (by decide), if_pos (by rw [fM_dn h]; exact q), k6, if_pos e7, m1, m227 h1 q]
    · rw [c4 u u1 u2, show (369 + 6 : Nat) = 375 from rfl, m4 (u - lo_ 6) (by omega)]
      exact ⟨fun _ => by decide, fun _ => rfl⟩
end KA_5
