section JZ_8
variable {S T C C' M M' D Y : jS} {n p s f a u u0 u1 st L X Yn N : Nat} {c e v lo hi x1 x2 x3 x4 x5 x6 x7 x8 x9 : Int32}
theorem p91 (hx : x3 ≠ -1) (h : J_T_number_91 lo hi x3 x4 C = some (v, C')) (hb : C'.1 25 3 = -1) : C'.1 25 2 ≠ x3 := by
  have j116 : ∀ (D : jS), J_T_number_116 lo x4 D = some (v, C') → C' = D := by
    intro D w
    unfold J_T_number_116 at w
    by_cases q : D.1 25 3 = -1
    · rw [if_pos q] at w; exact ((Prod.mk.inj (Option.some.inj w)).2).symm
    · rw [if_neg q] at w; exact ((Prod.mk.inj (Option.some.inj w)).2).symm
  have j111 : J_T_number_111 lo x3 x4 C ≠ some (v, C') := by
    intro w
    unfold J_T_number_111 F_T_breakAt at w
    by_cases q : C.1 25 3 = -1
    · rw [if_pos q, jl_, ob_] at w
      have := j116 _ w
      rw [this, w_ir, if_pos ⟨rfl, rfl⟩] at hb
      exact hx hb
    · rw [if_neg q, ob_] at w
      have := j116 _ w
      rw [this] at hb
      exact q hb
  unfold J_T_number_91 at h
  by_cases q : C.1 25 2 = x3
  · rw [if_pos q] at h; exact absurd h j111
  · rw [if_neg q] at h
    by_cases a : x4 < lo
    · rw [if_pos a] at h; exact absurd h j111
    · rw [if_neg a] at h
      by_cases b : x4 ≤ hi
      · rw [if_pos b] at h
        rw [j116 _ h]; exact q
      · rw [if_neg b] at h; exact absurd h j111
theorem p24 (hx : x3 ≠ -1) : ∀ (g : Nat) (x4 x5 : Int32) (C : jS), L_T_number_24 g lo hi x3 x4 x5 C = some (v, C') → C'.1 25 3 = -1 → C'.1 25 2 ≠ x3 := by
  intro g
  induction g with
  | zero => intro x4 x5 C h; exact absurd h (by unfold L_T_number_24; simp)
  | succ g ih =>
    intro x4 x5 C h hb
    unfold L_T_number_24 at h
    have j58 : J_T_number_58 (L_T_number_24 g) lo hi x3 x4 x5 C = some (v, C') → C'.1 25 2 ≠ x3 := by
      intro w
      unfold J_T_number_58 at w
      cases h1 : F_T_peek C with
      | none => rw [h1] at w; exact absurd w (by simp)
      | some z =>
        rw [h1, ob_] at w
        cases h2 : F_Math_min (x4 * 10 + z - 48) 1000000 C with
        | none => rw [h2] at w; exact absurd w (by simp)
        | some y =>
          rw [h2, ob_, jl_] at w
          exact ih _ _ _ w hb
    by_cases q : C.1 25 1 ≤ C.1 25 2
    · rw [if_pos q] at h; exact p91 hx h hb
    · rw [if_neg q] at h
      cases h1 : F_T_peek C with
      | none => rw [h1] at h; exact absurd h (by simp)
      | some z =>
        rw [h1, ob_] at h
        cases h2 : F_T_isDigit z C with
        | none => rw [h2] at h; exact absurd h (by simp)
        | some y =>
          rw [h2, ob_] at h
          by_cases a : y = 0
          · rw [if_pos a] at h; exact p91 hx h hb
          · rw [if_neg a] at h
            by_cases b : x5 = 0
            · rw [if_pos b] at h; exact j58 h
            · rw [if_neg b] at h
              by_cases d : x3 < C.1 25 2
              · rw [if_pos d] at h; exact p91 hx h hb
              · rw [if_neg d] at h; exact j58 h
/-- a number takes a sign at least -/
theorem nu_p (hx : C.1 25 2 ≠ -1) (h : F_T_number lo hi C = some (v, C')) (hb : C'.1 25 3 = -1) : C'.1 25 2 ≠ C.1 25 2 := by
  unfold F_T_number at h
  rw [jl_] at h
  cases h1 : F_T_peek C with
  | none => rw [h1] at h; exact absurd h (by simp)
  | some z =>
    rw [h1, ob_] at h
    by_cases a : z = 48
    · rw [if_pos a] at h; exact p24 hx _ _ _ _ h hb
    · rw [if_neg a] at h; exact p24 hx _ _ _ _ h hb
/-- a value takes a sign at least -/
theorem va_p (h : tx C M n p) (hx : x1.toInt = f) (hf : f < 7) (hv : F_CR_readValue x1 C = some (v, C')) {p' : Nat} (h' : tx C' M' n p') (hp : p ≤ p') : p < p' := by
  have hb : C'.1 25 3 = -1 := h'.2.2.2.2.2.2.1.1
  obtain ⟨l1, l2, -⟩ := fl7 (S := C) hx hf
  obtain ⟨k1, -, -⟩ := fl7 (S := c_3 C) hx hf
  have num : J_CR_readValue_29 x1 (-1) C = some (v, C') → p < p' := by
    intro w
    unfold J_CR_readValue_29 at w
    rw [l1, ob_, if_neg (by decide), l2, ob_] at w
    cases q : F_T_number (jx_LEAST f) (jx_MOSTS f) C with
    | none => rw [q] at w; exact absurd w (by simp)
    | some z =>
      rw [q, ob_] at w
      obtain ⟨z1, z2⟩ := z
      have e : z2 = C' := (Prod.mk.inj (Option.some.inj w)).2
      have := nu_p (pos_n h) q (by rw [e]; exact hb)
      rw [e] at this
      have np : p' ≠ p := fun r => this (eqI.mpr (by rw [h'.2.2.2.2.1, h.2.2.2.2.1, r]))
      omega
  have nam : ∀ X Yn N, nl X Yn N → (F_T_takeName X C).bind (fun z2 => J_CR_readValue_29 x1 z2.1 z2.2) = some (v, C') → p < p' := by
    intro X Yn N hl w
    rcases vl_n (x1 := x1) hl h with ⟨x, y, j, a1, a2, a3, a4, a5, a6, a7, a8⟩ | ⟨a1, a2⟩
    · rw [a1, ob_] at w
      unfold J_CR_readValue_29 at w
      rw [k1, ob_, if_pos (show (0 : Int32) ≤ x by rw [geI (k := 0) (n := 0) rfl]; omega)] at w
      have e := Prod.mk.inj (Option.some.inj w)
      have e2 : c_3 C = C' := e.2
      have := (tx_3 h a6).2.2.2.2.1
      rw [e2, h'.2.2.2.2.1] at this
      omega
    · rw [a1, ob_] at w
      exact num w
  unfold F_CR_readValue at hv
  by_cases q4 : x1 = 4
  · rw [if_pos q4] at hv; exact nam 3 428 12 (Or.inl ⟨rfl, rfl, rfl⟩) hv
  · rw [if_neg q4] at hv
    by_cases q5 : x1 = 5
    · rw [if_pos q5] at hv; exact nam 4 429 7 (Or.inr ⟨rfl, rfl, rfl⟩) hv
    · rw [if_neg q5] at hv; exact num hv
/-- the model at an item -/
noncomputable def mi (kt : Int32 → Int32 → jS → Option (Option Nat × jS)) (x1 x2 : Int32) (M : jS) : Option (Option Nat × jS) := (F_M_peek M).bind (fun z2 => if z2 = 42 then (J_M_items_40 kt x1 x2 1 M) else (J_M_items_40 kt x1 x2 0 M))
theorem itb (h : bk C n p e) (ha : a ≠ 25) (hx : x1.toInt = f) (hf : f < 7) : ∃ C', F_CR_readItem a x1 x2 C = some (1, C') ∧ FX a C C' ∧ bk C' n p e := by
  obtain ⟨l1, l2, l3, l4, l5⟩ := lhN hf
  obtain ⟨k1, k2, -⟩ := fl7 (S := C) hx hf
  obtain ⟨C', c1, c2, c3⟩ := it45b (a := a) (x4 := jx_LEAST f) h ha hx hf l1 (Nat.le_refl _) l3
  refine ⟨C', ?_, c2.1, c3⟩
  unfold F_CR_readItem
  rw [k1, ob_, k2, ob_, fB_tk h (by decide), ob_, if_pos rfl, fB_va h hx hf, ob_, sgb h, ob_, if_pos rfl, c1]
  simp only [ite_self]
/-- an item on both sides -/
theorem it_ (h : tx C M n p) (ha : a ≠ 25) (ha' : a ≠ 26) (hk : kS C a M f) (hx : x1.toInt = f) (hf : f < 7) : ∃ r C', F_CR_readItem a x1 x2 C = some (r, C') ∧ FX a C C' ∧ ((r = 1 ∧ cI f a C C' ∧ ∃ M' d u, (∀ kt, mi kt x1 x2 M = itE kt x1 M') ∧ gF f M M' ∧ tx C' M' n (p + d) ∧ 1 ≤ d ∧ kS C' a M' f ∧ lo_ f ≤ u ∧ u ≤ hi_ f ∧ bt (C'.2.1 (a + 1) (wd f u)) (bi f u) = true) ∨ (r = 0 ∧ ¬ x2 = 0 ∧ C'.2 = C.2 ∧ ∃ M' d v, (∀ kt, mi kt x1 x2 M = some (none, M')) ∧ gS M M' ∧ tx C' M' n (p + d) ∧ sR C' a M' f v ∧ (lo_ f : Int) ≤ v.toInt ∧ v.toInt ≤ hi_ f) ∨ (∃ M' p' e, (∀ kt, mi kt x1 x2 M = some (some 12, M')) ∧ GX M M' ∧ bk C' n p' e ∧ M'.1 215 3 = e)) := by
  obtain ⟨l1, l2, l3, l4, l5⟩ := lhN hf
  obtain ⟨k1, k2, -⟩ := fl7 (S := C) hx hf
  unfold F_CR_readItem mi J_M_items_40
  rw [k1, ob_, k2, ob_]
  simp only [fM_pk h, ob_, j_qN hx hf, clN hx, jl_]
  by_cases q : pkv C n p = 42
  · obtain ⟨t1, t2⟩ := (fT_tk h (c := 42) (by decide)).1 q
    rw [t2, ob_, if_neg (show ¬ (1 : Int32) = 0 by decide)]
    simp only [if_pos q, if_neg (show ¬ (1 : Int32) = 0 by decide)]
    have hk1 : kS (c_1 C) a (m_1 M) f := kS_e rfl (fun i => gN_1.1 (369 + f) i (by omega)) hk
    obtain ⟨C', c1, c2, c3, c4⟩ := it77 (tx_1 h t1) ha hk1 hx hf l1 (Nat.le_refl _) l3 l2 l3 (Nat.le_refl _)
    have cc := cI_t (cI_T fT_1 ha) c2
    refine ⟨1, C', c1, cc.1, ?_⟩
    rcases c4 with ⟨M', d, m1, m2, m3, m4⟩ | ⟨M', p', e, m1, m2, m3, m4⟩
    · exact Or.inl ⟨rfl, cc, M', 1 + d, lo_ f, m1, gF_t (gF_N gN_1) m2, by rw [← Nat.add_assoc]; exact m3, by omega, m4, Nat.le_refl _, l3, c3⟩
    · exact Or.inr (Or.inr ⟨M', p', e, m1, gF_X (gF_t (gF_N gN_1) m2) hf, m3, m4⟩)
  · rw [(fT_tk h (c := 42) (by decide)).2 q, ob_, if_pos rfl]
    simp only [if_neg q, if_true]
    obtain ⟨v, C1, r1, r2, r3, r4⟩ := fC_va (x1 := x1) h hx hf
    rw [r1, ob_]
    rw [l1, l2] at r2
    obtain ⟨u0, hu0⟩ : ∃ w : Nat, v.toInt = w := ⟨v.toInt.toNat, by omega⟩
    rcases r4 with ⟨M1, d, o1, o2, o3⟩ | ⟨M1, p', e, o1, o2, o3, o4⟩
    · rw [clN h.2.2.2.2.1] at o3
      have dp := va_p h hx hf r1 o3 (by omega)
      simp only [o1, jx_0]
      have km : kS C1 a M1 f := kS_e r3.2 (fun i => o2.1 (369 + f) i (by omega)) hk
      have go : ∃ C', J_CR_readItem_45 a x1 v (jx_MOSTS f) C1 = some (1, C') ∧ cI f a C C' ∧ ((∃ M' d' u, (∀ kt, J_M_items_97 kt x1 v (jx_MOSTS f) M1 = itE kt x1 M') ∧ gF f M M' ∧ tx C' M' n (p + d') ∧ 1 ≤ d' ∧ kS C' a M' f ∧ lo_ f ≤ u ∧ u ≤ hi_ f ∧ bt (C'.2.1 (a + 1) (wd f u)) (bi f u) = true) ∨ (∃ M' p' e, (∀ kt, J_M_items_97 kt x1 v (jx_MOSTS f) M1 = some (some 12, M')) ∧ GX M M' ∧ bk C' n p' e ∧ M'.1 215 3 = e)) := by
        obtain ⟨C', c1, c2, c3⟩ := it45 o3 ha km hx hf hu0 (by omega) (by omega)
        refine ⟨C', c1, cI_t (cI_T r3 ha) c2, ?_⟩
        rcases c3 with ⟨M', d', m1, m2, m3, m4, m5⟩ | ⟨M', p', e, m1, m2, m3, m4⟩
        · exact Or.inl ⟨M', d + d', u0, m1, gF_t (gF_N o2) m2, by rw [← Nat.add_assoc]; exact m3, by omega, m4, by omega, by omega, m5⟩
        · exact Or.inr ⟨M', p', e, m1, gF_X (gF_t (gF_N o2) m2) hf, m3, m4⟩
      by_cases z : x2 = 0
      · rw [if_pos z]
        simp only [if_pos z]
        obtain ⟨C', c1, c2, c3⟩ := go
        refine ⟨1, C', c1, c2.1, ?_⟩
        rcases c3 with w | w
        · exact Or.inl ⟨rfl, c2, w⟩
        · exact Or.inr (Or.inr w)
      · rw [if_neg z]
        simp only [if_neg z]
        obtain ⟨r, C2, s1, s2, s3, s4⟩ := sgn (a := a) (v := v) o3 ha ha' hx
        rw [s1, ob_]
        rcases s4 with ⟨w1, w2, w3⟩ | ⟨w1, M2, d2, w3, w4, w5, w6⟩ | ⟨w1, M2, p', e, w3, w4, w5, w6⟩
        · subst w1 w2
          rw [if_pos rfl]
          simp only [w3, jx_0, if_true]
          obtain ⟨C', c1, c2, c3⟩ := go
          refine ⟨1, C', c1, c2.1, ?_⟩
          rcases c3 with w | w
          · exact Or.inl ⟨rfl, c2, w⟩
          · exact Or.inr (Or.inr w)
        · subst w1
          rw [if_neg (show ¬ (1 : Int32) = 0 by decide)]
          simp only [w3, jx_0, if_neg (show ¬ (1 : Int32) = 0 by decide)]
          exact ⟨0, C2, rfl, FX_t (FX_T r3) s2, Or.inr (Or.inl ⟨rfl, z, by rw [s3, r3.2], M2, d + d2, v, fun _ => rfl, gS_t (gS_N o2) w4, by rw [← Nat.add_assoc]; exact w5, w6, by omega, by omega⟩)⟩
        · subst w1
          rw [if_neg (show ¬ (1 : Int32) = 0 by decide)]
          simp only [w3, jx_1]
          exact ⟨0, C2, rfl, FX_t (FX_T r3) s2, Or.inr (Or.inr ⟨M2, p', e, fun _ => rfl, gS_X (gS_t (gS_N o2) w4), w5, w6⟩)⟩
    · simp only [o1, jx_1]
      obtain ⟨C', c1, c2, c3⟩ := it45b (a := a) (x4 := v) o3 ha hx hf hu0 (by omega) (by omega)
      refine ⟨1, C', ?_, (cI_t (cI_T r3 ha) c2).1, Or.inr (Or.inr ⟨M1, p', e, fun _ => rfl, GX_N o2, c3, o4⟩)⟩
      rw [sgb o3, ob_, if_pos rfl, c1]
      simp only [ite_self]
end JZ_8
