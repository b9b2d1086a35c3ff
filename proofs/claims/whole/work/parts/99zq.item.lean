section JZ_6
variable {S T C C' M M' D Y : jS} {n p s f a u u0 u1 st L : Nat} {c e x1 x2 x4 x5 x6 x7 x8 x9 : Int32}
/-- what an item leaves in the class -/
def cI (f a : Nat) (C C' : jS) : Prop := FX a C C' ∧ uO f C a C' ∧ (kO C a → kO C' a) ∧ (∀ j, C'.1 a j = C.1 a j) ∧ ∀ w i, bt (C.2.1 (a + 1) w) i = true → bt (C'.2.1 (a + 1) w) i = true
theorem cI_t (h1 : cI f a C C') (h2 : cI f a C' D) : cI f a C D := ⟨FX_t h1.1 h2.1, uO_t h1.2.1 h2.2.1, fun k => h2.2.2.1 (h1.2.2.1 k), fun j => (h2.2.2.2.1 j).trans (h1.2.2.2.1 j), fun w i q => h2.2.2.2.2 w i (h1.2.2.2.2 w i q)⟩
theorem cI_T (h : fT C C') (ha : a ≠ 25) : cI f a C C' := ⟨FX_T h, uO_e h.2, fun k => kO_e h.2 k, fun j => h.1 a j (by omega), fun w i q => by rw [h.2]; exact q⟩
theorem cI_r : cI f a C C := ⟨FX_r, uO_r, fun k => k, fun _ => rfl, fun _ _ q => q⟩
/-- the class adds, whatever its text is -/
theorem ad_c (hx : x1.toInt = f) (hf : f < 7) (h4 : x4.toInt = u0) (b1 : lo_ f ≤ u0) (b2 : u0 ≤ hi_ f) (h5 : x5.toInt = u1) (b3 : lo_ f ≤ u1) (b4 : u1 ≤ hi_ f) (h7 : x7.toInt = st) (s1 : 1 ≤ st) (s2 : st ≤ 99) : ∃ C', F_CR_addSome a x1 x4 x5 x7 C = some C' ∧ C'.1 = C.1 ∧ cI f a C C' ∧ bt (C'.2.1 (a + 1) (wd f u0)) (bi f u0) = true ∧ ∀ M, ∃ M', (∀ kt, J_M_items_216 kt x1 x4 x5 x7 M = itE kt x1 M') ∧ gF f M M' ∧ (∀ b j, b ≠ 369 + f → M'.1 b j = M.1 b j) ∧ (kS C a M f → kS C' a M' f) := by
  obtain ⟨l1, l2, l3, l4, l5⟩ := lhN hf
  obtain ⟨C', c1, c2, c3, c4⟩ := fC_as (a := a) (C := C) hx hf h4 b1 b2 h5 b3 b4 h7 s1 s2
  have hT : ∀ t, of_ st (if u0 ≤ u1 then u1 - u0 else u1 + (hi_ f - lo_ f + 1) - u0) ju_ 0 t → lo_ f ≤ vl f u0 t ∧ vl f u0 t ≤ hi_ f := fun t ht => vl_b (L := if u0 ≤ u1 then u1 - u0 else u1 + (hi_ f - lo_ f + 1) - u0) hf b1 b2 (by split <;> omega) (of_b _ _ _ ht).2
  have z : of_ st (if u0 ≤ u1 then u1 - u0 else u1 + (hi_ f - lo_ f + 1) - u0) ju_ 0 0 := by
    rw [show ju_ = 999999 + 1 from rfl]
    exact ⟨by omega, Or.inl rfl⟩
  have v0 : vl f u0 0 = u0 := by unfold vl; rw [if_pos (by omega)]; omega
  obtain ⟨k1, k2, -⟩ := as_k (M := C) (M' := C) hf hT c4
  refine ⟨C', c1, c2, ⟨c3, k2, k1, fun j => by rw [c2], fun w i q => (c4 w i).mpr (Or.inl q)⟩, (c4 _ _).mpr (Or.inr ⟨0, z, by rw [v0], by rw [v0]⟩), fun M => ?_⟩
  obtain ⟨M', m1, m2, m3, m4, m5⟩ := jM_216 (M := M) hx hf h4 b1 b2 h5 b3 b4 h7 s1 s2
  exact ⟨M', m1, ⟨fun b j _ q => m2 b j q, m3⟩, m2, fun k => (as_k (M := M) (M' := M') hf hT c4).2.2 m4 m5 k⟩
theorem tx_e (h : tx C M n p) (h1 : C'.1 = C.1) (h2 : ∀ b j, b ≠ 369 + f → M'.1 b j = M.1 b j) (hf : f < 7) : tx C' M' n p := by
  have e1 : M'.1 215 = M.1 215 := funext fun j => h2 215 j (by omega)
  have := tx_k h e1 (fun j => h2 216 j (by omega))
  unfold tx at this ⊢
  rw [h1]
  exact this
theorem bk_e (h : bk C n p e) (h1 : C'.1 = C.1) : bk C' n p e := by
  unfold bk at h ⊢
  rw [h1]
  exact h
/-- the tail of an item on both sides -/
theorem it77 (h : tx C M n p) (ha : a ≠ 25) (hk : kS C a M f) (hx : x1.toInt = f) (hf : f < 7) (h4 : x4.toInt = u0) (b1 : lo_ f ≤ u0) (b2 : u0 ≤ hi_ f) (h5 : x5.toInt = u1) (b3 : lo_ f ≤ u1) (b4 : u1 ≤ hi_ f) : ∃ C', J_CR_readItem_77 a x1 x4 x5 C = some (1, C') ∧ cI f a C C' ∧ bt (C'.2.1 (a + 1) (wd f u0)) (bi f u0) = true ∧ ((∃ M' d, (∀ kt, J_M_items_185 kt x1 x4 x5 M = itE kt x1 M') ∧ gF f M M' ∧ tx C' M' n (p + d) ∧ kS C' a M' f) ∨ (∃ M' p' e, (∀ kt, J_M_items_185 kt x1 x4 x5 M = some (some 12, M')) ∧ gF f M M' ∧ bk C' n p' e ∧ M'.1 215 3 = e)) := by
  unfold J_CR_readItem_77 J_CR_readItem_97 J_M_items_185
  simp only [fM_pk h, ob_]
  by_cases q : pkv C n p = 47
  · obtain ⟨t1, t2⟩ := (fT_tk h (c := 47) (by decide)).1 q
    rw [t2, ob_, if_neg (show ¬ (1 : Int32) = 0 by decide)]
    simp only [if_pos q, jl_]
    obtain ⟨v, C1, r1, r2, r3, r4⟩ := fT_nu (lo := 1) (hi := 99) (tx_1 h t1) (by decide) (by decide) (by decide)
    simp only [Int32.reduceToInt] at r2
    obtain ⟨w, hw⟩ : ∃ w : Nat, v.toInt = w := ⟨v.toInt.toNat, by omega⟩
    rw [r1, ob_]
    obtain ⟨C2, c1, c2, c3, c4, c5⟩ := ad_c (a := a) (C := C1) hx hf h4 b1 b2 h5 b3 b4 hw (by omega) (by omega)
    have f1 : fT C C1 := fT_t fT_1 r3
    refine ⟨C2, by rw [c1, ob_], cI_t (cI_T f1 ha) c3, c4, ?_⟩
    rcases r4 with ⟨M1, d, o1, o2, o3⟩ | ⟨M1, p', e, o1, o2, o3, o4⟩
    · obtain ⟨M2, m1, m2, m3, m4⟩ := c5 M1
      rw [c1_p h t1, clN h.2.2.2.2.1] at o3
      refine Or.inl ⟨M2, 1 + d, fun kt => ?_, gF_t (gF_t (gF_N gN_1) (gF_N o2)) m2, by rw [← Nat.add_assoc]; exact tx_e o3 c2 m3 hf, m4 (kS_e f1.2 (fun i => by rw [o2.1 (369 + f) i (by omega), gN_1.1 (369 + f) i (by omega)]) hk)⟩
      rw [show F_M_ranged 1 99 (w_i M 215 7 (M.1 215 7 + 1)) = some (.inl v, M1) from o1, jx_0, m1]
    · refine Or.inr ⟨M1, p', e, fun kt => ?_, gF_t (gF_N gN_1) (gF_N o2), bk_e o3 c2, o4⟩
      rw [show F_M_ranged 1 99 (w_i M 215 7 (M.1 215 7 + 1)) = some (.inr 12, M1) from o1, jx_1]
  · rw [(fT_tk h (c := 47) (by decide)).2 q, ob_, if_pos rfl]
    simp only [if_neg q]
    obtain ⟨C2, c1, c2, c3, c4, c5⟩ := ad_c (a := a) (C := C) (x7 := 1) (st := 1) hx hf h4 b1 b2 h5 b3 b4 rfl (by omega) (by omega)
    obtain ⟨M2, m1, m2, m3, m4⟩ := c5 M
    exact ⟨C2, by rw [c1, ob_], c3, c4, Or.inl ⟨M2, 0, m1, m2, tx_e h c2 m3 hf, m4 hk⟩⟩
theorem it77b (h : bk C n p e) (hx : x1.toInt = f) (hf : f < 7) (h4 : x4.toInt = u0) (b1 : lo_ f ≤ u0) (b2 : u0 ≤ hi_ f) (h5 : x5.toInt = u1) (b3 : lo_ f ≤ u1) (b4 : u1 ≤ hi_ f) : ∃ C', J_CR_readItem_77 a x1 x4 x5 C = some (1, C') ∧ cI f a C C' ∧ bk C' n p e := by
  unfold J_CR_readItem_77 J_CR_readItem_97
  rw [fB_tk h (by decide), ob_, if_pos rfl]
  obtain ⟨C2, c1, c2, c3, c4, c5⟩ := ad_c (a := a) (C := C) (x7 := 1) (st := 1) hx hf h4 b1 b2 h5 b3 b4 rfl (by omega) (by omega)
  exact ⟨C2, by rw [c1, ob_], c3, bk_e h c2⟩
/-- from a value on: a range, a step, or the value alone -/
theorem it45b (h : bk C n p e) (ha : a ≠ 25) (hx : x1.toInt = f) (hf : f < 7) (h4 : x4.toInt = u0) (b1 : lo_ f ≤ u0) (b2 : u0 ≤ hi_ f) : ∃ C', J_CR_readItem_45 a x1 x4 (jx_MOSTS f) C = some (1, C') ∧ cI f a C C' ∧ bk C' n p e := by
  unfold J_CR_readItem_45 J_CR_readItem_75
  rw [fB_pk h, ob_, if_neg (by decide), fB_tk h (by decide), ob_, if_pos rfl]
  exact it77b h hx hf h4 b1 b2 h4 b1 b2
theorem it45 (h : tx C M n p) (ha : a ≠ 25) (hk : kS C a M f) (hx : x1.toInt = f) (hf : f < 7) (h4 : x4.toInt = u0) (b1 : lo_ f ≤ u0) (b2 : u0 ≤ hi_ f) : ∃ C', J_CR_readItem_45 a x1 x4 (jx_MOSTS f) C = some (1, C') ∧ cI f a C C' ∧ ((∃ M' d, (∀ kt, J_M_items_97 kt x1 x4 (jx_MOSTS f) M = itE kt x1 M') ∧ gF f M M' ∧ tx C' M' n (p + d) ∧ kS C' a M' f ∧ bt (C'.2.1 (a + 1) (wd f u0)) (bi f u0) = true) ∨ (∃ M' p' e, (∀ kt, J_M_items_97 kt x1 x4 (jx_MOSTS f) M = some (some 12, M')) ∧ gF f M M' ∧ bk C' n p' e ∧ M'.1 215 3 = e)) := by
  obtain ⟨l1, l2, l3, l4, l5⟩ := lhN hf
  unfold J_CR_readItem_45 J_CR_readItem_75 J_M_items_97 J_M_items_119 J_M_items_120
  simp only [fM_pk h, fT_pk h, ob_]
  by_cases q7 : pkv C n p = 47
  · have n5 : ¬ pkv C n p = 45 := by rw [q7]; decide
    simp only [if_pos q7, if_neg n5, if_true]
    obtain ⟨C', c1, c2, c3, c4⟩ := it77 h ha hk hx hf h4 b1 b2 l2 l3 (Nat.le_refl _)
    refine ⟨C', c1, c2, ?_⟩
    rcases c4 with ⟨M', d, m1, m2, m3, m4⟩ | w
    · exact Or.inl ⟨M', d, m1, m2, m3, m4, c3⟩
    · exact Or.inr w
  simp only [if_neg q7]
  by_cases q5 : pkv C n p = 45
  · obtain ⟨t1, t2⟩ := (fT_tk h (c := 45) (by decide)).1 q5
    rw [t2, ob_, if_neg (show ¬ (1 : Int32) = 0 by decide)]
    simp only [if_pos q5, jl_]
    have h1 := tx_1 h t1
    obtain ⟨v, C1, r1, r2, r3, r4⟩ := fC_va (x1 := x1) h1 hx hf
    obtain ⟨u1, hu1⟩ : ∃ w : Nat, v.toInt = w := ⟨v.toInt.toNat, by omega⟩
    have f1 : fT C C1 := fT_t fT_1 r3
    unfold F_CR_readUpper
    rw [jl_, r1, ob_]
    rcases r4 with ⟨M1, d, o1, o2, o3⟩ | ⟨M1, p', e, o1, o2, o3, o4⟩
    · rw [c1_p h t1, clN h.2.2.2.2.1] at o3
      have gm : gF f M M1 := gF_t (gF_N gN_1) (gF_N o2)
      have km : kS C1 a M1 f := kS_e f1.2 (fun i => by rw [o2.1 (369 + f) i (by omega), gN_1.1 (369 + f) i (by omega)]) hk
      have eM : F_M_value x1 (w_i M 215 7 (M.1 215 7 + 1)) = some (.inl v, M1) := o1
      have go : ∃ C', J_CR_readItem_77 a x1 x4 v C1 = some (1, C') ∧ cI f a C C' ∧ ((∃ M' d, (∀ kt, J_M_items_185 kt x1 x4 v M1 = itE kt x1 M') ∧ gF f M M' ∧ tx C' M' n (p + d) ∧ kS C' a M' f ∧ bt (C'.2.1 (a + 1) (wd f u0)) (bi f u0) = true) ∨ (∃ M' p' e, (∀ kt, J_M_items_185 kt x1 x4 v M1 = some (some 12, M')) ∧ gF f M M' ∧ bk C' n p' e ∧ M'.1 215 3 = e)) := by
        obtain ⟨C', c1, c2, c3, c4⟩ := it77 o3 ha km hx hf h4 b1 b2 hu1 (by omega) (by omega)
        refine ⟨C', c1, cI_t (cI_T f1 ha) c2, ?_⟩
        rcases c4 with ⟨M', d', m1, m2, m3, m4⟩ | ⟨M', p', e, m1, m2, m3, m4⟩
        · exact Or.inl ⟨M', 1 + d + d', m1, gF_t gm m2, by rw [← Nat.add_assoc, ← Nat.add_assoc]; exact m3, m4, c3⟩
        · exact Or.inr ⟨M', p', e, m1, gF_t gm m2, m3, m4⟩
      by_cases q6 : f = 6
      · have e6 : x1 = 6 := eqI.mpr (by rw [hx, q6]; rfl)
        rw [if_pos e6]
        simp only [eM, jx_0, if_pos e6]
        by_cases le : u0 ≤ u1
        · rw [if_pos (Int32.le_iff_toInt_le.mpr (by rw [h4, hu1]; omega)), ob_]
          simp only [if_pos (show x4 ≤ v from Int32.le_iff_toInt_le.mpr (by rw [h4, hu1]; omega))]
          exact go
        · have nl : ¬ x4 ≤ v := fun w => le (by have := Int32.le_iff_toInt_le.mp w; rw [h4, hu1] at this; omega)
          have np : (c_1 C).1 25 2 ≠ -1 := pos_n h1
          obtain ⟨b1', b2'⟩ := fT_br o3 np
          rw [if_neg nl, b1', ob_, ob_]
          simp only [if_neg nl]
          have pe : (w_i M 215 7 (M.1 215 7 + 1)).1 215 7 = (c_1 C).1 25 2 := pos_e h1
          obtain ⟨C', c1, c2, c3⟩ := it77b (a := a) b2' hx hf h4 b1 b2 hu1 (by omega) (by omega)
          refine ⟨C', c1, cI_t (cI_T (fT_t f1 (fT_i (Or.inr rfl))) ha) c2, Or.inr ⟨w_i M1 215 3 ((c_1 C).1 25 2), _, _, fun kt => ?_, gF_t gm (gF_N (gN_i (Or.inl rfl))), c3, by rw [w_ir, if_pos ⟨rfl, rfl⟩]⟩⟩
          rw [pe, fM_bad, jxv_1]
      · have n6 : ¬ x1 = 6 := fun w => q6 (by rw [w] at hx; simp only [Int32.reduceToInt] at hx; omega)
        rw [if_neg n6, ob_]
        simp only [eM, jx_0, if_neg n6]
        exact go
    · have eM : F_M_value x1 (w_i M 215 7 (M.1 215 7 + 1)) = some (.inr 12, M1) := o1
      simp only [eM, jx_1]
      have up : (if x1 = 6 then if x4 ≤ v then some (v, C1) else (F_T_breakAt ((c_1 C).1 25 2) C1).bind fun z5 => some (v, z5) else some (v, C1)) = some (v, C1) := by
        rw [fB_br o3, ob_]
        simp only [ite_self]
      rw [show (if x1 = 6 then if x4 ≤ (v, C1).1 then some ((v, C1).1, (v, C1).2) else (F_T_breakAt ((c_1 C).1 25 2) (v, C1).2).bind fun z5 => some ((v, C1).1, z5) else some ((v, C1).1, (v, C1).2)) = some (v, C1) from up, ob_]
      obtain ⟨C', c1, c2, c3⟩ := it77b (a := a) o3 hx hf h4 b1 b2 hu1 (by omega) (by omega)
      exact ⟨C', c1, cI_t (cI_T f1 ha) c2, Or.inr ⟨M1, p', e, fun kt => rfl, gF_t (gF_N gN_1) (gF_N o2), c3, o4⟩⟩
  · rw [(fT_tk h (c := 45) (by decide)).2 q5, ob_, if_pos rfl]
    simp only [if_neg q5, if_neg (show ¬ (1 : Int32) = 0 by decide)]
    obtain ⟨C', c1, c2, c3, c4⟩ := it77 h ha hk hx hf h4 b1 b2 h4 b1 b2
    refine ⟨C', c1, c2, ?_⟩
    rcases c4 with ⟨M', d, m1, m2, m3, m4⟩ | w
    · exact Or.inl ⟨M', d, m1, m2, m3, m4, c3⟩
    · exact Or.inr w
end JZ_6
