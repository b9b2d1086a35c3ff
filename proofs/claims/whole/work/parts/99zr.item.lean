section JZ_7
variable {S T C C' M M' D Y : jS} {n p s f a u u0 u1 st L : Nat} {c e v x1 x2 x4 x5 x6 x7 x8 x9 : Int32}
/-- a day told by a sign, on both sides -/
def sR (C : jS) (a : Nat) (M : jS) (f : Nat) (v : Int32) : Prop := (f = 3 ∧ C.1 a 1 = 4 ∧ C.1 a 2 = v ∧ M.1 215 20 = 4 ∧ M.1 215 21 = v) ∨ (f = 5 ∧ C.1 a 1 = 5 ∧ C.1 a 2 = v ∧ M.1 215 20 = 5 ∧ M.1 215 21 = v) ∨ (f = 5 ∧ C.1 a 1 = 6 ∧ C.1 a 2 = v ∧ M.1 215 20 = 6 ∧ M.1 215 21 = v ∧ C.1 a 3 = M.1 215 22 ∧ 1 ≤ (C.1 a 3).toInt ∧ (C.1 a 3).toInt ≤ 5)
theorem tx_j {j : Nat} {w : Int32} (h : tx C M n p) (h1 : j ≠ 2) (h2 : j ≠ 3) (h3 : j ≠ 7) : tx C (w_i M 215 j w) n p := by
  obtain ⟨h1', h2', h3', h4, h5, h6, h7, h8⟩ := h
  refine ⟨h1', h2', h3', ?_, h5, ?_, ⟨h7.1, by rw [w_ir, if_neg (by omega)]; exact h7.2⟩, fun j hj => ?_⟩
  · rw [w_ir, if_neg (by omega)]; exact h4
  · rw [w_ir, if_neg (by omega)]; exact h6
  · rw [w_ir, if_neg (by omega)]; exact h8 j hj
/-- what a sign writes in the model -/
def gS (M M' : jS) : Prop := (∀ b j, ¬ (b = 215 ∧ (j = 3 ∨ j = 7 ∨ j = 20 ∨ j = 21 ∨ j = 22)) → M'.1 b j = M.1 b j) ∧ M'.2 = M.2
theorem gS_r : gS M M := ⟨fun _ _ _ => rfl, rfl⟩
theorem gS_t (h1 : gS M M') (h2 : gS M' D) : gS M D := ⟨fun b j q => (h2.1 b j q).trans (h1.1 b j q), h2.2.trans h1.2⟩
theorem gS_N (h : gN M M') : gS M M' := ⟨fun b j q => h.1 b j (by omega), h.2⟩
theorem gS_i {j : Nat} {w : Int32} (hj : j = 20 ∨ j = 21 ∨ j = 22) : gS M (w_i M 215 j w) := ⟨fun b i q => by rw [w_ir, if_neg (by omega)], rfl⟩
def gT (f : Nat) (M M' : jS) : Prop := (∀ b j, ¬ (b = 215 ∧ (j = 3 ∨ j = 7 ∨ j = 20 ∨ j = 21 ∨ j = 22)) → b ≠ 369 + f → M'.1 b j = M.1 b j) ∧ M'.2 = M.2
theorem gT_t (h1 : gT f M M') (h2 : gT f M' D) : gT f M D := ⟨fun b j q r => (h2.1 b j q r).trans (h1.1 b j q r), h2.2.trans h1.2⟩
theorem gT_S (h : gS M M') : gT f M M' := ⟨fun b j q _ => h.1 b j q, h.2⟩
theorem gT_F (h : gF f M M') : gT f M M' := ⟨fun b j q r => h.1 b j (by omega) r, h.2⟩
theorem gT_X (h : gT f M M') (hf : f < 7) : GX M M' := ⟨fun b j q r _ => h.1 b j q (by omega), h.2⟩
theorem gS_X (h : gS M M') : GX M M' := ⟨fun b j q _ _ => h.1 b j q, h.2⟩
theorem sgb (h : bk C n p e) : F_CR_takeSign a x1 v C = some (0, C) := by
  have j44 : J_CR_takeSign_44 a x1 v C = some (0, C) := by
    unfold J_CR_takeSign_44
    rw [fB_tk h (by decide), ob_, if_pos rfl]
    simp only [ite_self]
  have j22 : J_CR_takeSign_22 a x1 v C = some (0, C) := by
    unfold J_CR_takeSign_22
    rw [fB_tk h (by decide), ob_, if_pos rfl, j44]
    simp only [ite_self]
  unfold F_CR_takeSign
  rw [fB_tk h (by decide), ob_, if_pos rfl, j22]
  simp only [ite_self]
theorem sgn (h : tx C M n p) (ha : a ≠ 25) (ha' : a ≠ 26) (hx : x1.toInt = f) : ∃ r C', F_CR_takeSign a x1 v C = some (r, C') ∧ FX a C C' ∧ C'.2 = C.2 ∧ ((r = 0 ∧ C' = C ∧ F_M_special x1 v M = some (.inl 0, M)) ∨ (r = 1 ∧ ∃ M' d, F_M_special x1 v M = some (.inl 1, M') ∧ gS M M' ∧ tx C' M' n (p + d) ∧ sR C' a M' f v) ∨ (r = 1 ∧ ∃ M' p' e, F_M_special x1 v M = some (.inr 12, M') ∧ gS M M' ∧ bk C' n p' e ∧ M'.1 215 3 = e)) := by
  unfold F_CR_takeSign F_M_special
  by_cases q3 : f = 3
  · have e3 : x1 = 3 := eqI.mpr (by rw [hx, q3]; rfl)
    have n5 : ¬ x1 = 5 := by rw [e3]; decide
    rw [if_pos e3, if_pos e3, fM_pk h, ob_]
    by_cases w : pkv C n p = 87
    · obtain ⟨t1, t2⟩ := (fT_tk h (c := 87) (by decide)).1 w
      rw [t2, ob_, if_neg (show ¬ (1 : Int32) = 0 by decide), jl_, if_pos w, jl_, jl_, jl_]
      unfold J_CR_takeSign_79
      rw [jl_]
      refine ⟨1, _, rfl, FX_t (FX_T fT_1) (FX_t FX_i FX_i), rfl, Or.inr (Or.inl ⟨rfl, _, 1, rfl, gS_t (gS_N gN_1) (gS_t (gS_i (Or.inl rfl)) (gS_i (Or.inr (Or.inl rfl)))), tx_j (tx_j (tx_c (tx_c (tx_1 h t1) ha ha') ha ha') (by omega) (by omega) (by omega)) (by omega) (by omega) (by omega), Or.inl ⟨q3, ?_, ?_, ?_, ?_⟩⟩)⟩
      · rw [w_ir, if_neg (by omega), w_ir, if_pos ⟨rfl, rfl⟩]
      · rw [w_ir, if_pos ⟨rfl, rfl⟩]
      · rw [w_ir, if_neg (by omega), w_ir, if_pos ⟨rfl, rfl⟩]
      · rw [w_ir, if_pos ⟨rfl, rfl⟩]
    · rw [(fT_tk h (c := 87) (by decide)).2 w, ob_, if_pos rfl, if_neg w]
      unfold J_CR_takeSign_22 J_CR_takeSign_44 J_M_special_36
      rw [if_neg n5, if_neg n5, if_neg n5]
      exact ⟨0, C, rfl, FX_r, rfl, Or.inl ⟨rfl, rfl, rfl⟩⟩
  · have n3 : ¬ x1 = 3 := fun w => q3 (by rw [w] at hx; simp only [Int32.reduceToInt] at hx; omega)
    rw [if_neg n3, if_neg n3]
    unfold J_CR_takeSign_22 J_CR_takeSign_44 J_M_special_36
    by_cases q5 : f = 5
    · have e5 : x1 = 5 := eqI.mpr (by rw [hx, q5]; rfl)
      simp only [if_pos e5]
      rw [fM_pk h, ob_, ob_]
      by_cases w : pkv C n p = 76
      · obtain ⟨t1, t2⟩ := (fT_tk h (c := 76) (by decide)).1 w
        rw [t2, ob_, if_neg (show ¬ (1 : Int32) = 0 by decide), jl_, if_pos w, jl_, jl_, jl_]
        unfold J_CR_takeSign_79
        rw [jl_]
        refine ⟨1, _, rfl, FX_t (FX_T fT_1) (FX_t FX_i FX_i), rfl, Or.inr (Or.inl ⟨rfl, _, 1, rfl, gS_t (gS_N gN_1) (gS_t (gS_i (Or.inl rfl)) (gS_i (Or.inr (Or.inl rfl)))), tx_j (tx_j (tx_c (tx_c (tx_1 h t1) ha ha') ha ha') (by omega) (by omega) (by omega)) (by omega) (by omega) (by omega), Or.inr (Or.inl ⟨q5, ?_, ?_, ?_, ?_⟩)⟩)⟩
        · rw [w_ir, if_neg (by omega), w_ir, if_pos ⟨rfl, rfl⟩]
        · rw [w_ir, if_pos ⟨rfl, rfl⟩]
        · rw [w_ir, if_neg (by omega), w_ir, if_pos ⟨rfl, rfl⟩]
        · rw [w_ir, if_pos ⟨rfl, rfl⟩]
      · rw [(fT_tk h (c := 76) (by decide)).2 w, ob_, if_pos rfl, if_neg w]
        by_cases y : pkv C n p = 35
        · obtain ⟨t1, t2⟩ := (fT_tk h (c := 35) (by decide)).1 y
          rw [t2, ob_, if_neg (show ¬ (1 : Int32) = 0 by decide), jl_, if_pos y, jl_, jl_, jl_]
          have h2 : tx (w_i (c_1 C) a 1 6) (w_i (w_i (m_1 M) 215 20 6) 215 21 v) n (p + 1) := tx_j (tx_j (tx_c (tx_1 h t1) ha ha') (by omega) (by omega) (by omega)) (by omega) (by omega) (by omega)
          obtain ⟨k, C1, r1, r2, r3, r4⟩ := fT_nu (lo := 1) (hi := 5) h2 (by decide) (by decide) (by decide)
          simp only [Int32.reduceToInt] at r2
          rw [r1, ob_, jl_]
          unfold J_CR_takeSign_79
          rw [jl_]
          have pp : ((w_i (c_1 C) a 1 6).1 25 2).toNatClampNeg = p + 1 := clN h2.2.2.2.2.1
          have fr : FX a C (w_i (w_i C1 a 3 k) a 2 v) := FX_t (FX_t (FX_T fT_1) FX_i) (FX_t (FX_T r3) (FX_t FX_i FX_i))
          have s2 : (w_i (w_i C1 a 3 k) a 2 v).2 = C.2 := by rw [w_i2, w_i2, r3.2]; rfl
          refine ⟨1, _, rfl, fr, s2, Or.inr ?_⟩
          rcases r4 with ⟨M1, d, o1, o2, o3⟩ | ⟨M1, p', e, o1, o2, o3, o4⟩
          · rw [pp] at o3
            have eo : F_M_ranged 1 5 (w_i (w_i (w_i M 215 7 (M.1 215 7 + 1)) 215 20 6) 215 21 v) = some (.inl k, M1) := o1
            refine Or.inl ⟨rfl, w_i M1 215 22 k, 1 + d, ?_, gS_t (gS_t (gS_N gN_1) (gS_t (gS_i (Or.inl rfl)) (gS_i (Or.inr (Or.inl rfl))))) (gS_t (gS_N o2) (gS_i (Or.inr (Or.inr rfl)))), ?_, Or.inr (Or.inr ⟨q5, ?_, ?_, ?_, ?_, ?_, ?_, ?_⟩)⟩
            · rw [eo, jx_0, jl_]
            · rw [← Nat.add_assoc]
              exact tx_j (tx_c (tx_c o3 ha ha') ha ha') (by omega) (by omega) (by omega)
            · rw [w_ir, if_neg (by omega), w_ir, if_neg (by omega), r3.1 a 1 (by omega), w_ir, if_pos ⟨rfl, rfl⟩]
            · rw [w_ir, if_pos ⟨rfl, rfl⟩]
            · rw [w_ir, if_neg (by omega), o2.1 215 20 (by omega), w_ir, if_neg (by omega), w_ir, if_pos ⟨rfl, rfl⟩]
            · rw [w_ir, if_neg (by omega), o2.1 215 21 (by omega), w_ir, if_pos ⟨rfl, rfl⟩]
            · rw [w_ir, if_neg (by omega), w_ir, if_pos ⟨rfl, rfl⟩, w_ir, if_pos ⟨rfl, rfl⟩]
            · rw [w_ir, if_neg (by omega), w_ir, if_pos ⟨rfl, rfl⟩]; exact r2.1
            · rw [w_ir, if_neg (by omega), w_ir, if_pos ⟨rfl, rfl⟩]; exact r2.2
          · have eo : F_M_ranged 1 5 (w_i (w_i (w_i M 215 7 (M.1 215 7 + 1)) 215 20 6) 215 21 v) = some (.inr 12, M1) := o1
            refine Or.inr ⟨rfl, M1, p', e, ?_, gS_t (gS_t (gS_N gN_1) (gS_t (gS_i (Or.inl rfl)) (gS_i (Or.inr (Or.inl rfl))))) (gS_N o2), bk_c (bk_c o3 ha) ha, o4⟩
            rw [eo, jx_1]
        · rw [(fT_tk h (c := 35) (by decide)).2 y, ob_, if_pos rfl, if_neg y]
          exact ⟨0, C, rfl, FX_r, rfl, Or.inl ⟨rfl, rfl, rfl⟩⟩
    · have n5 : ¬ x1 = 5 := fun w => q5 (by rw [w] at hx; simp only [Int32.reduceToInt] at hx; omega)
      rw [if_neg n5, if_neg n5, if_neg n5]
      exact ⟨0, C, rfl, FX_r, rfl, Or.inl ⟨rfl, rfl, rfl⟩⟩
end JZ_7
