section KA_2
variable {S T C C' M M' D Y : jS} {n p s f a u k g : Nat} {c e v x1 x3 : Int32}
/-- how the day was told, class and model's hand -/
def dX (C : jS) (a : Nat) (M : jS) : Prop := (C.1 a 1 = 0 ∧ M.1 215 20 = 0 ∧ kS C a M 3) ∨ (C.1 a 1 = 1 ∧ M.1 215 20 = 1) ∨ (C.1 a 1 = 2 ∧ M.1 215 20 = 2 ∧ C.1 a 3 = M.1 215 21 ∧ 0 ≤ (C.1 a 3).toInt ∧ (C.1 a 3).toInt ≤ 30) ∨ (C.1 a 1 = 3 ∧ M.1 215 20 = 3) ∨ (C.1 a 1 = 4 ∧ M.1 215 20 = 4 ∧ C.1 a 2 = M.1 215 21 ∧ 1 ≤ (C.1 a 2).toInt ∧ (C.1 a 2).toInt ≤ 31)
/-- what the class's bits keep -/
def cJ (f a : Nat) (C C' : jS) : Prop := uO f C a C' ∧ (kO C a → kO C' a) ∧ ∀ w i, bt (C.2.1 (a + 1) w) i = true → bt (C'.2.1 (a + 1) w) i = true
theorem cJ_e (h : C'.2 = C.2) : cJ f a C C' := ⟨uO_e h, fun k => kO_e h k, fun w i q => by rw [h]; exact q⟩
theorem cJ_I (h : cI f a C C') : cJ f a C C' := ⟨h.2.1, h.2.2.1, h.2.2.2.2⟩
theorem cJ_t (h1 : cJ f a C C') (h2 : cJ f a C' D) : cJ f a C D := ⟨uO_t h1.1 h2.1, fun k => h2.2.1 (h1.2.1 k), fun w i q => h2.2.2 w i (h1.2.2 w i q)⟩
/-- the day on both sides -/
theorem dF_ (h : tx C M n p) (ha : a ≠ 25) (ha' : a ≠ 26) (h1 : C.1 a 1 = 0) (hz : z_ C a 3) : ∃ C', (∀ K : jS → Option jS, (F_CR_takeDayRule a C).bind (fun z8 => if z8.1 = 0 then ((F_CR_readItems a 3 z8.2).bind (fun z10 => K z10)) else (K z8.2)) = K C') ∧ FX a C C' ∧ ((cJ 3 a C C' ∧ ∃ M' d, F_M_field 3 M = some (none, M') ∧ gT 3 M M' ∧ tx C' M' n (p + d) ∧ dX C' a M') ∨ (∃ M' p' e, F_M_field 3 M = some (some 12, M') ∧ GX M M' ∧ bk C' n p' e ∧ M'.1 215 3 = e)) := by
  have h0 := tx_f h
  have g0 : gT 3 M (w_i (w_i (w_i M 215 20 0) 215 21 0) 215 22 0) := gT_S gS_f
  have w20 : (w_i (w_i (w_i M 215 20 0) 215 21 0) 215 22 0).1 215 20 = 0 := by rw [w_ir, if_neg (by omega), w_ir, if_neg (by omega), w_ir, if_pos ⟨rfl, rfl⟩]
  have w21 : (w_i (w_i (w_i M 215 20 0) 215 21 0) 215 22 0).1 215 21 = 0 := by rw [w_ir, if_neg (by omega), w_ir, if_pos ⟨rfl, rfl⟩]
  unfold F_CR_takeDayRule F_M_field J_M_field_25 J_M_field_52 J_M_field_141 J_M_field_202
  rw [jl_, jl_, jl_, if_pos rfl]
  generalize w_i (w_i (w_i M 215 20 0) 215 21 0) 215 22 0 = M0 at *
  rw [fM_pk h0, ob_]
  by_cases q63 : pkv C n p = 63
  · obtain ⟨t1, t2⟩ := (fT_tk h0 (c := 63) (by decide)).1 q63
    refine ⟨w_i (c_1 C) a 1 1, fun K => ?_, FX_t (FX_T fT_1) FX_i, Or.inl ⟨cJ_e rfl, w_i (m_1 M0) 215 20 1, 1, ?_, gT_t g0 (gT_S (gS_t (gS_N gN_1) (gS_i (Or.inl rfl)))), tx_j (tx_c (tx_1 h0 t1) ha ha') (by omega) (by omega) (by omega), Or.inr (Or.inl ⟨?_, ?_⟩)⟩⟩
    · rw [t2, ob_, if_neg (show ¬ (1 : Int32) = 0 by decide), jl_, ob_, if_neg (show ¬ (1 : Int32) = 0 by decide)]
    · rw [if_pos q63, jl_, jl_]; rfl
    · rw [w_ir, if_pos ⟨rfl, rfl⟩]
    · rw [w_ir, if_pos ⟨rfl, rfl⟩]
  rw [if_neg q63, if_pos rfl, ob_]
  have tk63 := (fT_tk h0 (c := 63) (by decide)).2 q63
  by_cases q76 : pkv C n p = 76
  · obtain ⟨t1, t2⟩ := (fT_tk h0 (c := 76) (by decide)).1 q76
    have h2 := tx_1 h0 t1
    have h3 : tx (c_1 C) (w_i (m_1 M0) 215 20 2) n (p + 1) := tx_j h2 (by omega) (by omega) (by omega)
    rw [if_pos q76, jl_, jl_]
    have g3 : gT 3 M (w_i (m_1 M0) 215 20 2) := gT_t g0 (gT_S (gS_t (gS_N gN_1) (gS_i (Or.inl rfl))))
    have v21 : (w_i (m_1 M0) 215 20 2).1 215 21 = 0 := by rw [w_ir, if_neg (by omega), gN_1.1 215 21 (by omega)]; exact w21
    have v20 : (w_i (m_1 M0) 215 20 2).1 215 20 = 2 := by rw [w_ir, if_pos ⟨rfl, rfl⟩]
    rw [show w_i (w_i M0 215 7 (M0.1 215 7 + 1)) 215 20 2 = w_i (m_1 M0) 215 20 2 from rfl]
    generalize w_i (m_1 M0) 215 20 2 = M1 at *
    simp only [fM_pk h3, ob_]
    by_cases q87 : pkv (c_1 C) n (p + 1) = 87
    · obtain ⟨t3, t4⟩ := (fT_tk h3 (c := 87) (by decide)).1 q87
      simp only [if_pos q87, jl_]
      refine ⟨w_i (c_1 (c_1 C)) a 1 3, fun K => ?_, FX_t (FX_T (fT_t fT_1 fT_1)) FX_i, Or.inl ⟨cJ_e rfl, w_i (m_1 M1) 215 20 3, 2, rfl, gT_t g3 (gT_S (gS_t (gS_N gN_1) (gS_i (Or.inl rfl)))), tx_j (tx_c (tx_1 h3 t3) ha ha') (by omega) (by omega) (by omega), Or.inr (Or.inr (Or.inr (Or.inl ⟨?_, ?_⟩)))⟩⟩
      · rw [tk63, ob_, if_pos rfl, t2, ob_, if_neg (show ¬ (1 : Int32) = 0 by decide), t4, ob_, if_neg (show ¬ (1 : Int32) = 0 by decide), ob_, if_neg (show ¬ (1 : Int32) = 0 by decide)]
      · rw [w_ir, if_pos ⟨rfl, rfl⟩]
      · rw [w_ir, if_pos ⟨rfl, rfl⟩]
    · simp only [if_neg q87, jl_]
      have tk87 := (fT_tk h3 (c := 87) (by decide)).2 q87
      have h4 : tx (w_i (c_1 C) a 1 2) M1 n (p + 1) := tx_c h3 ha ha'
      have pk4 : pkv (w_i (c_1 C) a 1 2) n (p + 1) = pkv (c_1 C) n (p + 1) := by
        have : (w_i (c_1 C) a 1 2).1 26 (p + 1) = (c_1 C).1 26 (p + 1) := by rw [w_ir, if_neg (by omega)]
        unfold pkv
        rw [this]
      unfold J_CR_takeDayRule_70
      by_cases q45 : pkv (c_1 C) n (p + 1) = 45
      · obtain ⟨t3, t4⟩ := (fT_tk h4 (c := 45) (by decide)).1 (by rw [pk4]; exact q45)
        simp only [if_pos q45]
        obtain ⟨k, C1, r1, r2, r3, r4⟩ := fT_nu (lo := 1) (hi := 30) (tx_1 h4 t3) (by decide) (by decide) (by decide)
        simp only [Int32.reduceToInt] at r2
        refine ⟨w_i C1 a 3 k, fun K => by rw [tk63, ob_, if_pos rfl, t2, ob_, if_neg (show ¬ (1 : Int32) = 0 by decide), tk87, ob_, if_pos rfl, t4, ob_, if_neg (show ¬ (1 : Int32) = 0 by decide), r1, ob_, jl_, ob_, if_neg (show ¬ (1 : Int32) = 0 by decide)], FX_t (FX_t (FX_T fT_1) FX_i) (FX_t (FX_T (fT_t fT_1 r3)) FX_i), ?_⟩
        have s2 : (w_i C1 a 3 k).2 = C.2 := by rw [w_i2, r3.2]; rfl
        rcases r4 with ⟨M2, d, o1, o2, o3⟩ | ⟨M2, p', e, o1, o2, o3, o4⟩
        · rw [c1_p h4 t3, clN h4.2.2.2.2.1] at o3
          have eo : F_M_ranged 1 30 (w_i M1 215 7 (M1.1 215 7 + 1)) = some (.inl k, M2) := o1
          refine Or.inl ⟨cJ_e s2, w_i M2 215 21 k, 2 + d, by rw [eo, jx_0], gT_t g3 (gT_S (gS_t (gS_N (gN_t gN_1 o2)) (gS_i (Or.inr (Or.inl rfl))))), by rw [← Nat.add_assoc]; exact tx_j (tx_c o3 ha ha') (by omega) (by omega) (by omega), Or.inr (Or.inr (Or.inl ⟨?_, ?_, ?_, ?_, ?_⟩))⟩
          · rw [w_ir, if_neg (by omega), r3.1 a 1 (by omega), fT_1.1 a 1 (by omega), w_ir, if_pos ⟨rfl, rfl⟩]
          · rw [w_ir, if_neg (by omega), o2.1 215 20 (by omega), gN_1.1 215 20 (by omega)]; exact v20
          · rw [w_ir, if_pos ⟨rfl, rfl⟩, w_ir, if_pos ⟨rfl, rfl⟩]
          · rw [w_ir, if_pos ⟨rfl, rfl⟩]; omega
          · rw [w_ir, if_pos ⟨rfl, rfl⟩]; omega
        · have eo : F_M_ranged 1 30 (w_i M1 215 7 (M1.1 215 7 + 1)) = some (.inr 12, M2) := o1
          exact Or.inr ⟨M2, p', e, by rw [eo, jx_1], GX_t (gT_X g3 (by omega)) (GX_N (gN_t gN_1 o2)), bk_c o3 ha, o4⟩
      · have tk45 := (fT_tk h4 (c := 45) (by decide)).2 (by rw [pk4]; exact q45)
        simp only [if_neg q45]
        refine ⟨w_i (w_i (c_1 C) a 1 2) a 3 0, fun K => ?_, FX_t (FX_T fT_1) (FX_t FX_i FX_i), Or.inl ⟨cJ_e rfl, M1, 1, rfl, g3, tx_c h4 ha ha', Or.inr (Or.inr (Or.inl ⟨?_, v20, ?_, ?_, ?_⟩))⟩⟩
        · rw [tk63, ob_, if_pos rfl, t2, ob_, if_neg (show ¬ (1 : Int32) = 0 by decide), tk87, ob_, if_pos rfl, tk45, ob_, if_pos rfl, jl_, ob_, if_neg (show ¬ (1 : Int32) = 0 by decide)]
        · rw [w_ir, if_neg (by omega), w_ir, if_pos ⟨rfl, rfl⟩]
        · rw [w_ir, if_pos ⟨rfl, rfl⟩, v21]
        · rw [w_ir, if_pos ⟨rfl, rfl⟩]; decide
        · rw [w_ir, if_pos ⟨rfl, rfl⟩]; decide
  · have tk76 := (fT_tk h0 (c := 76) (by decide)).2 q76
    rw [if_neg q76, if_neg (show ¬ (3 : Int32) = 5 by decide)]
    obtain ⟨C', c1, c2, c3⟩ := ri_ (a := a) (x1 := 3) (f := 3) h0 ha ha' rfl (by omega) hz
    refine ⟨C', fun K => ?_, c2, ?_⟩
    · rw [tk63, ob_, if_pos rfl, tk76, ob_, if_pos rfl, ob_, if_pos rfl, c1, ob_]
    · rcases c3 with ⟨w0, M', d', w1, w2, w3, w4, w5⟩ | ⟨-, s2, M', d', v, w1, w2, w3, w4, w5, w6⟩ | ⟨M', p', e, w1, w2, w3, w4⟩
      · refine Or.inl ⟨cJ_I w0, M', d', by rw [w1, jxv_0], gT_t g0 (gT_F w2), w3, Or.inl ⟨by rw [w0.2.2.2.1]; exact h1, by rw [w2.1 215 20 (by omega) (by omega)]; exact w20, w4⟩⟩
      · refine Or.inl ⟨cJ_e s2, M', d', by rw [w1, jxv_0], gT_t g0 w2, w3, ?_⟩
        have l3 : lo_ 3 = 1 ∧ hi_ 3 = 31 := by decide
        rcases w4 with ⟨-, a1, a2, a3, a4⟩ | ⟨b, -⟩ | ⟨b, -⟩
        · exact Or.inr (Or.inr (Or.inr (Or.inr ⟨a1, a3, by rw [a2, a4], by rw [a2]; omega, by rw [a2]; omega⟩)))
        · omega
        · omega
      · exact Or.inr ⟨M', p', e, by rw [w1, jxv_1], GX_t (gT_X g0 (by omega)) w2, w3, w4⟩
end KA_2
