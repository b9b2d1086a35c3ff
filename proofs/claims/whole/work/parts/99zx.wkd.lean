section KA_4
variable {S T C C' M M' D Y : jS} {n p s f a u k g : Nat} {c e v x1 x3 : Int32}
theorem dY_1 (h : dY C a M) : (C.1 a 1 = 1 ↔ M.1 453 0 = 1) := by
  rcases h with ⟨a1, a2, -⟩ | ⟨a1, a2⟩ | ⟨a1, a2, -⟩ | ⟨a1, a2⟩ | ⟨a1, a2, -⟩ <;> rw [a1, a2] <;> decide
theorem m74w {kt : Int32 → Int32 → jS → Option (Option Nat × jS)} (h : tx C M n p) : ((M.1 453 0 = 1 ↔ pkv C n p = 63) → J_M_readCron_74 kt x1 5 M = some (some 12, w_i M 215 3 (M.1 215 7))) ∧ (¬ (M.1 453 0 = 1 ↔ pkv C n p = 63) → J_M_readCron_74 kt x1 5 M = J_M_readCron_116 kt x1 5 M) := by
  unfold J_M_readCron_74 J_M_readCron_93 J_M_readCron_105
  rw [if_pos rfl, fM_pk h, ob_]
  simp only [j_qt (show j_in 0 6 = true by decide), show (0 : Int32).toNatClampNeg = 0 from rfl, fM_bad, jxv_1]
  by_cases w : M.1 453 0 = 1
  · by_cases q : pkv C n p = 63
    · simp only [if_pos w, if_pos q]
      exact ⟨fun _ => rfl, fun v => absurd ⟨fun _ => q, fun _ => w⟩ v⟩
    · simp only [if_pos w, if_neg q]
      exact ⟨fun v => absurd (v.mp w) q, fun _ => by rw [if_neg (by decide)]⟩
  · by_cases q : pkv C n p = 63
    · simp only [if_neg w, if_pos q]
      exact ⟨fun v => absurd (v.mpr q) w, fun _ => by rw [if_neg (by decide)]⟩
    · simp only [if_neg w, if_neg q]
      exact ⟨fun _ => rfl, fun v => absurd ⟨fun u => absurd u w, fun u => absurd u q⟩ v⟩
theorem l5 : lo_ 5 = 1 ∧ hi_ 5 = 7 := by decide
/-- the weekday on both sides -/
theorem wF_ (h : tx C M n p) (ha : a ≠ 25) (ha' : a ≠ 26) (hd : dY C a M) (hz : z_ C a 5) : ∃ C', (∀ K : jS → Option jS, (F_CR_takeWeekdayRule a C).bind (fun z14 => if z14.1 = 0 then ((F_CR_readItems a 5 z14.2).bind (fun z16 => K z16)) else (K z14.2)) = K C') ∧ FX a C C' ∧ ((cJ 5 a C C' ∧ ∃ M' d, (∀ kt, J_M_readCron_74 kt x1 5 M = J_M_readCron_179 kt x1 5 (w_3 M' 3)) ∧ gT 5 M M' ∧ tx C' M' n (p + d) ∧ dW C' a (w_3 M' 3)) ∨ (∃ M' p' e, (∀ kt, J_M_readCron_74 kt x1 5 M = some (some 12, M')) ∧ GX M M' ∧ bk C' n p' e ∧ M'.1 215 3 = e)) := by
  have d1 := dY_1 hd
  have h0 := tx_f h
  have g0 : gT 5 M (w_i (w_i (w_i M 215 20 0) 215 21 0) 215 22 0) := gT_S gS_f
  have w20 : (w_i (w_i (w_i M 215 20 0) 215 21 0) 215 22 0).1 215 20 = 0 := by rw [w_ir, if_neg (by omega), w_ir, if_neg (by omega), w_ir, if_pos ⟨rfl, rfl⟩]
  have m0 : F_M_field 5 M = J_M_field_25 5 (w_i (w_i (w_i M 215 20 0) 215 21 0) 215 22 0) := by
    unfold F_M_field
    rw [jl_, jl_, jl_, if_neg (by decide), if_pos rfl]
  generalize w_i (w_i (w_i M 215 20 0) 215 21 0) 215 22 0 = M0 at *
  have m453 : ∀ j, M0.1 453 j = M.1 453 j := fun j => g0.1 453 j (by omega) (by omega)
  -- what is kept behind it
  have k453 : ∀ (M' : jS), (∀ j, M'.1 453 j = M.1 453 j) → (w_3 M' 3).1 453 0 = M.1 453 0 ∧ (w_3 M' 3).1 453 1 = M.1 453 1 ∧ (w_3 M' 3).1 453 3 = M'.1 215 20 ∧ (w_3 M' 3).1 453 4 = M'.1 215 21 ∧ (w_3 M' 3).1 453 5 = M'.1 215 22 := by
    intro M' q
    obtain ⟨e0, e1, e2, eo, -⟩ := w3_r (M := M') (x := 3)
    exact ⟨by rw [eo 453 0 (by omega), q], by rw [eo 453 1 (by omega), q], e0, e1, e2⟩
  by_cases w : C.1 a 1 = 1
  · have w' : M.1 453 0 = 1 := d1.mp w
    unfold F_CR_takeWeekdayRule
    rw [if_pos w]
    by_cases q : pkv C n p = 63
    · -- ? twice
      have n76 : ¬ pkv C n p = 76 := by rw [q]; decide
      have tk := (fT_tk h (c := 76) (by decide)).2 n76
      obtain ⟨C', c1, c2, c3⟩ := ri_ (a := a) (x1 := 5) (f := 5) h ha ha' rfl (by omega) hz
      refine ⟨C', fun K => by rw [tk, ob_, if_pos rfl, ob_, if_pos rfl, c1, ob_], c2, Or.inr ?_⟩
      have ev : ∃ M1, F_M_items 5 M = some (some 12, w_i M1 215 3 (M.1 215 7)) := by
        obtain ⟨M1, m1, m2, m3, m4, m5⟩ := lM_2 (M := M) (x1 := 5) (f := 5) rfl (by omega) ju_ 0 0 rfl (by omega) (by show _ < 1000000; omega) (fun i hi => by omega)
        have h1 := tx_e h rfl m2 (show 5 < 7 by omega)
        refine ⟨M1, ?_⟩
        have e1 : F_M_items 5 M = L_M_items_26 ju_ 5 1 M1 := m1
        rw [e1, show ju_ = 999999 + 1 from rfl]
        conv => lhs; unfold L_M_items_26
        rw [fM_pk h1, ob_, if_neg (by rw [q]; decide)]
        unfold J_M_items_40 F_M_value J_M_value_10 J_M_value_139 F_M_ranged
        rw [j_qt (show j_in 5 7 = true by decide), jl_, j_qt (show j_in 5 7 = true by decide), jl_, if_pos rfl, if_neg (by decide), if_pos rfl, fM_pk h1, ob_]
        have lt : F_M_letter (pkv C n p) M1 = some 0 := by rw [q]; rfl
        have dg : F_M_digit (pkv C n p) M1 = some 0 := by rw [q]; rfl
        rw [lt, ob_, if_pos rfl, j_qt (show j_in 5 7 = true by decide), j_qt (show j_in 5 7 = true by decide), jl_, ob_, dg, ob_, if_pos rfl, fM_bad, jxv_1, jx_1, jx_1, m2 215 7 (by omega)]
      obtain ⟨M1, ev⟩ := ev
      rw [ev] at c3
      rcases c3 with ⟨-, M', d', w1, -⟩ | ⟨-, -, M', d', v, w1, -⟩ | ⟨M', p', e, w1, w2, w3, w4⟩
      · exact absurd w1 (by simp)
      · exact absurd w1 (by simp)
      · have em : w_i M1 215 3 (M.1 215 7) = M' := (Prod.mk.inj (Option.some.inj w1)).2
        have e7 : M.1 215 7 = e := by rw [← w4, ← em, w_ir, if_pos ⟨rfl, rfl⟩]
        refine ⟨w_i M 215 3 (M.1 215 7), p', e, fun kt => (m74w (kt := kt) h).1 ⟨fun _ => q, fun _ => w'⟩, GX_N (gN_i (Or.inl rfl)), w3, by rw [w_ir, if_pos ⟨rfl, rfl⟩, e7]⟩
    · have mk : ∀ kt, J_M_readCron_74 kt x1 5 M = j_xv (F_M_field 5 M) (fun c S => (some c, S)) (fun S43 => J_M_readCron_179 kt x1 5 (w_3 S43 3)) := fun kt => by
        rw [(m74w (kt := kt) h).2 (fun v => q (v.mp w')), m116w]
      simp only [mk]
      rw [m0]
      unfold J_M_field_25 J_M_field_52 J_M_field_141 J_M_field_202
      rw [fM_pk h0, ob_, if_neg q, if_neg (show ¬ (5 : Int32) = 3 by decide), if_pos rfl, ob_]
      by_cases q76 : pkv C n p = 76
      · obtain ⟨t1, t2⟩ := (fT_tk h0 (c := 76) (by decide)).1 q76
        rw [if_pos q76, jl_]
        obtain ⟨D, e1, e2, e3, e4⟩ := fC_add (a := a) (C := c_1 C) (x1 := 5) (f := 5) (v := 7) (u := 7) rfl (by omega) rfl (by decide) (by decide)
        obtain ⟨M', f1, f2, f3, f4⟩ := lM_167 ju_ 0 0 (m_1 M0) rfl (by omega) (by show _ < 1000000; omega) (fun i hi => by omega)
        have hT : ∀ t, t = 0 → lo_ 5 ≤ vl 5 7 t ∧ vl 5 7 t ≤ hi_ 5 := fun t ht => by subst ht; decide
        have v7 : vl 5 7 0 = 7 := by decide
        have e4' : ∀ w i, bt (D.2.1 (a + 1) w) i = true ↔ (bt ((c_1 C).2.1 (a + 1) w) i = true ∨ ∃ t, t = 0 ∧ w = wd 5 (vl 5 7 t) ∧ i = bi 5 (vl 5 7 t)) := fun w i => by
          rw [e4]
          constructor
          · rintro (v | v)
            · exact Or.inl v
            · exact Or.inr ⟨0, rfl, by rw [v7]; exact v.1, by rw [v7]; exact v.2⟩
          · rintro (v | ⟨t, rfl, v⟩)
            · exact Or.inl v
            · rw [v7] at v; exact Or.inr v
        obtain ⟨k1, k2, -⟩ := as_k (M := C) (M' := C) (show 5 < 7 by omega) hT e4'
        refine ⟨D, fun K => by rw [t2, ob_, if_neg (show ¬ (1 : Int32) = 0 by decide), e1, ob_, ob_, if_neg (show ¬ (1 : Int32) = 0 by decide)], FX_t (FX_T fT_1) e3, Or.inl ⟨⟨fun g u q1 q2 q3 q4 => k2 g u q1 q2 q3 q4, fun kk => k1 kk, fun w i q => (e4 w i).mpr (Or.inl q)⟩, M', 1, fun kt => ?_, ?_, ?_, ?_⟩⟩
        · rw [show L_M_field_167 ju_ 5 0 (w_i M0 215 7 (M0.1 215 7 + 1)) = some (none, M') from f1, jxv_0]
        · exact gT_t g0 (gT_t (gT_S (gS_N gN_1)) ⟨fun b j _ q2 => f2 b j (by omega), f3⟩)
        · have := tx_e (f := 5) (C' := D) (tx_1 h0 t1) (by rw [e2]) (fun b j q => f2 b j (by omega)) (by omega)
          exact this
        · obtain ⟨b0, b1, b3, b4, b5⟩ := k453 M' (fun j => by rw [f2 453 j (by omega), gN_1.1 453 j (by omega), m453])
          refine Or.inr (Or.inl ⟨by rw [e2, fT_1.1 a 1 (by omega)]; exact w, by rw [b0]; exact w', by rw [b3, f2 215 20 (by omega), gN_1.1 215 20 (by omega)]; exact w20, ?_⟩)
          have e374 : ∀ i, (w_3 M' 3).1 (369 + 5) i = M'.1 374 i := fun i => w3_r.2.2.2.1 (369 + 5) i (by omega)
          refine ⟨fun i hi => ?_, fun u u1 u2 => ?_⟩
          · rw [e374, f4 i hi]
            split
            · exact Or.inr rfl
            · exact Or.inl rfl
          · obtain ⟨q1, q2⟩ := l5
            rw [e374, f4 _ (by omega), e4, show (c_1 C).2.1 = C.2.1 from rfl, hz u u1 u2]
            have : (wd 5 u = wd 5 7 ∧ bi 5 u = bi 5 7) ↔ u = 7 := ⟨fun v => (wd_i (show 5 < 7 by omega) (show 5 < 7 by omega) u1 u2 (by omega) (by omega) v.1 v.2).2, fun v => by rw [v]; exact ⟨rfl, rfl⟩⟩
            rw [this, q1]
            by_cases v : u = 7
            · rw [if_pos (by omega)]
              exact ⟨fun _ => by decide, fun _ => Or.inr v⟩
            · rw [if_neg (by omega)]
              exact ⟨fun z => z.elim (fun y => absurd y (by decide)) (fun y => absurd y v), fun z => absurd rfl z⟩
      · have tk := (fT_tk h0 (c := 76) (by decide)).2 q76
        rw [if_neg q76]
        obtain ⟨C', c1, c2, c3⟩ := ri_ (a := a) (x1 := 5) (f := 5) h0 ha ha' rfl (by omega) hz
        refine ⟨C', fun K => by rw [tk, ob_, if_pos rfl, ob_, if_pos rfl, c1, ob_], c2, ?_⟩
        rcases c3 with ⟨y0, M', d', w1, w2, w3, w4, w5⟩ | ⟨-, s2, M', d', v, w1, w2, w3, w4, w5, w6⟩ | ⟨M', p', e, w1, w2, w3, w4⟩
        · obtain ⟨b0, b1, b3, b4, b5⟩ := k453 M' (fun j => by rw [w2.1 453 j (by omega) (by omega), m453])
          refine Or.inl ⟨cJ_I y0, M', d', fun kt => by rw [w1, jxv_0, jxv_0], gT_t g0 (gT_F w2), w3, Or.inr (Or.inl ⟨by rw [y0.2.2.2.1]; exact w, by rw [b0]; exact w', by rw [b3, w2.1 215 20 (by omega) (by omega)]; exact w20, kS_e rfl (fun i => w3_r.2.2.2.1 (369 + 5) i (by omega)) w4⟩)⟩
        · obtain ⟨b0, b1, b3, b4, b5⟩ := k453 M' (fun j => by rw [w2.1 453 j (by omega) (by omega), m453])
          obtain ⟨q1, q2⟩ := l5
          refine Or.inl ⟨cJ_e s2, M', d', fun kt => by rw [w1, jxv_0, jxv_0], gT_t g0 w2, w3, ?_⟩
          rcases w4 with ⟨b, -⟩ | ⟨-, a1, a2, a3, a4⟩ | ⟨-, a1, a2, a3, a4, a5, a6, a7⟩
          · omega
          · exact Or.inr (Or.inr (Or.inr (Or.inr (Or.inr (Or.inl ⟨a1, by rw [b0]; exact w', by rw [b3]; exact a3, by rw [a2, b4, a4], by rw [a2]; omega, by rw [a2]; omega⟩)))))
          · exact Or.inr (Or.inr (Or.inr (Or.inr (Or.inr (Or.inr ⟨a1, by rw [b0]; exact w', by rw [b3]; exact a3, by rw [a2, b4, a4], by rw [a2]; omega, by rw [a2]; omega, by rw [b5]; exact a5, a6, a7⟩)))))
        · exact Or.inr ⟨M', p', e, fun kt => by rw [w1, jxv_1, jxv_1], GX_t (gT_X g0 (by omega)) w2, w3, w4⟩
  · have w' : ¬ M.1 453 0 = 1 := fun v => w (d1.mpr v)
    unfold F_CR_takeWeekdayRule
    rw [if_neg w]
    by_cases q : pkv C n p = 63
    · obtain ⟨t1, t2⟩ := (fT_tk h0 (c := 63) (by decide)).1 q
      have mk : ∀ kt, J_M_readCron_74 kt x1 5 M = j_xv (F_M_field 5 M) (fun c S => (some c, S)) (fun S43 => J_M_readCron_179 kt x1 5 (w_3 S43 3)) := fun kt => by
        rw [(m74w (kt := kt) h).2 (fun v => w' (v.mpr q)), m116w]
      have rq : F_T_require 63 C = some (c_1 C) := by
        unfold F_T_require
        rw [t2, ob_, if_neg (show ¬ (1 : Int32) = 0 by decide)]
      have mf : F_M_field 5 M = some (none, w_i (m_1 M0) 215 20 1) := by
        rw [m0]
        unfold J_M_field_25
        rw [fM_pk h0, ob_, if_pos q, jl_, jl_]
        rfl
      refine ⟨c_1 C, fun K => by rw [rq, ob_, ob_, if_neg (show ¬ (1 : Int32) = 0 by decide)], FX_T fT_1, Or.inl ⟨cJ_e rfl, w_i (m_1 M0) 215 20 1, 1, fun kt => by rw [mk, mf, jxv_0], gT_t g0 (gT_S (gS_t (gS_N gN_1) (gS_i (Or.inl rfl)))), tx_j (tx_1 h0 t1) (by omega) (by omega) (by omega), ?_⟩⟩
      have q453 : ∀ j, (w_i (m_1 M0) 215 20 1).1 453 j = M.1 453 j := fun j => by rw [w_ir, if_neg (by omega), gN_1.1 453 j (by omega), m453]
      have q20 : (w_i (m_1 M0) 215 20 1).1 215 20 = 1 := by rw [w_ir, if_pos ⟨rfl, rfl⟩]
      have q372 : ∀ i, (w_3 (w_i (m_1 M0) 215 20 1) 3).1 (369 + 3) i = M.1 (369 + 3) i := fun i => by
        rw [w3_r.2.2.2.1 (369 + 3) i (by omega), w_ir, if_neg (by omega), gN_1.1 (369 + 3) i (by omega), g0.1 (369 + 3) i (by omega) (by omega)]
      obtain ⟨b0, b1, b3, b4, b5⟩ := k453 _ q453
      have ca : ∀ j, (c_1 C).1 a j = C.1 a j := fun j => fT_1.1 a j (by omega)
      unfold dW
      simp only [ca, b0, b1, b3, q20]
      rcases hd with ⟨a1, a2, a3⟩ | ⟨a1, a2⟩ | ⟨a1, a2, a3⟩ | ⟨a1, a2⟩ | ⟨a1, a2, a3⟩
      · exact Or.inl ⟨a1, a2, by trivial, kS_e rfl q372 a3⟩
      · exact absurd a1 w
      · exact Or.inr (Or.inr (Or.inl ⟨a1, a2, by trivial, a3⟩))
      · exact Or.inr (Or.inr (Or.inr (Or.inl ⟨a1, a2, by trivial⟩)))
      · exact Or.inr (Or.inr (Or.inr (Or.inr (Or.inl ⟨a1, a2, by trivial, a3⟩))))
    · obtain ⟨b1, b2⟩ := fT_br h (pos_n h)
      have tk := (fT_tk h (c := 63) (by decide)).2 q
      have rq : F_T_require 63 C = some (w_i C 25 3 (C.1 25 2)) := by
        unfold F_T_require
        rw [tk, ob_, if_pos rfl, b1, ob_]
      refine ⟨w_i C 25 3 (C.1 25 2), fun K => by rw [rq, ob_, ob_, if_neg (show ¬ (1 : Int32) = 0 by decide)], FX_T (fT_i (Or.inr rfl)), Or.inr ⟨w_i M 215 3 (M.1 215 7), p, C.1 25 2, fun kt => (m74w (kt := kt) h).1 ⟨fun u => absurd u w', fun u => absurd u q⟩, GX_N (gN_i (Or.inl rfl)), b2, by rw [w_ir, if_pos ⟨rfl, rfl⟩, pos_e h]⟩⟩
end KA_4
