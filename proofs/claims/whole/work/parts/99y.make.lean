section JV_9
variable {S T U C C' M Y D : jS} {A A' : Nat → Nat → Int} {b j i k n x y c f g : Nat} {RB : jS → Prop}
theorem ok_make {m : Nat} (hK : rK RB) (hm : m < 512) : Oq_make (RJ RB m) (RJ RB (m + 1)) := by
  intro p0 p1 p2 p3 p4 p5 p6 S h
  have h' := h
  obtain ⟨hb, A, ha, hma, hI⟩ := h
  obtain ⟨hz, hc, hh⟩ := hK.1 _ hb
  have I3 := hI.2.2.1
  have g8 := cg0 ha.1
  have w1 : S.2.1 215 41 = S.2.1 24 8 := eqL.mpr (by rw [g8, mg0 hma])
  have g5 := cg5 ha.1
  have m5 := mg5 hma
  have e0 : (p0 = 0) = (p0.toInt = 0) := by rw [eqI]; rfl
  have e20 : (p2 = 0) = (p2.toInt = 0) := by rw [eqL]; rfl
  -- how far away
  have sub : (10413791999999 - S.2.1 24 8).toInt = 10413791999999 - A 100 0 := by
    rw [Int64.toInt_sub, g8]
    simp only [Int64.reduceToInt]
    exact bs64 (by omega) (by omega)
  obtain ⟨z, hz2, z1, z2⟩ : ∃ z : Int64, F_Math_min2 1099511627776 (10413791999999 - S.2.1 24 8) S = some z ∧ (z.toInt ≤ 1099511627776 ∧ z.toInt ≤ 10413791999999 - A 100 0) ∧ (z.toInt = 1099511627776 ∨ z.toInt = 10413791999999 - A 100 0) := by
    obtain ⟨w, w1, w2, w3, w4⟩ := min2_ (S := S) (u := 1099511627776) (v := 10413791999999 - S.2.1 24 8)
    rw [sub] at w3
    simp only [Int64.reduceToInt] at w2
    refine ⟨w, w1, ⟨w2, w3⟩, ?_⟩
    rcases w4 with q | q
    · exact Or.inl (by rw [q]; rfl)
    · exact Or.inr (by rw [q, sub])
  have mk51 : ∀ (X : jS → Prop), (∀ Y, X Y → True) → True := fun _ _ => trivial
  by_cases K1 : 0 ≤ p0.toInt ∧ p0.toInt ≤ 2 ∧ 0 ≤ p1.toInt ∧ p1.toInt ≤ 1099511627776 ∧ A 100 0 + p1.toInt ≤ 10413791999999 ∧ ((p0.toInt = 0 ∧ p2.toInt = 0) ∨ (¬ p0.toInt = 0 ∧ 1 ≤ p2.toInt ∧ p2.toInt ≤ 1099511627776))
  · obtain ⟨a1, a2, a3, a4, a5, a6⟩ := K1
    have ex : (S.2.1 24 8 + p1).toInt = A 100 0 + p1.toInt := adL g8 rfl (by omega) (by omega)
    have J1 : F_J_make p0 p1 p2 p3 p4 p5 p6 S = J_J_make_51 p0 p1 p2 p3 p4 p5 p6 S := by
      unfold F_J_make
      rw [fck0 (by simp only [Int32.toInt_toInt64, Int64.reduceToInt]; omega) (by simp only [Int32.toInt_toInt64, Int64.reduceToInt]; omega), jxv_0, hz2, ob_, fck0 (by simp only [Int64.reduceToInt]; omega) (by omega), jxv_0]
      simp only [e0]
      by_cases q : p0.toInt = 0
      · rw [if_pos q, fck0 (by simp only [Int64.reduceToInt]; omega) (by simp only [Int64.reduceToInt]; omega), jxv_0]
      · rw [if_neg q, fck0 (by simp only [Int64.reduceToInt]; omega) (by simp only [Int64.reduceToInt]; omega), jxv_0]
    have M1 : ∀ Y : jS, Y.2.1 215 41 = S.2.1 24 8 → F_M_make p0 p1 p2 p3 p4 p5 p6 Y = J_M_make_71 p0 p1 p2 p3 p4 p5 p6 (w_i Y 215 0 0) := by
      intro Y hY
      unfold F_M_make
      rw [jl_, w_i2, hY]
      rw [if_neg (show ¬ p0 < 0 by rw [ltI (k := 0) (n := 0) rfl]; omega), if_neg (show ¬ 2 < p0 by rw [gtI (k := 2) (n := 2) rfl]; omega), if_neg (show ¬ p1 < 0 by rw [ltL (k := 0) (n := 0) rfl]; omega), if_neg (show ¬ (1099511627776 : Int64) < p1 by rw [gtL (k := 1099511627776) (n := 1099511627776) rfl]; omega), if_neg (show ¬ (10413791999999 : Int64) < S.2.1 24 8 + p1 by rw [gtL (k := 10413791999999) (n := 10413791999999) rfl, ex]; omega)]
      simp only [e0, e20]
      by_cases q : p0.toInt = 0
      · rw [if_pos q, if_pos (by omega)]
      · rw [if_neg q, if_neg (show ¬ p2 < 1 by rw [ltL (k := 1) (n := 1) rfl]; omega), if_neg (show ¬ (1099511627776 : Int64) < p2 by rw [gtL (k := 1099511627776) (n := 1099511627776) rfl]; omega)]
    by_cases K2 : 0 ≤ p3.toInt ∧ p3.toInt ≤ 1099511627776 ∧ 0 ≤ p5.toInt ∧ p5.toInt ≤ 2 ∧ 0 ≤ p6.toInt
    · obtain ⟨b1, b2, b3, b4, b5⟩ := K2
      have M2 : ∀ Y : jS, Y.2.1 215 41 = S.2.1 24 8 → J_M_make_71 p0 p1 p2 p3 p4 p5 p6 Y = if Y.1 215 45 = 0 then ((F_M_enter p0 (S.2.1 24 8 + p1) p2 p3 p4 p5 p6 Y).bind (fun z16 => if 0 ≤ z16.1 then (some (z16.1, z16.2)) else ((F_M_fail 3 z16.2).bind (fun z18 => some (z18.1, z18.2))))) else ((F_M_fail 2 Y).bind (fun z19 => some (z19.1, z19.2))) := by
        intro Y hY
        unfold J_M_make_71
        rw [hY, if_neg (show ¬ p3 < 0 by rw [ltL (k := 0) (n := 0) rfl]; omega), if_neg (show ¬ (1099511627776 : Int64) < p3 by rw [gtL (k := 1099511627776) (n := 1099511627776) rfl]; omega), if_neg (show ¬ p5 < 0 by rw [ltI (k := 0) (n := 0) rfl]; omega), if_neg (show ¬ 2 < p5 by rw [gtI (k := 2) (n := 2) rfl]; omega), if_pos (show 0 ≤ p6 by rw [geI (k := 0) (n := 0) rfl]; omega)]
      by_cases op : A 100 5 = 0
      · have J2 : J_J_make_51 p0 p1 p2 p3 p4 p5 p6 S = j_x (F_J_freeSlot S) (fun c S => (.inr c, S)) (fun z9 S8 => j_q (j_in z9 100) (j_l (115 + ((z9 : Int32).toNatClampNeg) : Nat) (fun b11 => (F_J_fill b11 p3 p4 p5 p6 S8).bind (fun z12 => j_l (w_i z12 b11 1 p0) (fun S13 => j_l (w_l S13 b11 6 p2) (fun S14 => j_l (w_l S14 b11 4 ((S14.2.1 24 8) + p1)) (fun S15 => some (.inl z9, S15)))))))) := by
          unfold J_J_make_51 F_J_checkOpen
          rw [fcr0 b1 b2 b3 b4 b5, jxv_0, if_pos (eqI.mpr (by rw [g5, op]; rfl)), jxv_0]
        rcases lJ_fs ha.1 ju_ 0 0 rfl (by omega) (by show _ < 1000000; omega) (fun i hi => by omega) with ⟨x, j, s1, s2, s3⟩ | ⟨s1, s2⟩
        · have hj := s3.1
          obtain ⟨C1, c1, c2, c3, c4, c5, c6, c7, c8⟩ := fJ_fill (q6 := p3) (q8 := p4) (q9 := p5) (q10 := p6) ha hI (by omega) s3
          have r8 : (w_l (w_i C1 (115 + j) 1 p0) (115 + j) 6 p2).2.1 24 8 = S.2.1 24 8 := by
            rw [w_lr, if_neg (by omega), w_i2, c8, w_lr, if_neg (by omega)]
          have J3 : F_J_make p0 p1 p2 p3 p4 p5 p6 S = some (.inl x, w_l (w_l (w_i C1 (115 + j) 1 p0) (115 + j) 6 p2) (115 + j) 4 (S.2.1 24 8 + p1)) := by
            rw [J1, J2, show F_J_freeSlot S = some (.inl x, S) from s1, jx_0, j_qN s2 hj, clN s2, jl_, c1, ob_, jl_, jl_, r8, jl_]
          have fA : f0 S (w_l (w_l (w_i C1 (115 + j) 1 p0) (115 + j) 6 p2) (115 + j) 4 (S.2.1 24 8 + p1)) := by
            refine f0_l (f0_l (f0_i c3 ?_) ?_) ?_ <;> (unfold jr; omega)
          generalize hC' : w_l (w_l (w_i C1 (115 + j) 1 p0) (115 + j) 6 p2) (115 + j) 4 (S.2.1 24 8 + p1) = C' at J3 fA
          have kC : cA C' (aMk A j (mkF p0.toInt (A 100 4) (A 100 0 + p1.toInt) p2.toInt p3.toInt p4.toInt p5.toInt p6.toInt (A j 11) (A j 12) (A j 13))) := by
            refine ⟨?_, ?_, ?_⟩
            · rw [← hC']
              refine bB_c ?_ (mk_c hj rfl)
              exact ca_l (ca_6 (ca_q (ca_i c2 (pc1 hj) rfl) (pc6_ hj)) hj) (pc4 hj) ex
            · intro j' hj' q
              rw [← hC']
              by_cases e : j' = j
              · subst e
                rw [aMk_j (by omega) (by omega), w_lr, if_neg (by omega), w_lr, if_pos ⟨rfl, rfl⟩]
                rfl
              · rw [aMk_n e hj'] at q ⊢
                rw [w_lr, if_neg (by omega), w_lr, if_neg (by omega), w_i2, c8, w_lr, if_neg (by omega)]
                exact ha.2.1 j' hj' q
            · refine cS_n ha.2.2 (fun i hi => (hI.1 i hi).1) s3 (fun i => ?_) ?_ ?_ ?_ (fun j' hj' hn => aMk_n hn hj') (by rw [aMk_j (by omega) (by omega)]; rfl)
              · rw [← hC', w_l1, w_l1, w_ir, if_neg (by omega), c4]
              · rw [← hC', w_l1, w_l1, w_ir, if_neg (by omega), c5]
              · rw [← hC', w_l1, w_l1, w_ir, if_neg (by omega), c6]
              · rw [← hC', w_l1, w_l1, w_ir, if_neg (by omega), c7]
          have hY := mA_0 (v := 0) (fc_m (f0_c fA) hma)
          have eY : (w_i C' 215 0 0).2.1 215 41 = S.2.1 24 8 := by rw [w_i2, fA.2.1 215 41 (by unfold jr; omega), w1]
          rcases lM_en hY (q1 := p0) (q2 := S.2.1 24 8 + p1) (q4 := p2) (q6 := p3) (q8 := p4) (q9 := p5) (q10 := p6) ju_ 0 0 rfl (by omega) (by show _ < 1000000; omega) (fun i hi => by omega) with ⟨x', j', t1, t2, t3⟩ | ⟨-, t2⟩
          · have ej := fs_u s3 t3
            subst ej
            have exx : x' = x := eqI.mpr (by rw [t2, s2])
            subst exx
            have I7 := hI.2.2.2.2.2.2
            obtain ⟨M', d1, d2, d3⟩ := fM_en hY (by omega) (q1 := p0) (q2 := S.2.1 24 8 + p1) (q4 := p2) (q6 := p3) (q8 := p4) (q9 := p5) (q10 := p6) s2 hj
            rw [ex] at d2
            refine ⟨(.inl x', C'), x', M', J3, ?_, ⟨hK.2 _ _ hb (jf_t (fc_j (f0_c fA)) (jf_t jf_0 (fm_j d3))) (fm_z d3 (rZ_0 (f0_z fA hz))), _, cA_m d3 (cA_0 kC), d2, iA_m (iA_mk hI s3 rfl ⟨a1, by show p0.toInt ≤ 3; omega⟩ rfl rfl ⟨by show 0 ≤ A 100 0 + p1.toInt; omega, a5⟩ (fun w => ?_) ⟨b1, b2⟩ ⟨b3, b4⟩ b5 (fun w => ?_)) (by omega)⟩, ?_, rfl⟩
            · show F_M_make p0 p1 p2 p3 p4 p5 p6 C' = _
              rw [M1 C' eY, M2 _ eY, if_pos (eqI.mpr (by rw [mg5 hY, op]; rfl))]
              unfold F_M_enter
              rw [t1, d1, ob_]
              rw [if_pos (show (0 : Int32) ≤ x' by rw [geI (k := 0) (n := 0) rfl]; omega)]
            · show 1 ≤ p2.toInt ∧ p2.toInt ≤ 1099511627776
              have : p0.toInt = 1 ∨ p0.toInt = 2 := w
              omega
            · have : p0.toInt = 3 := w
              omega
            · rw [d3.1 215 0 (by omega) (by omega), w_ir, if_pos ⟨rfl, rfl⟩]
          · exact absurd s3.2.1 (t2 j hj)
        · refine ⟨(.inr 10, S), 0, w_i (w_i S 215 0 0) 215 0 3, ?_, ?_, RJ_m (RJ_0 hK (RJ_0 hK h')), ?_⟩
          · rw [J1, J2, show F_J_freeSlot S = some (.inr 10, S) from s1, jx_1]
          · show F_M_make p0 p1 p2 p3 p4 p5 p6 S = _
            have hY := mA_0 (v := 0) hma
            have eY : (w_i S 215 0 0).2.1 215 41 = S.2.1 24 8 := by rw [w_i2, w1]
            rw [M1 S w1, M2 _ eY, if_pos (eqI.mpr (by rw [mg5 hY, op]; rfl))]
            rcases lM_en hY (q1 := p0) (q2 := S.2.1 24 8 + p1) (q4 := p2) (q6 := p3) (q8 := p4) (q9 := p5) (q10 := p6) ju_ 0 0 rfl (by omega) (by show _ < 1000000; omega) (fun i hi => by omega) with ⟨x', j', t1, t2, t3⟩ | ⟨t1, -⟩
            · exact absurd t3.2.1 (s2 j' t3.1)
            · unfold F_M_enter
              rw [t1, ob_, if_neg (show ¬ (0 : Int32) ≤ -1 by decide)]
              rfl
          · show (10, (w_i (w_i S 215 0 0) 215 0 3).1 215 0) ∈ _
            rw [w_ir, if_pos ⟨rfl, rfl⟩]
            exact List.mem_cons_of_mem _ (List.mem_cons_of_mem _ List.mem_cons_self)
      · refine ⟨(.inr 13, S), 0, w_i (w_i S 215 0 0) 215 0 2, ?_, ?_, RJ_m (RJ_0 hK (RJ_0 hK h')), ?_⟩
        · rw [J1]
          unfold J_J_make_51 F_J_checkOpen
          rw [fcr0 b1 b2 b3 b4 b5, jxv_0, if_neg (fun w => op (by have := eqI.mp w; rw [g5] at this; exact this)), jxv_1]
        · show F_M_make p0 p1 p2 p3 p4 p5 p6 S = _
          have hY := mA_0 (v := 0) hma
          rw [M1 S w1, M2 _ (by rw [w_i2, w1]), if_neg (fun w => op (by have := eqI.mp w; rw [mg5 hY] at this; exact this)), fail1, ob_]
        · show (13, (w_i (w_i S 215 0 0) 215 0 2).1 215 0) ∈ _
          rw [w_ir, if_pos ⟨rfl, rfl⟩]
          exact List.mem_cons_of_mem _ List.mem_cons_self
    · refine ⟨(.inr 11, S), 0, w_i (w_i S 215 0 0) 215 0 1, ?_, ?_, RJ_m (RJ_0 hK (RJ_0 hK h')), ?_⟩
      · rw [J1]
        unfold J_J_make_51
        rw [fcr1 K2, jxv_1]
      · show F_M_make p0 p1 p2 p3 p4 p5 p6 S = _
        have e : J_M_make_103 (w_i S 215 0 0) = some (0, w_i (w_i S 215 0 0) 215 0 1) := rfl
        rw [M1 S w1]
        unfold J_M_make_71
        rw [e]
        by_cases c1 : p3.toInt < 0
        · rw [if_pos (show p3 < 0 by rw [ltL (k := 0) (n := 0) rfl]; exact c1)]
        rw [if_neg (show ¬ p3 < 0 by rw [ltL (k := 0) (n := 0) rfl]; exact c1)]
        by_cases c2 : 1099511627776 < p3.toInt
        · rw [if_pos (show (1099511627776 : Int64) < p3 by rw [gtL (k := 1099511627776) (n := 1099511627776) rfl]; exact c2)]
        rw [if_neg (show ¬ (1099511627776 : Int64) < p3 by rw [gtL (k := 1099511627776) (n := 1099511627776) rfl]; exact c2)]
        by_cases c3 : p5.toInt < 0
        · rw [if_pos (show p5 < 0 by rw [ltI (k := 0) (n := 0) rfl]; exact c3)]
        rw [if_neg (show ¬ p5 < 0 by rw [ltI (k := 0) (n := 0) rfl]; exact c3)]
        by_cases c4 : 2 < p5.toInt
        · rw [if_pos (show 2 < p5 by rw [gtI (k := 2) (n := 2) rfl]; exact c4)]
        rw [if_neg (show ¬ 2 < p5 by rw [gtI (k := 2) (n := 2) rfl]; exact c4), if_neg (show ¬ 0 ≤ p6 by rw [geI (k := 0) (n := 0) rfl]; omega)]
      · show (11, (w_i (w_i S 215 0 0) 215 0 1).1 215 0) ∈ _
        rw [w_ir, if_pos ⟨rfl, rfl⟩]
        exact List.mem_cons_self
  · refine ⟨(.inr 11, S), 0, w_i (w_i S 215 0 0) 215 0 1, ?_, ?_, RJ_m (RJ_0 hK (RJ_0 hK h')), ?_⟩
    · unfold F_J_make
      by_cases c1 : 0 ≤ p0.toInt ∧ p0.toInt ≤ 2
      · rw [fck0 (by simp only [Int32.toInt_toInt64, Int64.reduceToInt]; omega) (by simp only [Int32.toInt_toInt64, Int64.reduceToInt]; omega), jxv_0, hz2, ob_]
        by_cases c2 : 0 ≤ p1.toInt ∧ p1.toInt ≤ 1099511627776 ∧ A 100 0 + p1.toInt ≤ 10413791999999
        · rw [fck0 (by simp only [Int64.reduceToInt]; omega) (by omega), jxv_0]
          simp only [e0]
          by_cases q : p0.toInt = 0
          · rw [if_pos q, fck1 (by simp only [Int64.reduceToInt]; omega), jxv_1]
          · rw [if_neg q, fck1 (by simp only [Int64.reduceToInt]; omega), jxv_1]
        · rw [fck1 (by simp only [Int64.reduceToInt]; omega), jxv_1]
      · rw [fck1 (by simp only [Int32.toInt_toInt64, Int64.reduceToInt]; omega), jxv_1]
    · show F_M_make p0 p1 p2 p3 p4 p5 p6 S = _
      have e : J_M_make_103 (w_i S 215 0 0) = some (0, w_i (w_i S 215 0 0) 215 0 1) := rfl
      unfold F_M_make
      rw [jl_, w_i2, w1, e]
      by_cases c1 : p0.toInt < 0
      · rw [if_pos (show p0 < 0 by rw [ltI (k := 0) (n := 0) rfl]; exact c1)]
      rw [if_neg (show ¬ p0 < 0 by rw [ltI (k := 0) (n := 0) rfl]; exact c1)]
      by_cases c2 : 2 < p0.toInt
      · rw [if_pos (show 2 < p0 by rw [gtI (k := 2) (n := 2) rfl]; exact c2)]
      rw [if_neg (show ¬ 2 < p0 by rw [gtI (k := 2) (n := 2) rfl]; exact c2)]
      by_cases c3 : p1.toInt < 0
      · rw [if_pos (show p1 < 0 by rw [ltL (k := 0) (n := 0) rfl]; exact c3)]
      rw [if_neg (show ¬ p1 < 0 by rw [ltL (k := 0) (n := 0) rfl]; exact c3)]
      by_cases c4 : 1099511627776 < p1.toInt
      · rw [if_pos (show (1099511627776 : Int64) < p1 by rw [gtL (k := 1099511627776) (n := 1099511627776) rfl]; exact c4)]
      rw [if_neg (show ¬ (1099511627776 : Int64) < p1 by rw [gtL (k := 1099511627776) (n := 1099511627776) rfl]; exact c4)]
      have ex : (S.2.1 24 8 + p1).toInt = A 100 0 + p1.toInt := adL g8 rfl (by omega) (by omega)
      by_cases c5 : 10413791999999 < A 100 0 + p1.toInt
      · rw [if_pos (show (10413791999999 : Int64) < S.2.1 24 8 + p1 by rw [gtL (k := 10413791999999) (n := 10413791999999) rfl, ex]; exact c5)]
      rw [if_neg (show ¬ (10413791999999 : Int64) < S.2.1 24 8 + p1 by rw [gtL (k := 10413791999999) (n := 10413791999999) rfl, ex]; exact c5)]
      simp only [e0, e20]
      by_cases q : p0.toInt = 0
      · rw [if_pos q, if_neg (by omega)]
      · rw [if_neg q]
        by_cases c6 : p2.toInt < 1
        · rw [if_pos (show p2 < 1 by rw [ltL (k := 1) (n := 1) rfl]; exact c6)]
        rw [if_neg (show ¬ p2 < 1 by rw [ltL (k := 1) (n := 1) rfl]; exact c6), if_pos (show (1099511627776 : Int64) < p2 by rw [gtL (k := 1099511627776) (n := 1099511627776) rfl]; omega)]
    · show (11, (w_i (w_i S 215 0 0) 215 0 1).1 215 0) ∈ _
      rw [w_ir, if_pos ⟨rfl, rfl⟩]
      exact List.mem_cons_self
end JV_9
