section JW_1
variable {S T U C C' M Y D : jS} {A A' : Nat → Nat → Int} {b j i k n x y c f g : Nat} {RB : jS → Prop}
theorem ok_makeCron {m : Nat} (hK : rK RB) (hm : m < 512) : Oq_makeCron (RJ RB m) (RJ RB (m + 1)) := by
  intro p0 p1 p2 p3 p4 p5 p6 S h
  have h' := h
  obtain ⟨hb, A, ha, hma, hI⟩ := h
  obtain ⟨hz, hc, hh⟩ := hK.1 _ hb
  have I3 := hI.2.2.1
  have g8 := cg0 ha.1
  have w1 : S.2.1 215 41 = S.2.1 24 8 := eqL.mpr (by rw [g8, mg0 hma])
  have g5 := cg5 ha.1
  have b0 : ∀ Y : jS, F_M_badFire p0 p1 p2 0 Y = some (if 0 ≤ p0.toInt ∧ p0.toInt ≤ 15 ∧ 0 ≤ p1.toInt ∧ p1.toInt ≤ 7 ∧ -1 ≤ p2.toInt ∧ p2.toInt ≤ 3 then 0 else 1) := by
    intro Y
    rw [fbf]
    by_cases q : 0 ≤ p0.toInt ∧ p0.toInt ≤ 15 ∧ 0 ≤ p1.toInt ∧ p1.toInt ≤ 7 ∧ -1 ≤ p2.toInt ∧ p2.toInt ≤ 3
    · rw [if_pos q, if_pos ⟨q.1, q.2.1, q.2.2.1, q.2.2.2.1, q.2.2.2.2.1, q.2.2.2.2.2, by decide, by decide⟩]
    · rw [if_neg q, if_neg (fun w => q ⟨w.1, w.2.1, w.2.2.1, w.2.2.2.1, w.2.2.2.2.1, w.2.2.2.2.2.1⟩)]
  by_cases K1 : 0 ≤ p0.toInt ∧ p0.toInt ≤ 15 ∧ 0 ≤ p1.toInt ∧ p1.toInt ≤ 7 ∧ -1 ≤ p2.toInt ∧ p2.toInt ≤ 3
  · have K1' := K1
    obtain ⟨a1, a2, a3, a4, a5, a6⟩ := K1'
    by_cases K2 : 0 ≤ p3.toInt ∧ p3.toInt ≤ 1099511627776 ∧ 0 ≤ p5.toInt ∧ p5.toInt ≤ 2 ∧ 0 ≤ p6.toInt
    · obtain ⟨b1, b2, b3, b4, b5⟩ := K2
      have M2 : ∀ Y : jS, (w_i Y 215 0 0).2.1 215 41 = S.2.1 24 8 → F_M_makeCron p0 p1 p2 p3 p4 p5 p6 Y = if (w_i Y 215 0 0).1 215 45 = 0 then ((F_M_nextFire p0 p1 p2 (S.2.1 24 8) (w_i Y 215 0 0)).bind (fun z11 => if ((0 : Int64)) ≤ z11.1 then ((F_M_enter 3 z11.1 0 p3 p4 p5 p6 z11.2).bind (fun z13 => if 0 ≤ z13.1 then (j_q (j_in z13.1 100) (j_l (w_i z13.2 447 ((z13.1 : Int32).toNatClampNeg) p0) (fun S16 => j_q (j_in z13.1 100) (j_l (w_i S16 448 ((z13.1 : Int32).toNatClampNeg) p1) (fun S18 => j_q (j_in z13.1 100) (j_l (w_i S18 449 ((z13.1 : Int32).toNatClampNeg) p2) (fun S20 => some (z13.1, S20)))))))) else ((F_M_fail 4 z13.2).bind (fun z21 => some (z21.1, z21.2))))) else ((F_M_fail 3 z11.2).bind (fun z22 => some (z22.1, z22.2))))) else ((F_M_fail 2 (w_i Y 215 0 0)).bind (fun z23 => some (z23.1, z23.2))) := by
        intro Y hY
        unfold F_M_makeCron
        rw [jl_, b0, if_pos K1, ob_, if_pos rfl, hY, if_neg (show ¬ p3 < 0 by rw [ltL (k := 0) (n := 0) rfl]; omega), if_neg (show ¬ (1099511627776 : Int64) < p3 by rw [gtL (k := 1099511627776) (n := 1099511627776) rfl]; omega), if_neg (show ¬ p5 < 0 by rw [ltI (k := 0) (n := 0) rfl]; omega), if_neg (show ¬ 2 < p5 by rw [gtI (k := 2) (n := 2) rfl]; omega), if_pos (show 0 ≤ p6 by rw [geI (k := 0) (n := 0) rfl]; omega)]
      by_cases op : A 100 5 = 0
      · have zl : p1.toInt.toNat < 8 := by omega
        obtain ⟨D, a, hd, q1, q2, q3, q4, q5, q6, -⟩ := ag_ (p0 := p0) (p1 := p1) (p2 := p2) (k := p0.toInt.toNat) (z := p1.toInt.toNat) hz hc hh (by omega) (by omega) (by omega) zl (by omega) (by omega)
        obtain ⟨Z1, -⟩ := hz.2.1 _ zl
        obtain ⟨r, s, u, o, r1, r2, r3⟩ := fF_first (p := S.2.1 24 8) q5 (by omega) (by omega)
        have rb := rF_b (by omega) r2
        have fZ := fc_w (s := s) (u := u) (o := o) Z1 q3 q4 q2.2.2
        have kZ := cA_w (s := s) (u := u) (o := o) Z1 q3 q4 ha
        have zZ := sv_rZ (fc_v fZ) (zca_w hz zl q3 q4 q2 r3) hz
        have bz := jz_b Z1
        have z8 : ∀ i, (zw D (S.2.2 27 p1.toInt.toNat) s u o).2.1 24 i = S.2.1 24 i := fun i => by rw [zw_2 (by omega), q4]
        generalize hZ : zw D (S.2.2 27 p1.toInt.toNat) s u o = Z at *
        have J2 : F_J_makeCron p0 p1 p2 p3 p4 p5 p6 S = if ((0 : Int64)) ≤ r then (j_x (F_J_freeSlot Z) (fun c S => (.inr c, S)) (fun z8 S7 => j_q (j_in z8 100) (j_l (115 + ((z8 : Int32).toNatClampNeg) : Nat) (fun b10 => (F_J_fill b10 p3 p4 p5 p6 S7).bind (fun z11 => j_l (w_i z11 b10 1 3) (fun S12 => j_l (w_i S12 b10 11 p0) (fun S13 => j_l (w_i S13 b10 12 p1) (fun S14 => j_l (w_i S14 b10 13 p2) (fun S15 => j_l (w_l S15 b10 4 r) (fun S16 => some (.inl z8, S16))))))))))) else (some (.inr 12, Z)) := by
          unfold F_J_makeCron F_J_checkOpen
          rw [fcs0 a1 a2 a3 a4 a5 a6, jxv_0, fcr0 b1 b2 b3 b4 b5, jxv_0, if_pos (eqI.mpr (by rw [g5, op]; rfl)), jxv_0, q1, ob_, q4, r1, ob_]
        have sY : ∀ Y, fc S Y → sv S (w_i Y 215 0 0) := fun Y hY => sv_t (fc_v hY) (jf_v jf_0)
        have cY : ∀ Y, fc S Y → (w_i Y 215 0 0).2.1 215 41 = S.2.1 24 8 := fun Y hY => by rw [w_i2, hY.2.1 215 41 (by unfold jr; omega) (fun w => by have := jz_b w.1; omega), w1]
        have mY : ∀ Y, fc S Y → mA (w_i Y 215 0 0) A := fun Y hY => mA_0 (fc_m hY hma)
        have oY : ∀ Y, fc S Y → (w_i Y 215 0 0).1 215 45 = 0 := fun Y hY => eqI.mpr (by rw [mg5 (mY Y hY), op]; rfl)
        by_cases rp : 0 ≤ r.toInt
        · have rp' : (0 : Int64) ≤ r := by rw [geL (k := 0) (n := 0) rfl]; exact rp
          rcases lJ_fs kZ.1 ju_ 0 0 rfl (by omega) (by show _ < 1000000; omega) (fun i hi => by omega) with ⟨x, j, s1, s2, s3⟩ | ⟨s1, s2⟩
          · have hj := s3.1
            obtain ⟨C1, c1, c2, c3, c4, c5, c6, c7, c8⟩ := fJ_fill (q6 := p3) (q8 := p4) (q9 := p5) (q10 := p6) kZ hI (by omega) s3
            have J3 : F_J_makeCron p0 p1 p2 p3 p4 p5 p6 S = some (.inl x, w_l (w_i (w_i (w_i (w_i C1 (115 + j) 1 3) (115 + j) 11 p0) (115 + j) 12 p1) (115 + j) 13 p2) (115 + j) 4 r) := by
              rw [J2, if_pos rp', show F_J_freeSlot Z = some (.inl x, Z) from s1, jx_0, j_qN s2 hj, clN s2, jl_, c1, ob_, jl_, jl_, jl_, jl_, jl_]
            have fA : f0 Z (w_l (w_i (w_i (w_i (w_i C1 (115 + j) 1 3) (115 + j) 11 p0) (115 + j) 12 p1) (115 + j) 13 p2) (115 + j) 4 r) := by
              refine f0_l (f0_i (f0_i (f0_i (f0_i c3 ?_) ?_) ?_) ?_) ?_ <;> (unfold jr; omega)
            generalize hC' : w_l (w_i (w_i (w_i (w_i C1 (115 + j) 1 3) (115 + j) 11 p0) (115 + j) 12 p1) (115 + j) 13 p2) (115 + j) 4 r = C' at J3 fA
            have fS : fc S C' := fc_t fZ (f0_c fA)
            have kC : cA C' (aMk A j (mkF 3 (A 100 4) r.toInt 0 p3.toInt p4.toInt p5.toInt p6.toInt p0.toInt p1.toInt p2.toInt)) := by
              refine ⟨?_, ?_, ?_⟩
              · rw [← hC']
                refine bB_c ?_ (mk_d hj rfl)
                exact ca_6 (ca_l (ca_i (ca_i (ca_i (ca_i c2 (pc1 hj) rfl) (pc11 hj) rfl) (pc12 hj) rfl) (pc13 hj) rfl) (pc4 hj) rfl) hj
              · intro j' hj' q
                rw [← hC']
                by_cases e : j' = j
                · subst e
                  exact absurd (aMk_j (A := A) (j := j') (k := 1) (by omega) (by omega)) q
                · rw [aMk_n e hj'] at q ⊢
                  rw [w_lr, if_neg (by omega), w_i2, w_i2, w_i2, w_i2, c8, w_lr, if_neg (by omega)]
                  exact kZ.2.1 j' hj' q
              · refine cS_n kZ.2.2 (fun i hi => (hI.1 i hi).1) s3 (fun i => ?_) ?_ ?_ ?_ (fun j' hj' hn => aMk_n hn hj') (by rw [aMk_j (by omega) (by omega)]; rfl)
                · rw [← hC', w_l1, w_ir, if_neg (by omega), w_ir, if_neg (by omega), w_ir, if_neg (by omega), w_ir, if_neg (by omega), c4]
                · rw [← hC', w_l1, w_ir, if_neg (by omega), w_ir, if_neg (by omega), w_ir, if_neg (by omega), w_ir, if_neg (by omega), c5]
                · rw [← hC', w_l1, w_ir, if_neg (by omega), w_ir, if_neg (by omega), w_ir, if_neg (by omega), w_ir, if_neg (by omega), c6]
                · rw [← hC', w_l1, w_ir, if_neg (by omega), w_ir, if_neg (by omega), w_ir, if_neg (by omega), w_ir, if_neg (by omega), c7]
            obtain ⟨yy, mm, dd, e1⟩ := q6 _ r (by omega) (by omega) r2 _ (sY C' fS)
            have hY := dS_bB (yy := yy) (m := mm) (d := dd) (mY C' fS)
            rcases lM_en hY (q1 := 3) (q2 := r) (q4 := 0) (q6 := p3) (q8 := p4) (q9 := p5) (q10 := p6) ju_ 0 0 rfl (by omega) (by show _ < 1000000; omega) (fun i hi => by omega) with ⟨x', j', t1, t2, t3⟩ | ⟨-, t2⟩
            · have ej := fs_u s3 t3
              subst ej
              have exx : x' = x := eqI.mpr (by rw [t2, s2])
              subst exx
              have I7 := hI.2.2.2.2.2.2
              obtain ⟨M', d1, d2, d3⟩ := fM_en hY (by omega) (q1 := 3) (q2 := r) (q4 := 0) (q6 := p3) (q8 := p4) (q9 := p5) (q10 := p6) s2 hj
              have d2' : mA (w_i (w_i (w_i M' 447 j p0) 448 j p1) 449 j p2) (aMk A j (mkF 3 (A 100 4) r.toInt 0 p3.toInt p4.toInt p5.toInt p6.toInt p0.toInt p1.toInt p2.toInt)) := by
                refine bB_c ?_ (mk_k hj)
                exact ma_i (ma_i (ma_i d2 (pm11 hj) rfl) (pm12 hj) rfl) (pm13 hj) rfl
              have f3 : fm (w_i C' 215 0 0) (w_i (w_i (w_i M' 447 j p0) 448 j p1) 449 j p2) := fm_t (fm_d fm_r) (fm_i (fm_i (fm_i d3 (by omega)) (by omega)) (by omega))
              refine ⟨(.inl x', C'), x', _, J3, ?_, ⟨hK.2 _ _ hb (jf_t (fc_j fS) (jf_t jf_0 (fm_j f3))) (fm_z f3 (rZ_0 (f0_z fA zZ))), _, cA_m f3 (cA_0 kC), d2', iA_m (iA_mk hI s3 rfl ⟨by show (0 : Int) ≤ 3; omega, by show (3 : Int) ≤ 3; omega⟩ rfl rfl ⟨rp, by show r.toInt ≤ _; omega⟩ (fun w => ?_) ⟨b1, b2⟩ ⟨b3, b4⟩ b5 (fun w => ⟨a1, a2, a3, a4, a5, a6⟩)) (by omega)⟩, ?_, rfl⟩
              · show F_M_makeCron p0 p1 p2 p3 p4 p5 p6 C' = _
                rw [M2 C' (cY C' fS), if_pos (oY C' fS), e1, ob_]
                rw [if_pos (show (0 : Int64) ≤ r from rp')]
                unfold F_M_enter
                rw [t1, d1, ob_]
                rw [if_pos (show (0 : Int32) ≤ x' by rw [geI (k := 0) (n := 0) rfl]; omega)]
                simp only [j_qN s2 hj, clN s2, jl_]
              · have : (3 : Int) = 1 ∨ (3 : Int) = 2 := w
                omega
              · rw [f3.1 215 0 (by omega) (by omega), w_ir, if_pos ⟨rfl, rfl⟩]
            · exact absurd s3.2.1 (t2 j hj)
          · obtain ⟨yy, mm, dd, e1⟩ := q6 _ r (by omega) (by omega) r2 _ (sY Z fZ)
            have hY := dS_bB (yy := yy) (m := mm) (d := dd) (mY Z fZ)
            have f3 : fm (w_i Z 215 0 0) (dt_S (w_i Z 215 0 0) yy mm dd) := fm_d fm_r
            refine ⟨(.inr 10, Z), 0, w_i (dt_S (w_i Z 215 0 0) yy mm dd) 215 0 4, ?_, ?_, ⟨hK.2 _ _ hb (jf_t (fc_j fZ) (jf_t jf_0 (jf_t (fm_j f3) jf_0))) (rZ_0 (fm_z f3 (rZ_0 zZ))), A, cA_0 (cA_m f3 (cA_0 kZ)), mA_0 hY, iA_m hI (by omega)⟩, ?_⟩
            · rw [J2, if_pos rp', show F_J_freeSlot Z = some (.inr 10, Z) from s1, jx_1]
            · show F_M_makeCron p0 p1 p2 p3 p4 p5 p6 Z = _
              rw [M2 Z (cY Z fZ), if_pos (oY Z fZ), e1, ob_]
              rw [if_pos (show (0 : Int64) ≤ r from rp')]
              rcases lM_en hY (q1 := 3) (q2 := r) (q4 := 0) (q6 := p3) (q8 := p4) (q9 := p5) (q10 := p6) ju_ 0 0 rfl (by omega) (by show _ < 1000000; omega) (fun i hi => by omega) with ⟨x', j', t1, t2, t3⟩ | ⟨t1, -⟩
              · exact absurd t3.2.1 (s2 j' t3.1)
              · unfold F_M_enter
                rw [t1, ob_, if_neg (show ¬ (0 : Int32) ≤ -1 by decide)]
                rfl
            · show (10, (w_i (dt_S (w_i Z 215 0 0) yy mm dd) 215 0 4).1 215 0) ∈ _
              rw [w_ir, if_pos ⟨rfl, rfl⟩]
              exact List.mem_cons_of_mem _ (List.mem_cons_of_mem _ (List.mem_cons_of_mem _ List.mem_cons_self))
        · have rn : ¬ (0 : Int64) ≤ r := by rw [geL (k := 0) (n := 0) rfl]; exact rp
          obtain ⟨yy, mm, dd, e1⟩ := q6 _ r (by omega) (by omega) r2 _ (sY Z fZ)
          have hY := dS_bB (yy := yy) (m := mm) (d := dd) (mY Z fZ)
          have f3 : fm (w_i Z 215 0 0) (dt_S (w_i Z 215 0 0) yy mm dd) := fm_d fm_r
          refine ⟨(.inr 12, Z), 0, w_i (dt_S (w_i Z 215 0 0) yy mm dd) 215 0 3, ?_, ?_, ⟨hK.2 _ _ hb (jf_t (fc_j fZ) (jf_t jf_0 (jf_t (fm_j f3) jf_0))) (rZ_0 (fm_z f3 (rZ_0 zZ))), A, cA_0 (cA_m f3 (cA_0 kZ)), mA_0 hY, iA_m hI (by omega)⟩, ?_⟩
          · rw [J2, if_neg rn]
          · show F_M_makeCron p0 p1 p2 p3 p4 p5 p6 Z = _
            rw [M2 Z (cY Z fZ), if_pos (oY Z fZ), e1, ob_]
            rw [if_neg (show ¬ (0 : Int64) ≤ r from rn)]
            rfl
          · show (12, (w_i (dt_S (w_i Z 215 0 0) yy mm dd) 215 0 3).1 215 0) ∈ _
            rw [w_ir, if_pos ⟨rfl, rfl⟩]
            exact List.mem_cons_of_mem _ (List.mem_cons_of_mem _ List.mem_cons_self)
      · refine ⟨(.inr 13, S), 0, w_i (w_i S 215 0 0) 215 0 2, ?_, ?_, RJ_m (RJ_0 hK (RJ_0 hK h')), ?_⟩
        · unfold F_J_makeCron F_J_checkOpen
          rw [fcs0 a1 a2 a3 a4 a5 a6, jxv_0, fcr0 b1 b2 b3 b4 b5, jxv_0, if_neg (fun w => op (by have := eqI.mp w; rw [g5] at this; exact this)), jxv_1]
        · show F_M_makeCron p0 p1 p2 p3 p4 p5 p6 S = _
          rw [M2 S (by rw [w_i2, w1]), if_neg (fun w => op (by have := eqI.mp w; rw [mg5 (mA_0 hma)] at this; exact this)), fail1, ob_]
        · show (13, (w_i (w_i S 215 0 0) 215 0 2).1 215 0) ∈ _
          rw [w_ir, if_pos ⟨rfl, rfl⟩]
          exact List.mem_cons_of_mem _ List.mem_cons_self
    · refine ⟨(.inr 11, S), 0, w_i (w_i S 215 0 0) 215 0 1, ?_, ?_, RJ_m (RJ_0 hK (RJ_0 hK h')), ?_⟩
      · unfold F_J_makeCron
        rw [fcs0 a1 a2 a3 a4 a5 a6, jxv_0, fcr1 K2, jxv_1]
      · show F_M_makeCron p0 p1 p2 p3 p4 p5 p6 S = _
        have e : J_M_makeCron_48 (w_i S 215 0 0) = some (0, w_i (w_i S 215 0 0) 215 0 1) := rfl
        unfold F_M_makeCron
        rw [jl_, b0, if_pos K1, ob_, if_pos rfl, e]
        by_cases c1 : p3.toInt < 0
        · rw [if_pos (show p3 < 0 by rw [ltL (k := 0) (n := 0) rfl]; exact c1)]
        rw [if_neg (show ¬ p3 < 0 by rw [ltL (k := 0) (n := 0) rfl]; exact c1)]
        by_cases c2 : 1099511627776 < p3.toInt
        · rw [if_pos (show (1099511627776 : Int64) < p3 by rw [gtL (k := 1099511627776) (n := 1099511627776) rfl]; exact c2)]
        rw [if_neg (show ¬ (1099511627776 : Int64) < p3 by rw [gtL (k := 1099511627776) (n := 1099511627776) rfl]; exact c2)]
        by_cases c3 : p5.toInt < 0
        · rw [if_pos (show p5 < 0 by rw [ltI (k := 0) (n := 0) rfl]; exact c3)]
        rw [if_neg (show ¬ p5 < 0 by rw [ltI (k := 0) (n := 0) rfl]; exact c3)]
        by_cases c4 : 2 < p5.toInt
        · rw [if_pos (show 2 < p5 by rw [gtI (k := 2) (n := 2) rfl]; exact c4)]
        rw [if_neg (show ¬ 2 < p5 by rw [gtI (k := 2) (n := 2) rfl]; exact c4), if_neg (show ¬ 0 ≤ p6 by rw [geI (k := 0) (n := 0) rfl]; omega)]
      · show (11, (w_i (w_i S 215 0 0) 215 0 1).1 215 0) ∈ _
        rw [w_ir, if_pos ⟨rfl, rfl⟩]
        exact List.mem_cons_self
  · refine ⟨(.inr 11, S), 0, w_i (w_i S 215 0 0) 215 0 1, ?_, ?_, RJ_m (RJ_0 hK (RJ_0 hK h')), ?_⟩
    · unfold F_J_makeCron
      rw [fcs1 K1, jxv_1]
    · show F_M_makeCron p0 p1 p2 p3 p4 p5 p6 S = _
      unfold F_M_makeCron
      rw [jl_, b0, if_neg K1, ob_, if_neg (by decide)]
      rfl
    · show (11, (w_i (w_i S 215 0 0) 215 0 1).1 215 0) ∈ _
      rw [w_ir, if_pos ⟨rfl, rfl⟩]
      exact List.mem_cons_self
end JW_1
