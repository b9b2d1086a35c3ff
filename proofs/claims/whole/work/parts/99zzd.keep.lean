section KB_1
variable {S T U C C' M M' : jS} {A : Nat → Nat → Int} {a h c k z n y m : Nat}
theorem rZ_v (hz : rZ S) (e1 : ∀ b j, (35 ≤ b ∧ b ≤ 74) ∨ (217 ≤ b ∧ b ≤ 237) → T.1 b j = S.1 b j) (e2 : ∀ b j, (35 ≤ b ∧ b ≤ 74) ∨ (217 ≤ b ∧ b ≤ 237) → T.2.1 b j = S.2.1 b j) (e3 : T.2.2 = S.2.2) : rZ T := by
  obtain ⟨Z0, Z1, Z2⟩ := hz
  unfold rZ
  rw [e3]
  refine ⟨Z0, fun y hy => ?_, Z2⟩
  obtain ⟨P1, P2, P3, P4, P5, P6⟩ := Z1 y hy
  have bp := jz_b P1
  have V : vz (S.2.2 27 y) y S T := ⟨fun b j q1 q2 => e1 b j (by omega), fun j => e2 _ _ (by omega), e1 217 y (by omega), e1 218 y (by omega), e1 237 y (by omega), funext fun j => e2 _ _ (by omega), funext fun j => e1 (229 + y) j (by omega)⟩
  refine ⟨P1, P2, by rw [vz_zok V]; exact P3, by rw [vz_zca V]; exact P4, by rw [vz_zR V]; exact P5, fun j => ?_⟩
  rw [e1 (229 + y) j (by omega)]
  exact P6 j
/-- the relation is kept where the jobs are left alone -/
theorem RJ_k (h : RJ RB m S) (hb : RB T) (e1 : ∀ b j, jr b → T.1 b j = S.1 b j) (e2 : ∀ b j, jr b → T.2.1 b j = S.2.1 b j) (e3 : ∀ b j, ((436 ≤ b ∧ b ≤ 452) ∨ (b = 215 ∧ 41 ≤ j)) → T.1 b j = S.1 b j) (e4 : ∀ b j, (436 ≤ b ∨ b = 215) → T.2.1 b j = S.2.1 b j) : RJ RB m T := by
  obtain ⟨-, A, h2, h3, h4⟩ := h
  exact ⟨hb, A, cA_k e1 e2 h2, mA_h h3 e3 e4, h4⟩
theorem sw_j (h : sw S T) : jf S T := ⟨fun b j _ _ q r => h.1 b j (by omega) r, fun b j _ _ _ r => h.2.1 b j r, h.2.2⟩
theorem RJ_S : rS (RJ RB m) := by
  refine ⟨fun S h => rK_RB.1 _ h.1, fun S T h hs hq => ?_⟩
  have hb := h.1
  refine RJ_k h (rK_RB.2 _ _ hb (sw_j hs) (sw_rZ hs hq hb.2.2.1)) (fun b j w => ?_) (fun b j w => ?_) (fun b j w => ?_) (fun b j w => ?_)
  · exact hs.1 b j (by unfold jr at w; omega) (fun q => by have := jz_b q.1; unfold jr at w; omega)
  · exact hs.2.1 b j (fun q => by have := jz_b q.1; unfold jr at w; omega)
  · exact hs.1 b j (by omega) (fun q => by have := jz_b q.1; omega)
  · exact hs.2.1 b j (fun q => by have := jz_b q.1; omega)
theorem RJ_P : rP (RJ RB m) := by
  refine ⟨fun S h => h.1.2.2.2.2, fun S T h hs hr => ?_⟩
  obtain ⟨⟨⟨t1, t2, t3, t4⟩, t5⟩, t6, hz, hc, -⟩ := h.1
  have g : ∀ b j, ¬ (b = 215 ∧ j = 0) → ¬ (107 ≤ b ∧ b < 115) → ¬ (431 ≤ b ∧ b ≤ 435) → T.1 b j = S.1 b j := hs.1
  have vc : vC S T := ⟨fun b j w => g b j (by omega) (by omega) (by omega), fun b j _ => by rw [hs.2], by rw [hs.2], fun k => by rw [hs.2]⟩
  have e25 : ∀ j, T.1 25 j = S.1 25 j := fun j => g 25 j (by omega) (by omega) (by omega)
  have e26 : ∀ j, T.1 26 j = S.1 26 j := fun j => g 26 j (by omega) (by omega) (by omega)
  have e216 : ∀ j, T.1 216 j = S.1 216 j := fun j => g 216 j (by omega) (by omega) (by omega)
  have e2 : T.1 215 2 = S.1 215 2 := g 215 2 (by omega) (by omega) (by omega)
  have e3 : T.1 215 3 = S.1 215 3 := g 215 3 (by omega) (by omega) (by omega)
  refine RJ_k h ⟨⟨?_, ?_⟩, by rw [e3, e25]; exact t6, rZ_v hz (fun b j w => g b j (by omega) (by omega) (by omega)) (fun b j _ => by rw [hs.2]) (by rw [hs.2]), vC_rC vc hc, hr⟩ (fun b j w => ?_) (fun b j w => by rw [hs.2]) (fun b j w => ?_) (fun b j w => by rw [hs.2])
  · unfold rT
    simp only [e25, e26, e216, e2]
    exact ⟨t1, t2, t3, t4⟩
  · simp only [e25, e26]
    exact t5
  · unfold jr at w; exact g b j (by omega) (by omega) (by omega)
  · exact g b j (by omega) (by omega) (by omega)
theorem RJ_W : rW2 (RJ RB m) := by
  refine ⟨fun S h => h.1.1, fun S T h hs hr => ?_⟩
  obtain ⟨-, t6, hz, hc, hh⟩ := h.1
  have g : ∀ b j, ¬ (b = 25 ∧ j = 1) → b ≠ 26 → ¬ (b = 215 ∧ (j = 0 ∨ j = 2)) → b ≠ 216 → T.1 b j = S.1 b j := hs.1
  have vc : vC S T := ⟨fun b j w => g b j (by omega) (by omega) (by omega) (by omega), fun b j _ => by rw [hs.2], by rw [hs.2], fun k => by rw [hs.2]⟩
  have vh : vH S T := fun b j w => g b j (by omega) (by omega) (by omega) (by omega)
  refine RJ_k h ⟨hr, by rw [g 215 3 (by omega) (by omega) (by omega) (by omega), g 25 3 (by omega) (by omega) (by omega) (by omega)]; exact t6, rZ_v hz (fun b j w => g b j (by omega) (by omega) (by omega) (by omega)) (fun b j _ => by rw [hs.2]) (by rw [hs.2]), vC_rC vc hc, vH_rH vh hh⟩ (fun b j w => ?_) (fun b j w => by rw [hs.2]) (fun b j w => ?_) (fun b j w => by rw [hs.2])
  · unfold jr at w; exact g b j (by omega) (by omega) (by omega) (by omega)
  · exact g b j (by omega) (by omega) (by omega) (by omega)
theorem RJ_w0 : ∀ S v, RJ RB m S → RJ RB m (w_i S 215 0 v) := fun S v h => RJ_0 rK_RB h
theorem RJ_lg (h : RJ RB m S) : rLg S := by
  obtain ⟨-, A, h2, h3, h4⟩ := h
  have I5 := h4.2.2.2.2.1
  refine ⟨by rw [cg2 h2.1]; omega, by rw [cg2 h2.1]; omega, eqI.mpr (by rw [cg2 h2.1, mg2 h3]), fun j hj => ?_⟩
  rw [cg2 h2.1] at hj
  have hj5 : j < 500 := by omega
  exact ⟨eqL.mpr (by rw [h2.1.2 48 j (101 + j) 0 (by unfold alP; omega), h3.2 450 j (101 + j) 0 (by unfold blP; omega)]), eqI.mpr (by rw [h2.1.1 49 j (101 + j) 1 (by unfold aiP; omega), h3.1 451 j (101 + j) 1 (by unfold biP; omega)]), eqL.mpr (by rw [h2.1.2 50 j (101 + j) 2 (by unfold alP; omega), h3.2 452 j (101 + j) 2 (by unfold blP; omega)])⟩
theorem RJ_job (h : RJ RB m S) : ∀ j, j < 100 → rB S j := by
  obtain ⟨-, A, h2, h3, h4⟩ := h
  intro j hj
  refine ⟨eqI.mpr (by rw [ms0 h3 hj, cs0 h2.1 hj]), fun _ => ⟨eqL.mpr (by rw [ms4 h3 hj, cs4 h2.1 hj]), eqL.mpr (by rw [ms3 h3 hj, Int32.toInt_toInt64, cs3 h2.1 hj]), eqL.mpr (by rw [ms2 h3 hj, Int32.toInt_toInt64, cs2 h2.1 hj]), fun _ => eqL.mpr (by rw [ms5 h3 hj, cs5 h2.1 hj])⟩⟩
theorem RJ_q (h : RJ RB m S) : rQ S := by
  obtain ⟨hb, A, h2, h3, h4⟩ := h
  have c := h2.2.2
  refine ⟨eqL.mpr (by rw [mg0 h3, cg0 h2.1]), ?_, ?_, eqL.mpr (by rw [mg3 h3, cg3 h2.1]), hb.1.1.2.2.1, hb.2.1⟩
  · rw [c.2.1, cN_s (A := A) 100 (fun j hj => ms0 h3 hj)]; rfl
  · rw [c.2.2.1, cN_s (A := A) 100 (fun j hj => ms0 h3 hj)]; rfl
theorem iA_1 {B v : Int} (h : iA B A) (h1 : 0 ≤ v) (h2 : v ≤ 8) : iA B (up A 100 1 v) := by
  obtain ⟨I1, I2, I3, I4, I5, I6, I7⟩ := h
  have g : ∀ i, i < 100 → ∀ k, up A 100 1 v i k = A i k := fun i hi k => by rw [up_r, if_neg (by omega)]
  have gn : ∀ k, k ≠ 1 → up A 100 1 v 100 k = A 100 k := fun k hk => by rw [up_r, if_neg (by omega)]
  refine ⟨fun j hj => ?_, fun j j' hj hj' => ?_, ?_, ?_, ?_, ?_, ?_⟩
  · have := I1 j hj
    unfold jI at this ⊢
    simp only [g j hj, gn 0 (by omega), gn 4 (by omega)]
    exact this
  · simp only [g j hj, g j' hj']
    exact I2 j j' hj hj'
  · rw [gn 0 (by omega)]; exact I3
  · rw [up_r, if_pos ⟨rfl, rfl⟩]; omega
  · rw [gn 2 (by omega)]; exact I5
  · rw [gn 3 (by omega)]; exact I6
  · rw [gn 4 (by omega)]; exact I7
theorem RJ_wk (h : RJ RB m S) {p : Int32} (p1 : 0 ≤ p.toInt) (p2 : p.toInt ≤ 8) : RJ RB m (w_i (w_i (w_i S 24 15 p) 215 0 0) 215 42 p) := by
  obtain ⟨hb, A, h2, h3, h4⟩ := h
  have f1 : f0 S (w_i S 24 15 p) := f0_i f0_r (by unfold jr; omega)
  have f2 : fm (w_i (w_i S 24 15 p) 215 0 0) (w_i (w_i (w_i S 24 15 p) 215 0 0) 215 42 p) := fm_i fm_r (by omega)
  have kC : cA (w_i S 24 15 p) (up A 100 1 p.toInt) := by
    refine ⟨ca_i h2.1 (by unfold aiP; omega) rfl, ?_, ?_⟩
    · exact cP_c h2.2.1 (fun j hj => rfl) (fun j hj => by simp only [up_r]; rw [if_neg (by omega), if_neg (by omega)]; exact ⟨rfl, rfl⟩)
    · have e : ∀ j, j < 100 → up A 100 1 p.toInt j 0 = A j 0 := fun j hj => by rw [up_r, if_neg (by omega)]
      refine cS_g h2.2.2 (fun i => by rw [w_ir, if_neg (by omega)]) (by rw [w_ir, if_neg (by omega)]) (by rw [w_ir, if_neg (by omega)]) ?_ (fun j hj => by rw [e j hj]) (fun j hj w => by rw [e j hj]; exact w)
      rw [w_ir, if_neg (by omega), h2.2.2.2.1, cN_e (A := A) (A' := up A 100 1 p.toInt) 100 (fun j hj => by rw [e j hj])]
  exact ⟨rK_RB.2 _ _ hb (jf_t (fc_j (f0_c f1)) (jf_t jf_0 (fm_j f2))) (fm_z f2 (rZ_0 (f0_z f1 hb.2.2.1))), up A 100 1 p.toInt, cA_m f2 (cA_0 kC), ma_i (mA_0 (fc_m (f0_c f1) h3)) (by unfold biP; omega) rfl, iA_1 h4 p1 p2⟩
theorem RJ_st (h : RJ RB m S) {p : Int64} (p1 : 0 ≤ p.toInt) (p2 : (S.2.1 24 8).toInt + p.toInt ≤ 10413791999999) : RJ RB m (w_l (w_i (w_l S 24 8 (S.2.1 24 8 + p)) 215 0 0) 215 41 (S.2.1 24 8 + p)) := by
  obtain ⟨hb, A, h2, h3, h4⟩ := h
  have I3 := h4.2.2.1
  have g8 := cg0 h2.1
  have ex : (S.2.1 24 8 + p).toInt = A 100 0 + p.toInt := adL g8 rfl (by omega) (by omega)
  have f1 : f0 S (w_l S 24 8 (S.2.1 24 8 + p)) := f0_l f0_r (by unfold jr; omega)
  have f2 : fm (w_i (w_l S 24 8 (S.2.1 24 8 + p)) 215 0 0) (w_l (w_i (w_l S 24 8 (S.2.1 24 8 + p)) 215 0 0) 215 41 (S.2.1 24 8 + p)) := fm_l fm_r (by omega)
  exact ⟨rK_RB.2 _ _ hb (jf_t (fc_j (f0_c f1)) (jf_t jf_0 (fm_j f2))) (fm_z f2 (rZ_0 (f0_z f1 hb.2.2.1))), up A 100 0 (A 100 0 + p.toInt), cA_m f2 (cA_0 (cA_clk h2 ex)), ma_l (mA_0 (fc_m (f0_c f1) h3)) (by unfold blP; omega) ex, iA_clk h4 (by omega) (by omega)⟩
/-- all that is wanting is the beginning -/
theorem RJ_goal {L : Nat} {xs : Nat → Int32} (hL : L ≤ 5632) (S0 : jS) (hr : RJ RB 0 S0) (hb : ∀ N, jx_fq (jx_C (200, jx_vi L xs)) ja_h6 N → mm 0 S0 N ∧ N[0]? = some (200, jx_vi L xs) ∧ N[453]? = some (jl_out 0)) : jx_goal L xs := by
  refine gl_goal (RR := RJ RB) (fun m _ S h => RJ_m h) (fun m _ => Om_feed (ok_feed2 RJ_W) (fun S h => RJ_m h)) (fun m _ => Om_end (ok_end2 RJ_W) (fun S h => RJ_m h)) (fun m _ => Om_zone ok_zone (fun S h => RJ_m h)) (fun m _ => Om_cron ok_cron (fun S h => RJ_m h)) (fun m _ => Om_holiday (ok_holiday RJ_P) (fun S h => RJ_m h)) (fun m _ => Om_next (ok_next RJ_S) (fun S h => RJ_m h)) (fun m _ => Om_last (ok_last RJ_S) (fun S h => RJ_m h)) (fun m _ => Om_local (ok_local RJ_S) (fun S h => RJ_m h)) (fun m hm => ok_make rK_RB hm) (fun m hm => ok_makeCron rK_RB hm) (fun m _ => Om_cancel (ok_cancel rK_RB) (fun S h => RJ_m h)) (fun m _ => Om_workers (ok_workers RJ_w0 (fun S h => ?_) (fun S p h a b => RJ_wk h a b)) (fun S h => RJ_m h)) (fun m hm => ok_advance rK_RB hm) (fun m _ => Om_stall (ok_stall RJ_w0 (fun S h => ?_) (fun S p h a b => RJ_st h a b)) (fun S h => RJ_m h)) (fun m _ => Om_close (ok_close rK_RB) (fun S h => RJ_m h)) (fun m _ => Om_job (ok_job RJ_w0 (fun S h => RJ_job h)) (fun S h => RJ_m h)) (fun m _ => Om_start (ok_start RJ_w0 (fun S h => RJ_lg h)) (fun S h => RJ_m h)) (fun m _ => Om_count (ok_count RJ_w0 (fun S h => RJ_q h)) (fun S h => RJ_m h)) hL S0 hr hb
  · obtain ⟨-, A, h2, h3, -⟩ := h
    exact eqI.mpr (by rw [mg1 h3, cg1 h2.1])
  · obtain ⟨-, A, h2, h3, h4⟩ := h
    have I3 := h4.2.2.1
    exact ⟨eqL.mpr (by rw [mg0 h3, cg0 h2.1]), by rw [cg0 h2.1]; omega, by rw [cg0 h2.1]; omega⟩
end KB_1
