section JF7
noncomputable def J_J_make_51 (x1 : Int32) (x2 : Int64) (x4 : Int64) (x6 : Int64) (x8 : Int32) (x9 : Int32) (x10 : Int32) (S : jS) : Option ((Int32 ⊕ Nat) × jS) := j_xv (F_J_checkRun x6 x9 x10 S) (fun c S => (.inr c, S)) (fun S6 => j_xv (F_J_checkOpen S6) (fun c S => (.inr c, S)) (fun S7 => j_x (F_J_freeSlot S7) (fun c S => (.inr c, S)) (fun z9 S8 => j_q (j_in z9 100) (j_l (115 + ((z9 : Int32).toNatClampNeg) : Nat) (fun b11 => (F_J_fill b11 x6 x8 x9 x10 S8).bind (fun z12 => j_l (w_i z12 b11 1 x1) (fun S13 => j_l (w_l S13 b11 6 x4) (fun S14 => j_l (w_l S14 b11 4 ((S14.2.1 24 8) + x2)) (fun S15 => some (.inl z9, S15))))))))))
set_option maxRecDepth 20000 in
theorem kJ_J_make_51 {q rF rL : Nat} (hF : 8 ≤ rF) (hL : 129 ≤ rL)   (x1 : Int32) (x2 : Int64) (x4 : Int64) (x6 : Int64) (x8 : Int32) (x9 : Int32) (x10 : Int32) (S : jS) : jg q jp_J_make rF rL 51 [(0, .ref 24), (1, .int x1), (2, .long x2), (4, .long x4), (6, .long x6), (8, .int x8), (9, .int x9), (10, .int x10)] [] S 0 x_I (J_J_make_51 x1 x2 x4 x6 x8 x9 x10 S) := by
  unfold J_J_make_51
  refine jg_sg 3 (pc1 := 57) (lv1 := [(0, .ref 24), (1, .int x1), (2, .long x2), (4, .long x4), (6, .long x6), (8, .int x8), (9, .int x9), (10, .int x10)]) (st1 := [.int x10, .int x9, .long x6]) (fun _ _ _ => rfl) ?_
  refine jg_cxV (m2 := jp_J_checkRun) (As := [.long x6, .int x9, .int x10]) (r := []) (mx := 4) (jh_s rfl (fun _ _ _ => rfl) rfl rfl rfl (by omega) (by omega) (Nat.le_of_ble_eq_true rfl)) rfl (fun _ _ => rfl) (kF_J_checkRun x6 x9 x10 S _ _ (by omega) (by omega) ) (fun S6 => ?_)
  refine jg_sg 1 (pc1 := 61) (lv1 := [(0, .ref 24), (1, .int x1), (2, .long x2), (4, .long x4), (6, .long x6), (8, .int x8), (9, .int x9), (10, .int x10)]) (st1 := [.ref 24]) (fun _ _ _ => rfl) ?_
  refine jg_cxV (m2 := jp_J_checkOpen) (As := [.ref 24]) (r := []) (mx := 1) (jh_v (a := 24) rfl rfl rfl kc_24 rfl (Nat.le_of_ble_eq_true rfl) rfl rfl rfl (by omega) (by omega) (Nat.le_of_ble_eq_true rfl)) rfl (fun _ _ => rfl) (kF_J_checkOpen S6 _ _ (by omega) (by omega) ) (fun S7 => ?_)
  refine jg_sg 1 (pc1 := 65) (lv1 := [(0, .ref 24), (1, .int x1), (2, .long x2), (4, .long x4), (6, .long x6), (8, .int x8), (9, .int x9), (10, .int x10)]) (st1 := [.ref 24]) (fun _ _ _ => rfl) ?_
  refine jg_cxI (m2 := jp_J_freeSlot) (As := [.ref 24]) (r := []) (mx := 2) (jh_v (a := 24) rfl rfl rfl kc_24 rfl (Nat.le_of_ble_eq_true rfl) rfl rfl rfl (by omega) (by omega) (Nat.le_of_ble_eq_true rfl)) rfl (fun _ _ => rfl) (kF_J_freeSlot S7 _ _ (by omega) (by omega) ) (fun z9 S8 => ?_)
  refine jg_sg 2 (pc1 := 71) (lv1 := [(11, .int z9), (0, .ref 24), (1, .int x1), (2, .long x2), (4, .long x4), (6, .long x6), (8, .int x8), (9, .int x9), (10, .int x10)]) (st1 := [.ref 24]) (fun _ _ _ => rfl) ?_
  refine jg_g (v := .ref 45) rfl kc_24 rfl rfl ?_
  refine jg_sg 1 (pc1 := 76) (lv1 := [(11, .int z9), (0, .ref 24), (1, .int x1), (2, .long x2), (4, .long x4), (6, .long x6), (8, .int x8), (9, .int x9), (10, .int x10)]) (st1 := [.int z9, .ref 45]) (fun _ _ _ => rfl) ?_
  refine jg_aal (w := 115 + ((z9 : Int32).toNatClampNeg)) rfl rfl kc_45 rfl (fun g10 => ?_)
  refine jg_sg 1 (pc1 := 79) (lv1 := [(12, .ref (115 + ((z9 : Int32).toNatClampNeg))), (11, .int z9), (0, .ref 24), (1, .int x1), (2, .long x2), (4, .long x4), (6, .long x6), (8, .int x8), (9, .int x9), (10, .int x10)]) (st1 := []) (fun _ _ _ => rfl) ?_
  refine jg_va (P := fun b => jb_ b = true) ((jb_m g10)) (fun b11 hb11 => ?_)
  refine jg_sg 6 (pc1 := 90) (lv1 := [(12, .ref b11), (11, .int z9), (0, .ref 24), (1, .int x1), (2, .long x2), (4, .long x4), (6, .long x6), (8, .int x8), (9, .int x9), (10, .int x10)]) (st1 := [.int x10, .int x9, .int x8, .long x6, .ref b11, .ref 24]) (fun _ _ _ => rfl) ?_
  refine jg_csV (m2 := jp_J_fill) (As := [.ref 24, .ref b11, .long x6, .int x8, .int x9, .int x10]) (r := []) (mx := 7) (jh_v (a := 24) rfl rfl rfl kc_24 rfl (Nat.le_of_ble_eq_true rfl) rfl rfl rfl (by omega) (by omega) (Nat.le_of_ble_eq_true rfl)) (kF_J_fill b11 x6 x8 x9 x10 S8 _ _ (by omega) (by omega) hb11) (fun z12 => ?_)
  refine jg_sg 2 (pc1 := 96) (lv1 := [(12, .ref b11), (11, .int z9), (0, .ref 24), (1, .int x1), (2, .long x2), (4, .long x4), (6, .long x6), (8, .int x8), (9, .int x9), (10, .int x10)]) (st1 := [.int x1, .ref b11]) (fun _ _ _ => rfl) ?_
  refine jg_pi rfl (kc_B hb11) rfl (Nat.le_of_ble_eq_true rfl) rfl rfl (fun S13 _ => ?_)
  refine jg_sg 2 (pc1 := 103) (lv1 := [(12, .ref b11), (11, .int z9), (0, .ref 24), (1, .int x1), (2, .long x2), (4, .long x4), (6, .long x6), (8, .int x8), (9, .int x9), (10, .int x10)]) (st1 := [.long x4, .ref b11]) (fun _ _ _ => rfl) ?_
  refine jg_pl rfl (kc_B hb11) rfl (Nat.le_of_ble_eq_true rfl) rfl rfl (fun S14 _ => ?_)
  refine jg_sg 2 (pc1 := 109) (lv1 := [(12, .ref b11), (11, .int z9), (0, .ref 24), (1, .int x1), (2, .long x2), (4, .long x4), (6, .long x6), (8, .int x8), (9, .int x9), (10, .int x10)]) (st1 := [.ref 24, .ref b11]) (fun _ _ _ => rfl) ?_
  refine jg_g (v := .long (S14.2.1 24 8)) rfl kc_24 rfl rfl ?_
  refine jg_sg 2 (pc1 := 114) (lv1 := [(12, .ref b11), (11, .int z9), (0, .ref 24), (1, .int x1), (2, .long x2), (4, .long x4), (6, .long x6), (8, .int x8), (9, .int x9), (10, .int x10)]) (st1 := [.long ((S14.2.1 24 8) + x2), .ref b11]) (fun _ _ _ => rfl) ?_
  refine jg_pl rfl (kc_B hb11) rfl (Nat.le_of_ble_eq_true rfl) rfl rfl (fun S15 _ => ?_)
  refine jg_sg 1 (pc1 := 119) (lv1 := [(12, .ref b11), (11, .int z9), (0, .ref 24), (1, .int x1), (2, .long x2), (4, .long x4), (6, .long x6), (8, .int x8), (9, .int x9), (10, .int x10)]) (st1 := [.int z9]) (fun _ _ _ => rfl) ?_
  exact jg_ri rfl rfl rfl rfl
noncomputable def F_J_make (p0 : Int32) (p1 : Int64) (p2 : Int64) (p3 : Int64) (p4 : Int32) (p5 : Int32) (p6 : Int32) (S : jS) : Option ((Int32 ⊕ Nat) × jS) := j_xv (F_J_checkRange ((p0 : Int32).toInt64) 0 2 S) (fun c S => (.inr c, S)) (fun S1 => (F_Math_min2 1099511627776 (10413791999999 - (S1.2.1 24 8)) S1).bind (fun z2 => j_xv (F_J_checkRange p1 0 z2 S1) (fun c S => (.inr c, S)) (fun S3 => if p0 = 0 then (j_xv (F_J_checkRange p2 0 0 S3) (fun c S => (.inr c, S)) (fun S5 => J_J_make_51 p0 p1 p2 p3 p4 p5 p6 S5)) else (j_xv (F_J_checkRange p2 1 1099511627776 S3) (fun c S => (.inr c, S)) (fun S16 => J_J_make_51 p0 p1 p2 p3 p4 p5 p6 S16)))))
set_option maxRecDepth 20000 in
theorem kF_J_make {q : Nat} (p0 : Int32) (p1 : Int64) (p2 : Int64) (p3 : Int64) (p4 : Int32) (p5 : Int32) (p6 : Int32) (S : jS) (rF rL : Nat) (hF : 8 ≤ rF) (hL : 129 ≤ rL)  : jg q jp_J_make rF rL 0 [(0, .ref 24), (1, .int p0), (2, .long p1), (4, .long p2), (6, .long p3), (8, .int p4), (9, .int p5), (10, .int p6)] [] S 0 x_I (F_J_make p0 p1 p2 p3 p4 p5 p6 S) := by
  unfold F_J_make
  refine jg_sg 4 (pc1 := 6) (lv1 := [(0, .ref 24), (1, .int p0), (2, .long p1), (4, .long p2), (6, .long p3), (8, .int p4), (9, .int p5), (10, .int p6)]) (st1 := [.long 2, .long 0, .long ((p0 : Int32).toInt64)]) (fun _ _ _ => rfl) ?_
  refine jg_cxV (m2 := jp_J_checkRange) (As := [.long ((p0 : Int32).toInt64), .long 0, .long 2]) (r := []) (mx := 6) (jh_s rfl (fun _ _ _ => rfl) rfl rfl rfl (by omega) (by omega) (Nat.le_of_ble_eq_true rfl)) rfl (fun _ _ => rfl) (kF_J_checkRange ((p0 : Int32).toInt64) 0 2 S _ _ (by omega) (by omega) ) (fun S1 => ?_)
  refine jg_sg 5 (pc1 := 18) (lv1 := [(0, .ref 24), (1, .int p0), (2, .long p1), (4, .long p2), (6, .long p3), (8, .int p4), (9, .int p5), (10, .int p6)]) (st1 := [.ref 24, .long 10413791999999, .long 1099511627776, .long 0, .long p1]) (fun _ _ _ => rfl) ?_
  refine jg_g (v := .long (S1.2.1 24 8)) rfl kc_24 rfl rfl ?_
  refine jg_sg 1 (pc1 := 22) (lv1 := [(0, .ref 24), (1, .int p0), (2, .long p1), (4, .long p2), (6, .long p3), (8, .int p4), (9, .int p5), (10, .int p6)]) (st1 := [.long (10413791999999 - (S1.2.1 24 8)), .long 1099511627776, .long 0, .long p1]) (fun _ _ _ => rfl) ?_
  refine jg_cpL (m2 := jp_Math_min2) (As := [.long 1099511627776, .long (10413791999999 - (S1.2.1 24 8))]) (r := [.long 0, .long p1]) (mx := 4) (jh_s rfl (fun _ _ _ => rfl) rfl rfl rfl (by omega) (by omega) (Nat.le_of_ble_eq_true rfl)) (kF_Math_min2 1099511627776 (10413791999999 - (S1.2.1 24 8)) S1 _ _ (by omega) (by omega) ) (fun z2 => ?_)
  refine jg_cxV (m2 := jp_J_checkRange) (As := [.long p1, .long 0, .long z2]) (r := []) (mx := 6) (jh_s rfl (fun _ _ _ => rfl) rfl rfl rfl (by omega) (by omega) (Nat.le_of_ble_eq_true rfl)) rfl (fun _ _ => rfl) (kF_J_checkRange p1 0 z2 S1 _ _ (by omega) (by omega) ) (fun S3 => ?_)
  refine jg_sg 1 (pc1 := 29) (lv1 := [(0, .ref 24), (1, .int p0), (2, .long p1), (4, .long p2), (6, .long p3), (8, .int p4), (9, .int p5), (10, .int p6)]) (st1 := [.int p0]) (fun _ _ _ => rfl) ?_
  refine jg_br (fun _ _ _ _ k1 k2 => jt_if_ne (t := 42) rfl rfl k2 k1) (fun c4 => ?_) (fun c4 => ?_)
  · refine jg_sg 3 (pc1 := 36) (lv1 := [(0, .ref 24), (1, .int p0), (2, .long p1), (4, .long p2), (6, .long p3), (8, .int p4), (9, .int p5), (10, .int p6)]) (st1 := [.long 0, .long 0, .long p2]) (fun _ _ _ => rfl) ?_
    refine jg_cxV (m2 := jp_J_checkRange) (As := [.long p2, .long 0, .long 0]) (r := []) (mx := 6) (jh_s rfl (fun _ _ _ => rfl) rfl rfl rfl (by omega) (by omega) (Nat.le_of_ble_eq_true rfl)) rfl (fun _ _ => rfl) (kF_J_checkRange p2 0 0 S3 _ _ (by omega) (by omega) ) (fun S5 => ?_)
    refine jg_sg 1 (pc1 := 51) (lv1 := [(0, .ref 24), (1, .int p0), (2, .long p1), (4, .long p2), (6, .long p3), (8, .int p4), (9, .int p5), (10, .int p6)]) (st1 := []) (fun _ _ _ => rfl) ?_
    refine jg_lvs (lv1 := [(0, .ref 24), (1, .int p0), (2, .long p1), (4, .long p2), (6, .long p3), (8, .int p4), (9, .int p5), (10, .int p6)]) rfl rfl ⟨rfl, rfl, rfl, rfl, rfl, rfl, rfl, rfl, trivial⟩ ?_
    exact kJ_J_make_51 (by omega) (by omega) p0 p1 p2 p3 p4 p5 p6 S5
  · refine jg_sg 3 (pc1 := 48) (lv1 := [(0, .ref 24), (1, .int p0), (2, .long p1), (4, .long p2), (6, .long p3), (8, .int p4), (9, .int p5), (10, .int p6)]) (st1 := [.long 1099511627776, .long 1, .long p2]) (fun _ _ _ => rfl) ?_
    refine jg_cxV (m2 := jp_J_checkRange) (As := [.long p2, .long 1, .long 1099511627776]) (r := []) (mx := 6) (jh_s rfl (fun _ _ _ => rfl) rfl rfl rfl (by omega) (by omega) (Nat.le_of_ble_eq_true rfl)) rfl (fun _ _ => rfl) (kF_J_checkRange p2 1 1099511627776 S3 _ _ (by omega) (by omega) ) (fun S16 => ?_)
    refine jg_lvs (lv1 := [(0, .ref 24), (1, .int p0), (2, .long p1), (4, .long p2), (6, .long p3), (8, .int p4), (9, .int p5), (10, .int p6)]) rfl rfl ⟨rfl, rfl, rfl, rfl, rfl, rfl, rfl, rfl, trivial⟩ ?_
    exact kJ_J_make_51 (by omega) (by omega) p0 p1 p2 p3 p4 p5 p6 S16
noncomputable def F_J_makeCron (p0 : Int32) (p1 : Int32) (p2 : Int32) (p3 : Int64) (p4 : Int32) (p5 : Int32) (p6 : Int32) (S : jS) : Option ((Int32 ⊕ Nat) × jS) := j_xv (F_J_checkSearch p0 p1 p2 S) (fun c S => (.inr c, S)) (fun S1 => j_xv (F_J_checkRun p3 p5 p6 S1) (fun c S => (.inr c, S)) (fun S2 => j_xv (F_J_checkOpen S2) (fun c S => (.inr c, S)) (fun S3 => (F_J_aimAt p0 p1 p2 S3).bind (fun z4 => (F_F_firstAfter (z4.2.1 24 8) z4).bind (fun z5 => if ((0 : Int64)) ≤ z5.1 then (j_x (F_J_freeSlot z5.2) (fun c S => (.inr c, S)) (fun z8 S7 => j_q (j_in z8 100) (j_l (115 + ((z8 : Int32).toNatClampNeg) : Nat) (fun b10 => (F_J_fill b10 p3 p4 p5 p6 S7).bind (fun z11 => j_l (w_i z11 b10 1 3) (fun S12 => j_l (w_i S12 b10 11 p0) (fun S13 => j_l (w_i S13 b10 12 p1) (fun S14 => j_l (w_i S14 b10 13 p2) (fun S15 => j_l (w_l S15 b10 4 z5.1) (fun S16 => some (.inl z8, S16))))))))))) else (some (.inr 12, z5.2)))))))
set_option maxRecDepth 20000 in
theorem kF_J_makeCron {q : Nat} (p0 : Int32) (p1 : Int32) (p2 : Int32) (p3 : Int64) (p4 : Int32) (p5 : Int32) (p6 : Int32) (S : jS) (rF rL : Nat) (hF : 8 ≤ rF) (hL : 157 ≤ rL)  : jg q jp_J_makeCron rF rL 0 [(0, .ref 24), (1, .int p0), (2, .int p1), (3, .int p2), (4, .long p3), (6, .int p4), (7, .int p5), (8, .int p6)] [] S 0 x_I (F_J_makeCron p0 p1 p2 p3 p4 p5 p6 S) := by
  unfold F_J_makeCron
  refine jg_sg 3 (pc1 := 3) (lv1 := [(0, .ref 24), (1, .int p0), (2, .int p1), (3, .int p2), (4, .long p3), (6, .int p4), (7, .int p5), (8, .int p6)]) (st1 := [.int p2, .int p1, .int p0]) (fun _ _ _ => rfl) ?_
  refine jg_cxV (m2 := jp_J_checkSearch) (As := [.int p0, .int p1, .int p2]) (r := []) (mx := 3) (jh_s rfl (fun _ _ _ => rfl) rfl rfl rfl (by omega) (by omega) (Nat.le_of_ble_eq_true rfl)) rfl (fun _ _ => rfl) (kF_J_checkSearch p0 p1 p2 S _ _ (by omega) (by omega) ) (fun S1 => ?_)
  refine jg_sg 3 (pc1 := 12) (lv1 := [(0, .ref 24), (1, .int p0), (2, .int p1), (3, .int p2), (4, .long p3), (6, .int p4), (7, .int p5), (8, .int p6)]) (st1 := [.int p6, .int p5, .long p3]) (fun _ _ _ => rfl) ?_
  refine jg_cxV (m2 := jp_J_checkRun) (As := [.long p3, .int p5, .int p6]) (r := []) (mx := 4) (jh_s rfl (fun _ _ _ => rfl) rfl rfl rfl (by omega) (by omega) (Nat.le_of_ble_eq_true rfl)) rfl (fun _ _ => rfl) (kF_J_checkRun p3 p5 p6 S1 _ _ (by omega) (by omega) ) (fun S2 => ?_)
  refine jg_sg 1 (pc1 := 16) (lv1 := [(0, .ref 24), (1, .int p0), (2, .int p1), (3, .int p2), (4, .long p3), (6, .int p4), (7, .int p5), (8, .int p6)]) (st1 := [.ref 24]) (fun _ _ _ => rfl) ?_
  refine jg_cxV (m2 := jp_J_checkOpen) (As := [.ref 24]) (r := []) (mx := 1) (jh_v (a := 24) rfl rfl rfl kc_24 rfl (Nat.le_of_ble_eq_true rfl) rfl rfl rfl (by omega) (by omega) (Nat.le_of_ble_eq_true rfl)) rfl (fun _ _ => rfl) (kF_J_checkOpen S2 _ _ (by omega) (by omega) ) (fun S3 => ?_)
  refine jg_sg 4 (pc1 := 23) (lv1 := [(0, .ref 24), (1, .int p0), (2, .int p1), (3, .int p2), (4, .long p3), (6, .int p4), (7, .int p5), (8, .int p6)]) (st1 := [.int p2, .int p1, .int p0, .ref 24]) (fun _ _ _ => rfl) ?_
  refine jg_csV (m2 := jp_J_aimAt) (As := [.ref 24, .int p0, .int p1, .int p2]) (r := []) (mx := 4) (jh_v (a := 24) rfl rfl rfl kc_24 rfl (Nat.le_of_ble_eq_true rfl) rfl rfl rfl (by omega) (by omega) (Nat.le_of_ble_eq_true rfl)) (kF_J_aimAt p0 p1 p2 S3 _ _ (by omega) (by omega) ) (fun z4 => ?_)
  refine jg_sg 1 (pc1 := 27) (lv1 := [(0, .ref 24), (1, .int p0), (2, .int p1), (3, .int p2), (4, .long p3), (6, .int p4), (7, .int p5), (8, .int p6)]) (st1 := [.ref 24]) (fun _ _ _ => rfl) ?_
  refine jg_g (v := .ref 32) rfl kc_24 rfl rfl ?_
  refine jg_sg 1 (pc1 := 31) (lv1 := [(0, .ref 24), (1, .int p0), (2, .int p1), (3, .int p2), (4, .long p3), (6, .int p4), (7, .int p5), (8, .int p6)]) (st1 := [.ref 24, .ref 32]) (fun _ _ _ => rfl) ?_
  refine jg_g (v := .long (z4.2.1 24 8)) rfl kc_24 rfl rfl ?_
  refine jg_csL (m2 := jp_F_firstAfter) (As := [.ref 32, .long (z4.2.1 24 8)]) (r := []) (mx := 10) (jh_v (a := 32) rfl rfl rfl kc_32 rfl (Nat.le_of_ble_eq_true rfl) rfl rfl rfl (by omega) (by omega) (Nat.le_of_ble_eq_true rfl)) (kF_F_firstAfter (z4.2.1 24 8) z4 _ _ (by omega) (by omega) ) (fun z5 => ?_)
  refine jg_sg 4 (pc1 := 43) (lv1 := [(9, .long z5.1), (0, .ref 24), (1, .int p0), (2, .int p1), (3, .int p2), (4, .long p3), (6, .int p4), (7, .int p5), (8, .int p6)]) (st1 := [.int (lg_cmp z5.1 0)]) (fun _ _ _ => rfl) ?_
  refine jg_br (fun _ _ _ _ k1 k2 => jt_lif_ge (t := 54) rfl rfl k1 k2) (fun c6 => ?_) (fun c6 => ?_)
  · refine jg_sg 1 (pc1 := 55) (lv1 := [(9, .long z5.1), (0, .ref 24), (1, .int p0), (2, .int p1), (3, .int p2), (4, .long p3), (6, .int p4), (7, .int p5), (8, .int p6)]) (st1 := [.ref 24]) (fun _ _ _ => rfl) ?_
    refine jg_cxI (m2 := jp_J_freeSlot) (As := [.ref 24]) (r := []) (mx := 2) (jh_v (a := 24) rfl rfl rfl kc_24 rfl (Nat.le_of_ble_eq_true rfl) rfl rfl rfl (by omega) (by omega) (Nat.le_of_ble_eq_true rfl)) rfl (fun _ _ => rfl) (kF_J_freeSlot z5.2 _ _ (by omega) (by omega) ) (fun z8 S7 => ?_)
    refine jg_sg 2 (pc1 := 61) (lv1 := [(11, .int z8), (9, .long z5.1), (0, .ref 24), (1, .int p0), (2, .int p1), (3, .int p2), (4, .long p3), (6, .int p4), (7, .int p5), (8, .int p6)]) (st1 := [.ref 24]) (fun _ _ _ => rfl) ?_
    refine jg_g (v := .ref 45) rfl kc_24 rfl rfl ?_
    refine jg_sg 1 (pc1 := 66) (lv1 := [(11, .int z8), (9, .long z5.1), (0, .ref 24), (1, .int p0), (2, .int p1), (3, .int p2), (4, .long p3), (6, .int p4), (7, .int p5), (8, .int p6)]) (st1 := [.int z8, .ref 45]) (fun _ _ _ => rfl) ?_
    refine jg_aal (w := 115 + ((z8 : Int32).toNatClampNeg)) rfl rfl kc_45 rfl (fun g9 => ?_)
    refine jg_sg 1 (pc1 := 69) (lv1 := [(12, .ref (115 + ((z8 : Int32).toNatClampNeg))), (11, .int z8), (9, .long z5.1), (0, .ref 24), (1, .int p0), (2, .int p1), (3, .int p2), (4, .long p3), (6, .int p4), (7, .int p5), (8, .int p6)]) (st1 := []) (fun _ _ _ => rfl) ?_
    refine jg_va (P := fun b => jb_ b = true) ((jb_m g9)) (fun b10 hb10 => ?_)
    refine jg_sg 6 (pc1 := 80) (lv1 := [(12, .ref b10), (11, .int z8), (9, .long z5.1), (0, .ref 24), (1, .int p0), (2, .int p1), (3, .int p2), (4, .long p3), (6, .int p4), (7, .int p5), (8, .int p6)]) (st1 := [.int p6, .int p5, .int p4, .long p3, .ref b10, .ref 24]) (fun _ _ _ => rfl) ?_
    refine jg_csV (m2 := jp_J_fill) (As := [.ref 24, .ref b10, .long p3, .int p4, .int p5, .int p6]) (r := []) (mx := 7) (jh_v (a := 24) rfl rfl rfl kc_24 rfl (Nat.le_of_ble_eq_true rfl) rfl rfl rfl (by omega) (by omega) (Nat.le_of_ble_eq_true rfl)) (kF_J_fill b10 p3 p4 p5 p6 S7 _ _ (by omega) (by omega) hb10) (fun z11 => ?_)
    refine jg_sg 2 (pc1 := 86) (lv1 := [(12, .ref b10), (11, .int z8), (9, .long z5.1), (0, .ref 24), (1, .int p0), (2, .int p1), (3, .int p2), (4, .long p3), (6, .int p4), (7, .int p5), (8, .int p6)]) (st1 := [.int 3, .ref b10]) (fun _ _ _ => rfl) ?_
    refine jg_pi rfl (kc_B hb10) rfl (Nat.le_of_ble_eq_true rfl) rfl rfl (fun S12 _ => ?_)
    refine jg_sg 2 (pc1 := 92) (lv1 := [(12, .ref b10), (11, .int z8), (9, .long z5.1), (0, .ref 24), (1, .int p0), (2, .int p1), (3, .int p2), (4, .long p3), (6, .int p4), (7, .int p5), (8, .int p6)]) (st1 := [.int p0, .ref b10]) (fun _ _ _ => rfl) ?_
    refine jg_pi rfl (kc_B hb10) rfl (Nat.le_of_ble_eq_true rfl) rfl rfl (fun S13 _ => ?_)
    refine jg_sg 2 (pc1 := 98) (lv1 := [(12, .ref b10), (11, .int z8), (9, .long z5.1), (0, .ref 24), (1, .int p0), (2, .int p1), (3, .int p2), (4, .long p3), (6, .int p4), (7, .int p5), (8, .int p6)]) (st1 := [.int p1, .ref b10]) (fun _ _ _ => rfl) ?_
    refine jg_pi rfl (kc_B hb10) rfl (Nat.le_of_ble_eq_true rfl) rfl rfl (fun S14 _ => ?_)
    refine jg_sg 2 (pc1 := 104) (lv1 := [(12, .ref b10), (11, .int z8), (9, .long z5.1), (0, .ref 24), (1, .int p0), (2, .int p1), (3, .int p2), (4, .long p3), (6, .int p4), (7, .int p5), (8, .int p6)]) (st1 := [.int p2, .ref b10]) (fun _ _ _ => rfl) ?_
    refine jg_pi rfl (kc_B hb10) rfl (Nat.le_of_ble_eq_true rfl) rfl rfl (fun S15 _ => ?_)
    refine jg_sg 2 (pc1 := 111) (lv1 := [(12, .ref b10), (11, .int z8), (9, .long z5.1), (0, .ref 24), (1, .int p0), (2, .int p1), (3, .int p2), (4, .long p3), (6, .int p4), (7, .int p5), (8, .int p6)]) (st1 := [.long z5.1, .ref b10]) (fun _ _ _ => rfl) ?_
    refine jg_pl rfl (kc_B hb10) rfl (Nat.le_of_ble_eq_true rfl) rfl rfl (fun S16 _ => ?_)
    refine jg_sg 1 (pc1 := 116) (lv1 := [(12, .ref b10), (11, .int z8), (9, .long z5.1), (0, .ref 24), (1, .int p0), (2, .int p1), (3, .int p2), (4, .long p3), (6, .int p4), (7, .int p5), (8, .int p6)]) (st1 := [.int z8]) (fun _ _ _ => rfl) ?_
    exact jg_ri rfl rfl rfl rfl
  · exact jg_thr rfl (fun _ _ _ => rfl) rfl (by omega) (by show 0 + 81 ≤ rL; omega) rfl
noncomputable def F_J_jobAt (p0 : Int32) (S : jS) : Option ((Nat ⊕ Nat) × jS) := if p0 < 0 then (some (.inr 14, S)) else (if 100 ≤ p0 then (some (.inr 14, S)) else (j_q (j_in p0 100) (if (S.1 (115 + ((p0 : Int32).toNatClampNeg)) 0) = 0 then (some (.inr 14, S)) else (j_q (j_in p0 100) (some (.inl (115 + ((p0 : Int32).toNatClampNeg)), S))))))
set_option maxRecDepth 20000 in
theorem kF_J_jobAt {q : Nat} (p0 : Int32) (S : jS) (rF rL : Nat) (hF : 6 ≤ rF) (hL : 81 ≤ rL)  : jg q jp_J_jobAt rF rL 0 [(0, .ref 24), (1, .int p0)] [] S 0 x_A (F_J_jobAt p0 S) := by
  unfold F_J_jobAt
  refine jg_sg 1 (pc1 := 1) (lv1 := [(0, .ref 24), (1, .int p0)]) (st1 := [.int p0]) (fun _ _ _ => rfl) ?_
  refine jg_br (fun _ _ _ _ k1 k2 => jt_if_lt (t := 22) rfl rfl k1 k2) (fun c1 => ?_) (fun c1 => ?_)
  · exact jg_thr rfl (fun _ _ _ => rfl) rfl (by omega) (by show 0 + 81 ≤ rL; omega) rfl
  · refine jg_sg 2 (pc1 := 7) (lv1 := [(0, .ref 24), (1, .int p0)]) (st1 := [.int 100, .int p0]) (fun _ _ _ => rfl) ?_
    refine jg_br (fun _ _ _ _ k1 k2 => jt_icmp_ge (t := 22) rfl rfl k1 k2) (fun c2 => ?_) (fun c2 => ?_)
    · exact jg_thr rfl (fun _ _ _ => rfl) rfl (by omega) (by show 0 + 81 ≤ rL; omega) rfl
    · refine jg_sg 1 (pc1 := 11) (lv1 := [(0, .ref 24), (1, .int p0)]) (st1 := [.ref 24]) (fun _ _ _ => rfl) ?_
      refine jg_g (v := .ref 45) rfl kc_24 rfl rfl ?_
      refine jg_sg 1 (pc1 := 15) (lv1 := [(0, .ref 24), (1, .int p0)]) (st1 := [.int p0, .ref 45]) (fun _ _ _ => rfl) ?_
      refine jg_aal (w := 115 + ((p0 : Int32).toNatClampNeg)) rfl rfl kc_45 rfl (fun g3 => ?_)
      refine jg_g (v := .int (S.1 (115 + ((p0 : Int32).toNatClampNeg)) 0)) rfl (kc_B (jb_m g3)) rfl rfl ?_
      refine jg_br (fun _ _ _ _ k1 k2 => jt_if_ne (t := 30) rfl rfl k2 k1) (fun c4 => ?_) (fun c4 => ?_)
      · exact jg_thr rfl (fun _ _ _ => rfl) rfl (by omega) (by show 0 + 81 ≤ rL; omega) rfl
      · refine jg_sg 1 (pc1 := 31) (lv1 := [(0, .ref 24), (1, .int p0)]) (st1 := [.ref 24]) (fun _ _ _ => rfl) ?_
        refine jg_g (v := .ref 45) rfl kc_24 rfl rfl ?_
        refine jg_sg 1 (pc1 := 35) (lv1 := [(0, .ref 24), (1, .int p0)]) (st1 := [.int p0, .ref 45]) (fun _ _ _ => rfl) ?_
        refine jg_aal (w := 115 + ((p0 : Int32).toNatClampNeg)) rfl rfl kc_45 rfl (fun g5 => ?_)
        exact jg_ra rfl rfl rfl
noncomputable def F_J_remove (a0 : Nat) (S : jS) : Option jS := j_l (w_i S a0 0 0) (fun S1 => j_l (w_i S1 24 11 ((S1.1 24 11) - 1)) (fun S2 => some S2))
set_option maxRecDepth 20000 in
theorem kF_J_remove {q : Nat} (a0 : Nat) (S : jS) (rF rL : Nat) (hF : 0 ≤ rF) (hL : 0 ≤ rL) (ha0 : jb_ a0 = true) : jg q jp_J_remove rF rL 0 [(0, .ref 24), (1, .ref a0)] [] S 0 s_V (F_J_remove a0 S) := by
  unfold F_J_remove
  refine jg_sg 2 (pc1 := 2) (lv1 := [(0, .ref 24), (1, .ref a0)]) (st1 := [.int 0, .ref a0]) (fun _ _ _ => rfl) ?_
  refine jg_pi rfl (kc_B ha0) rfl (Nat.le_of_ble_eq_true rfl) rfl rfl (fun S1 _ => ?_)
  refine jg_sg 2 (pc1 := 7) (lv1 := [(0, .ref 24), (1, .ref a0)]) (st1 := [.ref 24, .ref 24]) (fun _ _ _ => rfl) ?_
  refine jg_g (v := .int (S1.1 24 11)) rfl kc_24 rfl rfl ?_
  refine jg_sg 2 (pc1 := 12) (lv1 := [(0, .ref 24), (1, .ref a0)]) (st1 := [.int ((S1.1 24 11) - 1), .ref 24]) (fun _ _ _ => rfl) ?_
  refine jg_pi rfl kc_24 rfl (Nat.le_of_ble_eq_true rfl) rfl rfl (fun S2 _ => ?_)
  exact jg_rv rfl rfl rfl
noncomputable def F_J_cancel (p0 : Int32) (S : jS) : Option ((Int32 ⊕ Nat) × jS) := j_x (F_J_jobAt p0 S) (fun c S => (.inr c, S)) (fun z2 S1 => j_q (jb_ z2) (if (S1.1 z2 0) = 1 then ((F_J_remove z2 S1).bind (fun z5 => some (.inl 1, z5))) else (j_l (w_i S1 z2 0 3) (fun S6 => some (.inl 2, S6)))))
set_option maxRecDepth 20000 in
theorem kF_J_cancel {q : Nat} (p0 : Int32) (S : jS) (rF rL : Nat) (hF : 7 ≤ rF) (hL : 102 ≤ rL)  : jg q jp_J_cancel rF rL 0 [(0, .ref 24), (1, .int p0)] [] S 0 x_I (F_J_cancel p0 S) := by
  unfold F_J_cancel
  refine jg_sg 2 (pc1 := 2) (lv1 := [(0, .ref 24), (1, .int p0)]) (st1 := [.int p0, .ref 24]) (fun _ _ _ => rfl) ?_
  refine jg_cxA (m2 := jp_J_jobAt) (As := [.ref 24, .int p0]) (r := []) (mx := 2) (jh_v (a := 24) rfl rfl rfl kc_24 rfl (Nat.le_of_ble_eq_true rfl) rfl rfl rfl (by omega) (by omega) (Nat.le_of_ble_eq_true rfl)) rfl (fun _ _ => rfl) (kF_J_jobAt p0 S _ _ (by omega) (by omega) ) (fun z2 S1 => ?_)
  refine jg_q (fun g3 => ?_)
  refine jg_sg 2 (pc1 := 7) (lv1 := [(2, .ref z2), (0, .ref 24), (1, .int p0)]) (st1 := [.ref z2]) (fun _ _ _ => rfl) ?_
  refine jg_g (v := .int (S1.1 z2 0)) rfl (kc_B g3) rfl rfl ?_
  refine jg_sg 1 (pc1 := 11) (lv1 := [(2, .ref z2), (0, .ref 24), (1, .int p0)]) (st1 := [.int 1, .int (S1.1 z2 0)]) (fun _ _ _ => rfl) ?_
  refine jg_br (fun _ _ _ _ k1 k2 => jt_icmp_ne (t := 21) rfl rfl k2 k1) (fun c4 => ?_) (fun c4 => ?_)
  · refine jg_sg 2 (pc1 := 16) (lv1 := [(2, .ref z2), (0, .ref 24), (1, .int p0)]) (st1 := [.ref z2, .ref 24]) (fun _ _ _ => rfl) ?_
    refine jg_csV (m2 := jp_J_remove) (As := [.ref 24, .ref z2]) (r := []) (mx := 2) (jh_v (a := 24) rfl rfl rfl kc_24 rfl (Nat.le_of_ble_eq_true rfl) rfl rfl rfl (by omega) (by omega) (Nat.le_of_ble_eq_true rfl)) (kF_J_remove z2 S1 _ _ (by omega) (by omega) g3) (fun z5 => ?_)
    refine jg_sg 1 (pc1 := 20) (lv1 := [(2, .ref z2), (0, .ref 24), (1, .int p0)]) (st1 := [.int 1]) (fun _ _ _ => rfl) ?_
    exact jg_ri rfl rfl rfl rfl
  · refine jg_sg 2 (pc1 := 23) (lv1 := [(2, .ref z2), (0, .ref 24), (1, .int p0)]) (st1 := [.int 3, .ref z2]) (fun _ _ _ => rfl) ?_
    refine jg_pi rfl (kc_B g3) rfl (Nat.le_of_ble_eq_true rfl) rfl rfl (fun S6 _ => ?_)
    refine jg_sg 1 (pc1 := 27) (lv1 := [(2, .ref z2), (0, .ref 24), (1, .int p0)]) (st1 := [.int 2]) (fun _ _ _ => rfl) ?_
    exact jg_ri rfl rfl rfl rfl
noncomputable def F_J_workers (p0 : Int32) (S : jS) : Option ((Int32 ⊕ Nat) × jS) := j_xv (F_J_checkRange ((p0 : Int32).toInt64) 0 8 S) (fun c S => (.inr c, S)) (fun S1 => j_l (S1.1 24 15 : Int32) (fun v2 => j_l (w_i S1 24 15 p0) (fun S3 => some (.inl v2, S3))))
set_option maxRecDepth 20000 in
theorem kF_J_workers {q : Nat} (p0 : Int32) (S : jS) (rF rL : Nat) (hF : 7 ≤ rF) (hL : 106 ≤ rL)  : jg q jp_J_workers rF rL 0 [(0, .ref 24), (1, .int p0)] [] S 0 x_I (F_J_workers p0 S) := by
  unfold F_J_workers
  refine jg_sg 4 (pc1 := 6) (lv1 := [(0, .ref 24), (1, .int p0)]) (st1 := [.long 8, .long 0, .long ((p0 : Int32).toInt64)]) (fun _ _ _ => rfl) ?_
  refine jg_cxV (m2 := jp_J_checkRange) (As := [.long ((p0 : Int32).toInt64), .long 0, .long 8]) (r := []) (mx := 6) (jh_s rfl (fun _ _ _ => rfl) rfl rfl rfl (by omega) (by omega) (Nat.le_of_ble_eq_true rfl)) rfl (fun _ _ => rfl) (kF_J_checkRange ((p0 : Int32).toInt64) 0 8 S _ _ (by omega) (by omega) ) (fun S1 => ?_)
  refine jg_sg 1 (pc1 := 10) (lv1 := [(0, .ref 24), (1, .int p0)]) (st1 := [.ref 24]) (fun _ _ _ => rfl) ?_
  refine jg_g (v := .int (S1.1 24 15)) rfl kc_24 rfl rfl ?_
  refine jg_sg 1 (pc1 := 14) (lv1 := [(2, .int (S1.1 24 15)), (0, .ref 24), (1, .int p0)]) (st1 := []) (fun _ _ _ => rfl) ?_
  refine jg_vi (fun v2 => ?_)
  refine jg_sg 2 (pc1 := 16) (lv1 := [(2, .int v2), (0, .ref 24), (1, .int p0)]) (st1 := [.int p0, .ref 24]) (fun _ _ _ => rfl) ?_
  refine jg_pi rfl kc_24 rfl (Nat.le_of_ble_eq_true rfl) rfl rfl (fun S3 _ => ?_)
  refine jg_sg 1 (pc1 := 20) (lv1 := [(2, .int v2), (0, .ref 24), (1, .int p0)]) (st1 := [.int v2]) (fun _ _ _ => rfl) ?_
  exact jg_ri rfl rfl rfl rfl
noncomputable def F_J_checkWay (p0 : Int64) (S : jS) : Option (Option Nat × jS) := (F_Math_min2 8796093022208 (10413791999999 - (S.2.1 24 8)) S).bind (fun z1 => j_xv (F_J_checkRange p0 0 z1 S) (fun c S => (some c, S)) (fun S2 => some (none, S2)))
set_option maxRecDepth 20000 in
theorem kF_J_checkWay {q : Nat} (p0 : Int64) (S : jS) (rF rL : Nat) (hF : 7 ≤ rF) (hL : 106 ≤ rL)  : jg q jp_J_checkWay rF rL 0 [(0, .ref 24), (1, .long p0)] [] S 0 x_V (F_J_checkWay p0 S) := by
  unfold F_J_checkWay
  refine jg_sg 5 (pc1 := 9) (lv1 := [(0, .ref 24), (1, .long p0)]) (st1 := [.ref 24, .long 10413791999999, .long 8796093022208, .long 0, .long p0]) (fun _ _ _ => rfl) ?_
  refine jg_g (v := .long (S.2.1 24 8)) rfl kc_24 rfl rfl ?_
  refine jg_sg 1 (pc1 := 13) (lv1 := [(0, .ref 24), (1, .long p0)]) (st1 := [.long (10413791999999 - (S.2.1 24 8)), .long 8796093022208, .long 0, .long p0]) (fun _ _ _ => rfl) ?_
  refine jg_cpL (m2 := jp_Math_min2) (As := [.long 8796093022208, .long (10413791999999 - (S.2.1 24 8))]) (r := [.long 0, .long p0]) (mx := 4) (jh_s rfl (fun _ _ _ => rfl) rfl rfl rfl (by omega) (by omega) (Nat.le_of_ble_eq_true rfl)) (kF_Math_min2 8796093022208 (10413791999999 - (S.2.1 24 8)) S _ _ (by omega) (by omega) ) (fun z1 => ?_)
  refine jg_cxV (m2 := jp_J_checkRange) (As := [.long p0, .long 0, .long z1]) (r := []) (mx := 6) (jh_s rfl (fun _ _ _ => rfl) rfl rfl rfl (by omega) (by omega) (Nat.le_of_ble_eq_true rfl)) rfl (fun _ _ => rfl) (kF_J_checkRange p0 0 z1 S _ _ (by omega) (by omega) ) (fun S2 => ?_)
  exact jg_rv rfl rfl rfl
noncomputable def J_J_firstEnded_61 (kt4 : Int32 → Int32 → Option Int32) (S : jS) (x2 : Int32) : Option Int32 := kt4 x2 (x2 + 1)
set_option maxRecDepth 20000 in
theorem kJ_J_firstEnded_61 {q rF rL : Nat} (hF : 0 ≤ rF) (hL : 0 ≤ rL) (S : jS) (kt4 : Int32 → Int32 → Option Int32) (ih4 : ∀ (x1 : Int32) (x2 : Int32), jg q jp_J_firstEnded rF rL 4 [(0, .ref 24), (1, .int x1), (2, .int x2)] [] S 0 (p_I S) (kt4 x1 x2)) (x2 : Int32) : jg q jp_J_firstEnded rF rL 61 [(0, .ref 24), (2, .int x2)] [] S 0 (p_I S) (J_J_firstEnded_61 kt4 S x2) := by
  unfold J_J_firstEnded_61
  refine jg_sg 4 (pc1 := 4) (lv1 := [(2, .int (x2 + 1)), (1, .int x2), (0, .ref 24)]) (st1 := []) (fun _ _ _ => rfl) ?_
  refine jg_lvs (lv1 := [(0, .ref 24), (1, .int x2), (2, .int (x2 + 1))]) rfl rfl ⟨rfl, rfl, rfl, trivial⟩ ?_
  exact ih4 x2 (x2 + 1)
noncomputable def L_J_firstEnded_4 (S : jS) : Nat → Int32 → Int32 → Option Int32
  | 0, _, _ => none
  | f + 1, x1, x2 => if (S.1 24 14) ≤ x2 then (some x1) else (j_q (j_in x2 8) (j_q (j_in (S.1 46 ((x2 : Int32).toNatClampNeg)) 100) (j_l (115 + ((S.1 46 ((x2 : Int32).toNatClampNeg) : Int32).toNatClampNeg) : Nat) (fun b4 => if (S.2.1 24 8) < (S.2.1 b4 5) then ((L_J_firstEnded_4 S f) x1 (x2 + 1)) else (if x1 < 0 then (J_J_firstEnded_61 (L_J_firstEnded_4 S f) S x2) else (j_q (j_in x1 8) (j_q (j_in (S.1 46 ((x1 : Int32).toNatClampNeg)) 100) (if (S.1 (115 + ((S.1 46 ((x1 : Int32).toNatClampNeg) : Int32).toNatClampNeg)) 2) ≤ (S.1 b4 2) then ((L_J_firstEnded_4 S f) x1 (x2 + 1)) else (J_J_firstEnded_61 (L_J_firstEnded_4 S f) S x2)))))))))
set_option maxRecDepth 20000 in
theorem kL_J_firstEnded_4 {q rF rL : Nat} (hF : 0 ≤ rF) (hL : 0 ≤ rL) (S : jS)  : ∀ (f : Nat) (x1 : Int32) (x2 : Int32), jg q jp_J_firstEnded rF rL 4 [(0, .ref 24), (1, .int x1), (2, .int x2)] [] S 0 (p_I S) (L_J_firstEnded_4 S f x1 x2) := by
  intro f
  induction f with
  | zero => intro _ _; exact jg_none
  | succ f ih4 =>
    intro x1 x2
    rw [L_J_firstEnded_4]
    refine jg_sg 2 (pc1 := 6) (lv1 := [(0, .ref 24), (1, .int x1), (2, .int x2)]) (st1 := [.ref 24, .int x2]) (fun _ _ _ => rfl) ?_
    refine jg_g (v := .int (S.1 24 14)) rfl kc_24 rfl rfl ?_
    refine jg_br (fun _ _ _ _ k1 k2 => jt_icmp_ge (t := 69) rfl rfl k1 k2) (fun c1 => ?_) (fun c1 => ?_)
    · refine jg_sg 1 (pc1 := 70) (lv1 := [(0, .ref 24), (1, .int x1), (2, .int x2)]) (st1 := [.int x1]) (fun _ _ _ => rfl) ?_
      exact jg_ri rfl rfl rfl rfl
    · refine jg_sg 1 (pc1 := 13) (lv1 := [(0, .ref 24), (1, .int x1), (2, .int x2)]) (st1 := [.ref 24]) (fun _ _ _ => rfl) ?_
      refine jg_g (v := .ref 45) rfl kc_24 rfl rfl ?_
      refine jg_sg 1 (pc1 := 17) (lv1 := [(0, .ref 24), (1, .int x1), (2, .int x2)]) (st1 := [.ref 24, .ref 45]) (fun _ _ _ => rfl) ?_
      refine jg_g (v := .ref 46) rfl kc_24 rfl rfl ?_
      refine jg_sg 1 (pc1 := 21) (lv1 := [(0, .ref 24), (1, .int x1), (2, .int x2)]) (st1 := [.int x2, .ref 46, .ref 45]) (fun _ _ _ => rfl) ?_
      refine jg_ial rfl kc_46 (fun g2 => ?_)
      refine jg_aal (w := 115 + ((S.1 46 ((x2 : Int32).toNatClampNeg) : Int32).toNatClampNeg)) rfl rfl kc_45 rfl (fun g3 => ?_)
      refine jg_sg 1 (pc1 := 24) (lv1 := [(3, .ref (115 + ((S.1 46 ((x2 : Int32).toNatClampNeg) : Int32).toNatClampNeg))), (0, .ref 24), (1, .int x1), (2, .int x2)]) (st1 := []) (fun _ _ _ => rfl) ?_
      refine jg_va (P := fun b => jb_ b = true) ((jb_m g3)) (fun b4 hb4 => ?_)
      refine jg_sg 1 (pc1 := 25) (lv1 := [(3, .ref b4), (0, .ref 24), (1, .int x1), (2, .int x2)]) (st1 := [.ref b4]) (fun _ _ _ => rfl) ?_
      refine jg_g (v := .long (S.2.1 b4 5)) rfl (kc_B hb4) rfl rfl ?_
      refine jg_sg 1 (pc1 := 29) (lv1 := [(3, .ref b4), (0, .ref 24), (1, .int x1), (2, .int x2)]) (st1 := [.ref 24, .long (S.2.1 b4 5)]) (fun _ _ _ => rfl) ?_
      refine jg_g (v := .long (S.2.1 24 8)) rfl kc_24 rfl rfl ?_
      refine jg_sg 1 (pc1 := 33) (lv1 := [(3, .ref b4), (0, .ref 24), (1, .int x1), (2, .int x2)]) (st1 := [.int (lg_cmp (S.2.1 b4 5) (S.2.1 24 8))]) (fun _ _ _ => rfl) ?_
      refine jg_br (fun _ _ _ _ k1 k2 => jt_lif_gt (t := 63) rfl rfl k1 k2) (fun c5 => ?_) (fun c5 => ?_)
      · refine jg_sg 2 (pc1 := 4) (lv1 := [(2, .int (x2 + 1)), (3, .ref b4), (0, .ref 24), (1, .int x1)]) (st1 := []) (fun _ _ _ => rfl) ?_
        refine jg_lvs (lv1 := [(0, .ref 24), (1, .int x1), (2, .int (x2 + 1))]) rfl rfl ⟨rfl, rfl, rfl, trivial⟩ ?_
        exact ih4 x1 (x2 + 1)
      · refine jg_sg 1 (pc1 := 37) (lv1 := [(3, .ref b4), (0, .ref 24), (1, .int x1), (2, .int x2)]) (st1 := [.int x1]) (fun _ _ _ => rfl) ?_
        refine jg_br (fun _ _ _ _ k1 k2 => jt_if_lt (t := 61) rfl rfl k1 k2) (fun c6 => ?_) (fun c6 => ?_)
        · refine jg_lvs (lv1 := [(0, .ref 24), (2, .int x2)]) rfl rfl ⟨rfl, rfl, trivial⟩ ?_
          exact kJ_J_firstEnded_61 (by omega) (by omega) S (L_J_firstEnded_4 S f) ih4 x2
        · refine jg_sg 1 (pc1 := 41) (lv1 := [(3, .ref b4), (0, .ref 24), (1, .int x1), (2, .int x2)]) (st1 := [.ref b4]) (fun _ _ _ => rfl) ?_
          refine jg_g (v := .int (S.1 b4 2)) rfl (kc_B hb4) rfl rfl ?_
          refine jg_sg 1 (pc1 := 45) (lv1 := [(3, .ref b4), (0, .ref 24), (1, .int x1), (2, .int x2)]) (st1 := [.ref 24, .int (S.1 b4 2)]) (fun _ _ _ => rfl) ?_
          refine jg_g (v := .ref 45) rfl kc_24 rfl rfl ?_
          refine jg_sg 1 (pc1 := 49) (lv1 := [(3, .ref b4), (0, .ref 24), (1, .int x1), (2, .int x2)]) (st1 := [.ref 24, .ref 45, .int (S.1 b4 2)]) (fun _ _ _ => rfl) ?_
          refine jg_g (v := .ref 46) rfl kc_24 rfl rfl ?_
          refine jg_sg 1 (pc1 := 53) (lv1 := [(3, .ref b4), (0, .ref 24), (1, .int x1), (2, .int x2)]) (st1 := [.int x1, .ref 46, .ref 45, .int (S.1 b4 2)]) (fun _ _ _ => rfl) ?_
          refine jg_ial rfl kc_46 (fun g7 => ?_)
          refine jg_aal (w := 115 + ((S.1 46 ((x1 : Int32).toNatClampNeg) : Int32).toNatClampNeg)) rfl rfl kc_45 rfl (fun g8 => ?_)
          refine jg_g (v := .int (S.1 (115 + ((S.1 46 ((x1 : Int32).toNatClampNeg) : Int32).toNatClampNeg)) 2)) rfl (kc_B (jb_m g8)) rfl rfl ?_
          refine jg_br (fun _ _ _ _ k1 k2 => jt_icmp_ge (t := 63) rfl rfl k1 k2) (fun c9 => ?_) (fun c9 => ?_)
          · refine jg_sg 2 (pc1 := 4) (lv1 := [(2, .int (x2 + 1)), (3, .ref b4), (0, .ref 24), (1, .int x1)]) (st1 := []) (fun _ _ _ => rfl) ?_
            refine jg_lvs (lv1 := [(0, .ref 24), (1, .int x1), (2, .int (x2 + 1))]) rfl rfl ⟨rfl, rfl, rfl, trivial⟩ ?_
            exact ih4 x1 (x2 + 1)
          · refine jg_lvs (lv1 := [(0, .ref 24), (2, .int x2)]) rfl rfl ⟨rfl, rfl, trivial⟩ ?_
            exact kJ_J_firstEnded_61 (by omega) (by omega) S (L_J_firstEnded_4 S f) ih4 x2
noncomputable def F_J_firstEnded  (S : jS) : Option Int32 := L_J_firstEnded_4 S ju_ (-1) 0
set_option maxRecDepth 20000 in
theorem kF_J_firstEnded {q : Nat}  (S : jS) (rF rL : Nat) (hF : 0 ≤ rF) (hL : 0 ≤ rL)  : jg q jp_J_firstEnded rF rL 0 [(0, .ref 24)] [] S 0 (p_I S) (F_J_firstEnded S) := by
  unfold F_J_firstEnded
  refine jg_sg 4 (pc1 := 4) (lv1 := [(2, .int 0), (1, .int (-1)), (0, .ref 24)]) (st1 := []) (fun _ _ _ => rfl) ?_
  refine jg_lvs (lv1 := [(0, .ref 24), (1, .int (-1)), (2, .int 0)]) rfl rfl ⟨rfl, rfl, rfl, trivial⟩ ?_
  exact kL_J_firstEnded_4 (by omega) (by omega) S ju_ (-1) 0
noncomputable def F_B_isOver (a0 : Nat) (S : jS) : Option Int32 := if (S.1 a0 0) = 3 then (some 1) else (if (S.1 a0 1) = 0 then (some 1) else (if (S.1 a0 3) = (S.1 a0 10) then (some 1) else (some 0)))
set_option maxRecDepth 20000 in
theorem kF_B_isOver {q : Nat} (a0 : Nat) (S : jS) (rF rL : Nat) (hF : 0 ≤ rF) (hL : 0 ≤ rL) (ha0 : jb_ a0 = true) : jg q jp_B_isOver rF rL 0 [(0, .ref a0)] [] S 0 (p_I S) (F_B_isOver a0 S) := by
  unfold F_B_isOver
  refine jg_sg 1 (pc1 := 1) (lv1 := [(0, .ref a0)]) (st1 := [.ref a0]) (fun _ _ _ => rfl) ?_
  refine jg_g (v := .int (S.1 a0 0)) rfl (kc_B ha0) rfl rfl ?_
  refine jg_sg 1 (pc1 := 5) (lv1 := [(0, .ref a0)]) (st1 := [.int 3, .int (S.1 a0 0)]) (fun _ _ _ => rfl) ?_
  refine jg_br (fun _ _ _ _ k1 k2 => jt_icmp_eq (t := 26) rfl rfl k1 k2) (fun c1 => ?_) (fun c1 => ?_)
  · refine jg_sg 2 (pc1 := 31) (lv1 := [(0, .ref a0)]) (st1 := [.int 1]) (fun _ _ _ => rfl) ?_
    exact jg_ri rfl rfl rfl rfl
  · refine jg_sg 1 (pc1 := 9) (lv1 := [(0, .ref a0)]) (st1 := [.ref a0]) (fun _ _ _ => rfl) ?_
    refine jg_g (v := .int (S.1 a0 1)) rfl (kc_B ha0) rfl rfl ?_
    refine jg_br (fun _ _ _ _ k1 k2 => jt_if_eq (t := 26) rfl rfl k1 k2) (fun c2 => ?_) (fun c2 => ?_)
    · refine jg_sg 2 (pc1 := 31) (lv1 := [(0, .ref a0)]) (st1 := [.int 1]) (fun _ _ _ => rfl) ?_
      exact jg_ri rfl rfl rfl rfl
    · refine jg_sg 1 (pc1 := 16) (lv1 := [(0, .ref a0)]) (st1 := [.ref a0]) (fun _ _ _ => rfl) ?_
      refine jg_g (v := .int (S.1 a0 3)) rfl (kc_B ha0) rfl rfl ?_
      refine jg_sg 1 (pc1 := 20) (lv1 := [(0, .ref a0)]) (st1 := [.ref a0, .int (S.1 a0 3)]) (fun _ _ _ => rfl) ?_
      refine jg_g (v := .int (S.1 a0 10)) rfl (kc_B ha0) rfl rfl ?_
      refine jg_br (fun _ _ _ _ k1 k2 => jt_icmp_ne (t := 30) rfl rfl k2 k1) (fun c3 => ?_) (fun c3 => ?_)
      · refine jg_sg 2 (pc1 := 31) (lv1 := [(0, .ref a0)]) (st1 := [.int 1]) (fun _ _ _ => rfl) ?_
        exact jg_ri rfl rfl rfl rfl
      · refine jg_sg 1 (pc1 := 31) (lv1 := [(0, .ref a0)]) (st1 := [.int 0]) (fun _ _ _ => rfl) ?_
        exact jg_ri rfl rfl rfl rfl
noncomputable def F_B_rateTimeBehind (a0 : Nat) (p0 : Int64) (S : jS) : Option Int64 := if ((1 : Int64)) ≤ (S.2.1 a0 6) then (j_q (!decide ((S.2.1 a0 6) = 0)) (j_l ((p0 - (S.2.1 a0 4)) / (S.2.1 a0 6) : Int64) (fun v3 => if (S.1 a0 9) = 2 then (some ((S.2.1 a0 4) + ((v3 + 1) * (S.2.1 a0 6)))) else (if (S.1 a0 9) = 1 then (if v3 ≤ 1 then (some ((S.2.1 a0 4) + (S.2.1 a0 6))) else (some ((S.2.1 a0 4) + (v3 * (S.2.1 a0 6))))) else (some ((S.2.1 a0 4) + (S.2.1 a0 6))))))) else (some (-1))
set_option maxRecDepth 20000 in
theorem kF_B_rateTimeBehind {q : Nat} (a0 : Nat) (p0 : Int64) (S : jS) (rF rL : Nat) (hF : 0 ≤ rF) (hL : 0 ≤ rL) (ha0 : jb_ a0 = true) : jg q jp_B_rateTimeBehind rF rL 0 [(0, .ref a0), (1, .long p0)] [] S 0 (p_L S) (F_B_rateTimeBehind a0 p0 S) := by
  unfold F_B_rateTimeBehind
  refine jg_sg 1 (pc1 := 1) (lv1 := [(0, .ref a0), (1, .long p0)]) (st1 := [.ref a0]) (fun _ _ _ => rfl) ?_
  refine jg_g (v := .long (S.2.1 a0 6)) rfl (kc_B ha0) rfl rfl ?_
  refine jg_sg 2 (pc1 := 6) (lv1 := [(0, .ref a0), (1, .long p0)]) (st1 := [.int (lg_cmp (S.2.1 a0 6) 1)]) (fun _ _ _ => rfl) ?_
  refine jg_br (fun _ _ _ _ k1 k2 => jt_lif_ge (t := 13) rfl rfl k1 k2) (fun c1 => ?_) (fun c1 => ?_)
  · refine jg_sg 2 (pc1 := 15) (lv1 := [(0, .ref a0), (1, .long p0)]) (st1 := [.ref a0, .long p0]) (fun _ _ _ => rfl) ?_
    refine jg_g (v := .long (S.2.1 a0 4)) rfl (kc_B ha0) rfl rfl ?_
    refine jg_sg 2 (pc1 := 20) (lv1 := [(0, .ref a0), (1, .long p0)]) (st1 := [.ref a0, .long (p0 - (S.2.1 a0 4))]) (fun _ _ _ => rfl) ?_
    refine jg_g (v := .long (S.2.1 a0 6)) rfl (kc_B ha0) rfl rfl ?_
    refine jg_q (fun g2 => ?_)
    refine jg_st (fun _ _ _ _ _ k => jt_ldiv rfl (by simpa using g2) k) ?_
    refine jg_sg 1 (pc1 := 25) (lv1 := [(3, .long ((p0 - (S.2.1 a0 4)) / (S.2.1 a0 6))), (0, .ref a0), (1, .long p0)]) (st1 := []) (fun _ _ _ => rfl) ?_
    refine jg_vl (fun v3 => ?_)
    refine jg_sg 1 (pc1 := 26) (lv1 := [(3, .long v3), (0, .ref a0), (1, .long p0)]) (st1 := [.ref a0]) (fun _ _ _ => rfl) ?_
    refine jg_g (v := .int (S.1 a0 9)) rfl (kc_B ha0) rfl rfl ?_
    refine jg_sg 1 (pc1 := 30) (lv1 := [(3, .long v3), (0, .ref a0), (1, .long p0)]) (st1 := [.int 2, .int (S.1 a0 9)]) (fun _ _ _ => rfl) ?_
    refine jg_br (fun _ _ _ _ k1 k2 => jt_icmp_ne (t := 47) rfl rfl k2 k1) (fun c4 => ?_) (fun c4 => ?_)
    · refine jg_sg 1 (pc1 := 34) (lv1 := [(3, .long v3), (0, .ref a0), (1, .long p0)]) (st1 := [.ref a0]) (fun _ _ _ => rfl) ?_
      refine jg_g (v := .long (S.2.1 a0 4)) rfl (kc_B ha0) rfl rfl ?_
      refine jg_sg 4 (pc1 := 41) (lv1 := [(3, .long v3), (0, .ref a0), (1, .long p0)]) (st1 := [.ref a0, .long (v3 + 1), .long (S.2.1 a0 4)]) (fun _ _ _ => rfl) ?_
      refine jg_g (v := .long (S.2.1 a0 6)) rfl (kc_B ha0) rfl rfl ?_
      refine jg_sg 2 (pc1 := 46) (lv1 := [(3, .long v3), (0, .ref a0), (1, .long p0)]) (st1 := [.long ((S.2.1 a0 4) + ((v3 + 1) * (S.2.1 a0 6)))]) (fun _ _ _ => rfl) ?_
      exact jg_rl rfl rfl rfl
    · refine jg_sg 1 (pc1 := 48) (lv1 := [(3, .long v3), (0, .ref a0), (1, .long p0)]) (st1 := [.ref a0]) (fun _ _ _ => rfl) ?_
      refine jg_g (v := .int (S.1 a0 9)) rfl (kc_B ha0) rfl rfl ?_
      refine jg_sg 1 (pc1 := 52) (lv1 := [(3, .long v3), (0, .ref a0), (1, .long p0)]) (st1 := [.int 1, .int (S.1 a0 9)]) (fun _ _ _ => rfl) ?_
      refine jg_br (fun _ _ _ _ k1 k2 => jt_icmp_ne (t := 73) rfl rfl k2 k1) (fun c5 => ?_) (fun c5 => ?_)
      · refine jg_sg 3 (pc1 := 58) (lv1 := [(3, .long v3), (0, .ref a0), (1, .long p0)]) (st1 := [.int (lg_cmp v3 1)]) (fun _ _ _ => rfl) ?_
        refine jg_br (fun _ _ _ _ k1 k2 => jt_lif_le (t := 73) rfl rfl k1 k2) (fun c6 => ?_) (fun c6 => ?_)
        · refine jg_sg 1 (pc1 := 74) (lv1 := [(3, .long v3), (0, .ref a0), (1, .long p0)]) (st1 := [.ref a0]) (fun _ _ _ => rfl) ?_
          refine jg_g (v := .long (S.2.1 a0 4)) rfl (kc_B ha0) rfl rfl ?_
          refine jg_sg 1 (pc1 := 78) (lv1 := [(3, .long v3), (0, .ref a0), (1, .long p0)]) (st1 := [.ref a0, .long (S.2.1 a0 4)]) (fun _ _ _ => rfl) ?_
          refine jg_g (v := .long (S.2.1 a0 6)) rfl (kc_B ha0) rfl rfl ?_
          refine jg_sg 1 (pc1 := 82) (lv1 := [(3, .long v3), (0, .ref a0), (1, .long p0)]) (st1 := [.long ((S.2.1 a0 4) + (S.2.1 a0 6))]) (fun _ _ _ => rfl) ?_
          exact jg_rl rfl rfl rfl
        · refine jg_sg 1 (pc1 := 62) (lv1 := [(3, .long v3), (0, .ref a0), (1, .long p0)]) (st1 := [.ref a0]) (fun _ _ _ => rfl) ?_
          refine jg_g (v := .long (S.2.1 a0 4)) rfl (kc_B ha0) rfl rfl ?_
          refine jg_sg 2 (pc1 := 67) (lv1 := [(3, .long v3), (0, .ref a0), (1, .long p0)]) (st1 := [.ref a0, .long v3, .long (S.2.1 a0 4)]) (fun _ _ _ => rfl) ?_
          refine jg_g (v := .long (S.2.1 a0 6)) rfl (kc_B ha0) rfl rfl ?_
          refine jg_sg 2 (pc1 := 72) (lv1 := [(3, .long v3), (0, .ref a0), (1, .long p0)]) (st1 := [.long ((S.2.1 a0 4) + (v3 * (S.2.1 a0 6)))]) (fun _ _ _ => rfl) ?_
          exact jg_rl rfl rfl rfl
      · refine jg_sg 1 (pc1 := 74) (lv1 := [(3, .long v3), (0, .ref a0), (1, .long p0)]) (st1 := [.ref a0]) (fun _ _ _ => rfl) ?_
        refine jg_g (v := .long (S.2.1 a0 4)) rfl (kc_B ha0) rfl rfl ?_
        refine jg_sg 1 (pc1 := 78) (lv1 := [(3, .long v3), (0, .ref a0), (1, .long p0)]) (st1 := [.ref a0, .long (S.2.1 a0 4)]) (fun _ _ _ => rfl) ?_
        refine jg_g (v := .long (S.2.1 a0 6)) rfl (kc_B ha0) rfl rfl ?_
        refine jg_sg 1 (pc1 := 82) (lv1 := [(3, .long v3), (0, .ref a0), (1, .long p0)]) (st1 := [.long ((S.2.1 a0 4) + (S.2.1 a0 6))]) (fun _ _ _ => rfl) ?_
        exact jg_rl rfl rfl rfl
  · refine jg_sg 1 (pc1 := 12) (lv1 := [(0, .ref a0), (1, .long p0)]) (st1 := [.long (-1)]) (fun _ _ _ => rfl) ?_
    exact jg_rl rfl rfl rfl
noncomputable def J_J_nominalBehind_116 (y0 : Int64) (S : jS) : Option (Int64 × jS) := (F_F_firstAfter y0 S).bind (fun z11 => some (z11.1, z11.2))
set_option maxRecDepth 20000 in
theorem kJ_J_nominalBehind_116 {q rF rL : Nat} (hF : 6 ≤ rF) (hL : 158 ≤ rL)   (y0 : Int64) (S : jS) : jg q jp_J_nominalBehind rF rL 116 [] [.long y0, .ref 32] S 0 s_L (J_J_nominalBehind_116 y0 S) := by
  unfold J_J_nominalBehind_116
  refine jg_csL (m2 := jp_F_firstAfter) (As := [.ref 32, .long y0]) (r := []) (mx := 10) (jh_v (a := 32) rfl rfl rfl kc_32 rfl (Nat.le_of_ble_eq_true rfl) rfl rfl rfl (by omega) (by omega) (Nat.le_of_ble_eq_true rfl)) (kF_F_firstAfter y0 S _ _ (by omega) (by omega) ) (fun z11 => ?_)
  exact jg_rl rfl rfl rfl
noncomputable def J_J_nominalBehind_93 (x1 : Nat) (S : jS) : Option (Int64 × jS) := if (S.1 x1 9) = 2 then (J_J_nominalBehind_116 (S.2.1 24 8) S) else (J_J_nominalBehind_116 (S.2.1 x1 4) S)
set_option maxRecDepth 20000 in
theorem kJ_J_nominalBehind_93 {q rF rL : Nat} (hF : 6 ≤ rF) (hL : 158 ≤ rL)   (x1 : Nat) (S : jS) (hx1 : jb_ x1 = true) : jg q jp_J_nominalBehind rF rL 93 [(0, .ref 24), (1, .ref x1)] [] S 0 s_L (J_J_nominalBehind_93 x1 S) := by
  unfold J_J_nominalBehind_93
  refine jg_sg 1 (pc1 := 94) (lv1 := [(0, .ref 24), (1, .ref x1)]) (st1 := [.ref 24]) (fun _ _ _ => rfl) ?_
  refine jg_g (v := .ref 32) rfl kc_24 rfl rfl ?_
  refine jg_sg 1 (pc1 := 98) (lv1 := [(0, .ref 24), (1, .ref x1)]) (st1 := [.ref x1, .ref 32]) (fun _ _ _ => rfl) ?_
  refine jg_g (v := .int (S.1 x1 9)) rfl (kc_B hx1) rfl rfl ?_
  refine jg_sg 1 (pc1 := 102) (lv1 := [(0, .ref 24), (1, .ref x1)]) (st1 := [.int 2, .int (S.1 x1 9), .ref 32]) (fun _ _ _ => rfl) ?_
  refine jg_br (fun _ _ _ _ k1 k2 => jt_icmp_ne (t := 112) rfl rfl k2 k1) (fun c10 => ?_) (fun c10 => ?_)
  · refine jg_sg 1 (pc1 := 106) (lv1 := [(0, .ref 24), (1, .ref x1)]) (st1 := [.ref 24, .ref 32]) (fun _ _ _ => rfl) ?_
    refine jg_g (v := .long (S.2.1 24 8)) rfl kc_24 rfl rfl ?_
    refine jg_sg 1 (pc1 := 116) (lv1 := [(0, .ref 24), (1, .ref x1)]) (st1 := [.long (S.2.1 24 8), .ref 32]) (fun _ _ _ => rfl) ?_
    refine jg_lvs (lv1 := []) rfl rfl trivial ?_
    exact kJ_J_nominalBehind_116 (by omega) (by omega) (S.2.1 24 8) S
  · refine jg_sg 1 (pc1 := 113) (lv1 := [(0, .ref 24), (1, .ref x1)]) (st1 := [.ref x1, .ref 32]) (fun _ _ _ => rfl) ?_
    refine jg_g (v := .long (S.2.1 x1 4)) rfl (kc_B hx1) rfl rfl ?_
    refine jg_lvs (lv1 := []) rfl rfl trivial ?_
    exact kJ_J_nominalBehind_116 (by omega) (by omega) (S.2.1 x1 4) S
noncomputable def F_J_nominalBehind (a0 : Nat) (S : jS) : Option (Int64 × jS) := (F_B_isOver a0 S).bind (fun z1 => if z1 = 0 then (if (S.1 a0 1) = 2 then (some ((S.2.1 24 8) + (S.2.1 a0 6), S)) else (if (S.1 a0 1) = 1 then ((F_B_rateTimeBehind a0 (S.2.1 24 8) S).bind (fun z5 => some (z5, S))) else ((F_J_aimAt (S.1 a0 11) (S.1 a0 12) (S.1 a0 13) S).bind (fun z6 => if (z6.1 a0 9) = 1 then ((F_F_latestUpTo (z6.2.1 24 8) z6).bind (fun z8 => if z8.1 ≤ (z8.2.2.1 a0 4) then (J_J_nominalBehind_93 a0 z8.2) else (some (z8.1, z8.2)))) else (J_J_nominalBehind_93 a0 z6))))) else (some (-1, S)))
set_option maxRecDepth 20000 in
theorem kF_J_nominalBehind {q : Nat} (a0 : Nat) (S : jS) (rF rL : Nat) (hF : 6 ≤ rF) (hL : 158 ≤ rL) (ha0 : jb_ a0 = true) : jg q jp_J_nominalBehind rF rL 0 [(0, .ref 24), (1, .ref a0)] [] S 0 s_L (F_J_nominalBehind a0 S) := by
  unfold F_J_nominalBehind
  refine jg_sg 1 (pc1 := 1) (lv1 := [(0, .ref 24), (1, .ref a0)]) (st1 := [.ref a0]) (fun _ _ _ => rfl) ?_
  refine jg_cpI (m2 := jp_B_isOver) (As := [.ref a0]) (r := []) (mx := 1) (jh_v (a := a0) rfl rfl rfl (kc_B ha0) rfl (Nat.le_of_ble_eq_true rfl) rfl rfl rfl (by omega) (by omega) (Nat.le_of_ble_eq_true rfl)) (kF_B_isOver a0 S _ _ (by omega) (by omega) ha0) (fun z1 => ?_)
  refine jg_br (fun _ _ _ _ k1 k2 => jt_if_eq (t := 11) rfl rfl k1 k2) (fun c2 => ?_) (fun c2 => ?_)
  · refine jg_sg 1 (pc1 := 12) (lv1 := [(0, .ref 24), (1, .ref a0)]) (st1 := [.ref a0]) (fun _ _ _ => rfl) ?_
    refine jg_g (v := .int (S.1 a0 1)) rfl (kc_B ha0) rfl rfl ?_
    refine jg_sg 1 (pc1 := 16) (lv1 := [(0, .ref 24), (1, .ref a0)]) (st1 := [.int 2, .int (S.1 a0 1)]) (fun _ _ _ => rfl) ?_
    refine jg_br (fun _ _ _ _ k1 k2 => jt_icmp_ne (t := 29) rfl rfl k2 k1) (fun c3 => ?_) (fun c3 => ?_)
    · refine jg_sg 1 (pc1 := 20) (lv1 := [(0, .ref 24), (1, .ref a0)]) (st1 := [.ref 24]) (fun _ _ _ => rfl) ?_
      refine jg_g (v := .long (S.2.1 24 8)) rfl kc_24 rfl rfl ?_
      refine jg_sg 1 (pc1 := 24) (lv1 := [(0, .ref 24), (1, .ref a0)]) (st1 := [.ref a0, .long (S.2.1 24 8)]) (fun _ _ _ => rfl) ?_
      refine jg_g (v := .long (S.2.1 a0 6)) rfl (kc_B ha0) rfl rfl ?_
      refine jg_sg 1 (pc1 := 28) (lv1 := [(0, .ref 24), (1, .ref a0)]) (st1 := [.long ((S.2.1 24 8) + (S.2.1 a0 6))]) (fun _ _ _ => rfl) ?_
      exact jg_rl rfl rfl rfl
    · refine jg_sg 1 (pc1 := 30) (lv1 := [(0, .ref 24), (1, .ref a0)]) (st1 := [.ref a0]) (fun _ _ _ => rfl) ?_
      refine jg_g (v := .int (S.1 a0 1)) rfl (kc_B ha0) rfl rfl ?_
      refine jg_sg 1 (pc1 := 34) (lv1 := [(0, .ref 24), (1, .ref a0)]) (st1 := [.int 1, .int (S.1 a0 1)]) (fun _ _ _ => rfl) ?_
      refine jg_br (fun _ _ _ _ k1 k2 => jt_icmp_ne (t := 46) rfl rfl k2 k1) (fun c4 => ?_) (fun c4 => ?_)
      · refine jg_sg 2 (pc1 := 39) (lv1 := [(0, .ref 24), (1, .ref a0)]) (st1 := [.ref 24, .ref a0]) (fun _ _ _ => rfl) ?_
        refine jg_g (v := .long (S.2.1 24 8)) rfl kc_24 rfl rfl ?_
        refine jg_cpL (m2 := jp_B_rateTimeBehind) (As := [.ref a0, .long (S.2.1 24 8)]) (r := []) (mx := 5) (jh_v (a := a0) rfl rfl rfl (kc_B ha0) rfl (Nat.le_of_ble_eq_true rfl) rfl rfl rfl (by omega) (by omega) (Nat.le_of_ble_eq_true rfl)) (kF_B_rateTimeBehind a0 (S.2.1 24 8) S _ _ (by omega) (by omega) ha0) (fun z5 => ?_)
        exact jg_rl rfl rfl rfl
      · refine jg_sg 2 (pc1 := 48) (lv1 := [(0, .ref 24), (1, .ref a0)]) (st1 := [.ref a0, .ref 24]) (fun _ _ _ => rfl) ?_
        refine jg_g (v := .int (S.1 a0 11)) rfl (kc_B ha0) rfl rfl ?_
        refine jg_sg 1 (pc1 := 52) (lv1 := [(0, .ref 24), (1, .ref a0)]) (st1 := [.ref a0, .int (S.1 a0 11), .ref 24]) (fun _ _ _ => rfl) ?_
        refine jg_g (v := .int (S.1 a0 12)) rfl (kc_B ha0) rfl rfl ?_
        refine jg_sg 1 (pc1 := 56) (lv1 := [(0, .ref 24), (1, .ref a0)]) (st1 := [.ref a0, .int (S.1 a0 12), .int (S.1 a0 11), .ref 24]) (fun _ _ _ => rfl) ?_
        refine jg_g (v := .int (S.1 a0 13)) rfl (kc_B ha0) rfl rfl ?_
        refine jg_csV (m2 := jp_J_aimAt) (As := [.ref 24, .int (S.1 a0 11), .int (S.1 a0 12), .int (S.1 a0 13)]) (r := []) (mx := 4) (jh_v (a := 24) rfl rfl rfl kc_24 rfl (Nat.le_of_ble_eq_true rfl) rfl rfl rfl (by omega) (by omega) (Nat.le_of_ble_eq_true rfl)) (kF_J_aimAt (S.1 a0 11) (S.1 a0 12) (S.1 a0 13) S _ _ (by omega) (by omega) ) (fun z6 => ?_)
        refine jg_sg 1 (pc1 := 63) (lv1 := [(0, .ref 24), (1, .ref a0)]) (st1 := [.ref a0]) (fun _ _ _ => rfl) ?_
        refine jg_g (v := .int (z6.1 a0 9)) rfl (kc_B ha0) rfl rfl ?_
        refine jg_sg 1 (pc1 := 67) (lv1 := [(0, .ref 24), (1, .ref a0)]) (st1 := [.int 1, .int (z6.1 a0 9)]) (fun _ _ _ => rfl) ?_
        refine jg_br (fun _ _ _ _ k1 k2 => jt_icmp_ne (t := 93) rfl rfl k2 k1) (fun c7 => ?_) (fun c7 => ?_)
        · refine jg_sg 1 (pc1 := 71) (lv1 := [(0, .ref 24), (1, .ref a0)]) (st1 := [.ref 24]) (fun _ _ _ => rfl) ?_
          refine jg_g (v := .ref 32) rfl kc_24 rfl rfl ?_
          refine jg_sg 1 (pc1 := 75) (lv1 := [(0, .ref 24), (1, .ref a0)]) (st1 := [.ref 24, .ref 32]) (fun _ _ _ => rfl) ?_
          refine jg_g (v := .long (z6.2.1 24 8)) rfl kc_24 rfl rfl ?_
          refine jg_csL (m2 := jp_F_latestUpTo) (As := [.ref 32, .long (z6.2.1 24 8)]) (r := []) (mx := 10) (jh_v (a := 32) rfl rfl rfl kc_32 rfl (Nat.le_of_ble_eq_true rfl) rfl rfl rfl (by omega) (by omega) (Nat.le_of_ble_eq_true rfl)) (kF_F_latestUpTo (z6.2.1 24 8) z6 _ _ (by omega) (by omega) ) (fun z8 => ?_)
          refine jg_sg 3 (pc1 := 84) (lv1 := [(2, .long z8.1), (0, .ref 24), (1, .ref a0)]) (st1 := [.ref a0, .long z8.1]) (fun _ _ _ => rfl) ?_
          refine jg_g (v := .long (z8.2.2.1 a0 4)) rfl (kc_B ha0) rfl rfl ?_
          refine jg_sg 1 (pc1 := 88) (lv1 := [(2, .long z8.1), (0, .ref 24), (1, .ref a0)]) (st1 := [.int (lg_cmp z8.1 (z8.2.2.1 a0 4))]) (fun _ _ _ => rfl) ?_
          refine jg_br (fun _ _ _ _ k1 k2 => jt_lif_le (t := 93) rfl rfl k1 k2) (fun c9 => ?_) (fun c9 => ?_)
          · refine jg_lvs (lv1 := [(0, .ref 24), (1, .ref a0)]) rfl rfl ⟨rfl, rfl, trivial⟩ ?_
            exact kJ_J_nominalBehind_93 (by omega) (by omega) a0 z8.2 ha0
          · refine jg_sg 1 (pc1 := 92) (lv1 := [(2, .long z8.1), (0, .ref 24), (1, .ref a0)]) (st1 := [.long z8.1]) (fun _ _ _ => rfl) ?_
            exact jg_rl rfl rfl rfl
        · refine jg_lvs (lv1 := [(0, .ref 24), (1, .ref a0)]) rfl rfl ⟨rfl, rfl, trivial⟩ ?_
          exact kJ_J_nominalBehind_93 (by omega) (by omega) a0 z6 ha0
  · refine jg_sg 1 (pc1 := 10) (lv1 := [(0, .ref 24), (1, .ref a0)]) (st1 := [.long (-1)]) (fun _ _ _ => rfl) ?_
    exact jg_rl rfl rfl rfl
noncomputable def J_J_free_52 (x4 : Nat) (S : jS) : Option jS := (F_J_remove x4 S).bind (fun z9 => some z9)
set_option maxRecDepth 20000 in
theorem kJ_J_free_52 {q rF rL : Nat} (hF : 1 ≤ rF) (hL : 21 ≤ rL)   (x4 : Nat) (S : jS) (hx4 : jb_ x4 = true) : jg q jp_J_free rF rL 52 [(0, .ref 24), (4, .ref x4)] [] S 0 s_V (J_J_free_52 x4 S) := by
  unfold J_J_free_52
  refine jg_sg 2 (pc1 := 55) (lv1 := [(0, .ref 24), (4, .ref x4)]) (st1 := [.ref x4, .ref 24]) (fun _ _ _ => rfl) ?_
  refine jg_csV (m2 := jp_J_remove) (As := [.ref 24, .ref x4]) (r := []) (mx := 2) (jh_v (a := 24) rfl rfl rfl kc_24 rfl (Nat.le_of_ble_eq_true rfl) rfl rfl rfl (by omega) (by omega) (Nat.le_of_ble_eq_true rfl)) (kF_J_remove x4 S _ _ (by omega) (by omega) hx4) (fun z9 => ?_)
  refine jg_sg 1 (pc1 := 73) (lv1 := [(0, .ref 24), (4, .ref x4)]) (st1 := []) (fun _ _ _ => rfl) ?_
  exact jg_rv rfl rfl rfl
noncomputable def F_J_free (p0 : Int32) (p1 : Int64) (S : jS) : Option jS := j_q (j_in p0 8) (j_q (j_in (S.1 46 ((p0 : Int32).toNatClampNeg)) 100) (j_l (115 + ((S.1 46 ((p0 : Int32).toNatClampNeg) : Int32).toNatClampNeg) : Nat) (fun b3 => j_l (w_i S 24 14 ((S.1 24 14) - 1)) (fun S4 => j_q (j_in (S4.1 24 14) 8) (j_q (j_in p0 8) (j_l (w_i S4 46 ((p0 : Int32).toNatClampNeg) (S4.1 46 ((S4.1 24 14 : Int32).toNatClampNeg))) (fun S7 => if p1 < 0 then (J_J_free_52 b3 S7) else (if p1 ≤ 10413791999999 then (j_l (w_l S7 b3 4 p1) (fun S11 => j_l (w_i S11 b3 0 1) (fun S12 => some S12))) else (J_J_free_52 b3 S7)))))))))
set_option maxRecDepth 20000 in
theorem kF_J_free {q : Nat} (p0 : Int32) (p1 : Int64) (S : jS) (rF rL : Nat) (hF : 1 ≤ rF) (hL : 21 ≤ rL)  : jg q jp_J_free rF rL 0 [(0, .ref 24), (1, .int p0), (2, .long p1)] [] S 0 s_V (F_J_free p0 p1 S) := by
  unfold F_J_free
  refine jg_sg 1 (pc1 := 1) (lv1 := [(0, .ref 24), (1, .int p0), (2, .long p1)]) (st1 := [.ref 24]) (fun _ _ _ => rfl) ?_
  refine jg_g (v := .ref 45) rfl kc_24 rfl rfl ?_
  refine jg_sg 1 (pc1 := 5) (lv1 := [(0, .ref 24), (1, .int p0), (2, .long p1)]) (st1 := [.ref 24, .ref 45]) (fun _ _ _ => rfl) ?_
  refine jg_g (v := .ref 46) rfl kc_24 rfl rfl ?_
  refine jg_sg 1 (pc1 := 9) (lv1 := [(0, .ref 24), (1, .int p0), (2, .long p1)]) (st1 := [.int p0, .ref 46, .ref 45]) (fun _ _ _ => rfl) ?_
  refine jg_ial rfl kc_46 (fun g1 => ?_)
  refine jg_aal (w := 115 + ((S.1 46 ((p0 : Int32).toNatClampNeg) : Int32).toNatClampNeg)) rfl rfl kc_45 rfl (fun g2 => ?_)
  refine jg_sg 1 (pc1 := 13) (lv1 := [(4, .ref (115 + ((S.1 46 ((p0 : Int32).toNatClampNeg) : Int32).toNatClampNeg))), (0, .ref 24), (1, .int p0), (2, .long p1)]) (st1 := []) (fun _ _ _ => rfl) ?_
  refine jg_va (P := fun b => jb_ b = true) ((jb_m g2)) (fun b3 hb3 => ?_)
  refine jg_sg 2 (pc1 := 15) (lv1 := [(4, .ref b3), (0, .ref 24), (1, .int p0), (2, .long p1)]) (st1 := [.ref 24, .ref 24]) (fun _ _ _ => rfl) ?_
  refine jg_g (v := .int (S.1 24 14)) rfl kc_24 rfl rfl ?_
  refine jg_sg 2 (pc1 := 20) (lv1 := [(4, .ref b3), (0, .ref 24), (1, .int p0), (2, .long p1)]) (st1 := [.int ((S.1 24 14) - 1), .ref 24]) (fun _ _ _ => rfl) ?_
  refine jg_pi rfl kc_24 rfl (Nat.le_of_ble_eq_true rfl) rfl rfl (fun S4 _ => ?_)
  refine jg_sg 1 (pc1 := 24) (lv1 := [(4, .ref b3), (0, .ref 24), (1, .int p0), (2, .long p1)]) (st1 := [.ref 24]) (fun _ _ _ => rfl) ?_
  refine jg_g (v := .ref 46) rfl kc_24 rfl rfl ?_
  refine jg_sg 2 (pc1 := 29) (lv1 := [(4, .ref b3), (0, .ref 24), (1, .int p0), (2, .long p1)]) (st1 := [.ref 24, .int p0, .ref 46]) (fun _ _ _ => rfl) ?_
  refine jg_g (v := .ref 46) rfl kc_24 rfl rfl ?_
  refine jg_sg 1 (pc1 := 33) (lv1 := [(4, .ref b3), (0, .ref 24), (1, .int p0), (2, .long p1)]) (st1 := [.ref 24, .ref 46, .int p0, .ref 46]) (fun _ _ _ => rfl) ?_
  refine jg_g (v := .int (S4.1 24 14)) rfl kc_24 rfl rfl ?_
  refine jg_ial rfl kc_46 (fun g5 => ?_)
  refine jg_ias rfl kc_46 (fun g6 S7 _ => ?_)
  refine jg_sg 3 (pc1 := 41) (lv1 := [(4, .ref b3), (0, .ref 24), (1, .int p0), (2, .long p1)]) (st1 := [.int (lg_cmp p1 0)]) (fun _ _ _ => rfl) ?_
  refine jg_br (fun _ _ _ _ k1 k2 => jt_lif_lt (t := 52) rfl rfl k1 k2) (fun c8 => ?_) (fun c8 => ?_)
  · refine jg_lvs (lv1 := [(0, .ref 24), (4, .ref b3)]) rfl rfl ⟨rfl, rfl, trivial⟩ ?_
    exact kJ_J_free_52 (by omega) (by omega) b3 S7 hb3
  · refine jg_sg 3 (pc1 := 49) (lv1 := [(4, .ref b3), (0, .ref 24), (1, .int p0), (2, .long p1)]) (st1 := [.int (lg_cmp p1 10413791999999)]) (fun _ _ _ => rfl) ?_
    refine jg_br (fun _ _ _ _ k1 k2 => jt_lif_le (t := 61) rfl rfl k1 k2) (fun c10 => ?_) (fun c10 => ?_)
    · refine jg_sg 2 (pc1 := 64) (lv1 := [(4, .ref b3), (0, .ref 24), (1, .int p0), (2, .long p1)]) (st1 := [.long p1, .ref b3]) (fun _ _ _ => rfl) ?_
      refine jg_pl rfl (kc_B hb3) rfl (Nat.le_of_ble_eq_true rfl) rfl rfl (fun S11 _ => ?_)
      refine jg_sg 2 (pc1 := 70) (lv1 := [(4, .ref b3), (0, .ref 24), (1, .int p0), (2, .long p1)]) (st1 := [.int 1, .ref b3]) (fun _ _ _ => rfl) ?_
      refine jg_pi rfl (kc_B hb3) rfl (Nat.le_of_ble_eq_true rfl) rfl rfl (fun S12 _ => ?_)
      exact jg_rv rfl rfl rfl
    · refine jg_lvs (lv1 := [(0, .ref 24), (4, .ref b3)]) rfl rfl ⟨rfl, rfl, trivial⟩ ?_
      exact kJ_J_free_52 (by omega) (by omega) b3 S7 hb3
noncomputable def F_B_isAheadOf (a0 : Nat) (a1 : Nat) (S : jS) : Option Int32 := if (S.2.1 a0 4) = (S.2.1 a1 4) then (if (S.1 a0 8) = (S.1 a1 8) then (if (S.1 a1 2) ≤ (S.1 a0 2) then (some 0) else (some 1)) else (if (S.1 a0 8) ≤ (S.1 a1 8) then (some 0) else (some 1))) else (if (S.2.1 a1 4) ≤ (S.2.1 a0 4) then (some 0) else (some 1))
set_option maxRecDepth 20000 in
theorem kF_B_isAheadOf {q : Nat} (a0 : Nat) (a1 : Nat) (S : jS) (rF rL : Nat) (hF : 0 ≤ rF) (hL : 0 ≤ rL) (ha0 : jb_ a0 = true) (ha1 : jb_ a1 = true) : jg q jp_B_isAheadOf rF rL 0 [(0, .ref a0), (1, .ref a1)] [] S 0 (p_I S) (F_B_isAheadOf a0 a1 S) := by
  unfold F_B_isAheadOf
  refine jg_sg 1 (pc1 := 1) (lv1 := [(0, .ref a0), (1, .ref a1)]) (st1 := [.ref a0]) (fun _ _ _ => rfl) ?_
  refine jg_g (v := .long (S.2.1 a0 4)) rfl (kc_B ha0) rfl rfl ?_
  refine jg_sg 1 (pc1 := 5) (lv1 := [(0, .ref a0), (1, .ref a1)]) (st1 := [.ref a1, .long (S.2.1 a0 4)]) (fun _ _ _ => rfl) ?_
  refine jg_g (v := .long (S.2.1 a1 4)) rfl (kc_B ha1) rfl rfl ?_
  refine jg_sg 1 (pc1 := 9) (lv1 := [(0, .ref a0), (1, .ref a1)]) (st1 := [.int (lg_cmp (S.2.1 a0 4) (S.2.1 a1 4))]) (fun _ _ _ => rfl) ?_
  refine jg_br (fun _ _ _ _ k1 k2 => jt_lif_eq (t := 30) rfl rfl k1 k2) (fun c1 => ?_) (fun c1 => ?_)
  · refine jg_sg 1 (pc1 := 31) (lv1 := [(0, .ref a0), (1, .ref a1)]) (st1 := [.ref a0]) (fun _ _ _ => rfl) ?_
    refine jg_g (v := .int (S.1 a0 8)) rfl (kc_B ha0) rfl rfl ?_
    refine jg_sg 1 (pc1 := 35) (lv1 := [(0, .ref a0), (1, .ref a1)]) (st1 := [.ref a1, .int (S.1 a0 8)]) (fun _ _ _ => rfl) ?_
    refine jg_g (v := .int (S.1 a1 8)) rfl (kc_B ha1) rfl rfl ?_
    refine jg_br (fun _ _ _ _ k1 k2 => jt_icmp_eq (t := 58) rfl rfl k1 k2) (fun c2 => ?_) (fun c2 => ?_)
    · refine jg_sg 1 (pc1 := 59) (lv1 := [(0, .ref a0), (1, .ref a1)]) (st1 := [.ref a0]) (fun _ _ _ => rfl) ?_
      refine jg_g (v := .int (S.1 a0 2)) rfl (kc_B ha0) rfl rfl ?_
      refine jg_sg 1 (pc1 := 63) (lv1 := [(0, .ref a0), (1, .ref a1)]) (st1 := [.ref a1, .int (S.1 a0 2)]) (fun _ _ _ => rfl) ?_
      refine jg_g (v := .int (S.1 a1 2)) rfl (kc_B ha1) rfl rfl ?_
      refine jg_br (fun _ _ _ _ k1 k2 => jt_icmp_ge (t := 73) rfl rfl k1 k2) (fun c3 => ?_) (fun c3 => ?_)
      · refine jg_sg 1 (pc1 := 74) (lv1 := [(0, .ref a0), (1, .ref a1)]) (st1 := [.int 0]) (fun _ _ _ => rfl) ?_
        exact jg_ri rfl rfl rfl rfl
      · refine jg_sg 2 (pc1 := 74) (lv1 := [(0, .ref a0), (1, .ref a1)]) (st1 := [.int 1]) (fun _ _ _ => rfl) ?_
        exact jg_ri rfl rfl rfl rfl
    · refine jg_sg 1 (pc1 := 42) (lv1 := [(0, .ref a0), (1, .ref a1)]) (st1 := [.ref a0]) (fun _ _ _ => rfl) ?_
      refine jg_g (v := .int (S.1 a0 8)) rfl (kc_B ha0) rfl rfl ?_
      refine jg_sg 1 (pc1 := 46) (lv1 := [(0, .ref a0), (1, .ref a1)]) (st1 := [.ref a1, .int (S.1 a0 8)]) (fun _ _ _ => rfl) ?_
      refine jg_g (v := .int (S.1 a1 8)) rfl (kc_B ha1) rfl rfl ?_
      refine jg_br (fun _ _ _ _ k1 k2 => jt_icmp_le (t := 56) rfl rfl k1 k2) (fun c4 => ?_) (fun c4 => ?_)
      · refine jg_sg 1 (pc1 := 57) (lv1 := [(0, .ref a0), (1, .ref a1)]) (st1 := [.int 0]) (fun _ _ _ => rfl) ?_
        exact jg_ri rfl rfl rfl rfl
      · refine jg_sg 2 (pc1 := 57) (lv1 := [(0, .ref a0), (1, .ref a1)]) (st1 := [.int 1]) (fun _ _ _ => rfl) ?_
        exact jg_ri rfl rfl rfl rfl
  · refine jg_sg 1 (pc1 := 13) (lv1 := [(0, .ref a0), (1, .ref a1)]) (st1 := [.ref a0]) (fun _ _ _ => rfl) ?_
    refine jg_g (v := .long (S.2.1 a0 4)) rfl (kc_B ha0) rfl rfl ?_
    refine jg_sg 1 (pc1 := 17) (lv1 := [(0, .ref a0), (1, .ref a1)]) (st1 := [.ref a1, .long (S.2.1 a0 4)]) (fun _ _ _ => rfl) ?_
    refine jg_g (v := .long (S.2.1 a1 4)) rfl (kc_B ha1) rfl rfl ?_
    refine jg_sg 1 (pc1 := 21) (lv1 := [(0, .ref a0), (1, .ref a1)]) (st1 := [.int (lg_cmp (S.2.1 a0 4) (S.2.1 a1 4))]) (fun _ _ _ => rfl) ?_
    refine jg_br (fun _ _ _ _ k1 k2 => jt_lif_ge (t := 28) rfl rfl k1 k2) (fun c5 => ?_) (fun c5 => ?_)
    · refine jg_sg 1 (pc1 := 29) (lv1 := [(0, .ref a0), (1, .ref a1)]) (st1 := [.int 0]) (fun _ _ _ => rfl) ?_
      exact jg_ri rfl rfl rfl rfl
    · refine jg_sg 2 (pc1 := 29) (lv1 := [(0, .ref a0), (1, .ref a1)]) (st1 := [.int 1]) (fun _ _ _ => rfl) ?_
      exact jg_ri rfl rfl rfl rfl
noncomputable def J_J_firstPending_47 (kt4 : Int32 → Int32 → Option Int32) (S : jS) (x2 : Int32) : Option Int32 := kt4 x2 (x2 + 1)
set_option maxRecDepth 20000 in
theorem kJ_J_firstPending_47 {q rF rL : Nat} (hF : 1 ≤ rF) (hL : 21 ≤ rL) (S : jS) (kt4 : Int32 → Int32 → Option Int32) (ih4 : ∀ (x1 : Int32) (x2 : Int32), jg q jp_J_firstPending rF rL 4 [(0, .ref 24), (1, .int x1), (2, .int x2)] [] S 0 (p_I S) (kt4 x1 x2)) (x2 : Int32) : jg q jp_J_firstPending rF rL 47 [(0, .ref 24), (2, .int x2)] [] S 0 (p_I S) (J_J_firstPending_47 kt4 S x2) := by
  unfold J_J_firstPending_47
  refine jg_sg 4 (pc1 := 4) (lv1 := [(2, .int (x2 + 1)), (1, .int x2), (0, .ref 24)]) (st1 := []) (fun _ _ _ => rfl) ?_
  refine jg_lvs (lv1 := [(0, .ref 24), (1, .int x2), (2, .int (x2 + 1))]) rfl rfl ⟨rfl, rfl, rfl, trivial⟩ ?_
  exact ih4 x2 (x2 + 1)
noncomputable def L_J_firstPending_4 (S : jS) : Nat → Int32 → Int32 → Option Int32
  | 0, _, _ => none
  | f + 1, x1, x2 => if (S.1 24 10) ≤ x2 then (some x1) else (j_q (j_in x2 100) (if (S.1 (115 + ((x2 : Int32).toNatClampNeg)) 0) = 1 then (if x1 < 0 then (J_J_firstPending_47 (L_J_firstPending_4 S f) S x2) else (j_q (j_in x2 100) (j_q (j_in x1 100) ((F_B_isAheadOf (115 + ((x2 : Int32).toNatClampNeg)) (115 + ((x1 : Int32).toNatClampNeg)) S).bind (fun z7 => if z7 = 0 then ((L_J_firstPending_4 S f) x1 (x2 + 1)) else (J_J_firstPending_47 (L_J_firstPending_4 S f) S x2)))))) else ((L_J_firstPending_4 S f) x1 (x2 + 1))))
set_option maxRecDepth 20000 in
theorem kL_J_firstPending_4 {q rF rL : Nat} (hF : 1 ≤ rF) (hL : 21 ≤ rL) (S : jS)  : ∀ (f : Nat) (x1 : Int32) (x2 : Int32), jg q jp_J_firstPending rF rL 4 [(0, .ref 24), (1, .int x1), (2, .int x2)] [] S 0 (p_I S) (L_J_firstPending_4 S f x1 x2) := by
  intro f
  induction f with
  | zero => intro _ _; exact jg_none
  | succ f ih4 =>
    intro x1 x2
    rw [L_J_firstPending_4]
    refine jg_sg 2 (pc1 := 6) (lv1 := [(0, .ref 24), (1, .int x1), (2, .int x2)]) (st1 := [.ref 24, .int x2]) (fun _ _ _ => rfl) ?_
    refine jg_g (v := .int (S.1 24 10)) rfl kc_24 rfl rfl ?_
    refine jg_br (fun _ _ _ _ k1 k2 => jt_icmp_ge (t := 55) rfl rfl k1 k2) (fun c1 => ?_) (fun c1 => ?_)
    · refine jg_sg 1 (pc1 := 56) (lv1 := [(0, .ref 24), (1, .int x1), (2, .int x2)]) (st1 := [.int x1]) (fun _ _ _ => rfl) ?_
      exact jg_ri rfl rfl rfl rfl
    · refine jg_sg 1 (pc1 := 13) (lv1 := [(0, .ref 24), (1, .int x1), (2, .int x2)]) (st1 := [.ref 24]) (fun _ _ _ => rfl) ?_
      refine jg_g (v := .ref 45) rfl kc_24 rfl rfl ?_
      refine jg_sg 1 (pc1 := 17) (lv1 := [(0, .ref 24), (1, .int x1), (2, .int x2)]) (st1 := [.int x2, .ref 45]) (fun _ _ _ => rfl) ?_
      refine jg_aal (w := 115 + ((x2 : Int32).toNatClampNeg)) rfl rfl kc_45 rfl (fun g2 => ?_)
      refine jg_g (v := .int (S.1 (115 + ((x2 : Int32).toNatClampNeg)) 0)) rfl (kc_B (jb_m g2)) rfl rfl ?_
      refine jg_sg 1 (pc1 := 22) (lv1 := [(0, .ref 24), (1, .int x1), (2, .int x2)]) (st1 := [.int 1, .int (S.1 (115 + ((x2 : Int32).toNatClampNeg)) 0)]) (fun _ _ _ => rfl) ?_
      refine jg_br (fun _ _ _ _ k1 k2 => jt_icmp_ne (t := 49) rfl rfl k2 k1) (fun c3 => ?_) (fun c3 => ?_)
      · refine jg_sg 1 (pc1 := 26) (lv1 := [(0, .ref 24), (1, .int x1), (2, .int x2)]) (st1 := [.int x1]) (fun _ _ _ => rfl) ?_
        refine jg_br (fun _ _ _ _ k1 k2 => jt_if_lt (t := 47) rfl rfl k1 k2) (fun c4 => ?_) (fun c4 => ?_)
        · refine jg_lvs (lv1 := [(0, .ref 24), (2, .int x2)]) rfl rfl ⟨rfl, rfl, trivial⟩ ?_
          exact kJ_J_firstPending_47 (by omega) (by omega) S (L_J_firstPending_4 S f) ih4 x2
        · refine jg_sg 1 (pc1 := 30) (lv1 := [(0, .ref 24), (1, .int x1), (2, .int x2)]) (st1 := [.ref 24]) (fun _ _ _ => rfl) ?_
          refine jg_g (v := .ref 45) rfl kc_24 rfl rfl ?_
          refine jg_sg 1 (pc1 := 34) (lv1 := [(0, .ref 24), (1, .int x1), (2, .int x2)]) (st1 := [.int x2, .ref 45]) (fun _ _ _ => rfl) ?_
          refine jg_aal (w := 115 + ((x2 : Int32).toNatClampNeg)) rfl rfl kc_45 rfl (fun g5 => ?_)
          refine jg_sg 1 (pc1 := 36) (lv1 := [(0, .ref 24), (1, .int x1), (2, .int x2)]) (st1 := [.ref 24, .ref (115 + ((x2 : Int32).toNatClampNeg))]) (fun _ _ _ => rfl) ?_
          refine jg_g (v := .ref 45) rfl kc_24 rfl rfl ?_
          refine jg_sg 1 (pc1 := 40) (lv1 := [(0, .ref 24), (1, .int x1), (2, .int x2)]) (st1 := [.int x1, .ref 45, .ref (115 + ((x2 : Int32).toNatClampNeg))]) (fun _ _ _ => rfl) ?_
          refine jg_aal (w := 115 + ((x1 : Int32).toNatClampNeg)) rfl rfl kc_45 rfl (fun g6 => ?_)
          refine jg_cpI (m2 := jp_B_isAheadOf) (As := [.ref (115 + ((x2 : Int32).toNatClampNeg)), .ref (115 + ((x1 : Int32).toNatClampNeg))]) (r := []) (mx := 2) (jh_v (a := (115 + ((x2 : Int32).toNatClampNeg))) rfl rfl rfl (kc_B (jb_m g5)) rfl (Nat.le_of_ble_eq_true rfl) rfl rfl rfl (by omega) (by omega) (Nat.le_of_ble_eq_true rfl)) (kF_B_isAheadOf (115 + ((x2 : Int32).toNatClampNeg)) (115 + ((x1 : Int32).toNatClampNeg)) S _ _ (by omega) (by omega) ((jb_m g5)) ((jb_m g6))) (fun z7 => ?_)
          refine jg_br (fun _ _ _ _ k1 k2 => jt_if_eq (t := 49) rfl rfl k1 k2) (fun c8 => ?_) (fun c8 => ?_)
          · refine jg_sg 2 (pc1 := 4) (lv1 := [(2, .int (x2 + 1)), (0, .ref 24), (1, .int x1)]) (st1 := []) (fun _ _ _ => rfl) ?_
            refine jg_lvs (lv1 := [(0, .ref 24), (1, .int x1), (2, .int (x2 + 1))]) rfl rfl ⟨rfl, rfl, rfl, trivial⟩ ?_
            exact ih4 x1 (x2 + 1)
          · refine jg_lvs (lv1 := [(0, .ref 24), (2, .int x2)]) rfl rfl ⟨rfl, rfl, trivial⟩ ?_
            exact kJ_J_firstPending_47 (by omega) (by omega) S (L_J_firstPending_4 S f) ih4 x2
      · refine jg_sg 2 (pc1 := 4) (lv1 := [(2, .int (x2 + 1)), (0, .ref 24), (1, .int x1)]) (st1 := []) (fun _ _ _ => rfl) ?_
        refine jg_lvs (lv1 := [(0, .ref 24), (1, .int x1), (2, .int (x2 + 1))]) rfl rfl ⟨rfl, rfl, rfl, trivial⟩ ?_
        exact ih4 x1 (x2 + 1)
noncomputable def F_J_firstPending  (S : jS) : Option Int32 := L_J_firstPending_4 S ju_ (-1) 0
set_option maxRecDepth 20000 in
theorem kF_J_firstPending {q : Nat}  (S : jS) (rF rL : Nat) (hF : 1 ≤ rF) (hL : 21 ≤ rL)  : jg q jp_J_firstPending rF rL 0 [(0, .ref 24)] [] S 0 (p_I S) (F_J_firstPending S) := by
  unfold F_J_firstPending
  refine jg_sg 4 (pc1 := 4) (lv1 := [(2, .int 0), (1, .int (-1)), (0, .ref 24)]) (st1 := []) (fun _ _ _ => rfl) ?_
  refine jg_lvs (lv1 := [(0, .ref 24), (1, .int (-1)), (2, .int 0)]) rfl rfl ⟨rfl, rfl, rfl, trivial⟩ ?_
  exact kL_J_firstPending_4 (by omega) (by omega) S ju_ (-1) 0
end JF7
