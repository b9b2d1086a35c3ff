section JF3
noncomputable def J_CR_readCron_76 (x1 : Nat) (S : jS) : Option jS := (F_T_isDone S).bind (fun z17 => if z17 = 0 then ((F_T_requireBlanks S).bind (fun z19 => (F_CR_readItems x1 6 z19).bind (fun z20 => (F_T_requireEnd z20).bind (fun z21 => some z21)))) else ((F_CR_addSome x1 6 1970 2299 1 S).bind (fun z22 => some z22)))
set_option maxRecDepth 20000 in
theorem kJ_CR_readCron_76 {q rF rL : Nat} (hF : 11 ≤ rF) (hL : 270 ≤ rL)   (x1 : Nat) (S : jS) (hx1 : jc_ x1 = true) : jg q jp_CR_readCron rF rL 76 [(0, .ref 25), (1, .ref x1)] [] S 0 s_V (J_CR_readCron_76 x1 S) := by
  unfold J_CR_readCron_76
  refine jg_sg 1 (pc1 := 77) (lv1 := [(0, .ref 25), (1, .ref x1)]) (st1 := [.ref 25]) (fun _ _ _ => rfl) ?_
  refine jg_cpI (m2 := jp_T_isDone) (As := [.ref 25]) (r := []) (mx := 1) (jh_v (a := 25) rfl rfl rfl kc_25 rfl (Nat.le_of_ble_eq_true rfl) rfl rfl rfl (by omega) (by omega) (Nat.le_of_ble_eq_true rfl)) (kF_T_isDone S _ _ (by omega) (by omega) ) (fun z17 => ?_)
  refine jg_br (fun _ _ _ _ k1 k2 => jt_if_eq (t := 97) rfl rfl k1 k2) (fun c18 => ?_) (fun c18 => ?_)
  · refine jg_sg 1 (pc1 := 98) (lv1 := [(0, .ref 25), (1, .ref x1)]) (st1 := [.ref 25]) (fun _ _ _ => rfl) ?_
    refine jg_csV (m2 := jp_T_requireBlanks) (As := [.ref 25]) (r := []) (mx := 1) (jh_v (a := 25) rfl rfl rfl kc_25 rfl (Nat.le_of_ble_eq_true rfl) rfl rfl rfl (by omega) (by omega) (Nat.le_of_ble_eq_true rfl)) (kF_T_requireBlanks S _ _ (by omega) (by omega) ) (fun z19 => ?_)
    refine jg_sg 3 (pc1 := 105) (lv1 := [(0, .ref 25), (1, .ref x1)]) (st1 := [.int 6, .ref x1, .ref 25]) (fun _ _ _ => rfl) ?_
    refine jg_csV (m2 := jp_CR_readItems) (As := [.ref 25, .ref x1, .int 6]) (r := []) (mx := 5) (jh_s rfl (fun _ _ _ => rfl) rfl rfl rfl (by omega) (by omega) (Nat.le_of_ble_eq_true rfl)) (kF_CR_readItems x1 6 z19 _ _ (by omega) (by omega) hx1) (fun z20 => ?_)
    refine jg_sg 1 (pc1 := 109) (lv1 := [(0, .ref 25), (1, .ref x1)]) (st1 := [.ref 25]) (fun _ _ _ => rfl) ?_
    refine jg_csV (m2 := jp_T_requireEnd) (As := [.ref 25]) (r := []) (mx := 1) (jh_v (a := 25) rfl rfl rfl kc_25 rfl (Nat.le_of_ble_eq_true rfl) rfl rfl rfl (by omega) (by omega) (Nat.le_of_ble_eq_true rfl)) (kF_T_requireEnd z20 _ _ (by omega) (by omega) ) (fun z21 => ?_)
    exact jg_rv rfl rfl rfl
  · refine jg_sg 5 (pc1 := 93) (lv1 := [(0, .ref 25), (1, .ref x1)]) (st1 := [.int 1, .int 2299, .int 1970, .int 6, .ref x1]) (fun _ _ _ => rfl) ?_
    refine jg_csV (m2 := jp_CR_addSome) (As := [.ref x1, .int 6, .int 1970, .int 2299, .int 1]) (r := []) (mx := 11) (jh_s rfl (fun _ _ _ => rfl) rfl rfl rfl (by omega) (by omega) (Nat.le_of_ble_eq_true rfl)) (kF_CR_addSome x1 6 1970 2299 1 S _ _ (by omega) (by omega) hx1) (fun z22 => ?_)
    exact jg_rv rfl rfl rfl
noncomputable def J_CR_readCron_48 (x1 : Nat) (S : jS) : Option jS := (F_T_requireBlanks S).bind (fun z11 => (F_CR_readItems x1 4 z11).bind (fun z12 => (F_T_requireBlanks z12).bind (fun z13 => (F_CR_takeWeekdayRule x1 z13).bind (fun z14 => if z14.1 = 0 then ((F_CR_readItems x1 5 z14.2).bind (fun z16 => J_CR_readCron_76 x1 z16)) else (J_CR_readCron_76 x1 z14.2)))))
set_option maxRecDepth 20000 in
theorem kJ_CR_readCron_48 {q rF rL : Nat} (hF : 11 ≤ rF) (hL : 270 ≤ rL)   (x1 : Nat) (S : jS) (hx1 : jc_ x1 = true) : jg q jp_CR_readCron rF rL 48 [(0, .ref 25), (1, .ref x1)] [] S 0 s_V (J_CR_readCron_48 x1 S) := by
  unfold J_CR_readCron_48
  refine jg_sg 1 (pc1 := 49) (lv1 := [(0, .ref 25), (1, .ref x1)]) (st1 := [.ref 25]) (fun _ _ _ => rfl) ?_
  refine jg_csV (m2 := jp_T_requireBlanks) (As := [.ref 25]) (r := []) (mx := 1) (jh_v (a := 25) rfl rfl rfl kc_25 rfl (Nat.le_of_ble_eq_true rfl) rfl rfl rfl (by omega) (by omega) (Nat.le_of_ble_eq_true rfl)) (kF_T_requireBlanks S _ _ (by omega) (by omega) ) (fun z11 => ?_)
  refine jg_sg 3 (pc1 := 55) (lv1 := [(0, .ref 25), (1, .ref x1)]) (st1 := [.int 4, .ref x1, .ref 25]) (fun _ _ _ => rfl) ?_
  refine jg_csV (m2 := jp_CR_readItems) (As := [.ref 25, .ref x1, .int 4]) (r := []) (mx := 5) (jh_s rfl (fun _ _ _ => rfl) rfl rfl rfl (by omega) (by omega) (Nat.le_of_ble_eq_true rfl)) (kF_CR_readItems x1 4 z11 _ _ (by omega) (by omega) hx1) (fun z12 => ?_)
  refine jg_sg 1 (pc1 := 59) (lv1 := [(0, .ref 25), (1, .ref x1)]) (st1 := [.ref 25]) (fun _ _ _ => rfl) ?_
  refine jg_csV (m2 := jp_T_requireBlanks) (As := [.ref 25]) (r := []) (mx := 1) (jh_v (a := 25) rfl rfl rfl kc_25 rfl (Nat.le_of_ble_eq_true rfl) rfl rfl rfl (by omega) (by omega) (Nat.le_of_ble_eq_true rfl)) (kF_T_requireBlanks z12 _ _ (by omega) (by omega) ) (fun z13 => ?_)
  refine jg_sg 2 (pc1 := 64) (lv1 := [(0, .ref 25), (1, .ref x1)]) (st1 := [.ref x1, .ref 25]) (fun _ _ _ => rfl) ?_
  refine jg_csI (m2 := jp_CR_takeWeekdayRule) (As := [.ref 25, .ref x1]) (r := []) (mx := 2) (jh_s rfl (fun _ _ _ => rfl) rfl rfl rfl (by omega) (by omega) (Nat.le_of_ble_eq_true rfl)) (kF_CR_takeWeekdayRule x1 z13 _ _ (by omega) (by omega) hx1) (fun z14 => ?_)
  refine jg_br (fun _ _ _ _ k1 k2 => jt_if_ne (t := 76) rfl rfl k2 k1) (fun c15 => ?_) (fun c15 => ?_)
  · refine jg_sg 3 (pc1 := 73) (lv1 := [(0, .ref 25), (1, .ref x1)]) (st1 := [.int 5, .ref x1, .ref 25]) (fun _ _ _ => rfl) ?_
    refine jg_csV (m2 := jp_CR_readItems) (As := [.ref 25, .ref x1, .int 5]) (r := []) (mx := 5) (jh_s rfl (fun _ _ _ => rfl) rfl rfl rfl (by omega) (by omega) (Nat.le_of_ble_eq_true rfl)) (kF_CR_readItems x1 5 z14.2 _ _ (by omega) (by omega) hx1) (fun z16 => ?_)
    refine jg_lvs (lv1 := [(0, .ref 25), (1, .ref x1)]) rfl rfl ⟨rfl, rfl, trivial⟩ ?_
    exact kJ_CR_readCron_76 (by omega) (by omega) x1 z16 hx1
  · refine jg_lvs (lv1 := [(0, .ref 25), (1, .ref x1)]) rfl rfl ⟨rfl, rfl, trivial⟩ ?_
    exact kJ_CR_readCron_76 (by omega) (by omega) x1 z14.2 hx1
noncomputable def F_CR_readCron (a0 : Nat) (S : jS) : Option jS := (F_C_clear a0 S).bind (fun z1 => (F_CR_readItems a0 0 z1).bind (fun z2 => (F_T_requireBlanks z2).bind (fun z3 => (F_CR_readItems a0 1 z3).bind (fun z4 => (F_T_requireBlanks z4).bind (fun z5 => (F_CR_readItems a0 2 z5).bind (fun z6 => (F_T_requireBlanks z6).bind (fun z7 => (F_CR_takeDayRule a0 z7).bind (fun z8 => if z8.1 = 0 then ((F_CR_readItems a0 3 z8.2).bind (fun z10 => J_CR_readCron_48 a0 z10)) else (J_CR_readCron_48 a0 z8.2)))))))))
set_option maxRecDepth 20000 in
theorem kF_CR_readCron {q : Nat} (a0 : Nat) (S : jS) (rF rL : Nat) (hF : 11 ≤ rF) (hL : 270 ≤ rL) (ha0 : jc_ a0 = true) : jg q jp_CR_readCron rF rL 0 [(0, .ref 25), (1, .ref a0)] [] S 0 s_V (F_CR_readCron a0 S) := by
  unfold F_CR_readCron
  refine jg_sg 1 (pc1 := 1) (lv1 := [(0, .ref 25), (1, .ref a0)]) (st1 := [.ref a0]) (fun _ _ _ => rfl) ?_
  refine jg_csV (m2 := jp_C_clear) (As := [.ref a0]) (r := []) (mx := 2) (jh_v (a := a0) rfl rfl rfl (kc_C ha0) rfl (Nat.le_of_ble_eq_true rfl) rfl rfl rfl (by omega) (by omega) (Nat.le_of_ble_eq_true rfl)) (kF_C_clear a0 S _ _ (by omega) (by omega) ha0) (fun z1 => ?_)
  refine jg_sg 3 (pc1 := 7) (lv1 := [(0, .ref 25), (1, .ref a0)]) (st1 := [.int 0, .ref a0, .ref 25]) (fun _ _ _ => rfl) ?_
  refine jg_csV (m2 := jp_CR_readItems) (As := [.ref 25, .ref a0, .int 0]) (r := []) (mx := 5) (jh_s rfl (fun _ _ _ => rfl) rfl rfl rfl (by omega) (by omega) (Nat.le_of_ble_eq_true rfl)) (kF_CR_readItems a0 0 z1 _ _ (by omega) (by omega) ha0) (fun z2 => ?_)
  refine jg_sg 1 (pc1 := 11) (lv1 := [(0, .ref 25), (1, .ref a0)]) (st1 := [.ref 25]) (fun _ _ _ => rfl) ?_
  refine jg_csV (m2 := jp_T_requireBlanks) (As := [.ref 25]) (r := []) (mx := 1) (jh_v (a := 25) rfl rfl rfl kc_25 rfl (Nat.le_of_ble_eq_true rfl) rfl rfl rfl (by omega) (by omega) (Nat.le_of_ble_eq_true rfl)) (kF_T_requireBlanks z2 _ _ (by omega) (by omega) ) (fun z3 => ?_)
  refine jg_sg 3 (pc1 := 17) (lv1 := [(0, .ref 25), (1, .ref a0)]) (st1 := [.int 1, .ref a0, .ref 25]) (fun _ _ _ => rfl) ?_
  refine jg_csV (m2 := jp_CR_readItems) (As := [.ref 25, .ref a0, .int 1]) (r := []) (mx := 5) (jh_s rfl (fun _ _ _ => rfl) rfl rfl rfl (by omega) (by omega) (Nat.le_of_ble_eq_true rfl)) (kF_CR_readItems a0 1 z3 _ _ (by omega) (by omega) ha0) (fun z4 => ?_)
  refine jg_sg 1 (pc1 := 21) (lv1 := [(0, .ref 25), (1, .ref a0)]) (st1 := [.ref 25]) (fun _ _ _ => rfl) ?_
  refine jg_csV (m2 := jp_T_requireBlanks) (As := [.ref 25]) (r := []) (mx := 1) (jh_v (a := 25) rfl rfl rfl kc_25 rfl (Nat.le_of_ble_eq_true rfl) rfl rfl rfl (by omega) (by omega) (Nat.le_of_ble_eq_true rfl)) (kF_T_requireBlanks z4 _ _ (by omega) (by omega) ) (fun z5 => ?_)
  refine jg_sg 3 (pc1 := 27) (lv1 := [(0, .ref 25), (1, .ref a0)]) (st1 := [.int 2, .ref a0, .ref 25]) (fun _ _ _ => rfl) ?_
  refine jg_csV (m2 := jp_CR_readItems) (As := [.ref 25, .ref a0, .int 2]) (r := []) (mx := 5) (jh_s rfl (fun _ _ _ => rfl) rfl rfl rfl (by omega) (by omega) (Nat.le_of_ble_eq_true rfl)) (kF_CR_readItems a0 2 z5 _ _ (by omega) (by omega) ha0) (fun z6 => ?_)
  refine jg_sg 1 (pc1 := 31) (lv1 := [(0, .ref 25), (1, .ref a0)]) (st1 := [.ref 25]) (fun _ _ _ => rfl) ?_
  refine jg_csV (m2 := jp_T_requireBlanks) (As := [.ref 25]) (r := []) (mx := 1) (jh_v (a := 25) rfl rfl rfl kc_25 rfl (Nat.le_of_ble_eq_true rfl) rfl rfl rfl (by omega) (by omega) (Nat.le_of_ble_eq_true rfl)) (kF_T_requireBlanks z6 _ _ (by omega) (by omega) ) (fun z7 => ?_)
  refine jg_sg 2 (pc1 := 36) (lv1 := [(0, .ref 25), (1, .ref a0)]) (st1 := [.ref a0, .ref 25]) (fun _ _ _ => rfl) ?_
  refine jg_csI (m2 := jp_CR_takeDayRule) (As := [.ref 25, .ref a0]) (r := []) (mx := 2) (jh_s rfl (fun _ _ _ => rfl) rfl rfl rfl (by omega) (by omega) (Nat.le_of_ble_eq_true rfl)) (kF_CR_takeDayRule a0 z7 _ _ (by omega) (by omega) ha0) (fun z8 => ?_)
  refine jg_br (fun _ _ _ _ k1 k2 => jt_if_ne (t := 48) rfl rfl k2 k1) (fun c9 => ?_) (fun c9 => ?_)
  · refine jg_sg 3 (pc1 := 45) (lv1 := [(0, .ref 25), (1, .ref a0)]) (st1 := [.int 3, .ref a0, .ref 25]) (fun _ _ _ => rfl) ?_
    refine jg_csV (m2 := jp_CR_readItems) (As := [.ref 25, .ref a0, .int 3]) (r := []) (mx := 5) (jh_s rfl (fun _ _ _ => rfl) rfl rfl rfl (by omega) (by omega) (Nat.le_of_ble_eq_true rfl)) (kF_CR_readItems a0 3 z8.2 _ _ (by omega) (by omega) ha0) (fun z10 => ?_)
    refine jg_lvs (lv1 := [(0, .ref 25), (1, .ref a0)]) rfl rfl ⟨rfl, rfl, trivial⟩ ?_
    exact kJ_CR_readCron_48 (by omega) (by omega) a0 z10 ha0
  · refine jg_lvs (lv1 := [(0, .ref 25), (1, .ref a0)]) rfl rfl ⟨rfl, rfl, trivial⟩ ?_
    exact kJ_CR_readCron_48 (by omega) (by omega) a0 z8.2 ha0
noncomputable def F_J_cron (p0 : Int32) (S : jS) : Option (Option Nat × jS) := j_xv (F_J_checkRange ((p0 : Int32).toInt64) 0 15 S) (fun c S => (some c, S)) (fun S1 => (F_T_rewind S1).bind (fun z2 => j_q (jc_ (z2.2.2 24 7)) ((F_CR_readCron (z2.2.2 24 7) z2).bind (fun z4 => j_l (w_i z4 25 1 0) (fun S5 => j_xv (F_J_checkNotBroken S5) (fun c S => (some c, S)) (fun S6 => j_q (j_in p0 16) (j_q (jc_ (S6.2.2 28 ((p0 : Int32).toNatClampNeg))) (j_l (S6.2.2 28 ((p0 : Int32).toNatClampNeg) : Nat) (fun b9 => j_q (jc_ (S6.2.2 24 7)) (j_q (j_in p0 16) (j_l (w_r S6 28 ((p0 : Int32).toNatClampNeg) (S6.2.2 24 7)) (fun S12 => j_l (w_r S12 24 7 b9) (fun S13 => some (none, S13))))))))))))))
set_option maxRecDepth 20000 in
theorem kF_J_cron {q : Nat} (p0 : Int32) (S : jS) (rF rL : Nat) (hF : 12 ≤ rF) (hL : 291 ≤ rL)  : jg q jp_J_cron rF rL 0 [(0, .ref 24), (1, .int p0)] [] S 0 x_V (F_J_cron p0 S) := by
  unfold F_J_cron
  refine jg_sg 4 (pc1 := 6) (lv1 := [(0, .ref 24), (1, .int p0)]) (st1 := [.long 15, .long 0, .long ((p0 : Int32).toInt64)]) (fun _ _ _ => rfl) ?_
  refine jg_cxV (m2 := jp_J_checkRange) (As := [.long ((p0 : Int32).toInt64), .long 0, .long 15]) (r := []) (mx := 6) (jh_s rfl (fun _ _ _ => rfl) rfl rfl rfl (by omega) (by omega) (Nat.le_of_ble_eq_true rfl)) rfl (fun _ _ => rfl) (kF_J_checkRange ((p0 : Int32).toInt64) 0 15 S _ _ (by omega) (by omega) ) (fun S1 => ?_)
  refine jg_sg 1 (pc1 := 10) (lv1 := [(0, .ref 24), (1, .int p0)]) (st1 := [.ref 24]) (fun _ _ _ => rfl) ?_
  refine jg_g (v := .ref 25) rfl kc_24 rfl rfl ?_
  refine jg_csV (m2 := jp_T_rewind) (As := [.ref 25]) (r := []) (mx := 1) (jh_v (a := 25) rfl rfl rfl kc_25 rfl (Nat.le_of_ble_eq_true rfl) rfl rfl rfl (by omega) (by omega) (Nat.le_of_ble_eq_true rfl)) (kF_T_rewind S1 _ _ (by omega) (by omega) ) (fun z2 => ?_)
  refine jg_sg 1 (pc1 := 17) (lv1 := [(0, .ref 24), (1, .int p0)]) (st1 := [.ref 24]) (fun _ _ _ => rfl) ?_
  refine jg_g (v := .ref 25) rfl kc_24 rfl rfl ?_
  refine jg_sg 1 (pc1 := 21) (lv1 := [(0, .ref 24), (1, .int p0)]) (st1 := [.ref 24, .ref 25]) (fun _ _ _ => rfl) ?_
  refine jg_g (v := .ref (z2.2.2 24 7)) rfl kc_24 rfl rfl ?_
  refine jg_q (fun g3 => ?_)
  refine jg_csV (m2 := jp_CR_readCron) (As := [.ref 25, .ref (z2.2.2 24 7)]) (r := []) (mx := 2) (jh_s rfl (fun _ _ _ => rfl) rfl rfl rfl (by omega) (by omega) (Nat.le_of_ble_eq_true rfl)) (kF_CR_readCron (z2.2.2 24 7) z2 _ _ (by omega) (by omega) g3) (fun z4 => ?_)
  refine jg_sg 1 (pc1 := 28) (lv1 := [(0, .ref 24), (1, .int p0)]) (st1 := [.ref 24]) (fun _ _ _ => rfl) ?_
  refine jg_g (v := .ref 25) rfl kc_24 rfl rfl ?_
  refine jg_sg 1 (pc1 := 32) (lv1 := [(0, .ref 24), (1, .int p0)]) (st1 := [.int 0, .ref 25]) (fun _ _ _ => rfl) ?_
  refine jg_pi rfl kc_25 rfl (Nat.le_of_ble_eq_true rfl) rfl rfl (fun S5 _ => ?_)
  refine jg_sg 1 (pc1 := 36) (lv1 := [(0, .ref 24), (1, .int p0)]) (st1 := [.ref 24]) (fun _ _ _ => rfl) ?_
  refine jg_cxV (m2 := jp_J_checkNotBroken) (As := [.ref 24]) (r := []) (mx := 1) (jh_v (a := 24) rfl rfl rfl kc_24 rfl (Nat.le_of_ble_eq_true rfl) rfl rfl rfl (by omega) (by omega) (Nat.le_of_ble_eq_true rfl)) rfl (fun _ _ => rfl) (kF_J_checkNotBroken S5 _ _ (by omega) (by omega) ) (fun S6 => ?_)
  refine jg_sg 1 (pc1 := 40) (lv1 := [(0, .ref 24), (1, .int p0)]) (st1 := [.ref 24]) (fun _ _ _ => rfl) ?_
  refine jg_g (v := .ref 28) rfl kc_24 rfl rfl ?_
  refine jg_sg 1 (pc1 := 44) (lv1 := [(0, .ref 24), (1, .int p0)]) (st1 := [.int p0, .ref 28]) (fun _ _ _ => rfl) ?_
  refine jg_aal (w := S6.2.2 28 ((p0 : Int32).toNatClampNeg)) rfl rfl kc_28 rfl (fun g7 => ?_)
  refine jg_q (fun g8 => ?_)
  refine jg_sg 1 (pc1 := 46) (lv1 := [(2, .ref (S6.2.2 28 ((p0 : Int32).toNatClampNeg))), (0, .ref 24), (1, .int p0)]) (st1 := []) (fun _ _ _ => rfl) ?_
  refine jg_va (P := fun b => jc_ b = true) g8 (fun b9 hb9 => ?_)
  refine jg_sg 1 (pc1 := 47) (lv1 := [(2, .ref b9), (0, .ref 24), (1, .int p0)]) (st1 := [.ref 24]) (fun _ _ _ => rfl) ?_
  refine jg_g (v := .ref 28) rfl kc_24 rfl rfl ?_
  refine jg_sg 2 (pc1 := 52) (lv1 := [(2, .ref b9), (0, .ref 24), (1, .int p0)]) (st1 := [.ref 24, .int p0, .ref 28]) (fun _ _ _ => rfl) ?_
  refine jg_g (v := .ref (S6.2.2 24 7)) rfl kc_24 rfl rfl ?_
  refine jg_q (fun g10 => ?_)
  refine jg_aas rfl (by decide) kc_28 (kc_C g10) rfl rfl (fun g11 S12 _ => ?_)
  refine jg_sg 2 (pc1 := 58) (lv1 := [(2, .ref b9), (0, .ref 24), (1, .int p0)]) (st1 := [.ref b9, .ref 24]) (fun _ _ _ => rfl) ?_
  refine jg_pr rfl kc_24 rfl (Nat.le_of_ble_eq_true rfl) rfl rfl (fun S13 _ => ?_)
  exact jg_rv rfl rfl rfl
noncomputable def L_H_placeOf_7 (S : jS) : Nat → Nat → Int32 → Int32 → Int32 → Option Int32
  | 0, _, _, _, _ => none
  | f + 1, x0, x1, x2, x3 => if x3 ≤ x2 then (if (S.1 x0 1) ≤ x2 then (some ((-1) - x2)) else (j_q (j_in x2 (hn_ x0)) (if (S.1 (x0 + 1) ((x2 : Int32).toNatClampNeg)) = x1 then (some x2) else (some ((-1) - x2))))) else (j_l ((x2 + x3) / 2 : Int32) (fun v6 => j_q (j_in v6 (hn_ x0)) (if x1 ≤ (S.1 (x0 + 1) ((v6 : Int32).toNatClampNeg)) then ((L_H_placeOf_7 S f) x0 x1 x2 v6) else (j_l (v6 + 1 : Int32) (fun v9 => (L_H_placeOf_7 S f) x0 x1 v9 x3)))))
set_option maxRecDepth 20000 in
theorem kL_H_placeOf_7 {q rF rL : Nat} (hF : 0 ≤ rF) (hL : 0 ≤ rL) (S : jS)  : ∀ (f : Nat) (x0 : Nat) (x1 : Int32) (x2 : Int32) (x3 : Int32), jh_ x0 = true → jg q jp_H_placeOf rF rL 7 [(0, .ref x0), (1, .int x1), (2, .int x2), (3, .int x3)] [] S 0 (p_I S) (L_H_placeOf_7 S f x0 x1 x2 x3) := by
  intro f
  induction f with
  | zero => intro _ _ _ _ _; exact jg_none
  | succ f ih7 =>
    intro x0 x1 x2 x3 hx0
    rw [L_H_placeOf_7]
    refine jg_sg 2 (pc1 := 9) (lv1 := [(0, .ref x0), (1, .int x1), (2, .int x2), (3, .int x3)]) (st1 := [.int x3, .int x2]) (fun _ _ _ => rfl) ?_
    refine jg_br (fun _ _ _ _ k1 k2 => jt_icmp_ge (t := 44) rfl rfl k1 k2) (fun c2 => ?_) (fun c2 => ?_)
    · refine jg_sg 2 (pc1 := 46) (lv1 := [(0, .ref x0), (1, .int x1), (2, .int x2), (3, .int x3)]) (st1 := [.ref x0, .int x2]) (fun _ _ _ => rfl) ?_
      refine jg_g (v := .int (S.1 x0 1)) rfl (kc_H hx0) rfl rfl ?_
      refine jg_br (fun _ _ _ _ k1 k2 => jt_icmp_ge (t := 66) rfl rfl k1 k2) (fun c3 => ?_) (fun c3 => ?_)
      · refine jg_sg 3 (pc1 := 69) (lv1 := [(0, .ref x0), (1, .int x1), (2, .int x2), (3, .int x3)]) (st1 := [.int ((-1) - x2)]) (fun _ _ _ => rfl) ?_
        exact jg_ri rfl rfl rfl rfl
      · refine jg_sg 1 (pc1 := 53) (lv1 := [(0, .ref x0), (1, .int x1), (2, .int x2), (3, .int x3)]) (st1 := [.ref x0]) (fun _ _ _ => rfl) ?_
        refine jg_g (v := .ref (x0 + 1)) rfl (kc_H hx0) rfl rfl ?_
        refine jg_sg 1 (pc1 := 57) (lv1 := [(0, .ref x0), (1, .int x1), (2, .int x2), (3, .int x3)]) (st1 := [.int x2, .ref (x0 + 1)]) (fun _ _ _ => rfl) ?_
        refine jg_ial rfl (kc_HA hx0) (fun g4 => ?_)
        refine jg_sg 1 (pc1 := 59) (lv1 := [(0, .ref x0), (1, .int x1), (2, .int x2), (3, .int x3)]) (st1 := [.int x1, .int (S.1 (x0 + 1) ((x2 : Int32).toNatClampNeg))]) (fun _ _ _ => rfl) ?_
        refine jg_br (fun _ _ _ _ k1 k2 => jt_icmp_ne (t := 66) rfl rfl k2 k1) (fun c5 => ?_) (fun c5 => ?_)
        · refine jg_sg 2 (pc1 := 69) (lv1 := [(0, .ref x0), (1, .int x1), (2, .int x2), (3, .int x3)]) (st1 := [.int x2]) (fun _ _ _ => rfl) ?_
          exact jg_ri rfl rfl rfl rfl
        · refine jg_sg 3 (pc1 := 69) (lv1 := [(0, .ref x0), (1, .int x1), (2, .int x2), (3, .int x3)]) (st1 := [.int ((-1) - x2)]) (fun _ _ _ => rfl) ?_
          exact jg_ri rfl rfl rfl rfl
    · refine jg_sg 4 (pc1 := 16) (lv1 := [(0, .ref x0), (1, .int x1), (2, .int x2), (3, .int x3)]) (st1 := [.int 2, .int (x2 + x3)]) (fun _ _ _ => rfl) ?_
      refine jg_st (fun _ _ _ _ _ k => jt_idiv rfl (by decide +kernel) k) ?_
      refine jg_sg 1 (pc1 := 19) (lv1 := [(4, .int ((x2 + x3) / 2)), (0, .ref x0), (1, .int x1), (2, .int x2), (3, .int x3)]) (st1 := []) (fun _ _ _ => rfl) ?_
      refine jg_vi (fun v6 => ?_)
      refine jg_sg 1 (pc1 := 20) (lv1 := [(4, .int v6), (0, .ref x0), (1, .int x1), (2, .int x2), (3, .int x3)]) (st1 := [.ref x0]) (fun _ _ _ => rfl) ?_
      refine jg_g (v := .ref (x0 + 1)) rfl (kc_H hx0) rfl rfl ?_
      refine jg_sg 1 (pc1 := 25) (lv1 := [(4, .int v6), (0, .ref x0), (1, .int x1), (2, .int x2), (3, .int x3)]) (st1 := [.int v6, .ref (x0 + 1)]) (fun _ _ _ => rfl) ?_
      refine jg_ial rfl (kc_HA hx0) (fun g7 => ?_)
      refine jg_sg 1 (pc1 := 27) (lv1 := [(4, .int v6), (0, .ref x0), (1, .int x1), (2, .int x2), (3, .int x3)]) (st1 := [.int x1, .int (S.1 (x0 + 1) ((v6 : Int32).toNatClampNeg))]) (fun _ _ _ => rfl) ?_
      refine jg_br (fun _ _ _ _ k1 k2 => jt_icmp_ge (t := 38) rfl rfl k1 k2) (fun c8 => ?_) (fun c8 => ?_)
      · refine jg_sg 3 (pc1 := 7) (lv1 := [(3, .int v6), (4, .int v6), (0, .ref x0), (1, .int x1), (2, .int x2)]) (st1 := []) (fun _ _ _ => rfl) ?_
        refine jg_lvs (lv1 := [(0, .ref x0), (1, .int x1), (2, .int x2), (3, .int v6)]) rfl rfl ⟨rfl, rfl, rfl, rfl, trivial⟩ ?_
        exact ih7 x0 x1 x2 v6 hx0
      · refine jg_sg 4 (pc1 := 35) (lv1 := [(2, .int (v6 + 1)), (4, .int v6), (0, .ref x0), (1, .int x1), (3, .int x3)]) (st1 := []) (fun _ _ _ => rfl) ?_
        refine jg_vi (fun v9 => ?_)
        refine jg_sg 2 (pc1 := 7) (lv1 := [(2, .int v9), (4, .int v6), (0, .ref x0), (1, .int x1), (3, .int x3)]) (st1 := []) (fun _ _ _ => rfl) ?_
        refine jg_lvs (lv1 := [(0, .ref x0), (1, .int x1), (2, .int v9), (3, .int x3)]) rfl rfl ⟨rfl, rfl, rfl, rfl, trivial⟩ ?_
        exact ih7 x0 x1 v9 x3 hx0
noncomputable def F_H_placeOf (a0 : Nat) (p0 : Int32) (S : jS) : Option Int32 := j_l (S.1 a0 1 : Int32) (fun v1 => L_H_placeOf_7 S ju_ a0 p0 0 v1)
set_option maxRecDepth 20000 in
theorem kF_H_placeOf {q : Nat} (a0 : Nat) (p0 : Int32) (S : jS) (rF rL : Nat) (hF : 0 ≤ rF) (hL : 0 ≤ rL) (ha0 : jh_ a0 = true) : jg q jp_H_placeOf rF rL 0 [(0, .ref a0), (1, .int p0)] [] S 0 (p_I S) (F_H_placeOf a0 p0 S) := by
  unfold F_H_placeOf
  refine jg_sg 3 (pc1 := 3) (lv1 := [(2, .int 0), (0, .ref a0), (1, .int p0)]) (st1 := [.ref a0]) (fun _ _ _ => rfl) ?_
  refine jg_g (v := .int (S.1 a0 1)) rfl (kc_H ha0) rfl rfl ?_
  refine jg_sg 1 (pc1 := 7) (lv1 := [(3, .int (S.1 a0 1)), (2, .int 0), (0, .ref a0), (1, .int p0)]) (st1 := []) (fun _ _ _ => rfl) ?_
  refine jg_vi (fun v1 => ?_)
  refine jg_lvs (lv1 := [(0, .ref a0), (1, .int p0), (2, .int 0), (3, .int v1)]) rfl rfl ⟨rfl, rfl, rfl, rfl, trivial⟩ ?_
  exact kL_H_placeOf_7 (by omega) (by omega) S ju_ a0 p0 0 v1 ha0
noncomputable def F_H_insert (a0 : Nat) (p0 : Int32) (p1 : Int32) (S : jS) : Option jS := j_q (cp_ok p0 (p0 + 1) ((S.1 a0 1) - p0) (hn_ a0)) (j_l (w_c S (a0 + 1) (p0 : Int32).toNatClampNeg (p0 + 1 : Int32).toNatClampNeg ((S.1 a0 1) - p0 : Int32).toNatClampNeg) (fun S1 => j_q (j_in p0 (hn_ a0)) (j_l (w_i S1 (a0 + 1) ((p0 : Int32).toNatClampNeg) p1) (fun S3 => j_l (w_i S3 a0 1 ((S3.1 a0 1) + 1)) (fun S4 => some S4)))))
set_option maxRecDepth 20000 in
theorem kF_H_insert {q : Nat} (a0 : Nat) (p0 : Int32) (p1 : Int32) (S : jS) (rF rL : Nat) (hF : 6 ≤ rF) (hL : 150 ≤ rL) (ha0 : jh_ a0 = true) : jg q jp_H_insert rF rL 0 [(0, .ref a0), (1, .int p0), (2, .int p1)] [] S 0 s_V (F_H_insert a0 p0 p1 S) := by
  unfold F_H_insert
  refine jg_sg 1 (pc1 := 1) (lv1 := [(0, .ref a0), (1, .int p0), (2, .int p1)]) (st1 := [.ref a0]) (fun _ _ _ => rfl) ?_
  refine jg_g (v := .ref (a0 + 1)) rfl (kc_H ha0) rfl rfl ?_
  refine jg_sg 2 (pc1 := 6) (lv1 := [(0, .ref a0), (1, .int p0), (2, .int p1)]) (st1 := [.ref a0, .int p0, .ref (a0 + 1)]) (fun _ _ _ => rfl) ?_
  refine jg_g (v := .ref (a0 + 1)) rfl (kc_H ha0) rfl rfl ?_
  refine jg_sg 4 (pc1 := 13) (lv1 := [(0, .ref a0), (1, .int p0), (2, .int p1)]) (st1 := [.ref a0, .int (p0 + 1), .ref (a0 + 1), .int p0, .ref (a0 + 1)]) (fun _ _ _ => rfl) ?_
  refine jg_g (v := .int (S.1 a0 1)) rfl (kc_H ha0) rfl rfl ?_
  refine jg_sg 2 (pc1 := 18) (lv1 := [(0, .ref a0), (1, .int p0), (2, .int p1)]) (st1 := [.int ((S.1 a0 1) - p0), .int (p0 + 1), .ref (a0 + 1), .int p0, .ref (a0 + 1)]) (fun _ _ _ => rfl) ?_
  refine jg_cpy rfl (kc_HA ha0) (Nat.le_of_ble_eq_true rfl) (by omega) (by omega) (fun S1 _ => ?_)
  refine jg_sg 1 (pc1 := 22) (lv1 := [(0, .ref a0), (1, .int p0), (2, .int p1)]) (st1 := [.ref a0]) (fun _ _ _ => rfl) ?_
  refine jg_g (v := .ref (a0 + 1)) rfl (kc_H ha0) rfl rfl ?_
  refine jg_sg 2 (pc1 := 27) (lv1 := [(0, .ref a0), (1, .int p0), (2, .int p1)]) (st1 := [.int p1, .int p0, .ref (a0 + 1)]) (fun _ _ _ => rfl) ?_
  refine jg_ias rfl (kc_HA ha0) (fun g2 S3 _ => ?_)
  refine jg_sg 2 (pc1 := 30) (lv1 := [(0, .ref a0), (1, .int p0), (2, .int p1)]) (st1 := [.ref a0, .ref a0]) (fun _ _ _ => rfl) ?_
  refine jg_g (v := .int (S3.1 a0 1)) rfl (kc_H ha0) rfl rfl ?_
  refine jg_sg 2 (pc1 := 35) (lv1 := [(0, .ref a0), (1, .int p0), (2, .int p1)]) (st1 := [.int ((S3.1 a0 1) + 1), .ref a0]) (fun _ _ _ => rfl) ?_
  refine jg_pi rfl (kc_H ha0) rfl (Nat.le_of_ble_eq_true rfl) rfl rfl (fun S4 _ => ?_)
  exact jg_rv rfl rfl rfl
noncomputable def F_H_removeAt (a0 : Nat) (p0 : Int32) (S : jS) : Option jS := j_q (cp_ok (p0 + 1) p0 (((S.1 a0 1) - p0) - 1) (hn_ a0)) (j_l (w_c S (a0 + 1) (p0 + 1 : Int32).toNatClampNeg (p0 : Int32).toNatClampNeg (((S.1 a0 1) - p0) - 1 : Int32).toNatClampNeg) (fun S1 => j_l (w_i S1 a0 1 ((S1.1 a0 1) - 1)) (fun S2 => some S2)))
set_option maxRecDepth 20000 in
theorem kF_H_removeAt {q : Nat} (a0 : Nat) (p0 : Int32) (S : jS) (rF rL : Nat) (hF : 6 ≤ rF) (hL : 150 ≤ rL) (ha0 : jh_ a0 = true) : jg q jp_H_removeAt rF rL 0 [(0, .ref a0), (1, .int p0)] [] S 0 s_V (F_H_removeAt a0 p0 S) := by
  unfold F_H_removeAt
  refine jg_sg 1 (pc1 := 1) (lv1 := [(0, .ref a0), (1, .int p0)]) (st1 := [.ref a0]) (fun _ _ _ => rfl) ?_
  refine jg_g (v := .ref (a0 + 1)) rfl (kc_H ha0) rfl rfl ?_
  refine jg_sg 4 (pc1 := 8) (lv1 := [(0, .ref a0), (1, .int p0)]) (st1 := [.ref a0, .int (p0 + 1), .ref (a0 + 1)]) (fun _ _ _ => rfl) ?_
  refine jg_g (v := .ref (a0 + 1)) rfl (kc_H ha0) rfl rfl ?_
  refine jg_sg 2 (pc1 := 13) (lv1 := [(0, .ref a0), (1, .int p0)]) (st1 := [.ref a0, .int p0, .ref (a0 + 1), .int (p0 + 1), .ref (a0 + 1)]) (fun _ _ _ => rfl) ?_
  refine jg_g (v := .int (S.1 a0 1)) rfl (kc_H ha0) rfl rfl ?_
  refine jg_sg 4 (pc1 := 20) (lv1 := [(0, .ref a0), (1, .int p0)]) (st1 := [.int (((S.1 a0 1) - p0) - 1), .int p0, .ref (a0 + 1), .int (p0 + 1), .ref (a0 + 1)]) (fun _ _ _ => rfl) ?_
  refine jg_cpy rfl (kc_HA ha0) (Nat.le_of_ble_eq_true rfl) (by omega) (by omega) (fun S1 _ => ?_)
  refine jg_sg 2 (pc1 := 25) (lv1 := [(0, .ref a0), (1, .int p0)]) (st1 := [.ref a0, .ref a0]) (fun _ _ _ => rfl) ?_
  refine jg_g (v := .int (S1.1 a0 1)) rfl (kc_H ha0) rfl rfl ?_
  refine jg_sg 2 (pc1 := 30) (lv1 := [(0, .ref a0), (1, .int p0)]) (st1 := [.int ((S1.1 a0 1) - 1), .ref a0]) (fun _ _ _ => rfl) ?_
  refine jg_pi rfl (kc_H ha0) rfl (Nat.le_of_ble_eq_true rfl) rfl rfl (fun S2 _ => ?_)
  exact jg_rv rfl rfl rfl
noncomputable def J_J_holiday_72 (x3 : Int32) (x4 : Nat) (x5 : Int32) (S : jS) : Option ((Int32 ⊕ Nat) × jS) := if x3 = 0 then (if x5 < 0 then (some (.inl (S.1 x4 1), S)) else ((F_H_removeAt x4 x5 S).bind (fun z9 => some (.inl (z9.1 x4 1), z9)))) else (some (.inl (S.1 x4 1), S))
set_option maxRecDepth 20000 in
theorem kJ_J_holiday_72 {q rF rL : Nat} (hF : 7 ≤ rF) (hL : 172 ≤ rL)   (x3 : Int32) (x4 : Nat) (x5 : Int32) (S : jS) (hx4 : jh_ x4 = true) : jg q jp_J_holiday rF rL 72 [(3, .int x3), (4, .ref x4), (5, .int x5)] [] S 0 x_I (J_J_holiday_72 x3 x4 x5 S) := by
  unfold J_J_holiday_72
  refine jg_sg 1 (pc1 := 73) (lv1 := [(3, .int x3), (4, .ref x4), (5, .int x5)]) (st1 := [.int x3]) (fun _ _ _ => rfl) ?_
  refine jg_br (fun _ _ _ _ k1 k2 => jt_if_ne (t := 88) rfl rfl k2 k1) (fun c7 => ?_) (fun c7 => ?_)
  · refine jg_sg 1 (pc1 := 78) (lv1 := [(3, .int x3), (4, .ref x4), (5, .int x5)]) (st1 := [.int x5]) (fun _ _ _ => rfl) ?_
    refine jg_br (fun _ _ _ _ k1 k2 => jt_if_lt (t := 88) rfl rfl k1 k2) (fun c8 => ?_) (fun c8 => ?_)
    · refine jg_sg 1 (pc1 := 90) (lv1 := [(3, .int x3), (4, .ref x4), (5, .int x5)]) (st1 := [.ref x4]) (fun _ _ _ => rfl) ?_
      refine jg_g (v := .int (S.1 x4 1)) rfl (kc_H hx4) rfl rfl ?_
      exact jg_ri rfl rfl rfl rfl
    · refine jg_sg 2 (pc1 := 85) (lv1 := [(3, .int x3), (4, .ref x4), (5, .int x5)]) (st1 := [.int x5, .ref x4]) (fun _ _ _ => rfl) ?_
      refine jg_csV (m2 := jp_H_removeAt) (As := [.ref x4, .int x5]) (r := []) (mx := 2) (jh_v (a := x4) rfl rfl rfl (kc_H hx4) rfl (Nat.le_of_ble_eq_true rfl) rfl rfl rfl (by omega) (by omega) (Nat.le_of_ble_eq_true rfl)) (kF_H_removeAt x4 x5 S _ _ (by omega) (by omega) hx4) (fun z9 => ?_)
      refine jg_sg 1 (pc1 := 90) (lv1 := [(3, .int x3), (4, .ref x4), (5, .int x5)]) (st1 := [.ref x4]) (fun _ _ _ => rfl) ?_
      refine jg_g (v := .int (z9.1 x4 1)) rfl (kc_H hx4) rfl rfl ?_
      exact jg_ri rfl rfl rfl rfl
  · refine jg_sg 1 (pc1 := 90) (lv1 := [(3, .int x3), (4, .ref x4), (5, .int x5)]) (st1 := [.ref x4]) (fun _ _ _ => rfl) ?_
    refine jg_g (v := .int (S.1 x4 1)) rfl (kc_H hx4) rfl rfl ?_
    exact jg_ri rfl rfl rfl rfl
noncomputable def F_J_holiday (p0 : Int32) (p1 : Int32) (p2 : Int32) (S : jS) : Option ((Int32 ⊕ Nat) × jS) := j_xv (F_J_checkRange ((p0 : Int32).toInt64) 0 3 S) (fun c S => (.inr c, S)) (fun S1 => j_xv (F_J_checkRange ((p1 : Int32).toInt64) 0 120529 S1) (fun c S => (.inr c, S)) (fun S2 => j_q (j_in p0 4) (j_l (107 + 2 * ((p0 : Int32).toNatClampNeg) : Nat) (fun b4 => (F_H_placeOf b4 p1 S2).bind (fun z5 => if p2 = 0 then (J_J_holiday_72 p2 b4 z5 S2) else (if 0 ≤ z5 then (J_J_holiday_72 p2 b4 z5 S2) else (if (S2.1 b4 1) < 200 then ((F_H_insert b4 ((-1) - z5) p1 S2).bind (fun z12 => J_J_holiday_72 p2 b4 z5 z12)) else (some (.inr 10, S2)))))))))
set_option maxRecDepth 20000 in
theorem kF_J_holiday {q : Nat} (p0 : Int32) (p1 : Int32) (p2 : Int32) (S : jS) (rF rL : Nat) (hF : 7 ≤ rF) (hL : 172 ≤ rL)  : jg q jp_J_holiday rF rL 0 [(0, .ref 24), (1, .int p0), (2, .int p1), (3, .int p2)] [] S 0 x_I (F_J_holiday p0 p1 p2 S) := by
  unfold F_J_holiday
  refine jg_sg 4 (pc1 := 6) (lv1 := [(0, .ref 24), (1, .int p0), (2, .int p1), (3, .int p2)]) (st1 := [.long 3, .long 0, .long ((p0 : Int32).toInt64)]) (fun _ _ _ => rfl) ?_
  refine jg_cxV (m2 := jp_J_checkRange) (As := [.long ((p0 : Int32).toInt64), .long 0, .long 3]) (r := []) (mx := 6) (jh_s rfl (fun _ _ _ => rfl) rfl rfl rfl (by omega) (by omega) (Nat.le_of_ble_eq_true rfl)) rfl (fun _ _ => rfl) (kF_J_checkRange ((p0 : Int32).toInt64) 0 3 S _ _ (by omega) (by omega) ) (fun S1 => ?_)
  refine jg_sg 4 (pc1 := 15) (lv1 := [(0, .ref 24), (1, .int p0), (2, .int p1), (3, .int p2)]) (st1 := [.long 120529, .long 0, .long ((p1 : Int32).toInt64)]) (fun _ _ _ => rfl) ?_
  refine jg_cxV (m2 := jp_J_checkRange) (As := [.long ((p1 : Int32).toInt64), .long 0, .long 120529]) (r := []) (mx := 6) (jh_s rfl (fun _ _ _ => rfl) rfl rfl rfl (by omega) (by omega) (Nat.le_of_ble_eq_true rfl)) rfl (fun _ _ => rfl) (kF_J_checkRange ((p1 : Int32).toInt64) 0 120529 S1 _ _ (by omega) (by omega) ) (fun S2 => ?_)
  refine jg_sg 1 (pc1 := 19) (lv1 := [(0, .ref 24), (1, .int p0), (2, .int p1), (3, .int p2)]) (st1 := [.ref 24]) (fun _ _ _ => rfl) ?_
  refine jg_g (v := .ref 29) rfl kc_24 rfl rfl ?_
  refine jg_sg 1 (pc1 := 23) (lv1 := [(0, .ref 24), (1, .int p0), (2, .int p1), (3, .int p2)]) (st1 := [.int p0, .ref 29]) (fun _ _ _ => rfl) ?_
  refine jg_aal (w := 107 + 2 * ((p0 : Int32).toNatClampNeg)) rfl rfl kc_29 rfl (fun g3 => ?_)
  refine jg_sg 1 (pc1 := 26) (lv1 := [(4, .ref (107 + 2 * ((p0 : Int32).toNatClampNeg))), (0, .ref 24), (1, .int p0), (2, .int p1), (3, .int p2)]) (st1 := []) (fun _ _ _ => rfl) ?_
  refine jg_va (P := fun b => jh_ b = true) ((jh_m g3)) (fun b4 hb4 => ?_)
  refine jg_sg 2 (pc1 := 29) (lv1 := [(4, .ref b4), (0, .ref 24), (1, .int p0), (2, .int p1), (3, .int p2)]) (st1 := [.int p1, .ref b4]) (fun _ _ _ => rfl) ?_
  refine jg_cpI (m2 := jp_H_placeOf) (As := [.ref b4, .int p1]) (r := []) (mx := 5) (jh_v (a := b4) rfl rfl rfl (kc_H hb4) rfl (Nat.le_of_ble_eq_true rfl) rfl rfl rfl (by omega) (by omega) (Nat.le_of_ble_eq_true rfl)) (kF_H_placeOf b4 p1 S2 _ _ (by omega) (by omega) hb4) (fun z5 => ?_)
  refine jg_sg 2 (pc1 := 35) (lv1 := [(5, .int z5), (4, .ref b4), (0, .ref 24), (1, .int p0), (2, .int p1), (3, .int p2)]) (st1 := [.int p2]) (fun _ _ _ => rfl) ?_
  refine jg_br (fun _ _ _ _ k1 k2 => jt_if_eq (t := 72) rfl rfl k1 k2) (fun c6 => ?_) (fun c6 => ?_)
  · refine jg_lvs (lv1 := [(3, .int p2), (4, .ref b4), (5, .int z5)]) rfl rfl ⟨rfl, rfl, rfl, trivial⟩ ?_
    exact kJ_J_holiday_72 (by omega) (by omega) p2 b4 z5 S2 hb4
  · refine jg_sg 1 (pc1 := 40) (lv1 := [(5, .int z5), (4, .ref b4), (0, .ref 24), (1, .int p0), (2, .int p1), (3, .int p2)]) (st1 := [.int z5]) (fun _ _ _ => rfl) ?_
    refine jg_br (fun _ _ _ _ k1 k2 => jt_if_ge (t := 72) rfl rfl k1 k2) (fun c10 => ?_) (fun c10 => ?_)
    · refine jg_lvs (lv1 := [(3, .int p2), (4, .ref b4), (5, .int z5)]) rfl rfl ⟨rfl, rfl, rfl, trivial⟩ ?_
      exact kJ_J_holiday_72 (by omega) (by omega) p2 b4 z5 S2 hb4
    · refine jg_sg 1 (pc1 := 45) (lv1 := [(5, .int z5), (4, .ref b4), (0, .ref 24), (1, .int p0), (2, .int p1), (3, .int p2)]) (st1 := [.ref b4]) (fun _ _ _ => rfl) ?_
      refine jg_g (v := .int (S2.1 b4 1)) rfl (kc_H hb4) rfl rfl ?_
      refine jg_sg 1 (pc1 := 51) (lv1 := [(5, .int z5), (4, .ref b4), (0, .ref 24), (1, .int p0), (2, .int p1), (3, .int p2)]) (st1 := [.int 200, .int (S2.1 b4 1)]) (fun _ _ _ => rfl) ?_
      refine jg_br (fun _ _ _ _ k1 k2 => jt_icmp_lt (t := 62) rfl rfl k1 k2) (fun c11 => ?_) (fun c11 => ?_)
      · refine jg_sg 5 (pc1 := 69) (lv1 := [(5, .int z5), (4, .ref b4), (0, .ref 24), (1, .int p0), (2, .int p1), (3, .int p2)]) (st1 := [.int p1, .int ((-1) - z5), .ref b4]) (fun _ _ _ => rfl) ?_
        refine jg_csV (m2 := jp_H_insert) (As := [.ref b4, .int ((-1) - z5), .int p1]) (r := []) (mx := 3) (jh_v (a := b4) rfl rfl rfl (kc_H hb4) rfl (Nat.le_of_ble_eq_true rfl) rfl rfl rfl (by omega) (by omega) (Nat.le_of_ble_eq_true rfl)) (kF_H_insert b4 ((-1) - z5) p1 S2 _ _ (by omega) (by omega) hb4) (fun z12 => ?_)
        refine jg_lvs (lv1 := [(3, .int p2), (4, .ref b4), (5, .int z5)]) rfl rfl ⟨rfl, rfl, rfl, trivial⟩ ?_
        exact kJ_J_holiday_72 (by omega) (by omega) p2 b4 z5 z12 hb4
      · exact jg_thr rfl (fun _ _ _ => rfl) rfl (by omega) (by show 0 + 81 ≤ rL; omega) rfl
noncomputable def F_J_checkSearch (p0 : Int32) (p1 : Int32) (p2 : Int32) (S : jS) : Option (Option Nat × jS) := j_xv (F_J_checkRange ((p0 : Int32).toInt64) 0 15 S) (fun c S => (some c, S)) (fun S1 => j_xv (F_J_checkRange ((p1 : Int32).toInt64) 0 7 S1) (fun c S => (some c, S)) (fun S2 => j_xv (F_J_checkRange ((p2 : Int32).toInt64) (-1) 3 S2) (fun c S => (some c, S)) (fun S3 => some (none, S3))))
set_option maxRecDepth 20000 in
theorem kF_J_checkSearch {q : Nat} (p0 : Int32) (p1 : Int32) (p2 : Int32) (S : jS) (rF rL : Nat) (hF : 7 ≤ rF) (hL : 106 ≤ rL)  : jg q jp_J_checkSearch rF rL 0 [(0, .int p0), (1, .int p1), (2, .int p2)] [] S 0 x_V (F_J_checkSearch p0 p1 p2 S) := by
  unfold F_J_checkSearch
  refine jg_sg 4 (pc1 := 6) (lv1 := [(0, .int p0), (1, .int p1), (2, .int p2)]) (st1 := [.long 15, .long 0, .long ((p0 : Int32).toInt64)]) (fun _ _ _ => rfl) ?_
  refine jg_cxV (m2 := jp_J_checkRange) (As := [.long ((p0 : Int32).toInt64), .long 0, .long 15]) (r := []) (mx := 6) (jh_s rfl (fun _ _ _ => rfl) rfl rfl rfl (by omega) (by omega) (Nat.le_of_ble_eq_true rfl)) rfl (fun _ _ => rfl) (kF_J_checkRange ((p0 : Int32).toInt64) 0 15 S _ _ (by omega) (by omega) ) (fun S1 => ?_)
  refine jg_sg 4 (pc1 := 15) (lv1 := [(0, .int p0), (1, .int p1), (2, .int p2)]) (st1 := [.long 7, .long 0, .long ((p1 : Int32).toInt64)]) (fun _ _ _ => rfl) ?_
  refine jg_cxV (m2 := jp_J_checkRange) (As := [.long ((p1 : Int32).toInt64), .long 0, .long 7]) (r := []) (mx := 6) (jh_s rfl (fun _ _ _ => rfl) rfl rfl rfl (by omega) (by omega) (Nat.le_of_ble_eq_true rfl)) rfl (fun _ _ => rfl) (kF_J_checkRange ((p1 : Int32).toInt64) 0 7 S1 _ _ (by omega) (by omega) ) (fun S2 => ?_)
  refine jg_sg 4 (pc1 := 26) (lv1 := [(0, .int p0), (1, .int p1), (2, .int p2)]) (st1 := [.long 3, .long (-1), .long ((p2 : Int32).toInt64)]) (fun _ _ _ => rfl) ?_
  refine jg_cxV (m2 := jp_J_checkRange) (As := [.long ((p2 : Int32).toInt64), .long (-1), .long 3]) (r := []) (mx := 6) (jh_s rfl (fun _ _ _ => rfl) rfl rfl rfl (by omega) (by omega) (Nat.le_of_ble_eq_true rfl)) rfl (fun _ _ => rfl) (kF_J_checkRange ((p2 : Int32).toInt64) (-1) 3 S2 _ _ (by omega) (by omega) ) (fun S3 => ?_)
  exact jg_rv rfl rfl rfl
noncomputable def J_J_aimAt_47 (y0 : Nat) (S : jS) : Option jS := j_l (w_r S 32 2 y0) (fun S9 => some S9)
set_option maxRecDepth 20000 in
theorem kJ_J_aimAt_47 {q rF rL : Nat} (hF : 0 ≤ rF) (hL : 0 ≤ rL)   (y0 : Nat) (S : jS) (hy0 : jh_ y0 = true) : jg q jp_J_aimAt rF rL 47 [] [.ref y0, .ref 32] S 0 s_V (J_J_aimAt_47 y0 S) := by
  unfold J_J_aimAt_47
  refine jg_pr rfl kc_32 rfl (Nat.le_of_ble_eq_true rfl) rfl rfl (fun S9 _ => ?_)
  exact jg_rv rfl rfl rfl
noncomputable def F_J_aimAt (p0 : Int32) (p1 : Int32) (p2 : Int32) (S : jS) : Option jS := j_q (j_in p0 16) (j_q (jc_ (S.2.2 28 ((p0 : Int32).toNatClampNeg))) (j_l (w_r S 32 0 (S.2.2 28 ((p0 : Int32).toNatClampNeg))) (fun S3 => j_q (j_in p1 8) (j_q (jz_ (S3.2.2 27 ((p1 : Int32).toNatClampNeg))) (j_l (w_r S3 32 1 (S3.2.2 27 ((p1 : Int32).toNatClampNeg))) (fun S6 => if 0 ≤ p2 then (j_q (j_in p2 4) (J_J_aimAt_47 (107 + 2 * ((p2 : Int32).toNatClampNeg)) S6)) else (J_J_aimAt_47 30 S6)))))))
set_option maxRecDepth 20000 in
theorem kF_J_aimAt {q : Nat} (p0 : Int32) (p1 : Int32) (p2 : Int32) (S : jS) (rF rL : Nat) (hF : 0 ≤ rF) (hL : 0 ≤ rL)  : jg q jp_J_aimAt rF rL 0 [(0, .ref 24), (1, .int p0), (2, .int p1), (3, .int p2)] [] S 0 s_V (F_J_aimAt p0 p1 p2 S) := by
  unfold F_J_aimAt
  refine jg_sg 1 (pc1 := 1) (lv1 := [(0, .ref 24), (1, .int p0), (2, .int p1), (3, .int p2)]) (st1 := [.ref 24]) (fun _ _ _ => rfl) ?_
  refine jg_g (v := .ref 32) rfl kc_24 rfl rfl ?_
  refine jg_sg 1 (pc1 := 5) (lv1 := [(0, .ref 24), (1, .int p0), (2, .int p1), (3, .int p2)]) (st1 := [.ref 24, .ref 32]) (fun _ _ _ => rfl) ?_
  refine jg_g (v := .ref 28) rfl kc_24 rfl rfl ?_
  refine jg_sg 1 (pc1 := 9) (lv1 := [(0, .ref 24), (1, .int p0), (2, .int p1), (3, .int p2)]) (st1 := [.int p0, .ref 28, .ref 32]) (fun _ _ _ => rfl) ?_
  refine jg_aal (w := S.2.2 28 ((p0 : Int32).toNatClampNeg)) rfl rfl kc_28 rfl (fun g1 => ?_)
  refine jg_q (fun g2 => ?_)
  refine jg_pr rfl kc_32 rfl (Nat.le_of_ble_eq_true rfl) rfl rfl (fun S3 _ => ?_)
  refine jg_sg 1 (pc1 := 14) (lv1 := [(0, .ref 24), (1, .int p0), (2, .int p1), (3, .int p2)]) (st1 := [.ref 24]) (fun _ _ _ => rfl) ?_
  refine jg_g (v := .ref 32) rfl kc_24 rfl rfl ?_
  refine jg_sg 1 (pc1 := 18) (lv1 := [(0, .ref 24), (1, .int p0), (2, .int p1), (3, .int p2)]) (st1 := [.ref 24, .ref 32]) (fun _ _ _ => rfl) ?_
  refine jg_g (v := .ref 27) rfl kc_24 rfl rfl ?_
  refine jg_sg 1 (pc1 := 22) (lv1 := [(0, .ref 24), (1, .int p0), (2, .int p1), (3, .int p2)]) (st1 := [.int p1, .ref 27, .ref 32]) (fun _ _ _ => rfl) ?_
  refine jg_aal (w := S3.2.2 27 ((p1 : Int32).toNatClampNeg)) rfl rfl kc_27 rfl (fun g4 => ?_)
  refine jg_q (fun g5 => ?_)
  refine jg_pr rfl kc_32 rfl (Nat.le_of_ble_eq_true rfl) rfl rfl (fun S6 _ => ?_)
  refine jg_sg 1 (pc1 := 27) (lv1 := [(0, .ref 24), (1, .int p0), (2, .int p1), (3, .int p2)]) (st1 := [.ref 24]) (fun _ _ _ => rfl) ?_
  refine jg_g (v := .ref 32) rfl kc_24 rfl rfl ?_
  refine jg_sg 1 (pc1 := 31) (lv1 := [(0, .ref 24), (1, .int p0), (2, .int p1), (3, .int p2)]) (st1 := [.int p2, .ref 32]) (fun _ _ _ => rfl) ?_
  refine jg_br (fun _ _ _ _ k1 k2 => jt_if_ge (t := 41) rfl rfl k1 k2) (fun c7 => ?_) (fun c7 => ?_)
  · refine jg_sg 1 (pc1 := 42) (lv1 := [(0, .ref 24), (1, .int p0), (2, .int p1), (3, .int p2)]) (st1 := [.ref 24, .ref 32]) (fun _ _ _ => rfl) ?_
    refine jg_g (v := .ref 29) rfl kc_24 rfl rfl ?_
    refine jg_sg 1 (pc1 := 46) (lv1 := [(0, .ref 24), (1, .int p0), (2, .int p1), (3, .int p2)]) (st1 := [.int p2, .ref 29, .ref 32]) (fun _ _ _ => rfl) ?_
    refine jg_aal (w := 107 + 2 * ((p2 : Int32).toNatClampNeg)) rfl rfl kc_29 rfl (fun g8 => ?_)
    refine jg_lvs (lv1 := []) rfl rfl trivial ?_
    exact kJ_J_aimAt_47 (by omega) (by omega) (107 + 2 * ((p2 : Int32).toNatClampNeg)) S6 ((jh_m g8))
  · refine jg_sg 1 (pc1 := 35) (lv1 := [(0, .ref 24), (1, .int p0), (2, .int p1), (3, .int p2)]) (st1 := [.ref 24, .ref 32]) (fun _ _ _ => rfl) ?_
    refine jg_g (v := .ref 30) rfl kc_24 rfl rfl ?_
    refine jg_sg 1 (pc1 := 47) (lv1 := [(0, .ref 24), (1, .int p0), (2, .int p1), (3, .int p2)]) (st1 := [.ref 30, .ref 32]) (fun _ _ _ => rfl) ?_
    refine jg_lvs (lv1 := []) rfl rfl trivial ?_
    exact kJ_J_aimAt_47 (by omega) (by omega) 30 S6 rfl
noncomputable def F_Math_floorDiv2 (p0 : Int64) (p1 : Int64) (S : jS) : Option Int64 := j_q (!decide (p1 = 0)) (j_l (p0 / p1 : Int64) (fun v2 => if ((0 : Int64)) ≤ (p0 ^^^ p1) then (some v2) else (if (v2 * p1) = p0 then (some v2) else (some (v2 - 1)))))
set_option maxRecDepth 20000 in
theorem kF_Math_floorDiv2 {q : Nat} (p0 : Int64) (p1 : Int64) (S : jS) (rF rL : Nat) (hF : 0 ≤ rF) (hL : 0 ≤ rL)  : jg q jp_Math_floorDiv2 rF rL 0 [(0, .long p0), (2, .long p1)] [] S 0 (p_L S) (F_Math_floorDiv2 p0 p1 S) := by
  unfold F_Math_floorDiv2
  refine jg_sg 2 (pc1 := 2) (lv1 := [(0, .long p0), (2, .long p1)]) (st1 := [.long p1, .long p0]) (fun _ _ _ => rfl) ?_
  refine jg_q (fun g1 => ?_)
  refine jg_st (fun _ _ _ _ _ k => jt_ldiv rfl (by simpa using g1) k) ?_
  refine jg_sg 1 (pc1 := 5) (lv1 := [(4, .long (p0 / p1)), (0, .long p0), (2, .long p1)]) (st1 := []) (fun _ _ _ => rfl) ?_
  refine jg_vl (fun v2 => ?_)
  refine jg_sg 5 (pc1 := 10) (lv1 := [(4, .long v2), (0, .long p0), (2, .long p1)]) (st1 := [.int (lg_cmp (p0 ^^^ p1) 0)]) (fun _ _ _ => rfl) ?_
  refine jg_br (fun _ _ _ _ k1 k2 => jt_lif_ge (t := 27) rfl rfl k1 k2) (fun c3 => ?_) (fun c3 => ?_)
  · refine jg_sg 1 (pc1 := 29) (lv1 := [(4, .long v2), (0, .long p0), (2, .long p1)]) (st1 := [.long v2]) (fun _ _ _ => rfl) ?_
    exact jg_rl rfl rfl rfl
  · refine jg_sg 5 (pc1 := 19) (lv1 := [(4, .long v2), (0, .long p0), (2, .long p1)]) (st1 := [.int (lg_cmp (v2 * p1) p0)]) (fun _ _ _ => rfl) ?_
    refine jg_br (fun _ _ _ _ k1 k2 => jt_lif_eq (t := 27) rfl rfl k1 k2) (fun c4 => ?_) (fun c4 => ?_)
    · refine jg_sg 1 (pc1 := 29) (lv1 := [(4, .long v2), (0, .long p0), (2, .long p1)]) (st1 := [.long v2]) (fun _ _ _ => rfl) ?_
      exact jg_rl rfl rfl rfl
    · refine jg_sg 3 (pc1 := 26) (lv1 := [(4, .long v2), (0, .long p0), (2, .long p1)]) (st1 := [.long (v2 - 1)]) (fun _ _ _ => rfl) ?_
      exact jg_rl rfl rfl rfl
noncomputable def F_D_dayOf (p0 : Int64) (S : jS) : Option Int32 := (F_Math_floorDiv2 p0 86400 S).bind (fun z1 => some ((z1 : Int64).toInt32))
set_option maxRecDepth 20000 in
theorem kF_D_dayOf {q : Nat} (p0 : Int64) (S : jS) (rF rL : Nat) (hF : 1 ≤ rF) (hL : 25 ≤ rL)  : jg q jp_D_dayOf rF rL 0 [(0, .long p0)] [] S 0 (p_I S) (F_D_dayOf p0 S) := by
  unfold F_D_dayOf
  refine jg_sg 2 (pc1 := 4) (lv1 := [(0, .long p0)]) (st1 := [.long 86400, .long p0]) (fun _ _ _ => rfl) ?_
  refine jg_cpL (m2 := jp_Math_floorDiv2) (As := [.long p0, .long 86400]) (r := []) (mx := 6) (jh_s rfl (fun _ _ _ => rfl) rfl rfl rfl (by omega) (by omega) (Nat.le_of_ble_eq_true rfl)) (kF_Math_floorDiv2 p0 86400 S _ _ (by omega) (by omega) ) (fun z1 => ?_)
  refine jg_sg 1 (pc1 := 8) (lv1 := [(0, .long p0)]) (st1 := [.int ((z1 : Int64).toInt32)]) (fun _ _ _ => rfl) ?_
  exact jg_ri rfl rfl rfl rfl
noncomputable def F_Math_floorDiv (p0 : Int32) (p1 : Int32) (S : jS) : Option Int32 := j_q (!decide (p1 = 0)) (j_l (p0 / p1 : Int32) (fun v2 => if 0 ≤ (p0 ^^^ p1) then (some v2) else (if (v2 * p1) = p0 then (some v2) else (some (v2 - 1)))))
set_option maxRecDepth 20000 in
theorem kF_Math_floorDiv {q : Nat} (p0 : Int32) (p1 : Int32) (S : jS) (rF rL : Nat) (hF : 0 ≤ rF) (hL : 0 ≤ rL)  : jg q jp_Math_floorDiv rF rL 0 [(0, .int p0), (1, .int p1)] [] S 0 (p_I S) (F_Math_floorDiv p0 p1 S) := by
  unfold F_Math_floorDiv
  refine jg_sg 2 (pc1 := 2) (lv1 := [(0, .int p0), (1, .int p1)]) (st1 := [.int p1, .int p0]) (fun _ _ _ => rfl) ?_
  refine jg_q (fun g1 => ?_)
  refine jg_st (fun _ _ _ _ _ k => jt_idiv rfl (by simpa using g1) k) ?_
  refine jg_sg 1 (pc1 := 4) (lv1 := [(2, .int (p0 / p1)), (0, .int p0), (1, .int p1)]) (st1 := []) (fun _ _ _ => rfl) ?_
  refine jg_vi (fun v2 => ?_)
  refine jg_sg 3 (pc1 := 7) (lv1 := [(2, .int v2), (0, .int p0), (1, .int p1)]) (st1 := [.int (p0 ^^^ p1)]) (fun _ _ _ => rfl) ?_
  refine jg_br (fun _ _ _ _ k1 k2 => jt_if_ge (t := 21) rfl rfl k1 k2) (fun c3 => ?_) (fun c3 => ?_)
  · refine jg_sg 1 (pc1 := 22) (lv1 := [(2, .int v2), (0, .int p0), (1, .int p1)]) (st1 := [.int v2]) (fun _ _ _ => rfl) ?_
    exact jg_ri rfl rfl rfl rfl
  · refine jg_sg 4 (pc1 := 14) (lv1 := [(2, .int v2), (0, .int p0), (1, .int p1)]) (st1 := [.int p0, .int (v2 * p1)]) (fun _ _ _ => rfl) ?_
    refine jg_br (fun _ _ _ _ k1 k2 => jt_icmp_eq (t := 21) rfl rfl k1 k2) (fun c4 => ?_) (fun c4 => ?_)
    · refine jg_sg 1 (pc1 := 22) (lv1 := [(2, .int v2), (0, .int p0), (1, .int p1)]) (st1 := [.int v2]) (fun _ _ _ => rfl) ?_
      exact jg_ri rfl rfl rfl rfl
    · refine jg_sg 3 (pc1 := 20) (lv1 := [(2, .int v2), (0, .int p0), (1, .int p1)]) (st1 := [.int (v2 - 1)]) (fun _ _ _ => rfl) ?_
      exact jg_ri rfl rfl rfl rfl
noncomputable def J_D_firstOfMonth_28 (S : jS) (x2 : Int32) (y0 : Int32) : Option Int32 := j_l (((x2 / 4) - (x2 / 100)) + (x2 / 400) : Int32) (fun v3 => some ((((365 * x2) + v3) + (((153 * y0) + 2) / 5)) - 719468))
set_option maxRecDepth 20000 in
theorem kJ_D_firstOfMonth_28 {q rF rL : Nat} (hF : 0 ≤ rF) (hL : 0 ≤ rL) (S : jS)  (x2 : Int32) (y0 : Int32) : jg q jp_D_firstOfMonth rF rL 28 [(2, .int x2)] [.int y0] S 0 (p_I S) (J_D_firstOfMonth_28 S x2 y0) := by
  unfold J_D_firstOfMonth_28
  refine jg_sg 3 (pc1 := 31) (lv1 := [(3, .int y0), (2, .int x2)]) (st1 := [.int 4, .int x2]) (fun _ _ _ => rfl) ?_
  refine jg_st (fun _ _ _ _ _ k => jt_idiv rfl (by decide +kernel) k) ?_
  refine jg_sg 2 (pc1 := 35) (lv1 := [(3, .int y0), (2, .int x2)]) (st1 := [.int 100, .int x2, .int (x2 / 4)]) (fun _ _ _ => rfl) ?_
  refine jg_st (fun _ _ _ _ _ k => jt_idiv rfl (by decide +kernel) k) ?_
  refine jg_sg 3 (pc1 := 41) (lv1 := [(3, .int y0), (2, .int x2)]) (st1 := [.int 400, .int x2, .int ((x2 / 4) - (x2 / 100))]) (fun _ _ _ => rfl) ?_
  refine jg_st (fun _ _ _ _ _ k => jt_idiv rfl (by decide +kernel) k) ?_
  refine jg_sg 2 (pc1 := 45) (lv1 := [(4, .int (((x2 / 4) - (x2 / 100)) + (x2 / 400))), (3, .int y0), (2, .int x2)]) (st1 := []) (fun _ _ _ => rfl) ?_
  refine jg_vi (fun v3 => ?_)
  refine jg_sg 11 (pc1 := 61) (lv1 := [(4, .int v3), (3, .int y0), (2, .int x2)]) (st1 := [.int 5, .int ((153 * y0) + 2), .int ((365 * x2) + v3)]) (fun _ _ _ => rfl) ?_
  refine jg_st (fun _ _ _ _ _ k => jt_idiv rfl (by decide +kernel) k) ?_
  refine jg_sg 3 (pc1 := 66) (lv1 := [(4, .int v3), (3, .int y0), (2, .int x2)]) (st1 := [.int ((((365 * x2) + v3) + (((153 * y0) + 2) / 5)) - 719468)]) (fun _ _ _ => rfl) ?_
  exact jg_ri rfl rfl rfl rfl
noncomputable def J_D_firstOfMonth_12 (S : jS) (x1 : Int32) (y0 : Int32) : Option Int32 := if x1 ≤ 2 then (J_D_firstOfMonth_28 S y0 (x1 + 9)) else (J_D_firstOfMonth_28 S y0 (x1 - 3))
set_option maxRecDepth 20000 in
theorem kJ_D_firstOfMonth_12 {q rF rL : Nat} (hF : 0 ≤ rF) (hL : 0 ≤ rL) (S : jS)  (x1 : Int32) (y0 : Int32) : jg q jp_D_firstOfMonth rF rL 12 [(1, .int x1)] [.int y0] S 0 (p_I S) (J_D_firstOfMonth_12 S x1 y0) := by
  unfold J_D_firstOfMonth_12
  refine jg_sg 3 (pc1 := 15) (lv1 := [(2, .int y0), (1, .int x1)]) (st1 := [.int 2, .int x1]) (fun _ _ _ => rfl) ?_
  refine jg_br (fun _ _ _ _ k1 k2 => jt_icmp_le (t := 24) rfl rfl k1 k2) (fun c2 => ?_) (fun c2 => ?_)
  · refine jg_sg 3 (pc1 := 28) (lv1 := [(2, .int y0), (1, .int x1)]) (st1 := [.int (x1 + 9)]) (fun _ _ _ => rfl) ?_
    refine jg_lvs (lv1 := [(2, .int y0)]) rfl rfl ⟨rfl, trivial⟩ ?_
    exact kJ_D_firstOfMonth_28 (by omega) (by omega) S y0 (x1 + 9)
  · refine jg_sg 4 (pc1 := 28) (lv1 := [(2, .int y0), (1, .int x1)]) (st1 := [.int (x1 - 3)]) (fun _ _ _ => rfl) ?_
    refine jg_lvs (lv1 := [(2, .int y0)]) rfl rfl ⟨rfl, trivial⟩ ?_
    exact kJ_D_firstOfMonth_28 (by omega) (by omega) S y0 (x1 - 3)
noncomputable def F_D_firstOfMonth (p0 : Int32) (p1 : Int32) (S : jS) : Option Int32 := if p1 ≤ 2 then (J_D_firstOfMonth_12 S p1 (p0 - 1)) else (J_D_firstOfMonth_12 S p1 p0)
set_option maxRecDepth 20000 in
theorem kF_D_firstOfMonth {q : Nat} (p0 : Int32) (p1 : Int32) (S : jS) (rF rL : Nat) (hF : 0 ≤ rF) (hL : 0 ≤ rL)  : jg q jp_D_firstOfMonth rF rL 0 [(0, .int p0), (1, .int p1)] [] S 0 (p_I S) (F_D_firstOfMonth p0 p1 S) := by
  unfold F_D_firstOfMonth
  refine jg_sg 2 (pc1 := 2) (lv1 := [(0, .int p0), (1, .int p1)]) (st1 := [.int 2, .int p1]) (fun _ _ _ => rfl) ?_
  refine jg_br (fun _ _ _ _ k1 k2 => jt_icmp_le (t := 9) rfl rfl k1 k2) (fun c1 => ?_) (fun c1 => ?_)
  · refine jg_sg 3 (pc1 := 12) (lv1 := [(0, .int p0), (1, .int p1)]) (st1 := [.int (p0 - 1)]) (fun _ _ _ => rfl) ?_
    refine jg_lvs (lv1 := [(1, .int p1)]) rfl rfl ⟨rfl, trivial⟩ ?_
    exact kJ_D_firstOfMonth_12 (by omega) (by omega) S p1 (p0 - 1)
  · refine jg_sg 2 (pc1 := 12) (lv1 := [(0, .int p0), (1, .int p1)]) (st1 := [.int p0]) (fun _ _ _ => rfl) ?_
    refine jg_lvs (lv1 := [(1, .int p1)]) rfl rfl ⟨rfl, trivial⟩ ?_
    exact kJ_D_firstOfMonth_12 (by omega) (by omega) S p1 p0
noncomputable def F_D_yearOf (p0 : Int32) (S : jS) : Option Int32 := (F_Math_floorDiv (p0 * 400) 146097 S).bind (fun z1 => j_l (1970 + z1 : Int32) (fun v2 => (F_D_firstOfMonth v2 1 S).bind (fun z3 => if z3 ≤ p0 then ((F_D_firstOfMonth (v2 + 1) 1 S).bind (fun z5 => if p0 < z5 then (some v2) else (some (v2 + 1)))) else (some (v2 - 1)))))
set_option maxRecDepth 20000 in
theorem kF_D_yearOf {q : Nat} (p0 : Int32) (S : jS) (rF rL : Nat) (hF : 1 ≤ rF) (hL : 24 ≤ rL)  : jg q jp_D_yearOf rF rL 0 [(0, .int p0)] [] S 0 (p_I S) (F_D_yearOf p0 S) := by
  unfold F_D_yearOf
  refine jg_sg 5 (pc1 := 10) (lv1 := [(0, .int p0)]) (st1 := [.int 146097, .int (p0 * 400), .int 1970]) (fun _ _ _ => rfl) ?_
  refine jg_cpI (m2 := jp_Math_floorDiv) (As := [.int (p0 * 400), .int 146097]) (r := [.int 1970]) (mx := 3) (jh_s rfl (fun _ _ _ => rfl) rfl rfl rfl (by omega) (by omega) (Nat.le_of_ble_eq_true rfl)) (kF_Math_floorDiv (p0 * 400) 146097 S _ _ (by omega) (by omega) ) (fun z1 => ?_)
  refine jg_sg 2 (pc1 := 15) (lv1 := [(1, .int (1970 + z1)), (0, .int p0)]) (st1 := []) (fun _ _ _ => rfl) ?_
  refine jg_vi (fun v2 => ?_)
  refine jg_sg 2 (pc1 := 17) (lv1 := [(1, .int v2), (0, .int p0)]) (st1 := [.int 1, .int v2]) (fun _ _ _ => rfl) ?_
  refine jg_cpI (m2 := jp_D_firstOfMonth) (As := [.int v2, .int 1]) (r := []) (mx := 5) (jh_s rfl (fun _ _ _ => rfl) rfl rfl rfl (by omega) (by omega) (Nat.le_of_ble_eq_true rfl)) (kF_D_firstOfMonth v2 1 S _ _ (by omega) (by omega) ) (fun z3 => ?_)
  refine jg_sg 1 (pc1 := 21) (lv1 := [(1, .int v2), (0, .int p0)]) (st1 := [.int p0, .int z3]) (fun _ _ _ => rfl) ?_
  refine jg_br (fun _ _ _ _ k1 k2 => jt_icmp_le (t := 28) rfl rfl k1 k2) (fun c4 => ?_) (fun c4 => ?_)
  · refine jg_sg 4 (pc1 := 32) (lv1 := [(1, .int v2), (0, .int p0)]) (st1 := [.int 1, .int (v2 + 1)]) (fun _ _ _ => rfl) ?_
    refine jg_cpI (m2 := jp_D_firstOfMonth) (As := [.int (v2 + 1), .int 1]) (r := []) (mx := 5) (jh_s rfl (fun _ _ _ => rfl) rfl rfl rfl (by omega) (by omega) (Nat.le_of_ble_eq_true rfl)) (kF_D_firstOfMonth (v2 + 1) 1 S _ _ (by omega) (by omega) ) (fun z5 => ?_)
    refine jg_sg 1 (pc1 := 36) (lv1 := [(1, .int v2), (0, .int p0)]) (st1 := [.int p0, .int z5]) (fun _ _ _ => rfl) ?_
    refine jg_br (fun _ _ _ _ k1 k2 => jt_icmp_gt (t := 45) rfl rfl k1 k2) (fun c6 => ?_) (fun c6 => ?_)
    · refine jg_sg 1 (pc1 := 46) (lv1 := [(1, .int v2), (0, .int p0)]) (st1 := [.int v2]) (fun _ _ _ => rfl) ?_
      exact jg_ri rfl rfl rfl rfl
    · refine jg_sg 4 (pc1 := 46) (lv1 := [(1, .int v2), (0, .int p0)]) (st1 := [.int (v2 + 1)]) (fun _ _ _ => rfl) ?_
      exact jg_ri rfl rfl rfl rfl
  · refine jg_sg 3 (pc1 := 27) (lv1 := [(1, .int v2), (0, .int p0)]) (st1 := [.int (v2 - 1)]) (fun _ _ _ => rfl) ?_
    exact jg_ri rfl rfl rfl rfl
noncomputable def F_D_weekdayOf (p0 : Int32) (S : jS) : Option Int32 := some (((p0 + 4) - (p0 + 4) / 7 * 7) + 1)
set_option maxRecDepth 20000 in
theorem kF_D_weekdayOf {q : Nat} (p0 : Int32) (S : jS) (rF rL : Nat) (hF : 0 ≤ rF) (hL : 0 ≤ rL)  : jg q jp_D_weekdayOf rF rL 0 [(0, .int p0)] [] S 0 (p_I S) (F_D_weekdayOf p0 S) := by
  unfold F_D_weekdayOf
  refine jg_sg 4 (pc1 := 5) (lv1 := [(0, .int p0)]) (st1 := [.int 7, .int (p0 + 4)]) (fun _ _ _ => rfl) ?_
  refine jg_st (fun _ _ _ _ _ k => jt_irem rfl (by decide +kernel) k) ?_
  refine jg_sg 2 (pc1 := 8) (lv1 := [(0, .int p0)]) (st1 := [.int (((p0 + 4) - (p0 + 4) / 7 * 7) + 1)]) (fun _ _ _ => rfl) ?_
  exact jg_ri rfl rfl rfl rfl
noncomputable def F_Math_floorMod (p0 : Int32) (p1 : Int32) (S : jS) : Option Int32 := j_q (!decide (p1 = 0)) (j_l (p0 - p0 / p1 * p1 : Int32) (fun v2 => if 0 ≤ (p0 ^^^ p1) then (some v2) else (if v2 = 0 then (some v2) else (some (v2 + p1)))))
set_option maxRecDepth 20000 in
theorem kF_Math_floorMod {q : Nat} (p0 : Int32) (p1 : Int32) (S : jS) (rF rL : Nat) (hF : 0 ≤ rF) (hL : 0 ≤ rL)  : jg q jp_Math_floorMod rF rL 0 [(0, .int p0), (1, .int p1)] [] S 0 (p_I S) (F_Math_floorMod p0 p1 S) := by
  unfold F_Math_floorMod
  refine jg_sg 2 (pc1 := 2) (lv1 := [(0, .int p0), (1, .int p1)]) (st1 := [.int p1, .int p0]) (fun _ _ _ => rfl) ?_
  refine jg_q (fun g1 => ?_)
  refine jg_st (fun _ _ _ _ _ k => jt_irem rfl (by simpa using g1) k) ?_
  refine jg_sg 1 (pc1 := 4) (lv1 := [(2, .int (p0 - p0 / p1 * p1)), (0, .int p0), (1, .int p1)]) (st1 := []) (fun _ _ _ => rfl) ?_
  refine jg_vi (fun v2 => ?_)
  refine jg_sg 3 (pc1 := 7) (lv1 := [(2, .int v2), (0, .int p0), (1, .int p1)]) (st1 := [.int (p0 ^^^ p1)]) (fun _ _ _ => rfl) ?_
  refine jg_br (fun _ _ _ _ k1 k2 => jt_if_ge (t := 18) rfl rfl k1 k2) (fun c3 => ?_) (fun c3 => ?_)
  · refine jg_sg 1 (pc1 := 19) (lv1 := [(2, .int v2), (0, .int p0), (1, .int p1)]) (st1 := [.int v2]) (fun _ _ _ => rfl) ?_
    exact jg_ri rfl rfl rfl rfl
  · refine jg_sg 1 (pc1 := 11) (lv1 := [(2, .int v2), (0, .int p0), (1, .int p1)]) (st1 := [.int v2]) (fun _ _ _ => rfl) ?_
    refine jg_br (fun _ _ _ _ k1 k2 => jt_if_eq (t := 18) rfl rfl k1 k2) (fun c4 => ?_) (fun c4 => ?_)
    · refine jg_sg 1 (pc1 := 19) (lv1 := [(2, .int v2), (0, .int p0), (1, .int p1)]) (st1 := [.int v2]) (fun _ _ _ => rfl) ?_
      exact jg_ri rfl rfl rfl rfl
    · refine jg_sg 3 (pc1 := 17) (lv1 := [(2, .int v2), (0, .int p0), (1, .int p1)]) (st1 := [.int (v2 + p1)]) (fun _ _ _ => rfl) ?_
      exact jg_ri rfl rfl rfl rfl
noncomputable def J_D_monthLength_31 (S : jS) (y0 : Int32) : Option Int32 := if y0 = 0 then (some 28) else (some 29)
set_option maxRecDepth 20000 in
theorem kJ_D_monthLength_31 {q rF rL : Nat} (hF : 0 ≤ rF) (hL : 0 ≤ rL) (S : jS)  (y0 : Int32) : jg q jp_D_monthLength rF rL 31 [] [.int y0] S 0 (p_I S) (J_D_monthLength_31 S y0) := by
  unfold J_D_monthLength_31
  refine jg_sg 2 (pc1 := 33) (lv1 := [(2, .int y0)]) (st1 := [.int y0]) (fun _ _ _ => rfl) ?_
  refine jg_br (fun _ _ _ _ k1 k2 => jt_if_eq (t := 41) rfl rfl k1 k2) (fun c5 => ?_) (fun c5 => ?_)
  · refine jg_sg 1 (pc1 := 43) (lv1 := [(2, .int y0)]) (st1 := [.int 28]) (fun _ _ _ => rfl) ?_
    exact jg_ri rfl rfl rfl rfl
  · refine jg_sg 2 (pc1 := 43) (lv1 := [(2, .int y0)]) (st1 := [.int 29]) (fun _ _ _ => rfl) ?_
    exact jg_ri rfl rfl rfl rfl
noncomputable def J_D_monthLength_26 (S : jS) : Option Int32 := J_D_monthLength_31 S 1
set_option maxRecDepth 20000 in
theorem kJ_D_monthLength_26 {q rF rL : Nat} (hF : 0 ≤ rF) (hL : 0 ≤ rL) (S : jS)   : jg q jp_D_monthLength rF rL 26 [] [] S 0 (p_I S) (J_D_monthLength_26 S) := by
  unfold J_D_monthLength_26
  refine jg_sg 2 (pc1 := 31) (lv1 := []) (st1 := [.int 1]) (fun _ _ _ => rfl) ?_
  refine jg_lvs (lv1 := []) rfl rfl trivial ?_
  exact kJ_D_monthLength_31 (by omega) (by omega) S 1
noncomputable def J_D_monthLength_30 (S : jS) : Option Int32 := J_D_monthLength_31 S 0
set_option maxRecDepth 20000 in
theorem kJ_D_monthLength_30 {q rF rL : Nat} (hF : 0 ≤ rF) (hL : 0 ≤ rL) (S : jS)   : jg q jp_D_monthLength rF rL 30 [] [] S 0 (p_I S) (J_D_monthLength_30 S) := by
  unfold J_D_monthLength_30
  refine jg_sg 1 (pc1 := 31) (lv1 := []) (st1 := [.int 0]) (fun _ _ _ => rfl) ?_
  refine jg_lvs (lv1 := []) rfl rfl trivial ?_
  exact kJ_D_monthLength_31 (by omega) (by omega) S 0
noncomputable def J_D_monthLength_72 (S : jS) (y0 : Int32) : Option Int32 := if y0 = 0 then (some 31) else (some 30)
set_option maxRecDepth 20000 in
theorem kJ_D_monthLength_72 {q rF rL : Nat} (hF : 0 ≤ rF) (hL : 0 ≤ rL) (S : jS)  (y0 : Int32) : jg q jp_D_monthLength rF rL 72 [] [.int y0] S 0 (p_I S) (J_D_monthLength_72 S y0) := by
  unfold J_D_monthLength_72
  refine jg_sg 2 (pc1 := 74) (lv1 := [(2, .int y0)]) (st1 := [.int y0]) (fun _ _ _ => rfl) ?_
  refine jg_br (fun _ _ _ _ k1 k2 => jt_if_eq (t := 82) rfl rfl k1 k2) (fun c7 => ?_) (fun c7 => ?_)
  · refine jg_sg 1 (pc1 := 84) (lv1 := [(2, .int y0)]) (st1 := [.int 31]) (fun _ _ _ => rfl) ?_
    exact jg_ri rfl rfl rfl rfl
  · refine jg_sg 2 (pc1 := 84) (lv1 := [(2, .int y0)]) (st1 := [.int 30]) (fun _ _ _ => rfl) ?_
    exact jg_ri rfl rfl rfl rfl
noncomputable def J_D_monthLength_67 (S : jS) : Option Int32 := J_D_monthLength_72 S 1
set_option maxRecDepth 20000 in
theorem kJ_D_monthLength_67 {q rF rL : Nat} (hF : 0 ≤ rF) (hL : 0 ≤ rL) (S : jS)   : jg q jp_D_monthLength rF rL 67 [] [] S 0 (p_I S) (J_D_monthLength_67 S) := by
  unfold J_D_monthLength_67
  refine jg_sg 2 (pc1 := 72) (lv1 := []) (st1 := [.int 1]) (fun _ _ _ => rfl) ?_
  refine jg_lvs (lv1 := []) rfl rfl trivial ?_
  exact kJ_D_monthLength_72 (by omega) (by omega) S 1
noncomputable def F_D_monthLength (p0 : Int32) (p1 : Int32) (S : jS) : Option Int32 := if p1 = 2 then (if (p0 - p0 / 4 * 4) = 0 then (if (p0 - p0 / 100 * 100) = 0 then (if (p0 - p0 / 400 * 400) = 0 then (J_D_monthLength_26 S) else (J_D_monthLength_30 S)) else (J_D_monthLength_26 S)) else (J_D_monthLength_30 S)) else (if p1 = 4 then (J_D_monthLength_67 S) else (if p1 = 6 then (J_D_monthLength_67 S) else (if p1 = 9 then (J_D_monthLength_67 S) else (if p1 = 11 then (J_D_monthLength_67 S) else (J_D_monthLength_72 S 0)))))
set_option maxRecDepth 20000 in
theorem kF_D_monthLength {q : Nat} (p0 : Int32) (p1 : Int32) (S : jS) (rF rL : Nat) (hF : 0 ≤ rF) (hL : 0 ≤ rL)  : jg q jp_D_monthLength rF rL 0 [(0, .int p0), (1, .int p1)] [] S 0 (p_I S) (F_D_monthLength p0 p1 S) := by
  unfold F_D_monthLength
  refine jg_sg 2 (pc1 := 2) (lv1 := [(0, .int p0), (1, .int p1)]) (st1 := [.int 2, .int p1]) (fun _ _ _ => rfl) ?_
  refine jg_br (fun _ _ _ _ k1 k2 => jt_icmp_ne (t := 44) rfl rfl k2 k1) (fun c1 => ?_) (fun c1 => ?_)
  · refine jg_sg 2 (pc1 := 7) (lv1 := [(0, .int p0), (1, .int p1)]) (st1 := [.int 4, .int p0]) (fun _ _ _ => rfl) ?_
    refine jg_st (fun _ _ _ _ _ k => jt_irem rfl (by decide +kernel) k) ?_
    refine jg_br (fun _ _ _ _ k1 k2 => jt_if_ne (t := 30) rfl rfl k2 k1) (fun c2 => ?_) (fun c2 => ?_)
    · refine jg_sg 2 (pc1 := 14) (lv1 := [(0, .int p0), (1, .int p1)]) (st1 := [.int 100, .int p0]) (fun _ _ _ => rfl) ?_
      refine jg_st (fun _ _ _ _ _ k => jt_irem rfl (by decide +kernel) k) ?_
      refine jg_br (fun _ _ _ _ k1 k2 => jt_if_ne (t := 26) rfl rfl k2 k1) (fun c3 => ?_) (fun c3 => ?_)
      · refine jg_sg 2 (pc1 := 22) (lv1 := [(0, .int p0), (1, .int p1)]) (st1 := [.int 400, .int p0]) (fun _ _ _ => rfl) ?_
        refine jg_st (fun _ _ _ _ _ k => jt_irem rfl (by decide +kernel) k) ?_
        refine jg_br (fun _ _ _ _ k1 k2 => jt_if_ne (t := 30) rfl rfl k2 k1) (fun c4 => ?_) (fun c4 => ?_)
        · refine jg_lvs (lv1 := []) rfl rfl trivial ?_
          exact kJ_D_monthLength_26 (by omega) (by omega) S
        · refine jg_lvs (lv1 := []) rfl rfl trivial ?_
          exact kJ_D_monthLength_30 (by omega) (by omega) S
      · refine jg_lvs (lv1 := []) rfl rfl trivial ?_
        exact kJ_D_monthLength_26 (by omega) (by omega) S
    · refine jg_lvs (lv1 := []) rfl rfl trivial ?_
      exact kJ_D_monthLength_30 (by omega) (by omega) S
  · refine jg_sg 2 (pc1 := 46) (lv1 := [(0, .int p0), (1, .int p1)]) (st1 := [.int 4, .int p1]) (fun _ _ _ => rfl) ?_
    refine jg_br (fun _ _ _ _ k1 k2 => jt_icmp_eq (t := 67) rfl rfl k1 k2) (fun c6 => ?_) (fun c6 => ?_)
    · refine jg_lvs (lv1 := []) rfl rfl trivial ?_
      exact kJ_D_monthLength_67 (by omega) (by omega) S
    · refine jg_sg 2 (pc1 := 52) (lv1 := [(0, .int p0), (1, .int p1)]) (st1 := [.int 6, .int p1]) (fun _ _ _ => rfl) ?_
      refine jg_br (fun _ _ _ _ k1 k2 => jt_icmp_eq (t := 67) rfl rfl k1 k2) (fun c8 => ?_) (fun c8 => ?_)
      · refine jg_lvs (lv1 := []) rfl rfl trivial ?_
        exact kJ_D_monthLength_67 (by omega) (by omega) S
      · refine jg_sg 2 (pc1 := 58) (lv1 := [(0, .int p0), (1, .int p1)]) (st1 := [.int 9, .int p1]) (fun _ _ _ => rfl) ?_
        refine jg_br (fun _ _ _ _ k1 k2 => jt_icmp_eq (t := 67) rfl rfl k1 k2) (fun c9 => ?_) (fun c9 => ?_)
        · refine jg_lvs (lv1 := []) rfl rfl trivial ?_
          exact kJ_D_monthLength_67 (by omega) (by omega) S
        · refine jg_sg 2 (pc1 := 64) (lv1 := [(0, .int p0), (1, .int p1)]) (st1 := [.int 11, .int p1]) (fun _ _ _ => rfl) ?_
          refine jg_br (fun _ _ _ _ k1 k2 => jt_icmp_ne (t := 71) rfl rfl k2 k1) (fun c10 => ?_) (fun c10 => ?_)
          · refine jg_lvs (lv1 := []) rfl rfl trivial ?_
            exact kJ_D_monthLength_67 (by omega) (by omega) S
          · refine jg_sg 1 (pc1 := 72) (lv1 := [(0, .int p0), (1, .int p1)]) (st1 := [.int 0]) (fun _ _ _ => rfl) ?_
            refine jg_lvs (lv1 := []) rfl rfl trivial ?_
            exact kJ_D_monthLength_72 (by omega) (by omega) S 0
noncomputable def J_Y_secondIn_55 (S : jS) (x0 : Nat) (x2 : Int32) (x4 : Int32) : Option Int64 := some ((((x2 + x4 : Int32).toInt64) * 86400) + (((S.1 x0 3) * 60 : Int32).toInt64))
set_option maxRecDepth 20000 in
theorem kJ_Y_secondIn_55 {q rF rL : Nat} (hF : 1 ≤ rF) (hL : 24 ≤ rL) (S : jS)  (x0 : Nat) (x2 : Int32) (x4 : Int32) (hx0 : jy_ x0 = true) : jg q jp_Y_secondIn rF rL 55 [(0, .ref x0), (2, .int x2), (4, .int x4)] [] S 0 (p_L S) (J_Y_secondIn_55 S x0 x2 x4) := by
  unfold J_Y_secondIn_55
  refine jg_sg 7 (pc1 := 65) (lv1 := [(0, .ref x0), (2, .int x2), (4, .int x4)]) (st1 := [.ref x0, .long (((x2 + x4 : Int32).toInt64) * 86400)]) (fun _ _ _ => rfl) ?_
  refine jg_g (v := .int (S.1 x0 3)) rfl (kc_Y hx0) rfl rfl ?_
  refine jg_sg 4 (pc1 := 73) (lv1 := [(0, .ref x0), (2, .int x2), (4, .int x4)]) (st1 := [.long ((((x2 + x4 : Int32).toInt64) * 86400) + (((S.1 x0 3) * 60 : Int32).toInt64))]) (fun _ _ _ => rfl) ?_
  exact jg_rl rfl rfl rfl
noncomputable def F_Y_secondIn (a0 : Nat) (p0 : Int32) (S : jS) : Option Int64 := (F_D_firstOfMonth p0 (S.1 a0 0) S).bind (fun z1 => (F_D_weekdayOf z1 S).bind (fun z2 => (F_Math_floorMod (((S.1 a0 2) + 1) - z2) 7 S).bind (fun z3 => j_l (z3 + (7 * ((S.1 a0 1) - 1)) : Int32) (fun v4 => (F_D_monthLength p0 (S.1 a0 0) S).bind (fun z5 => if v4 < z5 then (J_Y_secondIn_55 S a0 z1 v4) else (J_Y_secondIn_55 S a0 z1 (v4 + (-7))))))))
set_option maxRecDepth 20000 in
theorem kF_Y_secondIn {q : Nat} (a0 : Nat) (p0 : Int32) (S : jS) (rF rL : Nat) (hF : 1 ≤ rF) (hL : 24 ≤ rL) (ha0 : jy_ a0 = true) : jg q jp_Y_secondIn rF rL 0 [(0, .ref a0), (1, .int p0)] [] S 0 (p_L S) (F_Y_secondIn a0 p0 S) := by
  unfold F_Y_secondIn
  refine jg_sg 2 (pc1 := 2) (lv1 := [(0, .ref a0), (1, .int p0)]) (st1 := [.ref a0, .int p0]) (fun _ _ _ => rfl) ?_
  refine jg_g (v := .int (S.1 a0 0)) rfl (kc_Y ha0) rfl rfl ?_
  refine jg_cpI (m2 := jp_D_firstOfMonth) (As := [.int p0, .int (S.1 a0 0)]) (r := []) (mx := 5) (jh_s rfl (fun _ _ _ => rfl) rfl rfl rfl (by omega) (by omega) (Nat.le_of_ble_eq_true rfl)) (kF_D_firstOfMonth p0 (S.1 a0 0) S _ _ (by omega) (by omega) ) (fun z1 => ?_)
  refine jg_sg 2 (pc1 := 10) (lv1 := [(2, .int z1), (0, .ref a0), (1, .int p0)]) (st1 := [.ref a0]) (fun _ _ _ => rfl) ?_
  refine jg_g (v := .int (S.1 a0 2)) rfl (kc_Y ha0) rfl rfl ?_
  refine jg_sg 3 (pc1 := 16) (lv1 := [(2, .int z1), (0, .ref a0), (1, .int p0)]) (st1 := [.int z1, .int ((S.1 a0 2) + 1)]) (fun _ _ _ => rfl) ?_
  refine jg_cpI (m2 := jp_D_weekdayOf) (As := [.int z1]) (r := [.int ((S.1 a0 2) + 1)]) (mx := 1) (jh_s rfl (fun _ _ _ => rfl) rfl rfl rfl (by omega) (by omega) (Nat.le_of_ble_eq_true rfl)) (kF_D_weekdayOf z1 S _ _ (by omega) (by omega) ) (fun z2 => ?_)
  refine jg_sg 2 (pc1 := 22) (lv1 := [(2, .int z1), (0, .ref a0), (1, .int p0)]) (st1 := [.int 7, .int (((S.1 a0 2) + 1) - z2)]) (fun _ _ _ => rfl) ?_
  refine jg_cpI (m2 := jp_Math_floorMod) (As := [.int (((S.1 a0 2) + 1) - z2), .int 7]) (r := []) (mx := 3) (jh_s rfl (fun _ _ _ => rfl) rfl rfl rfl (by omega) (by omega) (Nat.le_of_ble_eq_true rfl)) (kF_Math_floorMod (((S.1 a0 2) + 1) - z2) 7 S _ _ (by omega) (by omega) ) (fun z3 => ?_)
  refine jg_sg 4 (pc1 := 30) (lv1 := [(3, .int z3), (2, .int z1), (0, .ref a0), (1, .int p0)]) (st1 := [.ref a0, .int 7, .int z3]) (fun _ _ _ => rfl) ?_
  refine jg_g (v := .int (S.1 a0 1)) rfl (kc_Y ha0) rfl rfl ?_
  refine jg_sg 5 (pc1 := 39) (lv1 := [(4, .int (z3 + (7 * ((S.1 a0 1) - 1)))), (3, .int z3), (2, .int z1), (0, .ref a0), (1, .int p0)]) (st1 := []) (fun _ _ _ => rfl) ?_
  refine jg_vi (fun v4 => ?_)
  refine jg_sg 3 (pc1 := 43) (lv1 := [(4, .int v4), (3, .int z3), (2, .int z1), (0, .ref a0), (1, .int p0)]) (st1 := [.ref a0, .int p0, .int v4]) (fun _ _ _ => rfl) ?_
  refine jg_g (v := .int (S.1 a0 0)) rfl (kc_Y ha0) rfl rfl ?_
  refine jg_cpI (m2 := jp_D_monthLength) (As := [.int p0, .int (S.1 a0 0)]) (r := [.int v4]) (mx := 3) (jh_s rfl (fun _ _ _ => rfl) rfl rfl rfl (by omega) (by omega) (Nat.le_of_ble_eq_true rfl)) (kF_D_monthLength p0 (S.1 a0 0) S _ _ (by omega) (by omega) ) (fun z5 => ?_)
  refine jg_br (fun _ _ _ _ k1 k2 => jt_icmp_lt (t := 55) rfl rfl k1 k2) (fun c6 => ?_) (fun c6 => ?_)
  · refine jg_lvs (lv1 := [(0, .ref a0), (2, .int z1), (4, .int v4)]) rfl rfl ⟨rfl, rfl, rfl, trivial⟩ ?_
    exact kJ_Y_secondIn_55 (by omega) (by omega) S a0 z1 v4 ha0
  · refine jg_sg 1 (pc1 := 55) (lv1 := [(4, .int (v4 + (-7))), (3, .int z3), (2, .int z1), (0, .ref a0), (1, .int p0)]) (st1 := []) (fun _ _ _ => rfl) ?_
    refine jg_lvs (lv1 := [(0, .ref a0), (2, .int z1), (4, .int (v4 + (-7)))]) rfl rfl ⟨rfl, rfl, rfl, trivial⟩ ?_
    exact kJ_Y_secondIn_55 (by omega) (by omega) S a0 z1 (v4 + (-7)) ha0
noncomputable def J_Y_latestUpTo_35 (S : jS) (x0 : Nat) (x3 : Int32) (x5 : Int32) : Option Int64 := if 1970 ≤ x5 then ((F_Y_secondIn x0 x5 S).bind (fun z4 => some (z4 - ((x3 : Int32).toInt64)))) else (some (-1152921504606846976))
set_option maxRecDepth 20000 in
theorem kJ_Y_latestUpTo_35 {q rF rL : Nat} (hF : 2 ≤ rF) (hL : 48 ≤ rL) (S : jS)  (x0 : Nat) (x3 : Int32) (x5 : Int32) (hx0 : jy_ x0 = true) : jg q jp_Y_latestUpTo rF rL 35 [(0, .ref x0), (3, .int x3), (5, .int x5)] [] S 0 (p_L S) (J_Y_latestUpTo_35 S x0 x3 x5) := by
  unfold J_Y_latestUpTo_35
  refine jg_sg 2 (pc1 := 40) (lv1 := [(0, .ref x0), (3, .int x3), (5, .int x5)]) (st1 := [.int 1970, .int x5]) (fun _ _ _ => rfl) ?_
  refine jg_br (fun _ _ _ _ k1 k2 => jt_icmp_ge (t := 49) rfl rfl k1 k2) (fun c3 => ?_) (fun c3 => ?_)
  · refine jg_sg 2 (pc1 := 52) (lv1 := [(0, .ref x0), (3, .int x3), (5, .int x5)]) (st1 := [.int x5, .ref x0]) (fun _ _ _ => rfl) ?_
    refine jg_cpL (m2 := jp_Y_secondIn) (As := [.ref x0, .int x5]) (r := []) (mx := 5) (jh_v (a := x0) rfl rfl rfl (kc_Y hx0) rfl (Nat.le_of_ble_eq_true rfl) rfl rfl rfl (by omega) (by omega) (Nat.le_of_ble_eq_true rfl)) (kF_Y_secondIn x0 x5 S _ _ (by omega) (by omega) hx0) (fun z4 => ?_)
    refine jg_sg 3 (pc1 := 58) (lv1 := [(0, .ref x0), (3, .int x3), (5, .int x5)]) (st1 := [.long (z4 - ((x3 : Int32).toInt64))]) (fun _ _ _ => rfl) ?_
    exact jg_rl rfl rfl rfl
  · refine jg_sg 2 (pc1 := 58) (lv1 := [(0, .ref x0), (3, .int x3), (5, .int x5)]) (st1 := [.long (-1152921504606846976)]) (fun _ _ _ => rfl) ?_
    exact jg_rl rfl rfl rfl
noncomputable def F_Y_latestUpTo (a0 : Nat) (p0 : Int64) (p1 : Int32) (p2 : Int32) (S : jS) : Option Int64 := (F_Math_min p2 2299 S).bind (fun z1 => if z1 < 1970 then (J_Y_latestUpTo_35 S a0 p1 z1) else ((F_Y_secondIn a0 z1 S).bind (fun z5 => if (z5 - ((p1 : Int32).toInt64)) ≤ p0 then (J_Y_latestUpTo_35 S a0 p1 z1) else (J_Y_latestUpTo_35 S a0 p1 (z1 + (-1))))))
set_option maxRecDepth 20000 in
theorem kF_Y_latestUpTo {q : Nat} (a0 : Nat) (p0 : Int64) (p1 : Int32) (p2 : Int32) (S : jS) (rF rL : Nat) (hF : 2 ≤ rF) (hL : 48 ≤ rL) (ha0 : jy_ a0 = true) : jg q jp_Y_latestUpTo rF rL 0 [(0, .ref a0), (1, .long p0), (3, .int p1), (4, .int p2)] [] S 0 (p_L S) (F_Y_latestUpTo a0 p0 p1 p2 S) := by
  unfold F_Y_latestUpTo
  refine jg_sg 2 (pc1 := 5) (lv1 := [(0, .ref a0), (1, .long p0), (3, .int p1), (4, .int p2)]) (st1 := [.int 2299, .int p2]) (fun _ _ _ => rfl) ?_
  refine jg_cpI (m2 := jp_Math_min) (As := [.int p2, .int 2299]) (r := []) (mx := 2) (jh_s rfl (fun _ _ _ => rfl) rfl rfl rfl (by omega) (by omega) (Nat.le_of_ble_eq_true rfl)) (kF_Math_min p2 2299 S _ _ (by omega) (by omega) ) (fun z1 => ?_)
  refine jg_sg 3 (pc1 := 15) (lv1 := [(5, .int z1), (0, .ref a0), (1, .long p0), (3, .int p1), (4, .int p2)]) (st1 := [.int 1970, .int z1]) (fun _ _ _ => rfl) ?_
  refine jg_br (fun _ _ _ _ k1 k2 => jt_icmp_lt (t := 35) rfl rfl k1 k2) (fun c2 => ?_) (fun c2 => ?_)
  · refine jg_lvs (lv1 := [(0, .ref a0), (3, .int p1), (5, .int z1)]) rfl rfl ⟨rfl, rfl, rfl, trivial⟩ ?_
    exact kJ_Y_latestUpTo_35 (by omega) (by omega) S a0 p1 z1 ha0
  · refine jg_sg 2 (pc1 := 21) (lv1 := [(5, .int z1), (0, .ref a0), (1, .long p0), (3, .int p1), (4, .int p2)]) (st1 := [.int z1, .ref a0]) (fun _ _ _ => rfl) ?_
    refine jg_cpL (m2 := jp_Y_secondIn) (As := [.ref a0, .int z1]) (r := []) (mx := 5) (jh_v (a := a0) rfl rfl rfl (kc_Y ha0) rfl (Nat.le_of_ble_eq_true rfl) rfl rfl rfl (by omega) (by omega) (Nat.le_of_ble_eq_true rfl)) (kF_Y_secondIn a0 z1 S _ _ (by omega) (by omega) ha0) (fun z5 => ?_)
    refine jg_sg 5 (pc1 := 29) (lv1 := [(5, .int z1), (0, .ref a0), (1, .long p0), (3, .int p1), (4, .int p2)]) (st1 := [.int (lg_cmp (z5 - ((p1 : Int32).toInt64)) p0)]) (fun _ _ _ => rfl) ?_
    refine jg_br (fun _ _ _ _ k1 k2 => jt_lif_le (t := 35) rfl rfl k1 k2) (fun c6 => ?_) (fun c6 => ?_)
    · refine jg_lvs (lv1 := [(0, .ref a0), (3, .int p1), (5, .int z1)]) rfl rfl ⟨rfl, rfl, rfl, trivial⟩ ?_
      exact kJ_Y_latestUpTo_35 (by omega) (by omega) S a0 p1 z1 ha0
    · refine jg_sg 1 (pc1 := 35) (lv1 := [(5, .int (z1 + (-1))), (0, .ref a0), (1, .long p0), (3, .int p1), (4, .int p2)]) (st1 := []) (fun _ _ _ => rfl) ?_
      refine jg_lvs (lv1 := [(0, .ref a0), (3, .int p1), (5, .int (z1 + (-1)))]) rfl rfl ⟨rfl, rfl, rfl, trivial⟩ ?_
      exact kJ_Y_latestUpTo_35 (by omega) (by omega) S a0 p1 (z1 + (-1)) ha0
end JF3
