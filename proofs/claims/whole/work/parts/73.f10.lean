section JF10
noncomputable def L_M_readZone_166  : Nat → Int32 → Int32 → Int32 → Int32 → jS → Option (Option Nat × jS)
  | 0, _, _, _, _, _ => none
  | f + 1, x1, x3, x4, x5, S => if 2299 < x5 then (some (none, S)) else ((F_M_ruleDay 0 x5 S).bind (fun z19 => j_q (j_in 3 8) ((F_M_event x1 ((((z19 : Int32).toInt64) * 86400000) + (60000 * (((S.1 238 ((3 : Int32).toNatClampNeg)) - x3 : Int32).toInt64))) 1 S).bind (fun z21 => (F_M_ruleDay 4 x5 z21).bind (fun z22 => j_q (j_in 7 8) ((F_M_event x1 ((((z22 : Int32).toInt64) * 86400000) + (60000 * ((((z21.1 238 ((7 : Int32).toNatClampNeg)) - x3) - x4 : Int32).toInt64))) 0 z21).bind (fun z24 => (L_M_readZone_166 f) x1 x3 x4 (x5 + 1) z24)))))))
set_option maxRecDepth 20000 in
theorem kL_M_readZone_166 {q rF rL : Nat} (hF : 9 ≤ rF) (hL : 147 ≤ rL)   : ∀ (f : Nat) (x1 : Int32) (x3 : Int32) (x4 : Int32) (x5 : Int32) (S : jS), jg q jp_M_readZone rF rL 166 [(0, .ref 215), (1, .int x1), (3, .int x3), (4, .int x4), (5, .int x5)] [] S 0 x_V (L_M_readZone_166 f x1 x3 x4 x5 S) := by
  intro f
  induction f with
  | zero => intro _ _ _ _ _; exact jg_none
  | succ f ih166 =>
    intro x1 x3 x4 x5 S
    rw [L_M_readZone_166]
    refine jg_sg 2 (pc1 := 171) (lv1 := [(0, .ref 215), (1, .int x1), (3, .int x3), (4, .int x4), (5, .int x5)]) (st1 := [.int 2299, .int x5]) (fun _ _ _ => rfl) ?_
    refine jg_br (fun _ _ _ _ k1 k2 => jt_icmp_gt (t := 248) rfl rfl k1 k2) (fun c18 => ?_) (fun c18 => ?_)
    · exact jg_rv rfl rfl rfl
    · refine jg_sg 5 (pc1 := 180) (lv1 := [(0, .ref 215), (1, .int x1), (3, .int x3), (4, .int x4), (5, .int x5)]) (st1 := [.int x5, .int 0, .ref 215, .int x1, .ref 215]) (fun _ _ _ => rfl) ?_
      refine jg_cpI (m2 := jp_M_ruleDay) (As := [.ref 215, .int 0, .int x5]) (r := [.int x1, .ref 215]) (mx := 5) (jh_v (a := 215) rfl rfl rfl kc_215 rfl (Nat.le_of_ble_eq_true rfl) rfl rfl rfl (by omega) (by omega) (Nat.le_of_ble_eq_true rfl)) (kF_M_ruleDay 0 x5 S _ _ (by omega) (by omega) ) (fun z19 => ?_)
      refine jg_sg 5 (pc1 := 192) (lv1 := [(0, .ref 215), (1, .int x1), (3, .int x3), (4, .int x4), (5, .int x5)]) (st1 := [.ref 215, .long 60000, .long (((z19 : Int32).toInt64) * 86400000), .int x1, .ref 215]) (fun _ _ _ => rfl) ?_
      refine jg_g (v := .ref 238) rfl kc_215 rfl rfl ?_
      refine jg_sg 1 (pc1 := 196) (lv1 := [(0, .ref 215), (1, .int x1), (3, .int x3), (4, .int x4), (5, .int x5)]) (st1 := [.int 3, .ref 238, .long 60000, .long (((z19 : Int32).toInt64) * 86400000), .int x1, .ref 215]) (fun _ _ _ => rfl) ?_
      refine jg_ial rfl kc_238 (fun g20 => ?_)
      refine jg_sg 6 (pc1 := 203) (lv1 := [(0, .ref 215), (1, .int x1), (3, .int x3), (4, .int x4), (5, .int x5)]) (st1 := [.int 1, .long ((((z19 : Int32).toInt64) * 86400000) + (60000 * (((S.1 238 ((3 : Int32).toNatClampNeg)) - x3 : Int32).toInt64))), .int x1, .ref 215]) (fun _ _ _ => rfl) ?_
      refine jg_csV (m2 := jp_M_event) (As := [.ref 215, .int x1, .long ((((z19 : Int32).toInt64) * 86400000) + (60000 * (((S.1 238 ((3 : Int32).toNatClampNeg)) - x3 : Int32).toInt64))), .int 1]) (r := []) (mx := 6) (jh_v (a := 215) rfl rfl rfl kc_215 rfl (Nat.le_of_ble_eq_true rfl) rfl rfl rfl (by omega) (by omega) (Nat.le_of_ble_eq_true rfl)) (kF_M_event x1 ((((z19 : Int32).toInt64) * 86400000) + (60000 * (((S.1 238 ((3 : Int32).toNatClampNeg)) - x3 : Int32).toInt64))) 1 S _ _ (by omega) (by omega) ) (fun z21 => ?_)
      refine jg_sg 5 (pc1 := 212) (lv1 := [(0, .ref 215), (1, .int x1), (3, .int x3), (4, .int x4), (5, .int x5)]) (st1 := [.int x5, .int 4, .ref 215, .int x1, .ref 215]) (fun _ _ _ => rfl) ?_
      refine jg_cpI (m2 := jp_M_ruleDay) (As := [.ref 215, .int 4, .int x5]) (r := [.int x1, .ref 215]) (mx := 5) (jh_v (a := 215) rfl rfl rfl kc_215 rfl (Nat.le_of_ble_eq_true rfl) rfl rfl rfl (by omega) (by omega) (Nat.le_of_ble_eq_true rfl)) (kF_M_ruleDay 4 x5 z21 _ _ (by omega) (by omega) ) (fun z22 => ?_)
      refine jg_sg 5 (pc1 := 224) (lv1 := [(0, .ref 215), (1, .int x1), (3, .int x3), (4, .int x4), (5, .int x5)]) (st1 := [.ref 215, .long 60000, .long (((z22 : Int32).toInt64) * 86400000), .int x1, .ref 215]) (fun _ _ _ => rfl) ?_
      refine jg_g (v := .ref 238) rfl kc_215 rfl rfl ?_
      refine jg_sg 1 (pc1 := 229) (lv1 := [(0, .ref 215), (1, .int x1), (3, .int x3), (4, .int x4), (5, .int x5)]) (st1 := [.int 7, .ref 238, .long 60000, .long (((z22 : Int32).toInt64) * 86400000), .int x1, .ref 215]) (fun _ _ _ => rfl) ?_
      refine jg_ial rfl kc_238 (fun g23 => ?_)
      refine jg_sg 8 (pc1 := 239) (lv1 := [(0, .ref 215), (1, .int x1), (3, .int x3), (4, .int x4), (5, .int x5)]) (st1 := [.int 0, .long ((((z22 : Int32).toInt64) * 86400000) + (60000 * ((((z21.1 238 ((7 : Int32).toNatClampNeg)) - x3) - x4 : Int32).toInt64))), .int x1, .ref 215]) (fun _ _ _ => rfl) ?_
      refine jg_csV (m2 := jp_M_event) (As := [.ref 215, .int x1, .long ((((z22 : Int32).toInt64) * 86400000) + (60000 * ((((z21.1 238 ((7 : Int32).toNatClampNeg)) - x3) - x4 : Int32).toInt64))), .int 0]) (r := []) (mx := 6) (jh_v (a := 215) rfl rfl rfl kc_215 rfl (Nat.le_of_ble_eq_true rfl) rfl rfl rfl (by omega) (by omega) (Nat.le_of_ble_eq_true rfl)) (kF_M_event x1 ((((z22 : Int32).toInt64) * 86400000) + (60000 * ((((z21.1 238 ((7 : Int32).toNatClampNeg)) - x3) - x4 : Int32).toInt64))) 0 z21 _ _ (by omega) (by omega) ) (fun z24 => ?_)
      refine jg_sg 2 (pc1 := 166) (lv1 := [(5, .int (x5 + 1)), (0, .ref 215), (1, .int x1), (3, .int x3), (4, .int x4)]) (st1 := []) (fun _ _ _ => rfl) ?_
      refine jg_lvs (lv1 := [(0, .ref 215), (1, .int x1), (3, .int x3), (4, .int x4), (5, .int (x5 + 1))]) rfl rfl ⟨rfl, rfl, rfl, rfl, rfl, trivial⟩ ?_
      exact ih166 x1 x3 x4 (x5 + 1) z24
noncomputable def J_M_readZone_133 (x1 : Int32) (x3 : Int32) (x4 : Int32) (S : jS) : Option (Option Nat × jS) := j_q (j_in x1 8) (j_l (w_i S 217 ((x1 : Int32).toNatClampNeg) x3) (fun S12 => j_q (j_in x1 8) (j_l (w_i S12 218 ((x1 : Int32).toNatClampNeg) x4) (fun S14 => j_q (j_in x1 8) (j_l (w_i S14 237 ((x1 : Int32).toNatClampNeg) 0) (fun S16 => if x4 = 0 then (some (none, S16)) else (L_M_readZone_166 ju_ x1 x3 x4 1970 S16)))))))
set_option maxRecDepth 20000 in
theorem kJ_M_readZone_133 {q rF rL : Nat} (hF : 9 ≤ rF) (hL : 147 ≤ rL)   (x1 : Int32) (x3 : Int32) (x4 : Int32) (S : jS) : jg q jp_M_readZone rF rL 133 [(0, .ref 215), (1, .int x1), (3, .int x3), (4, .int x4)] [] S 0 x_V (J_M_readZone_133 x1 x3 x4 S) := by
  unfold J_M_readZone_133
  refine jg_sg 1 (pc1 := 134) (lv1 := [(0, .ref 215), (1, .int x1), (3, .int x3), (4, .int x4)]) (st1 := [.ref 215]) (fun _ _ _ => rfl) ?_
  refine jg_g (v := .ref 217) rfl kc_215 rfl rfl ?_
  refine jg_sg 2 (pc1 := 139) (lv1 := [(0, .ref 215), (1, .int x1), (3, .int x3), (4, .int x4)]) (st1 := [.int x3, .int x1, .ref 217]) (fun _ _ _ => rfl) ?_
  refine jg_ias rfl kc_217 (fun g11 S12 _ => ?_)
  refine jg_sg 1 (pc1 := 141) (lv1 := [(0, .ref 215), (1, .int x1), (3, .int x3), (4, .int x4)]) (st1 := [.ref 215]) (fun _ _ _ => rfl) ?_
  refine jg_g (v := .ref 218) rfl kc_215 rfl rfl ?_
  refine jg_sg 2 (pc1 := 147) (lv1 := [(0, .ref 215), (1, .int x1), (3, .int x3), (4, .int x4)]) (st1 := [.int x4, .int x1, .ref 218]) (fun _ _ _ => rfl) ?_
  refine jg_ias rfl kc_218 (fun g13 S14 _ => ?_)
  refine jg_sg 1 (pc1 := 149) (lv1 := [(0, .ref 215), (1, .int x1), (3, .int x3), (4, .int x4)]) (st1 := [.ref 215]) (fun _ _ _ => rfl) ?_
  refine jg_g (v := .ref 237) rfl kc_215 rfl rfl ?_
  refine jg_sg 2 (pc1 := 154) (lv1 := [(0, .ref 215), (1, .int x1), (3, .int x3), (4, .int x4)]) (st1 := [.int 0, .int x1, .ref 237]) (fun _ _ _ => rfl) ?_
  refine jg_ias rfl kc_237 (fun g15 S16 _ => ?_)
  refine jg_sg 1 (pc1 := 157) (lv1 := [(0, .ref 215), (1, .int x1), (3, .int x3), (4, .int x4)]) (st1 := [.int x4]) (fun _ _ _ => rfl) ?_
  refine jg_br (fun _ _ _ _ k1 k2 => jt_if_ne (t := 161) rfl rfl k2 k1) (fun c17 => ?_) (fun c17 => ?_)
  · exact jg_rv rfl rfl rfl
  · refine jg_sg 2 (pc1 := 166) (lv1 := [(5, .int 1970), (0, .ref 215), (1, .int x1), (3, .int x3), (4, .int x4)]) (st1 := []) (fun _ _ _ => rfl) ?_
    refine jg_lvs (lv1 := [(0, .ref 215), (1, .int x1), (3, .int x3), (4, .int x4), (5, .int 1970)]) rfl rfl ⟨rfl, rfl, rfl, rfl, rfl, trivial⟩ ?_
    exact kL_M_readZone_166 (by omega) (by omega) ju_ x1 x3 x4 1970 S16
noncomputable def J_M_readZone_69 (x1 : Int32) (x3 : Int32) (S : jS) : Option (Option Nat × jS) := if (S.1 215 2) ≤ (S.1 215 7) then (J_M_readZone_133 x1 x3 0 S) else (j_xv (F_M_blanks S) (fun c S => (some c, S)) (fun S25 => j_x (F_M_ranged 1 120 S25) (fun c S => (some c, S)) (fun z27 S26 => j_xv (F_M_blanks S26) (fun c S => (some c, S)) (fun S28 => j_xv (F_M_rule 0 S28) (fun c S => (some c, S)) (fun S29 => j_xv (F_M_blanks S29) (fun c S => (some c, S)) (fun S30 => j_xv (F_M_rule 4 S30) (fun c S => (some c, S)) (fun S31 => if (S31.1 215 2) ≤ (S31.1 215 7) then (J_M_readZone_133 x1 x3 z27 S31) else (j_xv (F_M_bad (S31.1 215 7) S31) (fun c S => (some c, S)) (fun S33 => J_M_readZone_133 x1 x3 z27 S33)))))))))
set_option maxRecDepth 20000 in
theorem kJ_M_readZone_69 {q rF rL : Nat} (hF : 9 ≤ rF) (hL : 147 ≤ rL)   (x1 : Int32) (x3 : Int32) (S : jS) : jg q jp_M_readZone rF rL 69 [(0, .ref 215), (1, .int x1), (3, .int x3)] [] S 0 x_V (J_M_readZone_69 x1 x3 S) := by
  unfold J_M_readZone_69
  refine jg_sg 3 (pc1 := 73) (lv1 := [(4, .int 0), (0, .ref 215), (1, .int x1), (3, .int x3)]) (st1 := [.ref 215]) (fun _ _ _ => rfl) ?_
  refine jg_g (v := .int (S.1 215 7)) rfl kc_215 rfl rfl ?_
  refine jg_sg 1 (pc1 := 77) (lv1 := [(4, .int 0), (0, .ref 215), (1, .int x1), (3, .int x3)]) (st1 := [.ref 215, .int (S.1 215 7)]) (fun _ _ _ => rfl) ?_
  refine jg_g (v := .int (S.1 215 2)) rfl kc_215 rfl rfl ?_
  refine jg_br (fun _ _ _ _ k1 k2 => jt_icmp_ge (t := 133) rfl rfl k1 k2) (fun c10 => ?_) (fun c10 => ?_)
  · refine jg_lvs (lv1 := [(0, .ref 215), (1, .int x1), (3, .int x3), (4, .int 0)]) rfl rfl ⟨rfl, rfl, rfl, rfl, trivial⟩ ?_
    exact kJ_M_readZone_133 (by omega) (by omega) x1 x3 0 S
  · refine jg_sg 1 (pc1 := 84) (lv1 := [(4, .int 0), (0, .ref 215), (1, .int x1), (3, .int x3)]) (st1 := [.ref 215]) (fun _ _ _ => rfl) ?_
    refine jg_cxV (m2 := jp_M_blanks) (As := [.ref 215]) (r := []) (mx := 1) (jh_v (a := 215) rfl rfl rfl kc_215 rfl (Nat.le_of_ble_eq_true rfl) rfl rfl rfl (by omega) (by omega) (Nat.le_of_ble_eq_true rfl)) rfl (fun _ _ => rfl) (kF_M_blanks S _ _ (by omega) (by omega) ) (fun S25 => ?_)
    refine jg_sg 3 (pc1 := 91) (lv1 := [(4, .int 0), (0, .ref 215), (1, .int x1), (3, .int x3)]) (st1 := [.int 120, .int 1, .ref 215]) (fun _ _ _ => rfl) ?_
    refine jg_cxI (m2 := jp_M_ranged) (As := [.ref 215, .int 1, .int 120]) (r := []) (mx := 5) (jh_v (a := 215) rfl rfl rfl kc_215 rfl (Nat.le_of_ble_eq_true rfl) rfl rfl rfl (by omega) (by omega) (Nat.le_of_ble_eq_true rfl)) rfl (fun _ _ => rfl) (kF_M_ranged 1 120 S25 _ _ (by omega) (by omega) ) (fun z27 S26 => ?_)
    refine jg_sg 2 (pc1 := 97) (lv1 := [(4, .int z27), (0, .ref 215), (1, .int x1), (3, .int x3)]) (st1 := [.ref 215]) (fun _ _ _ => rfl) ?_
    refine jg_cxV (m2 := jp_M_blanks) (As := [.ref 215]) (r := []) (mx := 1) (jh_v (a := 215) rfl rfl rfl kc_215 rfl (Nat.le_of_ble_eq_true rfl) rfl rfl rfl (by omega) (by omega) (Nat.le_of_ble_eq_true rfl)) rfl (fun _ _ => rfl) (kF_M_blanks S26 _ _ (by omega) (by omega) ) (fun S28 => ?_)
    refine jg_sg 2 (pc1 := 102) (lv1 := [(4, .int z27), (0, .ref 215), (1, .int x1), (3, .int x3)]) (st1 := [.int 0, .ref 215]) (fun _ _ _ => rfl) ?_
    refine jg_cxV (m2 := jp_M_rule) (As := [.ref 215, .int 0]) (r := []) (mx := 2) (jh_v (a := 215) rfl rfl rfl kc_215 rfl (Nat.le_of_ble_eq_true rfl) rfl rfl rfl (by omega) (by omega) (Nat.le_of_ble_eq_true rfl)) rfl (fun _ _ => rfl) (kF_M_rule 0 S28 _ _ (by omega) (by omega) ) (fun S29 => ?_)
    refine jg_sg 1 (pc1 := 106) (lv1 := [(4, .int z27), (0, .ref 215), (1, .int x1), (3, .int x3)]) (st1 := [.ref 215]) (fun _ _ _ => rfl) ?_
    refine jg_cxV (m2 := jp_M_blanks) (As := [.ref 215]) (r := []) (mx := 1) (jh_v (a := 215) rfl rfl rfl kc_215 rfl (Nat.le_of_ble_eq_true rfl) rfl rfl rfl (by omega) (by omega) (Nat.le_of_ble_eq_true rfl)) rfl (fun _ _ => rfl) (kF_M_blanks S29 _ _ (by omega) (by omega) ) (fun S30 => ?_)
    refine jg_sg 2 (pc1 := 111) (lv1 := [(4, .int z27), (0, .ref 215), (1, .int x1), (3, .int x3)]) (st1 := [.int 4, .ref 215]) (fun _ _ _ => rfl) ?_
    refine jg_cxV (m2 := jp_M_rule) (As := [.ref 215, .int 4]) (r := []) (mx := 2) (jh_v (a := 215) rfl rfl rfl kc_215 rfl (Nat.le_of_ble_eq_true rfl) rfl rfl rfl (by omega) (by omega) (Nat.le_of_ble_eq_true rfl)) rfl (fun _ _ => rfl) (kF_M_rule 4 S30 _ _ (by omega) (by omega) ) (fun S31 => ?_)
    refine jg_sg 1 (pc1 := 115) (lv1 := [(4, .int z27), (0, .ref 215), (1, .int x1), (3, .int x3)]) (st1 := [.ref 215]) (fun _ _ _ => rfl) ?_
    refine jg_g (v := .int (S31.1 215 7)) rfl kc_215 rfl rfl ?_
    refine jg_sg 1 (pc1 := 119) (lv1 := [(4, .int z27), (0, .ref 215), (1, .int x1), (3, .int x3)]) (st1 := [.ref 215, .int (S31.1 215 7)]) (fun _ _ _ => rfl) ?_
    refine jg_g (v := .int (S31.1 215 2)) rfl kc_215 rfl rfl ?_
    refine jg_br (fun _ _ _ _ k1 k2 => jt_icmp_ge (t := 133) rfl rfl k1 k2) (fun c32 => ?_) (fun c32 => ?_)
    · refine jg_lvs (lv1 := [(0, .ref 215), (1, .int x1), (3, .int x3), (4, .int z27)]) rfl rfl ⟨rfl, rfl, rfl, rfl, trivial⟩ ?_
      exact kJ_M_readZone_133 (by omega) (by omega) x1 x3 z27 S31
    · refine jg_sg 2 (pc1 := 127) (lv1 := [(4, .int z27), (0, .ref 215), (1, .int x1), (3, .int x3)]) (st1 := [.ref 215, .ref 215]) (fun _ _ _ => rfl) ?_
      refine jg_g (v := .int (S31.1 215 7)) rfl kc_215 rfl rfl ?_
      refine jg_cxV (m2 := jp_M_bad) (As := [.ref 215, .int (S31.1 215 7)]) (r := []) (mx := 2) (jh_v (a := 215) rfl rfl rfl kc_215 rfl (Nat.le_of_ble_eq_true rfl) rfl rfl rfl (by omega) (by omega) (Nat.le_of_ble_eq_true rfl)) rfl (fun _ _ => rfl) (kF_M_bad (S31.1 215 7) S31 _ _ (by omega) (by omega) ) (fun S33 => ?_)
      refine jg_lvs (lv1 := [(0, .ref 215), (1, .int x1), (3, .int x3), (4, .int z27)]) rfl rfl ⟨rfl, rfl, rfl, rfl, trivial⟩ ?_
      exact kJ_M_readZone_133 (by omega) (by omega) x1 x3 z27 S33
noncomputable def J_M_readZone_42 (x1 : Int32) (y0 : Int32) (S : jS) : Option (Option Nat × jS) := j_l (w_i S 215 7 ((S.1 215 7) + 1)) (fun S6 => j_x (F_M_ranged 0 840 S6) (fun c S => (some c, S)) (fun z8 S7 => if y0 = 0 then (J_M_readZone_69 x1 z8 S7) else (j_l (-z8 : Int32) (fun v34 => J_M_readZone_69 x1 v34 S7))))
set_option maxRecDepth 20000 in
theorem kJ_M_readZone_42 {q rF rL : Nat} (hF : 9 ≤ rF) (hL : 147 ≤ rL)   (x1 : Int32) (y0 : Int32) (S : jS) : jg q jp_M_readZone rF rL 42 [(0, .ref 215), (1, .int x1)] [.int y0] S 0 x_V (J_M_readZone_42 x1 y0 S) := by
  unfold J_M_readZone_42
  refine jg_sg 3 (pc1 := 45) (lv1 := [(2, .int y0), (0, .ref 215), (1, .int x1)]) (st1 := [.ref 215, .ref 215]) (fun _ _ _ => rfl) ?_
  refine jg_g (v := .int (S.1 215 7)) rfl kc_215 rfl rfl ?_
  refine jg_sg 2 (pc1 := 50) (lv1 := [(2, .int y0), (0, .ref 215), (1, .int x1)]) (st1 := [.int ((S.1 215 7) + 1), .ref 215]) (fun _ _ _ => rfl) ?_
  refine jg_pi rfl kc_215 rfl (Nat.le_of_ble_eq_true rfl) rfl rfl (fun S6 _ => ?_)
  refine jg_sg 3 (pc1 := 58) (lv1 := [(2, .int y0), (0, .ref 215), (1, .int x1)]) (st1 := [.int 840, .int 0, .ref 215]) (fun _ _ _ => rfl) ?_
  refine jg_cxI (m2 := jp_M_ranged) (As := [.ref 215, .int 0, .int 840]) (r := []) (mx := 5) (jh_v (a := 215) rfl rfl rfl kc_215 rfl (Nat.le_of_ble_eq_true rfl) rfl rfl rfl (by omega) (by omega) (Nat.le_of_ble_eq_true rfl)) rfl (fun _ _ => rfl) (kF_M_ranged 0 840 S6 _ _ (by omega) (by omega) ) (fun z8 S7 => ?_)
  refine jg_sg 2 (pc1 := 63) (lv1 := [(3, .int z8), (2, .int y0), (0, .ref 215), (1, .int x1)]) (st1 := [.int y0]) (fun _ _ _ => rfl) ?_
  refine jg_br (fun _ _ _ _ k1 k2 => jt_if_eq (t := 69) rfl rfl k1 k2) (fun c9 => ?_) (fun c9 => ?_)
  · refine jg_lvs (lv1 := [(0, .ref 215), (1, .int x1), (3, .int z8)]) rfl rfl ⟨rfl, rfl, rfl, trivial⟩ ?_
    exact kJ_M_readZone_69 (by omega) (by omega) x1 z8 S7
  · refine jg_sg 3 (pc1 := 69) (lv1 := [(3, .int (-z8)), (2, .int y0), (0, .ref 215), (1, .int x1)]) (st1 := []) (fun _ _ _ => rfl) ?_
    refine jg_vi (fun v34 => ?_)
    refine jg_lvs (lv1 := [(0, .ref 215), (1, .int x1), (3, .int v34)]) rfl rfl ⟨rfl, rfl, rfl, trivial⟩ ?_
    exact kJ_M_readZone_69 (by omega) (by omega) x1 v34 S7
noncomputable def J_M_readZone_28 (x1 : Int32) (S : jS) : Option (Option Nat × jS) := (F_M_peek S).bind (fun z4 => if z4 = 45 then (J_M_readZone_42 x1 1 S) else (J_M_readZone_42 x1 0 S))
set_option maxRecDepth 20000 in
theorem kJ_M_readZone_28 {q rF rL : Nat} (hF : 9 ≤ rF) (hL : 147 ≤ rL)   (x1 : Int32) (S : jS) : jg q jp_M_readZone rF rL 28 [(0, .ref 215), (1, .int x1)] [] S 0 x_V (J_M_readZone_28 x1 S) := by
  unfold J_M_readZone_28
  refine jg_sg 1 (pc1 := 29) (lv1 := [(0, .ref 215), (1, .int x1)]) (st1 := [.ref 215]) (fun _ _ _ => rfl) ?_
  refine jg_cpI (m2 := jp_M_peek) (As := [.ref 215]) (r := []) (mx := 1) (jh_v (a := 215) rfl rfl rfl kc_215 rfl (Nat.le_of_ble_eq_true rfl) rfl rfl rfl (by omega) (by omega) (Nat.le_of_ble_eq_true rfl)) (kF_M_peek S _ _ (by omega) (by omega) ) (fun z4 => ?_)
  refine jg_sg 1 (pc1 := 34) (lv1 := [(0, .ref 215), (1, .int x1)]) (st1 := [.int 45, .int z4]) (fun _ _ _ => rfl) ?_
  refine jg_br (fun _ _ _ _ k1 k2 => jt_icmp_ne (t := 41) rfl rfl k2 k1) (fun c5 => ?_) (fun c5 => ?_)
  · refine jg_sg 2 (pc1 := 42) (lv1 := [(0, .ref 215), (1, .int x1)]) (st1 := [.int 1]) (fun _ _ _ => rfl) ?_
    refine jg_lvs (lv1 := [(0, .ref 215), (1, .int x1)]) rfl rfl ⟨rfl, rfl, trivial⟩ ?_
    exact kJ_M_readZone_42 (by omega) (by omega) x1 1 S
  · refine jg_sg 1 (pc1 := 42) (lv1 := [(0, .ref 215), (1, .int x1)]) (st1 := [.int 0]) (fun _ _ _ => rfl) ?_
    refine jg_lvs (lv1 := [(0, .ref 215), (1, .int x1)]) rfl rfl ⟨rfl, rfl, trivial⟩ ?_
    exact kJ_M_readZone_42 (by omega) (by omega) x1 0 S
noncomputable def F_M_readZone (p0 : Int32) (S : jS) : Option (Option Nat × jS) := j_l (w_i S 215 7 0) (fun S1 => (F_M_peek S1).bind (fun z2 => if z2 = 43 then (J_M_readZone_28 p0 S1) else ((F_M_peek S1).bind (fun z35 => if z35 = 45 then (J_M_readZone_28 p0 S1) else (j_xv (F_M_bad 0 S1) (fun c S => (some c, S)) (fun S37 => J_M_readZone_28 p0 S37))))))
set_option maxRecDepth 20000 in
theorem kF_M_readZone {q : Nat} (p0 : Int32) (S : jS) (rF rL : Nat) (hF : 9 ≤ rF) (hL : 147 ≤ rL)  : jg q jp_M_readZone rF rL 0 [(0, .ref 215), (1, .int p0)] [] S 0 x_V (F_M_readZone p0 S) := by
  unfold F_M_readZone
  refine jg_sg 2 (pc1 := 2) (lv1 := [(0, .ref 215), (1, .int p0)]) (st1 := [.int 0, .ref 215]) (fun _ _ _ => rfl) ?_
  refine jg_pi rfl kc_215 rfl (Nat.le_of_ble_eq_true rfl) rfl rfl (fun S1 _ => ?_)
  refine jg_sg 1 (pc1 := 6) (lv1 := [(0, .ref 215), (1, .int p0)]) (st1 := [.ref 215]) (fun _ _ _ => rfl) ?_
  refine jg_cpI (m2 := jp_M_peek) (As := [.ref 215]) (r := []) (mx := 1) (jh_v (a := 215) rfl rfl rfl kc_215 rfl (Nat.le_of_ble_eq_true rfl) rfl rfl rfl (by omega) (by omega) (Nat.le_of_ble_eq_true rfl)) (kF_M_peek S1 _ _ (by omega) (by omega) ) (fun z2 => ?_)
  refine jg_sg 1 (pc1 := 11) (lv1 := [(0, .ref 215), (1, .int p0)]) (st1 := [.int 43, .int z2]) (fun _ _ _ => rfl) ?_
  refine jg_br (fun _ _ _ _ k1 k2 => jt_icmp_eq (t := 28) rfl rfl k1 k2) (fun c3 => ?_) (fun c3 => ?_)
  · refine jg_lvs (lv1 := [(0, .ref 215), (1, .int p0)]) rfl rfl ⟨rfl, rfl, trivial⟩ ?_
    exact kJ_M_readZone_28 (by omega) (by omega) p0 S1
  · refine jg_sg 1 (pc1 := 15) (lv1 := [(0, .ref 215), (1, .int p0)]) (st1 := [.ref 215]) (fun _ _ _ => rfl) ?_
    refine jg_cpI (m2 := jp_M_peek) (As := [.ref 215]) (r := []) (mx := 1) (jh_v (a := 215) rfl rfl rfl kc_215 rfl (Nat.le_of_ble_eq_true rfl) rfl rfl rfl (by omega) (by omega) (Nat.le_of_ble_eq_true rfl)) (kF_M_peek S1 _ _ (by omega) (by omega) ) (fun z35 => ?_)
    refine jg_sg 1 (pc1 := 20) (lv1 := [(0, .ref 215), (1, .int p0)]) (st1 := [.int 45, .int z35]) (fun _ _ _ => rfl) ?_
    refine jg_br (fun _ _ _ _ k1 k2 => jt_icmp_eq (t := 28) rfl rfl k1 k2) (fun c36 => ?_) (fun c36 => ?_)
    · refine jg_lvs (lv1 := [(0, .ref 215), (1, .int p0)]) rfl rfl ⟨rfl, rfl, trivial⟩ ?_
      exact kJ_M_readZone_28 (by omega) (by omega) p0 S1
    · refine jg_sg 2 (pc1 := 25) (lv1 := [(0, .ref 215), (1, .int p0)]) (st1 := [.int 0, .ref 215]) (fun _ _ _ => rfl) ?_
      refine jg_cxV (m2 := jp_M_bad) (As := [.ref 215, .int 0]) (r := []) (mx := 2) (jh_v (a := 215) rfl rfl rfl kc_215 rfl (Nat.le_of_ble_eq_true rfl) rfl rfl rfl (by omega) (by omega) (Nat.le_of_ble_eq_true rfl)) rfl (fun _ _ => rfl) (kF_M_bad 0 S1 _ _ (by omega) (by omega) ) (fun S37 => ?_)
      refine jg_lvs (lv1 := [(0, .ref 215), (1, .int p0)]) rfl rfl ⟨rfl, rfl, trivial⟩ ?_
      exact kJ_M_readZone_28 (by omega) (by omega) p0 S37
noncomputable def J_M_zone_15 (S : jS) : Option jS := j_l (w_i S 215 0 1) (fun S3 => some S3)
set_option maxRecDepth 20000 in
theorem kJ_M_zone_15 {q rF rL : Nat} (hF : 10 ≤ rF) (hL : 172 ≤ rL)   (S : jS) : jg q jp_M_zone rF rL 15 [(0, .ref 215)] [] S 0 s_V (J_M_zone_15 S) := by
  unfold J_M_zone_15
  refine jg_sg 2 (pc1 := 17) (lv1 := [(0, .ref 215)]) (st1 := [.int 1, .ref 215]) (fun _ _ _ => rfl) ?_
  refine jg_pi rfl kc_215 rfl (Nat.le_of_ble_eq_true rfl) rfl rfl (fun S3 _ => ?_)
  refine jg_sg 1 (pc1 := 47) (lv1 := [(0, .ref 215)]) (st1 := []) (fun _ _ _ => rfl) ?_
  exact jg_rv rfl rfl rfl
noncomputable def J_M_zone_42 (S : jS) : Option jS := j_l (w_i S 215 2 0) (fun S9 => some S9)
set_option maxRecDepth 20000 in
theorem kJ_M_zone_42 {q rF rL : Nat} (hF : 10 ≤ rF) (hL : 172 ≤ rL)   (S : jS) : jg q jp_M_zone rF rL 42 [(0, .ref 215)] [] S 0 s_V (J_M_zone_42 S) := by
  unfold J_M_zone_42
  refine jg_sg 2 (pc1 := 44) (lv1 := [(0, .ref 215)]) (st1 := [.int 0, .ref 215]) (fun _ _ _ => rfl) ?_
  refine jg_pi rfl kc_215 rfl (Nat.le_of_ble_eq_true rfl) rfl rfl (fun S9 _ => ?_)
  exact jg_rv rfl rfl rfl
noncomputable def F_M_zone (p0 : Int32) (S : jS) : Option jS := j_l (w_i S 215 0 0) (fun S1 => if p0 < 0 then (J_M_zone_15 S1) else (if p0 ≤ 7 then (j_l (w_i S1 215 3 (-1)) (fun S5 => j_ct (F_M_readZone p0 S5) 12 (fun S6 => J_M_zone_42 S6) (fun S7 => j_l (w_i S7 215 0 2) (fun S10 => J_M_zone_42 S10)))) else (J_M_zone_15 S1)))
set_option maxRecDepth 20000 in
theorem kF_M_zone  (p0 : Int32) (S : jS) (rF rL : Nat) (hF : 10 ≤ rF) (hL : 172 ≤ rL)  : jg 0 jp_M_zone rF rL 0 [(0, .ref 215), (1, .int p0)] [] S 1 s_V (F_M_zone p0 S) := by
  unfold F_M_zone
  refine jg_sg 2 (pc1 := 2) (lv1 := [(0, .ref 215), (1, .int p0)]) (st1 := [.int 0, .ref 215]) (fun _ _ _ => rfl) ?_
  refine jg_pi rfl kc_215 rfl (Nat.le_of_ble_eq_true rfl) rfl rfl (fun S1 _ => ?_)
  refine jg_sg 1 (pc1 := 6) (lv1 := [(0, .ref 215), (1, .int p0)]) (st1 := [.int p0]) (fun _ _ _ => rfl) ?_
  refine jg_br (fun _ _ _ _ k1 k2 => jt_if_lt (t := 15) rfl rfl k1 k2) (fun c2 => ?_) (fun c2 => ?_)
  · refine jg_lvs (lv1 := [(0, .ref 215)]) rfl rfl ⟨rfl, trivial⟩ ?_
    exact jg_up0 (kJ_M_zone_15 (by omega) (by omega) S1)
  · refine jg_sg 2 (pc1 := 12) (lv1 := [(0, .ref 215), (1, .int p0)]) (st1 := [.int 7, .int p0]) (fun _ _ _ => rfl) ?_
    refine jg_br (fun _ _ _ _ k1 k2 => jt_icmp_le (t := 23) rfl rfl k1 k2) (fun c4 => ?_) (fun c4 => ?_)
    · refine jg_sg 2 (pc1 := 25) (lv1 := [(0, .ref 215), (1, .int p0)]) (st1 := [.int (-1), .ref 215]) (fun _ _ _ => rfl) ?_
      refine jg_pi rfl kc_215 rfl (Nat.le_of_ble_eq_true rfl) rfl rfl (fun S5 _ => ?_)
      refine jg_sg 2 (pc1 := 30) (lv1 := [(0, .ref 215), (1, .int p0)]) (st1 := [.int p0, .ref 215]) (fun _ _ _ => rfl) ?_
      refine jg_ctV (n := 0) (m2 := jp_M_readZone) (As := [.ref 215, .int p0]) (r := []) (mx := 6) (ci := 12) (t := 36) (jh_v (a := 215) rfl rfl rfl kc_215 rfl (Nat.le_of_ble_eq_true rfl) rfl rfl rfl (by omega) (by omega) (Nat.le_of_ble_eq_true rfl)) rfl rfl (kF_M_readZone p0 S5 _ _ (by omega) (by omega) ) (fun S6 => ?_) (fun e8 S7 => ?_)
      · refine jg_sg 1 (pc1 := 42) (lv1 := [(0, .ref 215), (1, .int p0)]) (st1 := []) (fun _ _ _ => rfl) ?_
        refine jg_lvs (lv1 := [(0, .ref 215)]) rfl rfl ⟨rfl, trivial⟩ ?_
        exact jg_up0 (kJ_M_zone_42 (by omega) (by omega) S6)
      · refine jg_sg 3 (pc1 := 39) (lv1 := [(2, .ref e8), (0, .ref 215), (1, .int p0)]) (st1 := [.int 2, .ref 215]) (fun _ _ _ => rfl) ?_
        refine jg_pi rfl kc_215 rfl (Nat.le_of_ble_eq_true rfl) rfl rfl (fun S10 _ => ?_)
        refine jg_lvs (lv1 := [(0, .ref 215)]) rfl rfl ⟨rfl, trivial⟩ ?_
        exact jg_up0 (kJ_M_zone_42 (by omega) (by omega) S10)
    · refine jg_lvs (lv1 := [(0, .ref 215)]) rfl rfl ⟨rfl, trivial⟩ ?_
      exact jg_up0 (kJ_M_zone_15 (by omega) (by omega) S1)
noncomputable def L_M_passed_11 (S : jS) : Nat → Int32 → Int64 → Int32 → Int32 → Option Int32
  | 0, _, _, _, _ => none
  | f + 1, x1, x2, x4, x5 => if x5 ≤ x4 then (some x4) else (j_l ((x4 + x5) / 2 : Int32) (fun v4 => j_q (j_in x1 8) (j_q (j_in v4 660) (if x2 < (S.2.1 (220 + ((x1 : Int32).toNatClampNeg)) ((v4 : Int32).toNatClampNeg)) then ((L_M_passed_11 S f) x1 x2 x4 v4) else (j_l (v4 + 1 : Int32) (fun v8 => (L_M_passed_11 S f) x1 x2 v8 x5))))))
set_option maxRecDepth 20000 in
theorem kL_M_passed_11 {q rF rL : Nat} (hF : 0 ≤ rF) (hL : 0 ≤ rL) (S : jS)  : ∀ (f : Nat) (x1 : Int32) (x2 : Int64) (x4 : Int32) (x5 : Int32), jg q jp_M_passed rF rL 11 [(0, .ref 215), (1, .int x1), (2, .long x2), (4, .int x4), (5, .int x5)] [] S 0 (p_I S) (L_M_passed_11 S f x1 x2 x4 x5) := by
  intro f
  induction f with
  | zero => intro _ _ _ _; exact jg_none
  | succ f ih11 =>
    intro x1 x2 x4 x5
    rw [L_M_passed_11]
    refine jg_sg 2 (pc1 := 15) (lv1 := [(0, .ref 215), (1, .int x1), (2, .long x2), (4, .int x4), (5, .int x5)]) (st1 := [.int x5, .int x4]) (fun _ _ _ => rfl) ?_
    refine jg_br (fun _ _ _ _ k1 k2 => jt_icmp_ge (t := 57) rfl rfl k1 k2) (fun c3 => ?_) (fun c3 => ?_)
    · refine jg_sg 1 (pc1 := 59) (lv1 := [(0, .ref 215), (1, .int x1), (2, .long x2), (4, .int x4), (5, .int x5)]) (st1 := [.int x4]) (fun _ _ _ => rfl) ?_
      exact jg_ri rfl rfl rfl rfl
    · refine jg_sg 4 (pc1 := 24) (lv1 := [(0, .ref 215), (1, .int x1), (2, .long x2), (4, .int x4), (5, .int x5)]) (st1 := [.int 2, .int (x4 + x5)]) (fun _ _ _ => rfl) ?_
      refine jg_st (fun _ _ _ _ _ k => jt_idiv rfl (by decide +kernel) k) ?_
      refine jg_sg 1 (pc1 := 27) (lv1 := [(6, .int ((x4 + x5) / 2)), (0, .ref 215), (1, .int x1), (2, .long x2), (4, .int x4), (5, .int x5)]) (st1 := []) (fun _ _ _ => rfl) ?_
      refine jg_vi (fun v4 => ?_)
      refine jg_sg 1 (pc1 := 28) (lv1 := [(6, .int v4), (0, .ref 215), (1, .int x1), (2, .long x2), (4, .int x4), (5, .int x5)]) (st1 := [.ref 215]) (fun _ _ _ => rfl) ?_
      refine jg_g (v := .ref 219) rfl kc_215 rfl rfl ?_
      refine jg_sg 1 (pc1 := 32) (lv1 := [(6, .int v4), (0, .ref 215), (1, .int x1), (2, .long x2), (4, .int x4), (5, .int x5)]) (st1 := [.int x1, .ref 219]) (fun _ _ _ => rfl) ?_
      refine jg_aal (w := 220 + ((x1 : Int32).toNatClampNeg)) rfl rfl kc_219 rfl (fun g5 => ?_)
      refine jg_sg 1 (pc1 := 35) (lv1 := [(6, .int v4), (0, .ref 215), (1, .int x1), (2, .long x2), (4, .int x4), (5, .int x5)]) (st1 := [.int v4, .ref (220 + ((x1 : Int32).toNatClampNeg))]) (fun _ _ _ => rfl) ?_
      refine jg_lal rfl (kc_ev (jr_m g5)) (fun g6 => ?_)
      refine jg_sg 2 (pc1 := 38) (lv1 := [(6, .int v4), (0, .ref 215), (1, .int x1), (2, .long x2), (4, .int x4), (5, .int x5)]) (st1 := [.int (lg_cmp (S.2.1 (220 + ((x1 : Int32).toNatClampNeg)) ((v4 : Int32).toNatClampNeg)) x2)]) (fun _ _ _ => rfl) ?_
      refine jg_br (fun _ _ _ _ k1 k2 => jt_lif_gt (t := 50) rfl rfl k1 k2) (fun c7 => ?_) (fun c7 => ?_)
      · refine jg_sg 3 (pc1 := 11) (lv1 := [(5, .int v4), (6, .int v4), (0, .ref 215), (1, .int x1), (2, .long x2), (4, .int x4)]) (st1 := []) (fun _ _ _ => rfl) ?_
        refine jg_lvs (lv1 := [(0, .ref 215), (1, .int x1), (2, .long x2), (4, .int x4), (5, .int v4)]) rfl rfl ⟨rfl, rfl, rfl, rfl, rfl, trivial⟩ ?_
        exact ih11 x1 x2 x4 v4
      · refine jg_sg 4 (pc1 := 47) (lv1 := [(4, .int (v4 + 1)), (6, .int v4), (0, .ref 215), (1, .int x1), (2, .long x2), (5, .int x5)]) (st1 := []) (fun _ _ _ => rfl) ?_
        refine jg_vi (fun v8 => ?_)
        refine jg_sg 2 (pc1 := 11) (lv1 := [(4, .int v8), (6, .int v4), (0, .ref 215), (1, .int x1), (2, .long x2), (5, .int x5)]) (st1 := []) (fun _ _ _ => rfl) ?_
        refine jg_lvs (lv1 := [(0, .ref 215), (1, .int x1), (2, .long x2), (4, .int v8), (5, .int x5)]) rfl rfl ⟨rfl, rfl, rfl, rfl, rfl, trivial⟩ ?_
        exact ih11 x1 x2 v8 x5
noncomputable def F_M_passed (p0 : Int32) (p1 : Int64) (S : jS) : Option Int32 := j_q (j_in p0 8) (j_l (S.1 237 ((p0 : Int32).toNatClampNeg) : Int32) (fun v2 => L_M_passed_11 S ju_ p0 p1 0 v2))
set_option maxRecDepth 20000 in
theorem kF_M_passed {q : Nat} (p0 : Int32) (p1 : Int64) (S : jS) (rF rL : Nat) (hF : 0 ≤ rF) (hL : 0 ≤ rL)  : jg q jp_M_passed rF rL 0 [(0, .ref 215), (1, .int p0), (2, .long p1)] [] S 0 (p_I S) (F_M_passed p0 p1 S) := by
  unfold F_M_passed
  refine jg_sg 3 (pc1 := 4) (lv1 := [(4, .int 0), (0, .ref 215), (1, .int p0), (2, .long p1)]) (st1 := [.ref 215]) (fun _ _ _ => rfl) ?_
  refine jg_g (v := .ref 237) rfl kc_215 rfl rfl ?_
  refine jg_sg 1 (pc1 := 8) (lv1 := [(4, .int 0), (0, .ref 215), (1, .int p0), (2, .long p1)]) (st1 := [.int p0, .ref 237]) (fun _ _ _ => rfl) ?_
  refine jg_ial rfl kc_237 (fun g1 => ?_)
  refine jg_sg 1 (pc1 := 11) (lv1 := [(5, .int (S.1 237 ((p0 : Int32).toNatClampNeg))), (4, .int 0), (0, .ref 215), (1, .int p0), (2, .long p1)]) (st1 := []) (fun _ _ _ => rfl) ?_
  refine jg_vi (fun v2 => ?_)
  refine jg_lvs (lv1 := [(0, .ref 215), (1, .int p0), (2, .long p1), (4, .int 0), (5, .int v2)]) rfl rfl ⟨rfl, rfl, rfl, rfl, rfl, trivial⟩ ?_
  exact kL_M_passed_11 (by omega) (by omega) S ju_ p0 p1 0 v2
noncomputable def F_M_minutes (p0 : Int32) (p1 : Int32) (S : jS) : Option Int32 := j_q (j_in p0 8) (if p1 ≤ 0 then (some ((S.1 217 ((p0 : Int32).toNatClampNeg)) + 0)) else (j_q (j_in p0 8) (j_q (j_in (p1 - 1) 660) (if (S.1 (229 + ((p0 : Int32).toNatClampNeg)) ((p1 - 1 : Int32).toNatClampNeg)) = 0 then (some ((S.1 217 ((p0 : Int32).toNatClampNeg)) + 0)) else (j_q (j_in p0 8) (some ((S.1 217 ((p0 : Int32).toNatClampNeg)) + (S.1 218 ((p0 : Int32).toNatClampNeg)))))))))
set_option maxRecDepth 20000 in
theorem kF_M_minutes {q : Nat} (p0 : Int32) (p1 : Int32) (S : jS) (rF rL : Nat) (hF : 0 ≤ rF) (hL : 0 ≤ rL)  : jg q jp_M_minutes rF rL 0 [(0, .ref 215), (1, .int p0), (2, .int p1)] [] S 0 (p_I S) (F_M_minutes p0 p1 S) := by
  unfold F_M_minutes
  refine jg_sg 1 (pc1 := 1) (lv1 := [(0, .ref 215), (1, .int p0), (2, .int p1)]) (st1 := [.ref 215]) (fun _ _ _ => rfl) ?_
  refine jg_g (v := .ref 217) rfl kc_215 rfl rfl ?_
  refine jg_sg 1 (pc1 := 5) (lv1 := [(0, .ref 215), (1, .int p0), (2, .int p1)]) (st1 := [.int p0, .ref 217]) (fun _ _ _ => rfl) ?_
  refine jg_ial rfl kc_217 (fun g1 => ?_)
  refine jg_sg 1 (pc1 := 7) (lv1 := [(0, .ref 215), (1, .int p0), (2, .int p1)]) (st1 := [.int p1, .int (S.1 217 ((p0 : Int32).toNatClampNeg))]) (fun _ _ _ => rfl) ?_
  refine jg_br (fun _ _ _ _ k1 k2 => jt_if_le (t := 32) rfl rfl k1 k2) (fun c2 => ?_) (fun c2 => ?_)
  · refine jg_sg 2 (pc1 := 34) (lv1 := [(0, .ref 215), (1, .int p0), (2, .int p1)]) (st1 := [.int ((S.1 217 ((p0 : Int32).toNatClampNeg)) + 0)]) (fun _ _ _ => rfl) ?_
    exact jg_ri rfl rfl rfl rfl
  · refine jg_sg 1 (pc1 := 11) (lv1 := [(0, .ref 215), (1, .int p0), (2, .int p1)]) (st1 := [.ref 215, .int (S.1 217 ((p0 : Int32).toNatClampNeg))]) (fun _ _ _ => rfl) ?_
    refine jg_g (v := .ref 228) rfl kc_215 rfl rfl ?_
    refine jg_sg 1 (pc1 := 15) (lv1 := [(0, .ref 215), (1, .int p0), (2, .int p1)]) (st1 := [.int p0, .ref 228, .int (S.1 217 ((p0 : Int32).toNatClampNeg))]) (fun _ _ _ => rfl) ?_
    refine jg_aal (w := 229 + ((p0 : Int32).toNatClampNeg)) rfl rfl kc_228 rfl (fun g3 => ?_)
    refine jg_sg 3 (pc1 := 19) (lv1 := [(0, .ref 215), (1, .int p0), (2, .int p1)]) (st1 := [.int (p1 - 1), .ref (229 + ((p0 : Int32).toNatClampNeg)), .int (S.1 217 ((p0 : Int32).toNatClampNeg))]) (fun _ _ _ => rfl) ?_
    refine jg_bal rfl rfl (kc_bg (jr_m g3)) (fun g4 => ?_)
    refine jg_br (fun _ _ _ _ k1 k2 => jt_if_eq (t := 32) rfl rfl k1 k2) (fun c5 => ?_) (fun c5 => ?_)
    · refine jg_sg 2 (pc1 := 34) (lv1 := [(0, .ref 215), (1, .int p0), (2, .int p1)]) (st1 := [.int ((S.1 217 ((p0 : Int32).toNatClampNeg)) + 0)]) (fun _ _ _ => rfl) ?_
      exact jg_ri rfl rfl rfl rfl
    · refine jg_sg 1 (pc1 := 24) (lv1 := [(0, .ref 215), (1, .int p0), (2, .int p1)]) (st1 := [.ref 215, .int (S.1 217 ((p0 : Int32).toNatClampNeg))]) (fun _ _ _ => rfl) ?_
      refine jg_g (v := .ref 218) rfl kc_215 rfl rfl ?_
      refine jg_sg 1 (pc1 := 28) (lv1 := [(0, .ref 215), (1, .int p0), (2, .int p1)]) (st1 := [.int p0, .ref 218, .int (S.1 217 ((p0 : Int32).toNatClampNeg))]) (fun _ _ _ => rfl) ?_
      refine jg_ial rfl kc_218 (fun g6 => ?_)
      refine jg_sg 2 (pc1 := 34) (lv1 := [(0, .ref 215), (1, .int p0), (2, .int p1)]) (st1 := [.int ((S.1 217 ((p0 : Int32).toNatClampNeg)) + (S.1 218 ((p0 : Int32).toNatClampNeg)))]) (fun _ _ _ => rfl) ?_
      exact jg_ri rfl rfl rfl rfl
noncomputable def F_M_letter (p0 : Int32) (S : jS) : Option Int32 := if p0 < 65 then (some 0) else (if 90 < p0 then (some 0) else (some 1))
set_option maxRecDepth 20000 in
theorem kF_M_letter {q : Nat} (p0 : Int32) (S : jS) (rF rL : Nat) (hF : 0 ≤ rF) (hL : 0 ≤ rL)  : jg q jp_M_letter rF rL 0 [(0, .int p0)] [] S 0 (p_I S) (F_M_letter p0 S) := by
  unfold F_M_letter
  refine jg_sg 2 (pc1 := 3) (lv1 := [(0, .int p0)]) (st1 := [.int 65, .int p0]) (fun _ _ _ => rfl) ?_
  refine jg_br (fun _ _ _ _ k1 k2 => jt_icmp_lt (t := 16) rfl rfl k1 k2) (fun c1 => ?_) (fun c1 => ?_)
  · refine jg_sg 1 (pc1 := 17) (lv1 := [(0, .int p0)]) (st1 := [.int 0]) (fun _ _ _ => rfl) ?_
    exact jg_ri rfl rfl rfl rfl
  · refine jg_sg 2 (pc1 := 9) (lv1 := [(0, .int p0)]) (st1 := [.int 90, .int p0]) (fun _ _ _ => rfl) ?_
    refine jg_br (fun _ _ _ _ k1 k2 => jt_icmp_gt (t := 16) rfl rfl k1 k2) (fun c2 => ?_) (fun c2 => ?_)
    · refine jg_sg 1 (pc1 := 17) (lv1 := [(0, .int p0)]) (st1 := [.int 0]) (fun _ _ _ => rfl) ?_
      exact jg_ri rfl rfl rfl rfl
    · refine jg_sg 2 (pc1 := 17) (lv1 := [(0, .int p0)]) (st1 := [.int 1]) (fun _ _ _ => rfl) ?_
      exact jg_ri rfl rfl rfl rfl
noncomputable def J_M_value_139 (x1 : Int32) (S : jS) : Option ((Int32 ⊕ Nat) × jS) := j_q (j_in x1 7) (j_q (j_in x1 7) (j_x (F_M_ranged (jx_LEAST ((x1 : Int32).toNatClampNeg)) (jx_MOSTS ((x1 : Int32).toNatClampNeg)) S) (fun c S => (.inr c, S)) (fun z8 S7 => some (.inl z8, S7))))
set_option maxRecDepth 20000 in
theorem kJ_M_value_139 {q rF rL : Nat} (hF : 8 ≤ rF) (hL : 150 ≤ rL)   (x1 : Int32) (S : jS) : jg q jp_M_value rF rL 139 [(0, .ref 215), (1, .int x1)] [] S 0 x_I (J_M_value_139 x1 S) := by
  unfold J_M_value_139
  refine jg_sg 3 (pc1 := 144) (lv1 := [(0, .ref 215), (1, .int x1)]) (st1 := [.int x1, .ref 1, .ref 215]) (fun _ _ _ => rfl) ?_
  refine jg_iaK1 rfl (fun g5 => ?_)
  refine jg_sg 2 (pc1 := 149) (lv1 := [(0, .ref 215), (1, .int x1)]) (st1 := [.int x1, .ref 2, .int (jx_LEAST ((x1 : Int32).toNatClampNeg)), .ref 215]) (fun _ _ _ => rfl) ?_
  refine jg_iaK2 rfl (fun g6 => ?_)
  refine jg_cxI (m2 := jp_M_ranged) (As := [.ref 215, .int (jx_LEAST ((x1 : Int32).toNatClampNeg)), .int (jx_MOSTS ((x1 : Int32).toNatClampNeg))]) (r := []) (mx := 5) (jh_v (a := 215) rfl rfl rfl kc_215 rfl (Nat.le_of_ble_eq_true rfl) rfl rfl rfl (by omega) (by omega) (Nat.le_of_ble_eq_true rfl)) rfl (fun _ _ => rfl) (kF_M_ranged (jx_LEAST ((x1 : Int32).toNatClampNeg)) (jx_MOSTS ((x1 : Int32).toNatClampNeg)) S _ _ (by omega) (by omega) ) (fun z8 S7 => ?_)
  exact jg_ri rfl rfl rfl rfl
noncomputable def J_M_value_94 (kt39 : Int32 → Nat → Int32 → jS → Option ((Int32 ⊕ Nat) × jS)) (kt51 : Int32 → Nat → Int32 → Int32 → Int32 → jS → Option ((Int32 ⊕ Nat) × jS)) (x1 : Int32) (x2 : Nat) (x3 : Int32) (x5 : Int32) (S : jS) : Option ((Int32 ⊕ Nat) × jS) := kt51 x1 x2 x3 0 (x5 + 1) S
set_option maxRecDepth 20000 in
theorem kJ_M_value_94 {q rF rL : Nat} (hF : 8 ≤ rF) (hL : 150 ≤ rL)  (kt39 : Int32 → Nat → Int32 → jS → Option ((Int32 ⊕ Nat) × jS)) (ih39 : ∀ (x1 : Int32) (x2 : Nat) (x3 : Int32) (S : jS), jm_ x2 = true → jg q jp_M_value rF rL 39 [(0, .ref 215), (1, .int x1), (2, .ref x2), (3, .int x3)] [] S 0 x_I (kt39 x1 x2 x3 S)) (kt51 : Int32 → Nat → Int32 → Int32 → Int32 → jS → Option ((Int32 ⊕ Nat) × jS)) (ih51 : ∀ (x1 : Int32) (x2 : Nat) (x3 : Int32) (x4 : Int32) (x5 : Int32) (S : jS), jm_ x2 = true → jg q jp_M_value rF rL 51 [(0, .ref 215), (1, .int x1), (2, .ref x2), (3, .int x3), (4, .int x4), (5, .int x5)] [] S 0 x_I (kt51 x1 x2 x3 x4 x5 S)) (x1 : Int32) (x2 : Nat) (x3 : Int32) (x5 : Int32) (S : jS) (hx2 : jm_ x2 = true) : jg q jp_M_value rF rL 94 [(0, .ref 215), (1, .int x1), (2, .ref x2), (3, .int x3), (5, .int x5)] [] S 0 x_I (J_M_value_94 kt39 kt51 x1 x2 x3 x5 S) := by
  unfold J_M_value_94
  refine jg_sg 4 (pc1 := 51) (lv1 := [(5, .int (x5 + 1)), (4, .int 0), (0, .ref 215), (1, .int x1), (2, .ref x2), (3, .int x3)]) (st1 := []) (fun _ _ _ => rfl) ?_
  refine jg_lvs (lv1 := [(0, .ref 215), (1, .int x1), (2, .ref x2), (3, .int x3), (4, .int 0), (5, .int (x5 + 1))]) rfl rfl ⟨rfl, rfl, rfl, rfl, rfl, rfl, trivial⟩ ?_
  exact ih51 x1 x2 x3 0 (x5 + 1) S hx2
noncomputable def L_M_value_51 (kt39 : Int32 → Nat → Int32 → jS → Option ((Int32 ⊕ Nat) × jS)) : Nat → Int32 → Nat → Int32 → Int32 → Int32 → jS → Option ((Int32 ⊕ Nat) × jS)
  | 0, _, _, _, _, _, _ => none
  | f + 1, x1, x2, x3, x4, x5, S => if 3 ≤ x5 then (if x4 = 0 then (kt39 x1 x2 (x3 + 1) S) else (j_l (w_i S 215 7 ((S.1 215 7) + 3)) (fun S14 => some (.inl (x3 + 1), S14)))) else (if (S.1 215 2) ≤ ((S.1 215 7) + x5) then (J_M_value_94 kt39 (L_M_value_51 kt39 f) x1 x2 x3 x5 S) else (j_q (j_in ((S.1 215 7) + x5) 400) (j_q (j_in x3 (ml_ x2)) (j_q (j_in x5 (sl_ (me_ x2 ((x3 : Int32).toNatClampNeg)))) (if (S.1 216 (((S.1 215 7) + x5 : Int32).toNatClampNeg)) = (sc_ (me_ x2 ((x3 : Int32).toNatClampNeg)) (x5 : Int32).toNatClampNeg) then ((L_M_value_51 kt39 f) x1 x2 x3 x4 (x5 + 1) S) else (J_M_value_94 kt39 (L_M_value_51 kt39 f) x1 x2 x3 x5 S))))))
set_option maxRecDepth 20000 in
theorem kL_M_value_51 {q rF rL : Nat} (hF : 8 ≤ rF) (hL : 150 ≤ rL)  (kt39 : Int32 → Nat → Int32 → jS → Option ((Int32 ⊕ Nat) × jS)) (ih39 : ∀ (x1 : Int32) (x2 : Nat) (x3 : Int32) (S : jS), jm_ x2 = true → jg q jp_M_value rF rL 39 [(0, .ref 215), (1, .int x1), (2, .ref x2), (3, .int x3)] [] S 0 x_I (kt39 x1 x2 x3 S)) : ∀ (f : Nat) (x1 : Int32) (x2 : Nat) (x3 : Int32) (x4 : Int32) (x5 : Int32) (S : jS), jm_ x2 = true → jg q jp_M_value rF rL 51 [(0, .ref 215), (1, .int x1), (2, .ref x2), (3, .int x3), (4, .int x4), (5, .int x5)] [] S 0 x_I (L_M_value_51 kt39 f x1 x2 x3 x4 x5 S) := by
  intro f
  induction f with
  | zero => intro _ _ _ _ _ _ _; exact jg_none
  | succ f ih51 =>
    intro x1 x2 x3 x4 x5 S hx2
    rw [L_M_value_51]
    refine jg_sg 2 (pc1 := 54) (lv1 := [(0, .ref 215), (1, .int x1), (2, .ref x2), (3, .int x3), (4, .int x4), (5, .int x5)]) (st1 := [.int 3, .int x5]) (fun _ _ _ => rfl) ?_
    refine jg_br (fun _ _ _ _ k1 k2 => jt_icmp_ge (t := 103) rfl rfl k1 k2) (fun c12 => ?_) (fun c12 => ?_)
    · refine jg_sg 1 (pc1 := 105) (lv1 := [(0, .ref 215), (1, .int x1), (2, .ref x2), (3, .int x3), (4, .int x4), (5, .int x5)]) (st1 := [.int x4]) (fun _ _ _ => rfl) ?_
      refine jg_br (fun _ _ _ _ k1 k2 => jt_if_ne (t := 111) rfl rfl k2 k1) (fun c13 => ?_) (fun c13 => ?_)
      · refine jg_sg 3 (pc1 := 39) (lv1 := [(3, .int (x3 + 1)), (0, .ref 215), (1, .int x1), (2, .ref x2), (4, .int x4), (5, .int x5)]) (st1 := []) (fun _ _ _ => rfl) ?_
        refine jg_lvs (lv1 := [(0, .ref 215), (1, .int x1), (2, .ref x2), (3, .int (x3 + 1))]) rfl rfl ⟨rfl, rfl, rfl, rfl, trivial⟩ ?_
        exact ih39 x1 x2 (x3 + 1) S hx2
      · refine jg_sg 2 (pc1 := 113) (lv1 := [(0, .ref 215), (1, .int x1), (2, .ref x2), (3, .int x3), (4, .int x4), (5, .int x5)]) (st1 := [.ref 215, .ref 215]) (fun _ _ _ => rfl) ?_
        refine jg_g (v := .int (S.1 215 7)) rfl kc_215 rfl rfl ?_
        refine jg_sg 2 (pc1 := 118) (lv1 := [(0, .ref 215), (1, .int x1), (2, .ref x2), (3, .int x3), (4, .int x4), (5, .int x5)]) (st1 := [.int ((S.1 215 7) + 3), .ref 215]) (fun _ _ _ => rfl) ?_
        refine jg_pi rfl kc_215 rfl (Nat.le_of_ble_eq_true rfl) rfl rfl (fun S14 _ => ?_)
        refine jg_sg 3 (pc1 := 124) (lv1 := [(0, .ref 215), (1, .int x1), (2, .ref x2), (3, .int x3), (4, .int x4), (5, .int x5)]) (st1 := [.int (x3 + 1)]) (fun _ _ _ => rfl) ?_
        exact jg_ri rfl rfl rfl rfl
    · refine jg_sg 1 (pc1 := 58) (lv1 := [(0, .ref 215), (1, .int x1), (2, .ref x2), (3, .int x3), (4, .int x4), (5, .int x5)]) (st1 := [.ref 215]) (fun _ _ _ => rfl) ?_
      refine jg_g (v := .int (S.1 215 7)) rfl kc_215 rfl rfl ?_
      refine jg_sg 3 (pc1 := 65) (lv1 := [(0, .ref 215), (1, .int x1), (2, .ref x2), (3, .int x3), (4, .int x4), (5, .int x5)]) (st1 := [.ref 215, .int ((S.1 215 7) + x5)]) (fun _ _ _ => rfl) ?_
      refine jg_g (v := .int (S.1 215 2)) rfl kc_215 rfl rfl ?_
      refine jg_br (fun _ _ _ _ k1 k2 => jt_icmp_ge (t := 94) rfl rfl k1 k2) (fun c15 => ?_) (fun c15 => ?_)
      · refine jg_lvs (lv1 := [(0, .ref 215), (1, .int x1), (2, .ref x2), (3, .int x3), (5, .int x5)]) rfl rfl ⟨rfl, rfl, rfl, rfl, rfl, trivial⟩ ?_
        exact kJ_M_value_94 (by omega) (by omega) kt39 ih39 (L_M_value_51 kt39 f) ih51 x1 x2 x3 x5 S hx2
      · refine jg_sg 1 (pc1 := 72) (lv1 := [(0, .ref 215), (1, .int x1), (2, .ref x2), (3, .int x3), (4, .int x4), (5, .int x5)]) (st1 := [.ref 215]) (fun _ _ _ => rfl) ?_
        refine jg_g (v := .ref 216) rfl kc_215 rfl rfl ?_
        refine jg_sg 1 (pc1 := 76) (lv1 := [(0, .ref 215), (1, .int x1), (2, .ref x2), (3, .int x3), (4, .int x4), (5, .int x5)]) (st1 := [.ref 215, .ref 216]) (fun _ _ _ => rfl) ?_
        refine jg_g (v := .int (S.1 215 7)) rfl kc_215 rfl rfl ?_
        refine jg_sg 2 (pc1 := 82) (lv1 := [(0, .ref 215), (1, .int x1), (2, .ref x2), (3, .int x3), (4, .int x4), (5, .int x5)]) (st1 := [.int ((S.1 215 7) + x5), .ref 216]) (fun _ _ _ => rfl) ?_
        refine jg_bal rfl rfl kc_216 (fun g16 => ?_)
        refine jg_sg 2 (pc1 := 85) (lv1 := [(0, .ref 215), (1, .int x1), (2, .ref x2), (3, .int x3), (4, .int x4), (5, .int x5)]) (st1 := [.int x3, .ref x2, .int (S.1 216 (((S.1 215 7) + x5 : Int32).toNatClampNeg))]) (fun _ _ _ => rfl) ?_
        refine jg_aal (w := me_ x2 ((x3 : Int32).toNatClampNeg)) rfl rfl (kc_SA hx2) rfl (fun g17 => ?_)
        refine jg_sg 1 (pc1 := 88) (lv1 := [(0, .ref 215), (1, .int x1), (2, .ref x2), (3, .int x3), (4, .int x4), (5, .int x5)]) (st1 := [.int x5, .ref (me_ x2 ((x3 : Int32).toNatClampNeg)), .int (S.1 216 (((S.1 215 7) + x5 : Int32).toNatClampNeg))]) (fun _ _ _ => rfl) ?_
        refine jg_chr rfl (js_m hx2 g17) (Nat.le_of_ble_eq_true rfl) (by omega) (by omega) (fun g18 => ?_)
        refine jg_br (fun _ _ _ _ k1 k2 => jt_icmp_eq (t := 97) rfl rfl k1 k2) (fun c19 => ?_) (fun c19 => ?_)
        · refine jg_sg 2 (pc1 := 51) (lv1 := [(5, .int (x5 + 1)), (0, .ref 215), (1, .int x1), (2, .ref x2), (3, .int x3), (4, .int x4)]) (st1 := []) (fun _ _ _ => rfl) ?_
          refine jg_lvs (lv1 := [(0, .ref 215), (1, .int x1), (2, .ref x2), (3, .int x3), (4, .int x4), (5, .int (x5 + 1))]) rfl rfl ⟨rfl, rfl, rfl, rfl, rfl, rfl, trivial⟩ ?_
          exact ih51 x1 x2 x3 x4 (x5 + 1) S hx2
        · refine jg_lvs (lv1 := [(0, .ref 215), (1, .int x1), (2, .ref x2), (3, .int x3), (5, .int x5)]) rfl rfl ⟨rfl, rfl, rfl, rfl, rfl, trivial⟩ ?_
          exact kJ_M_value_94 (by omega) (by omega) kt39 ih39 (L_M_value_51 kt39 f) ih51 x1 x2 x3 x5 S hx2
noncomputable def L_M_value_39  : Nat → Int32 → Nat → Int32 → jS → Option ((Int32 ⊕ Nat) × jS)
  | 0, _, _, _, _ => none
  | f + 1, x1, x2, x3, S => if (Int32.ofNat (ml_ x2)) ≤ x3 then (j_xv (F_M_bad (S.1 215 7) S) (fun c S => (.inr c, S)) (fun S11 => J_M_value_139 x1 S11)) else (L_M_value_51 (L_M_value_39 f) ju_ x1 x2 x3 1 0 S)
set_option maxRecDepth 20000 in
theorem kL_M_value_39 {q rF rL : Nat} (hF : 8 ≤ rF) (hL : 150 ≤ rL)   : ∀ (f : Nat) (x1 : Int32) (x2 : Nat) (x3 : Int32) (S : jS), jm_ x2 = true → jg q jp_M_value rF rL 39 [(0, .ref 215), (1, .int x1), (2, .ref x2), (3, .int x3)] [] S 0 x_I (L_M_value_39 f x1 x2 x3 S) := by
  intro f
  induction f with
  | zero => intro _ _ _ _ _; exact jg_none
  | succ f ih39 =>
    intro x1 x2 x3 S hx2
    rw [L_M_value_39]
    refine jg_sg 2 (pc1 := 41) (lv1 := [(0, .ref 215), (1, .int x1), (2, .ref x2), (3, .int x3)]) (st1 := [.ref x2, .int x3]) (fun _ _ _ => rfl) ?_
    refine jg_al rfl (by decide) (kc_SA hx2) ?_
    refine jg_br (fun _ _ _ _ k1 k2 => jt_icmp_ge (t := 131) rfl rfl k1 k2) (fun c10 => ?_) (fun c10 => ?_)
    · refine jg_sg 2 (pc1 := 133) (lv1 := [(0, .ref 215), (1, .int x1), (2, .ref x2), (3, .int x3)]) (st1 := [.ref 215, .ref 215]) (fun _ _ _ => rfl) ?_
      refine jg_g (v := .int (S.1 215 7)) rfl kc_215 rfl rfl ?_
      refine jg_cxV (m2 := jp_M_bad) (As := [.ref 215, .int (S.1 215 7)]) (r := []) (mx := 2) (jh_v (a := 215) rfl rfl rfl kc_215 rfl (Nat.le_of_ble_eq_true rfl) rfl rfl rfl (by omega) (by omega) (Nat.le_of_ble_eq_true rfl)) rfl (fun _ _ => rfl) (kF_M_bad (S.1 215 7) S _ _ (by omega) (by omega) ) (fun S11 => ?_)
      refine jg_lvs (lv1 := [(0, .ref 215), (1, .int x1)]) rfl rfl ⟨rfl, rfl, trivial⟩ ?_
      exact kJ_M_value_139 (by omega) (by omega) x1 S11
    · refine jg_sg 4 (pc1 := 51) (lv1 := [(5, .int 0), (4, .int 1), (0, .ref 215), (1, .int x1), (2, .ref x2), (3, .int x3)]) (st1 := []) (fun _ _ _ => rfl) ?_
      refine jg_lvs (lv1 := [(0, .ref 215), (1, .int x1), (2, .ref x2), (3, .int x3), (4, .int 1), (5, .int 0)]) rfl rfl ⟨rfl, rfl, rfl, rfl, rfl, rfl, trivial⟩ ?_
      exact kL_M_value_51 (by omega) (by omega) (L_M_value_39 f) ih39 ju_ x1 x2 x3 1 0 S hx2
noncomputable def J_M_value_10 (x1 : Int32) (S : jS) : Option ((Int32 ⊕ Nat) × jS) := (F_M_peek S).bind (fun z2 => (F_M_letter z2 S).bind (fun z3 => if z3 = 0 then (J_M_value_139 x1 S) else (if x1 = 4 then (L_M_value_39 ju_ x1 428 0 S) else (L_M_value_39 ju_ x1 429 0 S))))
set_option maxRecDepth 20000 in
theorem kJ_M_value_10 {q rF rL : Nat} (hF : 8 ≤ rF) (hL : 150 ≤ rL)   (x1 : Int32) (S : jS) : jg q jp_M_value rF rL 10 [(0, .ref 215), (1, .int x1)] [] S 0 x_I (J_M_value_10 x1 S) := by
  unfold J_M_value_10
  refine jg_sg 1 (pc1 := 11) (lv1 := [(0, .ref 215), (1, .int x1)]) (st1 := [.ref 215]) (fun _ _ _ => rfl) ?_
  refine jg_cpI (m2 := jp_M_peek) (As := [.ref 215]) (r := []) (mx := 1) (jh_v (a := 215) rfl rfl rfl kc_215 rfl (Nat.le_of_ble_eq_true rfl) rfl rfl rfl (by omega) (by omega) (Nat.le_of_ble_eq_true rfl)) (kF_M_peek S _ _ (by omega) (by omega) ) (fun z2 => ?_)
  refine jg_cpI (m2 := jp_M_letter) (As := [.int z2]) (r := []) (mx := 1) (jh_s rfl (fun _ _ _ => rfl) rfl rfl rfl (by omega) (by omega) (Nat.le_of_ble_eq_true rfl)) (kF_M_letter z2 S _ _ (by omega) (by omega) ) (fun z3 => ?_)
  refine jg_br (fun _ _ _ _ k1 k2 => jt_if_eq (t := 139) rfl rfl k1 k2) (fun c4 => ?_) (fun c4 => ?_)
  · refine jg_lvs (lv1 := [(0, .ref 215), (1, .int x1)]) rfl rfl ⟨rfl, rfl, trivial⟩ ?_
    exact kJ_M_value_139 (by omega) (by omega) x1 S
  · refine jg_sg 2 (pc1 := 22) (lv1 := [(0, .ref 215), (1, .int x1)]) (st1 := [.int 4, .int x1]) (fun _ _ _ => rfl) ?_
    refine jg_br (fun _ _ _ _ k1 k2 => jt_icmp_ne (t := 32) rfl rfl k2 k1) (fun c9 => ?_) (fun c9 => ?_)
    · refine jg_sg 1 (pc1 := 26) (lv1 := [(0, .ref 215), (1, .int x1)]) (st1 := [.ref 215]) (fun _ _ _ => rfl) ?_
      refine jg_g (v := .ref 428) rfl kc_215 rfl rfl ?_
      refine jg_sg 4 (pc1 := 39) (lv1 := [(3, .int 0), (2, .ref 428), (0, .ref 215), (1, .int x1)]) (st1 := []) (fun _ _ _ => rfl) ?_
      refine jg_lvs (lv1 := [(0, .ref 215), (1, .int x1), (2, .ref 428), (3, .int 0)]) rfl rfl ⟨rfl, rfl, rfl, rfl, trivial⟩ ?_
      exact kL_M_value_39 (by omega) (by omega) ju_ x1 428 0 S rfl
    · refine jg_sg 1 (pc1 := 33) (lv1 := [(0, .ref 215), (1, .int x1)]) (st1 := [.ref 215]) (fun _ _ _ => rfl) ?_
      refine jg_g (v := .ref 429) rfl kc_215 rfl rfl ?_
      refine jg_sg 3 (pc1 := 39) (lv1 := [(3, .int 0), (2, .ref 429), (0, .ref 215), (1, .int x1)]) (st1 := []) (fun _ _ _ => rfl) ?_
      refine jg_lvs (lv1 := [(0, .ref 215), (1, .int x1), (2, .ref 429), (3, .int 0)]) rfl rfl ⟨rfl, rfl, rfl, rfl, trivial⟩ ?_
      exact kL_M_value_39 (by omega) (by omega) ju_ x1 429 0 S rfl
noncomputable def F_M_value (p0 : Int32) (S : jS) : Option ((Int32 ⊕ Nat) × jS) := if p0 = 4 then (J_M_value_10 p0 S) else (if p0 = 5 then (J_M_value_10 p0 S) else (J_M_value_139 p0 S))
set_option maxRecDepth 20000 in
theorem kF_M_value {q : Nat} (p0 : Int32) (S : jS) (rF rL : Nat) (hF : 8 ≤ rF) (hL : 150 ≤ rL)  : jg q jp_M_value rF rL 0 [(0, .ref 215), (1, .int p0)] [] S 0 x_I (F_M_value p0 S) := by
  unfold F_M_value
  refine jg_sg 2 (pc1 := 2) (lv1 := [(0, .ref 215), (1, .int p0)]) (st1 := [.int 4, .int p0]) (fun _ _ _ => rfl) ?_
  refine jg_br (fun _ _ _ _ k1 k2 => jt_icmp_eq (t := 10) rfl rfl k1 k2) (fun c1 => ?_) (fun c1 => ?_)
  · refine jg_lvs (lv1 := [(0, .ref 215), (1, .int p0)]) rfl rfl ⟨rfl, rfl, trivial⟩ ?_
    exact kJ_M_value_10 (by omega) (by omega) p0 S
  · refine jg_sg 2 (pc1 := 7) (lv1 := [(0, .ref 215), (1, .int p0)]) (st1 := [.int 5, .int p0]) (fun _ _ _ => rfl) ?_
    refine jg_br (fun _ _ _ _ k1 k2 => jt_icmp_ne (t := 139) rfl rfl k2 k1) (fun c20 => ?_) (fun c20 => ?_)
    · refine jg_lvs (lv1 := [(0, .ref 215), (1, .int p0)]) rfl rfl ⟨rfl, rfl, trivial⟩ ?_
      exact kJ_M_value_10 (by omega) (by omega) p0 S
    · refine jg_lvs (lv1 := [(0, .ref 215), (1, .int p0)]) rfl rfl ⟨rfl, rfl, trivial⟩ ?_
      exact kJ_M_value_139 (by omega) (by omega) p0 S
noncomputable def J_M_special_36 (x1 : Int32) (x2 : Int32) (S : jS) : Option ((Int32 ⊕ Nat) × jS) := if x1 = 5 then ((F_M_peek S).bind (fun z8 => if z8 = 76 then (j_l (w_i S 215 7 ((S.1 215 7) + 1)) (fun S10 => j_l (w_i S10 215 20 5) (fun S11 => j_l (w_i S11 215 21 x2) (fun S12 => some (.inl 1, S12))))) else ((F_M_peek S).bind (fun z13 => if z13 = 35 then (j_l (w_i S 215 7 ((S.1 215 7) + 1)) (fun S15 => j_l (w_i S15 215 20 6) (fun S16 => j_l (w_i S16 215 21 x2) (fun S17 => j_x (F_M_ranged 1 5 S17) (fun c S => (.inr c, S)) (fun z19 S18 => j_l (w_i S18 215 22 z19) (fun S20 => some (.inl 1, S20))))))) else (some (.inl 0, S)))))) else (some (.inl 0, S))
set_option maxRecDepth 20000 in
theorem kJ_M_special_36 {q rF rL : Nat} (hF : 8 ≤ rF) (hL : 126 ≤ rL)   (x1 : Int32) (x2 : Int32) (S : jS) : jg q jp_M_special rF rL 36 [(0, .ref 215), (1, .int x1), (2, .int x2)] [] S 0 x_I (J_M_special_36 x1 x2 S) := by
  unfold J_M_special_36
  refine jg_sg 2 (pc1 := 38) (lv1 := [(0, .ref 215), (1, .int x1), (2, .int x2)]) (st1 := [.int 5, .int x1]) (fun _ _ _ => rfl) ?_
  refine jg_br (fun _ _ _ _ k1 k2 => jt_icmp_eq (t := 43) rfl rfl k1 k2) (fun c7 => ?_) (fun c7 => ?_)
  · refine jg_sg 1 (pc1 := 44) (lv1 := [(0, .ref 215), (1, .int x1), (2, .int x2)]) (st1 := [.ref 215]) (fun _ _ _ => rfl) ?_
    refine jg_cpI (m2 := jp_M_peek) (As := [.ref 215]) (r := []) (mx := 1) (jh_v (a := 215) rfl rfl rfl kc_215 rfl (Nat.le_of_ble_eq_true rfl) rfl rfl rfl (by omega) (by omega) (Nat.le_of_ble_eq_true rfl)) (kF_M_peek S _ _ (by omega) (by omega) ) (fun z8 => ?_)
    refine jg_sg 1 (pc1 := 49) (lv1 := [(0, .ref 215), (1, .int x1), (2, .int x2)]) (st1 := [.int 76, .int z8]) (fun _ _ _ => rfl) ?_
    refine jg_br (fun _ _ _ _ k1 k2 => jt_icmp_ne (t := 74) rfl rfl k2 k1) (fun c9 => ?_) (fun c9 => ?_)
    · refine jg_sg 2 (pc1 := 54) (lv1 := [(0, .ref 215), (1, .int x1), (2, .int x2)]) (st1 := [.ref 215, .ref 215]) (fun _ _ _ => rfl) ?_
      refine jg_g (v := .int (S.1 215 7)) rfl kc_215 rfl rfl ?_
      refine jg_sg 2 (pc1 := 59) (lv1 := [(0, .ref 215), (1, .int x1), (2, .int x2)]) (st1 := [.int ((S.1 215 7) + 1), .ref 215]) (fun _ _ _ => rfl) ?_
      refine jg_pi rfl kc_215 rfl (Nat.le_of_ble_eq_true rfl) rfl rfl (fun S10 _ => ?_)
      refine jg_sg 2 (pc1 := 64) (lv1 := [(0, .ref 215), (1, .int x1), (2, .int x2)]) (st1 := [.int 5, .ref 215]) (fun _ _ _ => rfl) ?_
      refine jg_pi rfl kc_215 rfl (Nat.le_of_ble_eq_true rfl) rfl rfl (fun S11 _ => ?_)
      refine jg_sg 2 (pc1 := 69) (lv1 := [(0, .ref 215), (1, .int x1), (2, .int x2)]) (st1 := [.int x2, .ref 215]) (fun _ _ _ => rfl) ?_
      refine jg_pi rfl kc_215 rfl (Nat.le_of_ble_eq_true rfl) rfl rfl (fun S12 _ => ?_)
      refine jg_sg 1 (pc1 := 73) (lv1 := [(0, .ref 215), (1, .int x1), (2, .int x2)]) (st1 := [.int 1]) (fun _ _ _ => rfl) ?_
      exact jg_ri rfl rfl rfl rfl
    · refine jg_sg 1 (pc1 := 75) (lv1 := [(0, .ref 215), (1, .int x1), (2, .int x2)]) (st1 := [.ref 215]) (fun _ _ _ => rfl) ?_
      refine jg_cpI (m2 := jp_M_peek) (As := [.ref 215]) (r := []) (mx := 1) (jh_v (a := 215) rfl rfl rfl kc_215 rfl (Nat.le_of_ble_eq_true rfl) rfl rfl rfl (by omega) (by omega) (Nat.le_of_ble_eq_true rfl)) (kF_M_peek S _ _ (by omega) (by omega) ) (fun z13 => ?_)
      refine jg_sg 1 (pc1 := 80) (lv1 := [(0, .ref 215), (1, .int x1), (2, .int x2)]) (st1 := [.int 35, .int z13]) (fun _ _ _ => rfl) ?_
      refine jg_br (fun _ _ _ _ k1 k2 => jt_icmp_eq (t := 85) rfl rfl k1 k2) (fun c14 => ?_) (fun c14 => ?_)
      · refine jg_sg 2 (pc1 := 87) (lv1 := [(0, .ref 215), (1, .int x1), (2, .int x2)]) (st1 := [.ref 215, .ref 215]) (fun _ _ _ => rfl) ?_
        refine jg_g (v := .int (S.1 215 7)) rfl kc_215 rfl rfl ?_
        refine jg_sg 2 (pc1 := 92) (lv1 := [(0, .ref 215), (1, .int x1), (2, .int x2)]) (st1 := [.int ((S.1 215 7) + 1), .ref 215]) (fun _ _ _ => rfl) ?_
        refine jg_pi rfl kc_215 rfl (Nat.le_of_ble_eq_true rfl) rfl rfl (fun S15 _ => ?_)
        refine jg_sg 2 (pc1 := 98) (lv1 := [(0, .ref 215), (1, .int x1), (2, .int x2)]) (st1 := [.int 6, .ref 215]) (fun _ _ _ => rfl) ?_
        refine jg_pi rfl kc_215 rfl (Nat.le_of_ble_eq_true rfl) rfl rfl (fun S16 _ => ?_)
        refine jg_sg 2 (pc1 := 103) (lv1 := [(0, .ref 215), (1, .int x1), (2, .int x2)]) (st1 := [.int x2, .ref 215]) (fun _ _ _ => rfl) ?_
        refine jg_pi rfl kc_215 rfl (Nat.le_of_ble_eq_true rfl) rfl rfl (fun S17 _ => ?_)
        refine jg_sg 4 (pc1 := 110) (lv1 := [(0, .ref 215), (1, .int x1), (2, .int x2)]) (st1 := [.int 5, .int 1, .ref 215, .ref 215]) (fun _ _ _ => rfl) ?_
        refine jg_cxI (m2 := jp_M_ranged) (As := [.ref 215, .int 1, .int 5]) (r := [.ref 215]) (mx := 5) (jh_v (a := 215) rfl rfl rfl kc_215 rfl (Nat.le_of_ble_eq_true rfl) rfl rfl rfl (by omega) (by omega) (Nat.le_of_ble_eq_true rfl)) rfl (fun _ _ => rfl) (kF_M_ranged 1 5 S17 _ _ (by omega) (by omega) ) (fun z19 S18 => ?_)
        refine jg_pi rfl kc_215 rfl (Nat.le_of_ble_eq_true rfl) rfl rfl (fun S20 _ => ?_)
        refine jg_sg 1 (pc1 := 117) (lv1 := [(0, .ref 215), (1, .int x1), (2, .int x2)]) (st1 := [.int 1]) (fun _ _ _ => rfl) ?_
        exact jg_ri rfl rfl rfl rfl
      · refine jg_sg 1 (pc1 := 84) (lv1 := [(0, .ref 215), (1, .int x1), (2, .int x2)]) (st1 := [.int 0]) (fun _ _ _ => rfl) ?_
        exact jg_ri rfl rfl rfl rfl
  · refine jg_sg 1 (pc1 := 42) (lv1 := [(0, .ref 215), (1, .int x1), (2, .int x2)]) (st1 := [.int 0]) (fun _ _ _ => rfl) ?_
    exact jg_ri rfl rfl rfl rfl
noncomputable def F_M_special (p0 : Int32) (p1 : Int32) (S : jS) : Option ((Int32 ⊕ Nat) × jS) := if p0 = 3 then ((F_M_peek S).bind (fun z2 => if z2 = 87 then (j_l (w_i S 215 7 ((S.1 215 7) + 1)) (fun S4 => j_l (w_i S4 215 20 4) (fun S5 => j_l (w_i S5 215 21 p1) (fun S6 => some (.inl 1, S6))))) else (J_M_special_36 p0 p1 S))) else (J_M_special_36 p0 p1 S)
set_option maxRecDepth 20000 in
theorem kF_M_special {q : Nat} (p0 : Int32) (p1 : Int32) (S : jS) (rF rL : Nat) (hF : 8 ≤ rF) (hL : 126 ≤ rL)  : jg q jp_M_special rF rL 0 [(0, .ref 215), (1, .int p0), (2, .int p1)] [] S 0 x_I (F_M_special p0 p1 S) := by
  unfold F_M_special
  refine jg_sg 2 (pc1 := 2) (lv1 := [(0, .ref 215), (1, .int p0), (2, .int p1)]) (st1 := [.int 3, .int p0]) (fun _ _ _ => rfl) ?_
  refine jg_br (fun _ _ _ _ k1 k2 => jt_icmp_ne (t := 36) rfl rfl k2 k1) (fun c1 => ?_) (fun c1 => ?_)
  · refine jg_sg 1 (pc1 := 6) (lv1 := [(0, .ref 215), (1, .int p0), (2, .int p1)]) (st1 := [.ref 215]) (fun _ _ _ => rfl) ?_
    refine jg_cpI (m2 := jp_M_peek) (As := [.ref 215]) (r := []) (mx := 1) (jh_v (a := 215) rfl rfl rfl kc_215 rfl (Nat.le_of_ble_eq_true rfl) rfl rfl rfl (by omega) (by omega) (Nat.le_of_ble_eq_true rfl)) (kF_M_peek S _ _ (by omega) (by omega) ) (fun z2 => ?_)
    refine jg_sg 1 (pc1 := 11) (lv1 := [(0, .ref 215), (1, .int p0), (2, .int p1)]) (st1 := [.int 87, .int z2]) (fun _ _ _ => rfl) ?_
    refine jg_br (fun _ _ _ _ k1 k2 => jt_icmp_ne (t := 36) rfl rfl k2 k1) (fun c3 => ?_) (fun c3 => ?_)
    · refine jg_sg 2 (pc1 := 16) (lv1 := [(0, .ref 215), (1, .int p0), (2, .int p1)]) (st1 := [.ref 215, .ref 215]) (fun _ _ _ => rfl) ?_
      refine jg_g (v := .int (S.1 215 7)) rfl kc_215 rfl rfl ?_
      refine jg_sg 2 (pc1 := 21) (lv1 := [(0, .ref 215), (1, .int p0), (2, .int p1)]) (st1 := [.int ((S.1 215 7) + 1), .ref 215]) (fun _ _ _ => rfl) ?_
      refine jg_pi rfl kc_215 rfl (Nat.le_of_ble_eq_true rfl) rfl rfl (fun S4 _ => ?_)
      refine jg_sg 2 (pc1 := 26) (lv1 := [(0, .ref 215), (1, .int p0), (2, .int p1)]) (st1 := [.int 4, .ref 215]) (fun _ _ _ => rfl) ?_
      refine jg_pi rfl kc_215 rfl (Nat.le_of_ble_eq_true rfl) rfl rfl (fun S5 _ => ?_)
      refine jg_sg 2 (pc1 := 31) (lv1 := [(0, .ref 215), (1, .int p0), (2, .int p1)]) (st1 := [.int p1, .ref 215]) (fun _ _ _ => rfl) ?_
      refine jg_pi rfl kc_215 rfl (Nat.le_of_ble_eq_true rfl) rfl rfl (fun S6 _ => ?_)
      refine jg_sg 1 (pc1 := 35) (lv1 := [(0, .ref 215), (1, .int p0), (2, .int p1)]) (st1 := [.int 1]) (fun _ _ _ => rfl) ?_
      exact jg_ri rfl rfl rfl rfl
    · refine jg_lvs (lv1 := [(0, .ref 215), (1, .int p0), (2, .int p1)]) rfl rfl ⟨rfl, rfl, rfl, trivial⟩ ?_
      exact kJ_M_special_36 (by omega) (by omega) p0 p1 S
  · refine jg_lvs (lv1 := [(0, .ref 215), (1, .int p0), (2, .int p1)]) rfl rfl ⟨rfl, rfl, rfl, trivial⟩ ?_
    exact kJ_M_special_36 (by omega) (by omega) p0 p1 S
end JF10
