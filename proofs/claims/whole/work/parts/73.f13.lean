section JF13
noncomputable def F_M_special2 (p0 : Int32) (S : jS) : Option Int32 := (F_M_length (S.1 215 4) (S.1 215 5) S).bind (fun z1 => (F_M_number (S.1 215 4) (S.1 215 5) S).bind (fun z2 => j_q (j_in p0 16) (j_q (j_in 0 2) (j_l (S.1 (395 + ((p0 : Int32).toNatClampNeg)) ((0 : Int32).toNatClampNeg) : Int32) (fun v5 => j_q (j_in p0 16) (j_q (j_in 0 2) (if (S.1 (378 + ((p0 : Int32).toNatClampNeg)) ((0 : Int32).toNatClampNeg)) = 2 then (if (z1 - v5) ≤ 0 then (some 0) else (some (z1 - v5))) else (j_q (j_in p0 16) (j_q (j_in 0 2) (if (S.1 (378 + ((p0 : Int32).toNatClampNeg)) ((0 : Int32).toNatClampNeg)) = 3 then ((F_M_weekday ((z2 + z1) - 1) S).bind (fun z13 => if z13 = 7 then (some (z1 - 1)) else (if z13 = 1 then (some (z1 - 2)) else (some z1)))) else (if v5 ≤ z1 then ((F_M_weekday ((z2 + v5) - 1) S).bind (fun z17 => if z17 = 7 then (if v5 ≤ 1 then (some (v5 + 2)) else (some (v5 - 1))) else (if z17 = 1 then (if z1 ≤ v5 then (some (v5 - 2)) else (some (v5 + 1))) else (some v5)))) else (some 0))))))))))))
set_option maxRecDepth 20000 in
theorem kF_M_special2 {q : Nat} (p0 : Int32) (S : jS) (rF rL : Nat) (hF : 3 ≤ rF) (hL : 65 ≤ rL)  : jg q jp_M_special2 rF rL 0 [(0, .ref 215), (1, .int p0)] [] S 0 (p_I S) (F_M_special2 p0 S) := by
  unfold F_M_special2
  refine jg_sg 1 (pc1 := 1) (lv1 := [(0, .ref 215), (1, .int p0)]) (st1 := [.ref 215]) (fun _ _ _ => rfl) ?_
  refine jg_g (v := .int (S.1 215 4)) rfl kc_215 rfl rfl ?_
  refine jg_sg 1 (pc1 := 5) (lv1 := [(0, .ref 215), (1, .int p0)]) (st1 := [.ref 215, .int (S.1 215 4)]) (fun _ _ _ => rfl) ?_
  refine jg_g (v := .int (S.1 215 5)) rfl kc_215 rfl rfl ?_
  refine jg_cpI (m2 := jp_M_length) (As := [.int (S.1 215 4), .int (S.1 215 5)]) (r := []) (mx := 2) (jh_s rfl (fun _ _ _ => rfl) rfl rfl rfl (by omega) (by omega) (Nat.le_of_ble_eq_true rfl)) (kF_M_length (S.1 215 4) (S.1 215 5) S _ _ (by omega) (by omega) ) (fun z1 => ?_)
  refine jg_sg 2 (pc1 := 13) (lv1 := [(2, .int z1), (0, .ref 215), (1, .int p0)]) (st1 := [.ref 215]) (fun _ _ _ => rfl) ?_
  refine jg_g (v := .int (S.1 215 4)) rfl kc_215 rfl rfl ?_
  refine jg_sg 1 (pc1 := 17) (lv1 := [(2, .int z1), (0, .ref 215), (1, .int p0)]) (st1 := [.ref 215, .int (S.1 215 4)]) (fun _ _ _ => rfl) ?_
  refine jg_g (v := .int (S.1 215 5)) rfl kc_215 rfl rfl ?_
  refine jg_cpI (m2 := jp_M_number) (As := [.int (S.1 215 4), .int (S.1 215 5)]) (r := []) (mx := 5) (jh_s rfl (fun _ _ _ => rfl) rfl rfl rfl (by omega) (by omega) (Nat.le_of_ble_eq_true rfl)) (kF_M_number (S.1 215 4) (S.1 215 5) S _ _ (by omega) (by omega) ) (fun z2 => ?_)
  refine jg_sg 2 (pc1 := 25) (lv1 := [(3, .int z2), (2, .int z1), (0, .ref 215), (1, .int p0)]) (st1 := [.ref 215]) (fun _ _ _ => rfl) ?_
  refine jg_g (v := .ref 394) rfl kc_215 rfl rfl ?_
  refine jg_sg 1 (pc1 := 29) (lv1 := [(3, .int z2), (2, .int z1), (0, .ref 215), (1, .int p0)]) (st1 := [.int p0, .ref 394]) (fun _ _ _ => rfl) ?_
  refine jg_aal (w := 395 + ((p0 : Int32).toNatClampNeg)) rfl rfl kc_394 rfl (fun g3 => ?_)
  refine jg_sg 1 (pc1 := 31) (lv1 := [(3, .int z2), (2, .int z1), (0, .ref 215), (1, .int p0)]) (st1 := [.int 0, .ref (395 + ((p0 : Int32).toNatClampNeg))]) (fun _ _ _ => rfl) ?_
  refine jg_ial rfl (kc_f2 (jr_m g3)) (fun g4 => ?_)
  refine jg_sg 1 (pc1 := 34) (lv1 := [(4, .int (S.1 (395 + ((p0 : Int32).toNatClampNeg)) ((0 : Int32).toNatClampNeg))), (3, .int z2), (2, .int z1), (0, .ref 215), (1, .int p0)]) (st1 := []) (fun _ _ _ => rfl) ?_
  refine jg_vi (fun v5 => ?_)
  refine jg_sg 1 (pc1 := 35) (lv1 := [(4, .int v5), (3, .int z2), (2, .int z1), (0, .ref 215), (1, .int p0)]) (st1 := [.ref 215]) (fun _ _ _ => rfl) ?_
  refine jg_g (v := .ref 377) rfl kc_215 rfl rfl ?_
  refine jg_sg 1 (pc1 := 39) (lv1 := [(4, .int v5), (3, .int z2), (2, .int z1), (0, .ref 215), (1, .int p0)]) (st1 := [.int p0, .ref 377]) (fun _ _ _ => rfl) ?_
  refine jg_aal (w := 378 + ((p0 : Int32).toNatClampNeg)) rfl rfl kc_377 rfl (fun g6 => ?_)
  refine jg_sg 1 (pc1 := 41) (lv1 := [(4, .int v5), (3, .int z2), (2, .int z1), (0, .ref 215), (1, .int p0)]) (st1 := [.int 0, .ref (378 + ((p0 : Int32).toNatClampNeg))]) (fun _ _ _ => rfl) ?_
  refine jg_ial rfl (kc_w2 (jr_m g6)) (fun g7 => ?_)
  refine jg_sg 1 (pc1 := 43) (lv1 := [(4, .int v5), (3, .int z2), (2, .int z1), (0, .ref 215), (1, .int p0)]) (st1 := [.int 2, .int (S.1 (378 + ((p0 : Int32).toNatClampNeg)) ((0 : Int32).toNatClampNeg))]) (fun _ _ _ => rfl) ?_
  refine jg_br (fun _ _ _ _ k1 k2 => jt_icmp_ne (t := 62) rfl rfl k2 k1) (fun c8 => ?_) (fun c8 => ?_)
  · refine jg_sg 3 (pc1 := 50) (lv1 := [(4, .int v5), (3, .int z2), (2, .int z1), (0, .ref 215), (1, .int p0)]) (st1 := [.int (z1 - v5)]) (fun _ _ _ => rfl) ?_
    refine jg_br (fun _ _ _ _ k1 k2 => jt_if_le (t := 60) rfl rfl k1 k2) (fun c9 => ?_) (fun c9 => ?_)
    · refine jg_sg 1 (pc1 := 61) (lv1 := [(4, .int v5), (3, .int z2), (2, .int z1), (0, .ref 215), (1, .int p0)]) (st1 := [.int 0]) (fun _ _ _ => rfl) ?_
      exact jg_ri rfl rfl rfl rfl
    · refine jg_sg 4 (pc1 := 61) (lv1 := [(4, .int v5), (3, .int z2), (2, .int z1), (0, .ref 215), (1, .int p0)]) (st1 := [.int (z1 - v5)]) (fun _ _ _ => rfl) ?_
      exact jg_ri rfl rfl rfl rfl
  · refine jg_sg 1 (pc1 := 63) (lv1 := [(4, .int v5), (3, .int z2), (2, .int z1), (0, .ref 215), (1, .int p0)]) (st1 := [.ref 215]) (fun _ _ _ => rfl) ?_
    refine jg_g (v := .ref 377) rfl kc_215 rfl rfl ?_
    refine jg_sg 1 (pc1 := 67) (lv1 := [(4, .int v5), (3, .int z2), (2, .int z1), (0, .ref 215), (1, .int p0)]) (st1 := [.int p0, .ref 377]) (fun _ _ _ => rfl) ?_
    refine jg_aal (w := 378 + ((p0 : Int32).toNatClampNeg)) rfl rfl kc_377 rfl (fun g10 => ?_)
    refine jg_sg 1 (pc1 := 69) (lv1 := [(4, .int v5), (3, .int z2), (2, .int z1), (0, .ref 215), (1, .int p0)]) (st1 := [.int 0, .ref (378 + ((p0 : Int32).toNatClampNeg))]) (fun _ _ _ => rfl) ?_
    refine jg_ial rfl (kc_w2 (jr_m g10)) (fun g11 => ?_)
    refine jg_sg 1 (pc1 := 71) (lv1 := [(4, .int v5), (3, .int z2), (2, .int z1), (0, .ref 215), (1, .int p0)]) (st1 := [.int 3, .int (S.1 (378 + ((p0 : Int32).toNatClampNeg)) ((0 : Int32).toNatClampNeg))]) (fun _ _ _ => rfl) ?_
    refine jg_br (fun _ _ _ _ k1 k2 => jt_icmp_ne (t := 111) rfl rfl k2 k1) (fun c12 => ?_) (fun c12 => ?_)
    · refine jg_sg 5 (pc1 := 79) (lv1 := [(4, .int v5), (3, .int z2), (2, .int z1), (0, .ref 215), (1, .int p0)]) (st1 := [.int ((z2 + z1) - 1)]) (fun _ _ _ => rfl) ?_
      refine jg_cpI (m2 := jp_M_weekday) (As := [.int ((z2 + z1) - 1)]) (r := []) (mx := 1) (jh_s rfl (fun _ _ _ => rfl) rfl rfl rfl (by omega) (by omega) (Nat.le_of_ble_eq_true rfl)) (kF_M_weekday ((z2 + z1) - 1) S _ _ (by omega) (by omega) ) (fun z13 => ?_)
      refine jg_sg 3 (pc1 := 88) (lv1 := [(5, .int z13), (4, .int v5), (3, .int z2), (2, .int z1), (0, .ref 215), (1, .int p0)]) (st1 := [.int 7, .int z13]) (fun _ _ _ => rfl) ?_
      refine jg_br (fun _ _ _ _ k1 k2 => jt_icmp_ne (t := 97) rfl rfl k2 k1) (fun c14 => ?_) (fun c14 => ?_)
      · refine jg_sg 4 (pc1 := 110) (lv1 := [(5, .int z13), (4, .int v5), (3, .int z2), (2, .int z1), (0, .ref 215), (1, .int p0)]) (st1 := [.int (z1 - 1)]) (fun _ _ _ => rfl) ?_
        exact jg_ri rfl rfl rfl rfl
      · refine jg_sg 2 (pc1 := 100) (lv1 := [(5, .int z13), (4, .int v5), (3, .int z2), (2, .int z1), (0, .ref 215), (1, .int p0)]) (st1 := [.int 1, .int z13]) (fun _ _ _ => rfl) ?_
        refine jg_br (fun _ _ _ _ k1 k2 => jt_icmp_ne (t := 109) rfl rfl k2 k1) (fun c15 => ?_) (fun c15 => ?_)
        · refine jg_sg 4 (pc1 := 110) (lv1 := [(5, .int z13), (4, .int v5), (3, .int z2), (2, .int z1), (0, .ref 215), (1, .int p0)]) (st1 := [.int (z1 - 2)]) (fun _ _ _ => rfl) ?_
          exact jg_ri rfl rfl rfl rfl
        · refine jg_sg 1 (pc1 := 110) (lv1 := [(5, .int z13), (4, .int v5), (3, .int z2), (2, .int z1), (0, .ref 215), (1, .int p0)]) (st1 := [.int z1]) (fun _ _ _ => rfl) ?_
          exact jg_ri rfl rfl rfl rfl
    · refine jg_sg 2 (pc1 := 114) (lv1 := [(4, .int v5), (3, .int z2), (2, .int z1), (0, .ref 215), (1, .int p0)]) (st1 := [.int z1, .int v5]) (fun _ _ _ => rfl) ?_
      refine jg_br (fun _ _ _ _ k1 k2 => jt_icmp_le (t := 119) rfl rfl k1 k2) (fun c16 => ?_) (fun c16 => ?_)
      · refine jg_sg 5 (pc1 := 125) (lv1 := [(4, .int v5), (3, .int z2), (2, .int z1), (0, .ref 215), (1, .int p0)]) (st1 := [.int ((z2 + v5) - 1)]) (fun _ _ _ => rfl) ?_
        refine jg_cpI (m2 := jp_M_weekday) (As := [.int ((z2 + v5) - 1)]) (r := []) (mx := 1) (jh_s rfl (fun _ _ _ => rfl) rfl rfl rfl (by omega) (by omega) (Nat.le_of_ble_eq_true rfl)) (kF_M_weekday ((z2 + v5) - 1) S _ _ (by omega) (by omega) ) (fun z17 => ?_)
        refine jg_sg 3 (pc1 := 134) (lv1 := [(5, .int z17), (4, .int v5), (3, .int z2), (2, .int z1), (0, .ref 215), (1, .int p0)]) (st1 := [.int 7, .int z17]) (fun _ _ _ => rfl) ?_
        refine jg_br (fun _ _ _ _ k1 k2 => jt_icmp_ne (t := 155) rfl rfl k2 k1) (fun c18 => ?_) (fun c18 => ?_)
        · refine jg_sg 2 (pc1 := 140) (lv1 := [(5, .int z17), (4, .int v5), (3, .int z2), (2, .int z1), (0, .ref 215), (1, .int p0)]) (st1 := [.int 1, .int v5]) (fun _ _ _ => rfl) ?_
          refine jg_br (fun _ _ _ _ k1 k2 => jt_icmp_le (t := 150) rfl rfl k1 k2) (fun c19 => ?_) (fun c19 => ?_)
          · refine jg_sg 3 (pc1 := 154) (lv1 := [(5, .int z17), (4, .int v5), (3, .int z2), (2, .int z1), (0, .ref 215), (1, .int p0)]) (st1 := [.int (v5 + 2)]) (fun _ _ _ => rfl) ?_
            exact jg_ri rfl rfl rfl rfl
          · refine jg_sg 4 (pc1 := 154) (lv1 := [(5, .int z17), (4, .int v5), (3, .int z2), (2, .int z1), (0, .ref 215), (1, .int p0)]) (st1 := [.int (v5 - 1)]) (fun _ _ _ => rfl) ?_
            exact jg_ri rfl rfl rfl rfl
        · refine jg_sg 2 (pc1 := 158) (lv1 := [(5, .int z17), (4, .int v5), (3, .int z2), (2, .int z1), (0, .ref 215), (1, .int p0)]) (st1 := [.int 1, .int z17]) (fun _ _ _ => rfl) ?_
          refine jg_br (fun _ _ _ _ k1 k2 => jt_icmp_ne (t := 179) rfl rfl k2 k1) (fun c20 => ?_) (fun c20 => ?_)
          · refine jg_sg 2 (pc1 := 164) (lv1 := [(5, .int z17), (4, .int v5), (3, .int z2), (2, .int z1), (0, .ref 215), (1, .int p0)]) (st1 := [.int z1, .int v5]) (fun _ _ _ => rfl) ?_
            refine jg_br (fun _ _ _ _ k1 k2 => jt_icmp_ge (t := 174) rfl rfl k1 k2) (fun c21 => ?_) (fun c21 => ?_)
            · refine jg_sg 3 (pc1 := 178) (lv1 := [(5, .int z17), (4, .int v5), (3, .int z2), (2, .int z1), (0, .ref 215), (1, .int p0)]) (st1 := [.int (v5 - 2)]) (fun _ _ _ => rfl) ?_
              exact jg_ri rfl rfl rfl rfl
            · refine jg_sg 4 (pc1 := 178) (lv1 := [(5, .int z17), (4, .int v5), (3, .int z2), (2, .int z1), (0, .ref 215), (1, .int p0)]) (st1 := [.int (v5 + 1)]) (fun _ _ _ => rfl) ?_
              exact jg_ri rfl rfl rfl rfl
          · refine jg_sg 1 (pc1 := 181) (lv1 := [(5, .int z17), (4, .int v5), (3, .int z2), (2, .int z1), (0, .ref 215), (1, .int p0)]) (st1 := [.int v5]) (fun _ _ _ => rfl) ?_
            exact jg_ri rfl rfl rfl rfl
      · refine jg_sg 1 (pc1 := 118) (lv1 := [(4, .int v5), (3, .int z2), (2, .int z1), (0, .ref 215), (1, .int p0)]) (st1 := [.int 0]) (fun _ _ _ => rfl) ?_
        exact jg_ri rfl rfl rfl rfl
noncomputable def J_M_dayFits_151 (x1 : Int32) (x3 : Int32) (S : jS) : Option (Int32 × jS) := (F_M_weekday x3 S).bind (fun z23 => j_q (j_in x1 16) (j_q (j_in 1 2) (if (S.1 (378 + ((x1 : Int32).toNatClampNeg)) ((1 : Int32).toNatClampNeg)) = 0 then (j_q (j_in x1 16) (j_q (j_in 5 7) (j_q (j_in (z23 - 1) 330) (j_q (decide ((S.1 ((240 + ((x1 : Int32).toNatClampNeg) * 8) + 1 + ((5 : Int32).toNatClampNeg)) ((z23 - 1 : Int32).toNatClampNeg)) = 0) || decide ((S.1 ((240 + ((x1 : Int32).toNatClampNeg) * 8) + 1 + ((5 : Int32).toNatClampNeg)) ((z23 - 1 : Int32).toNatClampNeg)) = 1)) (some (S.1 ((240 + ((x1 : Int32).toNatClampNeg) * 8) + 1 + ((5 : Int32).toNatClampNeg)) ((z23 - 1 : Int32).toNatClampNeg), S)))))) else (j_q (j_in x1 16) (j_q (j_in 1 2) (if (S.1 (378 + ((x1 : Int32).toNatClampNeg)) ((1 : Int32).toNatClampNeg)) = 1 then (some (1, S)) else (j_q (j_in x1 16) (j_q (j_in 1 2) (if z23 = (S.1 (395 + ((x1 : Int32).toNatClampNeg)) ((1 : Int32).toNatClampNeg)) then (j_q (j_in x1 16) (j_q (j_in 1 2) (if (S.1 (378 + ((x1 : Int32).toNatClampNeg)) ((1 : Int32).toNatClampNeg)) = 5 then ((F_M_length (S.1 215 4) (S.1 215 5) S).bind (fun z39 => if ((S.1 215 6) + 7) ≤ z39 then (some (0, S)) else (some (1, S)))) else (j_q (j_in x1 16) (j_q (j_in 1 2) (if ((((S.1 215 6) - 1) / 7) + 1) = (S.1 (412 + ((x1 : Int32).toNatClampNeg)) ((1 : Int32).toNatClampNeg)) then (some (1, S)) else (some (0, S)))))))) else (some (0, S)))))))))))
set_option maxRecDepth 20000 in
theorem kJ_M_dayFits_151 {q rF rL : Nat} (hF : 4 ≤ rF) (hL : 90 ≤ rL)   (x1 : Int32) (x3 : Int32) (S : jS) : jg q jp_M_dayFits rF rL 151 [(0, .ref 215), (1, .int x1), (3, .int x3)] [] S 0 s_I (J_M_dayFits_151 x1 x3 S) := by
  unfold J_M_dayFits_151
  refine jg_sg 1 (pc1 := 152) (lv1 := [(0, .ref 215), (1, .int x1), (3, .int x3)]) (st1 := [.int x3]) (fun _ _ _ => rfl) ?_
  refine jg_cpI (m2 := jp_M_weekday) (As := [.int x3]) (r := []) (mx := 1) (jh_s rfl (fun _ _ _ => rfl) rfl rfl rfl (by omega) (by omega) (Nat.le_of_ble_eq_true rfl)) (kF_M_weekday x3 S _ _ (by omega) (by omega) ) (fun z23 => ?_)
  refine jg_sg 2 (pc1 := 158) (lv1 := [(4, .int z23), (0, .ref 215), (1, .int x1), (3, .int x3)]) (st1 := [.ref 215]) (fun _ _ _ => rfl) ?_
  refine jg_g (v := .ref 377) rfl kc_215 rfl rfl ?_
  refine jg_sg 1 (pc1 := 162) (lv1 := [(4, .int z23), (0, .ref 215), (1, .int x1), (3, .int x3)]) (st1 := [.int x1, .ref 377]) (fun _ _ _ => rfl) ?_
  refine jg_aal (w := 378 + ((x1 : Int32).toNatClampNeg)) rfl rfl kc_377 rfl (fun g24 => ?_)
  refine jg_sg 1 (pc1 := 164) (lv1 := [(4, .int z23), (0, .ref 215), (1, .int x1), (3, .int x3)]) (st1 := [.int 1, .ref (378 + ((x1 : Int32).toNatClampNeg))]) (fun _ _ _ => rfl) ?_
  refine jg_ial rfl (kc_w2 (jr_m g24)) (fun g25 => ?_)
  refine jg_br (fun _ _ _ _ k1 k2 => jt_if_ne (t := 182) rfl rfl k2 k1) (fun c26 => ?_) (fun c26 => ?_)
  · refine jg_sg 1 (pc1 := 169) (lv1 := [(4, .int z23), (0, .ref 215), (1, .int x1), (3, .int x3)]) (st1 := [.ref 215]) (fun _ _ _ => rfl) ?_
    refine jg_g (v := .ref 239) rfl kc_215 rfl rfl ?_
    refine jg_sg 1 (pc1 := 173) (lv1 := [(4, .int z23), (0, .ref 215), (1, .int x1), (3, .int x3)]) (st1 := [.int x1, .ref 239]) (fun _ _ _ => rfl) ?_
    refine jg_aal (w := 240 + ((x1 : Int32).toNatClampNeg) * 8) rfl rfl kc_239 rfl (fun g27 => ?_)
    refine jg_sg 1 (pc1 := 175) (lv1 := [(4, .int z23), (0, .ref 215), (1, .int x1), (3, .int x3)]) (st1 := [.int 5, .ref (240 + ((x1 : Int32).toNatClampNeg) * 8)]) (fun _ _ _ => rfl) ?_
    refine jg_aal (w := (240 + ((x1 : Int32).toNatClampNeg) * 8) + 1 + ((5 : Int32).toNatClampNeg)) rfl rfl (kc_sk (jk_m g27)) rfl (fun g28 => ?_)
    refine jg_sg 3 (pc1 := 180) (lv1 := [(4, .int z23), (0, .ref 215), (1, .int x1), (3, .int x3)]) (st1 := [.int (z23 - 1), .ref ((240 + ((x1 : Int32).toNatClampNeg) * 8) + 1 + ((5 : Int32).toNatClampNeg))]) (fun _ _ _ => rfl) ?_
    refine jg_bal rfl rfl (kc_sb (jf_m (jk_m g27) g28)) (fun g29 => ?_)
    exact jg_rz rfl rfl rfl
  · refine jg_sg 1 (pc1 := 183) (lv1 := [(4, .int z23), (0, .ref 215), (1, .int x1), (3, .int x3)]) (st1 := [.ref 215]) (fun _ _ _ => rfl) ?_
    refine jg_g (v := .ref 377) rfl kc_215 rfl rfl ?_
    refine jg_sg 1 (pc1 := 187) (lv1 := [(4, .int z23), (0, .ref 215), (1, .int x1), (3, .int x3)]) (st1 := [.int x1, .ref 377]) (fun _ _ _ => rfl) ?_
    refine jg_aal (w := 378 + ((x1 : Int32).toNatClampNeg)) rfl rfl kc_377 rfl (fun g30 => ?_)
    refine jg_sg 1 (pc1 := 189) (lv1 := [(4, .int z23), (0, .ref 215), (1, .int x1), (3, .int x3)]) (st1 := [.int 1, .ref (378 + ((x1 : Int32).toNatClampNeg))]) (fun _ _ _ => rfl) ?_
    refine jg_ial rfl (kc_w2 (jr_m g30)) (fun g31 => ?_)
    refine jg_sg 1 (pc1 := 191) (lv1 := [(4, .int z23), (0, .ref 215), (1, .int x1), (3, .int x3)]) (st1 := [.int 1, .int (S.1 (378 + ((x1 : Int32).toNatClampNeg)) ((1 : Int32).toNatClampNeg))]) (fun _ _ _ => rfl) ?_
    refine jg_br (fun _ _ _ _ k1 k2 => jt_icmp_ne (t := 196) rfl rfl k2 k1) (fun c32 => ?_) (fun c32 => ?_)
    · refine jg_sg 1 (pc1 := 195) (lv1 := [(4, .int z23), (0, .ref 215), (1, .int x1), (3, .int x3)]) (st1 := [.int 1]) (fun _ _ _ => rfl) ?_
      exact jg_ri rfl rfl rfl rfl
    · refine jg_sg 2 (pc1 := 199) (lv1 := [(4, .int z23), (0, .ref 215), (1, .int x1), (3, .int x3)]) (st1 := [.ref 215, .int z23]) (fun _ _ _ => rfl) ?_
      refine jg_g (v := .ref 394) rfl kc_215 rfl rfl ?_
      refine jg_sg 1 (pc1 := 203) (lv1 := [(4, .int z23), (0, .ref 215), (1, .int x1), (3, .int x3)]) (st1 := [.int x1, .ref 394, .int z23]) (fun _ _ _ => rfl) ?_
      refine jg_aal (w := 395 + ((x1 : Int32).toNatClampNeg)) rfl rfl kc_394 rfl (fun g33 => ?_)
      refine jg_sg 1 (pc1 := 205) (lv1 := [(4, .int z23), (0, .ref 215), (1, .int x1), (3, .int x3)]) (st1 := [.int 1, .ref (395 + ((x1 : Int32).toNatClampNeg)), .int z23]) (fun _ _ _ => rfl) ?_
      refine jg_ial rfl (kc_f2 (jr_m g33)) (fun g34 => ?_)
      refine jg_br (fun _ _ _ _ k1 k2 => jt_icmp_eq (t := 211) rfl rfl k1 k2) (fun c35 => ?_) (fun c35 => ?_)
      · refine jg_sg 1 (pc1 := 212) (lv1 := [(4, .int z23), (0, .ref 215), (1, .int x1), (3, .int x3)]) (st1 := [.ref 215]) (fun _ _ _ => rfl) ?_
        refine jg_g (v := .ref 377) rfl kc_215 rfl rfl ?_
        refine jg_sg 1 (pc1 := 216) (lv1 := [(4, .int z23), (0, .ref 215), (1, .int x1), (3, .int x3)]) (st1 := [.int x1, .ref 377]) (fun _ _ _ => rfl) ?_
        refine jg_aal (w := 378 + ((x1 : Int32).toNatClampNeg)) rfl rfl kc_377 rfl (fun g36 => ?_)
        refine jg_sg 1 (pc1 := 218) (lv1 := [(4, .int z23), (0, .ref 215), (1, .int x1), (3, .int x3)]) (st1 := [.int 1, .ref (378 + ((x1 : Int32).toNatClampNeg))]) (fun _ _ _ => rfl) ?_
        refine jg_ial rfl (kc_w2 (jr_m g36)) (fun g37 => ?_)
        refine jg_sg 1 (pc1 := 220) (lv1 := [(4, .int z23), (0, .ref 215), (1, .int x1), (3, .int x3)]) (st1 := [.int 5, .int (S.1 (378 + ((x1 : Int32).toNatClampNeg)) ((1 : Int32).toNatClampNeg))]) (fun _ _ _ => rfl) ?_
        refine jg_br (fun _ _ _ _ k1 k2 => jt_icmp_ne (t := 252) rfl rfl k2 k1) (fun c38 => ?_) (fun c38 => ?_)
        · refine jg_sg 1 (pc1 := 224) (lv1 := [(4, .int z23), (0, .ref 215), (1, .int x1), (3, .int x3)]) (st1 := [.ref 215]) (fun _ _ _ => rfl) ?_
          refine jg_g (v := .int (S.1 215 6)) rfl kc_215 rfl rfl ?_
          refine jg_sg 3 (pc1 := 231) (lv1 := [(4, .int z23), (0, .ref 215), (1, .int x1), (3, .int x3)]) (st1 := [.ref 215, .int ((S.1 215 6) + 7)]) (fun _ _ _ => rfl) ?_
          refine jg_g (v := .int (S.1 215 4)) rfl kc_215 rfl rfl ?_
          refine jg_sg 1 (pc1 := 235) (lv1 := [(4, .int z23), (0, .ref 215), (1, .int x1), (3, .int x3)]) (st1 := [.ref 215, .int (S.1 215 4), .int ((S.1 215 6) + 7)]) (fun _ _ _ => rfl) ?_
          refine jg_g (v := .int (S.1 215 5)) rfl kc_215 rfl rfl ?_
          refine jg_cpI (m2 := jp_M_length) (As := [.int (S.1 215 4), .int (S.1 215 5)]) (r := [.int ((S.1 215 6) + 7)]) (mx := 2) (jh_s rfl (fun _ _ _ => rfl) rfl rfl rfl (by omega) (by omega) (Nat.le_of_ble_eq_true rfl)) (kF_M_length (S.1 215 4) (S.1 215 5) S _ _ (by omega) (by omega) ) (fun z39 => ?_)
          refine jg_br (fun _ _ _ _ k1 k2 => jt_icmp_le (t := 248) rfl rfl k1 k2) (fun c40 => ?_) (fun c40 => ?_)
          · refine jg_sg 2 (pc1 := 279) (lv1 := [(4, .int z23), (0, .ref 215), (1, .int x1), (3, .int x3)]) (st1 := [.int 0]) (fun _ _ _ => rfl) ?_
            exact jg_ri rfl rfl rfl rfl
          · refine jg_sg 2 (pc1 := 279) (lv1 := [(4, .int z23), (0, .ref 215), (1, .int x1), (3, .int x3)]) (st1 := [.int 1]) (fun _ _ _ => rfl) ?_
            exact jg_ri rfl rfl rfl rfl
        · refine jg_sg 1 (pc1 := 253) (lv1 := [(4, .int z23), (0, .ref 215), (1, .int x1), (3, .int x3)]) (st1 := [.ref 215]) (fun _ _ _ => rfl) ?_
          refine jg_g (v := .int (S.1 215 6)) rfl kc_215 rfl rfl ?_
          refine jg_sg 3 (pc1 := 260) (lv1 := [(4, .int z23), (0, .ref 215), (1, .int x1), (3, .int x3)]) (st1 := [.int 7, .int ((S.1 215 6) - 1)]) (fun _ _ _ => rfl) ?_
          refine jg_st (fun _ _ _ _ _ k => jt_idiv rfl (by decide +kernel) k) ?_
          refine jg_sg 3 (pc1 := 264) (lv1 := [(4, .int z23), (0, .ref 215), (1, .int x1), (3, .int x3)]) (st1 := [.ref 215, .int ((((S.1 215 6) - 1) / 7) + 1)]) (fun _ _ _ => rfl) ?_
          refine jg_g (v := .ref 411) rfl kc_215 rfl rfl ?_
          refine jg_sg 1 (pc1 := 268) (lv1 := [(4, .int z23), (0, .ref 215), (1, .int x1), (3, .int x3)]) (st1 := [.int x1, .ref 411, .int ((((S.1 215 6) - 1) / 7) + 1)]) (fun _ _ _ => rfl) ?_
          refine jg_aal (w := 412 + ((x1 : Int32).toNatClampNeg)) rfl rfl kc_411 rfl (fun g41 => ?_)
          refine jg_sg 1 (pc1 := 270) (lv1 := [(4, .int z23), (0, .ref 215), (1, .int x1), (3, .int x3)]) (st1 := [.int 1, .ref (412 + ((x1 : Int32).toNatClampNeg)), .int ((((S.1 215 6) - 1) / 7) + 1)]) (fun _ _ _ => rfl) ?_
          refine jg_ial rfl (kc_s2 (jr_m g41)) (fun g42 => ?_)
          refine jg_br (fun _ _ _ _ k1 k2 => jt_icmp_ne (t := 278) rfl rfl k2 k1) (fun c43 => ?_) (fun c43 => ?_)
          · refine jg_sg 2 (pc1 := 279) (lv1 := [(4, .int z23), (0, .ref 215), (1, .int x1), (3, .int x3)]) (st1 := [.int 1]) (fun _ _ _ => rfl) ?_
            exact jg_ri rfl rfl rfl rfl
          · refine jg_sg 1 (pc1 := 279) (lv1 := [(4, .int z23), (0, .ref 215), (1, .int x1), (3, .int x3)]) (st1 := [.int 0]) (fun _ _ _ => rfl) ?_
            exact jg_ri rfl rfl rfl rfl
      · refine jg_sg 1 (pc1 := 210) (lv1 := [(4, .int z23), (0, .ref 215), (1, .int x1), (3, .int x3)]) (st1 := [.int 0]) (fun _ _ _ => rfl) ?_
        exact jg_ri rfl rfl rfl rfl
noncomputable def J_M_dayFits_125 (x1 : Int32) (x3 : Int32) (S : jS) : Option (Int32 × jS) := j_q (j_in x1 16) (j_q (j_in 0 2) (if (S.1 (378 + ((x1 : Int32).toNatClampNeg)) ((0 : Int32).toNatClampNeg)) ≤ 1 then (J_M_dayFits_151 x1 x3 S) else ((F_M_special2 x1 S).bind (fun z44 => if z44 = (S.1 215 6) then (J_M_dayFits_151 x1 x3 S) else (some (0, S))))))
set_option maxRecDepth 20000 in
theorem kJ_M_dayFits_125 {q rF rL : Nat} (hF : 4 ≤ rF) (hL : 90 ≤ rL)   (x1 : Int32) (x3 : Int32) (S : jS) : jg q jp_M_dayFits rF rL 125 [(0, .ref 215), (1, .int x1), (3, .int x3)] [] S 0 s_I (J_M_dayFits_125 x1 x3 S) := by
  unfold J_M_dayFits_125
  refine jg_sg 1 (pc1 := 126) (lv1 := [(0, .ref 215), (1, .int x1), (3, .int x3)]) (st1 := [.ref 215]) (fun _ _ _ => rfl) ?_
  refine jg_g (v := .ref 377) rfl kc_215 rfl rfl ?_
  refine jg_sg 1 (pc1 := 130) (lv1 := [(0, .ref 215), (1, .int x1), (3, .int x3)]) (st1 := [.int x1, .ref 377]) (fun _ _ _ => rfl) ?_
  refine jg_aal (w := 378 + ((x1 : Int32).toNatClampNeg)) rfl rfl kc_377 rfl (fun g20 => ?_)
  refine jg_sg 1 (pc1 := 132) (lv1 := [(0, .ref 215), (1, .int x1), (3, .int x3)]) (st1 := [.int 0, .ref (378 + ((x1 : Int32).toNatClampNeg))]) (fun _ _ _ => rfl) ?_
  refine jg_ial rfl (kc_w2 (jr_m g20)) (fun g21 => ?_)
  refine jg_sg 1 (pc1 := 134) (lv1 := [(0, .ref 215), (1, .int x1), (3, .int x3)]) (st1 := [.int 1, .int (S.1 (378 + ((x1 : Int32).toNatClampNeg)) ((0 : Int32).toNatClampNeg))]) (fun _ _ _ => rfl) ?_
  refine jg_br (fun _ _ _ _ k1 k2 => jt_icmp_le (t := 151) rfl rfl k1 k2) (fun c22 => ?_) (fun c22 => ?_)
  · refine jg_lvs (lv1 := [(0, .ref 215), (1, .int x1), (3, .int x3)]) rfl rfl ⟨rfl, rfl, rfl, trivial⟩ ?_
    exact kJ_M_dayFits_151 (by omega) (by omega) x1 x3 S
  · refine jg_sg 2 (pc1 := 139) (lv1 := [(0, .ref 215), (1, .int x1), (3, .int x3)]) (st1 := [.int x1, .ref 215]) (fun _ _ _ => rfl) ?_
    refine jg_cpI (m2 := jp_M_special2) (As := [.ref 215, .int x1]) (r := []) (mx := 6) (jh_v (a := 215) rfl rfl rfl kc_215 rfl (Nat.le_of_ble_eq_true rfl) rfl rfl rfl (by omega) (by omega) (Nat.le_of_ble_eq_true rfl)) (kF_M_special2 x1 S _ _ (by omega) (by omega) ) (fun z44 => ?_)
    refine jg_sg 1 (pc1 := 143) (lv1 := [(0, .ref 215), (1, .int x1), (3, .int x3)]) (st1 := [.ref 215, .int z44]) (fun _ _ _ => rfl) ?_
    refine jg_g (v := .int (S.1 215 6)) rfl kc_215 rfl rfl ?_
    refine jg_br (fun _ _ _ _ k1 k2 => jt_icmp_eq (t := 151) rfl rfl k1 k2) (fun c45 => ?_) (fun c45 => ?_)
    · refine jg_lvs (lv1 := [(0, .ref 215), (1, .int x1), (3, .int x3)]) rfl rfl ⟨rfl, rfl, rfl, trivial⟩ ?_
      exact kJ_M_dayFits_151 (by omega) (by omega) x1 x3 S
    · refine jg_sg 1 (pc1 := 150) (lv1 := [(0, .ref 215), (1, .int x1), (3, .int x3)]) (st1 := [.int 0]) (fun _ _ _ => rfl) ?_
      exact jg_ri rfl rfl rfl rfl
noncomputable def J_M_dayFits_94 (x1 : Int32) (x3 : Int32) (S : jS) : Option (Int32 × jS) := j_q (j_in x1 16) (j_q (j_in 0 2) (if (S.1 (378 + ((x1 : Int32).toNatClampNeg)) ((0 : Int32).toNatClampNeg)) = 0 then (j_q (j_in x1 16) (j_q (j_in 3 7) (j_q (j_in ((S.1 215 6) - 1) 330) (if (S.1 ((240 + ((x1 : Int32).toNatClampNeg) * 8) + 1 + ((3 : Int32).toNatClampNeg)) (((S.1 215 6) - 1 : Int32).toNatClampNeg)) = 0 then (some (0, S)) else (J_M_dayFits_125 x1 x3 S))))) else (J_M_dayFits_125 x1 x3 S)))
set_option maxRecDepth 20000 in
theorem kJ_M_dayFits_94 {q rF rL : Nat} (hF : 4 ≤ rF) (hL : 90 ≤ rL)   (x1 : Int32) (x3 : Int32) (S : jS) : jg q jp_M_dayFits rF rL 94 [(0, .ref 215), (1, .int x1), (3, .int x3)] [] S 0 s_I (J_M_dayFits_94 x1 x3 S) := by
  unfold J_M_dayFits_94
  refine jg_sg 1 (pc1 := 95) (lv1 := [(0, .ref 215), (1, .int x1), (3, .int x3)]) (st1 := [.ref 215]) (fun _ _ _ => rfl) ?_
  refine jg_g (v := .ref 377) rfl kc_215 rfl rfl ?_
  refine jg_sg 1 (pc1 := 99) (lv1 := [(0, .ref 215), (1, .int x1), (3, .int x3)]) (st1 := [.int x1, .ref 377]) (fun _ _ _ => rfl) ?_
  refine jg_aal (w := 378 + ((x1 : Int32).toNatClampNeg)) rfl rfl kc_377 rfl (fun g13 => ?_)
  refine jg_sg 1 (pc1 := 101) (lv1 := [(0, .ref 215), (1, .int x1), (3, .int x3)]) (st1 := [.int 0, .ref (378 + ((x1 : Int32).toNatClampNeg))]) (fun _ _ _ => rfl) ?_
  refine jg_ial rfl (kc_w2 (jr_m g13)) (fun g14 => ?_)
  refine jg_br (fun _ _ _ _ k1 k2 => jt_if_ne (t := 125) rfl rfl k2 k1) (fun c15 => ?_) (fun c15 => ?_)
  · refine jg_sg 1 (pc1 := 106) (lv1 := [(0, .ref 215), (1, .int x1), (3, .int x3)]) (st1 := [.ref 215]) (fun _ _ _ => rfl) ?_
    refine jg_g (v := .ref 239) rfl kc_215 rfl rfl ?_
    refine jg_sg 1 (pc1 := 110) (lv1 := [(0, .ref 215), (1, .int x1), (3, .int x3)]) (st1 := [.int x1, .ref 239]) (fun _ _ _ => rfl) ?_
    refine jg_aal (w := 240 + ((x1 : Int32).toNatClampNeg) * 8) rfl rfl kc_239 rfl (fun g16 => ?_)
    refine jg_sg 1 (pc1 := 112) (lv1 := [(0, .ref 215), (1, .int x1), (3, .int x3)]) (st1 := [.int 3, .ref (240 + ((x1 : Int32).toNatClampNeg) * 8)]) (fun _ _ _ => rfl) ?_
    refine jg_aal (w := (240 + ((x1 : Int32).toNatClampNeg) * 8) + 1 + ((3 : Int32).toNatClampNeg)) rfl rfl (kc_sk (jk_m g16)) rfl (fun g17 => ?_)
    refine jg_sg 1 (pc1 := 114) (lv1 := [(0, .ref 215), (1, .int x1), (3, .int x3)]) (st1 := [.ref 215, .ref ((240 + ((x1 : Int32).toNatClampNeg) * 8) + 1 + ((3 : Int32).toNatClampNeg))]) (fun _ _ _ => rfl) ?_
    refine jg_g (v := .int (S.1 215 6)) rfl kc_215 rfl rfl ?_
    refine jg_sg 2 (pc1 := 119) (lv1 := [(0, .ref 215), (1, .int x1), (3, .int x3)]) (st1 := [.int ((S.1 215 6) - 1), .ref ((240 + ((x1 : Int32).toNatClampNeg) * 8) + 1 + ((3 : Int32).toNatClampNeg))]) (fun _ _ _ => rfl) ?_
    refine jg_bal rfl rfl (kc_sb (jf_m (jk_m g16) g17)) (fun g18 => ?_)
    refine jg_br (fun _ _ _ _ k1 k2 => jt_if_ne (t := 125) rfl rfl k2 k1) (fun c19 => ?_) (fun c19 => ?_)
    · refine jg_sg 1 (pc1 := 124) (lv1 := [(0, .ref 215), (1, .int x1), (3, .int x3)]) (st1 := [.int 0]) (fun _ _ _ => rfl) ?_
      exact jg_ri rfl rfl rfl rfl
    · refine jg_lvs (lv1 := [(0, .ref 215), (1, .int x1), (3, .int x3)]) rfl rfl ⟨rfl, rfl, rfl, trivial⟩ ?_
      exact kJ_M_dayFits_125 (by omega) (by omega) x1 x3 S
  · refine jg_lvs (lv1 := [(0, .ref 215), (1, .int x1), (3, .int x3)]) rfl rfl ⟨rfl, rfl, rfl, trivial⟩ ?_
    exact kJ_M_dayFits_125 (by omega) (by omega) x1 x3 S
noncomputable def F_M_dayFits (p0 : Int32) (p1 : Int32) (p2 : Int32) (S : jS) : Option (Int32 × jS) := (F_M_date p2 S).bind (fun z1 => if (z1.1 215 4) < 1970 then (some (0, z1)) else (if 2299 < (z1.1 215 4) then (some (0, z1)) else (j_q (j_in p0 16) (j_q (j_in 6 7) (j_q (j_in ((z1.1 215 4) - 1970) 330) (if (z1.1 ((240 + ((p0 : Int32).toNatClampNeg) * 8) + 1 + ((6 : Int32).toNatClampNeg)) (((z1.1 215 4) - 1970 : Int32).toNatClampNeg)) = 0 then (some (0, z1)) else (j_q (j_in p0 16) (j_q (j_in 4 7) (j_q (j_in ((z1.1 215 5) - 1) 330) (if (z1.1 ((240 + ((p0 : Int32).toNatClampNeg) * 8) + 1 + ((4 : Int32).toNatClampNeg)) (((z1.1 215 5) - 1 : Int32).toNatClampNeg)) = 0 then (some (0, z1)) else (if p1 < 0 then (J_M_dayFits_94 p0 p2 z1) else (if p2 < 0 then (J_M_dayFits_94 p0 p2 z1) else (if 120529 < p2 then (J_M_dayFits_94 p0 p2 z1) else (j_q (j_in p1 4) (j_q (j_in p2 120530) (if (z1.1 (431 + ((p1 : Int32).toNatClampNeg)) ((p2 : Int32).toNatClampNeg)) = 0 then (J_M_dayFits_94 p0 p2 z1) else (some (0, z1))))))))))))))))))
set_option maxRecDepth 20000 in
theorem kF_M_dayFits {q : Nat} (p0 : Int32) (p1 : Int32) (p2 : Int32) (S : jS) (rF rL : Nat) (hF : 4 ≤ rF) (hL : 90 ≤ rL)  : jg q jp_M_dayFits rF rL 0 [(0, .ref 215), (1, .int p0), (2, .int p1), (3, .int p2)] [] S 0 s_I (F_M_dayFits p0 p1 p2 S) := by
  unfold F_M_dayFits
  refine jg_sg 2 (pc1 := 2) (lv1 := [(0, .ref 215), (1, .int p0), (2, .int p1), (3, .int p2)]) (st1 := [.int p2, .ref 215]) (fun _ _ _ => rfl) ?_
  refine jg_csV (m2 := jp_M_date) (As := [.ref 215, .int p2]) (r := []) (mx := 3) (jh_v (a := 215) rfl rfl rfl kc_215 rfl (Nat.le_of_ble_eq_true rfl) rfl rfl rfl (by omega) (by omega) (Nat.le_of_ble_eq_true rfl)) (kF_M_date p2 S _ _ (by omega) (by omega) ) (fun z1 => ?_)
  refine jg_sg 1 (pc1 := 6) (lv1 := [(0, .ref 215), (1, .int p0), (2, .int p1), (3, .int p2)]) (st1 := [.ref 215]) (fun _ _ _ => rfl) ?_
  refine jg_g (v := .int (z1.1 215 4)) rfl kc_215 rfl rfl ?_
  refine jg_sg 1 (pc1 := 12) (lv1 := [(0, .ref 215), (1, .int p0), (2, .int p1), (3, .int p2)]) (st1 := [.int 1970, .int (z1.1 215 4)]) (fun _ _ _ => rfl) ?_
  refine jg_br (fun _ _ _ _ k1 k2 => jt_icmp_lt (t := 64) rfl rfl k1 k2) (fun c2 => ?_) (fun c2 => ?_)
  · refine jg_sg 1 (pc1 := 65) (lv1 := [(0, .ref 215), (1, .int p0), (2, .int p1), (3, .int p2)]) (st1 := [.int 0]) (fun _ _ _ => rfl) ?_
    exact jg_ri rfl rfl rfl rfl
  · refine jg_sg 1 (pc1 := 16) (lv1 := [(0, .ref 215), (1, .int p0), (2, .int p1), (3, .int p2)]) (st1 := [.ref 215]) (fun _ _ _ => rfl) ?_
    refine jg_g (v := .int (z1.1 215 4)) rfl kc_215 rfl rfl ?_
    refine jg_sg 1 (pc1 := 22) (lv1 := [(0, .ref 215), (1, .int p0), (2, .int p1), (3, .int p2)]) (st1 := [.int 2299, .int (z1.1 215 4)]) (fun _ _ _ => rfl) ?_
    refine jg_br (fun _ _ _ _ k1 k2 => jt_icmp_gt (t := 64) rfl rfl k1 k2) (fun c3 => ?_) (fun c3 => ?_)
    · refine jg_sg 1 (pc1 := 65) (lv1 := [(0, .ref 215), (1, .int p0), (2, .int p1), (3, .int p2)]) (st1 := [.int 0]) (fun _ _ _ => rfl) ?_
      exact jg_ri rfl rfl rfl rfl
    · refine jg_sg 1 (pc1 := 26) (lv1 := [(0, .ref 215), (1, .int p0), (2, .int p1), (3, .int p2)]) (st1 := [.ref 215]) (fun _ _ _ => rfl) ?_
      refine jg_g (v := .ref 239) rfl kc_215 rfl rfl ?_
      refine jg_sg 1 (pc1 := 30) (lv1 := [(0, .ref 215), (1, .int p0), (2, .int p1), (3, .int p2)]) (st1 := [.int p0, .ref 239]) (fun _ _ _ => rfl) ?_
      refine jg_aal (w := 240 + ((p0 : Int32).toNatClampNeg) * 8) rfl rfl kc_239 rfl (fun g4 => ?_)
      refine jg_sg 1 (pc1 := 33) (lv1 := [(0, .ref 215), (1, .int p0), (2, .int p1), (3, .int p2)]) (st1 := [.int 6, .ref (240 + ((p0 : Int32).toNatClampNeg) * 8)]) (fun _ _ _ => rfl) ?_
      refine jg_aal (w := (240 + ((p0 : Int32).toNatClampNeg) * 8) + 1 + ((6 : Int32).toNatClampNeg)) rfl rfl (kc_sk (jk_m g4)) rfl (fun g5 => ?_)
      refine jg_sg 1 (pc1 := 35) (lv1 := [(0, .ref 215), (1, .int p0), (2, .int p1), (3, .int p2)]) (st1 := [.ref 215, .ref ((240 + ((p0 : Int32).toNatClampNeg) * 8) + 1 + ((6 : Int32).toNatClampNeg))]) (fun _ _ _ => rfl) ?_
      refine jg_g (v := .int (z1.1 215 4)) rfl kc_215 rfl rfl ?_
      refine jg_sg 2 (pc1 := 42) (lv1 := [(0, .ref 215), (1, .int p0), (2, .int p1), (3, .int p2)]) (st1 := [.int ((z1.1 215 4) - 1970), .ref ((240 + ((p0 : Int32).toNatClampNeg) * 8) + 1 + ((6 : Int32).toNatClampNeg))]) (fun _ _ _ => rfl) ?_
      refine jg_bal rfl rfl (kc_sb (jf_m (jk_m g4) g5)) (fun g6 => ?_)
      refine jg_br (fun _ _ _ _ k1 k2 => jt_if_eq (t := 64) rfl rfl k1 k2) (fun c7 => ?_) (fun c7 => ?_)
      · refine jg_sg 1 (pc1 := 65) (lv1 := [(0, .ref 215), (1, .int p0), (2, .int p1), (3, .int p2)]) (st1 := [.int 0]) (fun _ _ _ => rfl) ?_
        exact jg_ri rfl rfl rfl rfl
      · refine jg_sg 1 (pc1 := 47) (lv1 := [(0, .ref 215), (1, .int p0), (2, .int p1), (3, .int p2)]) (st1 := [.ref 215]) (fun _ _ _ => rfl) ?_
        refine jg_g (v := .ref 239) rfl kc_215 rfl rfl ?_
        refine jg_sg 1 (pc1 := 51) (lv1 := [(0, .ref 215), (1, .int p0), (2, .int p1), (3, .int p2)]) (st1 := [.int p0, .ref 239]) (fun _ _ _ => rfl) ?_
        refine jg_aal (w := 240 + ((p0 : Int32).toNatClampNeg) * 8) rfl rfl kc_239 rfl (fun g8 => ?_)
        refine jg_sg 1 (pc1 := 53) (lv1 := [(0, .ref 215), (1, .int p0), (2, .int p1), (3, .int p2)]) (st1 := [.int 4, .ref (240 + ((p0 : Int32).toNatClampNeg) * 8)]) (fun _ _ _ => rfl) ?_
        refine jg_aal (w := (240 + ((p0 : Int32).toNatClampNeg) * 8) + 1 + ((4 : Int32).toNatClampNeg)) rfl rfl (kc_sk (jk_m g8)) rfl (fun g9 => ?_)
        refine jg_sg 1 (pc1 := 55) (lv1 := [(0, .ref 215), (1, .int p0), (2, .int p1), (3, .int p2)]) (st1 := [.ref 215, .ref ((240 + ((p0 : Int32).toNatClampNeg) * 8) + 1 + ((4 : Int32).toNatClampNeg))]) (fun _ _ _ => rfl) ?_
        refine jg_g (v := .int (z1.1 215 5)) rfl kc_215 rfl rfl ?_
        refine jg_sg 2 (pc1 := 60) (lv1 := [(0, .ref 215), (1, .int p0), (2, .int p1), (3, .int p2)]) (st1 := [.int ((z1.1 215 5) - 1), .ref ((240 + ((p0 : Int32).toNatClampNeg) * 8) + 1 + ((4 : Int32).toNatClampNeg))]) (fun _ _ _ => rfl) ?_
        refine jg_bal rfl rfl (kc_sb (jf_m (jk_m g8) g9)) (fun g10 => ?_)
        refine jg_br (fun _ _ _ _ k1 k2 => jt_if_ne (t := 66) rfl rfl k2 k1) (fun c11 => ?_) (fun c11 => ?_)
        · refine jg_sg 1 (pc1 := 65) (lv1 := [(0, .ref 215), (1, .int p0), (2, .int p1), (3, .int p2)]) (st1 := [.int 0]) (fun _ _ _ => rfl) ?_
          exact jg_ri rfl rfl rfl rfl
        · refine jg_sg 1 (pc1 := 67) (lv1 := [(0, .ref 215), (1, .int p0), (2, .int p1), (3, .int p2)]) (st1 := [.int p1]) (fun _ _ _ => rfl) ?_
          refine jg_br (fun _ _ _ _ k1 k2 => jt_if_lt (t := 94) rfl rfl k1 k2) (fun c12 => ?_) (fun c12 => ?_)
          · refine jg_lvs (lv1 := [(0, .ref 215), (1, .int p0), (3, .int p2)]) rfl rfl ⟨rfl, rfl, rfl, trivial⟩ ?_
            exact kJ_M_dayFits_94 (by omega) (by omega) p0 p2 z1
          · refine jg_sg 1 (pc1 := 71) (lv1 := [(0, .ref 215), (1, .int p0), (2, .int p1), (3, .int p2)]) (st1 := [.int p2]) (fun _ _ _ => rfl) ?_
            refine jg_br (fun _ _ _ _ k1 k2 => jt_if_lt (t := 94) rfl rfl k1 k2) (fun c46 => ?_) (fun c46 => ?_)
            · refine jg_lvs (lv1 := [(0, .ref 215), (1, .int p0), (3, .int p2)]) rfl rfl ⟨rfl, rfl, rfl, trivial⟩ ?_
              exact kJ_M_dayFits_94 (by omega) (by omega) p0 p2 z1
            · refine jg_sg 2 (pc1 := 78) (lv1 := [(0, .ref 215), (1, .int p0), (2, .int p1), (3, .int p2)]) (st1 := [.int 120529, .int p2]) (fun _ _ _ => rfl) ?_
              refine jg_br (fun _ _ _ _ k1 k2 => jt_icmp_gt (t := 94) rfl rfl k1 k2) (fun c47 => ?_) (fun c47 => ?_)
              · refine jg_lvs (lv1 := [(0, .ref 215), (1, .int p0), (3, .int p2)]) rfl rfl ⟨rfl, rfl, rfl, trivial⟩ ?_
                exact kJ_M_dayFits_94 (by omega) (by omega) p0 p2 z1
              · refine jg_sg 1 (pc1 := 82) (lv1 := [(0, .ref 215), (1, .int p0), (2, .int p1), (3, .int p2)]) (st1 := [.ref 215]) (fun _ _ _ => rfl) ?_
                refine jg_g (v := .ref 430) rfl kc_215 rfl rfl ?_
                refine jg_sg 1 (pc1 := 86) (lv1 := [(0, .ref 215), (1, .int p0), (2, .int p1), (3, .int p2)]) (st1 := [.int p1, .ref 430]) (fun _ _ _ => rfl) ?_
                refine jg_aal (w := 431 + ((p1 : Int32).toNatClampNeg)) rfl rfl kc_430 rfl (fun g48 => ?_)
                refine jg_sg 1 (pc1 := 88) (lv1 := [(0, .ref 215), (1, .int p0), (2, .int p1), (3, .int p2)]) (st1 := [.int p2, .ref (431 + ((p1 : Int32).toNatClampNeg))]) (fun _ _ _ => rfl) ?_
                refine jg_bal rfl rfl (kc_hr (jr_m g48)) (fun g49 => ?_)
                refine jg_br (fun _ _ _ _ k1 k2 => jt_if_eq (t := 94) rfl rfl k1 k2) (fun c50 => ?_) (fun c50 => ?_)
                · refine jg_lvs (lv1 := [(0, .ref 215), (1, .int p0), (3, .int p2)]) rfl rfl ⟨rfl, rfl, rfl, trivial⟩ ?_
                  exact kJ_M_dayFits_94 (by omega) (by omega) p0 p2 z1
                · refine jg_sg 1 (pc1 := 93) (lv1 := [(0, .ref 215), (1, .int p0), (2, .int p1), (3, .int p2)]) (st1 := [.int 0]) (fun _ _ _ => rfl) ?_
                  exact jg_ri rfl rfl rfl rfl
noncomputable def L_M_secondFrom_98 (kt6 : Int32 → Int32 → Int32 → Option Int32) (kt50 : Int32 → Int32 → Int32 → Int32 → Option Int32) (S : jS) : Nat → Int32 → Int32 → Int32 → Int32 → Int32 → Option Int32
  | 0, _, _, _, _, _ => none
  | f + 1, x1, x2, x3, x4, x5 => if 60 ≤ x5 then (kt50 x1 x2 x3 (x4 + 1)) else (j_q (j_in x1 16) (j_q (j_in 0 7) (j_q (j_in x5 330) (if (S.1 ((240 + ((x1 : Int32).toNatClampNeg) * 8) + 1 + ((0 : Int32).toNatClampNeg)) ((x5 : Int32).toNatClampNeg)) = 0 then ((L_M_secondFrom_98 kt6 kt50 S f) x1 x2 x3 x4 (x5 + 1)) else (some (((3600 * x3) + (60 * x4)) + x5))))))
set_option maxRecDepth 20000 in
theorem kL_M_secondFrom_98 {q rF rL : Nat} (hF : 0 ≤ rF) (hL : 0 ≤ rL) (S : jS) (kt6 : Int32 → Int32 → Int32 → Option Int32) (ih6 : ∀ (x1 : Int32) (x2 : Int32) (x3 : Int32), jg q jp_M_secondFrom rF rL 6 [(0, .ref 215), (1, .int x1), (2, .int x2), (3, .int x3)] [] S 0 (p_I S) (kt6 x1 x2 x3)) (kt50 : Int32 → Int32 → Int32 → Int32 → Option Int32) (ih50 : ∀ (x1 : Int32) (x2 : Int32) (x3 : Int32) (x4 : Int32), jg q jp_M_secondFrom rF rL 50 [(0, .ref 215), (1, .int x1), (2, .int x2), (3, .int x3), (4, .int x4)] [] S 0 (p_I S) (kt50 x1 x2 x3 x4)) : ∀ (f : Nat) (x1 : Int32) (x2 : Int32) (x3 : Int32) (x4 : Int32) (x5 : Int32), jg q jp_M_secondFrom rF rL 98 [(0, .ref 215), (1, .int x1), (2, .int x2), (3, .int x3), (4, .int x4), (5, .int x5)] [] S 0 (p_I S) (L_M_secondFrom_98 kt6 kt50 S f x1 x2 x3 x4 x5) := by
  intro f
  induction f with
  | zero => intro _ _ _ _ _; exact jg_none
  | succ f ih98 =>
    intro x1 x2 x3 x4 x5
    rw [L_M_secondFrom_98]
    refine jg_sg 2 (pc1 := 102) (lv1 := [(0, .ref 215), (1, .int x1), (2, .int x2), (3, .int x3), (4, .int x4), (5, .int x5)]) (st1 := [.int 60, .int x5]) (fun _ _ _ => rfl) ?_
    refine jg_br (fun _ _ _ _ k1 k2 => jt_icmp_ge (t := 140) rfl rfl k1 k2) (fun c15 => ?_) (fun c15 => ?_)
    · refine jg_sg 2 (pc1 := 50) (lv1 := [(4, .int (x4 + 1)), (0, .ref 215), (1, .int x1), (2, .int x2), (3, .int x3), (5, .int x5)]) (st1 := []) (fun _ _ _ => rfl) ?_
      refine jg_lvs (lv1 := [(0, .ref 215), (1, .int x1), (2, .int x2), (3, .int x3), (4, .int (x4 + 1))]) rfl rfl ⟨rfl, rfl, rfl, rfl, rfl, trivial⟩ ?_
      exact ih50 x1 x2 x3 (x4 + 1)
    · refine jg_sg 1 (pc1 := 106) (lv1 := [(0, .ref 215), (1, .int x1), (2, .int x2), (3, .int x3), (4, .int x4), (5, .int x5)]) (st1 := [.ref 215]) (fun _ _ _ => rfl) ?_
      refine jg_g (v := .ref 239) rfl kc_215 rfl rfl ?_
      refine jg_sg 1 (pc1 := 110) (lv1 := [(0, .ref 215), (1, .int x1), (2, .int x2), (3, .int x3), (4, .int x4), (5, .int x5)]) (st1 := [.int x1, .ref 239]) (fun _ _ _ => rfl) ?_
      refine jg_aal (w := 240 + ((x1 : Int32).toNatClampNeg) * 8) rfl rfl kc_239 rfl (fun g16 => ?_)
      refine jg_sg 1 (pc1 := 112) (lv1 := [(0, .ref 215), (1, .int x1), (2, .int x2), (3, .int x3), (4, .int x4), (5, .int x5)]) (st1 := [.int 0, .ref (240 + ((x1 : Int32).toNatClampNeg) * 8)]) (fun _ _ _ => rfl) ?_
      refine jg_aal (w := (240 + ((x1 : Int32).toNatClampNeg) * 8) + 1 + ((0 : Int32).toNatClampNeg)) rfl rfl (kc_sk (jk_m g16)) rfl (fun g17 => ?_)
      refine jg_sg 1 (pc1 := 115) (lv1 := [(0, .ref 215), (1, .int x1), (2, .int x2), (3, .int x3), (4, .int x4), (5, .int x5)]) (st1 := [.int x5, .ref ((240 + ((x1 : Int32).toNatClampNeg) * 8) + 1 + ((0 : Int32).toNatClampNeg))]) (fun _ _ _ => rfl) ?_
      refine jg_bal rfl rfl (kc_sb (jf_m (jk_m g16) g17)) (fun g18 => ?_)
      refine jg_br (fun _ _ _ _ k1 k2 => jt_if_eq (t := 134) rfl rfl k1 k2) (fun c19 => ?_) (fun c19 => ?_)
      · refine jg_sg 2 (pc1 := 98) (lv1 := [(5, .int (x5 + 1)), (0, .ref 215), (1, .int x1), (2, .int x2), (3, .int x3), (4, .int x4)]) (st1 := []) (fun _ _ _ => rfl) ?_
        refine jg_lvs (lv1 := [(0, .ref 215), (1, .int x1), (2, .int x2), (3, .int x3), (4, .int x4), (5, .int (x5 + 1))]) rfl rfl ⟨rfl, rfl, rfl, rfl, rfl, rfl, trivial⟩ ?_
        exact ih98 x1 x2 x3 x4 (x5 + 1)
      · refine jg_sg 9 (pc1 := 133) (lv1 := [(0, .ref 215), (1, .int x1), (2, .int x2), (3, .int x3), (4, .int x4), (5, .int x5)]) (st1 := [.int (((3600 * x3) + (60 * x4)) + x5)]) (fun _ _ _ => rfl) ?_
        exact jg_ri rfl rfl rfl rfl
noncomputable def L_M_secondFrom_50 (kt6 : Int32 → Int32 → Int32 → Option Int32) (S : jS) : Nat → Int32 → Int32 → Int32 → Int32 → Option Int32
  | 0, _, _, _, _ => none
  | f + 1, x1, x2, x3, x4 => if 60 ≤ x4 then (kt6 x1 x2 (x3 + 1)) else (j_q (j_in x1 16) (j_q (j_in 1 7) (j_q (j_in x4 330) (if (S.1 ((240 + ((x1 : Int32).toNatClampNeg) * 8) + 1 + ((1 : Int32).toNatClampNeg)) ((x4 : Int32).toNatClampNeg)) = 0 then ((L_M_secondFrom_50 kt6 S f) x1 x2 x3 (x4 + 1)) else (if x2 ≤ (60 * ((60 * x3) + x4)) then (L_M_secondFrom_98 kt6 (L_M_secondFrom_50 kt6 S f) S ju_ x1 x2 x3 x4 0) else (j_l (x2 - x2 / 60 * 60 : Int32) (fun v20 => L_M_secondFrom_98 kt6 (L_M_secondFrom_50 kt6 S f) S ju_ x1 x2 x3 x4 v20)))))))
set_option maxRecDepth 20000 in
theorem kL_M_secondFrom_50 {q rF rL : Nat} (hF : 0 ≤ rF) (hL : 0 ≤ rL) (S : jS) (kt6 : Int32 → Int32 → Int32 → Option Int32) (ih6 : ∀ (x1 : Int32) (x2 : Int32) (x3 : Int32), jg q jp_M_secondFrom rF rL 6 [(0, .ref 215), (1, .int x1), (2, .int x2), (3, .int x3)] [] S 0 (p_I S) (kt6 x1 x2 x3)) : ∀ (f : Nat) (x1 : Int32) (x2 : Int32) (x3 : Int32) (x4 : Int32), jg q jp_M_secondFrom rF rL 50 [(0, .ref 215), (1, .int x1), (2, .int x2), (3, .int x3), (4, .int x4)] [] S 0 (p_I S) (L_M_secondFrom_50 kt6 S f x1 x2 x3 x4) := by
  intro f
  induction f with
  | zero => intro _ _ _ _; exact jg_none
  | succ f ih50 =>
    intro x1 x2 x3 x4
    rw [L_M_secondFrom_50]
    refine jg_sg 2 (pc1 := 54) (lv1 := [(0, .ref 215), (1, .int x1), (2, .int x2), (3, .int x3), (4, .int x4)]) (st1 := [.int 60, .int x4]) (fun _ _ _ => rfl) ?_
    refine jg_br (fun _ _ _ _ k1 k2 => jt_icmp_ge (t := 146) rfl rfl k1 k2) (fun c9 => ?_) (fun c9 => ?_)
    · refine jg_sg 2 (pc1 := 6) (lv1 := [(3, .int (x3 + 1)), (0, .ref 215), (1, .int x1), (2, .int x2), (4, .int x4)]) (st1 := []) (fun _ _ _ => rfl) ?_
      refine jg_lvs (lv1 := [(0, .ref 215), (1, .int x1), (2, .int x2), (3, .int (x3 + 1))]) rfl rfl ⟨rfl, rfl, rfl, rfl, trivial⟩ ?_
      exact ih6 x1 x2 (x3 + 1)
    · refine jg_sg 1 (pc1 := 58) (lv1 := [(0, .ref 215), (1, .int x1), (2, .int x2), (3, .int x3), (4, .int x4)]) (st1 := [.ref 215]) (fun _ _ _ => rfl) ?_
      refine jg_g (v := .ref 239) rfl kc_215 rfl rfl ?_
      refine jg_sg 1 (pc1 := 62) (lv1 := [(0, .ref 215), (1, .int x1), (2, .int x2), (3, .int x3), (4, .int x4)]) (st1 := [.int x1, .ref 239]) (fun _ _ _ => rfl) ?_
      refine jg_aal (w := 240 + ((x1 : Int32).toNatClampNeg) * 8) rfl rfl kc_239 rfl (fun g10 => ?_)
      refine jg_sg 1 (pc1 := 64) (lv1 := [(0, .ref 215), (1, .int x1), (2, .int x2), (3, .int x3), (4, .int x4)]) (st1 := [.int 1, .ref (240 + ((x1 : Int32).toNatClampNeg) * 8)]) (fun _ _ _ => rfl) ?_
      refine jg_aal (w := (240 + ((x1 : Int32).toNatClampNeg) * 8) + 1 + ((1 : Int32).toNatClampNeg)) rfl rfl (kc_sk (jk_m g10)) rfl (fun g11 => ?_)
      refine jg_sg 1 (pc1 := 67) (lv1 := [(0, .ref 215), (1, .int x1), (2, .int x2), (3, .int x3), (4, .int x4)]) (st1 := [.int x4, .ref ((240 + ((x1 : Int32).toNatClampNeg) * 8) + 1 + ((1 : Int32).toNatClampNeg))]) (fun _ _ _ => rfl) ?_
      refine jg_bal rfl rfl (kc_sb (jf_m (jk_m g10) g11)) (fun g12 => ?_)
      refine jg_br (fun _ _ _ _ k1 k2 => jt_if_ne (t := 74) rfl rfl k2 k1) (fun c13 => ?_) (fun c13 => ?_)
      · refine jg_sg 3 (pc1 := 50) (lv1 := [(4, .int (x4 + 1)), (0, .ref 215), (1, .int x1), (2, .int x2), (3, .int x3)]) (st1 := []) (fun _ _ _ => rfl) ?_
        refine jg_lvs (lv1 := [(0, .ref 215), (1, .int x1), (2, .int x2), (3, .int x3), (4, .int (x4 + 1))]) rfl rfl ⟨rfl, rfl, rfl, rfl, rfl, trivial⟩ ?_
        exact ih50 x1 x2 x3 (x4 + 1)
      · refine jg_sg 8 (pc1 := 85) (lv1 := [(0, .ref 215), (1, .int x1), (2, .int x2), (3, .int x3), (4, .int x4)]) (st1 := [.int x2, .int (60 * ((60 * x3) + x4))]) (fun _ _ _ => rfl) ?_
        refine jg_br (fun _ _ _ _ k1 k2 => jt_icmp_ge (t := 95) rfl rfl k1 k2) (fun c14 => ?_) (fun c14 => ?_)
        · refine jg_sg 2 (pc1 := 98) (lv1 := [(5, .int 0), (0, .ref 215), (1, .int x1), (2, .int x2), (3, .int x3), (4, .int x4)]) (st1 := []) (fun _ _ _ => rfl) ?_
          refine jg_lvs (lv1 := [(0, .ref 215), (1, .int x1), (2, .int x2), (3, .int x3), (4, .int x4), (5, .int 0)]) rfl rfl ⟨rfl, rfl, rfl, rfl, rfl, rfl, trivial⟩ ?_
          exact kL_M_secondFrom_98 (by omega) (by omega) S kt6 ih6 (L_M_secondFrom_50 kt6 S f) ih50 ju_ x1 x2 x3 x4 0
        · refine jg_sg 2 (pc1 := 91) (lv1 := [(0, .ref 215), (1, .int x1), (2, .int x2), (3, .int x3), (4, .int x4)]) (st1 := [.int 60, .int x2]) (fun _ _ _ => rfl) ?_
          refine jg_st (fun _ _ _ _ _ k => jt_irem rfl (by decide +kernel) k) ?_
          refine jg_sg 2 (pc1 := 98) (lv1 := [(5, .int (x2 - x2 / 60 * 60)), (0, .ref 215), (1, .int x1), (2, .int x2), (3, .int x3), (4, .int x4)]) (st1 := []) (fun _ _ _ => rfl) ?_
          refine jg_vi (fun v20 => ?_)
          refine jg_lvs (lv1 := [(0, .ref 215), (1, .int x1), (2, .int x2), (3, .int x3), (4, .int x4), (5, .int v20)]) rfl rfl ⟨rfl, rfl, rfl, rfl, rfl, rfl, trivial⟩ ?_
          exact kL_M_secondFrom_98 (by omega) (by omega) S kt6 ih6 (L_M_secondFrom_50 kt6 S f) ih50 ju_ x1 x2 x3 x4 v20
noncomputable def L_M_secondFrom_6 (S : jS) : Nat → Int32 → Int32 → Int32 → Option Int32
  | 0, _, _, _ => none
  | f + 1, x1, x2, x3 => if 24 ≤ x3 then (some (-1)) else (j_q (j_in x1 16) (j_q (j_in 2 7) (j_q (j_in x3 330) (if (S.1 ((240 + ((x1 : Int32).toNatClampNeg) * 8) + 1 + ((2 : Int32).toNatClampNeg)) ((x3 : Int32).toNatClampNeg)) = 0 then ((L_M_secondFrom_6 S f) x1 x2 (x3 + 1)) else (if x3 = (x2 / 3600) then (j_l ((x2 / 60) - (x2 / 60) / 60 * 60 : Int32) (fun v8 => L_M_secondFrom_50 (L_M_secondFrom_6 S f) S ju_ x1 x2 x3 v8)) else (L_M_secondFrom_50 (L_M_secondFrom_6 S f) S ju_ x1 x2 x3 0))))))
set_option maxRecDepth 20000 in
theorem kL_M_secondFrom_6 {q rF rL : Nat} (hF : 0 ≤ rF) (hL : 0 ≤ rL) (S : jS)  : ∀ (f : Nat) (x1 : Int32) (x2 : Int32) (x3 : Int32), jg q jp_M_secondFrom rF rL 6 [(0, .ref 215), (1, .int x1), (2, .int x2), (3, .int x3)] [] S 0 (p_I S) (L_M_secondFrom_6 S f x1 x2 x3) := by
  intro f
  induction f with
  | zero => intro _ _ _; exact jg_none
  | succ f ih6 =>
    intro x1 x2 x3
    rw [L_M_secondFrom_6]
    refine jg_sg 2 (pc1 := 9) (lv1 := [(0, .ref 215), (1, .int x1), (2, .int x2), (3, .int x3)]) (st1 := [.int 24, .int x3]) (fun _ _ _ => rfl) ?_
    refine jg_br (fun _ _ _ _ k1 k2 => jt_icmp_ge (t := 152) rfl rfl k1 k2) (fun c2 => ?_) (fun c2 => ?_)
    · refine jg_sg 1 (pc1 := 153) (lv1 := [(0, .ref 215), (1, .int x1), (2, .int x2), (3, .int x3)]) (st1 := [.int (-1)]) (fun _ _ _ => rfl) ?_
      exact jg_ri rfl rfl rfl rfl
    · refine jg_sg 1 (pc1 := 13) (lv1 := [(0, .ref 215), (1, .int x1), (2, .int x2), (3, .int x3)]) (st1 := [.ref 215]) (fun _ _ _ => rfl) ?_
      refine jg_g (v := .ref 239) rfl kc_215 rfl rfl ?_
      refine jg_sg 1 (pc1 := 17) (lv1 := [(0, .ref 215), (1, .int x1), (2, .int x2), (3, .int x3)]) (st1 := [.int x1, .ref 239]) (fun _ _ _ => rfl) ?_
      refine jg_aal (w := 240 + ((x1 : Int32).toNatClampNeg) * 8) rfl rfl kc_239 rfl (fun g3 => ?_)
      refine jg_sg 1 (pc1 := 19) (lv1 := [(0, .ref 215), (1, .int x1), (2, .int x2), (3, .int x3)]) (st1 := [.int 2, .ref (240 + ((x1 : Int32).toNatClampNeg) * 8)]) (fun _ _ _ => rfl) ?_
      refine jg_aal (w := (240 + ((x1 : Int32).toNatClampNeg) * 8) + 1 + ((2 : Int32).toNatClampNeg)) rfl rfl (kc_sk (jk_m g3)) rfl (fun g4 => ?_)
      refine jg_sg 1 (pc1 := 21) (lv1 := [(0, .ref 215), (1, .int x1), (2, .int x2), (3, .int x3)]) (st1 := [.int x3, .ref ((240 + ((x1 : Int32).toNatClampNeg) * 8) + 1 + ((2 : Int32).toNatClampNeg))]) (fun _ _ _ => rfl) ?_
      refine jg_bal rfl rfl (kc_sb (jf_m (jk_m g3) g4)) (fun g5 => ?_)
      refine jg_br (fun _ _ _ _ k1 k2 => jt_if_ne (t := 28) rfl rfl k2 k1) (fun c6 => ?_) (fun c6 => ?_)
      · refine jg_sg 3 (pc1 := 6) (lv1 := [(3, .int (x3 + 1)), (0, .ref 215), (1, .int x1), (2, .int x2)]) (st1 := []) (fun _ _ _ => rfl) ?_
        refine jg_lvs (lv1 := [(0, .ref 215), (1, .int x1), (2, .int x2), (3, .int (x3 + 1))]) rfl rfl ⟨rfl, rfl, rfl, rfl, trivial⟩ ?_
        exact ih6 x1 x2 (x3 + 1)
      · refine jg_sg 3 (pc1 := 33) (lv1 := [(0, .ref 215), (1, .int x1), (2, .int x2), (3, .int x3)]) (st1 := [.int 3600, .int x2, .int x3]) (fun _ _ _ => rfl) ?_
        refine jg_st (fun _ _ _ _ _ k => jt_idiv rfl (by decide +kernel) k) ?_
        refine jg_br (fun _ _ _ _ k1 k2 => jt_icmp_ne (t := 47) rfl rfl k2 k1) (fun c7 => ?_) (fun c7 => ?_)
        · refine jg_sg 2 (pc1 := 40) (lv1 := [(0, .ref 215), (1, .int x1), (2, .int x2), (3, .int x3)]) (st1 := [.int 60, .int x2]) (fun _ _ _ => rfl) ?_
          refine jg_st (fun _ _ _ _ _ k => jt_idiv rfl (by decide +kernel) k) ?_
          refine jg_sg 1 (pc1 := 43) (lv1 := [(0, .ref 215), (1, .int x1), (2, .int x2), (3, .int x3)]) (st1 := [.int 60, .int (x2 / 60)]) (fun _ _ _ => rfl) ?_
          refine jg_st (fun _ _ _ _ _ k => jt_irem rfl (by decide +kernel) k) ?_
          refine jg_sg 2 (pc1 := 50) (lv1 := [(4, .int ((x2 / 60) - (x2 / 60) / 60 * 60)), (0, .ref 215), (1, .int x1), (2, .int x2), (3, .int x3)]) (st1 := []) (fun _ _ _ => rfl) ?_
          refine jg_vi (fun v8 => ?_)
          refine jg_lvs (lv1 := [(0, .ref 215), (1, .int x1), (2, .int x2), (3, .int x3), (4, .int v8)]) rfl rfl ⟨rfl, rfl, rfl, rfl, rfl, trivial⟩ ?_
          exact kL_M_secondFrom_50 (by omega) (by omega) S (L_M_secondFrom_6 S f) ih6 ju_ x1 x2 x3 v8
        · refine jg_sg 2 (pc1 := 50) (lv1 := [(4, .int 0), (0, .ref 215), (1, .int x1), (2, .int x2), (3, .int x3)]) (st1 := []) (fun _ _ _ => rfl) ?_
          refine jg_lvs (lv1 := [(0, .ref 215), (1, .int x1), (2, .int x2), (3, .int x3), (4, .int 0)]) rfl rfl ⟨rfl, rfl, rfl, rfl, rfl, trivial⟩ ?_
          exact kL_M_secondFrom_50 (by omega) (by omega) S (L_M_secondFrom_6 S f) ih6 ju_ x1 x2 x3 0
noncomputable def F_M_secondFrom (p0 : Int32) (p1 : Int32) (S : jS) : Option Int32 := j_l (p1 / 3600 : Int32) (fun v1 => L_M_secondFrom_6 S ju_ p0 p1 v1)
set_option maxRecDepth 20000 in
theorem kF_M_secondFrom {q : Nat} (p0 : Int32) (p1 : Int32) (S : jS) (rF rL : Nat) (hF : 0 ≤ rF) (hL : 0 ≤ rL)  : jg q jp_M_secondFrom rF rL 0 [(0, .ref 215), (1, .int p0), (2, .int p1)] [] S 0 (p_I S) (F_M_secondFrom p0 p1 S) := by
  unfold F_M_secondFrom
  refine jg_sg 2 (pc1 := 4) (lv1 := [(0, .ref 215), (1, .int p0), (2, .int p1)]) (st1 := [.int 3600, .int p1]) (fun _ _ _ => rfl) ?_
  refine jg_st (fun _ _ _ _ _ k => jt_idiv rfl (by decide +kernel) k) ?_
  refine jg_sg 1 (pc1 := 6) (lv1 := [(3, .int (p1 / 3600)), (0, .ref 215), (1, .int p0), (2, .int p1)]) (st1 := []) (fun _ _ _ => rfl) ?_
  refine jg_vi (fun v1 => ?_)
  refine jg_lvs (lv1 := [(0, .ref 215), (1, .int p0), (2, .int p1), (3, .int v1)]) rfl rfl ⟨rfl, rfl, rfl, rfl, trivial⟩ ?_
  exact kL_M_secondFrom_6 (by omega) (by omega) S ju_ p0 p1 v1
noncomputable def L_M_secondTo_99 (kt6 : Int32 → Int32 → Int32 → Option Int32) (kt49 : Int32 → Int32 → Int32 → Int32 → Option Int32) (S : jS) : Nat → Int32 → Int32 → Int32 → Int32 → Int32 → Option Int32
  | 0, _, _, _, _, _ => none
  | f + 1, x1, x2, x3, x4, x5 => if x5 < 0 then (kt49 x1 x2 x3 (x4 + (-1))) else (j_q (j_in x1 16) (j_q (j_in 0 7) (j_q (j_in x5 330) (if (S.1 ((240 + ((x1 : Int32).toNatClampNeg) * 8) + 1 + ((0 : Int32).toNatClampNeg)) ((x5 : Int32).toNatClampNeg)) = 0 then ((L_M_secondTo_99 kt6 kt49 S f) x1 x2 x3 x4 (x5 + (-1))) else (some (((3600 * x3) + (60 * x4)) + x5))))))
set_option maxRecDepth 20000 in
theorem kL_M_secondTo_99 {q rF rL : Nat} (hF : 0 ≤ rF) (hL : 0 ≤ rL) (S : jS) (kt6 : Int32 → Int32 → Int32 → Option Int32) (ih6 : ∀ (x1 : Int32) (x2 : Int32) (x3 : Int32), jg q jp_M_secondTo rF rL 6 [(0, .ref 215), (1, .int x1), (2, .int x2), (3, .int x3)] [] S 0 (p_I S) (kt6 x1 x2 x3)) (kt49 : Int32 → Int32 → Int32 → Int32 → Option Int32) (ih49 : ∀ (x1 : Int32) (x2 : Int32) (x3 : Int32) (x4 : Int32), jg q jp_M_secondTo rF rL 49 [(0, .ref 215), (1, .int x1), (2, .int x2), (3, .int x3), (4, .int x4)] [] S 0 (p_I S) (kt49 x1 x2 x3 x4)) : ∀ (f : Nat) (x1 : Int32) (x2 : Int32) (x3 : Int32) (x4 : Int32) (x5 : Int32), jg q jp_M_secondTo rF rL 99 [(0, .ref 215), (1, .int x1), (2, .int x2), (3, .int x3), (4, .int x4), (5, .int x5)] [] S 0 (p_I S) (L_M_secondTo_99 kt6 kt49 S f x1 x2 x3 x4 x5) := by
  intro f
  induction f with
  | zero => intro _ _ _ _ _; exact jg_none
  | succ f ih99 =>
    intro x1 x2 x3 x4 x5
    rw [L_M_secondTo_99]
    refine jg_sg 1 (pc1 := 101) (lv1 := [(0, .ref 215), (1, .int x1), (2, .int x2), (3, .int x3), (4, .int x4), (5, .int x5)]) (st1 := [.int x5]) (fun _ _ _ => rfl) ?_
    refine jg_br (fun _ _ _ _ k1 k2 => jt_if_lt (t := 139) rfl rfl k1 k2) (fun c15 => ?_) (fun c15 => ?_)
    · refine jg_sg 2 (pc1 := 49) (lv1 := [(4, .int (x4 + (-1))), (0, .ref 215), (1, .int x1), (2, .int x2), (3, .int x3), (5, .int x5)]) (st1 := []) (fun _ _ _ => rfl) ?_
      refine jg_lvs (lv1 := [(0, .ref 215), (1, .int x1), (2, .int x2), (3, .int x3), (4, .int (x4 + (-1)))]) rfl rfl ⟨rfl, rfl, rfl, rfl, rfl, trivial⟩ ?_
      exact ih49 x1 x2 x3 (x4 + (-1))
    · refine jg_sg 1 (pc1 := 105) (lv1 := [(0, .ref 215), (1, .int x1), (2, .int x2), (3, .int x3), (4, .int x4), (5, .int x5)]) (st1 := [.ref 215]) (fun _ _ _ => rfl) ?_
      refine jg_g (v := .ref 239) rfl kc_215 rfl rfl ?_
      refine jg_sg 1 (pc1 := 109) (lv1 := [(0, .ref 215), (1, .int x1), (2, .int x2), (3, .int x3), (4, .int x4), (5, .int x5)]) (st1 := [.int x1, .ref 239]) (fun _ _ _ => rfl) ?_
      refine jg_aal (w := 240 + ((x1 : Int32).toNatClampNeg) * 8) rfl rfl kc_239 rfl (fun g16 => ?_)
      refine jg_sg 1 (pc1 := 111) (lv1 := [(0, .ref 215), (1, .int x1), (2, .int x2), (3, .int x3), (4, .int x4), (5, .int x5)]) (st1 := [.int 0, .ref (240 + ((x1 : Int32).toNatClampNeg) * 8)]) (fun _ _ _ => rfl) ?_
      refine jg_aal (w := (240 + ((x1 : Int32).toNatClampNeg) * 8) + 1 + ((0 : Int32).toNatClampNeg)) rfl rfl (kc_sk (jk_m g16)) rfl (fun g17 => ?_)
      refine jg_sg 1 (pc1 := 114) (lv1 := [(0, .ref 215), (1, .int x1), (2, .int x2), (3, .int x3), (4, .int x4), (5, .int x5)]) (st1 := [.int x5, .ref ((240 + ((x1 : Int32).toNatClampNeg) * 8) + 1 + ((0 : Int32).toNatClampNeg))]) (fun _ _ _ => rfl) ?_
      refine jg_bal rfl rfl (kc_sb (jf_m (jk_m g16) g17)) (fun g18 => ?_)
      refine jg_br (fun _ _ _ _ k1 k2 => jt_if_eq (t := 133) rfl rfl k1 k2) (fun c19 => ?_) (fun c19 => ?_)
      · refine jg_sg 2 (pc1 := 99) (lv1 := [(5, .int (x5 + (-1))), (0, .ref 215), (1, .int x1), (2, .int x2), (3, .int x3), (4, .int x4)]) (st1 := []) (fun _ _ _ => rfl) ?_
        refine jg_lvs (lv1 := [(0, .ref 215), (1, .int x1), (2, .int x2), (3, .int x3), (4, .int x4), (5, .int (x5 + (-1)))]) rfl rfl ⟨rfl, rfl, rfl, rfl, rfl, rfl, trivial⟩ ?_
        exact ih99 x1 x2 x3 x4 (x5 + (-1))
      · refine jg_sg 9 (pc1 := 132) (lv1 := [(0, .ref 215), (1, .int x1), (2, .int x2), (3, .int x3), (4, .int x4), (5, .int x5)]) (st1 := [.int (((3600 * x3) + (60 * x4)) + x5)]) (fun _ _ _ => rfl) ?_
        exact jg_ri rfl rfl rfl rfl
noncomputable def L_M_secondTo_49 (kt6 : Int32 → Int32 → Int32 → Option Int32) (S : jS) : Nat → Int32 → Int32 → Int32 → Int32 → Option Int32
  | 0, _, _, _, _ => none
  | f + 1, x1, x2, x3, x4 => if x4 < 0 then (kt6 x1 x2 (x3 + (-1))) else (j_q (j_in x1 16) (j_q (j_in 1 7) (j_q (j_in x4 330) (if (S.1 ((240 + ((x1 : Int32).toNatClampNeg) * 8) + 1 + ((1 : Int32).toNatClampNeg)) ((x4 : Int32).toNatClampNeg)) = 0 then ((L_M_secondTo_49 kt6 S f) x1 x2 x3 (x4 + (-1))) else (if ((60 * ((60 * x3) + x4)) + 59) ≤ x2 then (L_M_secondTo_99 kt6 (L_M_secondTo_49 kt6 S f) S ju_ x1 x2 x3 x4 59) else (j_l (x2 - x2 / 60 * 60 : Int32) (fun v20 => L_M_secondTo_99 kt6 (L_M_secondTo_49 kt6 S f) S ju_ x1 x2 x3 x4 v20)))))))
set_option maxRecDepth 20000 in
theorem kL_M_secondTo_49 {q rF rL : Nat} (hF : 0 ≤ rF) (hL : 0 ≤ rL) (S : jS) (kt6 : Int32 → Int32 → Int32 → Option Int32) (ih6 : ∀ (x1 : Int32) (x2 : Int32) (x3 : Int32), jg q jp_M_secondTo rF rL 6 [(0, .ref 215), (1, .int x1), (2, .int x2), (3, .int x3)] [] S 0 (p_I S) (kt6 x1 x2 x3)) : ∀ (f : Nat) (x1 : Int32) (x2 : Int32) (x3 : Int32) (x4 : Int32), jg q jp_M_secondTo rF rL 49 [(0, .ref 215), (1, .int x1), (2, .int x2), (3, .int x3), (4, .int x4)] [] S 0 (p_I S) (L_M_secondTo_49 kt6 S f x1 x2 x3 x4) := by
  intro f
  induction f with
  | zero => intro _ _ _ _; exact jg_none
  | succ f ih49 =>
    intro x1 x2 x3 x4
    rw [L_M_secondTo_49]
    refine jg_sg 1 (pc1 := 51) (lv1 := [(0, .ref 215), (1, .int x1), (2, .int x2), (3, .int x3), (4, .int x4)]) (st1 := [.int x4]) (fun _ _ _ => rfl) ?_
    refine jg_br (fun _ _ _ _ k1 k2 => jt_if_lt (t := 145) rfl rfl k1 k2) (fun c9 => ?_) (fun c9 => ?_)
    · refine jg_sg 2 (pc1 := 6) (lv1 := [(3, .int (x3 + (-1))), (0, .ref 215), (1, .int x1), (2, .int x2), (4, .int x4)]) (st1 := []) (fun _ _ _ => rfl) ?_
      refine jg_lvs (lv1 := [(0, .ref 215), (1, .int x1), (2, .int x2), (3, .int (x3 + (-1)))]) rfl rfl ⟨rfl, rfl, rfl, rfl, trivial⟩ ?_
      exact ih6 x1 x2 (x3 + (-1))
    · refine jg_sg 1 (pc1 := 55) (lv1 := [(0, .ref 215), (1, .int x1), (2, .int x2), (3, .int x3), (4, .int x4)]) (st1 := [.ref 215]) (fun _ _ _ => rfl) ?_
      refine jg_g (v := .ref 239) rfl kc_215 rfl rfl ?_
      refine jg_sg 1 (pc1 := 59) (lv1 := [(0, .ref 215), (1, .int x1), (2, .int x2), (3, .int x3), (4, .int x4)]) (st1 := [.int x1, .ref 239]) (fun _ _ _ => rfl) ?_
      refine jg_aal (w := 240 + ((x1 : Int32).toNatClampNeg) * 8) rfl rfl kc_239 rfl (fun g10 => ?_)
      refine jg_sg 1 (pc1 := 61) (lv1 := [(0, .ref 215), (1, .int x1), (2, .int x2), (3, .int x3), (4, .int x4)]) (st1 := [.int 1, .ref (240 + ((x1 : Int32).toNatClampNeg) * 8)]) (fun _ _ _ => rfl) ?_
      refine jg_aal (w := (240 + ((x1 : Int32).toNatClampNeg) * 8) + 1 + ((1 : Int32).toNatClampNeg)) rfl rfl (kc_sk (jk_m g10)) rfl (fun g11 => ?_)
      refine jg_sg 1 (pc1 := 64) (lv1 := [(0, .ref 215), (1, .int x1), (2, .int x2), (3, .int x3), (4, .int x4)]) (st1 := [.int x4, .ref ((240 + ((x1 : Int32).toNatClampNeg) * 8) + 1 + ((1 : Int32).toNatClampNeg))]) (fun _ _ _ => rfl) ?_
      refine jg_bal rfl rfl (kc_sb (jf_m (jk_m g10) g11)) (fun g12 => ?_)
      refine jg_br (fun _ _ _ _ k1 k2 => jt_if_ne (t := 71) rfl rfl k2 k1) (fun c13 => ?_) (fun c13 => ?_)
      · refine jg_sg 3 (pc1 := 49) (lv1 := [(4, .int (x4 + (-1))), (0, .ref 215), (1, .int x1), (2, .int x2), (3, .int x3)]) (st1 := []) (fun _ _ _ => rfl) ?_
        refine jg_lvs (lv1 := [(0, .ref 215), (1, .int x1), (2, .int x2), (3, .int x3), (4, .int (x4 + (-1)))]) rfl rfl ⟨rfl, rfl, rfl, rfl, rfl, trivial⟩ ?_
        exact ih49 x1 x2 x3 (x4 + (-1))
      · refine jg_sg 10 (pc1 := 85) (lv1 := [(0, .ref 215), (1, .int x1), (2, .int x2), (3, .int x3), (4, .int x4)]) (st1 := [.int x2, .int ((60 * ((60 * x3) + x4)) + 59)]) (fun _ _ _ => rfl) ?_
        refine jg_br (fun _ _ _ _ k1 k2 => jt_icmp_le (t := 95) rfl rfl k1 k2) (fun c14 => ?_) (fun c14 => ?_)
        · refine jg_sg 2 (pc1 := 99) (lv1 := [(5, .int 59), (0, .ref 215), (1, .int x1), (2, .int x2), (3, .int x3), (4, .int x4)]) (st1 := []) (fun _ _ _ => rfl) ?_
          refine jg_lvs (lv1 := [(0, .ref 215), (1, .int x1), (2, .int x2), (3, .int x3), (4, .int x4), (5, .int 59)]) rfl rfl ⟨rfl, rfl, rfl, rfl, rfl, rfl, trivial⟩ ?_
          exact kL_M_secondTo_99 (by omega) (by omega) S kt6 ih6 (L_M_secondTo_49 kt6 S f) ih49 ju_ x1 x2 x3 x4 59
        · refine jg_sg 2 (pc1 := 91) (lv1 := [(0, .ref 215), (1, .int x1), (2, .int x2), (3, .int x3), (4, .int x4)]) (st1 := [.int 60, .int x2]) (fun _ _ _ => rfl) ?_
          refine jg_st (fun _ _ _ _ _ k => jt_irem rfl (by decide +kernel) k) ?_
          refine jg_sg 2 (pc1 := 99) (lv1 := [(5, .int (x2 - x2 / 60 * 60)), (0, .ref 215), (1, .int x1), (2, .int x2), (3, .int x3), (4, .int x4)]) (st1 := []) (fun _ _ _ => rfl) ?_
          refine jg_vi (fun v20 => ?_)
          refine jg_lvs (lv1 := [(0, .ref 215), (1, .int x1), (2, .int x2), (3, .int x3), (4, .int x4), (5, .int v20)]) rfl rfl ⟨rfl, rfl, rfl, rfl, rfl, rfl, trivial⟩ ?_
          exact kL_M_secondTo_99 (by omega) (by omega) S kt6 ih6 (L_M_secondTo_49 kt6 S f) ih49 ju_ x1 x2 x3 x4 v20
noncomputable def L_M_secondTo_6 (S : jS) : Nat → Int32 → Int32 → Int32 → Option Int32
  | 0, _, _, _ => none
  | f + 1, x1, x2, x3 => if x3 < 0 then (some (-1)) else (j_q (j_in x1 16) (j_q (j_in 2 7) (j_q (j_in x3 330) (if (S.1 ((240 + ((x1 : Int32).toNatClampNeg) * 8) + 1 + ((2 : Int32).toNatClampNeg)) ((x3 : Int32).toNatClampNeg)) = 0 then ((L_M_secondTo_6 S f) x1 x2 (x3 + (-1))) else (if x3 = (x2 / 3600) then (j_l ((x2 / 60) - (x2 / 60) / 60 * 60 : Int32) (fun v8 => L_M_secondTo_49 (L_M_secondTo_6 S f) S ju_ x1 x2 x3 v8)) else (L_M_secondTo_49 (L_M_secondTo_6 S f) S ju_ x1 x2 x3 59))))))
set_option maxRecDepth 20000 in
theorem kL_M_secondTo_6 {q rF rL : Nat} (hF : 0 ≤ rF) (hL : 0 ≤ rL) (S : jS)  : ∀ (f : Nat) (x1 : Int32) (x2 : Int32) (x3 : Int32), jg q jp_M_secondTo rF rL 6 [(0, .ref 215), (1, .int x1), (2, .int x2), (3, .int x3)] [] S 0 (p_I S) (L_M_secondTo_6 S f x1 x2 x3) := by
  intro f
  induction f with
  | zero => intro _ _ _; exact jg_none
  | succ f ih6 =>
    intro x1 x2 x3
    rw [L_M_secondTo_6]
    refine jg_sg 1 (pc1 := 7) (lv1 := [(0, .ref 215), (1, .int x1), (2, .int x2), (3, .int x3)]) (st1 := [.int x3]) (fun _ _ _ => rfl) ?_
    refine jg_br (fun _ _ _ _ k1 k2 => jt_if_lt (t := 151) rfl rfl k1 k2) (fun c2 => ?_) (fun c2 => ?_)
    · refine jg_sg 1 (pc1 := 152) (lv1 := [(0, .ref 215), (1, .int x1), (2, .int x2), (3, .int x3)]) (st1 := [.int (-1)]) (fun _ _ _ => rfl) ?_
      exact jg_ri rfl rfl rfl rfl
    · refine jg_sg 1 (pc1 := 11) (lv1 := [(0, .ref 215), (1, .int x1), (2, .int x2), (3, .int x3)]) (st1 := [.ref 215]) (fun _ _ _ => rfl) ?_
      refine jg_g (v := .ref 239) rfl kc_215 rfl rfl ?_
      refine jg_sg 1 (pc1 := 15) (lv1 := [(0, .ref 215), (1, .int x1), (2, .int x2), (3, .int x3)]) (st1 := [.int x1, .ref 239]) (fun _ _ _ => rfl) ?_
      refine jg_aal (w := 240 + ((x1 : Int32).toNatClampNeg) * 8) rfl rfl kc_239 rfl (fun g3 => ?_)
      refine jg_sg 1 (pc1 := 17) (lv1 := [(0, .ref 215), (1, .int x1), (2, .int x2), (3, .int x3)]) (st1 := [.int 2, .ref (240 + ((x1 : Int32).toNatClampNeg) * 8)]) (fun _ _ _ => rfl) ?_
      refine jg_aal (w := (240 + ((x1 : Int32).toNatClampNeg) * 8) + 1 + ((2 : Int32).toNatClampNeg)) rfl rfl (kc_sk (jk_m g3)) rfl (fun g4 => ?_)
      refine jg_sg 1 (pc1 := 19) (lv1 := [(0, .ref 215), (1, .int x1), (2, .int x2), (3, .int x3)]) (st1 := [.int x3, .ref ((240 + ((x1 : Int32).toNatClampNeg) * 8) + 1 + ((2 : Int32).toNatClampNeg))]) (fun _ _ _ => rfl) ?_
      refine jg_bal rfl rfl (kc_sb (jf_m (jk_m g3) g4)) (fun g5 => ?_)
      refine jg_br (fun _ _ _ _ k1 k2 => jt_if_ne (t := 26) rfl rfl k2 k1) (fun c6 => ?_) (fun c6 => ?_)
      · refine jg_sg 3 (pc1 := 6) (lv1 := [(3, .int (x3 + (-1))), (0, .ref 215), (1, .int x1), (2, .int x2)]) (st1 := []) (fun _ _ _ => rfl) ?_
        refine jg_lvs (lv1 := [(0, .ref 215), (1, .int x1), (2, .int x2), (3, .int (x3 + (-1)))]) rfl rfl ⟨rfl, rfl, rfl, rfl, trivial⟩ ?_
        exact ih6 x1 x2 (x3 + (-1))
      · refine jg_sg 3 (pc1 := 31) (lv1 := [(0, .ref 215), (1, .int x1), (2, .int x2), (3, .int x3)]) (st1 := [.int 3600, .int x2, .int x3]) (fun _ _ _ => rfl) ?_
        refine jg_st (fun _ _ _ _ _ k => jt_idiv rfl (by decide +kernel) k) ?_
        refine jg_br (fun _ _ _ _ k1 k2 => jt_icmp_ne (t := 45) rfl rfl k2 k1) (fun c7 => ?_) (fun c7 => ?_)
        · refine jg_sg 2 (pc1 := 38) (lv1 := [(0, .ref 215), (1, .int x1), (2, .int x2), (3, .int x3)]) (st1 := [.int 60, .int x2]) (fun _ _ _ => rfl) ?_
          refine jg_st (fun _ _ _ _ _ k => jt_idiv rfl (by decide +kernel) k) ?_
          refine jg_sg 1 (pc1 := 41) (lv1 := [(0, .ref 215), (1, .int x1), (2, .int x2), (3, .int x3)]) (st1 := [.int 60, .int (x2 / 60)]) (fun _ _ _ => rfl) ?_
          refine jg_st (fun _ _ _ _ _ k => jt_irem rfl (by decide +kernel) k) ?_
          refine jg_sg 2 (pc1 := 49) (lv1 := [(4, .int ((x2 / 60) - (x2 / 60) / 60 * 60)), (0, .ref 215), (1, .int x1), (2, .int x2), (3, .int x3)]) (st1 := []) (fun _ _ _ => rfl) ?_
          refine jg_vi (fun v8 => ?_)
          refine jg_lvs (lv1 := [(0, .ref 215), (1, .int x1), (2, .int x2), (3, .int x3), (4, .int v8)]) rfl rfl ⟨rfl, rfl, rfl, rfl, rfl, trivial⟩ ?_
          exact kL_M_secondTo_49 (by omega) (by omega) S (L_M_secondTo_6 S f) ih6 ju_ x1 x2 x3 v8
        · refine jg_sg 2 (pc1 := 49) (lv1 := [(4, .int 59), (0, .ref 215), (1, .int x1), (2, .int x2), (3, .int x3)]) (st1 := []) (fun _ _ _ => rfl) ?_
          refine jg_lvs (lv1 := [(0, .ref 215), (1, .int x1), (2, .int x2), (3, .int x3), (4, .int 59)]) rfl rfl ⟨rfl, rfl, rfl, rfl, rfl, trivial⟩ ?_
          exact kL_M_secondTo_49 (by omega) (by omega) S (L_M_secondTo_6 S f) ih6 ju_ x1 x2 x3 59
noncomputable def F_M_secondTo (p0 : Int32) (p1 : Int32) (S : jS) : Option Int32 := j_l (p1 / 3600 : Int32) (fun v1 => L_M_secondTo_6 S ju_ p0 p1 v1)
set_option maxRecDepth 20000 in
theorem kF_M_secondTo {q : Nat} (p0 : Int32) (p1 : Int32) (S : jS) (rF rL : Nat) (hF : 0 ≤ rF) (hL : 0 ≤ rL)  : jg q jp_M_secondTo rF rL 0 [(0, .ref 215), (1, .int p0), (2, .int p1)] [] S 0 (p_I S) (F_M_secondTo p0 p1 S) := by
  unfold F_M_secondTo
  refine jg_sg 2 (pc1 := 4) (lv1 := [(0, .ref 215), (1, .int p0), (2, .int p1)]) (st1 := [.int 3600, .int p1]) (fun _ _ _ => rfl) ?_
  refine jg_st (fun _ _ _ _ _ k => jt_idiv rfl (by decide +kernel) k) ?_
  refine jg_sg 1 (pc1 := 6) (lv1 := [(3, .int (p1 / 3600)), (0, .ref 215), (1, .int p0), (2, .int p1)]) (st1 := []) (fun _ _ _ => rfl) ?_
  refine jg_vi (fun v1 => ?_)
  refine jg_lvs (lv1 := [(0, .ref 215), (1, .int p0), (2, .int p1), (3, .int v1)]) rfl rfl ⟨rfl, rfl, rfl, rfl, trivial⟩ ?_
  exact kL_M_secondTo_6 (by omega) (by omega) S ju_ p0 p1 v1
end JF13
