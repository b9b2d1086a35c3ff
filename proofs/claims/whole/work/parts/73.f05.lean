section JF5
noncomputable def J_C_timeFrom_158 (S : jS) (x2 : Int32) (x3 : Int32) (x5 : Int32) : Option Int32 := if 0 ≤ x2 then (some (((x2 * 3600) + (x3 * 60)) + x5)) else (some (-1))
set_option maxRecDepth 20000 in
theorem kJ_C_timeFrom_158 {q rF rL : Nat} (hF : 2 ≤ rF) (hL : 45 ≤ rL) (S : jS)  (x2 : Int32) (x3 : Int32) (x5 : Int32) : jg q jp_C_timeFrom rF rL 158 [(2, .int x2), (3, .int x3), (5, .int x5)] [] S 0 (p_I S) (J_C_timeFrom_158 S x2 x3 x5) := by
  unfold J_C_timeFrom_158
  refine jg_sg 1 (pc1 := 159) (lv1 := [(2, .int x2), (3, .int x3), (5, .int x5)]) (st1 := [.int x2]) (fun _ _ _ => rfl) ?_
  refine jg_br (fun _ _ _ _ k1 k2 => jt_if_ge (t := 166) rfl rfl k1 k2) (fun c13 => ?_) (fun c13 => ?_)
  · refine jg_sg 9 (pc1 := 179) (lv1 := [(2, .int x2), (3, .int x3), (5, .int x5)]) (st1 := [.int (((x2 * 3600) + (x3 * 60)) + x5)]) (fun _ _ _ => rfl) ?_
    exact jg_ri rfl rfl rfl rfl
  · refine jg_sg 2 (pc1 := 179) (lv1 := [(2, .int x2), (3, .int x3), (5, .int x5)]) (st1 := [.int (-1)]) (fun _ _ _ => rfl) ?_
    exact jg_ri rfl rfl rfl rfl
noncomputable def J_C_timeFrom_126 (S : jS) (x0 : Nat) (x1 : Int32) (x2 : Int32) (x3 : Int32) (x5 : Int32) : Option Int32 := if 0 ≤ x3 then (J_C_timeFrom_158 S x2 x3 x5) else (j_q (j_in 2 12) ((F_C_lowestBit (S.2.1 (x0 + 1) ((2 : Int32).toNatClampNeg)) ((x1 / 3600) + 1) S).bind (fun z15 => j_q (j_in 1 12) ((F_C_lowestBit (S.2.1 (x0 + 1) ((1 : Int32).toNatClampNeg)) 0 S).bind (fun z17 => J_C_timeFrom_158 S z15 z17 x5)))))
set_option maxRecDepth 20000 in
theorem kJ_C_timeFrom_126 {q rF rL : Nat} (hF : 2 ≤ rF) (hL : 45 ≤ rL) (S : jS)  (x0 : Nat) (x1 : Int32) (x2 : Int32) (x3 : Int32) (x5 : Int32) (hx0 : jc_ x0 = true) : jg q jp_C_timeFrom rF rL 126 [(0, .ref x0), (1, .int x1), (2, .int x2), (3, .int x3), (5, .int x5)] [] S 0 (p_I S) (J_C_timeFrom_126 S x0 x1 x2 x3 x5) := by
  unfold J_C_timeFrom_126
  refine jg_sg 1 (pc1 := 127) (lv1 := [(0, .ref x0), (1, .int x1), (2, .int x2), (3, .int x3), (5, .int x5)]) (st1 := [.int x3]) (fun _ _ _ => rfl) ?_
  refine jg_br (fun _ _ _ _ k1 k2 => jt_if_ge (t := 158) rfl rfl k1 k2) (fun c12 => ?_) (fun c12 => ?_)
  · refine jg_lvs (lv1 := [(2, .int x2), (3, .int x3), (5, .int x5)]) rfl rfl ⟨rfl, rfl, rfl, trivial⟩ ?_
    exact kJ_C_timeFrom_158 (by omega) (by omega) S x2 x3 x5
  · refine jg_sg 1 (pc1 := 131) (lv1 := [(0, .ref x0), (1, .int x1), (2, .int x2), (3, .int x3), (5, .int x5)]) (st1 := [.ref x0]) (fun _ _ _ => rfl) ?_
    refine jg_g (v := .ref (x0 + 1)) rfl (kc_C hx0) rfl rfl ?_
    refine jg_sg 1 (pc1 := 135) (lv1 := [(0, .ref x0), (1, .int x1), (2, .int x2), (3, .int x3), (5, .int x5)]) (st1 := [.int 2, .ref (x0 + 1)]) (fun _ _ _ => rfl) ?_
    refine jg_lal rfl (kc_CA hx0) (fun g14 => ?_)
    refine jg_sg 2 (pc1 := 140) (lv1 := [(0, .ref x0), (1, .int x1), (2, .int x2), (3, .int x3), (5, .int x5)]) (st1 := [.int 3600, .int x1, .long (S.2.1 (x0 + 1) ((2 : Int32).toNatClampNeg))]) (fun _ _ _ => rfl) ?_
    refine jg_st (fun _ _ _ _ _ k => jt_idiv rfl (by decide +kernel) k) ?_
    refine jg_sg 2 (pc1 := 143) (lv1 := [(0, .ref x0), (1, .int x1), (2, .int x2), (3, .int x3), (5, .int x5)]) (st1 := [.int ((x1 / 3600) + 1), .long (S.2.1 (x0 + 1) ((2 : Int32).toNatClampNeg))]) (fun _ _ _ => rfl) ?_
    refine jg_cpI (m2 := jp_C_lowestBit) (As := [.long (S.2.1 (x0 + 1) ((2 : Int32).toNatClampNeg)), .int ((x1 / 3600) + 1)]) (r := []) (mx := 5) (jh_s rfl (fun _ _ _ => rfl) rfl rfl rfl (by omega) (by omega) (Nat.le_of_ble_eq_true rfl)) (kF_C_lowestBit (S.2.1 (x0 + 1) ((2 : Int32).toNatClampNeg)) ((x1 / 3600) + 1) S _ _ (by omega) (by omega) ) (fun z15 => ?_)
    refine jg_sg 2 (pc1 := 148) (lv1 := [(2, .int z15), (0, .ref x0), (1, .int x1), (3, .int x3), (5, .int x5)]) (st1 := [.ref x0]) (fun _ _ _ => rfl) ?_
    refine jg_g (v := .ref (x0 + 1)) rfl (kc_C hx0) rfl rfl ?_
    refine jg_sg 1 (pc1 := 152) (lv1 := [(2, .int z15), (0, .ref x0), (1, .int x1), (3, .int x3), (5, .int x5)]) (st1 := [.int 1, .ref (x0 + 1)]) (fun _ _ _ => rfl) ?_
    refine jg_lal rfl (kc_CA hx0) (fun g16 => ?_)
    refine jg_sg 1 (pc1 := 154) (lv1 := [(2, .int z15), (0, .ref x0), (1, .int x1), (3, .int x3), (5, .int x5)]) (st1 := [.int 0, .long (S.2.1 (x0 + 1) ((1 : Int32).toNatClampNeg))]) (fun _ _ _ => rfl) ?_
    refine jg_cpI (m2 := jp_C_lowestBit) (As := [.long (S.2.1 (x0 + 1) ((1 : Int32).toNatClampNeg)), .int 0]) (r := []) (mx := 5) (jh_s rfl (fun _ _ _ => rfl) rfl rfl rfl (by omega) (by omega) (Nat.le_of_ble_eq_true rfl)) (kF_C_lowestBit (S.2.1 (x0 + 1) ((1 : Int32).toNatClampNeg)) 0 S _ _ (by omega) (by omega) ) (fun z17 => ?_)
    refine jg_sg 1 (pc1 := 158) (lv1 := [(3, .int z17), (2, .int z15), (0, .ref x0), (1, .int x1), (5, .int x5)]) (st1 := []) (fun _ _ _ => rfl) ?_
    refine jg_lvs (lv1 := [(2, .int z15), (3, .int z17), (5, .int x5)]) rfl rfl ⟨rfl, rfl, rfl, trivial⟩ ?_
    exact kJ_C_timeFrom_158 (by omega) (by omega) S z15 z17 x5
noncomputable def J_C_timeFrom_91 (S : jS) (x0 : Nat) (x1 : Int32) (x2 : Int32) (x3 : Int32) (y0 : Int32) (y1 : Int64) : Option Int32 := (F_C_lowestBit y1 y0 S).bind (fun z10 => if 0 ≤ z10 then (J_C_timeFrom_126 S x0 x1 x2 x3 z10) else (j_q (j_in 1 12) ((F_C_lowestBit (S.2.1 (x0 + 1) ((1 : Int32).toNatClampNeg)) (x3 + 1) S).bind (fun z19 => j_q (j_in 0 12) ((F_C_lowestBit (S.2.1 (x0 + 1) ((0 : Int32).toNatClampNeg)) 0 S).bind (fun z21 => J_C_timeFrom_126 S x0 x1 x2 z19 z21))))))
set_option maxRecDepth 20000 in
theorem kJ_C_timeFrom_91 {q rF rL : Nat} (hF : 2 ≤ rF) (hL : 45 ≤ rL) (S : jS)  (x0 : Nat) (x1 : Int32) (x2 : Int32) (x3 : Int32) (y0 : Int32) (y1 : Int64) (hx0 : jc_ x0 = true) : jg q jp_C_timeFrom rF rL 91 [(0, .ref x0), (1, .int x1), (2, .int x2), (3, .int x3)] [.int y0, .long y1] S 0 (p_I S) (J_C_timeFrom_91 S x0 x1 x2 x3 y0 y1) := by
  unfold J_C_timeFrom_91
  refine jg_cpI (m2 := jp_C_lowestBit) (As := [.long y1, .int y0]) (r := []) (mx := 5) (jh_s rfl (fun _ _ _ => rfl) rfl rfl rfl (by omega) (by omega) (Nat.le_of_ble_eq_true rfl)) (kF_C_lowestBit y1 y0 S _ _ (by omega) (by omega) ) (fun z10 => ?_)
  refine jg_sg 2 (pc1 := 98) (lv1 := [(5, .int z10), (0, .ref x0), (1, .int x1), (2, .int x2), (3, .int x3)]) (st1 := [.int z10]) (fun _ _ _ => rfl) ?_
  refine jg_br (fun _ _ _ _ k1 k2 => jt_if_ge (t := 126) rfl rfl k1 k2) (fun c11 => ?_) (fun c11 => ?_)
  · refine jg_lvs (lv1 := [(0, .ref x0), (1, .int x1), (2, .int x2), (3, .int x3), (5, .int z10)]) rfl rfl ⟨rfl, rfl, rfl, rfl, rfl, trivial⟩ ?_
    exact kJ_C_timeFrom_126 (by omega) (by omega) S x0 x1 x2 x3 z10 hx0
  · refine jg_sg 1 (pc1 := 102) (lv1 := [(5, .int z10), (0, .ref x0), (1, .int x1), (2, .int x2), (3, .int x3)]) (st1 := [.ref x0]) (fun _ _ _ => rfl) ?_
    refine jg_g (v := .ref (x0 + 1)) rfl (kc_C hx0) rfl rfl ?_
    refine jg_sg 1 (pc1 := 106) (lv1 := [(5, .int z10), (0, .ref x0), (1, .int x1), (2, .int x2), (3, .int x3)]) (st1 := [.int 1, .ref (x0 + 1)]) (fun _ _ _ => rfl) ?_
    refine jg_lal rfl (kc_CA hx0) (fun g18 => ?_)
    refine jg_sg 3 (pc1 := 110) (lv1 := [(5, .int z10), (0, .ref x0), (1, .int x1), (2, .int x2), (3, .int x3)]) (st1 := [.int (x3 + 1), .long (S.2.1 (x0 + 1) ((1 : Int32).toNatClampNeg))]) (fun _ _ _ => rfl) ?_
    refine jg_cpI (m2 := jp_C_lowestBit) (As := [.long (S.2.1 (x0 + 1) ((1 : Int32).toNatClampNeg)), .int (x3 + 1)]) (r := []) (mx := 5) (jh_s rfl (fun _ _ _ => rfl) rfl rfl rfl (by omega) (by omega) (Nat.le_of_ble_eq_true rfl)) (kF_C_lowestBit (S.2.1 (x0 + 1) ((1 : Int32).toNatClampNeg)) (x3 + 1) S _ _ (by omega) (by omega) ) (fun z19 => ?_)
    refine jg_sg 2 (pc1 := 115) (lv1 := [(3, .int z19), (5, .int z10), (0, .ref x0), (1, .int x1), (2, .int x2)]) (st1 := [.ref x0]) (fun _ _ _ => rfl) ?_
    refine jg_g (v := .ref (x0 + 1)) rfl (kc_C hx0) rfl rfl ?_
    refine jg_sg 1 (pc1 := 119) (lv1 := [(3, .int z19), (5, .int z10), (0, .ref x0), (1, .int x1), (2, .int x2)]) (st1 := [.int 0, .ref (x0 + 1)]) (fun _ _ _ => rfl) ?_
    refine jg_lal rfl (kc_CA hx0) (fun g20 => ?_)
    refine jg_sg 1 (pc1 := 121) (lv1 := [(3, .int z19), (5, .int z10), (0, .ref x0), (1, .int x1), (2, .int x2)]) (st1 := [.int 0, .long (S.2.1 (x0 + 1) ((0 : Int32).toNatClampNeg))]) (fun _ _ _ => rfl) ?_
    refine jg_cpI (m2 := jp_C_lowestBit) (As := [.long (S.2.1 (x0 + 1) ((0 : Int32).toNatClampNeg)), .int 0]) (r := []) (mx := 5) (jh_s rfl (fun _ _ _ => rfl) rfl rfl rfl (by omega) (by omega) (Nat.le_of_ble_eq_true rfl)) (kF_C_lowestBit (S.2.1 (x0 + 1) ((0 : Int32).toNatClampNeg)) 0 S _ _ (by omega) (by omega) ) (fun z21 => ?_)
    refine jg_sg 1 (pc1 := 126) (lv1 := [(5, .int z21), (3, .int z19), (0, .ref x0), (1, .int x1), (2, .int x2)]) (st1 := []) (fun _ _ _ => rfl) ?_
    refine jg_lvs (lv1 := [(0, .ref x0), (1, .int x1), (2, .int x2), (3, .int z19), (5, .int z21)]) rfl rfl ⟨rfl, rfl, rfl, rfl, rfl, trivial⟩ ?_
    exact kJ_C_timeFrom_126 (by omega) (by omega) S x0 x1 x2 z19 z21 hx0
noncomputable def J_C_timeFrom_70 (S : jS) (x0 : Nat) (x1 : Int32) (x2 : Int32) (x3 : Int32) (y0 : Int32) : Option Int32 := j_q (j_in 0 12) (if y0 = 0 then (J_C_timeFrom_91 S x0 x1 x2 x3 0 (S.2.1 (x0 + 1) ((0 : Int32).toNatClampNeg))) else (J_C_timeFrom_91 S x0 x1 x2 x3 (x1 - x1 / 60 * 60) (S.2.1 (x0 + 1) ((0 : Int32).toNatClampNeg))))
set_option maxRecDepth 20000 in
theorem kJ_C_timeFrom_70 {q rF rL : Nat} (hF : 2 ≤ rF) (hL : 45 ≤ rL) (S : jS)  (x0 : Nat) (x1 : Int32) (x2 : Int32) (x3 : Int32) (y0 : Int32) (hx0 : jc_ x0 = true) : jg q jp_C_timeFrom rF rL 70 [(0, .ref x0), (1, .int x1), (2, .int x2), (3, .int x3)] [.int y0] S 0 (p_I S) (J_C_timeFrom_70 S x0 x1 x2 x3 y0) := by
  unfold J_C_timeFrom_70
  refine jg_sg 2 (pc1 := 73) (lv1 := [(4, .int y0), (0, .ref x0), (1, .int x1), (2, .int x2), (3, .int x3)]) (st1 := [.ref x0]) (fun _ _ _ => rfl) ?_
  refine jg_g (v := .ref (x0 + 1)) rfl (kc_C hx0) rfl rfl ?_
  refine jg_sg 1 (pc1 := 77) (lv1 := [(4, .int y0), (0, .ref x0), (1, .int x1), (2, .int x2), (3, .int x3)]) (st1 := [.int 0, .ref (x0 + 1)]) (fun _ _ _ => rfl) ?_
  refine jg_lal rfl (kc_CA hx0) (fun g8 => ?_)
  refine jg_sg 1 (pc1 := 80) (lv1 := [(4, .int y0), (0, .ref x0), (1, .int x1), (2, .int x2), (3, .int x3)]) (st1 := [.int y0, .long (S.2.1 (x0 + 1) ((0 : Int32).toNatClampNeg))]) (fun _ _ _ => rfl) ?_
  refine jg_br (fun _ _ _ _ k1 k2 => jt_if_eq (t := 90) rfl rfl k1 k2) (fun c9 => ?_) (fun c9 => ?_)
  · refine jg_sg 1 (pc1 := 91) (lv1 := [(4, .int y0), (0, .ref x0), (1, .int x1), (2, .int x2), (3, .int x3)]) (st1 := [.int 0, .long (S.2.1 (x0 + 1) ((0 : Int32).toNatClampNeg))]) (fun _ _ _ => rfl) ?_
    refine jg_lvs (lv1 := [(0, .ref x0), (1, .int x1), (2, .int x2), (3, .int x3)]) rfl rfl ⟨rfl, rfl, rfl, rfl, trivial⟩ ?_
    exact kJ_C_timeFrom_91 (by omega) (by omega) S x0 x1 x2 x3 0 (S.2.1 (x0 + 1) ((0 : Int32).toNatClampNeg)) hx0
  · refine jg_sg 2 (pc1 := 86) (lv1 := [(4, .int y0), (0, .ref x0), (1, .int x1), (2, .int x2), (3, .int x3)]) (st1 := [.int 60, .int x1, .long (S.2.1 (x0 + 1) ((0 : Int32).toNatClampNeg))]) (fun _ _ _ => rfl) ?_
    refine jg_st (fun _ _ _ _ _ k => jt_irem rfl (by decide +kernel) k) ?_
    refine jg_sg 1 (pc1 := 91) (lv1 := [(4, .int y0), (0, .ref x0), (1, .int x1), (2, .int x2), (3, .int x3)]) (st1 := [.int (x1 - x1 / 60 * 60), .long (S.2.1 (x0 + 1) ((0 : Int32).toNatClampNeg))]) (fun _ _ _ => rfl) ?_
    refine jg_lvs (lv1 := [(0, .ref x0), (1, .int x1), (2, .int x2), (3, .int x3)]) rfl rfl ⟨rfl, rfl, rfl, rfl, trivial⟩ ?_
    exact kJ_C_timeFrom_91 (by omega) (by omega) S x0 x1 x2 x3 (x1 - x1 / 60 * 60) (S.2.1 (x0 + 1) ((0 : Int32).toNatClampNeg)) hx0
noncomputable def J_C_timeFrom_69 (S : jS) (x0 : Nat) (x1 : Int32) (x2 : Int32) (x3 : Int32) : Option Int32 := J_C_timeFrom_70 S x0 x1 x2 x3 0
set_option maxRecDepth 20000 in
theorem kJ_C_timeFrom_69 {q rF rL : Nat} (hF : 2 ≤ rF) (hL : 45 ≤ rL) (S : jS)  (x0 : Nat) (x1 : Int32) (x2 : Int32) (x3 : Int32) (hx0 : jc_ x0 = true) : jg q jp_C_timeFrom rF rL 69 [(0, .ref x0), (1, .int x1), (2, .int x2), (3, .int x3)] [] S 0 (p_I S) (J_C_timeFrom_69 S x0 x1 x2 x3) := by
  unfold J_C_timeFrom_69
  refine jg_sg 1 (pc1 := 70) (lv1 := [(0, .ref x0), (1, .int x1), (2, .int x2), (3, .int x3)]) (st1 := [.int 0]) (fun _ _ _ => rfl) ?_
  refine jg_lvs (lv1 := [(0, .ref x0), (1, .int x1), (2, .int x2), (3, .int x3)]) rfl rfl ⟨rfl, rfl, rfl, rfl, trivial⟩ ?_
  exact kJ_C_timeFrom_70 (by omega) (by omega) S x0 x1 x2 x3 0 hx0
noncomputable def J_C_timeFrom_41 (S : jS) (x0 : Nat) (x1 : Int32) (x2 : Int32) (y0 : Int32) (y1 : Int64) : Option Int32 := (F_C_lowestBit y1 y0 S).bind (fun z5 => if x2 = (x1 / 3600) then (if z5 = ((x1 / 60) - (x1 / 60) / 60 * 60) then (J_C_timeFrom_70 S x0 x1 x2 z5 1) else (J_C_timeFrom_69 S x0 x1 x2 z5)) else (J_C_timeFrom_69 S x0 x1 x2 z5))
set_option maxRecDepth 20000 in
theorem kJ_C_timeFrom_41 {q rF rL : Nat} (hF : 2 ≤ rF) (hL : 45 ≤ rL) (S : jS)  (x0 : Nat) (x1 : Int32) (x2 : Int32) (y0 : Int32) (y1 : Int64) (hx0 : jc_ x0 = true) : jg q jp_C_timeFrom rF rL 41 [(0, .ref x0), (1, .int x1), (2, .int x2)] [.int y0, .long y1] S 0 (p_I S) (J_C_timeFrom_41 S x0 x1 x2 y0 y1) := by
  unfold J_C_timeFrom_41
  refine jg_cpI (m2 := jp_C_lowestBit) (As := [.long y1, .int y0]) (r := []) (mx := 5) (jh_s rfl (fun _ _ _ => rfl) rfl rfl rfl (by omega) (by omega) (Nat.le_of_ble_eq_true rfl)) (kF_C_lowestBit y1 y0 S _ _ (by omega) (by omega) ) (fun z5 => ?_)
  refine jg_sg 4 (pc1 := 50) (lv1 := [(3, .int z5), (0, .ref x0), (1, .int x1), (2, .int x2)]) (st1 := [.int 3600, .int x1, .int x2]) (fun _ _ _ => rfl) ?_
  refine jg_st (fun _ _ _ _ _ k => jt_idiv rfl (by decide +kernel) k) ?_
  refine jg_br (fun _ _ _ _ k1 k2 => jt_icmp_ne (t := 69) rfl rfl k2 k1) (fun c6 => ?_) (fun c6 => ?_)
  · refine jg_sg 3 (pc1 := 58) (lv1 := [(3, .int z5), (0, .ref x0), (1, .int x1), (2, .int x2)]) (st1 := [.int 60, .int x1, .int z5]) (fun _ _ _ => rfl) ?_
    refine jg_st (fun _ _ _ _ _ k => jt_idiv rfl (by decide +kernel) k) ?_
    refine jg_sg 1 (pc1 := 61) (lv1 := [(3, .int z5), (0, .ref x0), (1, .int x1), (2, .int x2)]) (st1 := [.int 60, .int (x1 / 60), .int z5]) (fun _ _ _ => rfl) ?_
    refine jg_st (fun _ _ _ _ _ k => jt_irem rfl (by decide +kernel) k) ?_
    refine jg_br (fun _ _ _ _ k1 k2 => jt_icmp_ne (t := 69) rfl rfl k2 k1) (fun c7 => ?_) (fun c7 => ?_)
    · refine jg_sg 2 (pc1 := 70) (lv1 := [(3, .int z5), (0, .ref x0), (1, .int x1), (2, .int x2)]) (st1 := [.int 1]) (fun _ _ _ => rfl) ?_
      refine jg_lvs (lv1 := [(0, .ref x0), (1, .int x1), (2, .int x2), (3, .int z5)]) rfl rfl ⟨rfl, rfl, rfl, rfl, trivial⟩ ?_
      exact kJ_C_timeFrom_70 (by omega) (by omega) S x0 x1 x2 z5 1 hx0
    · refine jg_lvs (lv1 := [(0, .ref x0), (1, .int x1), (2, .int x2), (3, .int z5)]) rfl rfl ⟨rfl, rfl, rfl, rfl, trivial⟩ ?_
      exact kJ_C_timeFrom_69 (by omega) (by omega) S x0 x1 x2 z5 hx0
  · refine jg_lvs (lv1 := [(0, .ref x0), (1, .int x1), (2, .int x2), (3, .int z5)]) rfl rfl ⟨rfl, rfl, rfl, rfl, trivial⟩ ?_
    exact kJ_C_timeFrom_69 (by omega) (by omega) S x0 x1 x2 z5 hx0
noncomputable def F_C_timeFrom (a0 : Nat) (p0 : Int32) (S : jS) : Option Int32 := j_q (j_in 2 12) ((F_C_lowestBit (S.2.1 (a0 + 1) ((2 : Int32).toNatClampNeg)) (p0 / 3600) S).bind (fun z2 => j_q (j_in 1 12) (if z2 = (p0 / 3600) then (J_C_timeFrom_41 S a0 p0 z2 ((p0 / 60) - (p0 / 60) / 60 * 60) (S.2.1 (a0 + 1) ((1 : Int32).toNatClampNeg))) else (J_C_timeFrom_41 S a0 p0 z2 0 (S.2.1 (a0 + 1) ((1 : Int32).toNatClampNeg))))))
set_option maxRecDepth 20000 in
theorem kF_C_timeFrom {q : Nat} (a0 : Nat) (p0 : Int32) (S : jS) (rF rL : Nat) (hF : 2 ≤ rF) (hL : 45 ≤ rL) (ha0 : jc_ a0 = true) : jg q jp_C_timeFrom rF rL 0 [(0, .ref a0), (1, .int p0)] [] S 0 (p_I S) (F_C_timeFrom a0 p0 S) := by
  unfold F_C_timeFrom
  refine jg_sg 1 (pc1 := 1) (lv1 := [(0, .ref a0), (1, .int p0)]) (st1 := [.ref a0]) (fun _ _ _ => rfl) ?_
  refine jg_g (v := .ref (a0 + 1)) rfl (kc_C ha0) rfl rfl ?_
  refine jg_sg 1 (pc1 := 5) (lv1 := [(0, .ref a0), (1, .int p0)]) (st1 := [.int 2, .ref (a0 + 1)]) (fun _ _ _ => rfl) ?_
  refine jg_lal rfl (kc_CA ha0) (fun g1 => ?_)
  refine jg_sg 2 (pc1 := 10) (lv1 := [(0, .ref a0), (1, .int p0)]) (st1 := [.int 3600, .int p0, .long (S.2.1 (a0 + 1) ((2 : Int32).toNatClampNeg))]) (fun _ _ _ => rfl) ?_
  refine jg_st (fun _ _ _ _ _ k => jt_idiv rfl (by decide +kernel) k) ?_
  refine jg_cpI (m2 := jp_C_lowestBit) (As := [.long (S.2.1 (a0 + 1) ((2 : Int32).toNatClampNeg)), .int (p0 / 3600)]) (r := []) (mx := 5) (jh_s rfl (fun _ _ _ => rfl) rfl rfl rfl (by omega) (by omega) (Nat.le_of_ble_eq_true rfl)) (kF_C_lowestBit (S.2.1 (a0 + 1) ((2 : Int32).toNatClampNeg)) (p0 / 3600) S _ _ (by omega) (by omega) ) (fun z2 => ?_)
  refine jg_sg 2 (pc1 := 16) (lv1 := [(2, .int z2), (0, .ref a0), (1, .int p0)]) (st1 := [.ref a0]) (fun _ _ _ => rfl) ?_
  refine jg_g (v := .ref (a0 + 1)) rfl (kc_C ha0) rfl rfl ?_
  refine jg_sg 1 (pc1 := 20) (lv1 := [(2, .int z2), (0, .ref a0), (1, .int p0)]) (st1 := [.int 1, .ref (a0 + 1)]) (fun _ _ _ => rfl) ?_
  refine jg_lal rfl (kc_CA ha0) (fun g3 => ?_)
  refine jg_sg 3 (pc1 := 26) (lv1 := [(2, .int z2), (0, .ref a0), (1, .int p0)]) (st1 := [.int 3600, .int p0, .int z2, .long (S.2.1 (a0 + 1) ((1 : Int32).toNatClampNeg))]) (fun _ _ _ => rfl) ?_
  refine jg_st (fun _ _ _ _ _ k => jt_idiv rfl (by decide +kernel) k) ?_
  refine jg_br (fun _ _ _ _ k1 k2 => jt_icmp_ne (t := 40) rfl rfl k2 k1) (fun c4 => ?_) (fun c4 => ?_)
  · refine jg_sg 2 (pc1 := 33) (lv1 := [(2, .int z2), (0, .ref a0), (1, .int p0)]) (st1 := [.int 60, .int p0, .long (S.2.1 (a0 + 1) ((1 : Int32).toNatClampNeg))]) (fun _ _ _ => rfl) ?_
    refine jg_st (fun _ _ _ _ _ k => jt_idiv rfl (by decide +kernel) k) ?_
    refine jg_sg 1 (pc1 := 36) (lv1 := [(2, .int z2), (0, .ref a0), (1, .int p0)]) (st1 := [.int 60, .int (p0 / 60), .long (S.2.1 (a0 + 1) ((1 : Int32).toNatClampNeg))]) (fun _ _ _ => rfl) ?_
    refine jg_st (fun _ _ _ _ _ k => jt_irem rfl (by decide +kernel) k) ?_
    refine jg_sg 1 (pc1 := 41) (lv1 := [(2, .int z2), (0, .ref a0), (1, .int p0)]) (st1 := [.int ((p0 / 60) - (p0 / 60) / 60 * 60), .long (S.2.1 (a0 + 1) ((1 : Int32).toNatClampNeg))]) (fun _ _ _ => rfl) ?_
    refine jg_lvs (lv1 := [(0, .ref a0), (1, .int p0), (2, .int z2)]) rfl rfl ⟨rfl, rfl, rfl, trivial⟩ ?_
    exact kJ_C_timeFrom_41 (by omega) (by omega) S a0 p0 z2 ((p0 / 60) - (p0 / 60) / 60 * 60) (S.2.1 (a0 + 1) ((1 : Int32).toNatClampNeg)) ha0
  · refine jg_sg 1 (pc1 := 41) (lv1 := [(2, .int z2), (0, .ref a0), (1, .int p0)]) (st1 := [.int 0, .long (S.2.1 (a0 + 1) ((1 : Int32).toNatClampNeg))]) (fun _ _ _ => rfl) ?_
    refine jg_lvs (lv1 := [(0, .ref a0), (1, .int p0), (2, .int z2)]) rfl rfl ⟨rfl, rfl, rfl, trivial⟩ ?_
    exact kJ_C_timeFrom_41 (by omega) (by omega) S a0 p0 z2 0 (S.2.1 (a0 + 1) ((1 : Int32).toNatClampNeg)) ha0
noncomputable def J_F_localFrom_57 (S : jS) (x4 : Int32) (x5 : Int32) : Option Int64 := if 0 ≤ x4 then (if 0 ≤ x5 then (some ((((x4 : Int32).toInt64) * 86400) + ((x5 : Int32).toInt64))) else (j_q (jc_ (S.2.2 32 0)) ((F_C_timeFrom (S.2.2 32 0) 0 S).bind (fun z10 => some ((((x4 : Int32).toInt64) * 86400) + ((z10 : Int32).toInt64)))))) else (some (-1))
set_option maxRecDepth 20000 in
theorem kJ_F_localFrom_57 {q rF rL : Nat} (hF : 4 ≤ rF) (hL : 103 ≤ rL) (S : jS)  (x4 : Int32) (x5 : Int32) : jg q jp_F_localFrom rF rL 57 [(0, .ref 32), (4, .int x4), (5, .int x5)] [] S 0 (p_L S) (J_F_localFrom_57 S x4 x5) := by
  unfold J_F_localFrom_57
  refine jg_sg 1 (pc1 := 59) (lv1 := [(0, .ref 32), (4, .int x4), (5, .int x5)]) (st1 := [.int x4]) (fun _ _ _ => rfl) ?_
  refine jg_br (fun _ _ _ _ k1 k2 => jt_if_ge (t := 66) rfl rfl k1 k2) (fun c7 => ?_) (fun c7 => ?_)
  · refine jg_sg 5 (pc1 := 75) (lv1 := [(0, .ref 32), (4, .int x4), (5, .int x5)]) (st1 := [.int x5, .long (((x4 : Int32).toInt64) * 86400)]) (fun _ _ _ => rfl) ?_
    refine jg_br (fun _ _ _ _ k1 k2 => jt_if_ge (t := 89) rfl rfl k1 k2) (fun c8 => ?_) (fun c8 => ?_)
    · refine jg_sg 3 (pc1 := 93) (lv1 := [(0, .ref 32), (4, .int x4), (5, .int x5)]) (st1 := [.long ((((x4 : Int32).toInt64) * 86400) + ((x5 : Int32).toInt64))]) (fun _ _ _ => rfl) ?_
      exact jg_rl rfl rfl rfl
    · refine jg_sg 1 (pc1 := 79) (lv1 := [(0, .ref 32), (4, .int x4), (5, .int x5)]) (st1 := [.ref 32, .long (((x4 : Int32).toInt64) * 86400)]) (fun _ _ _ => rfl) ?_
      refine jg_g (v := .ref (S.2.2 32 0)) rfl kc_32 rfl rfl ?_
      refine jg_q (fun g9 => ?_)
      refine jg_sg 1 (pc1 := 83) (lv1 := [(0, .ref 32), (4, .int x4), (5, .int x5)]) (st1 := [.int 0, .ref (S.2.2 32 0), .long (((x4 : Int32).toInt64) * 86400)]) (fun _ _ _ => rfl) ?_
      refine jg_cpI (m2 := jp_C_timeFrom) (As := [.ref (S.2.2 32 0), .int 0]) (r := [.long (((x4 : Int32).toInt64) * 86400)]) (mx := 6) (jh_v (a := (S.2.2 32 0)) rfl rfl rfl (kc_C g9) rfl (Nat.le_of_ble_eq_true rfl) rfl rfl rfl (by omega) (by omega) (Nat.le_of_ble_eq_true rfl)) (kF_C_timeFrom (S.2.2 32 0) 0 S _ _ (by omega) (by omega) g9) (fun z10 => ?_)
      refine jg_sg 3 (pc1 := 93) (lv1 := [(0, .ref 32), (4, .int x4), (5, .int x5)]) (st1 := [.long ((((x4 : Int32).toInt64) * 86400) + ((z10 : Int32).toInt64))]) (fun _ _ _ => rfl) ?_
      exact jg_rl rfl rfl rfl
  · refine jg_sg 1 (pc1 := 65) (lv1 := [(0, .ref 32), (4, .int x4), (5, .int x5)]) (st1 := [.long (-1)]) (fun _ _ _ => rfl) ?_
    exact jg_rl rfl rfl rfl
noncomputable def J_F_localFrom_55 (S : jS) (x5 : Int32) (y0 : Int32) : Option Int64 := J_F_localFrom_57 S y0 x5
set_option maxRecDepth 20000 in
theorem kJ_F_localFrom_55 {q rF rL : Nat} (hF : 4 ≤ rF) (hL : 103 ≤ rL) (S : jS)  (x5 : Int32) (y0 : Int32) : jg q jp_F_localFrom rF rL 55 [(0, .ref 32), (5, .int x5)] [.int y0] S 0 (p_L S) (J_F_localFrom_55 S x5 y0) := by
  unfold J_F_localFrom_55
  refine jg_sg 1 (pc1 := 57) (lv1 := [(4, .int y0), (0, .ref 32), (5, .int x5)]) (st1 := []) (fun _ _ _ => rfl) ?_
  refine jg_lvs (lv1 := [(0, .ref 32), (4, .int y0), (5, .int x5)]) rfl rfl ⟨rfl, rfl, rfl, trivial⟩ ?_
  exact kJ_F_localFrom_57 (by omega) (by omega) S y0 x5
noncomputable def F_F_localFrom (p0 : Int64) (S : jS) : Option Int64 := (F_D_dayOf p0 S).bind (fun z1 => (F_F_dayFrom z1 S).bind (fun z2 => if z2 = z1 then (j_q (jc_ (S.2.2 32 0)) ((F_C_timeFrom (S.2.2 32 0) ((p0 - (((z1 : Int32).toInt64) * 86400) : Int64).toInt32) S).bind (fun z5 => if 0 ≤ z5 then (J_F_localFrom_55 S z5 z1) else ((F_F_dayFrom (z1 + 1) S).bind (fun z11 => J_F_localFrom_55 S z5 z11))))) else (J_F_localFrom_57 S z2 (-1))))
set_option maxRecDepth 20000 in
theorem kF_F_localFrom {q : Nat} (p0 : Int64) (S : jS) (rF rL : Nat) (hF : 4 ≤ rF) (hL : 103 ≤ rL)  : jg q jp_F_localFrom rF rL 0 [(0, .ref 32), (1, .long p0)] [] S 0 (p_L S) (F_F_localFrom p0 S) := by
  unfold F_F_localFrom
  refine jg_sg 1 (pc1 := 1) (lv1 := [(0, .ref 32), (1, .long p0)]) (st1 := [.long p0]) (fun _ _ _ => rfl) ?_
  refine jg_cpI (m2 := jp_D_dayOf) (As := [.long p0]) (r := []) (mx := 2) (jh_s rfl (fun _ _ _ => rfl) rfl rfl rfl (by omega) (by omega) (Nat.le_of_ble_eq_true rfl)) (kF_D_dayOf p0 S _ _ (by omega) (by omega) ) (fun z1 => ?_)
  refine jg_sg 3 (pc1 := 7) (lv1 := [(3, .int z1), (0, .ref 32), (1, .long p0)]) (st1 := [.int z1, .ref 32]) (fun _ _ _ => rfl) ?_
  refine jg_cpI (m2 := jp_F_dayFrom) (As := [.ref 32, .int z1]) (r := []) (mx := 9) (jh_v (a := 32) rfl rfl rfl kc_32 rfl (Nat.le_of_ble_eq_true rfl) rfl rfl rfl (by omega) (by omega) (Nat.le_of_ble_eq_true rfl)) (kF_F_dayFrom z1 S _ _ (by omega) (by omega) ) (fun z2 => ?_)
  refine jg_sg 5 (pc1 := 18) (lv1 := [(5, .int (-1)), (4, .int z2), (3, .int z1), (0, .ref 32), (1, .long p0)]) (st1 := [.int z1, .int z2]) (fun _ _ _ => rfl) ?_
  refine jg_br (fun _ _ _ _ k1 k2 => jt_icmp_ne (t := 57) rfl rfl k2 k1) (fun c3 => ?_) (fun c3 => ?_)
  · refine jg_sg 1 (pc1 := 22) (lv1 := [(5, .int (-1)), (4, .int z2), (3, .int z1), (0, .ref 32), (1, .long p0)]) (st1 := [.ref 32]) (fun _ _ _ => rfl) ?_
    refine jg_g (v := .ref (S.2.2 32 0)) rfl kc_32 rfl rfl ?_
    refine jg_q (fun g4 => ?_)
    refine jg_sg 7 (pc1 := 34) (lv1 := [(5, .int (-1)), (4, .int z2), (3, .int z1), (0, .ref 32), (1, .long p0)]) (st1 := [.int ((p0 - (((z1 : Int32).toInt64) * 86400) : Int64).toInt32), .ref (S.2.2 32 0)]) (fun _ _ _ => rfl) ?_
    refine jg_cpI (m2 := jp_C_timeFrom) (As := [.ref (S.2.2 32 0), .int ((p0 - (((z1 : Int32).toInt64) * 86400) : Int64).toInt32)]) (r := []) (mx := 6) (jh_v (a := (S.2.2 32 0)) rfl rfl rfl (kc_C g4) rfl (Nat.le_of_ble_eq_true rfl) rfl rfl rfl (by omega) (by omega) (Nat.le_of_ble_eq_true rfl)) (kF_C_timeFrom (S.2.2 32 0) ((p0 - (((z1 : Int32).toInt64) * 86400) : Int64).toInt32) S _ _ (by omega) (by omega) g4) (fun z5 => ?_)
    refine jg_sg 2 (pc1 := 41) (lv1 := [(5, .int z5), (4, .int z2), (3, .int z1), (0, .ref 32), (1, .long p0)]) (st1 := [.int z5]) (fun _ _ _ => rfl) ?_
    refine jg_br (fun _ _ _ _ k1 k2 => jt_if_ge (t := 54) rfl rfl k1 k2) (fun c6 => ?_) (fun c6 => ?_)
    · refine jg_sg 1 (pc1 := 55) (lv1 := [(5, .int z5), (4, .int z2), (3, .int z1), (0, .ref 32), (1, .long p0)]) (st1 := [.int z1]) (fun _ _ _ => rfl) ?_
      refine jg_lvs (lv1 := [(0, .ref 32), (5, .int z5)]) rfl rfl ⟨rfl, rfl, trivial⟩ ?_
      exact kJ_F_localFrom_55 (by omega) (by omega) S z5 z1
    · refine jg_sg 4 (pc1 := 48) (lv1 := [(5, .int z5), (4, .int z2), (3, .int z1), (0, .ref 32), (1, .long p0)]) (st1 := [.int (z1 + 1), .ref 32]) (fun _ _ _ => rfl) ?_
      refine jg_cpI (m2 := jp_F_dayFrom) (As := [.ref 32, .int (z1 + 1)]) (r := []) (mx := 9) (jh_v (a := 32) rfl rfl rfl kc_32 rfl (Nat.le_of_ble_eq_true rfl) rfl rfl rfl (by omega) (by omega) (Nat.le_of_ble_eq_true rfl)) (kF_F_dayFrom (z1 + 1) S _ _ (by omega) (by omega) ) (fun z11 => ?_)
      refine jg_sg 1 (pc1 := 55) (lv1 := [(5, .int z5), (4, .int z2), (3, .int z1), (0, .ref 32), (1, .long p0)]) (st1 := [.int z11]) (fun _ _ _ => rfl) ?_
      refine jg_lvs (lv1 := [(0, .ref 32), (5, .int z5)]) rfl rfl ⟨rfl, rfl, trivial⟩ ?_
      exact kJ_F_localFrom_55 (by omega) (by omega) S z5 z11
  · refine jg_lvs (lv1 := [(0, .ref 32), (4, .int z2), (5, .int (-1))]) rfl rfl ⟨rfl, rfl, rfl, trivial⟩ ?_
    exact kJ_F_localFrom_57 (by omega) (by omega) S z2 (-1)
noncomputable def J_F_firstAfter_175 (kt11 : Int64 → Int32 → jS → Option (Int64 × jS)) (x3 : Int64) (x5 : Int32) (x8 : Int64) (S : jS) : Option (Int64 × jS) := if ((0 : Int64)) ≤ x8 then (j_q (jz_ (S.2.2 32 1)) (j_q (jz_ (S.2.2 32 1)) ((F_Math_max2 x3 ((x8 - ((S.1 (S.2.2 32 1) 0 : Int32).toInt64)) - ((S.1 (S.2.2 32 1) 1 : Int32).toInt64)) S).bind (fun z18 => kt11 z18 (x5 + 1) S)))) else (some (-1, S))
set_option maxRecDepth 20000 in
theorem kJ_F_firstAfter_175 {q rF rL : Nat} (hF : 5 ≤ rF) (hL : 128 ≤ rL)  (kt11 : Int64 → Int32 → jS → Option (Int64 × jS)) (ih11 : ∀ (x3 : Int64) (x5 : Int32) (S : jS), jg q jp_F_firstAfter rF rL 11 [(0, .ref 32), (3, .long x3), (5, .int x5)] [] S 0 s_L (kt11 x3 x5 S)) (x3 : Int64) (x5 : Int32) (x8 : Int64) (S : jS) : jg q jp_F_firstAfter rF rL 175 [(0, .ref 32), (3, .long x3), (5, .int x5), (8, .long x8)] [] S 0 s_L (J_F_firstAfter_175 kt11 x3 x5 x8 S) := by
  unfold J_F_firstAfter_175
  refine jg_sg 3 (pc1 := 179) (lv1 := [(0, .ref 32), (3, .long x3), (5, .int x5), (8, .long x8)]) (st1 := [.int (lg_cmp x8 0)]) (fun _ _ _ => rfl) ?_
  refine jg_br (fun _ _ _ _ k1 k2 => jt_lif_ge (t := 186) rfl rfl k1 k2) (fun c15 => ?_) (fun c15 => ?_)
  · refine jg_sg 3 (pc1 := 190) (lv1 := [(0, .ref 32), (3, .long x3), (5, .int x5), (8, .long x8)]) (st1 := [.ref 32, .long x8, .long x3]) (fun _ _ _ => rfl) ?_
    refine jg_g (v := .ref (S.2.2 32 1)) rfl kc_32 rfl rfl ?_
    refine jg_q (fun g16 => ?_)
    refine jg_g (v := .int (S.1 (S.2.2 32 1) 0)) rfl (kc_Z g16) rfl rfl ?_
    refine jg_sg 3 (pc1 := 199) (lv1 := [(0, .ref 32), (3, .long x3), (5, .int x5), (8, .long x8)]) (st1 := [.ref 32, .long (x8 - ((S.1 (S.2.2 32 1) 0 : Int32).toInt64)), .long x3]) (fun _ _ _ => rfl) ?_
    refine jg_g (v := .ref (S.2.2 32 1)) rfl kc_32 rfl rfl ?_
    refine jg_q (fun g17 => ?_)
    refine jg_g (v := .int (S.1 (S.2.2 32 1) 1)) rfl (kc_Z g17) rfl rfl ?_
    refine jg_sg 2 (pc1 := 207) (lv1 := [(0, .ref 32), (3, .long x3), (5, .int x5), (8, .long x8)]) (st1 := [.long ((x8 - ((S.1 (S.2.2 32 1) 0 : Int32).toInt64)) - ((S.1 (S.2.2 32 1) 1 : Int32).toInt64)), .long x3]) (fun _ _ _ => rfl) ?_
    refine jg_cpL (m2 := jp_Math_max2) (As := [.long x3, .long ((x8 - ((S.1 (S.2.2 32 1) 0 : Int32).toInt64)) - ((S.1 (S.2.2 32 1) 1 : Int32).toInt64))]) (r := []) (mx := 4) (jh_s rfl (fun _ _ _ => rfl) rfl rfl rfl (by omega) (by omega) (Nat.le_of_ble_eq_true rfl)) (kF_Math_max2 x3 ((x8 - ((S.1 (S.2.2 32 1) 0 : Int32).toInt64)) - ((S.1 (S.2.2 32 1) 1 : Int32).toInt64)) S _ _ (by omega) (by omega) ) (fun z18 => ?_)
    refine jg_sg 3 (pc1 := 11) (lv1 := [(5, .int (x5 + 1)), (3, .long z18), (0, .ref 32), (8, .long x8)]) (st1 := []) (fun _ _ _ => rfl) ?_
    refine jg_lvs (lv1 := [(0, .ref 32), (3, .long z18), (5, .int (x5 + 1))]) rfl rfl ⟨rfl, rfl, rfl, trivial⟩ ?_
    exact ih11 z18 (x5 + 1) S
  · refine jg_sg 1 (pc1 := 185) (lv1 := [(0, .ref 32), (3, .long x3), (5, .int x5), (8, .long x8)]) (st1 := [.long (-1)]) (fun _ _ _ => rfl) ?_
    exact jg_rl rfl rfl rfl
noncomputable def J_F_firstAfter_117 (kt11 : Int64 → Int32 → jS → Option (Int64 × jS)) (x5 : Int32) (x6 : Int64) (x8 : Int64) (S : jS) : Option (Int64 × jS) := j_q (jz_ (S.2.2 32 1)) (if (S.2.1 (S.2.2 32 1) 5) ≤ 10413791999 then (j_q (jz_ (S.2.2 32 1)) (j_l (S.2.1 (S.2.2 32 1) 5 : Int64) (fun v12 => j_q (jz_ (S.2.2 32 1)) (if x6 ≤ (v12 + ((S.1 (S.2.2 32 1) 0 : Int32).toInt64)) then (J_F_firstAfter_175 kt11 v12 x5 x8 S) else (j_q (jz_ (S.2.2 32 1)) ((F_F_localFrom (v12 + ((S.1 (S.2.2 32 1) 0 : Int32).toInt64)) S).bind (fun z20 => J_F_firstAfter_175 kt11 v12 x5 z20 S))))))) else (some (-1, S)))
set_option maxRecDepth 20000 in
theorem kJ_F_firstAfter_117 {q rF rL : Nat} (hF : 5 ≤ rF) (hL : 128 ≤ rL)  (kt11 : Int64 → Int32 → jS → Option (Int64 × jS)) (ih11 : ∀ (x3 : Int64) (x5 : Int32) (S : jS), jg q jp_F_firstAfter rF rL 11 [(0, .ref 32), (3, .long x3), (5, .int x5)] [] S 0 s_L (kt11 x3 x5 S)) (x5 : Int32) (x6 : Int64) (x8 : Int64) (S : jS) : jg q jp_F_firstAfter rF rL 117 [(0, .ref 32), (5, .int x5), (6, .long x6), (8, .long x8)] [] S 0 s_L (J_F_firstAfter_117 kt11 x5 x6 x8 S) := by
  unfold J_F_firstAfter_117
  refine jg_sg 1 (pc1 := 118) (lv1 := [(0, .ref 32), (5, .int x5), (6, .long x6), (8, .long x8)]) (st1 := [.ref 32]) (fun _ _ _ => rfl) ?_
  refine jg_g (v := .ref (S.2.2 32 1)) rfl kc_32 rfl rfl ?_
  refine jg_q (fun g9 => ?_)
  refine jg_g (v := .long (S.2.1 (S.2.2 32 1) 5)) rfl (kc_Z g9) rfl rfl ?_
  refine jg_sg 2 (pc1 := 128) (lv1 := [(0, .ref 32), (5, .int x5), (6, .long x6), (8, .long x8)]) (st1 := [.int (lg_cmp (S.2.1 (S.2.2 32 1) 5) 10413791999)]) (fun _ _ _ => rfl) ?_
  refine jg_br (fun _ _ _ _ k1 k2 => jt_lif_le (t := 135) rfl rfl k1 k2) (fun c10 => ?_) (fun c10 => ?_)
  · refine jg_sg 1 (pc1 := 136) (lv1 := [(0, .ref 32), (5, .int x5), (6, .long x6), (8, .long x8)]) (st1 := [.ref 32]) (fun _ _ _ => rfl) ?_
    refine jg_g (v := .ref (S.2.2 32 1)) rfl kc_32 rfl rfl ?_
    refine jg_q (fun g11 => ?_)
    refine jg_g (v := .long (S.2.1 (S.2.2 32 1) 5)) rfl (kc_Z g11) rfl rfl ?_
    refine jg_sg 1 (pc1 := 143) (lv1 := [(3, .long (S.2.1 (S.2.2 32 1) 5)), (0, .ref 32), (5, .int x5), (6, .long x6), (8, .long x8)]) (st1 := []) (fun _ _ _ => rfl) ?_
    refine jg_vl (fun v12 => ?_)
    refine jg_sg 2 (pc1 := 145) (lv1 := [(3, .long v12), (0, .ref 32), (5, .int x5), (6, .long x6), (8, .long x8)]) (st1 := [.ref 32, .long v12]) (fun _ _ _ => rfl) ?_
    refine jg_g (v := .ref (S.2.2 32 1)) rfl kc_32 rfl rfl ?_
    refine jg_q (fun g13 => ?_)
    refine jg_g (v := .int (S.1 (S.2.2 32 1) 0)) rfl (kc_Z g13) rfl rfl ?_
    refine jg_sg 4 (pc1 := 156) (lv1 := [(3, .long v12), (0, .ref 32), (5, .int x5), (6, .long x6), (8, .long x8)]) (st1 := [.int (lg_cmp (v12 + ((S.1 (S.2.2 32 1) 0 : Int32).toInt64)) x6)]) (fun _ _ _ => rfl) ?_
    refine jg_br (fun _ _ _ _ k1 k2 => jt_lif_ge (t := 175) rfl rfl k1 k2) (fun c14 => ?_) (fun c14 => ?_)
    · refine jg_lvs (lv1 := [(0, .ref 32), (3, .long v12), (5, .int x5), (8, .long x8)]) rfl rfl ⟨rfl, rfl, rfl, rfl, trivial⟩ ?_
      exact kJ_F_firstAfter_175 (by omega) (by omega) kt11 ih11 v12 x5 x8 S
    · refine jg_sg 3 (pc1 := 162) (lv1 := [(3, .long v12), (0, .ref 32), (5, .int x5), (6, .long x6), (8, .long x8)]) (st1 := [.ref 32, .long v12, .ref 32]) (fun _ _ _ => rfl) ?_
      refine jg_g (v := .ref (S.2.2 32 1)) rfl kc_32 rfl rfl ?_
      refine jg_q (fun g19 => ?_)
      refine jg_g (v := .int (S.1 (S.2.2 32 1) 0)) rfl (kc_Z g19) rfl rfl ?_
      refine jg_sg 2 (pc1 := 170) (lv1 := [(3, .long v12), (0, .ref 32), (5, .int x5), (6, .long x6), (8, .long x8)]) (st1 := [.long (v12 + ((S.1 (S.2.2 32 1) 0 : Int32).toInt64)), .ref 32]) (fun _ _ _ => rfl) ?_
      refine jg_cpL (m2 := jp_F_localFrom) (As := [.ref 32, .long (v12 + ((S.1 (S.2.2 32 1) 0 : Int32).toInt64))]) (r := []) (mx := 6) (jh_v (a := 32) rfl rfl rfl kc_32 rfl (Nat.le_of_ble_eq_true rfl) rfl rfl rfl (by omega) (by omega) (Nat.le_of_ble_eq_true rfl)) (kF_F_localFrom (v12 + ((S.1 (S.2.2 32 1) 0 : Int32).toInt64)) S _ _ (by omega) (by omega) ) (fun z20 => ?_)
      refine jg_sg 1 (pc1 := 175) (lv1 := [(8, .long z20), (3, .long v12), (0, .ref 32), (5, .int x5), (6, .long x6)]) (st1 := []) (fun _ _ _ => rfl) ?_
      refine jg_lvs (lv1 := [(0, .ref 32), (3, .long v12), (5, .int x5), (8, .long z20)]) rfl rfl ⟨rfl, rfl, rfl, rfl, trivial⟩ ?_
      exact kJ_F_firstAfter_175 (by omega) (by omega) kt11 ih11 v12 x5 z20 S
  · refine jg_sg 1 (pc1 := 134) (lv1 := [(0, .ref 32), (5, .int x5), (6, .long x6), (8, .long x8)]) (st1 := [.long (-1)]) (fun _ _ _ => rfl) ?_
    exact jg_rl rfl rfl rfl
noncomputable def L_F_firstAfter_11  : Nat → Int64 → Int32 → jS → Option (Int64 × jS)
  | 0, _, _, _ => none
  | f + 1, x3, x5, S => if 10000 ≤ x5 then (some (-1, S)) else (if ((10413791999 : Int64)) < x3 then (some (-1, S)) else (j_q (jz_ (S.2.2 32 1)) ((F_Z_offsetAt (S.2.2 32 1) x3 S).bind (fun z5 => j_l (x3 + ((z5.1 : Int32).toInt64) : Int64) (fun v6 => (F_F_localFrom v6 z5.2).bind (fun z7 => if z7 < 0 then (J_F_firstAfter_117 (L_F_firstAfter_11 f) x5 v6 z7 z5.2) else (j_q (jz_ (z5.2.2.2 32 1)) (j_q (jz_ (z5.2.2.2 32 1)) (if (z5.2.2.1 (z5.2.2.2 32 1) 5) ≤ (z7 - ((z5.2.1 (z5.2.2.2 32 1) 6 : Int32).toInt64)) then (J_F_firstAfter_117 (L_F_firstAfter_11 f) x5 v6 z7 z5.2) else (j_q (jz_ (z5.2.2.2 32 1)) (if (z7 - ((z5.2.1 (z5.2.2.2 32 1) 6 : Int32).toInt64)) ≤ 10413791999 then (j_q (jz_ (z5.2.2.2 32 1)) (some ((z7 - ((z5.2.1 (z5.2.2.2 32 1) 6 : Int32).toInt64)) * 1000, z5.2))) else (some (-1, z5.2)))))))))))))
set_option maxRecDepth 20000 in
theorem kL_F_firstAfter_11 {q rF rL : Nat} (hF : 5 ≤ rF) (hL : 128 ≤ rL)   : ∀ (f : Nat) (x3 : Int64) (x5 : Int32) (S : jS), jg q jp_F_firstAfter rF rL 11 [(0, .ref 32), (3, .long x3), (5, .int x5)] [] S 0 s_L (L_F_firstAfter_11 f x3 x5 S) := by
  intro f
  induction f with
  | zero => intro _ _ _; exact jg_none
  | succ f ih11 =>
    intro x3 x5 S
    rw [L_F_firstAfter_11]
    refine jg_sg 2 (pc1 := 16) (lv1 := [(0, .ref 32), (3, .long x3), (5, .int x5)]) (st1 := [.int 10000, .int x5]) (fun _ _ _ => rfl) ?_
    refine jg_br (fun _ _ _ _ k1 k2 => jt_icmp_ge (t := 217) rfl rfl k1 k2) (fun c2 => ?_) (fun c2 => ?_)
    · refine jg_sg 1 (pc1 := 220) (lv1 := [(0, .ref 32), (3, .long x3), (5, .int x5)]) (st1 := [.long (-1)]) (fun _ _ _ => rfl) ?_
      exact jg_rl rfl rfl rfl
    · refine jg_sg 3 (pc1 := 24) (lv1 := [(0, .ref 32), (3, .long x3), (5, .int x5)]) (st1 := [.int (lg_cmp x3 10413791999)]) (fun _ _ _ => rfl) ?_
      refine jg_br (fun _ _ _ _ k1 k2 => jt_lif_gt (t := 217) rfl rfl k1 k2) (fun c3 => ?_) (fun c3 => ?_)
      · refine jg_sg 1 (pc1 := 220) (lv1 := [(0, .ref 32), (3, .long x3), (5, .int x5)]) (st1 := [.long (-1)]) (fun _ _ _ => rfl) ?_
        exact jg_rl rfl rfl rfl
      · refine jg_sg 2 (pc1 := 29) (lv1 := [(0, .ref 32), (3, .long x3), (5, .int x5)]) (st1 := [.ref 32, .long x3]) (fun _ _ _ => rfl) ?_
        refine jg_g (v := .ref (S.2.2 32 1)) rfl kc_32 rfl rfl ?_
        refine jg_q (fun g4 => ?_)
        refine jg_sg 1 (pc1 := 33) (lv1 := [(0, .ref 32), (3, .long x3), (5, .int x5)]) (st1 := [.long x3, .ref (S.2.2 32 1), .long x3]) (fun _ _ _ => rfl) ?_
        refine jg_csI (m2 := jp_Z_offsetAt) (As := [.ref (S.2.2 32 1), .long x3]) (r := [.long x3]) (mx := 3) (jh_v (a := (S.2.2 32 1)) rfl rfl rfl (kc_Z g4) rfl (Nat.le_of_ble_eq_true rfl) rfl rfl rfl (by omega) (by omega) (Nat.le_of_ble_eq_true rfl)) (kF_Z_offsetAt (S.2.2 32 1) x3 S _ _ (by omega) (by omega) g4) (fun z5 => ?_)
        refine jg_sg 3 (pc1 := 40) (lv1 := [(6, .long (x3 + ((z5.1 : Int32).toInt64))), (0, .ref 32), (3, .long x3), (5, .int x5)]) (st1 := []) (fun _ _ _ => rfl) ?_
        refine jg_vl (fun v6 => ?_)
        refine jg_sg 2 (pc1 := 43) (lv1 := [(6, .long v6), (0, .ref 32), (3, .long x3), (5, .int x5)]) (st1 := [.long v6, .ref 32]) (fun _ _ _ => rfl) ?_
        refine jg_cpL (m2 := jp_F_localFrom) (As := [.ref 32, .long v6]) (r := []) (mx := 6) (jh_v (a := 32) rfl rfl rfl kc_32 rfl (Nat.le_of_ble_eq_true rfl) rfl rfl rfl (by omega) (by omega) (Nat.le_of_ble_eq_true rfl)) (kF_F_localFrom v6 z5.2 _ _ (by omega) (by omega) ) (fun z7 => ?_)
        refine jg_sg 4 (pc1 := 52) (lv1 := [(8, .long z7), (6, .long v6), (0, .ref 32), (3, .long x3), (5, .int x5)]) (st1 := [.int (lg_cmp z7 0)]) (fun _ _ _ => rfl) ?_
        refine jg_br (fun _ _ _ _ k1 k2 => jt_lif_lt (t := 117) rfl rfl k1 k2) (fun c8 => ?_) (fun c8 => ?_)
        · refine jg_lvs (lv1 := [(0, .ref 32), (5, .int x5), (6, .long v6), (8, .long z7)]) rfl rfl ⟨rfl, rfl, rfl, rfl, trivial⟩ ?_
          exact kJ_F_firstAfter_117 (by omega) (by omega) (L_F_firstAfter_11 f) ih11 x5 v6 z7 z5.2
        · refine jg_sg 2 (pc1 := 58) (lv1 := [(8, .long z7), (6, .long v6), (0, .ref 32), (3, .long x3), (5, .int x5)]) (st1 := [.ref 32, .long z7]) (fun _ _ _ => rfl) ?_
          refine jg_g (v := .ref (z5.2.2.2 32 1)) rfl kc_32 rfl rfl ?_
          refine jg_q (fun g21 => ?_)
          refine jg_g (v := .int (z5.2.1 (z5.2.2.2 32 1) 6)) rfl (kc_Z g21) rfl rfl ?_
          refine jg_sg 3 (pc1 := 67) (lv1 := [(8, .long z7), (6, .long v6), (0, .ref 32), (3, .long x3), (5, .int x5)]) (st1 := [.ref 32, .long (z7 - ((z5.2.1 (z5.2.2.2 32 1) 6 : Int32).toInt64))]) (fun _ _ _ => rfl) ?_
          refine jg_g (v := .ref (z5.2.2.2 32 1)) rfl kc_32 rfl rfl ?_
          refine jg_q (fun g22 => ?_)
          refine jg_g (v := .long (z5.2.2.1 (z5.2.2.2 32 1) 5)) rfl (kc_Z g22) rfl rfl ?_
          refine jg_sg 1 (pc1 := 74) (lv1 := [(8, .long z7), (6, .long v6), (0, .ref 32), (3, .long x3), (5, .int x5)]) (st1 := [.int (lg_cmp (z7 - ((z5.2.1 (z5.2.2.2 32 1) 6 : Int32).toInt64)) (z5.2.2.1 (z5.2.2.2 32 1) 5))]) (fun _ _ _ => rfl) ?_
          refine jg_br (fun _ _ _ _ k1 k2 => jt_lif_ge (t := 117) rfl rfl k1 k2) (fun c23 => ?_) (fun c23 => ?_)
          · refine jg_lvs (lv1 := [(0, .ref 32), (5, .int x5), (6, .long v6), (8, .long z7)]) rfl rfl ⟨rfl, rfl, rfl, rfl, trivial⟩ ?_
            exact kJ_F_firstAfter_117 (by omega) (by omega) (L_F_firstAfter_11 f) ih11 x5 v6 z7 z5.2
          · refine jg_sg 2 (pc1 := 80) (lv1 := [(8, .long z7), (6, .long v6), (0, .ref 32), (3, .long x3), (5, .int x5)]) (st1 := [.ref 32, .long z7]) (fun _ _ _ => rfl) ?_
            refine jg_g (v := .ref (z5.2.2.2 32 1)) rfl kc_32 rfl rfl ?_
            refine jg_q (fun g24 => ?_)
            refine jg_g (v := .int (z5.2.1 (z5.2.2.2 32 1) 6)) rfl (kc_Z g24) rfl rfl ?_
            refine jg_sg 4 (pc1 := 92) (lv1 := [(8, .long z7), (6, .long v6), (0, .ref 32), (3, .long x3), (5, .int x5)]) (st1 := [.int (lg_cmp (z7 - ((z5.2.1 (z5.2.2.2 32 1) 6 : Int32).toInt64)) 10413791999)]) (fun _ _ _ => rfl) ?_
            refine jg_br (fun _ _ _ _ k1 k2 => jt_lif_le (t := 101) rfl rfl k1 k2) (fun c25 => ?_) (fun c25 => ?_)
            · refine jg_sg 2 (pc1 := 104) (lv1 := [(8, .long z7), (6, .long v6), (0, .ref 32), (3, .long x3), (5, .int x5)]) (st1 := [.ref 32, .long z7]) (fun _ _ _ => rfl) ?_
              refine jg_g (v := .ref (z5.2.2.2 32 1)) rfl kc_32 rfl rfl ?_
              refine jg_q (fun g26 => ?_)
              refine jg_g (v := .int (z5.2.1 (z5.2.2.2 32 1) 6)) rfl (kc_Z g26) rfl rfl ?_
              refine jg_sg 4 (pc1 := 116) (lv1 := [(8, .long z7), (6, .long v6), (0, .ref 32), (3, .long x3), (5, .int x5)]) (st1 := [.long ((z7 - ((z5.2.1 (z5.2.2.2 32 1) 6 : Int32).toInt64)) * 1000)]) (fun _ _ _ => rfl) ?_
              exact jg_rl rfl rfl rfl
            · refine jg_sg 2 (pc1 := 116) (lv1 := [(8, .long z7), (6, .long v6), (0, .ref 32), (3, .long x3), (5, .int x5)]) (st1 := [.long (-1)]) (fun _ _ _ => rfl) ?_
              exact jg_rl rfl rfl rfl
noncomputable def F_F_firstAfter (p0 : Int64) (S : jS) : Option (Int64 × jS) := j_l ((p0 / 1000) + 1 : Int64) (fun v1 => L_F_firstAfter_11 ju_ v1 0 S)
set_option maxRecDepth 20000 in
theorem kF_F_firstAfter {q : Nat} (p0 : Int64) (S : jS) (rF rL : Nat) (hF : 5 ≤ rF) (hL : 128 ≤ rL)  : jg q jp_F_firstAfter rF rL 0 [(0, .ref 32), (1, .long p0)] [] S 0 s_L (F_F_firstAfter p0 S) := by
  unfold F_F_firstAfter
  refine jg_sg 2 (pc1 := 4) (lv1 := [(0, .ref 32), (1, .long p0)]) (st1 := [.long 1000, .long p0]) (fun _ _ _ => rfl) ?_
  refine jg_st (fun _ _ _ _ _ k => jt_ldiv rfl (by decide +kernel) k) ?_
  refine jg_sg 3 (pc1 := 8) (lv1 := [(3, .long ((p0 / 1000) + 1)), (0, .ref 32), (1, .long p0)]) (st1 := []) (fun _ _ _ => rfl) ?_
  refine jg_vl (fun v1 => ?_)
  refine jg_sg 2 (pc1 := 11) (lv1 := [(5, .int 0), (3, .long v1), (0, .ref 32), (1, .long p0)]) (st1 := []) (fun _ _ _ => rfl) ?_
  refine jg_lvs (lv1 := [(0, .ref 32), (3, .long v1), (5, .int 0)]) rfl rfl ⟨rfl, rfl, rfl, trivial⟩ ?_
  exact kL_F_firstAfter_11 (by omega) (by omega) ju_ v1 0 S
noncomputable def F_J_next (p0 : Int32) (p1 : Int32) (p2 : Int32) (p3 : Int64) (S : jS) : Option ((Int64 ⊕ Nat) × jS) := j_xv (F_J_checkSearch p0 p1 p2 S) (fun c S => (.inr c, S)) (fun S1 => j_xv (F_J_checkRange p3 0 10413791999999 S1) (fun c S => (.inr c, S)) (fun S2 => (F_J_aimAt p0 p1 p2 S2).bind (fun z3 => (F_F_firstAfter p3 z3).bind (fun z4 => some (.inl z4.1, z4.2)))))
set_option maxRecDepth 20000 in
theorem kF_J_next {q : Nat} (p0 : Int32) (p1 : Int32) (p2 : Int32) (p3 : Int64) (S : jS) (rF rL : Nat) (hF : 8 ≤ rF) (hL : 157 ≤ rL)  : jg q jp_J_next rF rL 0 [(0, .ref 24), (1, .int p0), (2, .int p1), (3, .int p2), (4, .long p3)] [] S 0 x_L (F_J_next p0 p1 p2 p3 S) := by
  unfold F_J_next
  refine jg_sg 3 (pc1 := 3) (lv1 := [(0, .ref 24), (1, .int p0), (2, .int p1), (3, .int p2), (4, .long p3)]) (st1 := [.int p2, .int p1, .int p0]) (fun _ _ _ => rfl) ?_
  refine jg_cxV (m2 := jp_J_checkSearch) (As := [.int p0, .int p1, .int p2]) (r := []) (mx := 3) (jh_s rfl (fun _ _ _ => rfl) rfl rfl rfl (by omega) (by omega) (Nat.le_of_ble_eq_true rfl)) rfl (fun _ _ => rfl) (kF_J_checkSearch p0 p1 p2 S _ _ (by omega) (by omega) ) (fun S1 => ?_)
  refine jg_sg 3 (pc1 := 12) (lv1 := [(0, .ref 24), (1, .int p0), (2, .int p1), (3, .int p2), (4, .long p3)]) (st1 := [.long 10413791999999, .long 0, .long p3]) (fun _ _ _ => rfl) ?_
  refine jg_cxV (m2 := jp_J_checkRange) (As := [.long p3, .long 0, .long 10413791999999]) (r := []) (mx := 6) (jh_s rfl (fun _ _ _ => rfl) rfl rfl rfl (by omega) (by omega) (Nat.le_of_ble_eq_true rfl)) rfl (fun _ _ => rfl) (kF_J_checkRange p3 0 10413791999999 S1 _ _ (by omega) (by omega) ) (fun S2 => ?_)
  refine jg_sg 4 (pc1 := 19) (lv1 := [(0, .ref 24), (1, .int p0), (2, .int p1), (3, .int p2), (4, .long p3)]) (st1 := [.int p2, .int p1, .int p0, .ref 24]) (fun _ _ _ => rfl) ?_
  refine jg_csV (m2 := jp_J_aimAt) (As := [.ref 24, .int p0, .int p1, .int p2]) (r := []) (mx := 4) (jh_v (a := 24) rfl rfl rfl kc_24 rfl (Nat.le_of_ble_eq_true rfl) rfl rfl rfl (by omega) (by omega) (Nat.le_of_ble_eq_true rfl)) (kF_J_aimAt p0 p1 p2 S2 _ _ (by omega) (by omega) ) (fun z3 => ?_)
  refine jg_sg 1 (pc1 := 23) (lv1 := [(0, .ref 24), (1, .int p0), (2, .int p1), (3, .int p2), (4, .long p3)]) (st1 := [.ref 24]) (fun _ _ _ => rfl) ?_
  refine jg_g (v := .ref 32) rfl kc_24 rfl rfl ?_
  refine jg_sg 1 (pc1 := 28) (lv1 := [(0, .ref 24), (1, .int p0), (2, .int p1), (3, .int p2), (4, .long p3)]) (st1 := [.long p3, .ref 32]) (fun _ _ _ => rfl) ?_
  refine jg_csL (m2 := jp_F_firstAfter) (As := [.ref 32, .long p3]) (r := []) (mx := 10) (jh_v (a := 32) rfl rfl rfl kc_32 rfl (Nat.le_of_ble_eq_true rfl) rfl rfl rfl (by omega) (by omega) (Nat.le_of_ble_eq_true rfl)) (kF_F_firstAfter p3 z3 _ _ (by omega) (by omega) ) (fun z4 => ?_)
  exact jg_rl rfl rfl rfl
noncomputable def F_C_highestBit (p0 : Int64) (p1 : Int32) (S : jS) : Option Int32 := if 0 ≤ p1 then ((F_C_bitsUpTo p1 S).bind (fun z2 => j_l (p0 &&& z2 : Int64) (fun v3 => j_l (v3 ||| ((v3 : Int64) >>> ((1 : Int32).toInt64 &&& 63)) : Int64) (fun v4 => j_l (v4 ||| ((v4 : Int64) >>> ((2 : Int32).toInt64 &&& 63)) : Int64) (fun v5 => j_l (v5 ||| ((v5 : Int64) >>> ((4 : Int32).toInt64 &&& 63)) : Int64) (fun v6 => j_l (v6 ||| ((v6 : Int64) >>> ((8 : Int32).toInt64 &&& 63)) : Int64) (fun v7 => j_l (v7 ||| ((v7 : Int64) >>> ((16 : Int32).toInt64 &&& 63)) : Int64) (fun v8 => j_l (v8 ||| ((v8 : Int64) >>> ((32 : Int32).toInt64 &&& 63)) : Int64) (fun v9 => (F_Long_bitCount v9 S).bind (fun z10 => some (z10 - 1))))))))))) else (some (-1))
set_option maxRecDepth 20000 in
theorem kF_C_highestBit {q : Nat} (p0 : Int64) (p1 : Int32) (S : jS) (rF rL : Nat) (hF : 1 ≤ rF) (hL : 21 ≤ rL)  : jg q jp_C_highestBit rF rL 0 [(0, .long p0), (2, .int p1)] [] S 0 (p_I S) (F_C_highestBit p0 p1 S) := by
  unfold F_C_highestBit
  refine jg_sg 1 (pc1 := 1) (lv1 := [(0, .long p0), (2, .int p1)]) (st1 := [.int p1]) (fun _ _ _ => rfl) ?_
  refine jg_br (fun _ _ _ _ k1 k2 => jt_if_ge (t := 6) rfl rfl k1 k2) (fun c1 => ?_) (fun c1 => ?_)
  · refine jg_sg 2 (pc1 := 8) (lv1 := [(0, .long p0), (2, .int p1)]) (st1 := [.int p1, .long p0]) (fun _ _ _ => rfl) ?_
    refine jg_cpL (m2 := jp_C_bitsUpTo) (As := [.int p1]) (r := [.long p0]) (mx := 1) (jh_s rfl (fun _ _ _ => rfl) rfl rfl rfl (by omega) (by omega) (Nat.le_of_ble_eq_true rfl)) (kF_C_bitsUpTo p1 S _ _ (by omega) (by omega) ) (fun z2 => ?_)
    refine jg_sg 2 (pc1 := 13) (lv1 := [(3, .long (p0 &&& z2)), (0, .long p0), (2, .int p1)]) (st1 := []) (fun _ _ _ => rfl) ?_
    refine jg_vl (fun v3 => ?_)
    refine jg_sg 6 (pc1 := 19) (lv1 := [(3, .long (v3 ||| ((v3 : Int64) >>> ((1 : Int32).toInt64 &&& 63)))), (0, .long p0), (2, .int p1)]) (st1 := []) (fun _ _ _ => rfl) ?_
    refine jg_vl (fun v4 => ?_)
    refine jg_sg 6 (pc1 := 25) (lv1 := [(3, .long (v4 ||| ((v4 : Int64) >>> ((2 : Int32).toInt64 &&& 63)))), (0, .long p0), (2, .int p1)]) (st1 := []) (fun _ _ _ => rfl) ?_
    refine jg_vl (fun v5 => ?_)
    refine jg_sg 6 (pc1 := 31) (lv1 := [(3, .long (v5 ||| ((v5 : Int64) >>> ((4 : Int32).toInt64 &&& 63)))), (0, .long p0), (2, .int p1)]) (st1 := []) (fun _ _ _ => rfl) ?_
    refine jg_vl (fun v6 => ?_)
    refine jg_sg 6 (pc1 := 38) (lv1 := [(3, .long (v6 ||| ((v6 : Int64) >>> ((8 : Int32).toInt64 &&& 63)))), (0, .long p0), (2, .int p1)]) (st1 := []) (fun _ _ _ => rfl) ?_
    refine jg_vl (fun v7 => ?_)
    refine jg_sg 6 (pc1 := 45) (lv1 := [(3, .long (v7 ||| ((v7 : Int64) >>> ((16 : Int32).toInt64 &&& 63)))), (0, .long p0), (2, .int p1)]) (st1 := []) (fun _ _ _ => rfl) ?_
    refine jg_vl (fun v8 => ?_)
    refine jg_sg 6 (pc1 := 52) (lv1 := [(3, .long (v8 ||| ((v8 : Int64) >>> ((32 : Int32).toInt64 &&& 63)))), (0, .long p0), (2, .int p1)]) (st1 := []) (fun _ _ _ => rfl) ?_
    refine jg_vl (fun v9 => ?_)
    refine jg_sg 1 (pc1 := 53) (lv1 := [(3, .long v9), (0, .long p0), (2, .int p1)]) (st1 := [.long v9]) (fun _ _ _ => rfl) ?_
    refine jg_cpI (m2 := jp_Long_bitCount) (As := [.long v9]) (r := []) (mx := 2) (jh_s rfl (fun _ _ _ => rfl) rfl rfl rfl (by omega) (by omega) (Nat.le_of_ble_eq_true rfl)) (kF_Long_bitCount v9 S _ _ (by omega) (by omega) ) (fun z10 => ?_)
    refine jg_sg 2 (pc1 := 58) (lv1 := [(3, .long v9), (0, .long p0), (2, .int p1)]) (st1 := [.int (z10 - 1)]) (fun _ _ _ => rfl) ?_
    exact jg_ri rfl rfl rfl rfl
  · refine jg_sg 1 (pc1 := 5) (lv1 := [(0, .long p0), (2, .int p1)]) (st1 := [.int (-1)]) (fun _ _ _ => rfl) ?_
    exact jg_ri rfl rfl rfl rfl
noncomputable def L_F_dateUpTo_32 (S : jS) : Nat → Int32 → Int64 → Int32 → Int32 → Option Int32
  | 0, _, _, _, _ => none
  | f + 1, x4, x5, x7, x8 => if 31 ≤ x8 then (some (-1)) else ((F_C_highestBit x5 x7 S).bind (fun z7 => if 0 ≤ z7 then (j_q (jh_ (S.2.2 32 2)) ((F_H_placeOf (S.2.2 32 2) ((x4 + z7) - 1) S).bind (fun z10 => if 0 ≤ z10 then (j_l (z7 - 1 : Int32) (fun v12 => (L_F_dateUpTo_32 S f) x4 x5 v12 (x8 + 1))) else (some ((x4 + z7) - 1))))) else (some (-1))))
set_option maxRecDepth 20000 in
theorem kL_F_dateUpTo_32 {q rF rL : Nat} (hF : 2 ≤ rF) (hL : 46 ≤ rL) (S : jS)  : ∀ (f : Nat) (x4 : Int32) (x5 : Int64) (x7 : Int32) (x8 : Int32), jg q jp_F_dateUpTo rF rL 32 [(0, .ref 32), (4, .int x4), (5, .long x5), (7, .int x7), (8, .int x8)] [] S 0 (p_I S) (L_F_dateUpTo_32 S f x4 x5 x7 x8) := by
  intro f
  induction f with
  | zero => intro _ _ _ _; exact jg_none
  | succ f ih32 =>
    intro x4 x5 x7 x8
    rw [L_F_dateUpTo_32]
    refine jg_sg 2 (pc1 := 36) (lv1 := [(0, .ref 32), (4, .int x4), (5, .long x5), (7, .int x7), (8, .int x8)]) (st1 := [.int 31, .int x8]) (fun _ _ _ => rfl) ?_
    refine jg_br (fun _ _ _ _ k1 k2 => jt_icmp_ge (t := 92) rfl rfl k1 k2) (fun c6 => ?_) (fun c6 => ?_)
    · refine jg_sg 1 (pc1 := 93) (lv1 := [(0, .ref 32), (4, .int x4), (5, .long x5), (7, .int x7), (8, .int x8)]) (st1 := [.int (-1)]) (fun _ _ _ => rfl) ?_
      exact jg_ri rfl rfl rfl rfl
    · refine jg_sg 2 (pc1 := 43) (lv1 := [(0, .ref 32), (4, .int x4), (5, .long x5), (7, .int x7), (8, .int x8)]) (st1 := [.int x7, .long x5]) (fun _ _ _ => rfl) ?_
      refine jg_cpI (m2 := jp_C_highestBit) (As := [.long x5, .int x7]) (r := []) (mx := 5) (jh_s rfl (fun _ _ _ => rfl) rfl rfl rfl (by omega) (by omega) (Nat.le_of_ble_eq_true rfl)) (kF_C_highestBit x5 x7 S _ _ (by omega) (by omega) ) (fun z7 => ?_)
      refine jg_sg 2 (pc1 := 50) (lv1 := [(9, .int z7), (0, .ref 32), (4, .int x4), (5, .long x5), (7, .int x7), (8, .int x8)]) (st1 := [.int z7]) (fun _ _ _ => rfl) ?_
      refine jg_br (fun _ _ _ _ k1 k2 => jt_if_ge (t := 55) rfl rfl k1 k2) (fun c8 => ?_) (fun c8 => ?_)
      · refine jg_sg 1 (pc1 := 56) (lv1 := [(9, .int z7), (0, .ref 32), (4, .int x4), (5, .long x5), (7, .int x7), (8, .int x8)]) (st1 := [.ref 32]) (fun _ _ _ => rfl) ?_
        refine jg_g (v := .ref (S.2.2 32 2)) rfl kc_32 rfl rfl ?_
        refine jg_q (fun g9 => ?_)
        refine jg_sg 5 (pc1 := 66) (lv1 := [(9, .int z7), (0, .ref 32), (4, .int x4), (5, .long x5), (7, .int x7), (8, .int x8)]) (st1 := [.int ((x4 + z7) - 1), .ref (S.2.2 32 2)]) (fun _ _ _ => rfl) ?_
        refine jg_cpI (m2 := jp_H_placeOf) (As := [.ref (S.2.2 32 2), .int ((x4 + z7) - 1)]) (r := []) (mx := 5) (jh_v (a := (S.2.2 32 2)) rfl rfl rfl (kc_H g9) rfl (Nat.le_of_ble_eq_true rfl) rfl rfl rfl (by omega) (by omega) (Nat.le_of_ble_eq_true rfl)) (kF_H_placeOf (S.2.2 32 2) ((x4 + z7) - 1) S _ _ (by omega) (by omega) g9) (fun z10 => ?_)
        refine jg_br (fun _ _ _ _ k1 k2 => jt_if_ge (t := 80) rfl rfl k1 k2) (fun c11 => ?_) (fun c11 => ?_)
        · refine jg_sg 4 (pc1 := 86) (lv1 := [(7, .int (z7 - 1)), (9, .int z7), (0, .ref 32), (4, .int x4), (5, .long x5), (8, .int x8)]) (st1 := []) (fun _ _ _ => rfl) ?_
          refine jg_vi (fun v12 => ?_)
          refine jg_sg 2 (pc1 := 32) (lv1 := [(8, .int (x8 + 1)), (7, .int v12), (9, .int z7), (0, .ref 32), (4, .int x4), (5, .long x5)]) (st1 := []) (fun _ _ _ => rfl) ?_
          refine jg_lvs (lv1 := [(0, .ref 32), (4, .int x4), (5, .long x5), (7, .int v12), (8, .int (x8 + 1))]) rfl rfl ⟨rfl, rfl, rfl, rfl, rfl, trivial⟩ ?_
          exact ih32 x4 x5 v12 (x8 + 1)
        · refine jg_sg 5 (pc1 := 79) (lv1 := [(9, .int z7), (0, .ref 32), (4, .int x4), (5, .long x5), (7, .int x7), (8, .int x8)]) (st1 := [.int ((x4 + z7) - 1)]) (fun _ _ _ => rfl) ?_
          exact jg_ri rfl rfl rfl rfl
      · refine jg_sg 1 (pc1 := 54) (lv1 := [(9, .int z7), (0, .ref 32), (4, .int x4), (5, .long x5), (7, .int x7), (8, .int x8)]) (st1 := [.int (-1)]) (fun _ _ _ => rfl) ?_
        exact jg_ri rfl rfl rfl rfl
noncomputable def F_F_dateUpTo (p0 : Int32) (p1 : Int32) (p2 : Int32) (S : jS) : Option Int32 := (F_D_firstOfMonth p0 p1 S).bind (fun z1 => j_q (jc_ (S.2.2 32 0)) ((F_D_monthLength p0 p1 S).bind (fun z3 => (F_D_weekdayOf z1 S).bind (fun z4 => (F_C_daysOf (S.2.2 32 0) z3 z4 S).bind (fun z5 => L_F_dateUpTo_32 S ju_ z1 z5 p2 0)))))
set_option maxRecDepth 20000 in
theorem kF_F_dateUpTo {q : Nat} (p0 : Int32) (p1 : Int32) (p2 : Int32) (S : jS) (rF rL : Nat) (hF : 2 ≤ rF) (hL : 46 ≤ rL)  : jg q jp_F_dateUpTo rF rL 0 [(0, .ref 32), (1, .int p0), (2, .int p1), (3, .int p2)] [] S 0 (p_I S) (F_F_dateUpTo p0 p1 p2 S) := by
  unfold F_F_dateUpTo
  refine jg_sg 2 (pc1 := 2) (lv1 := [(0, .ref 32), (1, .int p0), (2, .int p1), (3, .int p2)]) (st1 := [.int p1, .int p0]) (fun _ _ _ => rfl) ?_
  refine jg_cpI (m2 := jp_D_firstOfMonth) (As := [.int p0, .int p1]) (r := []) (mx := 5) (jh_s rfl (fun _ _ _ => rfl) rfl rfl rfl (by omega) (by omega) (Nat.le_of_ble_eq_true rfl)) (kF_D_firstOfMonth p0 p1 S _ _ (by omega) (by omega) ) (fun z1 => ?_)
  refine jg_sg 2 (pc1 := 8) (lv1 := [(4, .int z1), (0, .ref 32), (1, .int p0), (2, .int p1), (3, .int p2)]) (st1 := [.ref 32]) (fun _ _ _ => rfl) ?_
  refine jg_g (v := .ref (S.2.2 32 0)) rfl kc_32 rfl rfl ?_
  refine jg_q (fun g2 => ?_)
  refine jg_sg 2 (pc1 := 13) (lv1 := [(4, .int z1), (0, .ref 32), (1, .int p0), (2, .int p1), (3, .int p2)]) (st1 := [.int p1, .int p0, .ref (S.2.2 32 0)]) (fun _ _ _ => rfl) ?_
  refine jg_cpI (m2 := jp_D_monthLength) (As := [.int p0, .int p1]) (r := [.ref (S.2.2 32 0)]) (mx := 3) (jh_s rfl (fun _ _ _ => rfl) rfl rfl rfl (by omega) (by omega) (Nat.le_of_ble_eq_true rfl)) (kF_D_monthLength p0 p1 S _ _ (by omega) (by omega) ) (fun z3 => ?_)
  refine jg_sg 1 (pc1 := 18) (lv1 := [(4, .int z1), (0, .ref 32), (1, .int p0), (2, .int p1), (3, .int p2)]) (st1 := [.int z1, .int z3, .ref (S.2.2 32 0)]) (fun _ _ _ => rfl) ?_
  refine jg_cpI (m2 := jp_D_weekdayOf) (As := [.int z1]) (r := [.int z3, .ref (S.2.2 32 0)]) (mx := 1) (jh_s rfl (fun _ _ _ => rfl) rfl rfl rfl (by omega) (by omega) (Nat.le_of_ble_eq_true rfl)) (kF_D_weekdayOf z1 S _ _ (by omega) (by omega) ) (fun z4 => ?_)
  refine jg_cpL (m2 := jp_C_daysOf) (As := [.ref (S.2.2 32 0), .int z3, .int z4]) (r := []) (mx := 4) (jh_v (a := (S.2.2 32 0)) rfl rfl rfl (kc_C g2) rfl (Nat.le_of_ble_eq_true rfl) rfl rfl rfl (by omega) (by omega) (Nat.le_of_ble_eq_true rfl)) (kF_C_daysOf (S.2.2 32 0) z3 z4 S _ _ (by omega) (by omega) g2) (fun z5 => ?_)
  refine jg_sg 5 (pc1 := 32) (lv1 := [(8, .int 0), (7, .int p2), (5, .long z5), (4, .int z1), (0, .ref 32), (1, .int p0), (2, .int p1), (3, .int p2)]) (st1 := []) (fun _ _ _ => rfl) ?_
  refine jg_lvs (lv1 := [(0, .ref 32), (4, .int z1), (5, .long z5), (7, .int p2), (8, .int 0)]) rfl rfl ⟨rfl, rfl, rfl, rfl, rfl, trivial⟩ ?_
  exact kL_F_dateUpTo_32 (by omega) (by omega) S ju_ z1 z5 p2 0
noncomputable def J_F_dayUpTo_110 (kt34 : Int32 → Int32 → Int32 → Option Int32) (S : jS) (x6 : Int32) : Option Int32 := kt34 12 31 (x6 + (-1))
set_option maxRecDepth 20000 in
theorem kJ_F_dayUpTo_110 {q rF rL : Nat} (hF : 3 ≤ rF) (hL : 75 ≤ rL) (S : jS) (kt34 : Int32 → Int32 → Int32 → Option Int32) (ih34 : ∀ (x4 : Int32) (x5 : Int32) (x6 : Int32), jg q jp_F_dayUpTo rF rL 34 [(0, .ref 32), (4, .int x4), (5, .int x5), (6, .int x6)] [] S 0 (p_I S) (kt34 x4 x5 x6)) (x6 : Int32) : jg q jp_F_dayUpTo rF rL 110 [(0, .ref 32), (6, .int x6)] [] S 0 (p_I S) (J_F_dayUpTo_110 kt34 S x6) := by
  unfold J_F_dayUpTo_110
  refine jg_sg 6 (pc1 := 34) (lv1 := [(6, .int (x6 + (-1))), (5, .int 31), (4, .int 12), (0, .ref 32)]) (st1 := []) (fun _ _ _ => rfl) ?_
  refine jg_lvs (lv1 := [(0, .ref 32), (4, .int 12), (5, .int 31), (6, .int (x6 + (-1)))]) rfl rfl ⟨rfl, rfl, rfl, rfl, trivial⟩ ?_
  exact ih34 12 31 (x6 + (-1))
noncomputable def J_F_dayUpTo_90 (kt34 : Int32 → Int32 → Int32 → Option Int32) (kt58 : Int32 → Int32 → Int32 → Option Int32) (S : jS) (x6 : Int32) (x7 : Int32) (y0 : Int32) : Option Int32 := if y0 < 0 then (kt58 31 x6 (x7 + (-1))) else (some y0)
set_option maxRecDepth 20000 in
theorem kJ_F_dayUpTo_90 {q rF rL : Nat} (hF : 3 ≤ rF) (hL : 75 ≤ rL) (S : jS) (kt34 : Int32 → Int32 → Int32 → Option Int32) (ih34 : ∀ (x4 : Int32) (x5 : Int32) (x6 : Int32), jg q jp_F_dayUpTo rF rL 34 [(0, .ref 32), (4, .int x4), (5, .int x5), (6, .int x6)] [] S 0 (p_I S) (kt34 x4 x5 x6)) (kt58 : Int32 → Int32 → Int32 → Option Int32) (ih58 : ∀ (x5 : Int32) (x6 : Int32) (x7 : Int32), jg q jp_F_dayUpTo rF rL 58 [(0, .ref 32), (5, .int x5), (6, .int x6), (7, .int x7)] [] S 0 (p_I S) (kt58 x5 x6 x7)) (x6 : Int32) (x7 : Int32) (y0 : Int32) : jg q jp_F_dayUpTo rF rL 90 [(0, .ref 32), (6, .int x6), (7, .int x7)] [.int y0] S 0 (p_I S) (J_F_dayUpTo_90 kt34 kt58 S x6 x7 y0) := by
  unfold J_F_dayUpTo_90
  refine jg_sg 2 (pc1 := 94) (lv1 := [(8, .int y0), (0, .ref 32), (6, .int x6), (7, .int x7)]) (st1 := [.int y0]) (fun _ _ _ => rfl) ?_
  refine jg_br (fun _ _ _ _ k1 k2 => jt_if_lt (t := 100) rfl rfl k1 k2) (fun c14 => ?_) (fun c14 => ?_)
  · refine jg_sg 4 (pc1 := 58) (lv1 := [(7, .int (x7 + (-1))), (5, .int 31), (8, .int y0), (0, .ref 32), (6, .int x6)]) (st1 := []) (fun _ _ _ => rfl) ?_
    refine jg_lvs (lv1 := [(0, .ref 32), (5, .int 31), (6, .int x6), (7, .int (x7 + (-1)))]) rfl rfl ⟨rfl, rfl, rfl, rfl, trivial⟩ ?_
    exact ih58 31 x6 (x7 + (-1))
  · refine jg_sg 1 (pc1 := 99) (lv1 := [(8, .int y0), (0, .ref 32), (6, .int x6), (7, .int x7)]) (st1 := [.int y0]) (fun _ _ _ => rfl) ?_
    exact jg_ri rfl rfl rfl rfl
noncomputable def L_F_dayUpTo_58 (kt34 : Int32 → Int32 → Int32 → Option Int32) (S : jS) : Nat → Int32 → Int32 → Int32 → Option Int32
  | 0, _, _, _ => none
  | f + 1, x5, x6, x7 => if x7 < 1 then (J_F_dayUpTo_110 kt34 S x6) else (j_q (jc_ (S.2.2 32 0)) ((F_C_hasMonth (S.2.2 32 0) x7 S).bind (fun z12 => if z12 = 0 then (J_F_dayUpTo_90 kt34 (L_F_dayUpTo_58 kt34 S f) S x6 x7 (-1)) else ((F_F_dateUpTo x6 x7 x5 S).bind (fun z15 => J_F_dayUpTo_90 kt34 (L_F_dayUpTo_58 kt34 S f) S x6 x7 z15)))))
set_option maxRecDepth 20000 in
theorem kL_F_dayUpTo_58 {q rF rL : Nat} (hF : 3 ≤ rF) (hL : 75 ≤ rL) (S : jS) (kt34 : Int32 → Int32 → Int32 → Option Int32) (ih34 : ∀ (x4 : Int32) (x5 : Int32) (x6 : Int32), jg q jp_F_dayUpTo rF rL 34 [(0, .ref 32), (4, .int x4), (5, .int x5), (6, .int x6)] [] S 0 (p_I S) (kt34 x4 x5 x6)) : ∀ (f : Nat) (x5 : Int32) (x6 : Int32) (x7 : Int32), jg q jp_F_dayUpTo rF rL 58 [(0, .ref 32), (5, .int x5), (6, .int x6), (7, .int x7)] [] S 0 (p_I S) (L_F_dayUpTo_58 kt34 S f x5 x6 x7) := by
  intro f
  induction f with
  | zero => intro _ _ _; exact jg_none
  | succ f ih58 =>
    intro x5 x6 x7
    rw [L_F_dayUpTo_58]
    refine jg_sg 2 (pc1 := 61) (lv1 := [(0, .ref 32), (5, .int x5), (6, .int x6), (7, .int x7)]) (st1 := [.int 1, .int x7]) (fun _ _ _ => rfl) ?_
    refine jg_br (fun _ _ _ _ k1 k2 => jt_icmp_lt (t := 110) rfl rfl k1 k2) (fun c10 => ?_) (fun c10 => ?_)
    · refine jg_lvs (lv1 := [(0, .ref 32), (6, .int x6)]) rfl rfl ⟨rfl, rfl, trivial⟩ ?_
      exact kJ_F_dayUpTo_110 (by omega) (by omega) S kt34 ih34 x6
    · refine jg_sg 1 (pc1 := 65) (lv1 := [(0, .ref 32), (5, .int x5), (6, .int x6), (7, .int x7)]) (st1 := [.ref 32]) (fun _ _ _ => rfl) ?_
      refine jg_g (v := .ref (S.2.2 32 0)) rfl kc_32 rfl rfl ?_
      refine jg_q (fun g11 => ?_)
      refine jg_sg 1 (pc1 := 70) (lv1 := [(0, .ref 32), (5, .int x5), (6, .int x6), (7, .int x7)]) (st1 := [.int x7, .ref (S.2.2 32 0)]) (fun _ _ _ => rfl) ?_
      refine jg_cpI (m2 := jp_C_hasMonth) (As := [.ref (S.2.2 32 0), .int x7]) (r := []) (mx := 2) (jh_v (a := (S.2.2 32 0)) rfl rfl rfl (kc_C g11) rfl (Nat.le_of_ble_eq_true rfl) rfl rfl rfl (by omega) (by omega) (Nat.le_of_ble_eq_true rfl)) (kF_C_hasMonth (S.2.2 32 0) x7 S _ _ (by omega) (by omega) g11) (fun z12 => ?_)
      refine jg_br (fun _ _ _ _ k1 k2 => jt_if_eq (t := 89) rfl rfl k1 k2) (fun c13 => ?_) (fun c13 => ?_)
      · refine jg_sg 1 (pc1 := 90) (lv1 := [(0, .ref 32), (5, .int x5), (6, .int x6), (7, .int x7)]) (st1 := [.int (-1)]) (fun _ _ _ => rfl) ?_
        refine jg_lvs (lv1 := [(0, .ref 32), (6, .int x6), (7, .int x7)]) rfl rfl ⟨rfl, rfl, rfl, trivial⟩ ?_
        exact kJ_F_dayUpTo_90 (by omega) (by omega) S kt34 ih34 (L_F_dayUpTo_58 kt34 S f) ih58 x6 x7 (-1)
      · refine jg_sg 4 (pc1 := 83) (lv1 := [(0, .ref 32), (5, .int x5), (6, .int x6), (7, .int x7)]) (st1 := [.int x5, .int x7, .int x6, .ref 32]) (fun _ _ _ => rfl) ?_
        refine jg_cpI (m2 := jp_F_dateUpTo) (As := [.ref 32, .int x6, .int x7, .int x5]) (r := []) (mx := 10) (jh_v (a := 32) rfl rfl rfl kc_32 rfl (Nat.le_of_ble_eq_true rfl) rfl rfl rfl (by omega) (by omega) (Nat.le_of_ble_eq_true rfl)) (kF_F_dateUpTo x6 x7 x5 S _ _ (by omega) (by omega) ) (fun z15 => ?_)
        refine jg_sg 1 (pc1 := 90) (lv1 := [(0, .ref 32), (5, .int x5), (6, .int x6), (7, .int x7)]) (st1 := [.int z15]) (fun _ _ _ => rfl) ?_
        refine jg_lvs (lv1 := [(0, .ref 32), (6, .int x6), (7, .int x7)]) rfl rfl ⟨rfl, rfl, rfl, trivial⟩ ?_
        exact kJ_F_dayUpTo_90 (by omega) (by omega) S kt34 ih34 (L_F_dayUpTo_58 kt34 S f) ih58 x6 x7 z15
noncomputable def L_F_dayUpTo_34 (S : jS) : Nat → Int32 → Int32 → Int32 → Option Int32
  | 0, _, _, _ => none
  | f + 1, x4, x5, x6 => if x6 < 1970 then (some (-1)) else (j_q (jc_ (S.2.2 32 0)) ((F_C_hasYear (S.2.2 32 0) x6 S).bind (fun z8 => if z8 = 0 then (J_F_dayUpTo_110 (L_F_dayUpTo_34 S f) S x6) else (L_F_dayUpTo_58 (L_F_dayUpTo_34 S f) S ju_ x5 x6 x4))))
set_option maxRecDepth 20000 in
theorem kL_F_dayUpTo_34 {q rF rL : Nat} (hF : 3 ≤ rF) (hL : 75 ≤ rL) (S : jS)  : ∀ (f : Nat) (x4 : Int32) (x5 : Int32) (x6 : Int32), jg q jp_F_dayUpTo rF rL 34 [(0, .ref 32), (4, .int x4), (5, .int x5), (6, .int x6)] [] S 0 (p_I S) (L_F_dayUpTo_34 S f x4 x5 x6) := by
  intro f
  induction f with
  | zero => intro _ _ _; exact jg_none
  | succ f ih34 =>
    intro x4 x5 x6
    rw [L_F_dayUpTo_34]
    refine jg_sg 2 (pc1 := 39) (lv1 := [(0, .ref 32), (4, .int x4), (5, .int x5), (6, .int x6)]) (st1 := [.int 1970, .int x6]) (fun _ _ _ => rfl) ?_
    refine jg_br (fun _ _ _ _ k1 k2 => jt_icmp_lt (t := 124) rfl rfl k1 k2) (fun c6 => ?_) (fun c6 => ?_)
    · refine jg_sg 1 (pc1 := 125) (lv1 := [(0, .ref 32), (4, .int x4), (5, .int x5), (6, .int x6)]) (st1 := [.int (-1)]) (fun _ _ _ => rfl) ?_
      exact jg_ri rfl rfl rfl rfl
    · refine jg_sg 1 (pc1 := 43) (lv1 := [(0, .ref 32), (4, .int x4), (5, .int x5), (6, .int x6)]) (st1 := [.ref 32]) (fun _ _ _ => rfl) ?_
      refine jg_g (v := .ref (S.2.2 32 0)) rfl kc_32 rfl rfl ?_
      refine jg_q (fun g7 => ?_)
      refine jg_sg 1 (pc1 := 48) (lv1 := [(0, .ref 32), (4, .int x4), (5, .int x5), (6, .int x6)]) (st1 := [.int x6, .ref (S.2.2 32 0)]) (fun _ _ _ => rfl) ?_
      refine jg_cpI (m2 := jp_C_hasYear) (As := [.ref (S.2.2 32 0), .int x6]) (r := []) (mx := 3) (jh_v (a := (S.2.2 32 0)) rfl rfl rfl (kc_C g7) rfl (Nat.le_of_ble_eq_true rfl) rfl rfl rfl (by omega) (by omega) (Nat.le_of_ble_eq_true rfl)) (kF_C_hasYear (S.2.2 32 0) x6 S _ _ (by omega) (by omega) g7) (fun z8 => ?_)
      refine jg_br (fun _ _ _ _ k1 k2 => jt_if_eq (t := 110) rfl rfl k1 k2) (fun c9 => ?_) (fun c9 => ?_)
      · refine jg_lvs (lv1 := [(0, .ref 32), (6, .int x6)]) rfl rfl ⟨rfl, rfl, trivial⟩ ?_
        exact kJ_F_dayUpTo_110 (by omega) (by omega) S (L_F_dayUpTo_34 S f) ih34 x6
      · refine jg_sg 2 (pc1 := 58) (lv1 := [(7, .int x4), (0, .ref 32), (4, .int x4), (5, .int x5), (6, .int x6)]) (st1 := []) (fun _ _ _ => rfl) ?_
        refine jg_lvs (lv1 := [(0, .ref 32), (5, .int x5), (6, .int x6), (7, .int x4)]) rfl rfl ⟨rfl, rfl, rfl, rfl, trivial⟩ ?_
        exact kL_F_dayUpTo_58 (by omega) (by omega) S (L_F_dayUpTo_34 S f) ih34 ju_ x5 x6 x4
noncomputable def F_F_dayUpTo (p0 : Int32) (S : jS) : Option Int32 := (F_Math_min p0 120529 S).bind (fun z1 => (F_D_yearOf z1 S).bind (fun z2 => (F_D_monthOf z1 z2 S).bind (fun z3 => (F_D_firstOfMonth z2 z3 S).bind (fun z4 => j_l ((z1 - z4) + 1 : Int32) (fun v5 => L_F_dayUpTo_34 S ju_ z3 v5 z2)))))
set_option maxRecDepth 20000 in
theorem kF_F_dayUpTo {q : Nat} (p0 : Int32) (S : jS) (rF rL : Nat) (hF : 3 ≤ rF) (hL : 75 ≤ rL)  : jg q jp_F_dayUpTo rF rL 0 [(0, .ref 32), (1, .int p0)] [] S 0 (p_I S) (F_F_dayUpTo p0 S) := by
  unfold F_F_dayUpTo
  refine jg_sg 2 (pc1 := 3) (lv1 := [(0, .ref 32), (1, .int p0)]) (st1 := [.int 120529, .int p0]) (fun _ _ _ => rfl) ?_
  refine jg_cpI (m2 := jp_Math_min) (As := [.int p0, .int 120529]) (r := []) (mx := 2) (jh_s rfl (fun _ _ _ => rfl) rfl rfl rfl (by omega) (by omega) (Nat.le_of_ble_eq_true rfl)) (kF_Math_min p0 120529 S _ _ (by omega) (by omega) ) (fun z1 => ?_)
  refine jg_sg 2 (pc1 := 8) (lv1 := [(2, .int z1), (0, .ref 32), (1, .int p0)]) (st1 := [.int z1]) (fun _ _ _ => rfl) ?_
  refine jg_cpI (m2 := jp_D_yearOf) (As := [.int z1]) (r := []) (mx := 2) (jh_s rfl (fun _ _ _ => rfl) rfl rfl rfl (by omega) (by omega) (Nat.le_of_ble_eq_true rfl)) (kF_D_yearOf z1 S _ _ (by omega) (by omega) ) (fun z2 => ?_)
  refine jg_sg 3 (pc1 := 14) (lv1 := [(3, .int z2), (2, .int z1), (0, .ref 32), (1, .int p0)]) (st1 := [.int z2, .int z1]) (fun _ _ _ => rfl) ?_
  refine jg_cpI (m2 := jp_D_monthOf) (As := [.int z1, .int z2]) (r := []) (mx := 3) (jh_s rfl (fun _ _ _ => rfl) rfl rfl rfl (by omega) (by omega) (Nat.le_of_ble_eq_true rfl)) (kF_D_monthOf z1 z2 S _ _ (by omega) (by omega) ) (fun z3 => ?_)
  refine jg_sg 4 (pc1 := 23) (lv1 := [(4, .int z3), (3, .int z2), (2, .int z1), (0, .ref 32), (1, .int p0)]) (st1 := [.int z3, .int z2, .int z1]) (fun _ _ _ => rfl) ?_
  refine jg_cpI (m2 := jp_D_firstOfMonth) (As := [.int z2, .int z3]) (r := [.int z1]) (mx := 5) (jh_s rfl (fun _ _ _ => rfl) rfl rfl rfl (by omega) (by omega) (Nat.le_of_ble_eq_true rfl)) (kF_D_firstOfMonth z2 z3 S _ _ (by omega) (by omega) ) (fun z4 => ?_)
  refine jg_sg 4 (pc1 := 31) (lv1 := [(5, .int ((z1 - z4) + 1)), (4, .int z3), (3, .int z2), (2, .int z1), (0, .ref 32), (1, .int p0)]) (st1 := []) (fun _ _ _ => rfl) ?_
  refine jg_vi (fun v5 => ?_)
  refine jg_sg 2 (pc1 := 34) (lv1 := [(6, .int z2), (5, .int v5), (4, .int z3), (3, .int z2), (2, .int z1), (0, .ref 32), (1, .int p0)]) (st1 := []) (fun _ _ _ => rfl) ?_
  refine jg_lvs (lv1 := [(0, .ref 32), (4, .int z3), (5, .int v5), (6, .int z2)]) rfl rfl ⟨rfl, rfl, rfl, rfl, trivial⟩ ?_
  exact kL_F_dayUpTo_34 (by omega) (by omega) S ju_ z3 v5 z2
end JF5
