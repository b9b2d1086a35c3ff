section JF6
noncomputable def J_C_timeUpTo_162 (S : jS) (x2 : Int32) (x3 : Int32) (x5 : Int32) : Option Int32 := if 0 ≤ x2 then (some (((x2 * 3600) + (x3 * 60)) + x5)) else (some (-1))
set_option maxRecDepth 20000 in
theorem kJ_C_timeUpTo_162 {q rF rL : Nat} (hF : 2 ≤ rF) (hL : 45 ≤ rL) (S : jS)  (x2 : Int32) (x3 : Int32) (x5 : Int32) : jg q jp_C_timeUpTo rF rL 162 [(2, .int x2), (3, .int x3), (5, .int x5)] [] S 0 (p_I S) (J_C_timeUpTo_162 S x2 x3 x5) := by
  unfold J_C_timeUpTo_162
  refine jg_sg 1 (pc1 := 163) (lv1 := [(2, .int x2), (3, .int x3), (5, .int x5)]) (st1 := [.int x2]) (fun _ _ _ => rfl) ?_
  refine jg_br (fun _ _ _ _ k1 k2 => jt_if_ge (t := 170) rfl rfl k1 k2) (fun c13 => ?_) (fun c13 => ?_)
  · refine jg_sg 9 (pc1 := 183) (lv1 := [(2, .int x2), (3, .int x3), (5, .int x5)]) (st1 := [.int (((x2 * 3600) + (x3 * 60)) + x5)]) (fun _ _ _ => rfl) ?_
    exact jg_ri rfl rfl rfl rfl
  · refine jg_sg 2 (pc1 := 183) (lv1 := [(2, .int x2), (3, .int x3), (5, .int x5)]) (st1 := [.int (-1)]) (fun _ _ _ => rfl) ?_
    exact jg_ri rfl rfl rfl rfl
noncomputable def J_C_timeUpTo_129 (S : jS) (x0 : Nat) (x1 : Int32) (x2 : Int32) (x3 : Int32) (x5 : Int32) : Option Int32 := if 0 ≤ x3 then (J_C_timeUpTo_162 S x2 x3 x5) else (j_q (j_in 2 12) ((F_C_highestBit (S.2.1 (x0 + 1) ((2 : Int32).toNatClampNeg)) ((x1 / 3600) - 1) S).bind (fun z15 => j_q (j_in 1 12) ((F_C_highestBit (S.2.1 (x0 + 1) ((1 : Int32).toNatClampNeg)) 59 S).bind (fun z17 => J_C_timeUpTo_162 S z15 z17 x5)))))
set_option maxRecDepth 20000 in
theorem kJ_C_timeUpTo_129 {q rF rL : Nat} (hF : 2 ≤ rF) (hL : 45 ≤ rL) (S : jS)  (x0 : Nat) (x1 : Int32) (x2 : Int32) (x3 : Int32) (x5 : Int32) (hx0 : jc_ x0 = true) : jg q jp_C_timeUpTo rF rL 129 [(0, .ref x0), (1, .int x1), (2, .int x2), (3, .int x3), (5, .int x5)] [] S 0 (p_I S) (J_C_timeUpTo_129 S x0 x1 x2 x3 x5) := by
  unfold J_C_timeUpTo_129
  refine jg_sg 1 (pc1 := 130) (lv1 := [(0, .ref x0), (1, .int x1), (2, .int x2), (3, .int x3), (5, .int x5)]) (st1 := [.int x3]) (fun _ _ _ => rfl) ?_
  refine jg_br (fun _ _ _ _ k1 k2 => jt_if_ge (t := 162) rfl rfl k1 k2) (fun c12 => ?_) (fun c12 => ?_)
  · refine jg_lvs (lv1 := [(2, .int x2), (3, .int x3), (5, .int x5)]) rfl rfl ⟨rfl, rfl, rfl, trivial⟩ ?_
    exact kJ_C_timeUpTo_162 (by omega) (by omega) S x2 x3 x5
  · refine jg_sg 1 (pc1 := 134) (lv1 := [(0, .ref x0), (1, .int x1), (2, .int x2), (3, .int x3), (5, .int x5)]) (st1 := [.ref x0]) (fun _ _ _ => rfl) ?_
    refine jg_g (v := .ref (x0 + 1)) rfl (kc_C hx0) rfl rfl ?_
    refine jg_sg 1 (pc1 := 138) (lv1 := [(0, .ref x0), (1, .int x1), (2, .int x2), (3, .int x3), (5, .int x5)]) (st1 := [.int 2, .ref (x0 + 1)]) (fun _ _ _ => rfl) ?_
    refine jg_lal rfl (kc_CA hx0) (fun g14 => ?_)
    refine jg_sg 2 (pc1 := 143) (lv1 := [(0, .ref x0), (1, .int x1), (2, .int x2), (3, .int x3), (5, .int x5)]) (st1 := [.int 3600, .int x1, .long (S.2.1 (x0 + 1) ((2 : Int32).toNatClampNeg))]) (fun _ _ _ => rfl) ?_
    refine jg_st (fun _ _ _ _ _ k => jt_idiv rfl (by decide +kernel) k) ?_
    refine jg_sg 2 (pc1 := 146) (lv1 := [(0, .ref x0), (1, .int x1), (2, .int x2), (3, .int x3), (5, .int x5)]) (st1 := [.int ((x1 / 3600) - 1), .long (S.2.1 (x0 + 1) ((2 : Int32).toNatClampNeg))]) (fun _ _ _ => rfl) ?_
    refine jg_cpI (m2 := jp_C_highestBit) (As := [.long (S.2.1 (x0 + 1) ((2 : Int32).toNatClampNeg)), .int ((x1 / 3600) - 1)]) (r := []) (mx := 5) (jh_s rfl (fun _ _ _ => rfl) rfl rfl rfl (by omega) (by omega) (Nat.le_of_ble_eq_true rfl)) (kF_C_highestBit (S.2.1 (x0 + 1) ((2 : Int32).toNatClampNeg)) ((x1 / 3600) - 1) S _ _ (by omega) (by omega) ) (fun z15 => ?_)
    refine jg_sg 2 (pc1 := 151) (lv1 := [(2, .int z15), (0, .ref x0), (1, .int x1), (3, .int x3), (5, .int x5)]) (st1 := [.ref x0]) (fun _ _ _ => rfl) ?_
    refine jg_g (v := .ref (x0 + 1)) rfl (kc_C hx0) rfl rfl ?_
    refine jg_sg 1 (pc1 := 155) (lv1 := [(2, .int z15), (0, .ref x0), (1, .int x1), (3, .int x3), (5, .int x5)]) (st1 := [.int 1, .ref (x0 + 1)]) (fun _ _ _ => rfl) ?_
    refine jg_lal rfl (kc_CA hx0) (fun g16 => ?_)
    refine jg_sg 1 (pc1 := 158) (lv1 := [(2, .int z15), (0, .ref x0), (1, .int x1), (3, .int x3), (5, .int x5)]) (st1 := [.int 59, .long (S.2.1 (x0 + 1) ((1 : Int32).toNatClampNeg))]) (fun _ _ _ => rfl) ?_
    refine jg_cpI (m2 := jp_C_highestBit) (As := [.long (S.2.1 (x0 + 1) ((1 : Int32).toNatClampNeg)), .int 59]) (r := []) (mx := 5) (jh_s rfl (fun _ _ _ => rfl) rfl rfl rfl (by omega) (by omega) (Nat.le_of_ble_eq_true rfl)) (kF_C_highestBit (S.2.1 (x0 + 1) ((1 : Int32).toNatClampNeg)) 59 S _ _ (by omega) (by omega) ) (fun z17 => ?_)
    refine jg_sg 1 (pc1 := 162) (lv1 := [(3, .int z17), (2, .int z15), (0, .ref x0), (1, .int x1), (5, .int x5)]) (st1 := []) (fun _ _ _ => rfl) ?_
    refine jg_lvs (lv1 := [(2, .int z15), (3, .int z17), (5, .int x5)]) rfl rfl ⟨rfl, rfl, rfl, trivial⟩ ?_
    exact kJ_C_timeUpTo_162 (by omega) (by omega) S z15 z17 x5
noncomputable def J_C_timeUpTo_93 (S : jS) (x0 : Nat) (x1 : Int32) (x2 : Int32) (x3 : Int32) (y0 : Int32) (y1 : Int64) : Option Int32 := (F_C_highestBit y1 y0 S).bind (fun z10 => if 0 ≤ z10 then (J_C_timeUpTo_129 S x0 x1 x2 x3 z10) else (j_q (j_in 1 12) ((F_C_highestBit (S.2.1 (x0 + 1) ((1 : Int32).toNatClampNeg)) (x3 - 1) S).bind (fun z19 => j_q (j_in 0 12) ((F_C_highestBit (S.2.1 (x0 + 1) ((0 : Int32).toNatClampNeg)) 59 S).bind (fun z21 => J_C_timeUpTo_129 S x0 x1 x2 z19 z21))))))
set_option maxRecDepth 20000 in
theorem kJ_C_timeUpTo_93 {q rF rL : Nat} (hF : 2 ≤ rF) (hL : 45 ≤ rL) (S : jS)  (x0 : Nat) (x1 : Int32) (x2 : Int32) (x3 : Int32) (y0 : Int32) (y1 : Int64) (hx0 : jc_ x0 = true) : jg q jp_C_timeUpTo rF rL 93 [(0, .ref x0), (1, .int x1), (2, .int x2), (3, .int x3)] [.int y0, .long y1] S 0 (p_I S) (J_C_timeUpTo_93 S x0 x1 x2 x3 y0 y1) := by
  unfold J_C_timeUpTo_93
  refine jg_cpI (m2 := jp_C_highestBit) (As := [.long y1, .int y0]) (r := []) (mx := 5) (jh_s rfl (fun _ _ _ => rfl) rfl rfl rfl (by omega) (by omega) (Nat.le_of_ble_eq_true rfl)) (kF_C_highestBit y1 y0 S _ _ (by omega) (by omega) ) (fun z10 => ?_)
  refine jg_sg 2 (pc1 := 100) (lv1 := [(5, .int z10), (0, .ref x0), (1, .int x1), (2, .int x2), (3, .int x3)]) (st1 := [.int z10]) (fun _ _ _ => rfl) ?_
  refine jg_br (fun _ _ _ _ k1 k2 => jt_if_ge (t := 129) rfl rfl k1 k2) (fun c11 => ?_) (fun c11 => ?_)
  · refine jg_lvs (lv1 := [(0, .ref x0), (1, .int x1), (2, .int x2), (3, .int x3), (5, .int z10)]) rfl rfl ⟨rfl, rfl, rfl, rfl, rfl, trivial⟩ ?_
    exact kJ_C_timeUpTo_129 (by omega) (by omega) S x0 x1 x2 x3 z10 hx0
  · refine jg_sg 1 (pc1 := 104) (lv1 := [(5, .int z10), (0, .ref x0), (1, .int x1), (2, .int x2), (3, .int x3)]) (st1 := [.ref x0]) (fun _ _ _ => rfl) ?_
    refine jg_g (v := .ref (x0 + 1)) rfl (kc_C hx0) rfl rfl ?_
    refine jg_sg 1 (pc1 := 108) (lv1 := [(5, .int z10), (0, .ref x0), (1, .int x1), (2, .int x2), (3, .int x3)]) (st1 := [.int 1, .ref (x0 + 1)]) (fun _ _ _ => rfl) ?_
    refine jg_lal rfl (kc_CA hx0) (fun g18 => ?_)
    refine jg_sg 3 (pc1 := 112) (lv1 := [(5, .int z10), (0, .ref x0), (1, .int x1), (2, .int x2), (3, .int x3)]) (st1 := [.int (x3 - 1), .long (S.2.1 (x0 + 1) ((1 : Int32).toNatClampNeg))]) (fun _ _ _ => rfl) ?_
    refine jg_cpI (m2 := jp_C_highestBit) (As := [.long (S.2.1 (x0 + 1) ((1 : Int32).toNatClampNeg)), .int (x3 - 1)]) (r := []) (mx := 5) (jh_s rfl (fun _ _ _ => rfl) rfl rfl rfl (by omega) (by omega) (Nat.le_of_ble_eq_true rfl)) (kF_C_highestBit (S.2.1 (x0 + 1) ((1 : Int32).toNatClampNeg)) (x3 - 1) S _ _ (by omega) (by omega) ) (fun z19 => ?_)
    refine jg_sg 2 (pc1 := 117) (lv1 := [(3, .int z19), (5, .int z10), (0, .ref x0), (1, .int x1), (2, .int x2)]) (st1 := [.ref x0]) (fun _ _ _ => rfl) ?_
    refine jg_g (v := .ref (x0 + 1)) rfl (kc_C hx0) rfl rfl ?_
    refine jg_sg 1 (pc1 := 121) (lv1 := [(3, .int z19), (5, .int z10), (0, .ref x0), (1, .int x1), (2, .int x2)]) (st1 := [.int 0, .ref (x0 + 1)]) (fun _ _ _ => rfl) ?_
    refine jg_lal rfl (kc_CA hx0) (fun g20 => ?_)
    refine jg_sg 1 (pc1 := 124) (lv1 := [(3, .int z19), (5, .int z10), (0, .ref x0), (1, .int x1), (2, .int x2)]) (st1 := [.int 59, .long (S.2.1 (x0 + 1) ((0 : Int32).toNatClampNeg))]) (fun _ _ _ => rfl) ?_
    refine jg_cpI (m2 := jp_C_highestBit) (As := [.long (S.2.1 (x0 + 1) ((0 : Int32).toNatClampNeg)), .int 59]) (r := []) (mx := 5) (jh_s rfl (fun _ _ _ => rfl) rfl rfl rfl (by omega) (by omega) (Nat.le_of_ble_eq_true rfl)) (kF_C_highestBit (S.2.1 (x0 + 1) ((0 : Int32).toNatClampNeg)) 59 S _ _ (by omega) (by omega) ) (fun z21 => ?_)
    refine jg_sg 1 (pc1 := 129) (lv1 := [(5, .int z21), (3, .int z19), (0, .ref x0), (1, .int x1), (2, .int x2)]) (st1 := []) (fun _ _ _ => rfl) ?_
    refine jg_lvs (lv1 := [(0, .ref x0), (1, .int x1), (2, .int x2), (3, .int z19), (5, .int z21)]) rfl rfl ⟨rfl, rfl, rfl, rfl, rfl, trivial⟩ ?_
    exact kJ_C_timeUpTo_129 (by omega) (by omega) S x0 x1 x2 z19 z21 hx0
noncomputable def J_C_timeUpTo_71 (S : jS) (x0 : Nat) (x1 : Int32) (x2 : Int32) (x3 : Int32) (y0 : Int32) : Option Int32 := j_q (j_in 0 12) (if y0 = 0 then (J_C_timeUpTo_93 S x0 x1 x2 x3 59 (S.2.1 (x0 + 1) ((0 : Int32).toNatClampNeg))) else (J_C_timeUpTo_93 S x0 x1 x2 x3 (x1 - x1 / 60 * 60) (S.2.1 (x0 + 1) ((0 : Int32).toNatClampNeg))))
set_option maxRecDepth 20000 in
theorem kJ_C_timeUpTo_71 {q rF rL : Nat} (hF : 2 ≤ rF) (hL : 45 ≤ rL) (S : jS)  (x0 : Nat) (x1 : Int32) (x2 : Int32) (x3 : Int32) (y0 : Int32) (hx0 : jc_ x0 = true) : jg q jp_C_timeUpTo rF rL 71 [(0, .ref x0), (1, .int x1), (2, .int x2), (3, .int x3)] [.int y0] S 0 (p_I S) (J_C_timeUpTo_71 S x0 x1 x2 x3 y0) := by
  unfold J_C_timeUpTo_71
  refine jg_sg 2 (pc1 := 74) (lv1 := [(4, .int y0), (0, .ref x0), (1, .int x1), (2, .int x2), (3, .int x3)]) (st1 := [.ref x0]) (fun _ _ _ => rfl) ?_
  refine jg_g (v := .ref (x0 + 1)) rfl (kc_C hx0) rfl rfl ?_
  refine jg_sg 1 (pc1 := 78) (lv1 := [(4, .int y0), (0, .ref x0), (1, .int x1), (2, .int x2), (3, .int x3)]) (st1 := [.int 0, .ref (x0 + 1)]) (fun _ _ _ => rfl) ?_
  refine jg_lal rfl (kc_CA hx0) (fun g8 => ?_)
  refine jg_sg 1 (pc1 := 81) (lv1 := [(4, .int y0), (0, .ref x0), (1, .int x1), (2, .int x2), (3, .int x3)]) (st1 := [.int y0, .long (S.2.1 (x0 + 1) ((0 : Int32).toNatClampNeg))]) (fun _ _ _ => rfl) ?_
  refine jg_br (fun _ _ _ _ k1 k2 => jt_if_eq (t := 91) rfl rfl k1 k2) (fun c9 => ?_) (fun c9 => ?_)
  · refine jg_sg 1 (pc1 := 93) (lv1 := [(4, .int y0), (0, .ref x0), (1, .int x1), (2, .int x2), (3, .int x3)]) (st1 := [.int 59, .long (S.2.1 (x0 + 1) ((0 : Int32).toNatClampNeg))]) (fun _ _ _ => rfl) ?_
    refine jg_lvs (lv1 := [(0, .ref x0), (1, .int x1), (2, .int x2), (3, .int x3)]) rfl rfl ⟨rfl, rfl, rfl, rfl, trivial⟩ ?_
    exact kJ_C_timeUpTo_93 (by omega) (by omega) S x0 x1 x2 x3 59 (S.2.1 (x0 + 1) ((0 : Int32).toNatClampNeg)) hx0
  · refine jg_sg 2 (pc1 := 87) (lv1 := [(4, .int y0), (0, .ref x0), (1, .int x1), (2, .int x2), (3, .int x3)]) (st1 := [.int 60, .int x1, .long (S.2.1 (x0 + 1) ((0 : Int32).toNatClampNeg))]) (fun _ _ _ => rfl) ?_
    refine jg_st (fun _ _ _ _ _ k => jt_irem rfl (by decide +kernel) k) ?_
    refine jg_sg 1 (pc1 := 93) (lv1 := [(4, .int y0), (0, .ref x0), (1, .int x1), (2, .int x2), (3, .int x3)]) (st1 := [.int (x1 - x1 / 60 * 60), .long (S.2.1 (x0 + 1) ((0 : Int32).toNatClampNeg))]) (fun _ _ _ => rfl) ?_
    refine jg_lvs (lv1 := [(0, .ref x0), (1, .int x1), (2, .int x2), (3, .int x3)]) rfl rfl ⟨rfl, rfl, rfl, rfl, trivial⟩ ?_
    exact kJ_C_timeUpTo_93 (by omega) (by omega) S x0 x1 x2 x3 (x1 - x1 / 60 * 60) (S.2.1 (x0 + 1) ((0 : Int32).toNatClampNeg)) hx0
noncomputable def J_C_timeUpTo_70 (S : jS) (x0 : Nat) (x1 : Int32) (x2 : Int32) (x3 : Int32) : Option Int32 := J_C_timeUpTo_71 S x0 x1 x2 x3 0
set_option maxRecDepth 20000 in
theorem kJ_C_timeUpTo_70 {q rF rL : Nat} (hF : 2 ≤ rF) (hL : 45 ≤ rL) (S : jS)  (x0 : Nat) (x1 : Int32) (x2 : Int32) (x3 : Int32) (hx0 : jc_ x0 = true) : jg q jp_C_timeUpTo rF rL 70 [(0, .ref x0), (1, .int x1), (2, .int x2), (3, .int x3)] [] S 0 (p_I S) (J_C_timeUpTo_70 S x0 x1 x2 x3) := by
  unfold J_C_timeUpTo_70
  refine jg_sg 1 (pc1 := 71) (lv1 := [(0, .ref x0), (1, .int x1), (2, .int x2), (3, .int x3)]) (st1 := [.int 0]) (fun _ _ _ => rfl) ?_
  refine jg_lvs (lv1 := [(0, .ref x0), (1, .int x1), (2, .int x2), (3, .int x3)]) rfl rfl ⟨rfl, rfl, rfl, rfl, trivial⟩ ?_
  exact kJ_C_timeUpTo_71 (by omega) (by omega) S x0 x1 x2 x3 0 hx0
noncomputable def J_C_timeUpTo_42 (S : jS) (x0 : Nat) (x1 : Int32) (x2 : Int32) (y0 : Int32) (y1 : Int64) : Option Int32 := (F_C_highestBit y1 y0 S).bind (fun z5 => if x2 = (x1 / 3600) then (if z5 = ((x1 / 60) - (x1 / 60) / 60 * 60) then (J_C_timeUpTo_71 S x0 x1 x2 z5 1) else (J_C_timeUpTo_70 S x0 x1 x2 z5)) else (J_C_timeUpTo_70 S x0 x1 x2 z5))
set_option maxRecDepth 20000 in
theorem kJ_C_timeUpTo_42 {q rF rL : Nat} (hF : 2 ≤ rF) (hL : 45 ≤ rL) (S : jS)  (x0 : Nat) (x1 : Int32) (x2 : Int32) (y0 : Int32) (y1 : Int64) (hx0 : jc_ x0 = true) : jg q jp_C_timeUpTo rF rL 42 [(0, .ref x0), (1, .int x1), (2, .int x2)] [.int y0, .long y1] S 0 (p_I S) (J_C_timeUpTo_42 S x0 x1 x2 y0 y1) := by
  unfold J_C_timeUpTo_42
  refine jg_cpI (m2 := jp_C_highestBit) (As := [.long y1, .int y0]) (r := []) (mx := 5) (jh_s rfl (fun _ _ _ => rfl) rfl rfl rfl (by omega) (by omega) (Nat.le_of_ble_eq_true rfl)) (kF_C_highestBit y1 y0 S _ _ (by omega) (by omega) ) (fun z5 => ?_)
  refine jg_sg 4 (pc1 := 51) (lv1 := [(3, .int z5), (0, .ref x0), (1, .int x1), (2, .int x2)]) (st1 := [.int 3600, .int x1, .int x2]) (fun _ _ _ => rfl) ?_
  refine jg_st (fun _ _ _ _ _ k => jt_idiv rfl (by decide +kernel) k) ?_
  refine jg_br (fun _ _ _ _ k1 k2 => jt_icmp_ne (t := 70) rfl rfl k2 k1) (fun c6 => ?_) (fun c6 => ?_)
  · refine jg_sg 3 (pc1 := 59) (lv1 := [(3, .int z5), (0, .ref x0), (1, .int x1), (2, .int x2)]) (st1 := [.int 60, .int x1, .int z5]) (fun _ _ _ => rfl) ?_
    refine jg_st (fun _ _ _ _ _ k => jt_idiv rfl (by decide +kernel) k) ?_
    refine jg_sg 1 (pc1 := 62) (lv1 := [(3, .int z5), (0, .ref x0), (1, .int x1), (2, .int x2)]) (st1 := [.int 60, .int (x1 / 60), .int z5]) (fun _ _ _ => rfl) ?_
    refine jg_st (fun _ _ _ _ _ k => jt_irem rfl (by decide +kernel) k) ?_
    refine jg_br (fun _ _ _ _ k1 k2 => jt_icmp_ne (t := 70) rfl rfl k2 k1) (fun c7 => ?_) (fun c7 => ?_)
    · refine jg_sg 2 (pc1 := 71) (lv1 := [(3, .int z5), (0, .ref x0), (1, .int x1), (2, .int x2)]) (st1 := [.int 1]) (fun _ _ _ => rfl) ?_
      refine jg_lvs (lv1 := [(0, .ref x0), (1, .int x1), (2, .int x2), (3, .int z5)]) rfl rfl ⟨rfl, rfl, rfl, rfl, trivial⟩ ?_
      exact kJ_C_timeUpTo_71 (by omega) (by omega) S x0 x1 x2 z5 1 hx0
    · refine jg_lvs (lv1 := [(0, .ref x0), (1, .int x1), (2, .int x2), (3, .int z5)]) rfl rfl ⟨rfl, rfl, rfl, rfl, trivial⟩ ?_
      exact kJ_C_timeUpTo_70 (by omega) (by omega) S x0 x1 x2 z5 hx0
  · refine jg_lvs (lv1 := [(0, .ref x0), (1, .int x1), (2, .int x2), (3, .int z5)]) rfl rfl ⟨rfl, rfl, rfl, rfl, trivial⟩ ?_
    exact kJ_C_timeUpTo_70 (by omega) (by omega) S x0 x1 x2 z5 hx0
noncomputable def F_C_timeUpTo (a0 : Nat) (p0 : Int32) (S : jS) : Option Int32 := j_q (j_in 2 12) ((F_C_highestBit (S.2.1 (a0 + 1) ((2 : Int32).toNatClampNeg)) (p0 / 3600) S).bind (fun z2 => j_q (j_in 1 12) (if z2 = (p0 / 3600) then (J_C_timeUpTo_42 S a0 p0 z2 ((p0 / 60) - (p0 / 60) / 60 * 60) (S.2.1 (a0 + 1) ((1 : Int32).toNatClampNeg))) else (J_C_timeUpTo_42 S a0 p0 z2 59 (S.2.1 (a0 + 1) ((1 : Int32).toNatClampNeg))))))
set_option maxRecDepth 20000 in
theorem kF_C_timeUpTo {q : Nat} (a0 : Nat) (p0 : Int32) (S : jS) (rF rL : Nat) (hF : 2 ≤ rF) (hL : 45 ≤ rL) (ha0 : jc_ a0 = true) : jg q jp_C_timeUpTo rF rL 0 [(0, .ref a0), (1, .int p0)] [] S 0 (p_I S) (F_C_timeUpTo a0 p0 S) := by
  unfold F_C_timeUpTo
  refine jg_sg 1 (pc1 := 1) (lv1 := [(0, .ref a0), (1, .int p0)]) (st1 := [.ref a0]) (fun _ _ _ => rfl) ?_
  refine jg_g (v := .ref (a0 + 1)) rfl (kc_C ha0) rfl rfl ?_
  refine jg_sg 1 (pc1 := 5) (lv1 := [(0, .ref a0), (1, .int p0)]) (st1 := [.int 2, .ref (a0 + 1)]) (fun _ _ _ => rfl) ?_
  refine jg_lal rfl (kc_CA ha0) (fun g1 => ?_)
  refine jg_sg 2 (pc1 := 10) (lv1 := [(0, .ref a0), (1, .int p0)]) (st1 := [.int 3600, .int p0, .long (S.2.1 (a0 + 1) ((2 : Int32).toNatClampNeg))]) (fun _ _ _ => rfl) ?_
  refine jg_st (fun _ _ _ _ _ k => jt_idiv rfl (by decide +kernel) k) ?_
  refine jg_cpI (m2 := jp_C_highestBit) (As := [.long (S.2.1 (a0 + 1) ((2 : Int32).toNatClampNeg)), .int (p0 / 3600)]) (r := []) (mx := 5) (jh_s rfl (fun _ _ _ => rfl) rfl rfl rfl (by omega) (by omega) (Nat.le_of_ble_eq_true rfl)) (kF_C_highestBit (S.2.1 (a0 + 1) ((2 : Int32).toNatClampNeg)) (p0 / 3600) S _ _ (by omega) (by omega) ) (fun z2 => ?_)
  refine jg_sg 2 (pc1 := 16) (lv1 := [(2, .int z2), (0, .ref a0), (1, .int p0)]) (st1 := [.ref a0]) (fun _ _ _ => rfl) ?_
  refine jg_g (v := .ref (a0 + 1)) rfl (kc_C ha0) rfl rfl ?_
  refine jg_sg 1 (pc1 := 20) (lv1 := [(2, .int z2), (0, .ref a0), (1, .int p0)]) (st1 := [.int 1, .ref (a0 + 1)]) (fun _ _ _ => rfl) ?_
  refine jg_lal rfl (kc_CA ha0) (fun g3 => ?_)
  refine jg_sg 3 (pc1 := 26) (lv1 := [(2, .int z2), (0, .ref a0), (1, .int p0)]) (st1 := [.int 3600, .int p0, .int z2, .long (S.2.1 (a0 + 1) ((1 : Int32).toNatClampNeg))]) (fun _ _ _ => rfl) ?_
  refine jg_st (fun _ _ _ _ _ k => jt_idiv rfl (by decide +kernel) k) ?_
  refine jg_br (fun _ _ _ _ k1 k2 => jt_icmp_ne (t := 40) rfl rfl k2 k1) (fun c4 => ?_) (fun c4 => ?_)
  · refine jg_sg 2 (pc1 := 33) (lv1 := [(2, .int z2), (0, .ref a0), (1, .int p0)]) (st1 := [.int 60, .int p0, .long (S.2.1 (a0 + 1) ((1 : Int32).toNatClampNeg))]) (fun _ _ _ => rfl) ?_
    refine jg_st (fun _ _ _ _ _ k => jt_idiv rfl (by decide +kernel) k) ?_
    refine jg_sg 1 (pc1 := 36) (lv1 := [(2, .int z2), (0, .ref a0), (1, .int p0)]) (st1 := [.int 60, .int (p0 / 60), .long (S.2.1 (a0 + 1) ((1 : Int32).toNatClampNeg))]) (fun _ _ _ => rfl) ?_
    refine jg_st (fun _ _ _ _ _ k => jt_irem rfl (by decide +kernel) k) ?_
    refine jg_sg 1 (pc1 := 42) (lv1 := [(2, .int z2), (0, .ref a0), (1, .int p0)]) (st1 := [.int ((p0 / 60) - (p0 / 60) / 60 * 60), .long (S.2.1 (a0 + 1) ((1 : Int32).toNatClampNeg))]) (fun _ _ _ => rfl) ?_
    refine jg_lvs (lv1 := [(0, .ref a0), (1, .int p0), (2, .int z2)]) rfl rfl ⟨rfl, rfl, rfl, trivial⟩ ?_
    exact kJ_C_timeUpTo_42 (by omega) (by omega) S a0 p0 z2 ((p0 / 60) - (p0 / 60) / 60 * 60) (S.2.1 (a0 + 1) ((1 : Int32).toNatClampNeg)) ha0
  · refine jg_sg 1 (pc1 := 42) (lv1 := [(2, .int z2), (0, .ref a0), (1, .int p0)]) (st1 := [.int 59, .long (S.2.1 (a0 + 1) ((1 : Int32).toNatClampNeg))]) (fun _ _ _ => rfl) ?_
    refine jg_lvs (lv1 := [(0, .ref a0), (1, .int p0), (2, .int z2)]) rfl rfl ⟨rfl, rfl, rfl, trivial⟩ ?_
    exact kJ_C_timeUpTo_42 (by omega) (by omega) S a0 p0 z2 59 (S.2.1 (a0 + 1) ((1 : Int32).toNatClampNeg)) ha0
noncomputable def J_F_localUpTo_85 (S : jS) (x4 : Int32) (y0 : Int32) : Option Int64 := some ((((x4 : Int32).toInt64) * 86400) + ((y0 : Int32).toInt64))
set_option maxRecDepth 20000 in
theorem kJ_F_localUpTo_85 {q rF rL : Nat} (hF : 4 ≤ rF) (hL : 103 ≤ rL) (S : jS)  (x4 : Int32) (y0 : Int32) : jg q jp_F_localUpTo rF rL 85 [(4, .int x4)] [.int y0] S 0 (p_L S) (J_F_localUpTo_85 S x4 y0) := by
  unfold J_F_localUpTo_85
  refine jg_sg 8 (pc1 := 98) (lv1 := [(6, .int y0), (4, .int x4)]) (st1 := [.long ((((x4 : Int32).toInt64) * 86400) + ((y0 : Int32).toInt64))]) (fun _ _ _ => rfl) ?_
  exact jg_rl rfl rfl rfl
noncomputable def J_F_localUpTo_57 (S : jS) (x4 : Int32) (x5 : Int32) : Option Int64 := if 0 ≤ x4 then (if 0 ≤ x5 then (J_F_localUpTo_85 S x4 x5) else (j_q (jc_ (S.2.2 32 0)) ((F_C_timeUpTo (S.2.2 32 0) 86399 S).bind (fun z10 => J_F_localUpTo_85 S x4 z10)))) else (some (-1))
set_option maxRecDepth 20000 in
theorem kJ_F_localUpTo_57 {q rF rL : Nat} (hF : 4 ≤ rF) (hL : 103 ≤ rL) (S : jS)  (x4 : Int32) (x5 : Int32) : jg q jp_F_localUpTo rF rL 57 [(0, .ref 32), (4, .int x4), (5, .int x5)] [] S 0 (p_L S) (J_F_localUpTo_57 S x4 x5) := by
  unfold J_F_localUpTo_57
  refine jg_sg 1 (pc1 := 59) (lv1 := [(0, .ref 32), (4, .int x4), (5, .int x5)]) (st1 := [.int x4]) (fun _ _ _ => rfl) ?_
  refine jg_br (fun _ _ _ _ k1 k2 => jt_if_ge (t := 66) rfl rfl k1 k2) (fun c7 => ?_) (fun c7 => ?_)
  · refine jg_sg 1 (pc1 := 68) (lv1 := [(0, .ref 32), (4, .int x4), (5, .int x5)]) (st1 := [.int x5]) (fun _ _ _ => rfl) ?_
    refine jg_br (fun _ _ _ _ k1 k2 => jt_if_ge (t := 83) rfl rfl k1 k2) (fun c8 => ?_) (fun c8 => ?_)
    · refine jg_sg 1 (pc1 := 85) (lv1 := [(0, .ref 32), (4, .int x4), (5, .int x5)]) (st1 := [.int x5]) (fun _ _ _ => rfl) ?_
      refine jg_lvs (lv1 := [(4, .int x4)]) rfl rfl ⟨rfl, trivial⟩ ?_
      exact kJ_F_localUpTo_85 (by omega) (by omega) S x4 x5
    · refine jg_sg 1 (pc1 := 72) (lv1 := [(0, .ref 32), (4, .int x4), (5, .int x5)]) (st1 := [.ref 32]) (fun _ _ _ => rfl) ?_
      refine jg_g (v := .ref (S.2.2 32 0)) rfl kc_32 rfl rfl ?_
      refine jg_q (fun g9 => ?_)
      refine jg_sg 1 (pc1 := 77) (lv1 := [(0, .ref 32), (4, .int x4), (5, .int x5)]) (st1 := [.int 86399, .ref (S.2.2 32 0)]) (fun _ _ _ => rfl) ?_
      refine jg_cpI (m2 := jp_C_timeUpTo) (As := [.ref (S.2.2 32 0), .int 86399]) (r := []) (mx := 6) (jh_v (a := (S.2.2 32 0)) rfl rfl rfl (kc_C g9) rfl (Nat.le_of_ble_eq_true rfl) rfl rfl rfl (by omega) (by omega) (Nat.le_of_ble_eq_true rfl)) (kF_C_timeUpTo (S.2.2 32 0) 86399 S _ _ (by omega) (by omega) g9) (fun z10 => ?_)
      refine jg_sg 1 (pc1 := 85) (lv1 := [(0, .ref 32), (4, .int x4), (5, .int x5)]) (st1 := [.int z10]) (fun _ _ _ => rfl) ?_
      refine jg_lvs (lv1 := [(4, .int x4)]) rfl rfl ⟨rfl, trivial⟩ ?_
      exact kJ_F_localUpTo_85 (by omega) (by omega) S x4 z10
  · refine jg_sg 1 (pc1 := 65) (lv1 := [(0, .ref 32), (4, .int x4), (5, .int x5)]) (st1 := [.long (-1)]) (fun _ _ _ => rfl) ?_
    exact jg_rl rfl rfl rfl
noncomputable def J_F_localUpTo_55 (S : jS) (x5 : Int32) (y0 : Int32) : Option Int64 := J_F_localUpTo_57 S y0 x5
set_option maxRecDepth 20000 in
theorem kJ_F_localUpTo_55 {q rF rL : Nat} (hF : 4 ≤ rF) (hL : 103 ≤ rL) (S : jS)  (x5 : Int32) (y0 : Int32) : jg q jp_F_localUpTo rF rL 55 [(0, .ref 32), (5, .int x5)] [.int y0] S 0 (p_L S) (J_F_localUpTo_55 S x5 y0) := by
  unfold J_F_localUpTo_55
  refine jg_sg 1 (pc1 := 57) (lv1 := [(4, .int y0), (0, .ref 32), (5, .int x5)]) (st1 := []) (fun _ _ _ => rfl) ?_
  refine jg_lvs (lv1 := [(0, .ref 32), (4, .int y0), (5, .int x5)]) rfl rfl ⟨rfl, rfl, rfl, trivial⟩ ?_
  exact kJ_F_localUpTo_57 (by omega) (by omega) S y0 x5
noncomputable def F_F_localUpTo (p0 : Int64) (S : jS) : Option Int64 := (F_D_dayOf p0 S).bind (fun z1 => (F_F_dayUpTo z1 S).bind (fun z2 => if z2 = z1 then (j_q (jc_ (S.2.2 32 0)) ((F_C_timeUpTo (S.2.2 32 0) ((p0 - (((z1 : Int32).toInt64) * 86400) : Int64).toInt32) S).bind (fun z5 => if 0 ≤ z5 then (J_F_localUpTo_55 S z5 z1) else ((F_F_dayUpTo (z1 - 1) S).bind (fun z11 => J_F_localUpTo_55 S z5 z11))))) else (J_F_localUpTo_57 S z2 (-1))))
set_option maxRecDepth 20000 in
theorem kF_F_localUpTo {q : Nat} (p0 : Int64) (S : jS) (rF rL : Nat) (hF : 4 ≤ rF) (hL : 103 ≤ rL)  : jg q jp_F_localUpTo rF rL 0 [(0, .ref 32), (1, .long p0)] [] S 0 (p_L S) (F_F_localUpTo p0 S) := by
  unfold F_F_localUpTo
  refine jg_sg 1 (pc1 := 1) (lv1 := [(0, .ref 32), (1, .long p0)]) (st1 := [.long p0]) (fun _ _ _ => rfl) ?_
  refine jg_cpI (m2 := jp_D_dayOf) (As := [.long p0]) (r := []) (mx := 2) (jh_s rfl (fun _ _ _ => rfl) rfl rfl rfl (by omega) (by omega) (Nat.le_of_ble_eq_true rfl)) (kF_D_dayOf p0 S _ _ (by omega) (by omega) ) (fun z1 => ?_)
  refine jg_sg 3 (pc1 := 7) (lv1 := [(3, .int z1), (0, .ref 32), (1, .long p0)]) (st1 := [.int z1, .ref 32]) (fun _ _ _ => rfl) ?_
  refine jg_cpI (m2 := jp_F_dayUpTo) (As := [.ref 32, .int z1]) (r := []) (mx := 9) (jh_v (a := 32) rfl rfl rfl kc_32 rfl (Nat.le_of_ble_eq_true rfl) rfl rfl rfl (by omega) (by omega) (Nat.le_of_ble_eq_true rfl)) (kF_F_dayUpTo z1 S _ _ (by omega) (by omega) ) (fun z2 => ?_)
  refine jg_sg 5 (pc1 := 18) (lv1 := [(5, .int (-1)), (4, .int z2), (3, .int z1), (0, .ref 32), (1, .long p0)]) (st1 := [.int z1, .int z2]) (fun _ _ _ => rfl) ?_
  refine jg_br (fun _ _ _ _ k1 k2 => jt_icmp_ne (t := 57) rfl rfl k2 k1) (fun c3 => ?_) (fun c3 => ?_)
  · refine jg_sg 1 (pc1 := 22) (lv1 := [(5, .int (-1)), (4, .int z2), (3, .int z1), (0, .ref 32), (1, .long p0)]) (st1 := [.ref 32]) (fun _ _ _ => rfl) ?_
    refine jg_g (v := .ref (S.2.2 32 0)) rfl kc_32 rfl rfl ?_
    refine jg_q (fun g4 => ?_)
    refine jg_sg 7 (pc1 := 34) (lv1 := [(5, .int (-1)), (4, .int z2), (3, .int z1), (0, .ref 32), (1, .long p0)]) (st1 := [.int ((p0 - (((z1 : Int32).toInt64) * 86400) : Int64).toInt32), .ref (S.2.2 32 0)]) (fun _ _ _ => rfl) ?_
    refine jg_cpI (m2 := jp_C_timeUpTo) (As := [.ref (S.2.2 32 0), .int ((p0 - (((z1 : Int32).toInt64) * 86400) : Int64).toInt32)]) (r := []) (mx := 6) (jh_v (a := (S.2.2 32 0)) rfl rfl rfl (kc_C g4) rfl (Nat.le_of_ble_eq_true rfl) rfl rfl rfl (by omega) (by omega) (Nat.le_of_ble_eq_true rfl)) (kF_C_timeUpTo (S.2.2 32 0) ((p0 - (((z1 : Int32).toInt64) * 86400) : Int64).toInt32) S _ _ (by omega) (by omega) g4) (fun z5 => ?_)
    refine jg_sg 2 (pc1 := 41) (lv1 := [(5, .int z5), (4, .int z2), (3, .int z1), (0, .ref 32), (1, .long p0)]) (st1 := [.int z5]) (fun _ _ _ => rfl) ?_
    refine jg_br (fun _ _ _ _ k1 k2 => jt_if_ge (t := 54) rfl rfl k1 k2) (fun c6 => ?_) (fun c6 => ?_)
    · refine jg_sg 1 (pc1 := 55) (lv1 := [(5, .int z5), (4, .int z2), (3, .int z1), (0, .ref 32), (1, .long p0)]) (st1 := [.int z1]) (fun _ _ _ => rfl) ?_
      refine jg_lvs (lv1 := [(0, .ref 32), (5, .int z5)]) rfl rfl ⟨rfl, rfl, trivial⟩ ?_
      exact kJ_F_localUpTo_55 (by omega) (by omega) S z5 z1
    · refine jg_sg 4 (pc1 := 48) (lv1 := [(5, .int z5), (4, .int z2), (3, .int z1), (0, .ref 32), (1, .long p0)]) (st1 := [.int (z1 - 1), .ref 32]) (fun _ _ _ => rfl) ?_
      refine jg_cpI (m2 := jp_F_dayUpTo) (As := [.ref 32, .int (z1 - 1)]) (r := []) (mx := 9) (jh_v (a := 32) rfl rfl rfl kc_32 rfl (Nat.le_of_ble_eq_true rfl) rfl rfl rfl (by omega) (by omega) (Nat.le_of_ble_eq_true rfl)) (kF_F_dayUpTo (z1 - 1) S _ _ (by omega) (by omega) ) (fun z11 => ?_)
      refine jg_sg 1 (pc1 := 55) (lv1 := [(5, .int z5), (4, .int z2), (3, .int z1), (0, .ref 32), (1, .long p0)]) (st1 := [.int z11]) (fun _ _ _ => rfl) ?_
      refine jg_lvs (lv1 := [(0, .ref 32), (5, .int z5)]) rfl rfl ⟨rfl, rfl, trivial⟩ ?_
      exact kJ_F_localUpTo_55 (by omega) (by omega) S z5 z11
  · refine jg_lvs (lv1 := [(0, .ref 32), (4, .int z2), (5, .int (-1))]) rfl rfl ⟨rfl, rfl, rfl, trivial⟩ ?_
    exact kJ_F_localUpTo_57 (by omega) (by omega) S z2 (-1)
noncomputable def J_F_latestUpTo_169 (kt9 : Int64 → Int32 → jS → Option (Int64 × jS)) (x3 : Int64) (x5 : Int32) (x8 : Int64) (S : jS) : Option (Int64 × jS) := if ((0 : Int64)) ≤ x8 then (j_q (jz_ (S.2.2 32 1)) ((F_Math_min2 x3 (x8 - ((S.1 (S.2.2 32 1) 0 : Int32).toInt64)) S).bind (fun z18 => kt9 z18 (x5 + 1) S))) else (some (-1, S))
set_option maxRecDepth 20000 in
theorem kJ_F_latestUpTo_169 {q rF rL : Nat} (hF : 5 ≤ rF) (hL : 129 ≤ rL)  (kt9 : Int64 → Int32 → jS → Option (Int64 × jS)) (ih9 : ∀ (x3 : Int64) (x5 : Int32) (S : jS), jg q jp_F_latestUpTo rF rL 9 [(0, .ref 32), (3, .long x3), (5, .int x5)] [] S 0 s_L (kt9 x3 x5 S)) (x3 : Int64) (x5 : Int32) (x8 : Int64) (S : jS) : jg q jp_F_latestUpTo rF rL 169 [(0, .ref 32), (3, .long x3), (5, .int x5), (8, .long x8)] [] S 0 s_L (J_F_latestUpTo_169 kt9 x3 x5 x8 S) := by
  unfold J_F_latestUpTo_169
  refine jg_sg 3 (pc1 := 173) (lv1 := [(0, .ref 32), (3, .long x3), (5, .int x5), (8, .long x8)]) (st1 := [.int (lg_cmp x8 0)]) (fun _ _ _ => rfl) ?_
  refine jg_br (fun _ _ _ _ k1 k2 => jt_lif_ge (t := 180) rfl rfl k1 k2) (fun c16 => ?_) (fun c16 => ?_)
  · refine jg_sg 3 (pc1 := 184) (lv1 := [(0, .ref 32), (3, .long x3), (5, .int x5), (8, .long x8)]) (st1 := [.ref 32, .long x8, .long x3]) (fun _ _ _ => rfl) ?_
    refine jg_g (v := .ref (S.2.2 32 1)) rfl kc_32 rfl rfl ?_
    refine jg_q (fun g17 => ?_)
    refine jg_g (v := .int (S.1 (S.2.2 32 1) 0)) rfl (kc_Z g17) rfl rfl ?_
    refine jg_sg 2 (pc1 := 192) (lv1 := [(0, .ref 32), (3, .long x3), (5, .int x5), (8, .long x8)]) (st1 := [.long (x8 - ((S.1 (S.2.2 32 1) 0 : Int32).toInt64)), .long x3]) (fun _ _ _ => rfl) ?_
    refine jg_cpL (m2 := jp_Math_min2) (As := [.long x3, .long (x8 - ((S.1 (S.2.2 32 1) 0 : Int32).toInt64))]) (r := []) (mx := 4) (jh_s rfl (fun _ _ _ => rfl) rfl rfl rfl (by omega) (by omega) (Nat.le_of_ble_eq_true rfl)) (kF_Math_min2 x3 (x8 - ((S.1 (S.2.2 32 1) 0 : Int32).toInt64)) S _ _ (by omega) (by omega) ) (fun z18 => ?_)
    refine jg_sg 3 (pc1 := 9) (lv1 := [(5, .int (x5 + 1)), (3, .long z18), (0, .ref 32), (8, .long x8)]) (st1 := []) (fun _ _ _ => rfl) ?_
    refine jg_lvs (lv1 := [(0, .ref 32), (3, .long z18), (5, .int (x5 + 1))]) rfl rfl ⟨rfl, rfl, rfl, trivial⟩ ?_
    exact ih9 z18 (x5 + 1) S
  · refine jg_sg 1 (pc1 := 179) (lv1 := [(0, .ref 32), (3, .long x3), (5, .int x5), (8, .long x8)]) (st1 := [.long (-1)]) (fun _ _ _ => rfl) ?_
    exact jg_rl rfl rfl rfl
noncomputable def J_F_latestUpTo_93 (kt9 : Int64 → Int32 → jS → Option (Int64 × jS)) (x5 : Int32) (x6 : Int64) (x8 : Int64) (S : jS) : Option (Int64 × jS) := j_q (jz_ (S.2.2 32 1)) (if ((0 : Int64)) < (S.2.1 (S.2.2 32 1) 4) then (j_q (jz_ (S.2.2 32 1)) (j_l ((S.2.1 (S.2.2 32 1) 4) - 1 : Int64) (fun v12 => j_q (jz_ (S.2.2 32 1)) (j_q (jz_ (S.2.2 32 1)) (if ((v12 + ((S.1 (S.2.2 32 1) 0 : Int32).toInt64)) + ((S.1 (S.2.2 32 1) 1 : Int32).toInt64)) ≤ x6 then (J_F_latestUpTo_169 kt9 v12 x5 x8 S) else (j_q (jz_ (S.2.2 32 1)) (j_q (jz_ (S.2.2 32 1)) ((F_F_localUpTo ((v12 + ((S.1 (S.2.2 32 1) 0 : Int32).toInt64)) + ((S.1 (S.2.2 32 1) 1 : Int32).toInt64)) S).bind (fun z21 => J_F_latestUpTo_169 kt9 v12 x5 z21 S))))))))) else (some (-1, S)))
set_option maxRecDepth 20000 in
theorem kJ_F_latestUpTo_93 {q rF rL : Nat} (hF : 5 ≤ rF) (hL : 129 ≤ rL)  (kt9 : Int64 → Int32 → jS → Option (Int64 × jS)) (ih9 : ∀ (x3 : Int64) (x5 : Int32) (S : jS), jg q jp_F_latestUpTo rF rL 9 [(0, .ref 32), (3, .long x3), (5, .int x5)] [] S 0 s_L (kt9 x3 x5 S)) (x5 : Int32) (x6 : Int64) (x8 : Int64) (S : jS) : jg q jp_F_latestUpTo rF rL 93 [(0, .ref 32), (5, .int x5), (6, .long x6), (8, .long x8)] [] S 0 s_L (J_F_latestUpTo_93 kt9 x5 x6 x8 S) := by
  unfold J_F_latestUpTo_93
  refine jg_sg 1 (pc1 := 94) (lv1 := [(0, .ref 32), (5, .int x5), (6, .long x6), (8, .long x8)]) (st1 := [.ref 32]) (fun _ _ _ => rfl) ?_
  refine jg_g (v := .ref (S.2.2 32 1)) rfl kc_32 rfl rfl ?_
  refine jg_q (fun g9 => ?_)
  refine jg_g (v := .long (S.2.1 (S.2.2 32 1) 4)) rfl (kc_Z g9) rfl rfl ?_
  refine jg_sg 2 (pc1 := 102) (lv1 := [(0, .ref 32), (5, .int x5), (6, .long x6), (8, .long x8)]) (st1 := [.int (lg_cmp (S.2.1 (S.2.2 32 1) 4) 0)]) (fun _ _ _ => rfl) ?_
  refine jg_br (fun _ _ _ _ k1 k2 => jt_lif_gt (t := 109) rfl rfl k1 k2) (fun c10 => ?_) (fun c10 => ?_)
  · refine jg_sg 1 (pc1 := 110) (lv1 := [(0, .ref 32), (5, .int x5), (6, .long x6), (8, .long x8)]) (st1 := [.ref 32]) (fun _ _ _ => rfl) ?_
    refine jg_g (v := .ref (S.2.2 32 1)) rfl kc_32 rfl rfl ?_
    refine jg_q (fun g11 => ?_)
    refine jg_g (v := .long (S.2.1 (S.2.2 32 1) 4)) rfl (kc_Z g11) rfl rfl ?_
    refine jg_sg 3 (pc1 := 119) (lv1 := [(3, .long ((S.2.1 (S.2.2 32 1) 4) - 1)), (0, .ref 32), (5, .int x5), (6, .long x6), (8, .long x8)]) (st1 := []) (fun _ _ _ => rfl) ?_
    refine jg_vl (fun v12 => ?_)
    refine jg_sg 2 (pc1 := 121) (lv1 := [(3, .long v12), (0, .ref 32), (5, .int x5), (6, .long x6), (8, .long x8)]) (st1 := [.ref 32, .long v12]) (fun _ _ _ => rfl) ?_
    refine jg_g (v := .ref (S.2.2 32 1)) rfl kc_32 rfl rfl ?_
    refine jg_q (fun g13 => ?_)
    refine jg_g (v := .int (S.1 (S.2.2 32 1) 0)) rfl (kc_Z g13) rfl rfl ?_
    refine jg_sg 3 (pc1 := 130) (lv1 := [(3, .long v12), (0, .ref 32), (5, .int x5), (6, .long x6), (8, .long x8)]) (st1 := [.ref 32, .long (v12 + ((S.1 (S.2.2 32 1) 0 : Int32).toInt64))]) (fun _ _ _ => rfl) ?_
    refine jg_g (v := .ref (S.2.2 32 1)) rfl kc_32 rfl rfl ?_
    refine jg_q (fun g14 => ?_)
    refine jg_g (v := .int (S.1 (S.2.2 32 1) 1)) rfl (kc_Z g14) rfl rfl ?_
    refine jg_sg 4 (pc1 := 141) (lv1 := [(3, .long v12), (0, .ref 32), (5, .int x5), (6, .long x6), (8, .long x8)]) (st1 := [.int (lg_cmp ((v12 + ((S.1 (S.2.2 32 1) 0 : Int32).toInt64)) + ((S.1 (S.2.2 32 1) 1 : Int32).toInt64)) x6)]) (fun _ _ _ => rfl) ?_
    refine jg_br (fun _ _ _ _ k1 k2 => jt_lif_le (t := 169) rfl rfl k1 k2) (fun c15 => ?_) (fun c15 => ?_)
    · refine jg_lvs (lv1 := [(0, .ref 32), (3, .long v12), (5, .int x5), (8, .long x8)]) rfl rfl ⟨rfl, rfl, rfl, rfl, trivial⟩ ?_
      exact kJ_F_latestUpTo_169 (by omega) (by omega) kt9 ih9 v12 x5 x8 S
    · refine jg_sg 3 (pc1 := 147) (lv1 := [(3, .long v12), (0, .ref 32), (5, .int x5), (6, .long x6), (8, .long x8)]) (st1 := [.ref 32, .long v12, .ref 32]) (fun _ _ _ => rfl) ?_
      refine jg_g (v := .ref (S.2.2 32 1)) rfl kc_32 rfl rfl ?_
      refine jg_q (fun g19 => ?_)
      refine jg_g (v := .int (S.1 (S.2.2 32 1) 0)) rfl (kc_Z g19) rfl rfl ?_
      refine jg_sg 3 (pc1 := 156) (lv1 := [(3, .long v12), (0, .ref 32), (5, .int x5), (6, .long x6), (8, .long x8)]) (st1 := [.ref 32, .long (v12 + ((S.1 (S.2.2 32 1) 0 : Int32).toInt64)), .ref 32]) (fun _ _ _ => rfl) ?_
      refine jg_g (v := .ref (S.2.2 32 1)) rfl kc_32 rfl rfl ?_
      refine jg_q (fun g20 => ?_)
      refine jg_g (v := .int (S.1 (S.2.2 32 1) 1)) rfl (kc_Z g20) rfl rfl ?_
      refine jg_sg 2 (pc1 := 164) (lv1 := [(3, .long v12), (0, .ref 32), (5, .int x5), (6, .long x6), (8, .long x8)]) (st1 := [.long ((v12 + ((S.1 (S.2.2 32 1) 0 : Int32).toInt64)) + ((S.1 (S.2.2 32 1) 1 : Int32).toInt64)), .ref 32]) (fun _ _ _ => rfl) ?_
      refine jg_cpL (m2 := jp_F_localUpTo) (As := [.ref 32, .long ((v12 + ((S.1 (S.2.2 32 1) 0 : Int32).toInt64)) + ((S.1 (S.2.2 32 1) 1 : Int32).toInt64))]) (r := []) (mx := 7) (jh_v (a := 32) rfl rfl rfl kc_32 rfl (Nat.le_of_ble_eq_true rfl) rfl rfl rfl (by omega) (by omega) (Nat.le_of_ble_eq_true rfl)) (kF_F_localUpTo ((v12 + ((S.1 (S.2.2 32 1) 0 : Int32).toInt64)) + ((S.1 (S.2.2 32 1) 1 : Int32).toInt64)) S _ _ (by omega) (by omega) ) (fun z21 => ?_)
      refine jg_sg 1 (pc1 := 169) (lv1 := [(8, .long z21), (3, .long v12), (0, .ref 32), (5, .int x5), (6, .long x6)]) (st1 := []) (fun _ _ _ => rfl) ?_
      refine jg_lvs (lv1 := [(0, .ref 32), (3, .long v12), (5, .int x5), (8, .long z21)]) rfl rfl ⟨rfl, rfl, rfl, rfl, trivial⟩ ?_
      exact kJ_F_latestUpTo_169 (by omega) (by omega) kt9 ih9 v12 x5 z21 S
  · refine jg_sg 1 (pc1 := 108) (lv1 := [(0, .ref 32), (5, .int x5), (6, .long x6), (8, .long x8)]) (st1 := [.long (-1)]) (fun _ _ _ => rfl) ?_
    exact jg_rl rfl rfl rfl
noncomputable def L_F_latestUpTo_9  : Nat → Int64 → Int32 → jS → Option (Int64 × jS)
  | 0, _, _, _ => none
  | f + 1, x3, x5, S => if 10000 ≤ x5 then (some (-1, S)) else (if x3 < 0 then (some (-1, S)) else (j_q (jz_ (S.2.2 32 1)) ((F_Z_offsetAt (S.2.2 32 1) x3 S).bind (fun z5 => j_l (x3 + ((z5.1 : Int32).toInt64) : Int64) (fun v6 => (F_F_localUpTo v6 z5.2).bind (fun z7 => if z7 < 0 then (J_F_latestUpTo_93 (L_F_latestUpTo_9 f) x5 v6 z7 z5.2) else (j_q (jz_ (z5.2.2.2 32 1)) (j_q (jz_ (z5.2.2.2 32 1)) ((F_Math_max2 (z5.2.2.1 (z5.2.2.2 32 1) 4) 0 z5.2).bind (fun z24 => if (z7 - ((z5.2.1 (z5.2.2.2 32 1) 6 : Int32).toInt64)) < z24 then (J_F_latestUpTo_93 (L_F_latestUpTo_9 f) x5 v6 z7 z5.2) else (j_q (jz_ (z5.2.2.2 32 1)) (some ((z7 - ((z5.2.1 (z5.2.2.2 32 1) 6 : Int32).toInt64)) * 1000, z5.2)))))))))))))
set_option maxRecDepth 20000 in
theorem kL_F_latestUpTo_9 {q rF rL : Nat} (hF : 5 ≤ rF) (hL : 129 ≤ rL)   : ∀ (f : Nat) (x3 : Int64) (x5 : Int32) (S : jS), jg q jp_F_latestUpTo rF rL 9 [(0, .ref 32), (3, .long x3), (5, .int x5)] [] S 0 s_L (L_F_latestUpTo_9 f x3 x5 S) := by
  intro f
  induction f with
  | zero => intro _ _ _; exact jg_none
  | succ f ih9 =>
    intro x3 x5 S
    rw [L_F_latestUpTo_9]
    refine jg_sg 2 (pc1 := 14) (lv1 := [(0, .ref 32), (3, .long x3), (5, .int x5)]) (st1 := [.int 10000, .int x5]) (fun _ _ _ => rfl) ?_
    refine jg_br (fun _ _ _ _ k1 k2 => jt_icmp_ge (t := 202) rfl rfl k1 k2) (fun c2 => ?_) (fun c2 => ?_)
    · refine jg_sg 1 (pc1 := 205) (lv1 := [(0, .ref 32), (3, .long x3), (5, .int x5)]) (st1 := [.long (-1)]) (fun _ _ _ => rfl) ?_
      exact jg_rl rfl rfl rfl
    · refine jg_sg 3 (pc1 := 20) (lv1 := [(0, .ref 32), (3, .long x3), (5, .int x5)]) (st1 := [.int (lg_cmp x3 0)]) (fun _ _ _ => rfl) ?_
      refine jg_br (fun _ _ _ _ k1 k2 => jt_lif_lt (t := 202) rfl rfl k1 k2) (fun c3 => ?_) (fun c3 => ?_)
      · refine jg_sg 1 (pc1 := 205) (lv1 := [(0, .ref 32), (3, .long x3), (5, .int x5)]) (st1 := [.long (-1)]) (fun _ _ _ => rfl) ?_
        exact jg_rl rfl rfl rfl
      · refine jg_sg 2 (pc1 := 25) (lv1 := [(0, .ref 32), (3, .long x3), (5, .int x5)]) (st1 := [.ref 32, .long x3]) (fun _ _ _ => rfl) ?_
        refine jg_g (v := .ref (S.2.2 32 1)) rfl kc_32 rfl rfl ?_
        refine jg_q (fun g4 => ?_)
        refine jg_sg 1 (pc1 := 29) (lv1 := [(0, .ref 32), (3, .long x3), (5, .int x5)]) (st1 := [.long x3, .ref (S.2.2 32 1), .long x3]) (fun _ _ _ => rfl) ?_
        refine jg_csI (m2 := jp_Z_offsetAt) (As := [.ref (S.2.2 32 1), .long x3]) (r := [.long x3]) (mx := 3) (jh_v (a := (S.2.2 32 1)) rfl rfl rfl (kc_Z g4) rfl (Nat.le_of_ble_eq_true rfl) rfl rfl rfl (by omega) (by omega) (Nat.le_of_ble_eq_true rfl)) (kF_Z_offsetAt (S.2.2 32 1) x3 S _ _ (by omega) (by omega) g4) (fun z5 => ?_)
        refine jg_sg 3 (pc1 := 36) (lv1 := [(6, .long (x3 + ((z5.1 : Int32).toInt64))), (0, .ref 32), (3, .long x3), (5, .int x5)]) (st1 := []) (fun _ _ _ => rfl) ?_
        refine jg_vl (fun v6 => ?_)
        refine jg_sg 2 (pc1 := 39) (lv1 := [(6, .long v6), (0, .ref 32), (3, .long x3), (5, .int x5)]) (st1 := [.long v6, .ref 32]) (fun _ _ _ => rfl) ?_
        refine jg_cpL (m2 := jp_F_localUpTo) (As := [.ref 32, .long v6]) (r := []) (mx := 7) (jh_v (a := 32) rfl rfl rfl kc_32 rfl (Nat.le_of_ble_eq_true rfl) rfl rfl rfl (by omega) (by omega) (Nat.le_of_ble_eq_true rfl)) (kF_F_localUpTo v6 z5.2 _ _ (by omega) (by omega) ) (fun z7 => ?_)
        refine jg_sg 4 (pc1 := 48) (lv1 := [(8, .long z7), (6, .long v6), (0, .ref 32), (3, .long x3), (5, .int x5)]) (st1 := [.int (lg_cmp z7 0)]) (fun _ _ _ => rfl) ?_
        refine jg_br (fun _ _ _ _ k1 k2 => jt_lif_lt (t := 93) rfl rfl k1 k2) (fun c8 => ?_) (fun c8 => ?_)
        · refine jg_lvs (lv1 := [(0, .ref 32), (5, .int x5), (6, .long v6), (8, .long z7)]) rfl rfl ⟨rfl, rfl, rfl, rfl, trivial⟩ ?_
          exact kJ_F_latestUpTo_93 (by omega) (by omega) (L_F_latestUpTo_9 f) ih9 x5 v6 z7 z5.2
        · refine jg_sg 2 (pc1 := 54) (lv1 := [(8, .long z7), (6, .long v6), (0, .ref 32), (3, .long x3), (5, .int x5)]) (st1 := [.ref 32, .long z7]) (fun _ _ _ => rfl) ?_
          refine jg_g (v := .ref (z5.2.2.2 32 1)) rfl kc_32 rfl rfl ?_
          refine jg_q (fun g22 => ?_)
          refine jg_g (v := .int (z5.2.1 (z5.2.2.2 32 1) 6)) rfl (kc_Z g22) rfl rfl ?_
          refine jg_sg 3 (pc1 := 63) (lv1 := [(8, .long z7), (6, .long v6), (0, .ref 32), (3, .long x3), (5, .int x5)]) (st1 := [.ref 32, .long (z7 - ((z5.2.1 (z5.2.2.2 32 1) 6 : Int32).toInt64))]) (fun _ _ _ => rfl) ?_
          refine jg_g (v := .ref (z5.2.2.2 32 1)) rfl kc_32 rfl rfl ?_
          refine jg_q (fun g23 => ?_)
          refine jg_g (v := .long (z5.2.2.1 (z5.2.2.2 32 1) 4)) rfl (kc_Z g23) rfl rfl ?_
          refine jg_sg 1 (pc1 := 70) (lv1 := [(8, .long z7), (6, .long v6), (0, .ref 32), (3, .long x3), (5, .int x5)]) (st1 := [.long 0, .long (z5.2.2.1 (z5.2.2.2 32 1) 4), .long (z7 - ((z5.2.1 (z5.2.2.2 32 1) 6 : Int32).toInt64))]) (fun _ _ _ => rfl) ?_
          refine jg_cpL (m2 := jp_Math_max2) (As := [.long (z5.2.2.1 (z5.2.2.2 32 1) 4), .long 0]) (r := [.long (z7 - ((z5.2.1 (z5.2.2.2 32 1) 6 : Int32).toInt64))]) (mx := 4) (jh_s rfl (fun _ _ _ => rfl) rfl rfl rfl (by omega) (by omega) (Nat.le_of_ble_eq_true rfl)) (kF_Math_max2 (z5.2.2.1 (z5.2.2.2 32 1) 4) 0 z5.2 _ _ (by omega) (by omega) ) (fun z24 => ?_)
          refine jg_sg 1 (pc1 := 74) (lv1 := [(8, .long z7), (6, .long v6), (0, .ref 32), (3, .long x3), (5, .int x5)]) (st1 := [.int (lg_cmp (z7 - ((z5.2.1 (z5.2.2.2 32 1) 6 : Int32).toInt64)) z24)]) (fun _ _ _ => rfl) ?_
          refine jg_br (fun _ _ _ _ k1 k2 => jt_lif_lt (t := 93) rfl rfl k1 k2) (fun c25 => ?_) (fun c25 => ?_)
          · refine jg_lvs (lv1 := [(0, .ref 32), (5, .int x5), (6, .long v6), (8, .long z7)]) rfl rfl ⟨rfl, rfl, rfl, rfl, trivial⟩ ?_
            exact kJ_F_latestUpTo_93 (by omega) (by omega) (L_F_latestUpTo_9 f) ih9 x5 v6 z7 z5.2
          · refine jg_sg 2 (pc1 := 80) (lv1 := [(8, .long z7), (6, .long v6), (0, .ref 32), (3, .long x3), (5, .int x5)]) (st1 := [.ref 32, .long z7]) (fun _ _ _ => rfl) ?_
            refine jg_g (v := .ref (z5.2.2.2 32 1)) rfl kc_32 rfl rfl ?_
            refine jg_q (fun g26 => ?_)
            refine jg_g (v := .int (z5.2.1 (z5.2.2.2 32 1) 6)) rfl (kc_Z g26) rfl rfl ?_
            refine jg_sg 4 (pc1 := 92) (lv1 := [(8, .long z7), (6, .long v6), (0, .ref 32), (3, .long x3), (5, .int x5)]) (st1 := [.long ((z7 - ((z5.2.1 (z5.2.2.2 32 1) 6 : Int32).toInt64)) * 1000)]) (fun _ _ _ => rfl) ?_
            exact jg_rl rfl rfl rfl
noncomputable def F_F_latestUpTo (p0 : Int64) (S : jS) : Option (Int64 × jS) := j_l (p0 / 1000 : Int64) (fun v1 => L_F_latestUpTo_9 ju_ v1 0 S)
set_option maxRecDepth 20000 in
theorem kF_F_latestUpTo {q : Nat} (p0 : Int64) (S : jS) (rF rL : Nat) (hF : 5 ≤ rF) (hL : 129 ≤ rL)  : jg q jp_F_latestUpTo rF rL 0 [(0, .ref 32), (1, .long p0)] [] S 0 s_L (F_F_latestUpTo p0 S) := by
  unfold F_F_latestUpTo
  refine jg_sg 2 (pc1 := 4) (lv1 := [(0, .ref 32), (1, .long p0)]) (st1 := [.long 1000, .long p0]) (fun _ _ _ => rfl) ?_
  refine jg_st (fun _ _ _ _ _ k => jt_ldiv rfl (by decide +kernel) k) ?_
  refine jg_sg 1 (pc1 := 6) (lv1 := [(3, .long (p0 / 1000)), (0, .ref 32), (1, .long p0)]) (st1 := []) (fun _ _ _ => rfl) ?_
  refine jg_vl (fun v1 => ?_)
  refine jg_sg 2 (pc1 := 9) (lv1 := [(5, .int 0), (3, .long v1), (0, .ref 32), (1, .long p0)]) (st1 := []) (fun _ _ _ => rfl) ?_
  refine jg_lvs (lv1 := [(0, .ref 32), (3, .long v1), (5, .int 0)]) rfl rfl ⟨rfl, rfl, rfl, trivial⟩ ?_
  exact kL_F_latestUpTo_9 (by omega) (by omega) ju_ v1 0 S
noncomputable def F_J_last (p0 : Int32) (p1 : Int32) (p2 : Int32) (p3 : Int64) (S : jS) : Option ((Int64 ⊕ Nat) × jS) := j_xv (F_J_checkSearch p0 p1 p2 S) (fun c S => (.inr c, S)) (fun S1 => j_xv (F_J_checkRange p3 0 10413791999999 S1) (fun c S => (.inr c, S)) (fun S2 => (F_J_aimAt p0 p1 p2 S2).bind (fun z3 => (F_F_latestUpTo p3 z3).bind (fun z4 => some (.inl z4.1, z4.2)))))
set_option maxRecDepth 20000 in
theorem kF_J_last {q : Nat} (p0 : Int32) (p1 : Int32) (p2 : Int32) (p3 : Int64) (S : jS) (rF rL : Nat) (hF : 8 ≤ rF) (hL : 158 ≤ rL)  : jg q jp_J_last rF rL 0 [(0, .ref 24), (1, .int p0), (2, .int p1), (3, .int p2), (4, .long p3)] [] S 0 x_L (F_J_last p0 p1 p2 p3 S) := by
  unfold F_J_last
  refine jg_sg 3 (pc1 := 3) (lv1 := [(0, .ref 24), (1, .int p0), (2, .int p1), (3, .int p2), (4, .long p3)]) (st1 := [.int p2, .int p1, .int p0]) (fun _ _ _ => rfl) ?_
  refine jg_cxV (m2 := jp_J_checkSearch) (As := [.int p0, .int p1, .int p2]) (r := []) (mx := 3) (jh_s rfl (fun _ _ _ => rfl) rfl rfl rfl (by omega) (by omega) (Nat.le_of_ble_eq_true rfl)) rfl (fun _ _ => rfl) (kF_J_checkSearch p0 p1 p2 S _ _ (by omega) (by omega) ) (fun S1 => ?_)
  refine jg_sg 3 (pc1 := 12) (lv1 := [(0, .ref 24), (1, .int p0), (2, .int p1), (3, .int p2), (4, .long p3)]) (st1 := [.long 10413791999999, .long 0, .long p3]) (fun _ _ _ => rfl) ?_
  refine jg_cxV (m2 := jp_J_checkRange) (As := [.long p3, .long 0, .long 10413791999999]) (r := []) (mx := 6) (jh_s rfl (fun _ _ _ => rfl) rfl rfl rfl (by omega) (by omega) (Nat.le_of_ble_eq_true rfl)) rfl (fun _ _ => rfl) (kF_J_checkRange p3 0 10413791999999 S1 _ _ (by omega) (by omega) ) (fun S2 => ?_)
  refine jg_sg 4 (pc1 := 19) (lv1 := [(0, .ref 24), (1, .int p0), (2, .int p1), (3, .int p2), (4, .long p3)]) (st1 := [.int p2, .int p1, .int p0, .ref 24]) (fun _ _ _ => rfl) ?_
  refine jg_csV (m2 := jp_J_aimAt) (As := [.ref 24, .int p0, .int p1, .int p2]) (r := []) (mx := 4) (jh_v (a := 24) rfl rfl rfl kc_24 rfl (Nat.le_of_ble_eq_true rfl) rfl rfl rfl (by omega) (by omega) (Nat.le_of_ble_eq_true rfl)) (kF_J_aimAt p0 p1 p2 S2 _ _ (by omega) (by omega) ) (fun z3 => ?_)
  refine jg_sg 1 (pc1 := 23) (lv1 := [(0, .ref 24), (1, .int p0), (2, .int p1), (3, .int p2), (4, .long p3)]) (st1 := [.ref 24]) (fun _ _ _ => rfl) ?_
  refine jg_g (v := .ref 32) rfl kc_24 rfl rfl ?_
  refine jg_sg 1 (pc1 := 28) (lv1 := [(0, .ref 24), (1, .int p0), (2, .int p1), (3, .int p2), (4, .long p3)]) (st1 := [.long p3, .ref 32]) (fun _ _ _ => rfl) ?_
  refine jg_csL (m2 := jp_F_latestUpTo) (As := [.ref 32, .long p3]) (r := []) (mx := 10) (jh_v (a := 32) rfl rfl rfl kc_32 rfl (Nat.le_of_ble_eq_true rfl) rfl rfl rfl (by omega) (by omega) (Nat.le_of_ble_eq_true rfl)) (kF_F_latestUpTo p3 z3 _ _ (by omega) (by omega) ) (fun z4 => ?_)
  exact jg_rl rfl rfl rfl
noncomputable def F_Math_floorMod2 (p0 : Int64) (p1 : Int64) (S : jS) : Option Int64 := j_q (!decide (p1 = 0)) (j_l (p0 - p0 / p1 * p1 : Int64) (fun v2 => if ((0 : Int64)) ≤ (p0 ^^^ p1) then (some v2) else (if v2 = 0 then (some v2) else (some (v2 + p1)))))
set_option maxRecDepth 20000 in
theorem kF_Math_floorMod2 {q : Nat} (p0 : Int64) (p1 : Int64) (S : jS) (rF rL : Nat) (hF : 0 ≤ rF) (hL : 0 ≤ rL)  : jg q jp_Math_floorMod2 rF rL 0 [(0, .long p0), (2, .long p1)] [] S 0 (p_L S) (F_Math_floorMod2 p0 p1 S) := by
  unfold F_Math_floorMod2
  refine jg_sg 2 (pc1 := 2) (lv1 := [(0, .long p0), (2, .long p1)]) (st1 := [.long p1, .long p0]) (fun _ _ _ => rfl) ?_
  refine jg_q (fun g1 => ?_)
  refine jg_st (fun _ _ _ _ _ k => jt_lrem rfl (by simpa using g1) k) ?_
  refine jg_sg 1 (pc1 := 5) (lv1 := [(4, .long (p0 - p0 / p1 * p1)), (0, .long p0), (2, .long p1)]) (st1 := []) (fun _ _ _ => rfl) ?_
  refine jg_vl (fun v2 => ?_)
  refine jg_sg 5 (pc1 := 10) (lv1 := [(4, .long v2), (0, .long p0), (2, .long p1)]) (st1 := [.int (lg_cmp (p0 ^^^ p1) 0)]) (fun _ _ _ => rfl) ?_
  refine jg_br (fun _ _ _ _ k1 k2 => jt_lif_ge (t := 25) rfl rfl k1 k2) (fun c3 => ?_) (fun c3 => ?_)
  · refine jg_sg 1 (pc1 := 27) (lv1 := [(4, .long v2), (0, .long p0), (2, .long p1)]) (st1 := [.long v2]) (fun _ _ _ => rfl) ?_
    exact jg_rl rfl rfl rfl
  · refine jg_sg 3 (pc1 := 17) (lv1 := [(4, .long v2), (0, .long p0), (2, .long p1)]) (st1 := [.int (lg_cmp v2 0)]) (fun _ _ _ => rfl) ?_
    refine jg_br (fun _ _ _ _ k1 k2 => jt_lif_eq (t := 25) rfl rfl k1 k2) (fun c4 => ?_) (fun c4 => ?_)
    · refine jg_sg 1 (pc1 := 27) (lv1 := [(4, .long v2), (0, .long p0), (2, .long p1)]) (st1 := [.long v2]) (fun _ _ _ => rfl) ?_
      exact jg_rl rfl rfl rfl
    · refine jg_sg 3 (pc1 := 24) (lv1 := [(4, .long v2), (0, .long p0), (2, .long p1)]) (st1 := [.long (v2 + p1)]) (fun _ _ _ => rfl) ?_
      exact jg_rl rfl rfl rfl
noncomputable def F_J_local (p0 : Int32) (p1 : Int64) (p2 : Int32) (S : jS) : Option ((Int32 ⊕ Nat) × jS) := j_xv (F_J_checkRange ((p0 : Int32).toInt64) 0 7 S) (fun c S => (.inr c, S)) (fun S1 => j_xv (F_J_checkRange p1 0 10413791999999 S1) (fun c S => (.inr c, S)) (fun S2 => j_xv (F_J_checkRange ((p2 : Int32).toInt64) 0 7 S2) (fun c S => (.inr c, S)) (fun S3 => j_q (j_in p0 8) (j_q (jz_ (S3.2.2 27 ((p0 : Int32).toNatClampNeg))) ((F_Z_offsetAt (S3.2.2 27 ((p0 : Int32).toNatClampNeg)) (p1 / 1000) S3).bind (fun z6 => j_l ((p1 / 1000) + ((z6.1 : Int32).toInt64) : Int64) (fun v7 => (F_Math_floorMod2 v7 86400 z6.2).bind (fun z8 => j_l ((z8 : Int64).toInt32 : Int32) (fun v9 => (F_D_dayOf v7 z6.2).bind (fun z10 => (F_D_yearOf z10 z6.2).bind (fun z11 => (F_D_monthOf z10 z11 z6.2).bind (fun z12 => if p2 = 0 then (some (.inl (v9 - v9 / 60 * 60), z6.2)) else (if p2 = 1 then (some (.inl ((v9 / 60) - (v9 / 60) / 60 * 60), z6.2)) else (if p2 = 2 then (some (.inl (v9 / 3600), z6.2)) else (if p2 = 3 then ((F_D_firstOfMonth z11 z12 z6.2).bind (fun z17 => some (.inl ((z10 - z17) + 1), z6.2))) else (if p2 = 4 then (some (.inl z12, z6.2)) else (if p2 = 5 then (some (.inl z11, z6.2)) else (if p2 = 6 then ((F_D_weekdayOf z10 z6.2).bind (fun z21 => some (.inl z21, z6.2))) else (some (.inl (z6.1 / 60), z6.2))))))))))))))))))))
set_option maxRecDepth 20000 in
theorem kF_J_local {q : Nat} (p0 : Int32) (p1 : Int64) (p2 : Int32) (S : jS) (rF rL : Nat) (hF : 7 ≤ rF) (hL : 128 ≤ rL)  : jg q jp_J_local rF rL 0 [(0, .ref 24), (1, .int p0), (2, .long p1), (4, .int p2)] [] S 0 x_I (F_J_local p0 p1 p2 S) := by
  unfold F_J_local
  refine jg_sg 4 (pc1 := 6) (lv1 := [(0, .ref 24), (1, .int p0), (2, .long p1), (4, .int p2)]) (st1 := [.long 7, .long 0, .long ((p0 : Int32).toInt64)]) (fun _ _ _ => rfl) ?_
  refine jg_cxV (m2 := jp_J_checkRange) (As := [.long ((p0 : Int32).toInt64), .long 0, .long 7]) (r := []) (mx := 6) (jh_s rfl (fun _ _ _ => rfl) rfl rfl rfl (by omega) (by omega) (Nat.le_of_ble_eq_true rfl)) rfl (fun _ _ => rfl) (kF_J_checkRange ((p0 : Int32).toInt64) 0 7 S _ _ (by omega) (by omega) ) (fun S1 => ?_)
  refine jg_sg 3 (pc1 := 14) (lv1 := [(0, .ref 24), (1, .int p0), (2, .long p1), (4, .int p2)]) (st1 := [.long 10413791999999, .long 0, .long p1]) (fun _ _ _ => rfl) ?_
  refine jg_cxV (m2 := jp_J_checkRange) (As := [.long p1, .long 0, .long 10413791999999]) (r := []) (mx := 6) (jh_s rfl (fun _ _ _ => rfl) rfl rfl rfl (by omega) (by omega) (Nat.le_of_ble_eq_true rfl)) rfl (fun _ _ => rfl) (kF_J_checkRange p1 0 10413791999999 S1 _ _ (by omega) (by omega) ) (fun S2 => ?_)
  refine jg_sg 4 (pc1 := 24) (lv1 := [(0, .ref 24), (1, .int p0), (2, .long p1), (4, .int p2)]) (st1 := [.long 7, .long 0, .long ((p2 : Int32).toInt64)]) (fun _ _ _ => rfl) ?_
  refine jg_cxV (m2 := jp_J_checkRange) (As := [.long ((p2 : Int32).toInt64), .long 0, .long 7]) (r := []) (mx := 6) (jh_s rfl (fun _ _ _ => rfl) rfl rfl rfl (by omega) (by omega) (Nat.le_of_ble_eq_true rfl)) rfl (fun _ _ => rfl) (kF_J_checkRange ((p2 : Int32).toInt64) 0 7 S2 _ _ (by omega) (by omega) ) (fun S3 => ?_)
  refine jg_sg 1 (pc1 := 28) (lv1 := [(0, .ref 24), (1, .int p0), (2, .long p1), (4, .int p2)]) (st1 := [.ref 24]) (fun _ _ _ => rfl) ?_
  refine jg_g (v := .ref 27) rfl kc_24 rfl rfl ?_
  refine jg_sg 1 (pc1 := 32) (lv1 := [(0, .ref 24), (1, .int p0), (2, .long p1), (4, .int p2)]) (st1 := [.int p0, .ref 27]) (fun _ _ _ => rfl) ?_
  refine jg_aal (w := S3.2.2 27 ((p0 : Int32).toNatClampNeg)) rfl rfl kc_27 rfl (fun g4 => ?_)
  refine jg_q (fun g5 => ?_)
  refine jg_sg 2 (pc1 := 37) (lv1 := [(0, .ref 24), (1, .int p0), (2, .long p1), (4, .int p2)]) (st1 := [.long 1000, .long p1, .ref (S3.2.2 27 ((p0 : Int32).toNatClampNeg))]) (fun _ _ _ => rfl) ?_
  refine jg_st (fun _ _ _ _ _ k => jt_ldiv rfl (by decide +kernel) k) ?_
  refine jg_csI (m2 := jp_Z_offsetAt) (As := [.ref (S3.2.2 27 ((p0 : Int32).toNatClampNeg)), .long (p1 / 1000)]) (r := []) (mx := 3) (jh_v (a := (S3.2.2 27 ((p0 : Int32).toNatClampNeg))) rfl rfl rfl (kc_Z g5) rfl (Nat.le_of_ble_eq_true rfl) rfl rfl rfl (by omega) (by omega) (Nat.le_of_ble_eq_true rfl)) (kF_Z_offsetAt (S3.2.2 27 ((p0 : Int32).toNatClampNeg)) (p1 / 1000) S3 _ _ (by omega) (by omega) g5) (fun z6 => ?_)
  refine jg_sg 3 (pc1 := 47) (lv1 := [(5, .int z6.1), (0, .ref 24), (1, .int p0), (2, .long p1), (4, .int p2)]) (st1 := [.long 1000, .long p1]) (fun _ _ _ => rfl) ?_
  refine jg_st (fun _ _ _ _ _ k => jt_ldiv rfl (by decide +kernel) k) ?_
  refine jg_sg 4 (pc1 := 54) (lv1 := [(6, .long ((p1 / 1000) + ((z6.1 : Int32).toInt64))), (5, .int z6.1), (0, .ref 24), (1, .int p0), (2, .long p1), (4, .int p2)]) (st1 := []) (fun _ _ _ => rfl) ?_
  refine jg_vl (fun v7 => ?_)
  refine jg_sg 2 (pc1 := 59) (lv1 := [(6, .long v7), (5, .int z6.1), (0, .ref 24), (1, .int p0), (2, .long p1), (4, .int p2)]) (st1 := [.long 86400, .long v7]) (fun _ _ _ => rfl) ?_
  refine jg_cpL (m2 := jp_Math_floorMod2) (As := [.long v7, .long 86400]) (r := []) (mx := 6) (jh_s rfl (fun _ _ _ => rfl) rfl rfl rfl (by omega) (by omega) (Nat.le_of_ble_eq_true rfl)) (kF_Math_floorMod2 v7 86400 z6.2 _ _ (by omega) (by omega) ) (fun z8 => ?_)
  refine jg_sg 2 (pc1 := 65) (lv1 := [(8, .int ((z8 : Int64).toInt32)), (6, .long v7), (5, .int z6.1), (0, .ref 24), (1, .int p0), (2, .long p1), (4, .int p2)]) (st1 := []) (fun _ _ _ => rfl) ?_
  refine jg_vi (fun v9 => ?_)
  refine jg_sg 1 (pc1 := 67) (lv1 := [(8, .int v9), (6, .long v7), (5, .int z6.1), (0, .ref 24), (1, .int p0), (2, .long p1), (4, .int p2)]) (st1 := [.long v7]) (fun _ _ _ => rfl) ?_
  refine jg_cpI (m2 := jp_D_dayOf) (As := [.long v7]) (r := []) (mx := 2) (jh_s rfl (fun _ _ _ => rfl) rfl rfl rfl (by omega) (by omega) (Nat.le_of_ble_eq_true rfl)) (kF_D_dayOf v7 z6.2 _ _ (by omega) (by omega) ) (fun z10 => ?_)
  refine jg_sg 2 (pc1 := 74) (lv1 := [(9, .int z10), (8, .int v9), (6, .long v7), (5, .int z6.1), (0, .ref 24), (1, .int p0), (2, .long p1), (4, .int p2)]) (st1 := [.int z10]) (fun _ _ _ => rfl) ?_
  refine jg_cpI (m2 := jp_D_yearOf) (As := [.int z10]) (r := []) (mx := 2) (jh_s rfl (fun _ _ _ => rfl) rfl rfl rfl (by omega) (by omega) (Nat.le_of_ble_eq_true rfl)) (kF_D_yearOf z10 z6.2 _ _ (by omega) (by omega) ) (fun z11 => ?_)
  refine jg_sg 3 (pc1 := 83) (lv1 := [(10, .int z11), (9, .int z10), (8, .int v9), (6, .long v7), (5, .int z6.1), (0, .ref 24), (1, .int p0), (2, .long p1), (4, .int p2)]) (st1 := [.int z11, .int z10]) (fun _ _ _ => rfl) ?_
  refine jg_cpI (m2 := jp_D_monthOf) (As := [.int z10, .int z11]) (r := []) (mx := 3) (jh_s rfl (fun _ _ _ => rfl) rfl rfl rfl (by omega) (by omega) (Nat.le_of_ble_eq_true rfl)) (kF_D_monthOf z10 z11 z6.2 _ _ (by omega) (by omega) ) (fun z12 => ?_)
  refine jg_sg 2 (pc1 := 90) (lv1 := [(11, .int z12), (10, .int z11), (9, .int z10), (8, .int v9), (6, .long v7), (5, .int z6.1), (0, .ref 24), (1, .int p0), (2, .long p1), (4, .int p2)]) (st1 := [.int p2]) (fun _ _ _ => rfl) ?_
  refine jg_sw (fun _ _ _ _ e k => jt_tabEq (t := 132) (off := 42) rfl e (by decide) rfl rfl k) (fun c13 => ?_) (fun c13 => ?_)
  · refine jg_sg 2 (pc1 := 136) (lv1 := [(11, .int z12), (10, .int z11), (9, .int z10), (8, .int v9), (6, .long v7), (5, .int z6.1), (0, .ref 24), (1, .int p0), (2, .long p1), (4, .int p2)]) (st1 := [.int 60, .int v9]) (fun _ _ _ => rfl) ?_
    refine jg_st (fun _ _ _ _ _ k => jt_irem rfl (by decide +kernel) k) ?_
    exact jg_ri rfl rfl rfl rfl
  · skip
    refine jg_sw (fun _ _ _ _ e k => jt_tabEq (t := 138) (off := 48) rfl e (by decide) rfl rfl k) (fun c14 => ?_) (fun c14 => ?_)
    · refine jg_sg 2 (pc1 := 142) (lv1 := [(11, .int z12), (10, .int z11), (9, .int z10), (8, .int v9), (6, .long v7), (5, .int z6.1), (0, .ref 24), (1, .int p0), (2, .long p1), (4, .int p2)]) (st1 := [.int 60, .int v9]) (fun _ _ _ => rfl) ?_
      refine jg_st (fun _ _ _ _ _ k => jt_idiv rfl (by decide +kernel) k) ?_
      refine jg_sg 1 (pc1 := 145) (lv1 := [(11, .int z12), (10, .int z11), (9, .int z10), (8, .int v9), (6, .long v7), (5, .int z6.1), (0, .ref 24), (1, .int p0), (2, .long p1), (4, .int p2)]) (st1 := [.int 60, .int (v9 / 60)]) (fun _ _ _ => rfl) ?_
      refine jg_st (fun _ _ _ _ _ k => jt_irem rfl (by decide +kernel) k) ?_
      exact jg_ri rfl rfl rfl rfl
    · skip
      refine jg_sw (fun _ _ _ _ e k => jt_tabEq (t := 147) (off := 57) rfl e (by decide) rfl rfl k) (fun c15 => ?_) (fun c15 => ?_)
      · refine jg_sg 2 (pc1 := 152) (lv1 := [(11, .int z12), (10, .int z11), (9, .int z10), (8, .int v9), (6, .long v7), (5, .int z6.1), (0, .ref 24), (1, .int p0), (2, .long p1), (4, .int p2)]) (st1 := [.int 3600, .int v9]) (fun _ _ _ => rfl) ?_
        refine jg_st (fun _ _ _ _ _ k => jt_idiv rfl (by decide +kernel) k) ?_
        exact jg_ri rfl rfl rfl rfl
      · skip
        refine jg_sw (fun _ _ _ _ e k => jt_tabEq (t := 154) (off := 64) rfl e (by decide) rfl rfl k) (fun c16 => ?_) (fun c16 => ?_)
        · refine jg_sg 3 (pc1 := 160) (lv1 := [(11, .int z12), (10, .int z11), (9, .int z10), (8, .int v9), (6, .long v7), (5, .int z6.1), (0, .ref 24), (1, .int p0), (2, .long p1), (4, .int p2)]) (st1 := [.int z12, .int z11, .int z10]) (fun _ _ _ => rfl) ?_
          refine jg_cpI (m2 := jp_D_firstOfMonth) (As := [.int z11, .int z12]) (r := [.int z10]) (mx := 5) (jh_s rfl (fun _ _ _ => rfl) rfl rfl rfl (by omega) (by omega) (Nat.le_of_ble_eq_true rfl)) (kF_D_firstOfMonth z11 z12 z6.2 _ _ (by omega) (by omega) ) (fun z17 => ?_)
          refine jg_sg 3 (pc1 := 166) (lv1 := [(11, .int z12), (10, .int z11), (9, .int z10), (8, .int v9), (6, .long v7), (5, .int z6.1), (0, .ref 24), (1, .int p0), (2, .long p1), (4, .int p2)]) (st1 := [.int ((z10 - z17) + 1)]) (fun _ _ _ => rfl) ?_
          exact jg_ri rfl rfl rfl rfl
        · skip
          refine jg_sw (fun _ _ _ _ e k => jt_tabEq (t := 167) (off := 77) rfl e (by decide) rfl rfl k) (fun c18 => ?_) (fun c18 => ?_)
          · refine jg_sg 1 (pc1 := 169) (lv1 := [(11, .int z12), (10, .int z11), (9, .int z10), (8, .int v9), (6, .long v7), (5, .int z6.1), (0, .ref 24), (1, .int p0), (2, .long p1), (4, .int p2)]) (st1 := [.int z12]) (fun _ _ _ => rfl) ?_
            exact jg_ri rfl rfl rfl rfl
          · skip
            refine jg_sw (fun _ _ _ _ e k => jt_tabEq (t := 170) (off := 80) rfl e (by decide) rfl rfl k) (fun c19 => ?_) (fun c19 => ?_)
            · refine jg_sg 1 (pc1 := 172) (lv1 := [(11, .int z12), (10, .int z11), (9, .int z10), (8, .int v9), (6, .long v7), (5, .int z6.1), (0, .ref 24), (1, .int p0), (2, .long p1), (4, .int p2)]) (st1 := [.int z11]) (fun _ _ _ => rfl) ?_
              exact jg_ri rfl rfl rfl rfl
            · skip
              refine jg_sw (fun _ _ _ _ e k => jt_tabEq (t := 173) (off := 83) rfl e (by decide) rfl rfl k) (fun c20 => ?_) (fun c20 => ?_)
              · refine jg_sg 1 (pc1 := 175) (lv1 := [(11, .int z12), (10, .int z11), (9, .int z10), (8, .int v9), (6, .long v7), (5, .int z6.1), (0, .ref 24), (1, .int p0), (2, .long p1), (4, .int p2)]) (st1 := [.int z10]) (fun _ _ _ => rfl) ?_
                refine jg_cpI (m2 := jp_D_weekdayOf) (As := [.int z10]) (r := []) (mx := 1) (jh_s rfl (fun _ _ _ => rfl) rfl rfl rfl (by omega) (by omega) (Nat.le_of_ble_eq_true rfl)) (kF_D_weekdayOf z10 z6.2 _ _ (by omega) (by omega) ) (fun z21 => ?_)
                exact jg_ri rfl rfl rfl rfl
              · skip
                refine jg_st (fun _ _ _ _ _ k => jt_tabOut (t := 179) rfl (by have q0 := lv_neT c13 (a := 0) rfl; have q1 := lv_neT c14 (a := 1) rfl; have q2 := lv_neT c15 (a := 2) rfl; have q3 := lv_neT c16 (a := 3) rfl; have q4 := lv_neT c18 (a := 4) rfl; have q5 := lv_neT c19 (a := 5) rfl; have q6 := lv_neT c20 (a := 6) rfl; omega) rfl k) ?_
                refine jg_sg 2 (pc1 := 183) (lv1 := [(11, .int z12), (10, .int z11), (9, .int z10), (8, .int v9), (6, .long v7), (5, .int z6.1), (0, .ref 24), (1, .int p0), (2, .long p1), (4, .int p2)]) (st1 := [.int 60, .int z6.1]) (fun _ _ _ => rfl) ?_
                refine jg_st (fun _ _ _ _ _ k => jt_idiv rfl (by decide +kernel) k) ?_
                exact jg_ri rfl rfl rfl rfl
noncomputable def F_J_checkRun (p0 : Int64) (p1 : Int32) (p2 : Int32) (S : jS) : Option (Option Nat × jS) := j_xv (F_J_checkRange p0 0 1099511627776 S) (fun c S => (some c, S)) (fun S1 => j_xv (F_J_checkRange ((p1 : Int32).toInt64) 0 2 S1) (fun c S => (some c, S)) (fun S2 => j_xv (F_J_checkRange ((p2 : Int32).toInt64) 0 1152921504606846976 S2) (fun c S => (some c, S)) (fun S3 => some (none, S3))))
set_option maxRecDepth 20000 in
theorem kF_J_checkRun {q : Nat} (p0 : Int64) (p1 : Int32) (p2 : Int32) (S : jS) (rF rL : Nat) (hF : 7 ≤ rF) (hL : 106 ≤ rL)  : jg q jp_J_checkRun rF rL 0 [(0, .long p0), (2, .int p1), (3, .int p2)] [] S 0 x_V (F_J_checkRun p0 p1 p2 S) := by
  unfold F_J_checkRun
  refine jg_sg 3 (pc1 := 5) (lv1 := [(0, .long p0), (2, .int p1), (3, .int p2)]) (st1 := [.long 1099511627776, .long 0, .long p0]) (fun _ _ _ => rfl) ?_
  refine jg_cxV (m2 := jp_J_checkRange) (As := [.long p0, .long 0, .long 1099511627776]) (r := []) (mx := 6) (jh_s rfl (fun _ _ _ => rfl) rfl rfl rfl (by omega) (by omega) (Nat.le_of_ble_eq_true rfl)) rfl (fun _ _ => rfl) (kF_J_checkRange p0 0 1099511627776 S _ _ (by omega) (by omega) ) (fun S1 => ?_)
  refine jg_sg 4 (pc1 := 14) (lv1 := [(0, .long p0), (2, .int p1), (3, .int p2)]) (st1 := [.long 2, .long 0, .long ((p1 : Int32).toInt64)]) (fun _ _ _ => rfl) ?_
  refine jg_cxV (m2 := jp_J_checkRange) (As := [.long ((p1 : Int32).toInt64), .long 0, .long 2]) (r := []) (mx := 6) (jh_s rfl (fun _ _ _ => rfl) rfl rfl rfl (by omega) (by omega) (Nat.le_of_ble_eq_true rfl)) rfl (fun _ _ => rfl) (kF_J_checkRange ((p1 : Int32).toInt64) 0 2 S1 _ _ (by omega) (by omega) ) (fun S2 => ?_)
  refine jg_sg 4 (pc1 := 23) (lv1 := [(0, .long p0), (2, .int p1), (3, .int p2)]) (st1 := [.long 1152921504606846976, .long 0, .long ((p2 : Int32).toInt64)]) (fun _ _ _ => rfl) ?_
  refine jg_cxV (m2 := jp_J_checkRange) (As := [.long ((p2 : Int32).toInt64), .long 0, .long 1152921504606846976]) (r := []) (mx := 6) (jh_s rfl (fun _ _ _ => rfl) rfl rfl rfl (by omega) (by omega) (Nat.le_of_ble_eq_true rfl)) rfl (fun _ _ => rfl) (kF_J_checkRange ((p2 : Int32).toInt64) 0 1152921504606846976 S2 _ _ (by omega) (by omega) ) (fun S3 => ?_)
  exact jg_rv rfl rfl rfl
noncomputable def F_J_checkOpen  (S : jS) : Option (Option Nat × jS) := if (S.1 24 16) = 0 then (some (none, S)) else (some (some 13, S))
set_option maxRecDepth 20000 in
theorem kF_J_checkOpen {q : Nat}  (S : jS) (rF rL : Nat) (hF : 6 ≤ rF) (hL : 81 ≤ rL)  : jg q jp_J_checkOpen rF rL 0 [(0, .ref 24)] [] S 0 x_V (F_J_checkOpen S) := by
  unfold F_J_checkOpen
  refine jg_sg 1 (pc1 := 1) (lv1 := [(0, .ref 24)]) (st1 := [.ref 24]) (fun _ _ _ => rfl) ?_
  refine jg_g (v := .int (S.1 24 16)) rfl kc_24 rfl rfl ?_
  refine jg_br (fun _ _ _ _ k1 k2 => jt_if_eq (t := 15) rfl rfl k1 k2) (fun c1 => ?_) (fun c1 => ?_)
  · exact jg_rv rfl rfl rfl
  · exact jg_thr rfl (fun _ _ _ => rfl) rfl (by omega) (by show 0 + 81 ≤ rL; omega) rfl
noncomputable def L_J_freeSlot_2  : Nat → Int32 → jS → Option ((Int32 ⊕ Nat) × jS)
  | 0, _, _ => none
  | f + 1, x1, S => if 100 ≤ x1 then (some (.inr 10, S)) else (j_q (j_in x1 100) (if (S.1 (115 + ((x1 : Int32).toNatClampNeg)) 0) = 0 then (some (.inl x1, S)) else ((L_J_freeSlot_2 f) (x1 + 1) S)))
set_option maxRecDepth 20000 in
theorem kL_J_freeSlot_2 {q rF rL : Nat} (hF : 6 ≤ rF) (hL : 81 ≤ rL)   : ∀ (f : Nat) (x1 : Int32) (S : jS), jg q jp_J_freeSlot rF rL 2 [(0, .ref 24), (1, .int x1)] [] S 0 x_I (L_J_freeSlot_2 f x1 S) := by
  intro f
  induction f with
  | zero => intro _ _; exact jg_none
  | succ f ih2 =>
    intro x1 S
    rw [L_J_freeSlot_2]
    refine jg_sg 2 (pc1 := 5) (lv1 := [(0, .ref 24), (1, .int x1)]) (st1 := [.int 100, .int x1]) (fun _ _ _ => rfl) ?_
    refine jg_br (fun _ _ _ _ k1 k2 => jt_icmp_ge (t := 28) rfl rfl k1 k2) (fun c1 => ?_) (fun c1 => ?_)
    · exact jg_thr rfl (fun _ _ _ => rfl) rfl (by omega) (by show 0 + 81 ≤ rL; omega) rfl
    · refine jg_sg 1 (pc1 := 9) (lv1 := [(0, .ref 24), (1, .int x1)]) (st1 := [.ref 24]) (fun _ _ _ => rfl) ?_
      refine jg_g (v := .ref 45) rfl kc_24 rfl rfl ?_
      refine jg_sg 1 (pc1 := 13) (lv1 := [(0, .ref 24), (1, .int x1)]) (st1 := [.int x1, .ref 45]) (fun _ _ _ => rfl) ?_
      refine jg_aal (w := 115 + ((x1 : Int32).toNatClampNeg)) rfl rfl kc_45 rfl (fun g2 => ?_)
      refine jg_g (v := .int (S.1 (115 + ((x1 : Int32).toNatClampNeg)) 0)) rfl (kc_B (jb_m g2)) rfl rfl ?_
      refine jg_br (fun _ _ _ _ k1 k2 => jt_if_ne (t := 22) rfl rfl k2 k1) (fun c3 => ?_) (fun c3 => ?_)
      · refine jg_sg 1 (pc1 := 21) (lv1 := [(0, .ref 24), (1, .int x1)]) (st1 := [.int x1]) (fun _ _ _ => rfl) ?_
        exact jg_ri rfl rfl rfl rfl
      · refine jg_sg 2 (pc1 := 2) (lv1 := [(1, .int (x1 + 1)), (0, .ref 24)]) (st1 := []) (fun _ _ _ => rfl) ?_
        refine jg_lvs (lv1 := [(0, .ref 24), (1, .int (x1 + 1))]) rfl rfl ⟨rfl, rfl, trivial⟩ ?_
        exact ih2 (x1 + 1) S
noncomputable def F_J_freeSlot  (S : jS) : Option ((Int32 ⊕ Nat) × jS) := L_J_freeSlot_2 ju_ 0 S
set_option maxRecDepth 20000 in
theorem kF_J_freeSlot {q : Nat}  (S : jS) (rF rL : Nat) (hF : 6 ≤ rF) (hL : 81 ≤ rL)  : jg q jp_J_freeSlot rF rL 0 [(0, .ref 24)] [] S 0 x_I (F_J_freeSlot S) := by
  unfold F_J_freeSlot
  refine jg_sg 2 (pc1 := 2) (lv1 := [(1, .int 0), (0, .ref 24)]) (st1 := []) (fun _ _ _ => rfl) ?_
  refine jg_lvs (lv1 := [(0, .ref 24), (1, .int 0)]) rfl rfl ⟨rfl, rfl, trivial⟩ ?_
  exact kL_J_freeSlot_2 (by omega) (by omega) ju_ 0 S
noncomputable def F_J_fill (a0 : Nat) (p0 : Int64) (p1 : Int32) (p2 : Int32) (p3 : Int32) (S : jS) : Option jS := j_l (w_i S a0 0 1) (fun S1 => j_l (w_l S1 a0 7 p0) (fun S2 => j_l (w_i S2 a0 8 p1) (fun S3 => j_l (w_i S3 a0 9 p2) (fun S4 => j_l (w_i S4 a0 10 p3) (fun S5 => j_l (w_i S5 a0 3 0) (fun S6 => j_l (w_i S6 a0 2 (S6.1 24 12)) (fun S7 => j_l (w_i S7 24 12 ((S7.1 24 12) + 1)) (fun S8 => j_l (w_i S8 24 11 ((S8.1 24 11) + 1)) (fun S9 => (F_Math_max (S9.1 24 10) (S9.1 24 11) S9).bind (fun z10 => j_l (w_i S9 24 10 z10) (fun S11 => some S11)))))))))))
set_option maxRecDepth 20000 in
theorem kF_J_fill {q : Nat} (a0 : Nat) (p0 : Int64) (p1 : Int32) (p2 : Int32) (p3 : Int32) (S : jS) (rF rL : Nat) (hF : 1 ≤ rF) (hL : 21 ≤ rL) (ha0 : jb_ a0 = true) : jg q jp_J_fill rF rL 0 [(0, .ref 24), (1, .ref a0), (2, .long p0), (4, .int p1), (5, .int p2), (6, .int p3)] [] S 0 s_V (F_J_fill a0 p0 p1 p2 p3 S) := by
  unfold F_J_fill
  refine jg_sg 2 (pc1 := 2) (lv1 := [(0, .ref 24), (1, .ref a0), (2, .long p0), (4, .int p1), (5, .int p2), (6, .int p3)]) (st1 := [.int 1, .ref a0]) (fun _ _ _ => rfl) ?_
  refine jg_pi rfl (kc_B ha0) rfl (Nat.le_of_ble_eq_true rfl) rfl rfl (fun S1 _ => ?_)
  refine jg_sg 2 (pc1 := 7) (lv1 := [(0, .ref 24), (1, .ref a0), (2, .long p0), (4, .int p1), (5, .int p2), (6, .int p3)]) (st1 := [.long p0, .ref a0]) (fun _ _ _ => rfl) ?_
  refine jg_pl rfl (kc_B ha0) rfl (Nat.le_of_ble_eq_true rfl) rfl rfl (fun S2 _ => ?_)
  refine jg_sg 2 (pc1 := 13) (lv1 := [(0, .ref 24), (1, .ref a0), (2, .long p0), (4, .int p1), (5, .int p2), (6, .int p3)]) (st1 := [.int p1, .ref a0]) (fun _ _ _ => rfl) ?_
  refine jg_pi rfl (kc_B ha0) rfl (Nat.le_of_ble_eq_true rfl) rfl rfl (fun S3 _ => ?_)
  refine jg_sg 2 (pc1 := 19) (lv1 := [(0, .ref 24), (1, .ref a0), (2, .long p0), (4, .int p1), (5, .int p2), (6, .int p3)]) (st1 := [.int p2, .ref a0]) (fun _ _ _ => rfl) ?_
  refine jg_pi rfl (kc_B ha0) rfl (Nat.le_of_ble_eq_true rfl) rfl rfl (fun S4 _ => ?_)
  refine jg_sg 2 (pc1 := 25) (lv1 := [(0, .ref 24), (1, .ref a0), (2, .long p0), (4, .int p1), (5, .int p2), (6, .int p3)]) (st1 := [.int p3, .ref a0]) (fun _ _ _ => rfl) ?_
  refine jg_pi rfl (kc_B ha0) rfl (Nat.le_of_ble_eq_true rfl) rfl rfl (fun S5 _ => ?_)
  refine jg_sg 2 (pc1 := 30) (lv1 := [(0, .ref 24), (1, .ref a0), (2, .long p0), (4, .int p1), (5, .int p2), (6, .int p3)]) (st1 := [.int 0, .ref a0]) (fun _ _ _ => rfl) ?_
  refine jg_pi rfl (kc_B ha0) rfl (Nat.le_of_ble_eq_true rfl) rfl rfl (fun S6 _ => ?_)
  refine jg_sg 2 (pc1 := 35) (lv1 := [(0, .ref 24), (1, .ref a0), (2, .long p0), (4, .int p1), (5, .int p2), (6, .int p3)]) (st1 := [.ref 24, .ref a0]) (fun _ _ _ => rfl) ?_
  refine jg_g (v := .int (S6.1 24 12)) rfl kc_24 rfl rfl ?_
  refine jg_pi rfl (kc_B ha0) rfl (Nat.le_of_ble_eq_true rfl) rfl rfl (fun S7 _ => ?_)
  refine jg_sg 2 (pc1 := 43) (lv1 := [(0, .ref 24), (1, .ref a0), (2, .long p0), (4, .int p1), (5, .int p2), (6, .int p3)]) (st1 := [.ref 24, .ref 24]) (fun _ _ _ => rfl) ?_
  refine jg_g (v := .int (S7.1 24 12)) rfl kc_24 rfl rfl ?_
  refine jg_sg 2 (pc1 := 48) (lv1 := [(0, .ref 24), (1, .ref a0), (2, .long p0), (4, .int p1), (5, .int p2), (6, .int p3)]) (st1 := [.int ((S7.1 24 12) + 1), .ref 24]) (fun _ _ _ => rfl) ?_
  refine jg_pi rfl kc_24 rfl (Nat.le_of_ble_eq_true rfl) rfl rfl (fun S8 _ => ?_)
  refine jg_sg 2 (pc1 := 53) (lv1 := [(0, .ref 24), (1, .ref a0), (2, .long p0), (4, .int p1), (5, .int p2), (6, .int p3)]) (st1 := [.ref 24, .ref 24]) (fun _ _ _ => rfl) ?_
  refine jg_g (v := .int (S8.1 24 11)) rfl kc_24 rfl rfl ?_
  refine jg_sg 2 (pc1 := 58) (lv1 := [(0, .ref 24), (1, .ref a0), (2, .long p0), (4, .int p1), (5, .int p2), (6, .int p3)]) (st1 := [.int ((S8.1 24 11) + 1), .ref 24]) (fun _ _ _ => rfl) ?_
  refine jg_pi rfl kc_24 rfl (Nat.le_of_ble_eq_true rfl) rfl rfl (fun S9 _ => ?_)
  refine jg_sg 2 (pc1 := 63) (lv1 := [(0, .ref 24), (1, .ref a0), (2, .long p0), (4, .int p1), (5, .int p2), (6, .int p3)]) (st1 := [.ref 24, .ref 24]) (fun _ _ _ => rfl) ?_
  refine jg_g (v := .int (S9.1 24 10)) rfl kc_24 rfl rfl ?_
  refine jg_sg 1 (pc1 := 67) (lv1 := [(0, .ref 24), (1, .ref a0), (2, .long p0), (4, .int p1), (5, .int p2), (6, .int p3)]) (st1 := [.ref 24, .int (S9.1 24 10), .ref 24]) (fun _ _ _ => rfl) ?_
  refine jg_g (v := .int (S9.1 24 11)) rfl kc_24 rfl rfl ?_
  refine jg_cpI (m2 := jp_Math_max) (As := [.int (S9.1 24 10), .int (S9.1 24 11)]) (r := [.ref 24]) (mx := 2) (jh_s rfl (fun _ _ _ => rfl) rfl rfl rfl (by omega) (by omega) (Nat.le_of_ble_eq_true rfl)) (kF_Math_max (S9.1 24 10) (S9.1 24 11) S9 _ _ (by omega) (by omega) ) (fun z10 => ?_)
  refine jg_pi rfl kc_24 rfl (Nat.le_of_ble_eq_true rfl) rfl rfl (fun S11 _ => ?_)
  exact jg_rv rfl rfl rfl
end JF6
