section JF4
noncomputable def J_Y_firstBehind_35 (S : jS) (x0 : Nat) (x3 : Int32) (x5 : Int32) : Option Int64 := if x5 ≤ 2299 then ((F_Y_secondIn x0 x5 S).bind (fun z4 => some (z4 - ((x3 : Int32).toInt64)))) else (some 1152921504606846976)
set_option maxRecDepth 20000 in
theorem kJ_Y_firstBehind_35 {q rF rL : Nat} (hF : 2 ≤ rF) (hL : 48 ≤ rL) (S : jS)  (x0 : Nat) (x3 : Int32) (x5 : Int32) (hx0 : jy_ x0 = true) : jg q jp_Y_firstBehind rF rL 35 [(0, .ref x0), (3, .int x3), (5, .int x5)] [] S 0 (p_L S) (J_Y_firstBehind_35 S x0 x3 x5) := by
  unfold J_Y_firstBehind_35
  refine jg_sg 2 (pc1 := 40) (lv1 := [(0, .ref x0), (3, .int x3), (5, .int x5)]) (st1 := [.int 2299, .int x5]) (fun _ _ _ => rfl) ?_
  refine jg_br (fun _ _ _ _ k1 k2 => jt_icmp_le (t := 49) rfl rfl k1 k2) (fun c3 => ?_) (fun c3 => ?_)
  · refine jg_sg 2 (pc1 := 52) (lv1 := [(0, .ref x0), (3, .int x3), (5, .int x5)]) (st1 := [.int x5, .ref x0]) (fun _ _ _ => rfl) ?_
    refine jg_cpL (m2 := jp_Y_secondIn) (As := [.ref x0, .int x5]) (r := []) (mx := 5) (jh_v (a := x0) rfl rfl rfl (kc_Y hx0) rfl (Nat.le_of_ble_eq_true rfl) rfl rfl rfl (by omega) (by omega) (Nat.le_of_ble_eq_true rfl)) (kF_Y_secondIn x0 x5 S _ _ (by omega) (by omega) hx0) (fun z4 => ?_)
    refine jg_sg 3 (pc1 := 58) (lv1 := [(0, .ref x0), (3, .int x3), (5, .int x5)]) (st1 := [.long (z4 - ((x3 : Int32).toInt64))]) (fun _ _ _ => rfl) ?_
    exact jg_rl rfl rfl rfl
  · refine jg_sg 2 (pc1 := 58) (lv1 := [(0, .ref x0), (3, .int x3), (5, .int x5)]) (st1 := [.long 1152921504606846976]) (fun _ _ _ => rfl) ?_
    exact jg_rl rfl rfl rfl
noncomputable def F_Y_firstBehind (a0 : Nat) (p0 : Int64) (p1 : Int32) (p2 : Int32) (S : jS) : Option Int64 := (F_Math_max p2 1970 S).bind (fun z1 => if 2299 < z1 then (J_Y_firstBehind_35 S a0 p1 z1) else ((F_Y_secondIn a0 z1 S).bind (fun z5 => if p0 < (z5 - ((p1 : Int32).toInt64)) then (J_Y_firstBehind_35 S a0 p1 z1) else (J_Y_firstBehind_35 S a0 p1 (z1 + 1)))))
set_option maxRecDepth 20000 in
theorem kF_Y_firstBehind {q : Nat} (a0 : Nat) (p0 : Int64) (p1 : Int32) (p2 : Int32) (S : jS) (rF rL : Nat) (hF : 2 ≤ rF) (hL : 48 ≤ rL) (ha0 : jy_ a0 = true) : jg q jp_Y_firstBehind rF rL 0 [(0, .ref a0), (1, .long p0), (3, .int p1), (4, .int p2)] [] S 0 (p_L S) (F_Y_firstBehind a0 p0 p1 p2 S) := by
  unfold F_Y_firstBehind
  refine jg_sg 2 (pc1 := 5) (lv1 := [(0, .ref a0), (1, .long p0), (3, .int p1), (4, .int p2)]) (st1 := [.int 1970, .int p2]) (fun _ _ _ => rfl) ?_
  refine jg_cpI (m2 := jp_Math_max) (As := [.int p2, .int 1970]) (r := []) (mx := 2) (jh_s rfl (fun _ _ _ => rfl) rfl rfl rfl (by omega) (by omega) (Nat.le_of_ble_eq_true rfl)) (kF_Math_max p2 1970 S _ _ (by omega) (by omega) ) (fun z1 => ?_)
  refine jg_sg 3 (pc1 := 15) (lv1 := [(5, .int z1), (0, .ref a0), (1, .long p0), (3, .int p1), (4, .int p2)]) (st1 := [.int 2299, .int z1]) (fun _ _ _ => rfl) ?_
  refine jg_br (fun _ _ _ _ k1 k2 => jt_icmp_gt (t := 35) rfl rfl k1 k2) (fun c2 => ?_) (fun c2 => ?_)
  · refine jg_lvs (lv1 := [(0, .ref a0), (3, .int p1), (5, .int z1)]) rfl rfl ⟨rfl, rfl, rfl, trivial⟩ ?_
    exact kJ_Y_firstBehind_35 (by omega) (by omega) S a0 p1 z1 ha0
  · refine jg_sg 2 (pc1 := 21) (lv1 := [(5, .int z1), (0, .ref a0), (1, .long p0), (3, .int p1), (4, .int p2)]) (st1 := [.int z1, .ref a0]) (fun _ _ _ => rfl) ?_
    refine jg_cpL (m2 := jp_Y_secondIn) (As := [.ref a0, .int z1]) (r := []) (mx := 5) (jh_v (a := a0) rfl rfl rfl (kc_Y ha0) rfl (Nat.le_of_ble_eq_true rfl) rfl rfl rfl (by omega) (by omega) (Nat.le_of_ble_eq_true rfl)) (kF_Y_secondIn a0 z1 S _ _ (by omega) (by omega) ha0) (fun z5 => ?_)
    refine jg_sg 5 (pc1 := 29) (lv1 := [(5, .int z1), (0, .ref a0), (1, .long p0), (3, .int p1), (4, .int p2)]) (st1 := [.int (lg_cmp (z5 - ((p1 : Int32).toInt64)) p0)]) (fun _ _ _ => rfl) ?_
    refine jg_br (fun _ _ _ _ k1 k2 => jt_lif_gt (t := 35) rfl rfl k1 k2) (fun c6 => ?_) (fun c6 => ?_)
    · refine jg_lvs (lv1 := [(0, .ref a0), (3, .int p1), (5, .int z1)]) rfl rfl ⟨rfl, rfl, rfl, trivial⟩ ?_
      exact kJ_Y_firstBehind_35 (by omega) (by omega) S a0 p1 z1 ha0
    · refine jg_sg 1 (pc1 := 35) (lv1 := [(5, .int (z1 + 1)), (0, .ref a0), (1, .long p0), (3, .int p1), (4, .int p2)]) (st1 := []) (fun _ _ _ => rfl) ?_
      refine jg_lvs (lv1 := [(0, .ref a0), (3, .int p1), (5, .int (z1 + 1))]) rfl rfl ⟨rfl, rfl, rfl, trivial⟩ ?_
      exact kJ_Y_firstBehind_35 (by omega) (by omega) S a0 p1 (z1 + 1) ha0
noncomputable def F_Math_max2 (p0 : Int64) (p1 : Int64) (S : jS) : Option Int64 := if p0 < p1 then (some p1) else (some p0)
set_option maxRecDepth 20000 in
theorem kF_Math_max2 {q : Nat} (p0 : Int64) (p1 : Int64) (S : jS) (rF rL : Nat) (hF : 0 ≤ rF) (hL : 0 ≤ rL)  : jg q jp_Math_max2 rF rL 0 [(0, .long p0), (2, .long p1)] [] S 0 (p_L S) (F_Math_max2 p0 p1 S) := by
  unfold F_Math_max2
  refine jg_sg 3 (pc1 := 3) (lv1 := [(0, .long p0), (2, .long p1)]) (st1 := [.int (lg_cmp p0 p1)]) (fun _ _ _ => rfl) ?_
  refine jg_br (fun _ _ _ _ k1 k2 => jt_lif_lt (t := 10) rfl rfl k1 k2) (fun c1 => ?_) (fun c1 => ?_)
  · refine jg_sg 1 (pc1 := 11) (lv1 := [(0, .long p0), (2, .long p1)]) (st1 := [.long p1]) (fun _ _ _ => rfl) ?_
    exact jg_rl rfl rfl rfl
  · refine jg_sg 2 (pc1 := 11) (lv1 := [(0, .long p0), (2, .long p1)]) (st1 := [.long p0]) (fun _ _ _ => rfl) ?_
    exact jg_rl rfl rfl rfl
noncomputable def F_Math_min2 (p0 : Int64) (p1 : Int64) (S : jS) : Option Int64 := if p1 < p0 then (some p1) else (some p0)
set_option maxRecDepth 20000 in
theorem kF_Math_min2 {q : Nat} (p0 : Int64) (p1 : Int64) (S : jS) (rF rL : Nat) (hF : 0 ≤ rF) (hL : 0 ≤ rL)  : jg q jp_Math_min2 rF rL 0 [(0, .long p0), (2, .long p1)] [] S 0 (p_L S) (F_Math_min2 p0 p1 S) := by
  unfold F_Math_min2
  refine jg_sg 3 (pc1 := 3) (lv1 := [(0, .long p0), (2, .long p1)]) (st1 := [.int (lg_cmp p0 p1)]) (fun _ _ _ => rfl) ?_
  refine jg_br (fun _ _ _ _ k1 k2 => jt_lif_gt (t := 10) rfl rfl k1 k2) (fun c1 => ?_) (fun c1 => ?_)
  · refine jg_sg 1 (pc1 := 11) (lv1 := [(0, .long p0), (2, .long p1)]) (st1 := [.long p1]) (fun _ _ _ => rfl) ?_
    exact jg_rl rfl rfl rfl
  · refine jg_sg 2 (pc1 := 11) (lv1 := [(0, .long p0), (2, .long p1)]) (st1 := [.long p0]) (fun _ _ _ => rfl) ?_
    exact jg_rl rfl rfl rfl
noncomputable def J_Z_findStretch_164 (y0 : Int32) (y1 : Nat) (S : jS) : Option jS := j_l (w_i S y1 6 y0) (fun S19 => some S19)
set_option maxRecDepth 20000 in
theorem kJ_Z_findStretch_164 {q rF rL : Nat} (hF : 3 ≤ rF) (hL : 73 ≤ rL)   (y0 : Int32) (y1 : Nat) (S : jS) (hy1 : jz_ y1 = true) : jg q jp_Z_findStretch rF rL 164 [] [.int y0, .ref y1] S 0 s_V (J_Z_findStretch_164 y0 y1 S) := by
  unfold J_Z_findStretch_164
  refine jg_pi rfl (kc_Z hy1) rfl (Nat.le_of_ble_eq_true rfl) rfl rfl (fun S19 _ => ?_)
  exact jg_rv rfl rfl rfl
noncomputable def F_Z_findStretch (a0 : Nat) (p0 : Int64) (S : jS) : Option jS := if (S.1 a0 1) = 0 then (j_l (w_l S a0 4 (-1152921504606846976)) (fun S2 => j_l (w_l S2 a0 5 1152921504606846976) (fun S3 => j_l (w_i S3 a0 6 (S3.1 a0 0)) (fun S4 => some S4)))) else (j_l ((S.1 a0 0) + (S.1 a0 1) : Int32) (fun v5 => (F_D_dayOf (p0 + ((S.1 a0 0 : Int32).toInt64)) S).bind (fun z6 => (F_D_yearOf z6 S).bind (fun z7 => (F_D_dayOf (p0 + ((v5 : Int32).toInt64)) S).bind (fun z8 => (F_D_yearOf z8 S).bind (fun z9 => (F_Y_latestUpTo (a0 + 1) p0 (S.1 a0 0) z7 S).bind (fun z10 => (F_Y_latestUpTo (a0 + 2) p0 v5 z9 S).bind (fun z11 => (F_Y_firstBehind (a0 + 1) p0 (S.1 a0 0) z7 S).bind (fun z12 => (F_Y_firstBehind (a0 + 2) p0 v5 z9 S).bind (fun z13 => (F_Math_max2 z10 z11 S).bind (fun z14 => j_l (w_l S a0 4 z14) (fun S15 => (F_Math_min2 z12 z13 S15).bind (fun z16 => j_l (w_l S15 a0 5 z16) (fun S17 => if z10 ≤ z11 then (J_Z_findStretch_164 (S17.1 a0 0) a0 S17) else (J_Z_findStretch_164 v5 a0 S17)))))))))))))))
set_option maxRecDepth 20000 in
theorem kF_Z_findStretch {q : Nat} (a0 : Nat) (p0 : Int64) (S : jS) (rF rL : Nat) (hF : 3 ≤ rF) (hL : 73 ≤ rL) (ha0 : jz_ a0 = true) : jg q jp_Z_findStretch rF rL 0 [(0, .ref a0), (1, .long p0)] [] S 0 s_V (F_Z_findStretch a0 p0 S) := by
  unfold F_Z_findStretch
  refine jg_sg 1 (pc1 := 1) (lv1 := [(0, .ref a0), (1, .long p0)]) (st1 := [.ref a0]) (fun _ _ _ => rfl) ?_
  refine jg_g (v := .int (S.1 a0 1)) rfl (kc_Z ha0) rfl rfl ?_
  refine jg_br (fun _ _ _ _ k1 k2 => jt_if_ne (t := 30) rfl rfl k2 k1) (fun c1 => ?_) (fun c1 => ?_)
  · refine jg_sg 2 (pc1 := 11) (lv1 := [(0, .ref a0), (1, .long p0)]) (st1 := [.long (-1152921504606846976), .ref a0]) (fun _ _ _ => rfl) ?_
    refine jg_pl rfl (kc_Z ha0) rfl (Nat.le_of_ble_eq_true rfl) rfl rfl (fun S2 _ => ?_)
    refine jg_sg 2 (pc1 := 18) (lv1 := [(0, .ref a0), (1, .long p0)]) (st1 := [.long 1152921504606846976, .ref a0]) (fun _ _ _ => rfl) ?_
    refine jg_pl rfl (kc_Z ha0) rfl (Nat.le_of_ble_eq_true rfl) rfl rfl (fun S3 _ => ?_)
    refine jg_sg 2 (pc1 := 23) (lv1 := [(0, .ref a0), (1, .long p0)]) (st1 := [.ref a0, .ref a0]) (fun _ _ _ => rfl) ?_
    refine jg_g (v := .int (S3.1 a0 0)) rfl (kc_Z ha0) rfl rfl ?_
    refine jg_pi rfl (kc_Z ha0) rfl (Nat.le_of_ble_eq_true rfl) rfl rfl (fun S4 _ => ?_)
    exact jg_rv rfl rfl rfl
  · refine jg_sg 1 (pc1 := 31) (lv1 := [(0, .ref a0), (1, .long p0)]) (st1 := [.ref a0]) (fun _ _ _ => rfl) ?_
    refine jg_g (v := .int (S.1 a0 0)) rfl (kc_Z ha0) rfl rfl ?_
    refine jg_sg 1 (pc1 := 35) (lv1 := [(0, .ref a0), (1, .long p0)]) (st1 := [.ref a0, .int (S.1 a0 0)]) (fun _ _ _ => rfl) ?_
    refine jg_g (v := .int (S.1 a0 1)) rfl (kc_Z ha0) rfl rfl ?_
    refine jg_sg 2 (pc1 := 40) (lv1 := [(3, .int ((S.1 a0 0) + (S.1 a0 1))), (0, .ref a0), (1, .long p0)]) (st1 := []) (fun _ _ _ => rfl) ?_
    refine jg_vi (fun v5 => ?_)
    refine jg_sg 2 (pc1 := 42) (lv1 := [(3, .int v5), (0, .ref a0), (1, .long p0)]) (st1 := [.ref a0, .long p0]) (fun _ _ _ => rfl) ?_
    refine jg_g (v := .int (S.1 a0 0)) rfl (kc_Z ha0) rfl rfl ?_
    refine jg_sg 2 (pc1 := 47) (lv1 := [(3, .int v5), (0, .ref a0), (1, .long p0)]) (st1 := [.long (p0 + ((S.1 a0 0 : Int32).toInt64))]) (fun _ _ _ => rfl) ?_
    refine jg_cpI (m2 := jp_D_dayOf) (As := [.long (p0 + ((S.1 a0 0 : Int32).toInt64))]) (r := []) (mx := 2) (jh_s rfl (fun _ _ _ => rfl) rfl rfl rfl (by omega) (by omega) (Nat.le_of_ble_eq_true rfl)) (kF_D_dayOf (p0 + ((S.1 a0 0 : Int32).toInt64)) S _ _ (by omega) (by omega) ) (fun z6 => ?_)
    refine jg_cpI (m2 := jp_D_yearOf) (As := [.int z6]) (r := []) (mx := 2) (jh_s rfl (fun _ _ _ => rfl) rfl rfl rfl (by omega) (by omega) (Nat.le_of_ble_eq_true rfl)) (kF_D_yearOf z6 S _ _ (by omega) (by omega) ) (fun z7 => ?_)
    refine jg_sg 5 (pc1 := 59) (lv1 := [(4, .int z7), (3, .int v5), (0, .ref a0), (1, .long p0)]) (st1 := [.long (p0 + ((v5 : Int32).toInt64))]) (fun _ _ _ => rfl) ?_
    refine jg_cpI (m2 := jp_D_dayOf) (As := [.long (p0 + ((v5 : Int32).toInt64))]) (r := []) (mx := 2) (jh_s rfl (fun _ _ _ => rfl) rfl rfl rfl (by omega) (by omega) (Nat.le_of_ble_eq_true rfl)) (kF_D_dayOf (p0 + ((v5 : Int32).toInt64)) S _ _ (by omega) (by omega) ) (fun z8 => ?_)
    refine jg_cpI (m2 := jp_D_yearOf) (As := [.int z8]) (r := []) (mx := 2) (jh_s rfl (fun _ _ _ => rfl) rfl rfl rfl (by omega) (by omega) (Nat.le_of_ble_eq_true rfl)) (kF_D_yearOf z8 S _ _ (by omega) (by omega) ) (fun z9 => ?_)
    refine jg_sg 2 (pc1 := 68) (lv1 := [(5, .int z9), (4, .int z7), (3, .int v5), (0, .ref a0), (1, .long p0)]) (st1 := [.ref a0]) (fun _ _ _ => rfl) ?_
    refine jg_g (v := .ref (a0 + 1)) rfl (kc_Z ha0) rfl rfl ?_
    refine jg_sg 2 (pc1 := 73) (lv1 := [(5, .int z9), (4, .int z7), (3, .int v5), (0, .ref a0), (1, .long p0)]) (st1 := [.ref a0, .long p0, .ref (a0 + 1)]) (fun _ _ _ => rfl) ?_
    refine jg_g (v := .int (S.1 a0 0)) rfl (kc_Z ha0) rfl rfl ?_
    refine jg_sg 1 (pc1 := 78) (lv1 := [(5, .int z9), (4, .int z7), (3, .int v5), (0, .ref a0), (1, .long p0)]) (st1 := [.int z7, .int (S.1 a0 0), .long p0, .ref (a0 + 1)]) (fun _ _ _ => rfl) ?_
    refine jg_cpL (m2 := jp_Y_latestUpTo) (As := [.ref (a0 + 1), .long p0, .int (S.1 a0 0), .int z7]) (r := []) (mx := 6) (jh_v (a := (a0 + 1)) rfl rfl rfl (kc_Y (jy_1 ha0)) rfl (Nat.le_of_ble_eq_true rfl) rfl rfl rfl (by omega) (by omega) (Nat.le_of_ble_eq_true rfl)) (kF_Y_latestUpTo (a0 + 1) p0 (S.1 a0 0) z7 S _ _ (by omega) (by omega) ((jy_1 ha0))) (fun z10 => ?_)
    refine jg_sg 2 (pc1 := 84) (lv1 := [(6, .long z10), (5, .int z9), (4, .int z7), (3, .int v5), (0, .ref a0), (1, .long p0)]) (st1 := [.ref a0]) (fun _ _ _ => rfl) ?_
    refine jg_g (v := .ref (a0 + 2)) rfl (kc_Z ha0) rfl rfl ?_
    refine jg_sg 3 (pc1 := 91) (lv1 := [(6, .long z10), (5, .int z9), (4, .int z7), (3, .int v5), (0, .ref a0), (1, .long p0)]) (st1 := [.int z9, .int v5, .long p0, .ref (a0 + 2)]) (fun _ _ _ => rfl) ?_
    refine jg_cpL (m2 := jp_Y_latestUpTo) (As := [.ref (a0 + 2), .long p0, .int v5, .int z9]) (r := []) (mx := 6) (jh_v (a := (a0 + 2)) rfl rfl rfl (kc_Y (jy_2 ha0)) rfl (Nat.le_of_ble_eq_true rfl) rfl rfl rfl (by omega) (by omega) (Nat.le_of_ble_eq_true rfl)) (kF_Y_latestUpTo (a0 + 2) p0 v5 z9 S _ _ (by omega) (by omega) ((jy_2 ha0))) (fun z11 => ?_)
    refine jg_sg 2 (pc1 := 97) (lv1 := [(8, .long z11), (6, .long z10), (5, .int z9), (4, .int z7), (3, .int v5), (0, .ref a0), (1, .long p0)]) (st1 := [.ref a0]) (fun _ _ _ => rfl) ?_
    refine jg_g (v := .ref (a0 + 1)) rfl (kc_Z ha0) rfl rfl ?_
    refine jg_sg 2 (pc1 := 102) (lv1 := [(8, .long z11), (6, .long z10), (5, .int z9), (4, .int z7), (3, .int v5), (0, .ref a0), (1, .long p0)]) (st1 := [.ref a0, .long p0, .ref (a0 + 1)]) (fun _ _ _ => rfl) ?_
    refine jg_g (v := .int (S.1 a0 0)) rfl (kc_Z ha0) rfl rfl ?_
    refine jg_sg 1 (pc1 := 107) (lv1 := [(8, .long z11), (6, .long z10), (5, .int z9), (4, .int z7), (3, .int v5), (0, .ref a0), (1, .long p0)]) (st1 := [.int z7, .int (S.1 a0 0), .long p0, .ref (a0 + 1)]) (fun _ _ _ => rfl) ?_
    refine jg_cpL (m2 := jp_Y_firstBehind) (As := [.ref (a0 + 1), .long p0, .int (S.1 a0 0), .int z7]) (r := []) (mx := 6) (jh_v (a := (a0 + 1)) rfl rfl rfl (kc_Y (jy_1 ha0)) rfl (Nat.le_of_ble_eq_true rfl) rfl rfl rfl (by omega) (by omega) (Nat.le_of_ble_eq_true rfl)) (kF_Y_firstBehind (a0 + 1) p0 (S.1 a0 0) z7 S _ _ (by omega) (by omega) ((jy_1 ha0))) (fun z12 => ?_)
    refine jg_sg 2 (pc1 := 113) (lv1 := [(10, .long z12), (8, .long z11), (6, .long z10), (5, .int z9), (4, .int z7), (3, .int v5), (0, .ref a0), (1, .long p0)]) (st1 := [.ref a0]) (fun _ _ _ => rfl) ?_
    refine jg_g (v := .ref (a0 + 2)) rfl (kc_Z ha0) rfl rfl ?_
    refine jg_sg 3 (pc1 := 120) (lv1 := [(10, .long z12), (8, .long z11), (6, .long z10), (5, .int z9), (4, .int z7), (3, .int v5), (0, .ref a0), (1, .long p0)]) (st1 := [.int z9, .int v5, .long p0, .ref (a0 + 2)]) (fun _ _ _ => rfl) ?_
    refine jg_cpL (m2 := jp_Y_firstBehind) (As := [.ref (a0 + 2), .long p0, .int v5, .int z9]) (r := []) (mx := 6) (jh_v (a := (a0 + 2)) rfl rfl rfl (kc_Y (jy_2 ha0)) rfl (Nat.le_of_ble_eq_true rfl) rfl rfl rfl (by omega) (by omega) (Nat.le_of_ble_eq_true rfl)) (kF_Y_firstBehind (a0 + 2) p0 v5 z9 S _ _ (by omega) (by omega) ((jy_2 ha0))) (fun z13 => ?_)
    refine jg_sg 4 (pc1 := 130) (lv1 := [(12, .long z13), (10, .long z12), (8, .long z11), (6, .long z10), (5, .int z9), (4, .int z7), (3, .int v5), (0, .ref a0), (1, .long p0)]) (st1 := [.long z11, .long z10, .ref a0]) (fun _ _ _ => rfl) ?_
    refine jg_cpL (m2 := jp_Math_max2) (As := [.long z10, .long z11]) (r := [.ref a0]) (mx := 4) (jh_s rfl (fun _ _ _ => rfl) rfl rfl rfl (by omega) (by omega) (Nat.le_of_ble_eq_true rfl)) (kF_Math_max2 z10 z11 S _ _ (by omega) (by omega) ) (fun z14 => ?_)
    refine jg_pl rfl (kc_Z ha0) rfl (Nat.le_of_ble_eq_true rfl) rfl rfl (fun S15 _ => ?_)
    refine jg_sg 3 (pc1 := 141) (lv1 := [(12, .long z13), (10, .long z12), (8, .long z11), (6, .long z10), (5, .int z9), (4, .int z7), (3, .int v5), (0, .ref a0), (1, .long p0)]) (st1 := [.long z13, .long z12, .ref a0]) (fun _ _ _ => rfl) ?_
    refine jg_cpL (m2 := jp_Math_min2) (As := [.long z12, .long z13]) (r := [.ref a0]) (mx := 4) (jh_s rfl (fun _ _ _ => rfl) rfl rfl rfl (by omega) (by omega) (Nat.le_of_ble_eq_true rfl)) (kF_Math_min2 z12 z13 S15 _ _ (by omega) (by omega) ) (fun z16 => ?_)
    refine jg_pl rfl (kc_Z ha0) rfl (Nat.le_of_ble_eq_true rfl) rfl rfl (fun S17 _ => ?_)
    refine jg_sg 4 (pc1 := 153) (lv1 := [(12, .long z13), (10, .long z12), (8, .long z11), (6, .long z10), (5, .int z9), (4, .int z7), (3, .int v5), (0, .ref a0), (1, .long p0)]) (st1 := [.int (lg_cmp z10 z11), .ref a0]) (fun _ _ _ => rfl) ?_
    refine jg_br (fun _ _ _ _ k1 k2 => jt_lif_le (t := 160) rfl rfl k1 k2) (fun c18 => ?_) (fun c18 => ?_)
    · refine jg_sg 1 (pc1 := 161) (lv1 := [(12, .long z13), (10, .long z12), (8, .long z11), (6, .long z10), (5, .int z9), (4, .int z7), (3, .int v5), (0, .ref a0), (1, .long p0)]) (st1 := [.ref a0, .ref a0]) (fun _ _ _ => rfl) ?_
      refine jg_g (v := .int (S17.1 a0 0)) rfl (kc_Z ha0) rfl rfl ?_
      refine jg_lvs (lv1 := []) rfl rfl trivial ?_
      exact kJ_Z_findStretch_164 (by omega) (by omega) (S17.1 a0 0) a0 S17 ha0
    · refine jg_sg 2 (pc1 := 164) (lv1 := [(12, .long z13), (10, .long z12), (8, .long z11), (6, .long z10), (5, .int z9), (4, .int z7), (3, .int v5), (0, .ref a0), (1, .long p0)]) (st1 := [.int v5, .ref a0]) (fun _ _ _ => rfl) ?_
      refine jg_lvs (lv1 := []) rfl rfl trivial ?_
      exact kJ_Z_findStretch_164 (by omega) (by omega) v5 a0 S17 ha0
noncomputable def J_Z_offsetAt_18 (x0 : Nat) (x1 : Int64) (S : jS) : Option (Int32 × jS) := (F_Z_findStretch x0 x1 S).bind (fun z2 => some (z2.1 x0 6, z2))
set_option maxRecDepth 20000 in
theorem kJ_Z_offsetAt_18 {q rF rL : Nat} (hF : 4 ≤ rF) (hL : 106 ≤ rL)   (x0 : Nat) (x1 : Int64) (S : jS) (hx0 : jz_ x0 = true) : jg q jp_Z_offsetAt rF rL 18 [(0, .ref x0), (1, .long x1)] [] S 0 s_I (J_Z_offsetAt_18 x0 x1 S) := by
  unfold J_Z_offsetAt_18
  refine jg_sg 2 (pc1 := 20) (lv1 := [(0, .ref x0), (1, .long x1)]) (st1 := [.long x1, .ref x0]) (fun _ _ _ => rfl) ?_
  refine jg_csV (m2 := jp_Z_findStretch) (As := [.ref x0, .long x1]) (r := []) (mx := 14) (jh_v (a := x0) rfl rfl rfl (kc_Z hx0) rfl (Nat.le_of_ble_eq_true rfl) rfl rfl rfl (by omega) (by omega) (Nat.le_of_ble_eq_true rfl)) (kF_Z_findStretch x0 x1 S _ _ (by omega) (by omega) hx0) (fun z2 => ?_)
  refine jg_sg 1 (pc1 := 24) (lv1 := [(0, .ref x0), (1, .long x1)]) (st1 := [.ref x0]) (fun _ _ _ => rfl) ?_
  refine jg_g (v := .int (z2.1 x0 6)) rfl (kc_Z hx0) rfl rfl ?_
  exact jg_ri rfl rfl rfl rfl
noncomputable def F_Z_offsetAt (a0 : Nat) (p0 : Int64) (S : jS) : Option (Int32 × jS) := if p0 < (S.2.1 a0 4) then (J_Z_offsetAt_18 a0 p0 S) else (if p0 < (S.2.1 a0 5) then (some (S.1 a0 6, S)) else (J_Z_offsetAt_18 a0 p0 S))
set_option maxRecDepth 20000 in
theorem kF_Z_offsetAt {q : Nat} (a0 : Nat) (p0 : Int64) (S : jS) (rF rL : Nat) (hF : 4 ≤ rF) (hL : 106 ≤ rL) (ha0 : jz_ a0 = true) : jg q jp_Z_offsetAt rF rL 0 [(0, .ref a0), (1, .long p0)] [] S 0 s_I (F_Z_offsetAt a0 p0 S) := by
  unfold F_Z_offsetAt
  refine jg_sg 2 (pc1 := 2) (lv1 := [(0, .ref a0), (1, .long p0)]) (st1 := [.ref a0, .long p0]) (fun _ _ _ => rfl) ?_
  refine jg_g (v := .long (S.2.1 a0 4)) rfl (kc_Z ha0) rfl rfl ?_
  refine jg_sg 1 (pc1 := 6) (lv1 := [(0, .ref a0), (1, .long p0)]) (st1 := [.int (lg_cmp p0 (S.2.1 a0 4))]) (fun _ _ _ => rfl) ?_
  refine jg_br (fun _ _ _ _ k1 k2 => jt_lif_lt (t := 18) rfl rfl k1 k2) (fun c1 => ?_) (fun c1 => ?_)
  · refine jg_lvs (lv1 := [(0, .ref a0), (1, .long p0)]) rfl rfl ⟨rfl, rfl, trivial⟩ ?_
    exact kJ_Z_offsetAt_18 (by omega) (by omega) a0 p0 S ha0
  · refine jg_sg 2 (pc1 := 11) (lv1 := [(0, .ref a0), (1, .long p0)]) (st1 := [.ref a0, .long p0]) (fun _ _ _ => rfl) ?_
    refine jg_g (v := .long (S.2.1 a0 5)) rfl (kc_Z ha0) rfl rfl ?_
    refine jg_sg 1 (pc1 := 15) (lv1 := [(0, .ref a0), (1, .long p0)]) (st1 := [.int (lg_cmp p0 (S.2.1 a0 5))]) (fun _ _ _ => rfl) ?_
    refine jg_br (fun _ _ _ _ k1 k2 => jt_lif_lt (t := 23) rfl rfl k1 k2) (fun c3 => ?_) (fun c3 => ?_)
    · refine jg_sg 1 (pc1 := 24) (lv1 := [(0, .ref a0), (1, .long p0)]) (st1 := [.ref a0]) (fun _ _ _ => rfl) ?_
      refine jg_g (v := .int (S.1 a0 6)) rfl (kc_Z ha0) rfl rfl ?_
      exact jg_ri rfl rfl rfl rfl
    · refine jg_lvs (lv1 := [(0, .ref a0), (1, .long p0)]) rfl rfl ⟨rfl, rfl, trivial⟩ ?_
      exact kJ_Z_offsetAt_18 (by omega) (by omega) a0 p0 S ha0
noncomputable def F_D_monthOf (p0 : Int32) (p1 : Int32) (S : jS) : Option Int32 := (F_D_firstOfMonth p1 1 S).bind (fun z1 => j_l (((p0 - z1) / 31) + 1 : Int32) (fun v2 => if 12 ≤ v2 then (some v2) else ((F_D_firstOfMonth p1 (v2 + 1) S).bind (fun z4 => if p0 < z4 then (some v2) else (some (v2 + 1))))))
set_option maxRecDepth 20000 in
theorem kF_D_monthOf {q : Nat} (p0 : Int32) (p1 : Int32) (S : jS) (rF rL : Nat) (hF : 1 ≤ rF) (hL : 24 ≤ rL)  : jg q jp_D_monthOf rF rL 0 [(0, .int p0), (1, .int p1)] [] S 0 (p_I S) (F_D_monthOf p0 p1 S) := by
  unfold F_D_monthOf
  refine jg_sg 3 (pc1 := 3) (lv1 := [(0, .int p0), (1, .int p1)]) (st1 := [.int 1, .int p1, .int p0]) (fun _ _ _ => rfl) ?_
  refine jg_cpI (m2 := jp_D_firstOfMonth) (As := [.int p1, .int 1]) (r := [.int p0]) (mx := 5) (jh_s rfl (fun _ _ _ => rfl) rfl rfl rfl (by omega) (by omega) (Nat.le_of_ble_eq_true rfl)) (kF_D_firstOfMonth p1 1 S _ _ (by omega) (by omega) ) (fun z1 => ?_)
  refine jg_sg 2 (pc1 := 9) (lv1 := [(0, .int p0), (1, .int p1)]) (st1 := [.int 31, .int (p0 - z1)]) (fun _ _ _ => rfl) ?_
  refine jg_st (fun _ _ _ _ _ k => jt_idiv rfl (by decide +kernel) k) ?_
  refine jg_sg 3 (pc1 := 13) (lv1 := [(2, .int (((p0 - z1) / 31) + 1)), (0, .int p0), (1, .int p1)]) (st1 := []) (fun _ _ _ => rfl) ?_
  refine jg_vi (fun v2 => ?_)
  refine jg_sg 2 (pc1 := 16) (lv1 := [(2, .int v2), (0, .int p0), (1, .int p1)]) (st1 := [.int 12, .int v2]) (fun _ _ _ => rfl) ?_
  refine jg_br (fun _ _ _ _ k1 k2 => jt_icmp_ge (t := 36) rfl rfl k1 k2) (fun c3 => ?_) (fun c3 => ?_)
  · refine jg_sg 1 (pc1 := 37) (lv1 := [(2, .int v2), (0, .int p0), (1, .int p1)]) (st1 := [.int v2]) (fun _ _ _ => rfl) ?_
    exact jg_ri rfl rfl rfl rfl
  · refine jg_sg 4 (pc1 := 23) (lv1 := [(2, .int v2), (0, .int p0), (1, .int p1)]) (st1 := [.int (v2 + 1), .int p1]) (fun _ _ _ => rfl) ?_
    refine jg_cpI (m2 := jp_D_firstOfMonth) (As := [.int p1, .int (v2 + 1)]) (r := []) (mx := 5) (jh_s rfl (fun _ _ _ => rfl) rfl rfl rfl (by omega) (by omega) (Nat.le_of_ble_eq_true rfl)) (kF_D_firstOfMonth p1 (v2 + 1) S _ _ (by omega) (by omega) ) (fun z4 => ?_)
    refine jg_sg 1 (pc1 := 27) (lv1 := [(2, .int v2), (0, .int p0), (1, .int p1)]) (st1 := [.int p0, .int z4]) (fun _ _ _ => rfl) ?_
    refine jg_br (fun _ _ _ _ k1 k2 => jt_icmp_gt (t := 36) rfl rfl k1 k2) (fun c5 => ?_) (fun c5 => ?_)
    · refine jg_sg 1 (pc1 := 37) (lv1 := [(2, .int v2), (0, .int p0), (1, .int p1)]) (st1 := [.int v2]) (fun _ _ _ => rfl) ?_
      exact jg_ri rfl rfl rfl rfl
    · refine jg_sg 4 (pc1 := 37) (lv1 := [(2, .int v2), (0, .int p0), (1, .int p1)]) (st1 := [.int (v2 + 1)]) (fun _ _ _ => rfl) ?_
      exact jg_ri rfl rfl rfl rfl
noncomputable def F_C_hasYear (a0 : Nat) (p0 : Int32) (S : jS) : Option Int32 := j_l (p0 - 1970 : Int32) (fun v1 => j_q (j_in (6 + (v1 / 64)) 12) (if (((S.2.1 (a0 + 1) ((6 + (v1 / 64) : Int32).toNatClampNeg) : Int64) >>> ((v1 - v1 / 64 * 64 : Int32).toInt64 &&& 63)) &&& 1) = 0 then (some 0) else (some 1)))
set_option maxRecDepth 20000 in
theorem kF_C_hasYear {q : Nat} (a0 : Nat) (p0 : Int32) (S : jS) (rF rL : Nat) (hF : 0 ≤ rF) (hL : 0 ≤ rL) (ha0 : jc_ a0 = true) : jg q jp_C_hasYear rF rL 0 [(0, .ref a0), (1, .int p0)] [] S 0 (p_I S) (F_C_hasYear a0 p0 S) := by
  unfold F_C_hasYear
  refine jg_sg 4 (pc1 := 6) (lv1 := [(2, .int (p0 - 1970)), (0, .ref a0), (1, .int p0)]) (st1 := []) (fun _ _ _ => rfl) ?_
  refine jg_vi (fun v1 => ?_)
  refine jg_sg 1 (pc1 := 7) (lv1 := [(2, .int v1), (0, .ref a0), (1, .int p0)]) (st1 := [.ref a0]) (fun _ _ _ => rfl) ?_
  refine jg_g (v := .ref (a0 + 1)) rfl (kc_C ha0) rfl rfl ?_
  refine jg_sg 3 (pc1 := 15) (lv1 := [(2, .int v1), (0, .ref a0), (1, .int p0)]) (st1 := [.int 64, .int v1, .int 6, .ref (a0 + 1)]) (fun _ _ _ => rfl) ?_
  refine jg_st (fun _ _ _ _ _ k => jt_idiv rfl (by decide +kernel) k) ?_
  refine jg_sg 1 (pc1 := 17) (lv1 := [(2, .int v1), (0, .ref a0), (1, .int p0)]) (st1 := [.int (6 + (v1 / 64)), .ref (a0 + 1)]) (fun _ _ _ => rfl) ?_
  refine jg_lal rfl (kc_CA ha0) (fun g2 => ?_)
  refine jg_sg 2 (pc1 := 21) (lv1 := [(2, .int v1), (0, .ref a0), (1, .int p0)]) (st1 := [.int 64, .int v1, .long (S.2.1 (a0 + 1) ((6 + (v1 / 64) : Int32).toNatClampNeg))]) (fun _ _ _ => rfl) ?_
  refine jg_st (fun _ _ _ _ _ k => jt_irem rfl (by decide +kernel) k) ?_
  refine jg_sg 5 (pc1 := 27) (lv1 := [(2, .int v1), (0, .ref a0), (1, .int p0)]) (st1 := [.int (lg_cmp (((S.2.1 (a0 + 1) ((6 + (v1 / 64) : Int32).toNatClampNeg) : Int64) >>> ((v1 - v1 / 64 * 64 : Int32).toInt64 &&& 63)) &&& 1) 0)]) (fun _ _ _ => rfl) ?_
  refine jg_br (fun _ _ _ _ k1 k2 => jt_lif_eq (t := 34) rfl rfl k1 k2) (fun c3 => ?_) (fun c3 => ?_)
  · refine jg_sg 1 (pc1 := 35) (lv1 := [(2, .int v1), (0, .ref a0), (1, .int p0)]) (st1 := [.int 0]) (fun _ _ _ => rfl) ?_
    exact jg_ri rfl rfl rfl rfl
  · refine jg_sg 2 (pc1 := 35) (lv1 := [(2, .int v1), (0, .ref a0), (1, .int p0)]) (st1 := [.int 1]) (fun _ _ _ => rfl) ?_
    exact jg_ri rfl rfl rfl rfl
noncomputable def F_C_hasMonth (a0 : Nat) (p0 : Int32) (S : jS) : Option Int32 := j_q (j_in 4 12) (if (((S.2.1 (a0 + 1) ((4 : Int32).toNatClampNeg) : Int64) >>> ((p0 : Int32).toInt64 &&& 63)) &&& 1) = 0 then (some 0) else (some 1))
set_option maxRecDepth 20000 in
theorem kF_C_hasMonth {q : Nat} (a0 : Nat) (p0 : Int32) (S : jS) (rF rL : Nat) (hF : 0 ≤ rF) (hL : 0 ≤ rL) (ha0 : jc_ a0 = true) : jg q jp_C_hasMonth rF rL 0 [(0, .ref a0), (1, .int p0)] [] S 0 (p_I S) (F_C_hasMonth a0 p0 S) := by
  unfold F_C_hasMonth
  refine jg_sg 1 (pc1 := 1) (lv1 := [(0, .ref a0), (1, .int p0)]) (st1 := [.ref a0]) (fun _ _ _ => rfl) ?_
  refine jg_g (v := .ref (a0 + 1)) rfl (kc_C ha0) rfl rfl ?_
  refine jg_sg 1 (pc1 := 5) (lv1 := [(0, .ref a0), (1, .int p0)]) (st1 := [.int 4, .ref (a0 + 1)]) (fun _ _ _ => rfl) ?_
  refine jg_lal rfl (kc_CA ha0) (fun g1 => ?_)
  refine jg_sg 6 (pc1 := 12) (lv1 := [(0, .ref a0), (1, .int p0)]) (st1 := [.int (lg_cmp (((S.2.1 (a0 + 1) ((4 : Int32).toNatClampNeg) : Int64) >>> ((p0 : Int32).toInt64 &&& 63)) &&& 1) 0)]) (fun _ _ _ => rfl) ?_
  refine jg_br (fun _ _ _ _ k1 k2 => jt_lif_eq (t := 19) rfl rfl k1 k2) (fun c2 => ?_) (fun c2 => ?_)
  · refine jg_sg 1 (pc1 := 20) (lv1 := [(0, .ref a0), (1, .int p0)]) (st1 := [.int 0]) (fun _ _ _ => rfl) ?_
    exact jg_ri rfl rfl rfl rfl
  · refine jg_sg 2 (pc1 := 20) (lv1 := [(0, .ref a0), (1, .int p0)]) (st1 := [.int 1]) (fun _ _ _ => rfl) ?_
    exact jg_ri rfl rfl rfl rfl
noncomputable def F_C_bitsUpTo (p0 : Int32) (S : jS) : Option Int64 := some (((1 : Int64) <<< ((p0 + 1 : Int32).toInt64 &&& 63)) - 1)
set_option maxRecDepth 20000 in
theorem kF_C_bitsUpTo {q : Nat} (p0 : Int32) (S : jS) (rF rL : Nat) (hF : 0 ≤ rF) (hL : 0 ≤ rL)  : jg q jp_C_bitsUpTo rF rL 0 [(0, .int p0)] [] S 0 (p_L S) (F_C_bitsUpTo p0 S) := by
  unfold F_C_bitsUpTo
  refine jg_sg 7 (pc1 := 7) (lv1 := [(0, .int p0)]) (st1 := [.long (((1 : Int64) <<< ((p0 + 1 : Int32).toInt64 &&& 63)) - 1)]) (fun _ _ _ => rfl) ?_
  exact jg_rl rfl rfl rfl
noncomputable def F_C_weekdaysFrom (a0 : Nat) (p0 : Int32) (S : jS) : Option Int64 := j_q (j_in 5 12) (j_q (j_in 5 12) (j_l (((S.2.1 (a0 + 1) ((5 : Int32).toNatClampNeg) : Int64) >>> ((p0 : Int32).toInt64 &&& 63)) ||| ((S.2.1 (a0 + 1) ((5 : Int32).toNatClampNeg) : Int64) <<< ((7 - p0 : Int32).toInt64 &&& 63)) : Int64) (fun v3 => j_l (((v3 : Int64) <<< ((1 : Int32).toInt64 &&& 63)) &&& 254 : Int64) (fun v4 => some ((((v4 ||| ((v4 : Int64) <<< ((7 : Int32).toInt64 &&& 63))) ||| ((v4 : Int64) <<< ((14 : Int32).toInt64 &&& 63))) ||| ((v4 : Int64) <<< ((21 : Int32).toInt64 &&& 63))) ||| ((v4 : Int64) <<< ((28 : Int32).toInt64 &&& 63)))))))
set_option maxRecDepth 20000 in
theorem kF_C_weekdaysFrom {q : Nat} (a0 : Nat) (p0 : Int32) (S : jS) (rF rL : Nat) (hF : 0 ≤ rF) (hL : 0 ≤ rL) (ha0 : jc_ a0 = true) : jg q jp_C_weekdaysFrom rF rL 0 [(0, .ref a0), (1, .int p0)] [] S 0 (p_L S) (F_C_weekdaysFrom a0 p0 S) := by
  unfold F_C_weekdaysFrom
  refine jg_sg 1 (pc1 := 1) (lv1 := [(0, .ref a0), (1, .int p0)]) (st1 := [.ref a0]) (fun _ _ _ => rfl) ?_
  refine jg_g (v := .ref (a0 + 1)) rfl (kc_C ha0) rfl rfl ?_
  refine jg_sg 1 (pc1 := 5) (lv1 := [(0, .ref a0), (1, .int p0)]) (st1 := [.int 5, .ref (a0 + 1)]) (fun _ _ _ => rfl) ?_
  refine jg_lal rfl (kc_CA ha0) (fun g1 => ?_)
  refine jg_sg 3 (pc1 := 9) (lv1 := [(0, .ref a0), (1, .int p0)]) (st1 := [.ref a0, .long ((S.2.1 (a0 + 1) ((5 : Int32).toNatClampNeg) : Int64) >>> ((p0 : Int32).toInt64 &&& 63))]) (fun _ _ _ => rfl) ?_
  refine jg_g (v := .ref (a0 + 1)) rfl (kc_C ha0) rfl rfl ?_
  refine jg_sg 1 (pc1 := 13) (lv1 := [(0, .ref a0), (1, .int p0)]) (st1 := [.int 5, .ref (a0 + 1), .long ((S.2.1 (a0 + 1) ((5 : Int32).toNatClampNeg) : Int64) >>> ((p0 : Int32).toInt64 &&& 63))]) (fun _ _ _ => rfl) ?_
  refine jg_lal rfl (kc_CA ha0) (fun g2 => ?_)
  refine jg_sg 6 (pc1 := 21) (lv1 := [(2, .long (((S.2.1 (a0 + 1) ((5 : Int32).toNatClampNeg) : Int64) >>> ((p0 : Int32).toInt64 &&& 63)) ||| ((S.2.1 (a0 + 1) ((5 : Int32).toNatClampNeg) : Int64) <<< ((7 - p0 : Int32).toInt64 &&& 63)))), (0, .ref a0), (1, .int p0)]) (st1 := []) (fun _ _ _ => rfl) ?_
  refine jg_vl (fun v3 => ?_)
  refine jg_sg 6 (pc1 := 29) (lv1 := [(2, .long (((v3 : Int64) <<< ((1 : Int32).toInt64 &&& 63)) &&& 254)), (0, .ref a0), (1, .int p0)]) (st1 := []) (fun _ _ _ => rfl) ?_
  refine jg_vl (fun v4 => ?_)
  refine jg_sg 17 (pc1 := 50) (lv1 := [(2, .long v4), (0, .ref a0), (1, .int p0)]) (st1 := [.long ((((v4 ||| ((v4 : Int64) <<< ((7 : Int32).toInt64 &&& 63))) ||| ((v4 : Int64) <<< ((14 : Int32).toInt64 &&& 63))) ||| ((v4 : Int64) <<< ((21 : Int32).toInt64 &&& 63))) ||| ((v4 : Int64) <<< ((28 : Int32).toInt64 &&& 63)))]) (fun _ _ _ => rfl) ?_
  exact jg_rl rfl rfl rfl
noncomputable def F_C_bitOf (p0 : Int32) (p1 : Int32) (S : jS) : Option Int64 := if p0 < 1 then (some 0) else (if p0 ≤ p1 then (some ((1 : Int64) <<< ((p0 : Int32).toInt64 &&& 63))) else (some 0))
set_option maxRecDepth 20000 in
theorem kF_C_bitOf {q : Nat} (p0 : Int32) (p1 : Int32) (S : jS) (rF rL : Nat) (hF : 0 ≤ rF) (hL : 0 ≤ rL)  : jg q jp_C_bitOf rF rL 0 [(0, .int p0), (1, .int p1)] [] S 0 (p_L S) (F_C_bitOf p0 p1 S) := by
  unfold F_C_bitOf
  refine jg_sg 2 (pc1 := 2) (lv1 := [(0, .int p0), (1, .int p1)]) (st1 := [.int 1, .int p0]) (fun _ _ _ => rfl) ?_
  refine jg_br (fun _ _ _ _ k1 k2 => jt_icmp_lt (t := 10) rfl rfl k1 k2) (fun c1 => ?_) (fun c1 => ?_)
  · refine jg_sg 2 (pc1 := 17) (lv1 := [(0, .int p0), (1, .int p1)]) (st1 := [.long 0]) (fun _ _ _ => rfl) ?_
    exact jg_rl rfl rfl rfl
  · refine jg_sg 2 (pc1 := 7) (lv1 := [(0, .int p0), (1, .int p1)]) (st1 := [.int p1, .int p0]) (fun _ _ _ => rfl) ?_
    refine jg_br (fun _ _ _ _ k1 k2 => jt_icmp_le (t := 14) rfl rfl k1 k2) (fun c2 => ?_) (fun c2 => ?_)
    · refine jg_sg 3 (pc1 := 17) (lv1 := [(0, .int p0), (1, .int p1)]) (st1 := [.long ((1 : Int64) <<< ((p0 : Int32).toInt64 &&& 63))]) (fun _ _ _ => rfl) ?_
      exact jg_rl rfl rfl rfl
    · refine jg_sg 2 (pc1 := 17) (lv1 := [(0, .int p0), (1, .int p1)]) (st1 := [.long 0]) (fun _ _ _ => rfl) ?_
      exact jg_rl rfl rfl rfl
noncomputable def F_C_workdayNearest (p0 : Int32) (p1 : Int32) (p2 : Int32) (S : jS) : Option Int64 := j_l ((((p2 + p0) - 2) - ((p2 + p0) - 2) / 7 * 7) + 1 : Int32) (fun v1 => if p0 ≤ p1 then (if v1 = 7 then (if p0 ≤ 1 then (some ((1 : Int64) <<< ((p0 + 2 : Int32).toInt64 &&& 63))) else (some ((1 : Int64) <<< ((p0 - 1 : Int32).toInt64 &&& 63)))) else (if v1 = 1 then (if p1 ≤ p0 then (some ((1 : Int64) <<< ((p0 - 2 : Int32).toInt64 &&& 63))) else (some ((1 : Int64) <<< ((p0 + 1 : Int32).toInt64 &&& 63)))) else (some ((1 : Int64) <<< ((p0 : Int32).toInt64 &&& 63))))) else (some 0))
set_option maxRecDepth 20000 in
theorem kF_C_workdayNearest {q : Nat} (p0 : Int32) (p1 : Int32) (p2 : Int32) (S : jS) (rF rL : Nat) (hF : 0 ≤ rF) (hL : 0 ≤ rL)  : jg q jp_C_workdayNearest rF rL 0 [(0, .int p0), (1, .int p1), (2, .int p2)] [] S 0 (p_L S) (F_C_workdayNearest p0 p1 p2 S) := by
  unfold F_C_workdayNearest
  refine jg_sg 6 (pc1 := 7) (lv1 := [(0, .int p0), (1, .int p1), (2, .int p2)]) (st1 := [.int 7, .int ((p2 + p0) - 2)]) (fun _ _ _ => rfl) ?_
  refine jg_st (fun _ _ _ _ _ k => jt_irem rfl (by decide +kernel) k) ?_
  refine jg_sg 3 (pc1 := 11) (lv1 := [(3, .int ((((p2 + p0) - 2) - ((p2 + p0) - 2) / 7 * 7) + 1)), (0, .int p0), (1, .int p1), (2, .int p2)]) (st1 := []) (fun _ _ _ => rfl) ?_
  refine jg_vi (fun v1 => ?_)
  refine jg_sg 2 (pc1 := 13) (lv1 := [(3, .int v1), (0, .int p0), (1, .int p1), (2, .int p2)]) (st1 := [.int p1, .int p0]) (fun _ _ _ => rfl) ?_
  refine jg_br (fun _ _ _ _ k1 k2 => jt_icmp_le (t := 18) rfl rfl k1 k2) (fun c2 => ?_) (fun c2 => ?_)
  · refine jg_sg 2 (pc1 := 21) (lv1 := [(3, .int v1), (0, .int p0), (1, .int p1), (2, .int p2)]) (st1 := [.int 7, .int v1]) (fun _ _ _ => rfl) ?_
    refine jg_br (fun _ _ _ _ k1 k2 => jt_icmp_ne (t := 41) rfl rfl k2 k1) (fun c3 => ?_) (fun c3 => ?_)
    · refine jg_sg 3 (pc1 := 27) (lv1 := [(3, .int v1), (0, .int p0), (1, .int p1), (2, .int p2)]) (st1 := [.int 1, .int p0, .long 1]) (fun _ _ _ => rfl) ?_
      refine jg_br (fun _ _ _ _ k1 k2 => jt_icmp_le (t := 36) rfl rfl k1 k2) (fun c4 => ?_) (fun c4 => ?_)
      · refine jg_sg 4 (pc1 := 40) (lv1 := [(3, .int v1), (0, .int p0), (1, .int p1), (2, .int p2)]) (st1 := [.long ((1 : Int64) <<< ((p0 + 2 : Int32).toInt64 &&& 63))]) (fun _ _ _ => rfl) ?_
        exact jg_rl rfl rfl rfl
      · refine jg_sg 5 (pc1 := 40) (lv1 := [(3, .int v1), (0, .int p0), (1, .int p1), (2, .int p2)]) (st1 := [.long ((1 : Int64) <<< ((p0 - 1 : Int32).toInt64 &&& 63))]) (fun _ _ _ => rfl) ?_
        exact jg_rl rfl rfl rfl
    · refine jg_sg 2 (pc1 := 43) (lv1 := [(3, .int v1), (0, .int p0), (1, .int p1), (2, .int p2)]) (st1 := [.int 1, .int v1]) (fun _ _ _ => rfl) ?_
      refine jg_br (fun _ _ _ _ k1 k2 => jt_icmp_ne (t := 63) rfl rfl k2 k1) (fun c5 => ?_) (fun c5 => ?_)
      · refine jg_sg 3 (pc1 := 49) (lv1 := [(3, .int v1), (0, .int p0), (1, .int p1), (2, .int p2)]) (st1 := [.int p1, .int p0, .long 1]) (fun _ _ _ => rfl) ?_
        refine jg_br (fun _ _ _ _ k1 k2 => jt_icmp_ge (t := 58) rfl rfl k1 k2) (fun c6 => ?_) (fun c6 => ?_)
        · refine jg_sg 4 (pc1 := 62) (lv1 := [(3, .int v1), (0, .int p0), (1, .int p1), (2, .int p2)]) (st1 := [.long ((1 : Int64) <<< ((p0 - 2 : Int32).toInt64 &&& 63))]) (fun _ _ _ => rfl) ?_
          exact jg_rl rfl rfl rfl
        · refine jg_sg 5 (pc1 := 62) (lv1 := [(3, .int v1), (0, .int p0), (1, .int p1), (2, .int p2)]) (st1 := [.long ((1 : Int64) <<< ((p0 + 1 : Int32).toInt64 &&& 63))]) (fun _ _ _ => rfl) ?_
          exact jg_rl rfl rfl rfl
      · refine jg_sg 3 (pc1 := 66) (lv1 := [(3, .int v1), (0, .int p0), (1, .int p1), (2, .int p2)]) (st1 := [.long ((1 : Int64) <<< ((p0 : Int32).toInt64 &&& 63))]) (fun _ _ _ => rfl) ?_
        exact jg_rl rfl rfl rfl
  · refine jg_sg 1 (pc1 := 17) (lv1 := [(3, .int v1), (0, .int p0), (1, .int p1), (2, .int p2)]) (st1 := [.long 0]) (fun _ _ _ => rfl) ?_
    exact jg_rl rfl rfl rfl
noncomputable def F_C_daysOf (a0 : Nat) (p0 : Int32) (p1 : Int32) (S : jS) : Option Int64 := if (S.1 a0 1) = 0 then (j_q (j_in 3 12) ((F_C_bitsUpTo p0 S).bind (fun z3 => some ((S.2.1 (a0 + 1) ((3 : Int32).toNatClampNeg)) &&& z3)))) else (if (S.1 a0 1) = 1 then ((F_C_weekdaysFrom a0 p1 S).bind (fun z5 => (F_C_bitsUpTo p0 S).bind (fun z6 => some (z5 &&& z6)))) else (if (S.1 a0 1) = 2 then ((F_C_bitOf (p0 - (S.1 a0 3)) p0 S).bind (fun z8 => some z8)) else (if (S.1 a0 1) = 3 then ((F_C_workdayNearest p0 p0 p1 S).bind (fun z10 => some z10)) else (if (S.1 a0 1) = 4 then ((F_C_workdayNearest (S.1 a0 2) p0 p1 S).bind (fun z12 => some z12)) else ((F_Math_floorMod ((S.1 a0 2) - p1) 7 S).bind (fun z13 => j_l (1 + z13 : Int32) (fun v14 => if (S.1 a0 1) = 5 then ((F_C_bitOf (v14 + (((p0 - v14) / 7) * 7)) p0 S).bind (fun z16 => some z16)) else ((F_C_bitOf (v14 + (7 * ((S.1 a0 3) - 1))) p0 S).bind (fun z17 => some z17)))))))))
set_option maxRecDepth 20000 in
theorem kF_C_daysOf {q : Nat} (a0 : Nat) (p0 : Int32) (p1 : Int32) (S : jS) (rF rL : Nat) (hF : 1 ≤ rF) (hL : 23 ≤ rL) (ha0 : jc_ a0 = true) : jg q jp_C_daysOf rF rL 0 [(0, .ref a0), (1, .int p0), (2, .int p1)] [] S 0 (p_L S) (F_C_daysOf a0 p0 p1 S) := by
  unfold F_C_daysOf
  refine jg_sg 1 (pc1 := 1) (lv1 := [(0, .ref a0), (1, .int p0), (2, .int p1)]) (st1 := [.ref a0]) (fun _ _ _ => rfl) ?_
  refine jg_g (v := .int (S.1 a0 1)) rfl (kc_C ha0) rfl rfl ?_
  refine jg_sw (fun _ _ _ _ e k => jt_tabEq (t := 40) (off := 36) rfl e (by decide) rfl rfl k) (fun c1 => ?_) (fun c1 => ?_)
  · refine jg_sg 1 (pc1 := 41) (lv1 := [(0, .ref a0), (1, .int p0), (2, .int p1)]) (st1 := [.ref a0]) (fun _ _ _ => rfl) ?_
    refine jg_g (v := .ref (a0 + 1)) rfl (kc_C ha0) rfl rfl ?_
    refine jg_sg 1 (pc1 := 45) (lv1 := [(0, .ref a0), (1, .int p0), (2, .int p1)]) (st1 := [.int 3, .ref (a0 + 1)]) (fun _ _ _ => rfl) ?_
    refine jg_lal rfl (kc_CA ha0) (fun g2 => ?_)
    refine jg_sg 1 (pc1 := 47) (lv1 := [(0, .ref a0), (1, .int p0), (2, .int p1)]) (st1 := [.int p0, .long (S.2.1 (a0 + 1) ((3 : Int32).toNatClampNeg))]) (fun _ _ _ => rfl) ?_
    refine jg_cpL (m2 := jp_C_bitsUpTo) (As := [.int p0]) (r := [.long (S.2.1 (a0 + 1) ((3 : Int32).toNatClampNeg))]) (mx := 1) (jh_s rfl (fun _ _ _ => rfl) rfl rfl rfl (by omega) (by omega) (Nat.le_of_ble_eq_true rfl)) (kF_C_bitsUpTo p0 S _ _ (by omega) (by omega) ) (fun z3 => ?_)
    refine jg_sg 1 (pc1 := 51) (lv1 := [(0, .ref a0), (1, .int p0), (2, .int p1)]) (st1 := [.long ((S.2.1 (a0 + 1) ((3 : Int32).toNatClampNeg)) &&& z3)]) (fun _ _ _ => rfl) ?_
    exact jg_rl rfl rfl rfl
  · skip
    refine jg_sw (fun _ _ _ _ e k => jt_tabEq (t := 52) (off := 48) rfl e (by decide) rfl rfl k) (fun c4 => ?_) (fun c4 => ?_)
    · refine jg_sg 2 (pc1 := 54) (lv1 := [(0, .ref a0), (1, .int p0), (2, .int p1)]) (st1 := [.int p1, .ref a0]) (fun _ _ _ => rfl) ?_
      refine jg_cpL (m2 := jp_C_weekdaysFrom) (As := [.ref a0, .int p1]) (r := []) (mx := 4) (jh_v (a := a0) rfl rfl rfl (kc_C ha0) rfl (Nat.le_of_ble_eq_true rfl) rfl rfl rfl (by omega) (by omega) (Nat.le_of_ble_eq_true rfl)) (kF_C_weekdaysFrom a0 p1 S _ _ (by omega) (by omega) ha0) (fun z5 => ?_)
      refine jg_sg 1 (pc1 := 58) (lv1 := [(0, .ref a0), (1, .int p0), (2, .int p1)]) (st1 := [.int p0, .long z5]) (fun _ _ _ => rfl) ?_
      refine jg_cpL (m2 := jp_C_bitsUpTo) (As := [.int p0]) (r := [.long z5]) (mx := 1) (jh_s rfl (fun _ _ _ => rfl) rfl rfl rfl (by omega) (by omega) (Nat.le_of_ble_eq_true rfl)) (kF_C_bitsUpTo p0 S _ _ (by omega) (by omega) ) (fun z6 => ?_)
      refine jg_sg 1 (pc1 := 62) (lv1 := [(0, .ref a0), (1, .int p0), (2, .int p1)]) (st1 := [.long (z5 &&& z6)]) (fun _ _ _ => rfl) ?_
      exact jg_rl rfl rfl rfl
    · skip
      refine jg_sw (fun _ _ _ _ e k => jt_tabEq (t := 63) (off := 59) rfl e (by decide) rfl rfl k) (fun c7 => ?_) (fun c7 => ?_)
      · refine jg_sg 2 (pc1 := 65) (lv1 := [(0, .ref a0), (1, .int p0), (2, .int p1)]) (st1 := [.ref a0, .int p0]) (fun _ _ _ => rfl) ?_
        refine jg_g (v := .int (S.1 a0 3)) rfl (kc_C ha0) rfl rfl ?_
        refine jg_sg 2 (pc1 := 70) (lv1 := [(0, .ref a0), (1, .int p0), (2, .int p1)]) (st1 := [.int p0, .int (p0 - (S.1 a0 3))]) (fun _ _ _ => rfl) ?_
        refine jg_cpL (m2 := jp_C_bitOf) (As := [.int (p0 - (S.1 a0 3)), .int p0]) (r := []) (mx := 2) (jh_s rfl (fun _ _ _ => rfl) rfl rfl rfl (by omega) (by omega) (Nat.le_of_ble_eq_true rfl)) (kF_C_bitOf (p0 - (S.1 a0 3)) p0 S _ _ (by omega) (by omega) ) (fun z8 => ?_)
        exact jg_rl rfl rfl rfl
      · skip
        refine jg_sw (fun _ _ _ _ e k => jt_tabEq (t := 74) (off := 70) rfl e (by decide) rfl rfl k) (fun c9 => ?_) (fun c9 => ?_)
        · refine jg_sg 3 (pc1 := 77) (lv1 := [(0, .ref a0), (1, .int p0), (2, .int p1)]) (st1 := [.int p1, .int p0, .int p0]) (fun _ _ _ => rfl) ?_
          refine jg_cpL (m2 := jp_C_workdayNearest) (As := [.int p0, .int p0, .int p1]) (r := []) (mx := 4) (jh_s rfl (fun _ _ _ => rfl) rfl rfl rfl (by omega) (by omega) (Nat.le_of_ble_eq_true rfl)) (kF_C_workdayNearest p0 p0 p1 S _ _ (by omega) (by omega) ) (fun z10 => ?_)
          exact jg_rl rfl rfl rfl
        · skip
          refine jg_sw (fun _ _ _ _ e k => jt_tabEq (t := 81) (off := 77) rfl e (by decide) rfl rfl k) (fun c11 => ?_) (fun c11 => ?_)
          · refine jg_sg 1 (pc1 := 82) (lv1 := [(0, .ref a0), (1, .int p0), (2, .int p1)]) (st1 := [.ref a0]) (fun _ _ _ => rfl) ?_
            refine jg_g (v := .int (S.1 a0 2)) rfl (kc_C ha0) rfl rfl ?_
            refine jg_sg 2 (pc1 := 87) (lv1 := [(0, .ref a0), (1, .int p0), (2, .int p1)]) (st1 := [.int p1, .int p0, .int (S.1 a0 2)]) (fun _ _ _ => rfl) ?_
            refine jg_cpL (m2 := jp_C_workdayNearest) (As := [.int (S.1 a0 2), .int p0, .int p1]) (r := []) (mx := 4) (jh_s rfl (fun _ _ _ => rfl) rfl rfl rfl (by omega) (by omega) (Nat.le_of_ble_eq_true rfl)) (kF_C_workdayNearest (S.1 a0 2) p0 p1 S _ _ (by omega) (by omega) ) (fun z12 => ?_)
            exact jg_rl rfl rfl rfl
          · skip
            refine jg_st (fun _ _ _ _ _ k => jt_tabOut (t := 91) rfl (by have q0 := lv_neT c1 (a := 0) rfl; have q1 := lv_neT c4 (a := 1) rfl; have q2 := lv_neT c7 (a := 2) rfl; have q3 := lv_neT c9 (a := 3) rfl; have q4 := lv_neT c11 (a := 4) rfl; omega) rfl k) ?_
            refine jg_sg 2 (pc1 := 93) (lv1 := [(0, .ref a0), (1, .int p0), (2, .int p1)]) (st1 := [.ref a0, .int 1]) (fun _ _ _ => rfl) ?_
            refine jg_g (v := .int (S.1 a0 2)) rfl (kc_C ha0) rfl rfl ?_
            refine jg_sg 3 (pc1 := 100) (lv1 := [(0, .ref a0), (1, .int p0), (2, .int p1)]) (st1 := [.int 7, .int ((S.1 a0 2) - p1), .int 1]) (fun _ _ _ => rfl) ?_
            refine jg_cpI (m2 := jp_Math_floorMod) (As := [.int ((S.1 a0 2) - p1), .int 7]) (r := [.int 1]) (mx := 3) (jh_s rfl (fun _ _ _ => rfl) rfl rfl rfl (by omega) (by omega) (Nat.le_of_ble_eq_true rfl)) (kF_Math_floorMod ((S.1 a0 2) - p1) 7 S _ _ (by omega) (by omega) ) (fun z13 => ?_)
            refine jg_sg 2 (pc1 := 105) (lv1 := [(3, .int (1 + z13)), (0, .ref a0), (1, .int p0), (2, .int p1)]) (st1 := []) (fun _ _ _ => rfl) ?_
            refine jg_vi (fun v14 => ?_)
            refine jg_sg 1 (pc1 := 106) (lv1 := [(3, .int v14), (0, .ref a0), (1, .int p0), (2, .int p1)]) (st1 := [.ref a0]) (fun _ _ _ => rfl) ?_
            refine jg_g (v := .int (S.1 a0 1)) rfl (kc_C ha0) rfl rfl ?_
            refine jg_sg 1 (pc1 := 110) (lv1 := [(3, .int v14), (0, .ref a0), (1, .int p0), (2, .int p1)]) (st1 := [.int 5, .int (S.1 a0 1)]) (fun _ _ _ => rfl) ?_
            refine jg_br (fun _ _ _ _ k1 k2 => jt_icmp_ne (t := 129) rfl rfl k2 k1) (fun c15 => ?_) (fun c15 => ?_)
            · refine jg_sg 5 (pc1 := 119) (lv1 := [(3, .int v14), (0, .ref a0), (1, .int p0), (2, .int p1)]) (st1 := [.int 7, .int (p0 - v14), .int v14]) (fun _ _ _ => rfl) ?_
              refine jg_st (fun _ _ _ _ _ k => jt_idiv rfl (by decide +kernel) k) ?_
              refine jg_sg 4 (pc1 := 125) (lv1 := [(3, .int v14), (0, .ref a0), (1, .int p0), (2, .int p1)]) (st1 := [.int p0, .int (v14 + (((p0 - v14) / 7) * 7))]) (fun _ _ _ => rfl) ?_
              refine jg_cpL (m2 := jp_C_bitOf) (As := [.int (v14 + (((p0 - v14) / 7) * 7)), .int p0]) (r := []) (mx := 2) (jh_s rfl (fun _ _ _ => rfl) rfl rfl rfl (by omega) (by omega) (Nat.le_of_ble_eq_true rfl)) (kF_C_bitOf (v14 + (((p0 - v14) / 7) * 7)) p0 S _ _ (by omega) (by omega) ) (fun z16 => ?_)
              exact jg_rl rfl rfl rfl
            · refine jg_sg 3 (pc1 := 133) (lv1 := [(3, .int v14), (0, .ref a0), (1, .int p0), (2, .int p1)]) (st1 := [.ref a0, .int 7, .int v14]) (fun _ _ _ => rfl) ?_
              refine jg_g (v := .int (S.1 a0 3)) rfl (kc_C ha0) rfl rfl ?_
              refine jg_sg 5 (pc1 := 141) (lv1 := [(3, .int v14), (0, .ref a0), (1, .int p0), (2, .int p1)]) (st1 := [.int p0, .int (v14 + (7 * ((S.1 a0 3) - 1)))]) (fun _ _ _ => rfl) ?_
              refine jg_cpL (m2 := jp_C_bitOf) (As := [.int (v14 + (7 * ((S.1 a0 3) - 1))), .int p0]) (r := []) (mx := 2) (jh_s rfl (fun _ _ _ => rfl) rfl rfl rfl (by omega) (by omega) (Nat.le_of_ble_eq_true rfl)) (kF_C_bitOf (v14 + (7 * ((S.1 a0 3) - 1))) p0 S _ _ (by omega) (by omega) ) (fun z17 => ?_)
              exact jg_rl rfl rfl rfl
noncomputable def F_Long_bitCount (p0 : Int64) (S : jS) : Option Int32 := j_l (p0 - ((((p0 : Int64).toUInt64 >>> ((1 : Int32).toInt64.toUInt64 &&& Int64.toUInt64 63)).toInt64) &&& 6148914691236517205) : Int64) (fun v1 => j_l ((v1 &&& 3689348814741910323) + ((((v1 : Int64).toUInt64 >>> ((2 : Int32).toInt64.toUInt64 &&& Int64.toUInt64 63)).toInt64) &&& 3689348814741910323) : Int64) (fun v2 => j_l ((v2 + (((v2 : Int64).toUInt64 >>> ((4 : Int32).toInt64.toUInt64 &&& Int64.toUInt64 63)).toInt64)) &&& 1085102592571150095 : Int64) (fun v3 => j_l (v3 + (((v3 : Int64).toUInt64 >>> ((8 : Int32).toInt64.toUInt64 &&& Int64.toUInt64 63)).toInt64) : Int64) (fun v4 => j_l (v4 + (((v4 : Int64).toUInt64 >>> ((16 : Int32).toInt64.toUInt64 &&& Int64.toUInt64 63)).toInt64) : Int64) (fun v5 => j_l (v5 + (((v5 : Int64).toUInt64 >>> ((32 : Int32).toInt64.toUInt64 &&& Int64.toUInt64 63)).toInt64) : Int64) (fun v6 => some (((v6 : Int64).toInt32) &&& 127)))))))
set_option maxRecDepth 20000 in
theorem kF_Long_bitCount {q : Nat} (p0 : Int64) (S : jS) (rF rL : Nat) (hF : 0 ≤ rF) (hL : 0 ≤ rL)  : jg q jp_Long_bitCount rF rL 0 [(0, .long p0)] [] S 0 (p_I S) (F_Long_bitCount p0 S) := by
  unfold F_Long_bitCount
  refine jg_sg 8 (pc1 := 10) (lv1 := [(0, .long (p0 - ((((p0 : Int64).toUInt64 >>> ((1 : Int32).toInt64.toUInt64 &&& Int64.toUInt64 63)).toInt64) &&& 6148914691236517205)))]) (st1 := []) (fun _ _ _ => rfl) ?_
  refine jg_vl (fun v1 => ?_)
  refine jg_sg 10 (pc1 := 24) (lv1 := [(0, .long ((v1 &&& 3689348814741910323) + ((((v1 : Int64).toUInt64 >>> ((2 : Int32).toInt64.toUInt64 &&& Int64.toUInt64 63)).toInt64) &&& 3689348814741910323)))]) (st1 := []) (fun _ _ _ => rfl) ?_
  refine jg_vl (fun v2 => ?_)
  refine jg_sg 8 (pc1 := 34) (lv1 := [(0, .long ((v2 + (((v2 : Int64).toUInt64 >>> ((4 : Int32).toInt64.toUInt64 &&& Int64.toUInt64 63)).toInt64)) &&& 1085102592571150095))]) (st1 := []) (fun _ _ _ => rfl) ?_
  refine jg_vl (fun v3 => ?_)
  refine jg_sg 6 (pc1 := 41) (lv1 := [(0, .long (v3 + (((v3 : Int64).toUInt64 >>> ((8 : Int32).toInt64.toUInt64 &&& Int64.toUInt64 63)).toInt64)))]) (st1 := []) (fun _ _ _ => rfl) ?_
  refine jg_vl (fun v4 => ?_)
  refine jg_sg 6 (pc1 := 48) (lv1 := [(0, .long (v4 + (((v4 : Int64).toUInt64 >>> ((16 : Int32).toInt64.toUInt64 &&& Int64.toUInt64 63)).toInt64)))]) (st1 := []) (fun _ _ _ => rfl) ?_
  refine jg_vl (fun v5 => ?_)
  refine jg_sg 6 (pc1 := 55) (lv1 := [(0, .long (v5 + (((v5 : Int64).toUInt64 >>> ((32 : Int32).toInt64.toUInt64 &&& Int64.toUInt64 63)).toInt64)))]) (st1 := []) (fun _ _ _ => rfl) ?_
  refine jg_vl (fun v6 => ?_)
  refine jg_sg 4 (pc1 := 60) (lv1 := [(0, .long v6)]) (st1 := [.int (((v6 : Int64).toInt32) &&& 127)]) (fun _ _ _ => rfl) ?_
  exact jg_ri rfl rfl rfl rfl
noncomputable def F_C_lowestBit (p0 : Int64) (p1 : Int32) (S : jS) : Option Int32 := j_l (((p0 : Int64) >>> ((p1 : Int32).toInt64 &&& 63) : Int64) <<< ((p1 : Int32).toInt64 &&& 63) : Int64) (fun v1 => if v1 = 0 then (some (-1)) else ((F_Long_bitCount ((v1 &&& (-v1)) - 1) S).bind (fun z3 => some z3)))
set_option maxRecDepth 20000 in
theorem kF_C_lowestBit {q : Nat} (p0 : Int64) (p1 : Int32) (S : jS) (rF rL : Nat) (hF : 1 ≤ rF) (hL : 21 ≤ rL)  : jg q jp_C_lowestBit rF rL 0 [(0, .long p0), (2, .int p1)] [] S 0 (p_I S) (F_C_lowestBit p0 p1 S) := by
  unfold F_C_lowestBit
  refine jg_sg 6 (pc1 := 6) (lv1 := [(3, .long (((p0 : Int64) >>> ((p1 : Int32).toInt64 &&& 63) : Int64) <<< ((p1 : Int32).toInt64 &&& 63))), (0, .long p0), (2, .int p1)]) (st1 := []) (fun _ _ _ => rfl) ?_
  refine jg_vl (fun v1 => ?_)
  refine jg_sg 3 (pc1 := 9) (lv1 := [(3, .long v1), (0, .long p0), (2, .int p1)]) (st1 := [.int (lg_cmp v1 0)]) (fun _ _ _ => rfl) ?_
  refine jg_br (fun _ _ _ _ k1 k2 => jt_lif_ne (t := 16) rfl rfl k2 k1) (fun c2 => ?_) (fun c2 => ?_)
  · refine jg_sg 2 (pc1 := 25) (lv1 := [(3, .long v1), (0, .long p0), (2, .int p1)]) (st1 := [.int (-1)]) (fun _ _ _ => rfl) ?_
    exact jg_ri rfl rfl rfl rfl
  · refine jg_sg 6 (pc1 := 22) (lv1 := [(3, .long v1), (0, .long p0), (2, .int p1)]) (st1 := [.long ((v1 &&& (-v1)) - 1)]) (fun _ _ _ => rfl) ?_
    refine jg_cpI (m2 := jp_Long_bitCount) (As := [.long ((v1 &&& (-v1)) - 1)]) (r := []) (mx := 2) (jh_s rfl (fun _ _ _ => rfl) rfl rfl rfl (by omega) (by omega) (Nat.le_of_ble_eq_true rfl)) (kF_Long_bitCount ((v1 &&& (-v1)) - 1) S _ _ (by omega) (by omega) ) (fun z3 => ?_)
    exact jg_ri rfl rfl rfl rfl
noncomputable def L_F_dateFrom_32 (S : jS) : Nat → Int32 → Int64 → Int32 → Int32 → Option Int32
  | 0, _, _, _, _ => none
  | f + 1, x4, x5, x7, x8 => if 31 ≤ x8 then (some (-1)) else ((F_C_lowestBit x5 x7 S).bind (fun z7 => if 0 ≤ z7 then (j_q (jh_ (S.2.2 32 2)) ((F_H_placeOf (S.2.2 32 2) ((x4 + z7) - 1) S).bind (fun z10 => if 0 ≤ z10 then (j_l (z7 + 1 : Int32) (fun v12 => (L_F_dateFrom_32 S f) x4 x5 v12 (x8 + 1))) else (some ((x4 + z7) - 1))))) else (some (-1))))
set_option maxRecDepth 20000 in
theorem kL_F_dateFrom_32 {q rF rL : Nat} (hF : 2 ≤ rF) (hL : 46 ≤ rL) (S : jS)  : ∀ (f : Nat) (x4 : Int32) (x5 : Int64) (x7 : Int32) (x8 : Int32), jg q jp_F_dateFrom rF rL 32 [(0, .ref 32), (4, .int x4), (5, .long x5), (7, .int x7), (8, .int x8)] [] S 0 (p_I S) (L_F_dateFrom_32 S f x4 x5 x7 x8) := by
  intro f
  induction f with
  | zero => intro _ _ _ _; exact jg_none
  | succ f ih32 =>
    intro x4 x5 x7 x8
    rw [L_F_dateFrom_32]
    refine jg_sg 2 (pc1 := 36) (lv1 := [(0, .ref 32), (4, .int x4), (5, .long x5), (7, .int x7), (8, .int x8)]) (st1 := [.int 31, .int x8]) (fun _ _ _ => rfl) ?_
    refine jg_br (fun _ _ _ _ k1 k2 => jt_icmp_ge (t := 92) rfl rfl k1 k2) (fun c6 => ?_) (fun c6 => ?_)
    · refine jg_sg 1 (pc1 := 93) (lv1 := [(0, .ref 32), (4, .int x4), (5, .long x5), (7, .int x7), (8, .int x8)]) (st1 := [.int (-1)]) (fun _ _ _ => rfl) ?_
      exact jg_ri rfl rfl rfl rfl
    · refine jg_sg 2 (pc1 := 43) (lv1 := [(0, .ref 32), (4, .int x4), (5, .long x5), (7, .int x7), (8, .int x8)]) (st1 := [.int x7, .long x5]) (fun _ _ _ => rfl) ?_
      refine jg_cpI (m2 := jp_C_lowestBit) (As := [.long x5, .int x7]) (r := []) (mx := 5) (jh_s rfl (fun _ _ _ => rfl) rfl rfl rfl (by omega) (by omega) (Nat.le_of_ble_eq_true rfl)) (kF_C_lowestBit x5 x7 S _ _ (by omega) (by omega) ) (fun z7 => ?_)
      refine jg_sg 2 (pc1 := 50) (lv1 := [(9, .int z7), (0, .ref 32), (4, .int x4), (5, .long x5), (7, .int x7), (8, .int x8)]) (st1 := [.int z7]) (fun _ _ _ => rfl) ?_
      refine jg_br (fun _ _ _ _ k1 k2 => jt_if_ge (t := 55) rfl rfl k1 k2) (fun c8 => ?_) (fun c8 => ?_)
      · refine jg_sg 1 (pc1 := 56) (lv1 := [(9, .int z7), (0, .ref 32), (4, .int x4), (5, .long x5), (7, .int x7), (8, .int x8)]) (st1 := [.ref 32]) (fun _ _ _ => rfl) ?_
        refine jg_g (v := .ref (S.2.2 32 2)) rfl kc_32 rfl rfl ?_
        refine jg_q (fun g9 => ?_)
        refine jg_sg 5 (pc1 := 66) (lv1 := [(9, .int z7), (0, .ref 32), (4, .int x4), (5, .long x5), (7, .int x7), (8, .int x8)]) (st1 := [.int ((x4 + z7) - 1), .ref (S.2.2 32 2)]) (fun _ _ _ => rfl) ?_
        refine jg_cpI (m2 := jp_H_placeOf) (As := [.ref (S.2.2 32 2), .int ((x4 + z7) - 1)]) (r := []) (mx := 5) (jh_v (a := (S.2.2 32 2)) rfl rfl rfl (kc_H g9) rfl (Nat.le_of_ble_eq_true rfl) rfl rfl rfl (by omega) (by omega) (Nat.le_of_ble_eq_true rfl)) (kF_H_placeOf (S.2.2 32 2) ((x4 + z7) - 1) S _ _ (by omega) (by omega) g9) (fun z10 => ?_)
        refine jg_br (fun _ _ _ _ k1 k2 => jt_if_ge (t := 80) rfl rfl k1 k2) (fun c11 => ?_) (fun c11 => ?_)
        · refine jg_sg 4 (pc1 := 86) (lv1 := [(7, .int (z7 + 1)), (9, .int z7), (0, .ref 32), (4, .int x4), (5, .long x5), (8, .int x8)]) (st1 := []) (fun _ _ _ => rfl) ?_
          refine jg_vi (fun v12 => ?_)
          refine jg_sg 2 (pc1 := 32) (lv1 := [(8, .int (x8 + 1)), (7, .int v12), (9, .int z7), (0, .ref 32), (4, .int x4), (5, .long x5)]) (st1 := []) (fun _ _ _ => rfl) ?_
          refine jg_lvs (lv1 := [(0, .ref 32), (4, .int x4), (5, .long x5), (7, .int v12), (8, .int (x8 + 1))]) rfl rfl ⟨rfl, rfl, rfl, rfl, rfl, trivial⟩ ?_
          exact ih32 x4 x5 v12 (x8 + 1)
        · refine jg_sg 5 (pc1 := 79) (lv1 := [(9, .int z7), (0, .ref 32), (4, .int x4), (5, .long x5), (7, .int x7), (8, .int x8)]) (st1 := [.int ((x4 + z7) - 1)]) (fun _ _ _ => rfl) ?_
          exact jg_ri rfl rfl rfl rfl
      · refine jg_sg 1 (pc1 := 54) (lv1 := [(9, .int z7), (0, .ref 32), (4, .int x4), (5, .long x5), (7, .int x7), (8, .int x8)]) (st1 := [.int (-1)]) (fun _ _ _ => rfl) ?_
        exact jg_ri rfl rfl rfl rfl
noncomputable def F_F_dateFrom (p0 : Int32) (p1 : Int32) (p2 : Int32) (S : jS) : Option Int32 := (F_D_firstOfMonth p0 p1 S).bind (fun z1 => j_q (jc_ (S.2.2 32 0)) ((F_D_monthLength p0 p1 S).bind (fun z3 => (F_D_weekdayOf z1 S).bind (fun z4 => (F_C_daysOf (S.2.2 32 0) z3 z4 S).bind (fun z5 => L_F_dateFrom_32 S ju_ z1 z5 p2 0)))))
set_option maxRecDepth 20000 in
theorem kF_F_dateFrom {q : Nat} (p0 : Int32) (p1 : Int32) (p2 : Int32) (S : jS) (rF rL : Nat) (hF : 2 ≤ rF) (hL : 46 ≤ rL)  : jg q jp_F_dateFrom rF rL 0 [(0, .ref 32), (1, .int p0), (2, .int p1), (3, .int p2)] [] S 0 (p_I S) (F_F_dateFrom p0 p1 p2 S) := by
  unfold F_F_dateFrom
  refine jg_sg 2 (pc1 := 2) (lv1 := [(0, .ref 32), (1, .int p0), (2, .int p1), (3, .int p2)]) (st1 := [.int p1, .int p0]) (fun _ _ _ => rfl) ?_
  refine jg_cpI (m2 := jp_D_firstOfMonth) (As := [.int p0, .int p1]) (r := []) (mx := 5) (jh_s rfl (fun _ _ _ => rfl) rfl rfl rfl (by omega) (by omega) (Nat.le_of_ble_eq_true rfl)) (kF_D_firstOfMonth p0 p1 S _ _ (by omega) (by omega) ) (fun z1 => ?_)
  refine jg_sg 2 (pc1 := 8) (lv1 := [(4, .int z1), (0, .ref 32), (1, .int p0), (2, .int p1), (3, .int p2)]) (st1 := [.ref 32]) (fun _ _ _ => rfl) ?_
  refine jg_g (v := .ref (S.2.2 32 0)) rfl kc_32 rfl rfl ?_
  refine jg_q (fun g2 => ?_)
  refine jg_sg 2 (pc1 := 13) (lv1 := [(4, .int z1), (0, .ref 32), (1, .int p0), (2, .int p1), (3, .int p2)]) (st1 := [.int p1, .int p0, .ref (S.2.2 32 0)]) (fun _ _ _ => rfl) ?_
  refine jg_cpI (m2 := jp_D_monthLength) (As := [.int p0, .int p1]) (r := [.ref (S.2.2 32 0)]) (mx := 3) (jh_s rfl (fun _ _ _ => rfl) rfl rfl rfl (by omega) (by omega) (Nat.le_of_ble_eq_true rfl)) (kF_D_monthLength p0 p1 S _ _ (by omega) (by omega) ) (fun z3 => ?_)
  refine jg_sg 1 (pc1 := 18) (lv1 := [(4, .int z1), (0, .ref 32), (1, .int p0), (2, .int p1), (3, .int p2)]) (st1 := [.int z1, .int z3, .ref (S.2.2 32 0)]) (fun _ _ _ => rfl) ?_
  refine jg_cpI (m2 := jp_D_weekdayOf) (As := [.int z1]) (r := [.int z3, .ref (S.2.2 32 0)]) (mx := 1) (jh_s rfl (fun _ _ _ => rfl) rfl rfl rfl (by omega) (by omega) (Nat.le_of_ble_eq_true rfl)) (kF_D_weekdayOf z1 S _ _ (by omega) (by omega) ) (fun z4 => ?_)
  refine jg_cpL (m2 := jp_C_daysOf) (As := [.ref (S.2.2 32 0), .int z3, .int z4]) (r := []) (mx := 4) (jh_v (a := (S.2.2 32 0)) rfl rfl rfl (kc_C g2) rfl (Nat.le_of_ble_eq_true rfl) rfl rfl rfl (by omega) (by omega) (Nat.le_of_ble_eq_true rfl)) (kF_C_daysOf (S.2.2 32 0) z3 z4 S _ _ (by omega) (by omega) g2) (fun z5 => ?_)
  refine jg_sg 5 (pc1 := 32) (lv1 := [(8, .int 0), (7, .int p2), (5, .long z5), (4, .int z1), (0, .ref 32), (1, .int p0), (2, .int p1), (3, .int p2)]) (st1 := []) (fun _ _ _ => rfl) ?_
  refine jg_lvs (lv1 := [(0, .ref 32), (4, .int z1), (5, .long z5), (7, .int p2), (8, .int 0)]) rfl rfl ⟨rfl, rfl, rfl, rfl, rfl, trivial⟩ ?_
  exact kL_F_dateFrom_32 (by omega) (by omega) S ju_ z1 z5 p2 0
noncomputable def J_F_dayFrom_109 (kt33 : Int32 → Int32 → Int32 → Option Int32) (S : jS) (x6 : Int32) : Option Int32 := kt33 1 1 (x6 + 1)
set_option maxRecDepth 20000 in
theorem kJ_F_dayFrom_109 {q rF rL : Nat} (hF : 3 ≤ rF) (hL : 75 ≤ rL) (S : jS) (kt33 : Int32 → Int32 → Int32 → Option Int32) (ih33 : ∀ (x4 : Int32) (x5 : Int32) (x6 : Int32), jg q jp_F_dayFrom rF rL 33 [(0, .ref 32), (4, .int x4), (5, .int x5), (6, .int x6)] [] S 0 (p_I S) (kt33 x4 x5 x6)) (x6 : Int32) : jg q jp_F_dayFrom rF rL 109 [(0, .ref 32), (6, .int x6)] [] S 0 (p_I S) (J_F_dayFrom_109 kt33 S x6) := by
  unfold J_F_dayFrom_109
  refine jg_sg 6 (pc1 := 33) (lv1 := [(6, .int (x6 + 1)), (5, .int 1), (4, .int 1), (0, .ref 32)]) (st1 := []) (fun _ _ _ => rfl) ?_
  refine jg_lvs (lv1 := [(0, .ref 32), (4, .int 1), (5, .int 1), (6, .int (x6 + 1))]) rfl rfl ⟨rfl, rfl, rfl, rfl, trivial⟩ ?_
  exact ih33 1 1 (x6 + 1)
noncomputable def J_F_dayFrom_90 (kt33 : Int32 → Int32 → Int32 → Option Int32) (kt57 : Int32 → Int32 → Int32 → Option Int32) (S : jS) (x6 : Int32) (x7 : Int32) (y0 : Int32) : Option Int32 := if y0 < 0 then (kt57 1 x6 (x7 + 1)) else (some y0)
set_option maxRecDepth 20000 in
theorem kJ_F_dayFrom_90 {q rF rL : Nat} (hF : 3 ≤ rF) (hL : 75 ≤ rL) (S : jS) (kt33 : Int32 → Int32 → Int32 → Option Int32) (ih33 : ∀ (x4 : Int32) (x5 : Int32) (x6 : Int32), jg q jp_F_dayFrom rF rL 33 [(0, .ref 32), (4, .int x4), (5, .int x5), (6, .int x6)] [] S 0 (p_I S) (kt33 x4 x5 x6)) (kt57 : Int32 → Int32 → Int32 → Option Int32) (ih57 : ∀ (x5 : Int32) (x6 : Int32) (x7 : Int32), jg q jp_F_dayFrom rF rL 57 [(0, .ref 32), (5, .int x5), (6, .int x6), (7, .int x7)] [] S 0 (p_I S) (kt57 x5 x6 x7)) (x6 : Int32) (x7 : Int32) (y0 : Int32) : jg q jp_F_dayFrom rF rL 90 [(0, .ref 32), (6, .int x6), (7, .int x7)] [.int y0] S 0 (p_I S) (J_F_dayFrom_90 kt33 kt57 S x6 x7 y0) := by
  unfold J_F_dayFrom_90
  refine jg_sg 2 (pc1 := 94) (lv1 := [(8, .int y0), (0, .ref 32), (6, .int x6), (7, .int x7)]) (st1 := [.int y0]) (fun _ _ _ => rfl) ?_
  refine jg_br (fun _ _ _ _ k1 k2 => jt_if_lt (t := 100) rfl rfl k1 k2) (fun c14 => ?_) (fun c14 => ?_)
  · refine jg_sg 4 (pc1 := 57) (lv1 := [(7, .int (x7 + 1)), (5, .int 1), (8, .int y0), (0, .ref 32), (6, .int x6)]) (st1 := []) (fun _ _ _ => rfl) ?_
    refine jg_lvs (lv1 := [(0, .ref 32), (5, .int 1), (6, .int x6), (7, .int (x7 + 1))]) rfl rfl ⟨rfl, rfl, rfl, rfl, trivial⟩ ?_
    exact ih57 1 x6 (x7 + 1)
  · refine jg_sg 1 (pc1 := 99) (lv1 := [(8, .int y0), (0, .ref 32), (6, .int x6), (7, .int x7)]) (st1 := [.int y0]) (fun _ _ _ => rfl) ?_
    exact jg_ri rfl rfl rfl rfl
noncomputable def L_F_dayFrom_57 (kt33 : Int32 → Int32 → Int32 → Option Int32) (S : jS) : Nat → Int32 → Int32 → Int32 → Option Int32
  | 0, _, _, _ => none
  | f + 1, x5, x6, x7 => if 12 < x7 then (J_F_dayFrom_109 kt33 S x6) else (j_q (jc_ (S.2.2 32 0)) ((F_C_hasMonth (S.2.2 32 0) x7 S).bind (fun z12 => if z12 = 0 then (J_F_dayFrom_90 kt33 (L_F_dayFrom_57 kt33 S f) S x6 x7 (-1)) else ((F_F_dateFrom x6 x7 x5 S).bind (fun z15 => J_F_dayFrom_90 kt33 (L_F_dayFrom_57 kt33 S f) S x6 x7 z15)))))
set_option maxRecDepth 20000 in
theorem kL_F_dayFrom_57 {q rF rL : Nat} (hF : 3 ≤ rF) (hL : 75 ≤ rL) (S : jS) (kt33 : Int32 → Int32 → Int32 → Option Int32) (ih33 : ∀ (x4 : Int32) (x5 : Int32) (x6 : Int32), jg q jp_F_dayFrom rF rL 33 [(0, .ref 32), (4, .int x4), (5, .int x5), (6, .int x6)] [] S 0 (p_I S) (kt33 x4 x5 x6)) : ∀ (f : Nat) (x5 : Int32) (x6 : Int32) (x7 : Int32), jg q jp_F_dayFrom rF rL 57 [(0, .ref 32), (5, .int x5), (6, .int x6), (7, .int x7)] [] S 0 (p_I S) (L_F_dayFrom_57 kt33 S f x5 x6 x7) := by
  intro f
  induction f with
  | zero => intro _ _ _; exact jg_none
  | succ f ih57 =>
    intro x5 x6 x7
    rw [L_F_dayFrom_57]
    refine jg_sg 2 (pc1 := 61) (lv1 := [(0, .ref 32), (5, .int x5), (6, .int x6), (7, .int x7)]) (st1 := [.int 12, .int x7]) (fun _ _ _ => rfl) ?_
    refine jg_br (fun _ _ _ _ k1 k2 => jt_icmp_gt (t := 109) rfl rfl k1 k2) (fun c10 => ?_) (fun c10 => ?_)
    · refine jg_lvs (lv1 := [(0, .ref 32), (6, .int x6)]) rfl rfl ⟨rfl, rfl, trivial⟩ ?_
      exact kJ_F_dayFrom_109 (by omega) (by omega) S kt33 ih33 x6
    · refine jg_sg 1 (pc1 := 65) (lv1 := [(0, .ref 32), (5, .int x5), (6, .int x6), (7, .int x7)]) (st1 := [.ref 32]) (fun _ _ _ => rfl) ?_
      refine jg_g (v := .ref (S.2.2 32 0)) rfl kc_32 rfl rfl ?_
      refine jg_q (fun g11 => ?_)
      refine jg_sg 1 (pc1 := 70) (lv1 := [(0, .ref 32), (5, .int x5), (6, .int x6), (7, .int x7)]) (st1 := [.int x7, .ref (S.2.2 32 0)]) (fun _ _ _ => rfl) ?_
      refine jg_cpI (m2 := jp_C_hasMonth) (As := [.ref (S.2.2 32 0), .int x7]) (r := []) (mx := 2) (jh_v (a := (S.2.2 32 0)) rfl rfl rfl (kc_C g11) rfl (Nat.le_of_ble_eq_true rfl) rfl rfl rfl (by omega) (by omega) (Nat.le_of_ble_eq_true rfl)) (kF_C_hasMonth (S.2.2 32 0) x7 S _ _ (by omega) (by omega) g11) (fun z12 => ?_)
      refine jg_br (fun _ _ _ _ k1 k2 => jt_if_eq (t := 89) rfl rfl k1 k2) (fun c13 => ?_) (fun c13 => ?_)
      · refine jg_sg 1 (pc1 := 90) (lv1 := [(0, .ref 32), (5, .int x5), (6, .int x6), (7, .int x7)]) (st1 := [.int (-1)]) (fun _ _ _ => rfl) ?_
        refine jg_lvs (lv1 := [(0, .ref 32), (6, .int x6), (7, .int x7)]) rfl rfl ⟨rfl, rfl, rfl, trivial⟩ ?_
        exact kJ_F_dayFrom_90 (by omega) (by omega) S kt33 ih33 (L_F_dayFrom_57 kt33 S f) ih57 x6 x7 (-1)
      · refine jg_sg 4 (pc1 := 83) (lv1 := [(0, .ref 32), (5, .int x5), (6, .int x6), (7, .int x7)]) (st1 := [.int x5, .int x7, .int x6, .ref 32]) (fun _ _ _ => rfl) ?_
        refine jg_cpI (m2 := jp_F_dateFrom) (As := [.ref 32, .int x6, .int x7, .int x5]) (r := []) (mx := 10) (jh_v (a := 32) rfl rfl rfl kc_32 rfl (Nat.le_of_ble_eq_true rfl) rfl rfl rfl (by omega) (by omega) (Nat.le_of_ble_eq_true rfl)) (kF_F_dateFrom x6 x7 x5 S _ _ (by omega) (by omega) ) (fun z15 => ?_)
        refine jg_sg 1 (pc1 := 90) (lv1 := [(0, .ref 32), (5, .int x5), (6, .int x6), (7, .int x7)]) (st1 := [.int z15]) (fun _ _ _ => rfl) ?_
        refine jg_lvs (lv1 := [(0, .ref 32), (6, .int x6), (7, .int x7)]) rfl rfl ⟨rfl, rfl, rfl, trivial⟩ ?_
        exact kJ_F_dayFrom_90 (by omega) (by omega) S kt33 ih33 (L_F_dayFrom_57 kt33 S f) ih57 x6 x7 z15
noncomputable def L_F_dayFrom_33 (S : jS) : Nat → Int32 → Int32 → Int32 → Option Int32
  | 0, _, _, _ => none
  | f + 1, x4, x5, x6 => if 2299 < x6 then (some (-1)) else (j_q (jc_ (S.2.2 32 0)) ((F_C_hasYear (S.2.2 32 0) x6 S).bind (fun z8 => if z8 = 0 then (J_F_dayFrom_109 (L_F_dayFrom_33 S f) S x6) else (L_F_dayFrom_57 (L_F_dayFrom_33 S f) S ju_ x5 x6 x4))))
set_option maxRecDepth 20000 in
theorem kL_F_dayFrom_33 {q rF rL : Nat} (hF : 3 ≤ rF) (hL : 75 ≤ rL) (S : jS)  : ∀ (f : Nat) (x4 : Int32) (x5 : Int32) (x6 : Int32), jg q jp_F_dayFrom rF rL 33 [(0, .ref 32), (4, .int x4), (5, .int x5), (6, .int x6)] [] S 0 (p_I S) (L_F_dayFrom_33 S f x4 x5 x6) := by
  intro f
  induction f with
  | zero => intro _ _ _; exact jg_none
  | succ f ih33 =>
    intro x4 x5 x6
    rw [L_F_dayFrom_33]
    refine jg_sg 2 (pc1 := 38) (lv1 := [(0, .ref 32), (4, .int x4), (5, .int x5), (6, .int x6)]) (st1 := [.int 2299, .int x6]) (fun _ _ _ => rfl) ?_
    refine jg_br (fun _ _ _ _ k1 k2 => jt_icmp_gt (t := 121) rfl rfl k1 k2) (fun c6 => ?_) (fun c6 => ?_)
    · refine jg_sg 1 (pc1 := 122) (lv1 := [(0, .ref 32), (4, .int x4), (5, .int x5), (6, .int x6)]) (st1 := [.int (-1)]) (fun _ _ _ => rfl) ?_
      exact jg_ri rfl rfl rfl rfl
    · refine jg_sg 1 (pc1 := 42) (lv1 := [(0, .ref 32), (4, .int x4), (5, .int x5), (6, .int x6)]) (st1 := [.ref 32]) (fun _ _ _ => rfl) ?_
      refine jg_g (v := .ref (S.2.2 32 0)) rfl kc_32 rfl rfl ?_
      refine jg_q (fun g7 => ?_)
      refine jg_sg 1 (pc1 := 47) (lv1 := [(0, .ref 32), (4, .int x4), (5, .int x5), (6, .int x6)]) (st1 := [.int x6, .ref (S.2.2 32 0)]) (fun _ _ _ => rfl) ?_
      refine jg_cpI (m2 := jp_C_hasYear) (As := [.ref (S.2.2 32 0), .int x6]) (r := []) (mx := 3) (jh_v (a := (S.2.2 32 0)) rfl rfl rfl (kc_C g7) rfl (Nat.le_of_ble_eq_true rfl) rfl rfl rfl (by omega) (by omega) (Nat.le_of_ble_eq_true rfl)) (kF_C_hasYear (S.2.2 32 0) x6 S _ _ (by omega) (by omega) g7) (fun z8 => ?_)
      refine jg_br (fun _ _ _ _ k1 k2 => jt_if_eq (t := 109) rfl rfl k1 k2) (fun c9 => ?_) (fun c9 => ?_)
      · refine jg_lvs (lv1 := [(0, .ref 32), (6, .int x6)]) rfl rfl ⟨rfl, rfl, trivial⟩ ?_
        exact kJ_F_dayFrom_109 (by omega) (by omega) S (L_F_dayFrom_33 S f) ih33 x6
      · refine jg_sg 2 (pc1 := 57) (lv1 := [(7, .int x4), (0, .ref 32), (4, .int x4), (5, .int x5), (6, .int x6)]) (st1 := []) (fun _ _ _ => rfl) ?_
        refine jg_lvs (lv1 := [(0, .ref 32), (5, .int x5), (6, .int x6), (7, .int x4)]) rfl rfl ⟨rfl, rfl, rfl, rfl, trivial⟩ ?_
        exact kL_F_dayFrom_57 (by omega) (by omega) S (L_F_dayFrom_33 S f) ih33 ju_ x5 x6 x4
noncomputable def F_F_dayFrom (p0 : Int32) (S : jS) : Option Int32 := (F_Math_max p0 0 S).bind (fun z1 => (F_D_yearOf z1 S).bind (fun z2 => (F_D_monthOf z1 z2 S).bind (fun z3 => (F_D_firstOfMonth z2 z3 S).bind (fun z4 => j_l ((z1 - z4) + 1 : Int32) (fun v5 => L_F_dayFrom_33 S ju_ z3 v5 z2)))))
set_option maxRecDepth 20000 in
theorem kF_F_dayFrom {q : Nat} (p0 : Int32) (S : jS) (rF rL : Nat) (hF : 3 ≤ rF) (hL : 75 ≤ rL)  : jg q jp_F_dayFrom rF rL 0 [(0, .ref 32), (1, .int p0)] [] S 0 (p_I S) (F_F_dayFrom p0 S) := by
  unfold F_F_dayFrom
  refine jg_sg 2 (pc1 := 2) (lv1 := [(0, .ref 32), (1, .int p0)]) (st1 := [.int 0, .int p0]) (fun _ _ _ => rfl) ?_
  refine jg_cpI (m2 := jp_Math_max) (As := [.int p0, .int 0]) (r := []) (mx := 2) (jh_s rfl (fun _ _ _ => rfl) rfl rfl rfl (by omega) (by omega) (Nat.le_of_ble_eq_true rfl)) (kF_Math_max p0 0 S _ _ (by omega) (by omega) ) (fun z1 => ?_)
  refine jg_sg 2 (pc1 := 7) (lv1 := [(2, .int z1), (0, .ref 32), (1, .int p0)]) (st1 := [.int z1]) (fun _ _ _ => rfl) ?_
  refine jg_cpI (m2 := jp_D_yearOf) (As := [.int z1]) (r := []) (mx := 2) (jh_s rfl (fun _ _ _ => rfl) rfl rfl rfl (by omega) (by omega) (Nat.le_of_ble_eq_true rfl)) (kF_D_yearOf z1 S _ _ (by omega) (by omega) ) (fun z2 => ?_)
  refine jg_sg 3 (pc1 := 13) (lv1 := [(3, .int z2), (2, .int z1), (0, .ref 32), (1, .int p0)]) (st1 := [.int z2, .int z1]) (fun _ _ _ => rfl) ?_
  refine jg_cpI (m2 := jp_D_monthOf) (As := [.int z1, .int z2]) (r := []) (mx := 3) (jh_s rfl (fun _ _ _ => rfl) rfl rfl rfl (by omega) (by omega) (Nat.le_of_ble_eq_true rfl)) (kF_D_monthOf z1 z2 S _ _ (by omega) (by omega) ) (fun z3 => ?_)
  refine jg_sg 4 (pc1 := 22) (lv1 := [(4, .int z3), (3, .int z2), (2, .int z1), (0, .ref 32), (1, .int p0)]) (st1 := [.int z3, .int z2, .int z1]) (fun _ _ _ => rfl) ?_
  refine jg_cpI (m2 := jp_D_firstOfMonth) (As := [.int z2, .int z3]) (r := [.int z1]) (mx := 5) (jh_s rfl (fun _ _ _ => rfl) rfl rfl rfl (by omega) (by omega) (Nat.le_of_ble_eq_true rfl)) (kF_D_firstOfMonth z2 z3 S _ _ (by omega) (by omega) ) (fun z4 => ?_)
  refine jg_sg 4 (pc1 := 30) (lv1 := [(5, .int ((z1 - z4) + 1)), (4, .int z3), (3, .int z2), (2, .int z1), (0, .ref 32), (1, .int p0)]) (st1 := []) (fun _ _ _ => rfl) ?_
  refine jg_vi (fun v5 => ?_)
  refine jg_sg 2 (pc1 := 33) (lv1 := [(6, .int z2), (5, .int v5), (4, .int z3), (3, .int z2), (2, .int z1), (0, .ref 32), (1, .int p0)]) (st1 := []) (fun _ _ _ => rfl) ?_
  refine jg_lvs (lv1 := [(0, .ref 32), (4, .int z3), (5, .int v5), (6, .int z2)]) rfl rfl ⟨rfl, rfl, rfl, rfl, trivial⟩ ?_
  exact kL_F_dayFrom_33 (by omega) (by omega) S ju_ z3 v5 z2
end JF4
