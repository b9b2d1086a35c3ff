section JF16
noncomputable def J_M_following_246 (x6 : Int64) (S : jS) : Option (Int64 × jS) := if x6 ≤ 10413791999999 then (some (x6, S)) else (some (-1, S))
set_option maxRecDepth 20000 in
theorem kJ_M_following_246 {q rF rL : Nat} (hF : 6 ≤ rF) (hL : 152 ≤ rL)   (x6 : Int64) (S : jS) : jg q jp_M_following rF rL 246 [(6, .long x6)] [] S 0 s_L (J_M_following_246 x6 S) := by
  unfold J_M_following_246
  refine jg_sg 3 (pc1 := 252) (lv1 := [(6, .long x6)]) (st1 := [.int (lg_cmp x6 10413791999999)]) (fun _ _ _ => rfl) ?_
  refine jg_br (fun _ _ _ _ k1 k2 => jt_lif_le (t := 261) rfl rfl k1 k2) (fun c8 => ?_) (fun c8 => ?_)
  · refine jg_sg 1 (pc1 := 263) (lv1 := [(6, .long x6)]) (st1 := [.long x6]) (fun _ _ _ => rfl) ?_
    exact jg_rl rfl rfl rfl
  · refine jg_sg 2 (pc1 := 263) (lv1 := [(6, .long x6)]) (st1 := [.long (-1)]) (fun _ _ _ => rfl) ?_
    exact jg_rl rfl rfl rfl
noncomputable def J_M_following_120 (y0 : Int64) (S : jS) : Option (Int64 × jS) := J_M_following_246 y0 S
set_option maxRecDepth 20000 in
theorem kJ_M_following_120 {q rF rL : Nat} (hF : 6 ≤ rF) (hL : 152 ≤ rL)   (y0 : Int64) (S : jS) : jg q jp_M_following rF rL 120 [] [.long y0] S 0 s_L (J_M_following_120 y0 S) := by
  unfold J_M_following_120
  refine jg_sg 2 (pc1 := 246) (lv1 := [(6, .long y0)]) (st1 := []) (fun _ _ _ => rfl) ?_
  refine jg_lvs (lv1 := [(6, .long y0)]) rfl rfl ⟨rfl, trivial⟩ ?_
  exact kJ_M_following_246 (by omega) (by omega) y0 S
noncomputable def J_M_following_69 (x1 : Int32) (x2 : Int64) (x4 : Int64) (y0 : Int64) (S : jS) : Option (Int64 × jS) := j_q (j_in x1 100) (if (S.1 445 ((x1 : Int32).toNatClampNeg)) = 0 then (J_M_following_120 (x2 + x4) S) else (j_q (j_in x1 100) (if (S.1 445 ((x1 : Int32).toNatClampNeg)) = 1 then ((F_Math_max2 1 y0 S).bind (fun z16 => J_M_following_120 (x2 + (x4 * z16)) S)) else (J_M_following_120 (x2 + (x4 * (y0 + 1))) S))))
set_option maxRecDepth 20000 in
theorem kJ_M_following_69 {q rF rL : Nat} (hF : 6 ≤ rF) (hL : 152 ≤ rL)   (x1 : Int32) (x2 : Int64) (x4 : Int64) (y0 : Int64) (S : jS) : jg q jp_M_following rF rL 69 [(0, .ref 215), (1, .int x1), (2, .long x2), (4, .long x4)] [.long y0] S 0 s_L (J_M_following_69 x1 x2 x4 y0 S) := by
  unfold J_M_following_69
  refine jg_sg 2 (pc1 := 72) (lv1 := [(8, .long y0), (0, .ref 215), (1, .int x1), (2, .long x2), (4, .long x4)]) (st1 := [.ref 215]) (fun _ _ _ => rfl) ?_
  refine jg_g (v := .ref 445) rfl kc_215 rfl rfl ?_
  refine jg_sg 1 (pc1 := 76) (lv1 := [(8, .long y0), (0, .ref 215), (1, .int x1), (2, .long x2), (4, .long x4)]) (st1 := [.int x1, .ref 445]) (fun _ _ _ => rfl) ?_
  refine jg_ial rfl kc_445 (fun g12 => ?_)
  refine jg_br (fun _ _ _ _ k1 k2 => jt_if_ne (t := 87) rfl rfl k2 k1) (fun c13 => ?_) (fun c13 => ?_)
  · refine jg_sg 4 (pc1 := 120) (lv1 := [(8, .long y0), (0, .ref 215), (1, .int x1), (2, .long x2), (4, .long x4)]) (st1 := [.long (x2 + x4)]) (fun _ _ _ => rfl) ?_
    refine jg_lvs (lv1 := []) rfl rfl trivial ?_
    exact kJ_M_following_120 (by omega) (by omega) (x2 + x4) S
  · refine jg_sg 1 (pc1 := 88) (lv1 := [(8, .long y0), (0, .ref 215), (1, .int x1), (2, .long x2), (4, .long x4)]) (st1 := [.ref 215]) (fun _ _ _ => rfl) ?_
    refine jg_g (v := .ref 445) rfl kc_215 rfl rfl ?_
    refine jg_sg 1 (pc1 := 92) (lv1 := [(8, .long y0), (0, .ref 215), (1, .int x1), (2, .long x2), (4, .long x4)]) (st1 := [.int x1, .ref 445]) (fun _ _ _ => rfl) ?_
    refine jg_ial rfl kc_445 (fun g14 => ?_)
    refine jg_sg 1 (pc1 := 94) (lv1 := [(8, .long y0), (0, .ref 215), (1, .int x1), (2, .long x2), (4, .long x4)]) (st1 := [.int 1, .int (S.1 445 ((x1 : Int32).toNatClampNeg))]) (fun _ _ _ => rfl) ?_
    refine jg_br (fun _ _ _ _ k1 k2 => jt_icmp_ne (t := 111) rfl rfl k2 k1) (fun c15 => ?_) (fun c15 => ?_)
    · refine jg_sg 4 (pc1 := 103) (lv1 := [(8, .long y0), (0, .ref 215), (1, .int x1), (2, .long x2), (4, .long x4)]) (st1 := [.long y0, .long 1, .long x4, .long x2]) (fun _ _ _ => rfl) ?_
      refine jg_cpL (m2 := jp_Math_max2) (As := [.long 1, .long y0]) (r := [.long x4, .long x2]) (mx := 4) (jh_s rfl (fun _ _ _ => rfl) rfl rfl rfl (by omega) (by omega) (Nat.le_of_ble_eq_true rfl)) (kF_Math_max2 1 y0 S _ _ (by omega) (by omega) ) (fun z16 => ?_)
      refine jg_sg 3 (pc1 := 120) (lv1 := [(8, .long y0), (0, .ref 215), (1, .int x1), (2, .long x2), (4, .long x4)]) (st1 := [.long (x2 + (x4 * z16))]) (fun _ _ _ => rfl) ?_
      refine jg_lvs (lv1 := []) rfl rfl trivial ?_
      exact kJ_M_following_120 (by omega) (by omega) (x2 + (x4 * z16)) S
    · refine jg_sg 7 (pc1 := 120) (lv1 := [(8, .long y0), (0, .ref 215), (1, .int x1), (2, .long x2), (4, .long x4)]) (st1 := [.long (x2 + (x4 * (y0 + 1)))]) (fun _ _ _ => rfl) ?_
      refine jg_lvs (lv1 := []) rfl rfl trivial ?_
      exact kJ_M_following_120 (by omega) (by omega) (x2 + (x4 * (y0 + 1))) S
noncomputable def J_M_following_212 (x1 : Int32) (x2 : Int64) (y0 : Int64) (S : jS) : Option (Int64 × jS) := if x2 < y0 then (J_M_following_246 y0 S) else (j_q (j_in x1 100) (j_q (j_in x1 100) (j_q (j_in x1 100) ((F_M_nextFire (S.1 447 ((x1 : Int32).toNatClampNeg)) (S.1 448 ((x1 : Int32).toNatClampNeg)) (S.1 449 ((x1 : Int32).toNatClampNeg)) x2 S).bind (fun z35 => J_M_following_246 z35.1 z35.2)))))
set_option maxRecDepth 20000 in
theorem kJ_M_following_212 {q rF rL : Nat} (hF : 6 ≤ rF) (hL : 152 ≤ rL)   (x1 : Int32) (x2 : Int64) (y0 : Int64) (S : jS) : jg q jp_M_following rF rL 212 [(0, .ref 215), (1, .int x1), (2, .long x2)] [.long y0] S 0 s_L (J_M_following_212 x1 x2 y0 S) := by
  unfold J_M_following_212
  refine jg_sg 4 (pc1 := 218) (lv1 := [(6, .long y0), (0, .ref 215), (1, .int x1), (2, .long x2)]) (st1 := [.int (lg_cmp y0 x2)]) (fun _ _ _ => rfl) ?_
  refine jg_br (fun _ _ _ _ k1 k2 => jt_lif_gt (t := 246) rfl rfl k1 k2) (fun c31 => ?_) (fun c31 => ?_)
  · refine jg_lvs (lv1 := [(6, .long y0)]) rfl rfl ⟨rfl, trivial⟩ ?_
    exact kJ_M_following_246 (by omega) (by omega) y0 S
  · refine jg_sg 2 (pc1 := 223) (lv1 := [(6, .long y0), (0, .ref 215), (1, .int x1), (2, .long x2)]) (st1 := [.ref 215, .ref 215]) (fun _ _ _ => rfl) ?_
    refine jg_g (v := .ref 447) rfl kc_215 rfl rfl ?_
    refine jg_sg 1 (pc1 := 227) (lv1 := [(6, .long y0), (0, .ref 215), (1, .int x1), (2, .long x2)]) (st1 := [.int x1, .ref 447, .ref 215]) (fun _ _ _ => rfl) ?_
    refine jg_ial rfl kc_447 (fun g32 => ?_)
    refine jg_sg 1 (pc1 := 229) (lv1 := [(6, .long y0), (0, .ref 215), (1, .int x1), (2, .long x2)]) (st1 := [.ref 215, .int (S.1 447 ((x1 : Int32).toNatClampNeg)), .ref 215]) (fun _ _ _ => rfl) ?_
    refine jg_g (v := .ref 448) rfl kc_215 rfl rfl ?_
    refine jg_sg 1 (pc1 := 233) (lv1 := [(6, .long y0), (0, .ref 215), (1, .int x1), (2, .long x2)]) (st1 := [.int x1, .ref 448, .int (S.1 447 ((x1 : Int32).toNatClampNeg)), .ref 215]) (fun _ _ _ => rfl) ?_
    refine jg_ial rfl kc_448 (fun g33 => ?_)
    refine jg_sg 1 (pc1 := 235) (lv1 := [(6, .long y0), (0, .ref 215), (1, .int x1), (2, .long x2)]) (st1 := [.ref 215, .int (S.1 448 ((x1 : Int32).toNatClampNeg)), .int (S.1 447 ((x1 : Int32).toNatClampNeg)), .ref 215]) (fun _ _ _ => rfl) ?_
    refine jg_g (v := .ref 449) rfl kc_215 rfl rfl ?_
    refine jg_sg 1 (pc1 := 239) (lv1 := [(6, .long y0), (0, .ref 215), (1, .int x1), (2, .long x2)]) (st1 := [.int x1, .ref 449, .int (S.1 448 ((x1 : Int32).toNatClampNeg)), .int (S.1 447 ((x1 : Int32).toNatClampNeg)), .ref 215]) (fun _ _ _ => rfl) ?_
    refine jg_ial rfl kc_449 (fun g34 => ?_)
    refine jg_sg 1 (pc1 := 241) (lv1 := [(6, .long y0), (0, .ref 215), (1, .int x1), (2, .long x2)]) (st1 := [.long x2, .int (S.1 449 ((x1 : Int32).toNatClampNeg)), .int (S.1 448 ((x1 : Int32).toNatClampNeg)), .int (S.1 447 ((x1 : Int32).toNatClampNeg)), .ref 215]) (fun _ _ _ => rfl) ?_
    refine jg_csL (m2 := jp_M_nextFire) (As := [.ref 215, .int (S.1 447 ((x1 : Int32).toNatClampNeg)), .int (S.1 448 ((x1 : Int32).toNatClampNeg)), .int (S.1 449 ((x1 : Int32).toNatClampNeg)), .long x2]) (r := []) (mx := 19) (jh_v (a := 215) rfl rfl rfl kc_215 rfl (Nat.le_of_ble_eq_true rfl) rfl rfl rfl (by omega) (by omega) (Nat.le_of_ble_eq_true rfl)) (kF_M_nextFire (S.1 447 ((x1 : Int32).toNatClampNeg)) (S.1 448 ((x1 : Int32).toNatClampNeg)) (S.1 449 ((x1 : Int32).toNatClampNeg)) x2 S _ _ (by omega) (by omega) ) (fun z35 => ?_)
    refine jg_sg 1 (pc1 := 246) (lv1 := [(6, .long z35.1), (0, .ref 215), (1, .int x1), (2, .long x2)]) (st1 := []) (fun _ _ _ => rfl) ?_
    refine jg_lvs (lv1 := [(6, .long z35.1)]) rfl rfl ⟨rfl, trivial⟩ ?_
    exact kJ_M_following_246 (by omega) (by omega) z35.1 z35.2
noncomputable def F_M_following (p0 : Int32) (S : jS) : Option (Int64 × jS) := j_q (j_in p0 100) (j_l (S.2.1 438 ((p0 : Int32).toNatClampNeg) : Int64) (fun v2 => j_q (j_in p0 100) (j_l (S.2.1 442 ((p0 : Int32).toNatClampNeg) : Int64) (fun v4 => j_q (j_in p0 100) (if (S.1 437 ((p0 : Int32).toNatClampNeg)) = 2 then (j_l ((S.2.1 215 41) + v4 : Int64) (fun v7 => J_M_following_246 v7 S)) else (j_q (j_in p0 100) (if (S.1 437 ((p0 : Int32).toNatClampNeg)) = 1 then (if (S.2.1 215 41) ≤ v2 then (J_M_following_69 p0 v2 v4 0 S) else (j_q (!decide (v4 = 0)) (J_M_following_69 p0 v2 v4 (((S.2.1 215 41) - v2) / v4) S))) else (j_q (j_in p0 100) (if (S.1 445 ((p0 : Int32).toNatClampNeg)) = 2 then (j_q (j_in p0 100) (j_q (j_in p0 100) (j_q (j_in p0 100) ((F_Math_max2 v2 (S.2.1 215 41) S).bind (fun z23 => (F_M_nextFire (S.1 447 ((p0 : Int32).toNatClampNeg)) (S.1 448 ((p0 : Int32).toNatClampNeg)) (S.1 449 ((p0 : Int32).toNatClampNeg)) z23 S).bind (fun z24 => J_M_following_246 z24.1 z24.2)))))) else (j_q (j_in p0 100) (if (S.1 445 ((p0 : Int32).toNatClampNeg)) = 1 then (j_q (j_in p0 100) (j_q (j_in p0 100) (j_q (j_in p0 100) ((F_M_lastFire (S.1 447 ((p0 : Int32).toNatClampNeg)) (S.1 448 ((p0 : Int32).toNatClampNeg)) (S.1 449 ((p0 : Int32).toNatClampNeg)) (S.2.1 215 41) S).bind (fun z30 => J_M_following_212 p0 v2 z30.1 z30.2))))) else (J_M_following_212 p0 v2 (-1) S))))))))))))
set_option maxRecDepth 20000 in
theorem kF_M_following {q : Nat} (p0 : Int32) (S : jS) (rF rL : Nat) (hF : 6 ≤ rF) (hL : 152 ≤ rL)  : jg q jp_M_following rF rL 0 [(0, .ref 215), (1, .int p0)] [] S 0 s_L (F_M_following p0 S) := by
  unfold F_M_following
  refine jg_sg 1 (pc1 := 1) (lv1 := [(0, .ref 215), (1, .int p0)]) (st1 := [.ref 215]) (fun _ _ _ => rfl) ?_
  refine jg_g (v := .ref 438) rfl kc_215 rfl rfl ?_
  refine jg_sg 1 (pc1 := 5) (lv1 := [(0, .ref 215), (1, .int p0)]) (st1 := [.int p0, .ref 438]) (fun _ _ _ => rfl) ?_
  refine jg_lal rfl kc_438 (fun g1 => ?_)
  refine jg_sg 1 (pc1 := 7) (lv1 := [(2, .long (S.2.1 438 ((p0 : Int32).toNatClampNeg))), (0, .ref 215), (1, .int p0)]) (st1 := []) (fun _ _ _ => rfl) ?_
  refine jg_vl (fun v2 => ?_)
  refine jg_sg 1 (pc1 := 8) (lv1 := [(2, .long v2), (0, .ref 215), (1, .int p0)]) (st1 := [.ref 215]) (fun _ _ _ => rfl) ?_
  refine jg_g (v := .ref 442) rfl kc_215 rfl rfl ?_
  refine jg_sg 1 (pc1 := 12) (lv1 := [(2, .long v2), (0, .ref 215), (1, .int p0)]) (st1 := [.int p0, .ref 442]) (fun _ _ _ => rfl) ?_
  refine jg_lal rfl kc_442 (fun g3 => ?_)
  refine jg_sg 1 (pc1 := 15) (lv1 := [(4, .long (S.2.1 442 ((p0 : Int32).toNatClampNeg))), (2, .long v2), (0, .ref 215), (1, .int p0)]) (st1 := []) (fun _ _ _ => rfl) ?_
  refine jg_vl (fun v4 => ?_)
  refine jg_sg 1 (pc1 := 16) (lv1 := [(4, .long v4), (2, .long v2), (0, .ref 215), (1, .int p0)]) (st1 := [.ref 215]) (fun _ _ _ => rfl) ?_
  refine jg_g (v := .ref 437) rfl kc_215 rfl rfl ?_
  refine jg_sg 1 (pc1 := 20) (lv1 := [(4, .long v4), (2, .long v2), (0, .ref 215), (1, .int p0)]) (st1 := [.int p0, .ref 437]) (fun _ _ _ => rfl) ?_
  refine jg_ial rfl kc_437 (fun g5 => ?_)
  refine jg_sg 1 (pc1 := 22) (lv1 := [(4, .long v4), (2, .long v2), (0, .ref 215), (1, .int p0)]) (st1 := [.int 2, .int (S.1 437 ((p0 : Int32).toNatClampNeg))]) (fun _ _ _ => rfl) ?_
  refine jg_br (fun _ _ _ _ k1 k2 => jt_icmp_ne (t := 37) rfl rfl k2 k1) (fun c6 => ?_) (fun c6 => ?_)
  · refine jg_sg 1 (pc1 := 26) (lv1 := [(4, .long v4), (2, .long v2), (0, .ref 215), (1, .int p0)]) (st1 := [.ref 215]) (fun _ _ _ => rfl) ?_
    refine jg_g (v := .long (S.2.1 215 41)) rfl kc_215 rfl rfl ?_
    refine jg_sg 3 (pc1 := 34) (lv1 := [(6, .long ((S.2.1 215 41) + v4)), (4, .long v4), (2, .long v2), (0, .ref 215), (1, .int p0)]) (st1 := []) (fun _ _ _ => rfl) ?_
    refine jg_vl (fun v7 => ?_)
    refine jg_sg 1 (pc1 := 246) (lv1 := [(6, .long v7), (4, .long v4), (2, .long v2), (0, .ref 215), (1, .int p0)]) (st1 := []) (fun _ _ _ => rfl) ?_
    refine jg_lvs (lv1 := [(6, .long v7)]) rfl rfl ⟨rfl, trivial⟩ ?_
    exact kJ_M_following_246 (by omega) (by omega) v7 S
  · refine jg_sg 1 (pc1 := 38) (lv1 := [(4, .long v4), (2, .long v2), (0, .ref 215), (1, .int p0)]) (st1 := [.ref 215]) (fun _ _ _ => rfl) ?_
    refine jg_g (v := .ref 437) rfl kc_215 rfl rfl ?_
    refine jg_sg 1 (pc1 := 42) (lv1 := [(4, .long v4), (2, .long v2), (0, .ref 215), (1, .int p0)]) (st1 := [.int p0, .ref 437]) (fun _ _ _ => rfl) ?_
    refine jg_ial rfl kc_437 (fun g9 => ?_)
    refine jg_sg 1 (pc1 := 44) (lv1 := [(4, .long v4), (2, .long v2), (0, .ref 215), (1, .int p0)]) (st1 := [.int 1, .int (S.1 437 ((p0 : Int32).toNatClampNeg))]) (fun _ _ _ => rfl) ?_
    refine jg_br (fun _ _ _ _ k1 k2 => jt_icmp_ne (t := 125) rfl rfl k2 k1) (fun c10 => ?_) (fun c10 => ?_)
    · refine jg_sg 1 (pc1 := 48) (lv1 := [(4, .long v4), (2, .long v2), (0, .ref 215), (1, .int p0)]) (st1 := [.ref 215]) (fun _ _ _ => rfl) ?_
      refine jg_g (v := .long (S.2.1 215 41)) rfl kc_215 rfl rfl ?_
      refine jg_sg 2 (pc1 := 53) (lv1 := [(4, .long v4), (2, .long v2), (0, .ref 215), (1, .int p0)]) (st1 := [.int (lg_cmp (S.2.1 215 41) v2)]) (fun _ _ _ => rfl) ?_
      refine jg_br (fun _ _ _ _ k1 k2 => jt_lif_le (t := 68) rfl rfl k1 k2) (fun c11 => ?_) (fun c11 => ?_)
      · refine jg_sg 1 (pc1 := 69) (lv1 := [(4, .long v4), (2, .long v2), (0, .ref 215), (1, .int p0)]) (st1 := [.long 0]) (fun _ _ _ => rfl) ?_
        refine jg_lvs (lv1 := [(0, .ref 215), (1, .int p0), (2, .long v2), (4, .long v4)]) rfl rfl ⟨rfl, rfl, rfl, rfl, trivial⟩ ?_
        exact kJ_M_following_69 (by omega) (by omega) p0 v2 v4 0 S
      · refine jg_sg 1 (pc1 := 57) (lv1 := [(4, .long v4), (2, .long v2), (0, .ref 215), (1, .int p0)]) (st1 := [.ref 215]) (fun _ _ _ => rfl) ?_
        refine jg_g (v := .long (S.2.1 215 41)) rfl kc_215 rfl rfl ?_
        refine jg_sg 3 (pc1 := 64) (lv1 := [(4, .long v4), (2, .long v2), (0, .ref 215), (1, .int p0)]) (st1 := [.long v4, .long ((S.2.1 215 41) - v2)]) (fun _ _ _ => rfl) ?_
        refine jg_q (fun g17 => ?_)
        refine jg_st (fun _ _ _ _ _ k => jt_ldiv rfl (by simpa using g17) k) ?_
        refine jg_sg 1 (pc1 := 69) (lv1 := [(4, .long v4), (2, .long v2), (0, .ref 215), (1, .int p0)]) (st1 := [.long (((S.2.1 215 41) - v2) / v4)]) (fun _ _ _ => rfl) ?_
        refine jg_lvs (lv1 := [(0, .ref 215), (1, .int p0), (2, .long v2), (4, .long v4)]) rfl rfl ⟨rfl, rfl, rfl, rfl, trivial⟩ ?_
        exact kJ_M_following_69 (by omega) (by omega) p0 v2 v4 (((S.2.1 215 41) - v2) / v4) S
    · refine jg_sg 1 (pc1 := 126) (lv1 := [(4, .long v4), (2, .long v2), (0, .ref 215), (1, .int p0)]) (st1 := [.ref 215]) (fun _ _ _ => rfl) ?_
      refine jg_g (v := .ref 445) rfl kc_215 rfl rfl ?_
      refine jg_sg 1 (pc1 := 130) (lv1 := [(4, .long v4), (2, .long v2), (0, .ref 215), (1, .int p0)]) (st1 := [.int p0, .ref 445]) (fun _ _ _ => rfl) ?_
      refine jg_ial rfl kc_445 (fun g18 => ?_)
      refine jg_sg 1 (pc1 := 132) (lv1 := [(4, .long v4), (2, .long v2), (0, .ref 215), (1, .int p0)]) (st1 := [.int 2, .int (S.1 445 ((p0 : Int32).toNatClampNeg))]) (fun _ _ _ => rfl) ?_
      refine jg_br (fun _ _ _ _ k1 k2 => jt_icmp_ne (t := 170) rfl rfl k2 k1) (fun c19 => ?_) (fun c19 => ?_)
      · refine jg_sg 2 (pc1 := 137) (lv1 := [(4, .long v4), (2, .long v2), (0, .ref 215), (1, .int p0)]) (st1 := [.ref 215, .ref 215]) (fun _ _ _ => rfl) ?_
        refine jg_g (v := .ref 447) rfl kc_215 rfl rfl ?_
        refine jg_sg 1 (pc1 := 141) (lv1 := [(4, .long v4), (2, .long v2), (0, .ref 215), (1, .int p0)]) (st1 := [.int p0, .ref 447, .ref 215]) (fun _ _ _ => rfl) ?_
        refine jg_ial rfl kc_447 (fun g20 => ?_)
        refine jg_sg 1 (pc1 := 143) (lv1 := [(4, .long v4), (2, .long v2), (0, .ref 215), (1, .int p0)]) (st1 := [.ref 215, .int (S.1 447 ((p0 : Int32).toNatClampNeg)), .ref 215]) (fun _ _ _ => rfl) ?_
        refine jg_g (v := .ref 448) rfl kc_215 rfl rfl ?_
        refine jg_sg 1 (pc1 := 147) (lv1 := [(4, .long v4), (2, .long v2), (0, .ref 215), (1, .int p0)]) (st1 := [.int p0, .ref 448, .int (S.1 447 ((p0 : Int32).toNatClampNeg)), .ref 215]) (fun _ _ _ => rfl) ?_
        refine jg_ial rfl kc_448 (fun g21 => ?_)
        refine jg_sg 1 (pc1 := 149) (lv1 := [(4, .long v4), (2, .long v2), (0, .ref 215), (1, .int p0)]) (st1 := [.ref 215, .int (S.1 448 ((p0 : Int32).toNatClampNeg)), .int (S.1 447 ((p0 : Int32).toNatClampNeg)), .ref 215]) (fun _ _ _ => rfl) ?_
        refine jg_g (v := .ref 449) rfl kc_215 rfl rfl ?_
        refine jg_sg 1 (pc1 := 153) (lv1 := [(4, .long v4), (2, .long v2), (0, .ref 215), (1, .int p0)]) (st1 := [.int p0, .ref 449, .int (S.1 448 ((p0 : Int32).toNatClampNeg)), .int (S.1 447 ((p0 : Int32).toNatClampNeg)), .ref 215]) (fun _ _ _ => rfl) ?_
        refine jg_ial rfl kc_449 (fun g22 => ?_)
        refine jg_sg 2 (pc1 := 156) (lv1 := [(4, .long v4), (2, .long v2), (0, .ref 215), (1, .int p0)]) (st1 := [.ref 215, .long v2, .int (S.1 449 ((p0 : Int32).toNatClampNeg)), .int (S.1 448 ((p0 : Int32).toNatClampNeg)), .int (S.1 447 ((p0 : Int32).toNatClampNeg)), .ref 215]) (fun _ _ _ => rfl) ?_
        refine jg_g (v := .long (S.2.1 215 41)) rfl kc_215 rfl rfl ?_
        refine jg_cpL (m2 := jp_Math_max2) (As := [.long v2, .long (S.2.1 215 41)]) (r := [.int (S.1 449 ((p0 : Int32).toNatClampNeg)), .int (S.1 448 ((p0 : Int32).toNatClampNeg)), .int (S.1 447 ((p0 : Int32).toNatClampNeg)), .ref 215]) (mx := 4) (jh_s rfl (fun _ _ _ => rfl) rfl rfl rfl (by omega) (by omega) (Nat.le_of_ble_eq_true rfl)) (kF_Math_max2 v2 (S.2.1 215 41) S _ _ (by omega) (by omega) ) (fun z23 => ?_)
        refine jg_csL (m2 := jp_M_nextFire) (As := [.ref 215, .int (S.1 447 ((p0 : Int32).toNatClampNeg)), .int (S.1 448 ((p0 : Int32).toNatClampNeg)), .int (S.1 449 ((p0 : Int32).toNatClampNeg)), .long z23]) (r := []) (mx := 19) (jh_v (a := 215) rfl rfl rfl kc_215 rfl (Nat.le_of_ble_eq_true rfl) rfl rfl rfl (by omega) (by omega) (Nat.le_of_ble_eq_true rfl)) (kF_M_nextFire (S.1 447 ((p0 : Int32).toNatClampNeg)) (S.1 448 ((p0 : Int32).toNatClampNeg)) (S.1 449 ((p0 : Int32).toNatClampNeg)) z23 S _ _ (by omega) (by omega) ) (fun z24 => ?_)
        refine jg_sg 2 (pc1 := 246) (lv1 := [(6, .long z24.1), (4, .long v4), (2, .long v2), (0, .ref 215), (1, .int p0)]) (st1 := []) (fun _ _ _ => rfl) ?_
        refine jg_lvs (lv1 := [(6, .long z24.1)]) rfl rfl ⟨rfl, trivial⟩ ?_
        exact kJ_M_following_246 (by omega) (by omega) z24.1 z24.2
      · refine jg_sg 1 (pc1 := 171) (lv1 := [(4, .long v4), (2, .long v2), (0, .ref 215), (1, .int p0)]) (st1 := [.ref 215]) (fun _ _ _ => rfl) ?_
        refine jg_g (v := .ref 445) rfl kc_215 rfl rfl ?_
        refine jg_sg 1 (pc1 := 175) (lv1 := [(4, .long v4), (2, .long v2), (0, .ref 215), (1, .int p0)]) (st1 := [.int p0, .ref 445]) (fun _ _ _ => rfl) ?_
        refine jg_ial rfl kc_445 (fun g25 => ?_)
        refine jg_sg 1 (pc1 := 177) (lv1 := [(4, .long v4), (2, .long v2), (0, .ref 215), (1, .int p0)]) (st1 := [.int 1, .int (S.1 445 ((p0 : Int32).toNatClampNeg))]) (fun _ _ _ => rfl) ?_
        refine jg_br (fun _ _ _ _ k1 k2 => jt_icmp_ne (t := 209) rfl rfl k2 k1) (fun c26 => ?_) (fun c26 => ?_)
        · refine jg_sg 2 (pc1 := 182) (lv1 := [(4, .long v4), (2, .long v2), (0, .ref 215), (1, .int p0)]) (st1 := [.ref 215, .ref 215]) (fun _ _ _ => rfl) ?_
          refine jg_g (v := .ref 447) rfl kc_215 rfl rfl ?_
          refine jg_sg 1 (pc1 := 186) (lv1 := [(4, .long v4), (2, .long v2), (0, .ref 215), (1, .int p0)]) (st1 := [.int p0, .ref 447, .ref 215]) (fun _ _ _ => rfl) ?_
          refine jg_ial rfl kc_447 (fun g27 => ?_)
          refine jg_sg 1 (pc1 := 188) (lv1 := [(4, .long v4), (2, .long v2), (0, .ref 215), (1, .int p0)]) (st1 := [.ref 215, .int (S.1 447 ((p0 : Int32).toNatClampNeg)), .ref 215]) (fun _ _ _ => rfl) ?_
          refine jg_g (v := .ref 448) rfl kc_215 rfl rfl ?_
          refine jg_sg 1 (pc1 := 192) (lv1 := [(4, .long v4), (2, .long v2), (0, .ref 215), (1, .int p0)]) (st1 := [.int p0, .ref 448, .int (S.1 447 ((p0 : Int32).toNatClampNeg)), .ref 215]) (fun _ _ _ => rfl) ?_
          refine jg_ial rfl kc_448 (fun g28 => ?_)
          refine jg_sg 1 (pc1 := 194) (lv1 := [(4, .long v4), (2, .long v2), (0, .ref 215), (1, .int p0)]) (st1 := [.ref 215, .int (S.1 448 ((p0 : Int32).toNatClampNeg)), .int (S.1 447 ((p0 : Int32).toNatClampNeg)), .ref 215]) (fun _ _ _ => rfl) ?_
          refine jg_g (v := .ref 449) rfl kc_215 rfl rfl ?_
          refine jg_sg 1 (pc1 := 198) (lv1 := [(4, .long v4), (2, .long v2), (0, .ref 215), (1, .int p0)]) (st1 := [.int p0, .ref 449, .int (S.1 448 ((p0 : Int32).toNatClampNeg)), .int (S.1 447 ((p0 : Int32).toNatClampNeg)), .ref 215]) (fun _ _ _ => rfl) ?_
          refine jg_ial rfl kc_449 (fun g29 => ?_)
          refine jg_sg 1 (pc1 := 200) (lv1 := [(4, .long v4), (2, .long v2), (0, .ref 215), (1, .int p0)]) (st1 := [.ref 215, .int (S.1 449 ((p0 : Int32).toNatClampNeg)), .int (S.1 448 ((p0 : Int32).toNatClampNeg)), .int (S.1 447 ((p0 : Int32).toNatClampNeg)), .ref 215]) (fun _ _ _ => rfl) ?_
          refine jg_g (v := .long (S.2.1 215 41)) rfl kc_215 rfl rfl ?_
          refine jg_csL (m2 := jp_M_lastFire) (As := [.ref 215, .int (S.1 447 ((p0 : Int32).toNatClampNeg)), .int (S.1 448 ((p0 : Int32).toNatClampNeg)), .int (S.1 449 ((p0 : Int32).toNatClampNeg)), .long (S.2.1 215 41)]) (r := []) (mx := 19) (jh_v (a := 215) rfl rfl rfl kc_215 rfl (Nat.le_of_ble_eq_true rfl) rfl rfl rfl (by omega) (by omega) (Nat.le_of_ble_eq_true rfl)) (kF_M_lastFire (S.1 447 ((p0 : Int32).toNatClampNeg)) (S.1 448 ((p0 : Int32).toNatClampNeg)) (S.1 449 ((p0 : Int32).toNatClampNeg)) (S.2.1 215 41) S _ _ (by omega) (by omega) ) (fun z30 => ?_)
          refine jg_sg 1 (pc1 := 212) (lv1 := [(4, .long v4), (2, .long v2), (0, .ref 215), (1, .int p0)]) (st1 := [.long z30.1]) (fun _ _ _ => rfl) ?_
          refine jg_lvs (lv1 := [(0, .ref 215), (1, .int p0), (2, .long v2)]) rfl rfl ⟨rfl, rfl, rfl, trivial⟩ ?_
          exact kJ_M_following_212 (by omega) (by omega) p0 v2 z30.1 z30.2
        · refine jg_sg 1 (pc1 := 212) (lv1 := [(4, .long v4), (2, .long v2), (0, .ref 215), (1, .int p0)]) (st1 := [.long (-1)]) (fun _ _ _ => rfl) ?_
          refine jg_lvs (lv1 := [(0, .ref 215), (1, .int p0), (2, .long v2)]) rfl rfl ⟨rfl, rfl, rfl, trivial⟩ ?_
          exact kJ_M_following_212 (by omega) (by omega) p0 v2 (-1) S
noncomputable def J_M_free_105 (y0 : Int64) (y1 : Int32) (S : jS) : Option jS := j_q (j_in y1 100) (j_l (w_l S 438 ((y1 : Int32).toNatClampNeg) y0) (fun S10 => some S10))
set_option maxRecDepth 20000 in
theorem kJ_M_free_105 {q rF rL : Nat} (hF : 7 ≤ rF) (hL : 181 ≤ rL)   (y0 : Int64) (y1 : Int32) (S : jS) : jg q jp_M_free rF rL 105 [] [.long y0, .int y1, .ref 438] S 0 s_V (J_M_free_105 y0 y1 S) := by
  unfold J_M_free_105
  refine jg_las rfl kc_438 (fun g9 S10 _ => ?_)
  exact jg_rv rfl rfl rfl
noncomputable def J_M_free_83 (x1 : Int32) (x3 : Int64) (y0 : Int32) (y1 : Int32) (S : jS) : Option jS := j_q (j_in y1 100) (j_l (w_i S 436 ((y1 : Int32).toNatClampNeg) y0) (fun S7 => if ((0 : Int64)) ≤ x3 then (J_M_free_105 x3 x1 S7) else (j_q (j_in x1 100) (J_M_free_105 (S7.2.1 438 ((x1 : Int32).toNatClampNeg)) x1 S7))))
set_option maxRecDepth 20000 in
theorem kJ_M_free_83 {q rF rL : Nat} (hF : 7 ≤ rF) (hL : 181 ≤ rL)   (x1 : Int32) (x3 : Int64) (y0 : Int32) (y1 : Int32) (S : jS) : jg q jp_M_free rF rL 83 [(0, .ref 215), (1, .int x1), (3, .long x3)] [.int y0, .int y1, .ref 436] S 0 s_V (J_M_free_83 x1 x3 y0 y1 S) := by
  unfold J_M_free_83
  refine jg_ias rfl kc_436 (fun g6 S7 _ => ?_)
  refine jg_sg 1 (pc1 := 85) (lv1 := [(0, .ref 215), (1, .int x1), (3, .long x3)]) (st1 := [.ref 215]) (fun _ _ _ => rfl) ?_
  refine jg_g (v := .ref 438) rfl kc_215 rfl rfl ?_
  refine jg_sg 4 (pc1 := 92) (lv1 := [(0, .ref 215), (1, .int x1), (3, .long x3)]) (st1 := [.int (lg_cmp x3 0), .int x1, .ref 438]) (fun _ _ _ => rfl) ?_
  refine jg_br (fun _ _ _ _ k1 k2 => jt_lif_ge (t := 104) rfl rfl k1 k2) (fun c8 => ?_) (fun c8 => ?_)
  · refine jg_sg 1 (pc1 := 105) (lv1 := [(0, .ref 215), (1, .int x1), (3, .long x3)]) (st1 := [.long x3, .int x1, .ref 438]) (fun _ _ _ => rfl) ?_
    refine jg_lvs (lv1 := []) rfl rfl trivial ?_
    exact kJ_M_free_105 (by omega) (by omega) x3 x1 S7
  · refine jg_sg 1 (pc1 := 96) (lv1 := [(0, .ref 215), (1, .int x1), (3, .long x3)]) (st1 := [.ref 215, .int x1, .ref 438]) (fun _ _ _ => rfl) ?_
    refine jg_g (v := .ref 438) rfl kc_215 rfl rfl ?_
    refine jg_sg 1 (pc1 := 100) (lv1 := [(0, .ref 215), (1, .int x1), (3, .long x3)]) (st1 := [.int x1, .ref 438, .int x1, .ref 438]) (fun _ _ _ => rfl) ?_
    refine jg_lal rfl kc_438 (fun g11 => ?_)
    refine jg_sg 1 (pc1 := 105) (lv1 := [(0, .ref 215), (1, .int x1), (3, .long x3)]) (st1 := [.long (S7.2.1 438 ((x1 : Int32).toNatClampNeg)), .int x1, .ref 438]) (fun _ _ _ => rfl) ?_
    refine jg_lvs (lv1 := []) rfl rfl trivial ?_
    exact kJ_M_free_105 (by omega) (by omega) (S7.2.1 438 ((x1 : Int32).toNatClampNeg)) x1 S7
noncomputable def J_M_free_66 (x1 : Int32) (y0 : Int64) (S : jS) : Option jS := if ((0 : Int64)) ≤ y0 then (J_M_free_83 x1 y0 1 x1 S) else (J_M_free_83 x1 y0 0 x1 S)
set_option maxRecDepth 20000 in
theorem kJ_M_free_66 {q rF rL : Nat} (hF : 7 ≤ rF) (hL : 181 ≤ rL)   (x1 : Int32) (y0 : Int64) (S : jS) : jg q jp_M_free rF rL 66 [(0, .ref 215), (1, .int x1)] [.long y0] S 0 s_V (J_M_free_66 x1 y0 S) := by
  unfold J_M_free_66
  refine jg_sg 2 (pc1 := 68) (lv1 := [(3, .long y0), (0, .ref 215), (1, .int x1)]) (st1 := [.ref 215]) (fun _ _ _ => rfl) ?_
  refine jg_g (v := .ref 436) rfl kc_215 rfl rfl ?_
  refine jg_sg 4 (pc1 := 75) (lv1 := [(3, .long y0), (0, .ref 215), (1, .int x1)]) (st1 := [.int (lg_cmp y0 0), .int x1, .ref 436]) (fun _ _ _ => rfl) ?_
  refine jg_br (fun _ _ _ _ k1 k2 => jt_lif_ge (t := 82) rfl rfl k1 k2) (fun c5 => ?_) (fun c5 => ?_)
  · refine jg_sg 1 (pc1 := 83) (lv1 := [(3, .long y0), (0, .ref 215), (1, .int x1)]) (st1 := [.int 1, .int x1, .ref 436]) (fun _ _ _ => rfl) ?_
    refine jg_lvs (lv1 := [(0, .ref 215), (1, .int x1), (3, .long y0)]) rfl rfl ⟨rfl, rfl, rfl, trivial⟩ ?_
    exact kJ_M_free_83 (by omega) (by omega) x1 y0 1 x1 S
  · refine jg_sg 2 (pc1 := 83) (lv1 := [(3, .long y0), (0, .ref 215), (1, .int x1)]) (st1 := [.int 0, .int x1, .ref 436]) (fun _ _ _ => rfl) ?_
    refine jg_lvs (lv1 := [(0, .ref 215), (1, .int x1), (3, .long y0)]) rfl rfl ⟨rfl, rfl, rfl, trivial⟩ ?_
    exact kJ_M_free_83 (by omega) (by omega) x1 y0 0 x1 S
noncomputable def J_M_free_50 (x1 : Int32) (y0 : Int32) (S : jS) : Option jS := if y0 = 0 then ((F_M_following x1 S).bind (fun z4 => J_M_free_66 x1 z4.1 z4.2)) else (J_M_free_66 x1 (-1) S)
set_option maxRecDepth 20000 in
theorem kJ_M_free_50 {q rF rL : Nat} (hF : 7 ≤ rF) (hL : 181 ≤ rL)   (x1 : Int32) (y0 : Int32) (S : jS) : jg q jp_M_free rF rL 50 [(0, .ref 215), (1, .int x1)] [.int y0] S 0 s_V (J_M_free_50 x1 y0 S) := by
  unfold J_M_free_50
  refine jg_sg 2 (pc1 := 52) (lv1 := [(2, .int y0), (0, .ref 215), (1, .int x1)]) (st1 := [.int y0]) (fun _ _ _ => rfl) ?_
  refine jg_br (fun _ _ _ _ k1 k2 => jt_if_eq (t := 61) rfl rfl k1 k2) (fun c3 => ?_) (fun c3 => ?_)
  · refine jg_sg 2 (pc1 := 63) (lv1 := [(2, .int y0), (0, .ref 215), (1, .int x1)]) (st1 := [.int x1, .ref 215]) (fun _ _ _ => rfl) ?_
    refine jg_csL (m2 := jp_M_following) (As := [.ref 215, .int x1]) (r := []) (mx := 10) (jh_v (a := 215) rfl rfl rfl kc_215 rfl (Nat.le_of_ble_eq_true rfl) rfl rfl rfl (by omega) (by omega) (Nat.le_of_ble_eq_true rfl)) (kF_M_following x1 S _ _ (by omega) (by omega) ) (fun z4 => ?_)
    refine jg_lvs (lv1 := [(0, .ref 215), (1, .int x1)]) rfl rfl ⟨rfl, rfl, trivial⟩ ?_
    exact kJ_M_free_66 (by omega) (by omega) x1 z4.1 z4.2
  · refine jg_sg 2 (pc1 := 66) (lv1 := [(2, .int y0), (0, .ref 215), (1, .int x1)]) (st1 := [.long (-1)]) (fun _ _ _ => rfl) ?_
    refine jg_lvs (lv1 := [(0, .ref 215), (1, .int x1)]) rfl rfl ⟨rfl, rfl, trivial⟩ ?_
    exact kJ_M_free_66 (by omega) (by omega) x1 (-1) S
noncomputable def J_M_free_45 (x1 : Int32) (S : jS) : Option jS := J_M_free_50 x1 1 S
set_option maxRecDepth 20000 in
theorem kJ_M_free_45 {q rF rL : Nat} (hF : 7 ≤ rF) (hL : 181 ≤ rL)   (x1 : Int32) (S : jS) : jg q jp_M_free rF rL 45 [(0, .ref 215), (1, .int x1)] [] S 0 s_V (J_M_free_45 x1 S) := by
  unfold J_M_free_45
  refine jg_sg 2 (pc1 := 50) (lv1 := [(0, .ref 215), (1, .int x1)]) (st1 := [.int 1]) (fun _ _ _ => rfl) ?_
  refine jg_lvs (lv1 := [(0, .ref 215), (1, .int x1)]) rfl rfl ⟨rfl, rfl, trivial⟩ ?_
  exact kJ_M_free_50 (by omega) (by omega) x1 1 S
noncomputable def J_M_free_49 (x1 : Int32) (S : jS) : Option jS := J_M_free_50 x1 0 S
set_option maxRecDepth 20000 in
theorem kJ_M_free_49 {q rF rL : Nat} (hF : 7 ≤ rF) (hL : 181 ≤ rL)   (x1 : Int32) (S : jS) : jg q jp_M_free rF rL 49 [(0, .ref 215), (1, .int x1)] [] S 0 s_V (J_M_free_49 x1 S) := by
  unfold J_M_free_49
  refine jg_sg 1 (pc1 := 50) (lv1 := [(0, .ref 215), (1, .int x1)]) (st1 := [.int 0]) (fun _ _ _ => rfl) ?_
  refine jg_lvs (lv1 := [(0, .ref 215), (1, .int x1)]) rfl rfl ⟨rfl, rfl, trivial⟩ ?_
  exact kJ_M_free_50 (by omega) (by omega) x1 0 S
noncomputable def F_M_free (p0 : Int32) (S : jS) : Option jS := j_q (j_in p0 100) (if (S.1 436 ((p0 : Int32).toNatClampNeg)) = 3 then (J_M_free_45 p0 S) else (j_q (j_in p0 100) (if (S.1 437 ((p0 : Int32).toNatClampNeg)) = 0 then (J_M_free_45 p0 S) else (j_q (j_in p0 100) (if (S.1 446 ((p0 : Int32).toNatClampNeg)) ≤ 0 then (J_M_free_49 p0 S) else (j_q (j_in p0 100) (j_q (j_in p0 100) (if (S.2.1 440 ((p0 : Int32).toNatClampNeg)) = ((S.1 446 ((p0 : Int32).toNatClampNeg) : Int32).toInt64) then (J_M_free_45 p0 S) else (J_M_free_49 p0 S)))))))))
set_option maxRecDepth 20000 in
theorem kF_M_free {q : Nat} (p0 : Int32) (S : jS) (rF rL : Nat) (hF : 7 ≤ rF) (hL : 181 ≤ rL)  : jg q jp_M_free rF rL 0 [(0, .ref 215), (1, .int p0)] [] S 0 s_V (F_M_free p0 S) := by
  unfold F_M_free
  refine jg_sg 1 (pc1 := 1) (lv1 := [(0, .ref 215), (1, .int p0)]) (st1 := [.ref 215]) (fun _ _ _ => rfl) ?_
  refine jg_g (v := .ref 436) rfl kc_215 rfl rfl ?_
  refine jg_sg 1 (pc1 := 5) (lv1 := [(0, .ref 215), (1, .int p0)]) (st1 := [.int p0, .ref 436]) (fun _ _ _ => rfl) ?_
  refine jg_ial rfl kc_436 (fun g1 => ?_)
  refine jg_sg 1 (pc1 := 7) (lv1 := [(0, .ref 215), (1, .int p0)]) (st1 := [.int 3, .int (S.1 436 ((p0 : Int32).toNatClampNeg))]) (fun _ _ _ => rfl) ?_
  refine jg_br (fun _ _ _ _ k1 k2 => jt_icmp_eq (t := 45) rfl rfl k1 k2) (fun c2 => ?_) (fun c2 => ?_)
  · refine jg_lvs (lv1 := [(0, .ref 215), (1, .int p0)]) rfl rfl ⟨rfl, rfl, trivial⟩ ?_
    exact kJ_M_free_45 (by omega) (by omega) p0 S
  · refine jg_sg 1 (pc1 := 11) (lv1 := [(0, .ref 215), (1, .int p0)]) (st1 := [.ref 215]) (fun _ _ _ => rfl) ?_
    refine jg_g (v := .ref 437) rfl kc_215 rfl rfl ?_
    refine jg_sg 1 (pc1 := 15) (lv1 := [(0, .ref 215), (1, .int p0)]) (st1 := [.int p0, .ref 437]) (fun _ _ _ => rfl) ?_
    refine jg_ial rfl kc_437 (fun g12 => ?_)
    refine jg_br (fun _ _ _ _ k1 k2 => jt_if_eq (t := 45) rfl rfl k1 k2) (fun c13 => ?_) (fun c13 => ?_)
    · refine jg_lvs (lv1 := [(0, .ref 215), (1, .int p0)]) rfl rfl ⟨rfl, rfl, trivial⟩ ?_
      exact kJ_M_free_45 (by omega) (by omega) p0 S
    · refine jg_sg 1 (pc1 := 20) (lv1 := [(0, .ref 215), (1, .int p0)]) (st1 := [.ref 215]) (fun _ _ _ => rfl) ?_
      refine jg_g (v := .ref 446) rfl kc_215 rfl rfl ?_
      refine jg_sg 1 (pc1 := 24) (lv1 := [(0, .ref 215), (1, .int p0)]) (st1 := [.int p0, .ref 446]) (fun _ _ _ => rfl) ?_
      refine jg_ial rfl kc_446 (fun g14 => ?_)
      refine jg_br (fun _ _ _ _ k1 k2 => jt_if_le (t := 49) rfl rfl k1 k2) (fun c15 => ?_) (fun c15 => ?_)
      · refine jg_lvs (lv1 := [(0, .ref 215), (1, .int p0)]) rfl rfl ⟨rfl, rfl, trivial⟩ ?_
        exact kJ_M_free_49 (by omega) (by omega) p0 S
      · refine jg_sg 1 (pc1 := 29) (lv1 := [(0, .ref 215), (1, .int p0)]) (st1 := [.ref 215]) (fun _ _ _ => rfl) ?_
        refine jg_g (v := .ref 440) rfl kc_215 rfl rfl ?_
        refine jg_sg 1 (pc1 := 33) (lv1 := [(0, .ref 215), (1, .int p0)]) (st1 := [.int p0, .ref 440]) (fun _ _ _ => rfl) ?_
        refine jg_lal rfl kc_440 (fun g16 => ?_)
        refine jg_sg 1 (pc1 := 35) (lv1 := [(0, .ref 215), (1, .int p0)]) (st1 := [.ref 215, .long (S.2.1 440 ((p0 : Int32).toNatClampNeg))]) (fun _ _ _ => rfl) ?_
        refine jg_g (v := .ref 446) rfl kc_215 rfl rfl ?_
        refine jg_sg 1 (pc1 := 39) (lv1 := [(0, .ref 215), (1, .int p0)]) (st1 := [.int p0, .ref 446, .long (S.2.1 440 ((p0 : Int32).toNatClampNeg))]) (fun _ _ _ => rfl) ?_
        refine jg_ial rfl kc_446 (fun g17 => ?_)
        refine jg_sg 2 (pc1 := 42) (lv1 := [(0, .ref 215), (1, .int p0)]) (st1 := [.int (lg_cmp (S.2.1 440 ((p0 : Int32).toNatClampNeg)) ((S.1 446 ((p0 : Int32).toNatClampNeg) : Int32).toInt64))]) (fun _ _ _ => rfl) ?_
        refine jg_br (fun _ _ _ _ k1 k2 => jt_lif_ne (t := 49) rfl rfl k2 k1) (fun c18 => ?_) (fun c18 => ?_)
        · refine jg_lvs (lv1 := [(0, .ref 215), (1, .int p0)]) rfl rfl ⟨rfl, rfl, trivial⟩ ?_
          exact kJ_M_free_45 (by omega) (by omega) p0 S
        · refine jg_lvs (lv1 := [(0, .ref 215), (1, .int p0)]) rfl rfl ⟨rfl, rfl, trivial⟩ ?_
          exact kJ_M_free_49 (by omega) (by omega) p0 S
noncomputable def J_M_first_119 (kt4 : Int32 → Int32 → Option Int32) (S : jS) (x2 : Int32) : Option Int32 := kt4 x2 (x2 + 1)
set_option maxRecDepth 20000 in
theorem kJ_M_first_119 {q rF rL : Nat} (hF : 0 ≤ rF) (hL : 0 ≤ rL) (S : jS) (kt4 : Int32 → Int32 → Option Int32) (ih4 : ∀ (x1 : Int32) (x2 : Int32), jg q jp_M_first rF rL 4 [(0, .ref 215), (1, .int x1), (2, .int x2)] [] S 0 (p_I S) (kt4 x1 x2)) (x2 : Int32) : jg q jp_M_first rF rL 119 [(0, .ref 215), (2, .int x2)] [] S 0 (p_I S) (J_M_first_119 kt4 S x2) := by
  unfold J_M_first_119
  refine jg_sg 4 (pc1 := 4) (lv1 := [(2, .int (x2 + 1)), (1, .int x2), (0, .ref 215)]) (st1 := []) (fun _ _ _ => rfl) ?_
  refine jg_lvs (lv1 := [(0, .ref 215), (1, .int x2), (2, .int (x2 + 1))]) rfl rfl ⟨rfl, rfl, rfl, trivial⟩ ?_
  exact ih4 x2 (x2 + 1)
noncomputable def L_M_first_4 (S : jS) : Nat → Int32 → Int32 → Option Int32
  | 0, _, _ => none
  | f + 1, x1, x2 => if 100 ≤ x2 then (some x1) else (j_q (j_in x2 100) (if (S.1 436 ((x2 : Int32).toNatClampNeg)) = 1 then (j_q (j_in x2 100) (if (S.2.1 438 ((x2 : Int32).toNatClampNeg)) ≤ (S.2.1 215 41) then (if x1 < 0 then (J_M_first_119 (L_M_first_4 S f) S x2) else (j_q (j_in x2 100) (j_q (j_in x1 100) (if (S.2.1 438 ((x2 : Int32).toNatClampNeg)) < (S.2.1 438 ((x1 : Int32).toNatClampNeg)) then (J_M_first_119 (L_M_first_4 S f) S x2) else (j_q (j_in x2 100) (j_q (j_in x1 100) (if (S.2.1 438 ((x2 : Int32).toNatClampNeg)) = (S.2.1 438 ((x1 : Int32).toNatClampNeg)) then (j_q (j_in x2 100) (j_q (j_in x1 100) (if (S.1 444 ((x1 : Int32).toNatClampNeg)) < (S.1 444 ((x2 : Int32).toNatClampNeg)) then (J_M_first_119 (L_M_first_4 S f) S x2) else (j_q (j_in x2 100) (j_q (j_in x1 100) (if (S.1 444 ((x2 : Int32).toNatClampNeg)) = (S.1 444 ((x1 : Int32).toNatClampNeg)) then (j_q (j_in x2 100) (j_q (j_in x1 100) (if (S.2.1 441 ((x1 : Int32).toNatClampNeg)) ≤ (S.2.1 441 ((x2 : Int32).toNatClampNeg)) then ((L_M_first_4 S f) x1 (x2 + 1)) else (J_M_first_119 (L_M_first_4 S f) S x2)))) else ((L_M_first_4 S f) x1 (x2 + 1)))))))) else ((L_M_first_4 S f) x1 (x2 + 1))))))))) else ((L_M_first_4 S f) x1 (x2 + 1)))) else ((L_M_first_4 S f) x1 (x2 + 1))))
set_option maxRecDepth 20000 in
theorem kL_M_first_4 {q rF rL : Nat} (hF : 0 ≤ rF) (hL : 0 ≤ rL) (S : jS)  : ∀ (f : Nat) (x1 : Int32) (x2 : Int32), jg q jp_M_first rF rL 4 [(0, .ref 215), (1, .int x1), (2, .int x2)] [] S 0 (p_I S) (L_M_first_4 S f x1 x2) := by
  intro f
  induction f with
  | zero => intro _ _; exact jg_none
  | succ f ih4 =>
    intro x1 x2
    rw [L_M_first_4]
    refine jg_sg 2 (pc1 := 7) (lv1 := [(0, .ref 215), (1, .int x1), (2, .int x2)]) (st1 := [.int 100, .int x2]) (fun _ _ _ => rfl) ?_
    refine jg_br (fun _ _ _ _ k1 k2 => jt_icmp_ge (t := 127) rfl rfl k1 k2) (fun c1 => ?_) (fun c1 => ?_)
    · refine jg_sg 1 (pc1 := 128) (lv1 := [(0, .ref 215), (1, .int x1), (2, .int x2)]) (st1 := [.int x1]) (fun _ _ _ => rfl) ?_
      exact jg_ri rfl rfl rfl rfl
    · refine jg_sg 1 (pc1 := 11) (lv1 := [(0, .ref 215), (1, .int x1), (2, .int x2)]) (st1 := [.ref 215]) (fun _ _ _ => rfl) ?_
      refine jg_g (v := .ref 436) rfl kc_215 rfl rfl ?_
      refine jg_sg 1 (pc1 := 15) (lv1 := [(0, .ref 215), (1, .int x1), (2, .int x2)]) (st1 := [.int x2, .ref 436]) (fun _ _ _ => rfl) ?_
      refine jg_ial rfl kc_436 (fun g2 => ?_)
      refine jg_sg 1 (pc1 := 17) (lv1 := [(0, .ref 215), (1, .int x1), (2, .int x2)]) (st1 := [.int 1, .int (S.1 436 ((x2 : Int32).toNatClampNeg))]) (fun _ _ _ => rfl) ?_
      refine jg_br (fun _ _ _ _ k1 k2 => jt_icmp_ne (t := 121) rfl rfl k2 k1) (fun c3 => ?_) (fun c3 => ?_)
      · refine jg_sg 1 (pc1 := 21) (lv1 := [(0, .ref 215), (1, .int x1), (2, .int x2)]) (st1 := [.ref 215]) (fun _ _ _ => rfl) ?_
        refine jg_g (v := .ref 438) rfl kc_215 rfl rfl ?_
        refine jg_sg 1 (pc1 := 25) (lv1 := [(0, .ref 215), (1, .int x1), (2, .int x2)]) (st1 := [.int x2, .ref 438]) (fun _ _ _ => rfl) ?_
        refine jg_lal rfl kc_438 (fun g4 => ?_)
        refine jg_sg 1 (pc1 := 27) (lv1 := [(0, .ref 215), (1, .int x1), (2, .int x2)]) (st1 := [.ref 215, .long (S.2.1 438 ((x2 : Int32).toNatClampNeg))]) (fun _ _ _ => rfl) ?_
        refine jg_g (v := .long (S.2.1 215 41)) rfl kc_215 rfl rfl ?_
        refine jg_sg 1 (pc1 := 31) (lv1 := [(0, .ref 215), (1, .int x1), (2, .int x2)]) (st1 := [.int (lg_cmp (S.2.1 438 ((x2 : Int32).toNatClampNeg)) (S.2.1 215 41))]) (fun _ _ _ => rfl) ?_
        refine jg_br (fun _ _ _ _ k1 k2 => jt_lif_le (t := 37) rfl rfl k1 k2) (fun c5 => ?_) (fun c5 => ?_)
        · refine jg_sg 1 (pc1 := 38) (lv1 := [(0, .ref 215), (1, .int x1), (2, .int x2)]) (st1 := [.int x1]) (fun _ _ _ => rfl) ?_
          refine jg_br (fun _ _ _ _ k1 k2 => jt_if_lt (t := 119) rfl rfl k1 k2) (fun c6 => ?_) (fun c6 => ?_)
          · refine jg_lvs (lv1 := [(0, .ref 215), (2, .int x2)]) rfl rfl ⟨rfl, rfl, trivial⟩ ?_
            exact kJ_M_first_119 (by omega) (by omega) S (L_M_first_4 S f) ih4 x2
          · refine jg_sg 1 (pc1 := 42) (lv1 := [(0, .ref 215), (1, .int x1), (2, .int x2)]) (st1 := [.ref 215]) (fun _ _ _ => rfl) ?_
            refine jg_g (v := .ref 438) rfl kc_215 rfl rfl ?_
            refine jg_sg 1 (pc1 := 46) (lv1 := [(0, .ref 215), (1, .int x1), (2, .int x2)]) (st1 := [.int x2, .ref 438]) (fun _ _ _ => rfl) ?_
            refine jg_lal rfl kc_438 (fun g7 => ?_)
            refine jg_sg 1 (pc1 := 48) (lv1 := [(0, .ref 215), (1, .int x1), (2, .int x2)]) (st1 := [.ref 215, .long (S.2.1 438 ((x2 : Int32).toNatClampNeg))]) (fun _ _ _ => rfl) ?_
            refine jg_g (v := .ref 438) rfl kc_215 rfl rfl ?_
            refine jg_sg 1 (pc1 := 52) (lv1 := [(0, .ref 215), (1, .int x1), (2, .int x2)]) (st1 := [.int x1, .ref 438, .long (S.2.1 438 ((x2 : Int32).toNatClampNeg))]) (fun _ _ _ => rfl) ?_
            refine jg_lal rfl kc_438 (fun g8 => ?_)
            refine jg_sg 1 (pc1 := 54) (lv1 := [(0, .ref 215), (1, .int x1), (2, .int x2)]) (st1 := [.int (lg_cmp (S.2.1 438 ((x2 : Int32).toNatClampNeg)) (S.2.1 438 ((x1 : Int32).toNatClampNeg)))]) (fun _ _ _ => rfl) ?_
            refine jg_br (fun _ _ _ _ k1 k2 => jt_lif_lt (t := 119) rfl rfl k1 k2) (fun c9 => ?_) (fun c9 => ?_)
            · refine jg_lvs (lv1 := [(0, .ref 215), (2, .int x2)]) rfl rfl ⟨rfl, rfl, trivial⟩ ?_
              exact kJ_M_first_119 (by omega) (by omega) S (L_M_first_4 S f) ih4 x2
            · refine jg_sg 1 (pc1 := 58) (lv1 := [(0, .ref 215), (1, .int x1), (2, .int x2)]) (st1 := [.ref 215]) (fun _ _ _ => rfl) ?_
              refine jg_g (v := .ref 438) rfl kc_215 rfl rfl ?_
              refine jg_sg 1 (pc1 := 62) (lv1 := [(0, .ref 215), (1, .int x1), (2, .int x2)]) (st1 := [.int x2, .ref 438]) (fun _ _ _ => rfl) ?_
              refine jg_lal rfl kc_438 (fun g10 => ?_)
              refine jg_sg 1 (pc1 := 64) (lv1 := [(0, .ref 215), (1, .int x1), (2, .int x2)]) (st1 := [.ref 215, .long (S.2.1 438 ((x2 : Int32).toNatClampNeg))]) (fun _ _ _ => rfl) ?_
              refine jg_g (v := .ref 438) rfl kc_215 rfl rfl ?_
              refine jg_sg 1 (pc1 := 68) (lv1 := [(0, .ref 215), (1, .int x1), (2, .int x2)]) (st1 := [.int x1, .ref 438, .long (S.2.1 438 ((x2 : Int32).toNatClampNeg))]) (fun _ _ _ => rfl) ?_
              refine jg_lal rfl kc_438 (fun g11 => ?_)
              refine jg_sg 1 (pc1 := 70) (lv1 := [(0, .ref 215), (1, .int x1), (2, .int x2)]) (st1 := [.int (lg_cmp (S.2.1 438 ((x2 : Int32).toNatClampNeg)) (S.2.1 438 ((x1 : Int32).toNatClampNeg)))]) (fun _ _ _ => rfl) ?_
              refine jg_br (fun _ _ _ _ k1 k2 => jt_lif_ne (t := 121) rfl rfl k2 k1) (fun c12 => ?_) (fun c12 => ?_)
              · refine jg_sg 1 (pc1 := 74) (lv1 := [(0, .ref 215), (1, .int x1), (2, .int x2)]) (st1 := [.ref 215]) (fun _ _ _ => rfl) ?_
                refine jg_g (v := .ref 444) rfl kc_215 rfl rfl ?_
                refine jg_sg 1 (pc1 := 78) (lv1 := [(0, .ref 215), (1, .int x1), (2, .int x2)]) (st1 := [.int x2, .ref 444]) (fun _ _ _ => rfl) ?_
                refine jg_ial rfl kc_444 (fun g13 => ?_)
                refine jg_sg 1 (pc1 := 80) (lv1 := [(0, .ref 215), (1, .int x1), (2, .int x2)]) (st1 := [.ref 215, .int (S.1 444 ((x2 : Int32).toNatClampNeg))]) (fun _ _ _ => rfl) ?_
                refine jg_g (v := .ref 444) rfl kc_215 rfl rfl ?_
                refine jg_sg 1 (pc1 := 84) (lv1 := [(0, .ref 215), (1, .int x1), (2, .int x2)]) (st1 := [.int x1, .ref 444, .int (S.1 444 ((x2 : Int32).toNatClampNeg))]) (fun _ _ _ => rfl) ?_
                refine jg_ial rfl kc_444 (fun g14 => ?_)
                refine jg_br (fun _ _ _ _ k1 k2 => jt_icmp_gt (t := 119) rfl rfl k1 k2) (fun c15 => ?_) (fun c15 => ?_)
                · refine jg_lvs (lv1 := [(0, .ref 215), (2, .int x2)]) rfl rfl ⟨rfl, rfl, trivial⟩ ?_
                  exact kJ_M_first_119 (by omega) (by omega) S (L_M_first_4 S f) ih4 x2
                · refine jg_sg 1 (pc1 := 89) (lv1 := [(0, .ref 215), (1, .int x1), (2, .int x2)]) (st1 := [.ref 215]) (fun _ _ _ => rfl) ?_
                  refine jg_g (v := .ref 444) rfl kc_215 rfl rfl ?_
                  refine jg_sg 1 (pc1 := 93) (lv1 := [(0, .ref 215), (1, .int x1), (2, .int x2)]) (st1 := [.int x2, .ref 444]) (fun _ _ _ => rfl) ?_
                  refine jg_ial rfl kc_444 (fun g16 => ?_)
                  refine jg_sg 1 (pc1 := 95) (lv1 := [(0, .ref 215), (1, .int x1), (2, .int x2)]) (st1 := [.ref 215, .int (S.1 444 ((x2 : Int32).toNatClampNeg))]) (fun _ _ _ => rfl) ?_
                  refine jg_g (v := .ref 444) rfl kc_215 rfl rfl ?_
                  refine jg_sg 1 (pc1 := 99) (lv1 := [(0, .ref 215), (1, .int x1), (2, .int x2)]) (st1 := [.int x1, .ref 444, .int (S.1 444 ((x2 : Int32).toNatClampNeg))]) (fun _ _ _ => rfl) ?_
                  refine jg_ial rfl kc_444 (fun g17 => ?_)
                  refine jg_br (fun _ _ _ _ k1 k2 => jt_icmp_ne (t := 121) rfl rfl k2 k1) (fun c18 => ?_) (fun c18 => ?_)
                  · refine jg_sg 1 (pc1 := 104) (lv1 := [(0, .ref 215), (1, .int x1), (2, .int x2)]) (st1 := [.ref 215]) (fun _ _ _ => rfl) ?_
                    refine jg_g (v := .ref 441) rfl kc_215 rfl rfl ?_
                    refine jg_sg 1 (pc1 := 108) (lv1 := [(0, .ref 215), (1, .int x1), (2, .int x2)]) (st1 := [.int x2, .ref 441]) (fun _ _ _ => rfl) ?_
                    refine jg_lal rfl kc_441 (fun g19 => ?_)
                    refine jg_sg 1 (pc1 := 110) (lv1 := [(0, .ref 215), (1, .int x1), (2, .int x2)]) (st1 := [.ref 215, .long (S.2.1 441 ((x2 : Int32).toNatClampNeg))]) (fun _ _ _ => rfl) ?_
                    refine jg_g (v := .ref 441) rfl kc_215 rfl rfl ?_
                    refine jg_sg 1 (pc1 := 114) (lv1 := [(0, .ref 215), (1, .int x1), (2, .int x2)]) (st1 := [.int x1, .ref 441, .long (S.2.1 441 ((x2 : Int32).toNatClampNeg))]) (fun _ _ _ => rfl) ?_
                    refine jg_lal rfl kc_441 (fun g20 => ?_)
                    refine jg_sg 1 (pc1 := 116) (lv1 := [(0, .ref 215), (1, .int x1), (2, .int x2)]) (st1 := [.int (lg_cmp (S.2.1 441 ((x2 : Int32).toNatClampNeg)) (S.2.1 441 ((x1 : Int32).toNatClampNeg)))]) (fun _ _ _ => rfl) ?_
                    refine jg_br (fun _ _ _ _ k1 k2 => jt_lif_ge (t := 121) rfl rfl k1 k2) (fun c21 => ?_) (fun c21 => ?_)
                    · refine jg_sg 2 (pc1 := 4) (lv1 := [(2, .int (x2 + 1)), (0, .ref 215), (1, .int x1)]) (st1 := []) (fun _ _ _ => rfl) ?_
                      refine jg_lvs (lv1 := [(0, .ref 215), (1, .int x1), (2, .int (x2 + 1))]) rfl rfl ⟨rfl, rfl, rfl, trivial⟩ ?_
                      exact ih4 x1 (x2 + 1)
                    · refine jg_lvs (lv1 := [(0, .ref 215), (2, .int x2)]) rfl rfl ⟨rfl, rfl, trivial⟩ ?_
                      exact kJ_M_first_119 (by omega) (by omega) S (L_M_first_4 S f) ih4 x2
                  · refine jg_sg 2 (pc1 := 4) (lv1 := [(2, .int (x2 + 1)), (0, .ref 215), (1, .int x1)]) (st1 := []) (fun _ _ _ => rfl) ?_
                    refine jg_lvs (lv1 := [(0, .ref 215), (1, .int x1), (2, .int (x2 + 1))]) rfl rfl ⟨rfl, rfl, rfl, trivial⟩ ?_
                    exact ih4 x1 (x2 + 1)
              · refine jg_sg 2 (pc1 := 4) (lv1 := [(2, .int (x2 + 1)), (0, .ref 215), (1, .int x1)]) (st1 := []) (fun _ _ _ => rfl) ?_
                refine jg_lvs (lv1 := [(0, .ref 215), (1, .int x1), (2, .int (x2 + 1))]) rfl rfl ⟨rfl, rfl, rfl, trivial⟩ ?_
                exact ih4 x1 (x2 + 1)
        · refine jg_sg 3 (pc1 := 4) (lv1 := [(2, .int (x2 + 1)), (0, .ref 215), (1, .int x1)]) (st1 := []) (fun _ _ _ => rfl) ?_
          refine jg_lvs (lv1 := [(0, .ref 215), (1, .int x1), (2, .int (x2 + 1))]) rfl rfl ⟨rfl, rfl, rfl, trivial⟩ ?_
          exact ih4 x1 (x2 + 1)
      · refine jg_sg 2 (pc1 := 4) (lv1 := [(2, .int (x2 + 1)), (0, .ref 215), (1, .int x1)]) (st1 := []) (fun _ _ _ => rfl) ?_
        refine jg_lvs (lv1 := [(0, .ref 215), (1, .int x1), (2, .int (x2 + 1))]) rfl rfl ⟨rfl, rfl, rfl, trivial⟩ ?_
        exact ih4 x1 (x2 + 1)
noncomputable def F_M_first  (S : jS) : Option Int32 := L_M_first_4 S ju_ (-1) 0
set_option maxRecDepth 20000 in
theorem kF_M_first {q : Nat}  (S : jS) (rF rL : Nat) (hF : 0 ≤ rF) (hL : 0 ≤ rL)  : jg q jp_M_first rF rL 0 [(0, .ref 215)] [] S 0 (p_I S) (F_M_first S) := by
  unfold F_M_first
  refine jg_sg 4 (pc1 := 4) (lv1 := [(2, .int 0), (1, .int (-1)), (0, .ref 215)]) (st1 := []) (fun _ _ _ => rfl) ?_
  refine jg_lvs (lv1 := [(0, .ref 215), (1, .int (-1)), (2, .int 0)]) rfl rfl ⟨rfl, rfl, rfl, trivial⟩ ?_
  exact kL_M_first_4 (by omega) (by omega) S ju_ (-1) 0
noncomputable def J_M_work_207 (kt77 : jS → Option (Int32 × jS)) (S : jS) : Option (Int32 × jS) := if (S.1 215 49) = 500 then (some (0, S)) else (kt77 S)
set_option maxRecDepth 20000 in
theorem kJ_M_work_207 {q rF rL : Nat} (hF : 8 ≤ rF) (hL : 205 ≤ rL)  (kt77 : jS → Option (Int32 × jS)) (ih77 : ∀  (S : jS), jg q jp_M_work rF rL 77 [(0, .ref 215)] [] S 0 s_I (kt77 S)) (S : jS) : jg q jp_M_work rF rL 207 [(0, .ref 215)] [] S 0 s_I (J_M_work_207 kt77 S) := by
  unfold J_M_work_207
  refine jg_sg 1 (pc1 := 208) (lv1 := [(0, .ref 215)]) (st1 := [.ref 215]) (fun _ _ _ => rfl) ?_
  refine jg_g (v := .int (S.1 215 49)) rfl kc_215 rfl rfl ?_
  refine jg_sg 1 (pc1 := 214) (lv1 := [(0, .ref 215)]) (st1 := [.int 500, .int (S.1 215 49)]) (fun _ _ _ => rfl) ?_
  refine jg_br (fun _ _ _ _ k1 k2 => jt_icmp_ne (t := 219) rfl rfl k2 k1) (fun c28 => ?_) (fun c28 => ?_)
  · refine jg_sg 1 (pc1 := 218) (lv1 := [(0, .ref 215)]) (st1 := [.int 0]) (fun _ _ _ => rfl) ?_
    exact jg_ri rfl rfl rfl rfl
  · refine jg_sg 1 (pc1 := 77) (lv1 := [(0, .ref 215)]) (st1 := []) (fun _ _ _ => rfl) ?_
    refine jg_lvs (lv1 := [(0, .ref 215)]) rfl rfl ⟨rfl, trivial⟩ ?_
    exact ih77 S
noncomputable def L_M_work_77  : Nat → jS → Option (Int32 × jS)
  | 0, _ => none
  | f + 1, S => (F_M_running S).bind (fun z4 => if (S.1 215 42) ≤ z4 then (some (1, S)) else ((F_M_first S).bind (fun z6 => if 0 ≤ z6 then (j_q (j_in (S.1 215 49) 500) (j_l (w_l S 450 ((S.1 215 49 : Int32).toNatClampNeg) (S.2.1 215 41)) (fun S9 => j_q (j_in (S9.1 215 49) 500) (j_l (w_i S9 451 ((S9.1 215 49 : Int32).toNatClampNeg) z6) (fun S11 => j_q (j_in z6 100) (j_q (j_in (S11.1 215 49) 500) (j_l (w_l S11 452 ((S11.1 215 49 : Int32).toNatClampNeg) (S11.2.1 438 ((z6 : Int32).toNatClampNeg))) (fun S14 => j_l (w_i S14 215 49 ((S14.1 215 49) + 1)) (fun S15 => j_l (w_l S15 215 44 ((S15.2.1 215 44) + 1)) (fun S16 => j_q (j_in z6 100) (j_q (j_in z6 100) (j_l (w_l S16 440 ((z6 : Int32).toNatClampNeg) ((S16.2.1 440 ((z6 : Int32).toNatClampNeg)) + 1)) (fun S19 => j_q (j_in z6 100) (j_l (w_i S19 436 ((z6 : Int32).toNatClampNeg) 2) (fun S21 => j_q (j_in z6 100) (j_q (j_in z6 100) (j_l (w_l S21 439 ((z6 : Int32).toNatClampNeg) ((S21.2.1 215 41) + (S21.2.1 443 ((z6 : Int32).toNatClampNeg)))) (fun S24 => j_q (j_in z6 100) (if (S24.2.1 443 ((z6 : Int32).toNatClampNeg)) = 0 then ((F_M_free z6 S24).bind (fun z27 => J_M_work_207 (L_M_work_77 f) z27)) else (J_M_work_207 (L_M_work_77 f) S24)))))))))))))))))))) else (some (1, S)))))
set_option maxRecDepth 20000 in
theorem kL_M_work_77 {q rF rL : Nat} (hF : 8 ≤ rF) (hL : 205 ≤ rL)   : ∀ (f : Nat) (S : jS), jg q jp_M_work rF rL 77 [(0, .ref 215)] [] S 0 s_I (L_M_work_77 f S) := by
  intro f
  induction f with
  | zero => intro _; exact jg_none
  | succ f ih77 =>
    intro S
    rw [L_M_work_77]
    refine jg_sg 1 (pc1 := 78) (lv1 := [(0, .ref 215)]) (st1 := [.ref 215]) (fun _ _ _ => rfl) ?_
    refine jg_cpI (m2 := jp_M_running) (As := [.ref 215]) (r := []) (mx := 3) (jh_v (a := 215) rfl rfl rfl kc_215 rfl (Nat.le_of_ble_eq_true rfl) rfl rfl rfl (by omega) (by omega) (Nat.le_of_ble_eq_true rfl)) (kF_M_running S _ _ (by omega) (by omega) ) (fun z4 => ?_)
    refine jg_sg 1 (pc1 := 82) (lv1 := [(0, .ref 215)]) (st1 := [.ref 215, .int z4]) (fun _ _ _ => rfl) ?_
    refine jg_g (v := .int (S.1 215 42)) rfl kc_215 rfl rfl ?_
    refine jg_br (fun _ _ _ _ k1 k2 => jt_icmp_ge (t := 222) rfl rfl k1 k2) (fun c5 => ?_) (fun c5 => ?_)
    · refine jg_sg 1 (pc1 := 223) (lv1 := [(0, .ref 215)]) (st1 := [.int 1]) (fun _ _ _ => rfl) ?_
      exact jg_ri rfl rfl rfl rfl
    · refine jg_sg 1 (pc1 := 89) (lv1 := [(0, .ref 215)]) (st1 := [.ref 215]) (fun _ _ _ => rfl) ?_
      refine jg_cpI (m2 := jp_M_first) (As := [.ref 215]) (r := []) (mx := 3) (jh_v (a := 215) rfl rfl rfl kc_215 rfl (Nat.le_of_ble_eq_true rfl) rfl rfl rfl (by omega) (by omega) (Nat.le_of_ble_eq_true rfl)) (kF_M_first S _ _ (by omega) (by omega) ) (fun z6 => ?_)
      refine jg_sg 2 (pc1 := 94) (lv1 := [(1, .int z6), (0, .ref 215)]) (st1 := [.int z6]) (fun _ _ _ => rfl) ?_
      refine jg_br (fun _ _ _ _ k1 k2 => jt_if_ge (t := 99) rfl rfl k1 k2) (fun c7 => ?_) (fun c7 => ?_)
      · refine jg_sg 1 (pc1 := 100) (lv1 := [(1, .int z6), (0, .ref 215)]) (st1 := [.ref 215]) (fun _ _ _ => rfl) ?_
        refine jg_g (v := .ref 450) rfl kc_215 rfl rfl ?_
        refine jg_sg 1 (pc1 := 104) (lv1 := [(1, .int z6), (0, .ref 215)]) (st1 := [.ref 215, .ref 450]) (fun _ _ _ => rfl) ?_
        refine jg_g (v := .int (S.1 215 49)) rfl kc_215 rfl rfl ?_
        refine jg_sg 1 (pc1 := 108) (lv1 := [(1, .int z6), (0, .ref 215)]) (st1 := [.ref 215, .int (S.1 215 49), .ref 450]) (fun _ _ _ => rfl) ?_
        refine jg_g (v := .long (S.2.1 215 41)) rfl kc_215 rfl rfl ?_
        refine jg_las rfl kc_450 (fun g8 S9 _ => ?_)
        refine jg_sg 1 (pc1 := 113) (lv1 := [(1, .int z6), (0, .ref 215)]) (st1 := [.ref 215]) (fun _ _ _ => rfl) ?_
        refine jg_g (v := .ref 451) rfl kc_215 rfl rfl ?_
        refine jg_sg 1 (pc1 := 117) (lv1 := [(1, .int z6), (0, .ref 215)]) (st1 := [.ref 215, .ref 451]) (fun _ _ _ => rfl) ?_
        refine jg_g (v := .int (S9.1 215 49)) rfl kc_215 rfl rfl ?_
        refine jg_sg 1 (pc1 := 121) (lv1 := [(1, .int z6), (0, .ref 215)]) (st1 := [.int z6, .int (S9.1 215 49), .ref 451]) (fun _ _ _ => rfl) ?_
        refine jg_ias rfl kc_451 (fun g10 S11 _ => ?_)
        refine jg_sg 1 (pc1 := 123) (lv1 := [(1, .int z6), (0, .ref 215)]) (st1 := [.ref 215]) (fun _ _ _ => rfl) ?_
        refine jg_g (v := .ref 452) rfl kc_215 rfl rfl ?_
        refine jg_sg 1 (pc1 := 127) (lv1 := [(1, .int z6), (0, .ref 215)]) (st1 := [.ref 215, .ref 452]) (fun _ _ _ => rfl) ?_
        refine jg_g (v := .int (S11.1 215 49)) rfl kc_215 rfl rfl ?_
        refine jg_sg 1 (pc1 := 131) (lv1 := [(1, .int z6), (0, .ref 215)]) (st1 := [.ref 215, .int (S11.1 215 49), .ref 452]) (fun _ _ _ => rfl) ?_
        refine jg_g (v := .ref 438) rfl kc_215 rfl rfl ?_
        refine jg_sg 1 (pc1 := 135) (lv1 := [(1, .int z6), (0, .ref 215)]) (st1 := [.int z6, .ref 438, .int (S11.1 215 49), .ref 452]) (fun _ _ _ => rfl) ?_
        refine jg_lal rfl kc_438 (fun g12 => ?_)
        refine jg_las rfl kc_452 (fun g13 S14 _ => ?_)
        refine jg_sg 2 (pc1 := 139) (lv1 := [(1, .int z6), (0, .ref 215)]) (st1 := [.ref 215, .ref 215]) (fun _ _ _ => rfl) ?_
        refine jg_g (v := .int (S14.1 215 49)) rfl kc_215 rfl rfl ?_
        refine jg_sg 2 (pc1 := 144) (lv1 := [(1, .int z6), (0, .ref 215)]) (st1 := [.int ((S14.1 215 49) + 1), .ref 215]) (fun _ _ _ => rfl) ?_
        refine jg_pi rfl kc_215 rfl (Nat.le_of_ble_eq_true rfl) rfl rfl (fun S15 _ => ?_)
        refine jg_sg 2 (pc1 := 149) (lv1 := [(1, .int z6), (0, .ref 215)]) (st1 := [.ref 215, .ref 215]) (fun _ _ _ => rfl) ?_
        refine jg_g (v := .long (S15.2.1 215 44)) rfl kc_215 rfl rfl ?_
        refine jg_sg 2 (pc1 := 154) (lv1 := [(1, .int z6), (0, .ref 215)]) (st1 := [.long ((S15.2.1 215 44) + 1), .ref 215]) (fun _ _ _ => rfl) ?_
        refine jg_pl rfl kc_215 rfl (Nat.le_of_ble_eq_true rfl) rfl rfl (fun S16 _ => ?_)
        refine jg_sg 1 (pc1 := 158) (lv1 := [(1, .int z6), (0, .ref 215)]) (st1 := [.ref 215]) (fun _ _ _ => rfl) ?_
        refine jg_g (v := .ref 440) rfl kc_215 rfl rfl ?_
        refine jg_sg 2 (pc1 := 163) (lv1 := [(1, .int z6), (0, .ref 215)]) (st1 := [.int z6, .ref 440, .int z6, .ref 440]) (fun _ _ _ => rfl) ?_
        refine jg_lal rfl kc_440 (fun g17 => ?_)
        refine jg_sg 2 (pc1 := 166) (lv1 := [(1, .int z6), (0, .ref 215)]) (st1 := [.long ((S16.2.1 440 ((z6 : Int32).toNatClampNeg)) + 1), .int z6, .ref 440]) (fun _ _ _ => rfl) ?_
        refine jg_las rfl kc_440 (fun g18 S19 _ => ?_)
        refine jg_sg 1 (pc1 := 168) (lv1 := [(1, .int z6), (0, .ref 215)]) (st1 := [.ref 215]) (fun _ _ _ => rfl) ?_
        refine jg_g (v := .ref 436) rfl kc_215 rfl rfl ?_
        refine jg_sg 2 (pc1 := 173) (lv1 := [(1, .int z6), (0, .ref 215)]) (st1 := [.int 2, .int z6, .ref 436]) (fun _ _ _ => rfl) ?_
        refine jg_ias rfl kc_436 (fun g20 S21 _ => ?_)
        refine jg_sg 1 (pc1 := 175) (lv1 := [(1, .int z6), (0, .ref 215)]) (st1 := [.ref 215]) (fun _ _ _ => rfl) ?_
        refine jg_g (v := .ref 439) rfl kc_215 rfl rfl ?_
        refine jg_sg 2 (pc1 := 180) (lv1 := [(1, .int z6), (0, .ref 215)]) (st1 := [.ref 215, .int z6, .ref 439]) (fun _ _ _ => rfl) ?_
        refine jg_g (v := .long (S21.2.1 215 41)) rfl kc_215 rfl rfl ?_
        refine jg_sg 1 (pc1 := 184) (lv1 := [(1, .int z6), (0, .ref 215)]) (st1 := [.ref 215, .long (S21.2.1 215 41), .int z6, .ref 439]) (fun _ _ _ => rfl) ?_
        refine jg_g (v := .ref 443) rfl kc_215 rfl rfl ?_
        refine jg_sg 1 (pc1 := 188) (lv1 := [(1, .int z6), (0, .ref 215)]) (st1 := [.int z6, .ref 443, .long (S21.2.1 215 41), .int z6, .ref 439]) (fun _ _ _ => rfl) ?_
        refine jg_lal rfl kc_443 (fun g22 => ?_)
        refine jg_sg 1 (pc1 := 190) (lv1 := [(1, .int z6), (0, .ref 215)]) (st1 := [.long ((S21.2.1 215 41) + (S21.2.1 443 ((z6 : Int32).toNatClampNeg))), .int z6, .ref 439]) (fun _ _ _ => rfl) ?_
        refine jg_las rfl kc_439 (fun g23 S24 _ => ?_)
        refine jg_sg 1 (pc1 := 192) (lv1 := [(1, .int z6), (0, .ref 215)]) (st1 := [.ref 215]) (fun _ _ _ => rfl) ?_
        refine jg_g (v := .ref 443) rfl kc_215 rfl rfl ?_
        refine jg_sg 1 (pc1 := 196) (lv1 := [(1, .int z6), (0, .ref 215)]) (st1 := [.int z6, .ref 443]) (fun _ _ _ => rfl) ?_
        refine jg_lal rfl kc_443 (fun g25 => ?_)
        refine jg_sg 2 (pc1 := 199) (lv1 := [(1, .int z6), (0, .ref 215)]) (st1 := [.int (lg_cmp (S24.2.1 443 ((z6 : Int32).toNatClampNeg)) 0)]) (fun _ _ _ => rfl) ?_
        refine jg_br (fun _ _ _ _ k1 k2 => jt_lif_ne (t := 207) rfl rfl k2 k1) (fun c26 => ?_) (fun c26 => ?_)
        · refine jg_sg 2 (pc1 := 204) (lv1 := [(1, .int z6), (0, .ref 215)]) (st1 := [.int z6, .ref 215]) (fun _ _ _ => rfl) ?_
          refine jg_csV (m2 := jp_M_free) (As := [.ref 215, .int z6]) (r := []) (mx := 5) (jh_v (a := 215) rfl rfl rfl kc_215 rfl (Nat.le_of_ble_eq_true rfl) rfl rfl rfl (by omega) (by omega) (Nat.le_of_ble_eq_true rfl)) (kF_M_free z6 S24 _ _ (by omega) (by omega) ) (fun z27 => ?_)
          refine jg_lvs (lv1 := [(0, .ref 215)]) rfl rfl ⟨rfl, trivial⟩ ?_
          exact kJ_M_work_207 (by omega) (by omega) (L_M_work_77 f) ih77 z27
        · refine jg_lvs (lv1 := [(0, .ref 215)]) rfl rfl ⟨rfl, trivial⟩ ?_
          exact kJ_M_work_207 (by omega) (by omega) (L_M_work_77 f) ih77 S24
      · refine jg_sg 1 (pc1 := 98) (lv1 := [(1, .int z6), (0, .ref 215)]) (st1 := [.int 1]) (fun _ _ _ => rfl) ?_
        exact jg_ri rfl rfl rfl rfl
noncomputable def J_M_work_54 (kt0 : jS → Option (Int32 × jS)) (kt4 : Int32 → Int32 → jS → Option (Int32 × jS)) (x2 : Int32) (S : jS) : Option (Int32 × jS) := kt4 x2 (x2 + 1) S
set_option maxRecDepth 20000 in
theorem kJ_M_work_54 {q rF rL : Nat} (hF : 8 ≤ rF) (hL : 205 ≤ rL)  (kt0 : jS → Option (Int32 × jS)) (ih0 : ∀  (S : jS), jg q jp_M_work rF rL 0 [(0, .ref 215)] [] S 0 s_I (kt0 S)) (kt4 : Int32 → Int32 → jS → Option (Int32 × jS)) (ih4 : ∀ (x1 : Int32) (x2 : Int32) (S : jS), jg q jp_M_work rF rL 4 [(0, .ref 215), (1, .int x1), (2, .int x2)] [] S 0 s_I (kt4 x1 x2 S)) (x2 : Int32) (S : jS) : jg q jp_M_work rF rL 54 [(0, .ref 215), (2, .int x2)] [] S 0 s_I (J_M_work_54 kt0 kt4 x2 S) := by
  unfold J_M_work_54
  refine jg_sg 4 (pc1 := 4) (lv1 := [(2, .int (x2 + 1)), (1, .int x2), (0, .ref 215)]) (st1 := []) (fun _ _ _ => rfl) ?_
  refine jg_lvs (lv1 := [(0, .ref 215), (1, .int x2), (2, .int (x2 + 1))]) rfl rfl ⟨rfl, rfl, rfl, trivial⟩ ?_
  exact ih4 x2 (x2 + 1) S
noncomputable def L_M_work_4 (kt0 : jS → Option (Int32 × jS)) : Nat → Int32 → Int32 → jS → Option (Int32 × jS)
  | 0, _, _, _ => none
  | f + 1, x1, x2, S => if 100 ≤ x2 then (if 0 ≤ x1 then ((F_M_free x1 S).bind (fun z3 => kt0 z3)) else (L_M_work_77 ju_ S)) else (j_q (j_in x2 100) (if (S.1 436 ((x2 : Int32).toNatClampNeg)) ≤ 1 then ((L_M_work_4 kt0 f) x1 (x2 + 1) S) else (j_q (j_in x2 100) (if (S.2.1 215 41) < (S.2.1 439 ((x2 : Int32).toNatClampNeg)) then ((L_M_work_4 kt0 f) x1 (x2 + 1) S) else (if x1 < 0 then (J_M_work_54 kt0 (L_M_work_4 kt0 f) x2 S) else (j_q (j_in x2 100) (j_q (j_in x1 100) (if (S.2.1 441 ((x1 : Int32).toNatClampNeg)) ≤ (S.2.1 441 ((x2 : Int32).toNatClampNeg)) then ((L_M_work_4 kt0 f) x1 (x2 + 1) S) else (J_M_work_54 kt0 (L_M_work_4 kt0 f) x2 S)))))))))
set_option maxRecDepth 20000 in
theorem kL_M_work_4 {q rF rL : Nat} (hF : 8 ≤ rF) (hL : 205 ≤ rL)  (kt0 : jS → Option (Int32 × jS)) (ih0 : ∀  (S : jS), jg q jp_M_work rF rL 0 [(0, .ref 215)] [] S 0 s_I (kt0 S)) : ∀ (f : Nat) (x1 : Int32) (x2 : Int32) (S : jS), jg q jp_M_work rF rL 4 [(0, .ref 215), (1, .int x1), (2, .int x2)] [] S 0 s_I (L_M_work_4 kt0 f x1 x2 S) := by
  intro f
  induction f with
  | zero => intro _ _ _; exact jg_none
  | succ f ih4 =>
    intro x1 x2 S
    rw [L_M_work_4]
    refine jg_sg 2 (pc1 := 7) (lv1 := [(0, .ref 215), (1, .int x1), (2, .int x2)]) (st1 := [.int 100, .int x2]) (fun _ _ _ => rfl) ?_
    refine jg_br (fun _ _ _ _ k1 k2 => jt_icmp_ge (t := 62) rfl rfl k1 k2) (fun c1 => ?_) (fun c1 => ?_)
    · refine jg_sg 1 (pc1 := 63) (lv1 := [(0, .ref 215), (1, .int x1), (2, .int x2)]) (st1 := [.int x1]) (fun _ _ _ => rfl) ?_
      refine jg_br (fun _ _ _ _ k1 k2 => jt_if_ge (t := 69) rfl rfl k1 k2) (fun c2 => ?_) (fun c2 => ?_)
      · refine jg_sg 2 (pc1 := 71) (lv1 := [(0, .ref 215), (1, .int x1), (2, .int x2)]) (st1 := [.int x1, .ref 215]) (fun _ _ _ => rfl) ?_
        refine jg_csV (m2 := jp_M_free) (As := [.ref 215, .int x1]) (r := []) (mx := 5) (jh_v (a := 215) rfl rfl rfl kc_215 rfl (Nat.le_of_ble_eq_true rfl) rfl rfl rfl (by omega) (by omega) (Nat.le_of_ble_eq_true rfl)) (kF_M_free x1 S _ _ (by omega) (by omega) ) (fun z3 => ?_)
        refine jg_sg 1 (pc1 := 0) (lv1 := [(0, .ref 215), (1, .int x1), (2, .int x2)]) (st1 := []) (fun _ _ _ => rfl) ?_
        refine jg_lvs (lv1 := [(0, .ref 215)]) rfl rfl ⟨rfl, trivial⟩ ?_
        exact ih0 z3
      · refine jg_sg 1 (pc1 := 77) (lv1 := [(0, .ref 215), (1, .int x1), (2, .int x2)]) (st1 := []) (fun _ _ _ => rfl) ?_
        refine jg_lvs (lv1 := [(0, .ref 215)]) rfl rfl ⟨rfl, trivial⟩ ?_
        exact kL_M_work_77 (by omega) (by omega) ju_ S
    · refine jg_sg 1 (pc1 := 11) (lv1 := [(0, .ref 215), (1, .int x1), (2, .int x2)]) (st1 := [.ref 215]) (fun _ _ _ => rfl) ?_
      refine jg_g (v := .ref 436) rfl kc_215 rfl rfl ?_
      refine jg_sg 1 (pc1 := 15) (lv1 := [(0, .ref 215), (1, .int x1), (2, .int x2)]) (st1 := [.int x2, .ref 436]) (fun _ _ _ => rfl) ?_
      refine jg_ial rfl kc_436 (fun g29 => ?_)
      refine jg_sg 1 (pc1 := 17) (lv1 := [(0, .ref 215), (1, .int x1), (2, .int x2)]) (st1 := [.int 1, .int (S.1 436 ((x2 : Int32).toNatClampNeg))]) (fun _ _ _ => rfl) ?_
      refine jg_br (fun _ _ _ _ k1 k2 => jt_icmp_le (t := 56) rfl rfl k1 k2) (fun c30 => ?_) (fun c30 => ?_)
      · refine jg_sg 2 (pc1 := 4) (lv1 := [(2, .int (x2 + 1)), (0, .ref 215), (1, .int x1)]) (st1 := []) (fun _ _ _ => rfl) ?_
        refine jg_lvs (lv1 := [(0, .ref 215), (1, .int x1), (2, .int (x2 + 1))]) rfl rfl ⟨rfl, rfl, rfl, trivial⟩ ?_
        exact ih4 x1 (x2 + 1) S
      · refine jg_sg 1 (pc1 := 21) (lv1 := [(0, .ref 215), (1, .int x1), (2, .int x2)]) (st1 := [.ref 215]) (fun _ _ _ => rfl) ?_
        refine jg_g (v := .ref 439) rfl kc_215 rfl rfl ?_
        refine jg_sg 1 (pc1 := 25) (lv1 := [(0, .ref 215), (1, .int x1), (2, .int x2)]) (st1 := [.int x2, .ref 439]) (fun _ _ _ => rfl) ?_
        refine jg_lal rfl kc_439 (fun g31 => ?_)
        refine jg_sg 1 (pc1 := 27) (lv1 := [(0, .ref 215), (1, .int x1), (2, .int x2)]) (st1 := [.ref 215, .long (S.2.1 439 ((x2 : Int32).toNatClampNeg))]) (fun _ _ _ => rfl) ?_
        refine jg_g (v := .long (S.2.1 215 41)) rfl kc_215 rfl rfl ?_
        refine jg_sg 1 (pc1 := 31) (lv1 := [(0, .ref 215), (1, .int x1), (2, .int x2)]) (st1 := [.int (lg_cmp (S.2.1 439 ((x2 : Int32).toNatClampNeg)) (S.2.1 215 41))]) (fun _ _ _ => rfl) ?_
        refine jg_br (fun _ _ _ _ k1 k2 => jt_lif_gt (t := 56) rfl rfl k1 k2) (fun c32 => ?_) (fun c32 => ?_)
        · refine jg_sg 2 (pc1 := 4) (lv1 := [(2, .int (x2 + 1)), (0, .ref 215), (1, .int x1)]) (st1 := []) (fun _ _ _ => rfl) ?_
          refine jg_lvs (lv1 := [(0, .ref 215), (1, .int x1), (2, .int (x2 + 1))]) rfl rfl ⟨rfl, rfl, rfl, trivial⟩ ?_
          exact ih4 x1 (x2 + 1) S
        · refine jg_sg 1 (pc1 := 35) (lv1 := [(0, .ref 215), (1, .int x1), (2, .int x2)]) (st1 := [.int x1]) (fun _ _ _ => rfl) ?_
          refine jg_br (fun _ _ _ _ k1 k2 => jt_if_lt (t := 54) rfl rfl k1 k2) (fun c33 => ?_) (fun c33 => ?_)
          · refine jg_lvs (lv1 := [(0, .ref 215), (2, .int x2)]) rfl rfl ⟨rfl, rfl, trivial⟩ ?_
            exact kJ_M_work_54 (by omega) (by omega) kt0 ih0 (L_M_work_4 kt0 f) ih4 x2 S
          · refine jg_sg 1 (pc1 := 39) (lv1 := [(0, .ref 215), (1, .int x1), (2, .int x2)]) (st1 := [.ref 215]) (fun _ _ _ => rfl) ?_
            refine jg_g (v := .ref 441) rfl kc_215 rfl rfl ?_
            refine jg_sg 1 (pc1 := 43) (lv1 := [(0, .ref 215), (1, .int x1), (2, .int x2)]) (st1 := [.int x2, .ref 441]) (fun _ _ _ => rfl) ?_
            refine jg_lal rfl kc_441 (fun g34 => ?_)
            refine jg_sg 1 (pc1 := 45) (lv1 := [(0, .ref 215), (1, .int x1), (2, .int x2)]) (st1 := [.ref 215, .long (S.2.1 441 ((x2 : Int32).toNatClampNeg))]) (fun _ _ _ => rfl) ?_
            refine jg_g (v := .ref 441) rfl kc_215 rfl rfl ?_
            refine jg_sg 1 (pc1 := 49) (lv1 := [(0, .ref 215), (1, .int x1), (2, .int x2)]) (st1 := [.int x1, .ref 441, .long (S.2.1 441 ((x2 : Int32).toNatClampNeg))]) (fun _ _ _ => rfl) ?_
            refine jg_lal rfl kc_441 (fun g35 => ?_)
            refine jg_sg 1 (pc1 := 51) (lv1 := [(0, .ref 215), (1, .int x1), (2, .int x2)]) (st1 := [.int (lg_cmp (S.2.1 441 ((x2 : Int32).toNatClampNeg)) (S.2.1 441 ((x1 : Int32).toNatClampNeg)))]) (fun _ _ _ => rfl) ?_
            refine jg_br (fun _ _ _ _ k1 k2 => jt_lif_ge (t := 56) rfl rfl k1 k2) (fun c36 => ?_) (fun c36 => ?_)
            · refine jg_sg 2 (pc1 := 4) (lv1 := [(2, .int (x2 + 1)), (0, .ref 215), (1, .int x1)]) (st1 := []) (fun _ _ _ => rfl) ?_
              refine jg_lvs (lv1 := [(0, .ref 215), (1, .int x1), (2, .int (x2 + 1))]) rfl rfl ⟨rfl, rfl, rfl, trivial⟩ ?_
              exact ih4 x1 (x2 + 1) S
            · refine jg_lvs (lv1 := [(0, .ref 215), (2, .int x2)]) rfl rfl ⟨rfl, rfl, trivial⟩ ?_
              exact kJ_M_work_54 (by omega) (by omega) kt0 ih0 (L_M_work_4 kt0 f) ih4 x2 S
noncomputable def L_M_work_0  : Nat → jS → Option (Int32 × jS)
  | 0, _ => none
  | f + 1, S => L_M_work_4 (L_M_work_0 f) ju_ (-1) 0 S
set_option maxRecDepth 20000 in
theorem kL_M_work_0 {q rF rL : Nat} (hF : 8 ≤ rF) (hL : 205 ≤ rL)   : ∀ (f : Nat) (S : jS), jg q jp_M_work rF rL 0 [(0, .ref 215)] [] S 0 s_I (L_M_work_0 f S) := by
  intro f
  induction f with
  | zero => intro _; exact jg_none
  | succ f ih0 =>
    intro S
    rw [L_M_work_0]
    refine jg_sg 4 (pc1 := 4) (lv1 := [(2, .int 0), (1, .int (-1)), (0, .ref 215)]) (st1 := []) (fun _ _ _ => rfl) ?_
    refine jg_lvs (lv1 := [(0, .ref 215), (1, .int (-1)), (2, .int 0)]) rfl rfl ⟨rfl, rfl, rfl, trivial⟩ ?_
    exact kL_M_work_4 (by omega) (by omega) (L_M_work_0 f) ih0 ju_ (-1) 0 S
noncomputable def F_M_work  (S : jS) : Option (Int32 × jS) := L_M_work_0 ju_ S
set_option maxRecDepth 20000 in
theorem kF_M_work {q : Nat}  (S : jS) (rF rL : Nat) (hF : 8 ≤ rF) (hL : 205 ≤ rL)  : jg q jp_M_work rF rL 0 [(0, .ref 215)] [] S 0 s_I (F_M_work S) := by
  unfold F_M_work
  refine jg_lvs (lv1 := [(0, .ref 215)]) rfl rfl ⟨rfl, trivial⟩ ?_
  exact kL_M_work_0 (by omega) (by omega) ju_ S
end JF16
