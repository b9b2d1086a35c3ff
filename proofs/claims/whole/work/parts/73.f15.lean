section JF15
noncomputable def J_M_local_41 (S : jS) : Option (Int32 × jS) := (F_M_fail 1 S).bind (fun z3 => some (z3.1, z3.2))
set_option maxRecDepth 20000 in
theorem kJ_M_local_41 {q rF rL : Nat} (hF : 4 ≤ rF) (hL : 87 ≤ rL)   (S : jS) : jg q jp_M_local rF rL 41 [(0, .ref 215)] [] S 0 s_I (J_M_local_41 S) := by
  unfold J_M_local_41
  refine jg_sg 2 (pc1 := 43) (lv1 := [(0, .ref 215)]) (st1 := [.int 1, .ref 215]) (fun _ _ _ => rfl) ?_
  refine jg_csI (m2 := jp_M_fail) (As := [.ref 215, .int 1]) (r := []) (mx := 2) (jh_v (a := 215) rfl rfl rfl kc_215 rfl (Nat.le_of_ble_eq_true rfl) rfl rfl rfl (by omega) (by omega) (Nat.le_of_ble_eq_true rfl)) (kF_M_fail 1 S _ _ (by omega) (by omega) ) (fun z3 => ?_)
  exact jg_ri rfl rfl rfl rfl
noncomputable def F_M_local (p0 : Int32) (p1 : Int64) (p2 : Int32) (S : jS) : Option (Int32 × jS) := j_l (w_i S 215 0 0) (fun S1 => if p0 < 0 then (J_M_local_41 S1) else (if 7 < p0 then (J_M_local_41 S1) else (if p1 < 0 then (J_M_local_41 S1) else (if ((10413791999999 : Int64)) < p1 then (J_M_local_41 S1) else (if p2 < 0 then (J_M_local_41 S1) else (if p2 ≤ 7 then ((F_M_passed p0 p1 S1).bind (fun z9 => (F_M_minutes p0 z9 S1).bind (fun z10 => (F_Math_floorDiv2 p1 1000 S1).bind (fun z11 => j_l (z11 + (60 * ((z10 : Int32).toInt64)) : Int64) (fun v12 => (F_Math_floorDiv2 v12 86400 S1).bind (fun z13 => j_l ((z13 : Int64).toInt32 : Int32) (fun v14 => (F_Math_floorMod2 v12 86400 S1).bind (fun z15 => j_l ((z15 : Int64).toInt32 : Int32) (fun v16 => (F_M_date v14 S1).bind (fun z17 => if p2 = 0 then (some (v16 - v16 / 60 * 60, z17)) else (if p2 = 1 then (some ((v16 / 60) - (v16 / 60) / 60 * 60, z17)) else (if p2 = 2 then (some (v16 / 3600, z17)) else (if p2 = 3 then (some (z17.1 215 6, z17)) else (if p2 = 4 then (some (z17.1 215 5, z17)) else (if p2 = 5 then (some (z17.1 215 4, z17)) else (if p2 = 6 then ((F_M_weekday v14 z17).bind (fun z25 => some (z25, z17))) else (some (z10, z17)))))))))))))))))) else (J_M_local_41 S1)))))))
set_option maxRecDepth 20000 in
theorem kF_M_local {q : Nat} (p0 : Int32) (p1 : Int64) (p2 : Int32) (S : jS) (rF rL : Nat) (hF : 4 ≤ rF) (hL : 87 ≤ rL)  : jg q jp_M_local rF rL 0 [(0, .ref 215), (1, .int p0), (2, .long p1), (4, .int p2)] [] S 0 s_I (F_M_local p0 p1 p2 S) := by
  unfold F_M_local
  refine jg_sg 2 (pc1 := 2) (lv1 := [(0, .ref 215), (1, .int p0), (2, .long p1), (4, .int p2)]) (st1 := [.int 0, .ref 215]) (fun _ _ _ => rfl) ?_
  refine jg_pi rfl kc_215 rfl (Nat.le_of_ble_eq_true rfl) rfl rfl (fun S1 _ => ?_)
  refine jg_sg 1 (pc1 := 6) (lv1 := [(0, .ref 215), (1, .int p0), (2, .long p1), (4, .int p2)]) (st1 := [.int p0]) (fun _ _ _ => rfl) ?_
  refine jg_br (fun _ _ _ _ k1 k2 => jt_if_lt (t := 41) rfl rfl k1 k2) (fun c2 => ?_) (fun c2 => ?_)
  · refine jg_lvs (lv1 := [(0, .ref 215)]) rfl rfl ⟨rfl, trivial⟩ ?_
    exact kJ_M_local_41 (by omega) (by omega) S1
  · refine jg_sg 2 (pc1 := 12) (lv1 := [(0, .ref 215), (1, .int p0), (2, .long p1), (4, .int p2)]) (st1 := [.int 7, .int p0]) (fun _ _ _ => rfl) ?_
    refine jg_br (fun _ _ _ _ k1 k2 => jt_icmp_gt (t := 41) rfl rfl k1 k2) (fun c4 => ?_) (fun c4 => ?_)
    · refine jg_lvs (lv1 := [(0, .ref 215)]) rfl rfl ⟨rfl, trivial⟩ ?_
      exact kJ_M_local_41 (by omega) (by omega) S1
    · refine jg_sg 3 (pc1 := 18) (lv1 := [(0, .ref 215), (1, .int p0), (2, .long p1), (4, .int p2)]) (st1 := [.int (lg_cmp p1 0)]) (fun _ _ _ => rfl) ?_
      refine jg_br (fun _ _ _ _ k1 k2 => jt_lif_lt (t := 41) rfl rfl k1 k2) (fun c5 => ?_) (fun c5 => ?_)
      · refine jg_lvs (lv1 := [(0, .ref 215)]) rfl rfl ⟨rfl, trivial⟩ ?_
        exact kJ_M_local_41 (by omega) (by omega) S1
      · refine jg_sg 3 (pc1 := 26) (lv1 := [(0, .ref 215), (1, .int p0), (2, .long p1), (4, .int p2)]) (st1 := [.int (lg_cmp p1 10413791999999)]) (fun _ _ _ => rfl) ?_
        refine jg_br (fun _ _ _ _ k1 k2 => jt_lif_gt (t := 41) rfl rfl k1 k2) (fun c6 => ?_) (fun c6 => ?_)
        · refine jg_lvs (lv1 := [(0, .ref 215)]) rfl rfl ⟨rfl, trivial⟩ ?_
          exact kJ_M_local_41 (by omega) (by omega) S1
        · refine jg_sg 1 (pc1 := 31) (lv1 := [(0, .ref 215), (1, .int p0), (2, .long p1), (4, .int p2)]) (st1 := [.int p2]) (fun _ _ _ => rfl) ?_
          refine jg_br (fun _ _ _ _ k1 k2 => jt_if_lt (t := 41) rfl rfl k1 k2) (fun c7 => ?_) (fun c7 => ?_)
          · refine jg_lvs (lv1 := [(0, .ref 215)]) rfl rfl ⟨rfl, trivial⟩ ?_
            exact kJ_M_local_41 (by omega) (by omega) S1
          · refine jg_sg 2 (pc1 := 38) (lv1 := [(0, .ref 215), (1, .int p0), (2, .long p1), (4, .int p2)]) (st1 := [.int 7, .int p2]) (fun _ _ _ => rfl) ?_
            refine jg_br (fun _ _ _ _ k1 k2 => jt_icmp_le (t := 47) rfl rfl k1 k2) (fun c8 => ?_) (fun c8 => ?_)
            · refine jg_sg 5 (pc1 := 52) (lv1 := [(0, .ref 215), (1, .int p0), (2, .long p1), (4, .int p2)]) (st1 := [.long p1, .int p0, .ref 215, .int p0, .ref 215]) (fun _ _ _ => rfl) ?_
              refine jg_cpI (m2 := jp_M_passed) (As := [.ref 215, .int p0, .long p1]) (r := [.int p0, .ref 215]) (mx := 7) (jh_v (a := 215) rfl rfl rfl kc_215 rfl (Nat.le_of_ble_eq_true rfl) rfl rfl rfl (by omega) (by omega) (Nat.le_of_ble_eq_true rfl)) (kF_M_passed p0 p1 S1 _ _ (by omega) (by omega) ) (fun z9 => ?_)
              refine jg_cpI (m2 := jp_M_minutes) (As := [.ref 215, .int p0, .int z9]) (r := []) (mx := 3) (jh_v (a := 215) rfl rfl rfl kc_215 rfl (Nat.le_of_ble_eq_true rfl) rfl rfl rfl (by omega) (by omega) (Nat.le_of_ble_eq_true rfl)) (kF_M_minutes p0 z9 S1 _ _ (by omega) (by omega) ) (fun z10 => ?_)
              refine jg_sg 3 (pc1 := 64) (lv1 := [(5, .int z10), (0, .ref 215), (1, .int p0), (2, .long p1), (4, .int p2)]) (st1 := [.long 1000, .long p1]) (fun _ _ _ => rfl) ?_
              refine jg_cpL (m2 := jp_Math_floorDiv2) (As := [.long p1, .long 1000]) (r := []) (mx := 6) (jh_s rfl (fun _ _ _ => rfl) rfl rfl rfl (by omega) (by omega) (Nat.le_of_ble_eq_true rfl)) (kF_Math_floorDiv2 p1 1000 S1 _ _ (by omega) (by omega) ) (fun z11 => ?_)
              refine jg_sg 6 (pc1 := 77) (lv1 := [(6, .long (z11 + (60 * ((z10 : Int32).toInt64)))), (5, .int z10), (0, .ref 215), (1, .int p0), (2, .long p1), (4, .int p2)]) (st1 := []) (fun _ _ _ => rfl) ?_
              refine jg_vl (fun v12 => ?_)
              refine jg_sg 2 (pc1 := 82) (lv1 := [(6, .long v12), (5, .int z10), (0, .ref 215), (1, .int p0), (2, .long p1), (4, .int p2)]) (st1 := [.long 86400, .long v12]) (fun _ _ _ => rfl) ?_
              refine jg_cpL (m2 := jp_Math_floorDiv2) (As := [.long v12, .long 86400]) (r := []) (mx := 6) (jh_s rfl (fun _ _ _ => rfl) rfl rfl rfl (by omega) (by omega) (Nat.le_of_ble_eq_true rfl)) (kF_Math_floorDiv2 v12 86400 S1 _ _ (by omega) (by omega) ) (fun z13 => ?_)
              refine jg_sg 2 (pc1 := 88) (lv1 := [(8, .int ((z13 : Int64).toInt32)), (6, .long v12), (5, .int z10), (0, .ref 215), (1, .int p0), (2, .long p1), (4, .int p2)]) (st1 := []) (fun _ _ _ => rfl) ?_
              refine jg_vi (fun v14 => ?_)
              refine jg_sg 2 (pc1 := 93) (lv1 := [(8, .int v14), (6, .long v12), (5, .int z10), (0, .ref 215), (1, .int p0), (2, .long p1), (4, .int p2)]) (st1 := [.long 86400, .long v12]) (fun _ _ _ => rfl) ?_
              refine jg_cpL (m2 := jp_Math_floorMod2) (As := [.long v12, .long 86400]) (r := []) (mx := 6) (jh_s rfl (fun _ _ _ => rfl) rfl rfl rfl (by omega) (by omega) (Nat.le_of_ble_eq_true rfl)) (kF_Math_floorMod2 v12 86400 S1 _ _ (by omega) (by omega) ) (fun z15 => ?_)
              refine jg_sg 2 (pc1 := 99) (lv1 := [(9, .int ((z15 : Int64).toInt32)), (8, .int v14), (6, .long v12), (5, .int z10), (0, .ref 215), (1, .int p0), (2, .long p1), (4, .int p2)]) (st1 := []) (fun _ _ _ => rfl) ?_
              refine jg_vi (fun v16 => ?_)
              refine jg_sg 2 (pc1 := 102) (lv1 := [(9, .int v16), (8, .int v14), (6, .long v12), (5, .int z10), (0, .ref 215), (1, .int p0), (2, .long p1), (4, .int p2)]) (st1 := [.int v14, .ref 215]) (fun _ _ _ => rfl) ?_
              refine jg_csV (m2 := jp_M_date) (As := [.ref 215, .int v14]) (r := []) (mx := 3) (jh_v (a := 215) rfl rfl rfl kc_215 rfl (Nat.le_of_ble_eq_true rfl) rfl rfl rfl (by omega) (by omega) (Nat.le_of_ble_eq_true rfl)) (kF_M_date v14 S1 _ _ (by omega) (by omega) ) (fun z17 => ?_)
              refine jg_sg 1 (pc1 := 107) (lv1 := [(9, .int v16), (8, .int v14), (6, .long v12), (5, .int z10), (0, .ref 215), (1, .int p0), (2, .long p1), (4, .int p2)]) (st1 := [.int p2]) (fun _ _ _ => rfl) ?_
              refine jg_sw (fun _ _ _ _ e k => jt_tabEq (t := 148) (off := 41) rfl e (by decide) rfl rfl k) (fun c18 => ?_) (fun c18 => ?_)
              · refine jg_sg 2 (pc1 := 152) (lv1 := [(9, .int v16), (8, .int v14), (6, .long v12), (5, .int z10), (0, .ref 215), (1, .int p0), (2, .long p1), (4, .int p2)]) (st1 := [.int 60, .int v16]) (fun _ _ _ => rfl) ?_
                refine jg_st (fun _ _ _ _ _ k => jt_irem rfl (by decide +kernel) k) ?_
                exact jg_ri rfl rfl rfl rfl
              · skip
                refine jg_sw (fun _ _ _ _ e k => jt_tabEq (t := 154) (off := 47) rfl e (by decide) rfl rfl k) (fun c19 => ?_) (fun c19 => ?_)
                · refine jg_sg 2 (pc1 := 158) (lv1 := [(9, .int v16), (8, .int v14), (6, .long v12), (5, .int z10), (0, .ref 215), (1, .int p0), (2, .long p1), (4, .int p2)]) (st1 := [.int 60, .int v16]) (fun _ _ _ => rfl) ?_
                  refine jg_st (fun _ _ _ _ _ k => jt_idiv rfl (by decide +kernel) k) ?_
                  refine jg_sg 1 (pc1 := 161) (lv1 := [(9, .int v16), (8, .int v14), (6, .long v12), (5, .int z10), (0, .ref 215), (1, .int p0), (2, .long p1), (4, .int p2)]) (st1 := [.int 60, .int (v16 / 60)]) (fun _ _ _ => rfl) ?_
                  refine jg_st (fun _ _ _ _ _ k => jt_irem rfl (by decide +kernel) k) ?_
                  exact jg_ri rfl rfl rfl rfl
                · skip
                  refine jg_sw (fun _ _ _ _ e k => jt_tabEq (t := 163) (off := 56) rfl e (by decide) rfl rfl k) (fun c20 => ?_) (fun c20 => ?_)
                  · refine jg_sg 2 (pc1 := 168) (lv1 := [(9, .int v16), (8, .int v14), (6, .long v12), (5, .int z10), (0, .ref 215), (1, .int p0), (2, .long p1), (4, .int p2)]) (st1 := [.int 3600, .int v16]) (fun _ _ _ => rfl) ?_
                    refine jg_st (fun _ _ _ _ _ k => jt_idiv rfl (by decide +kernel) k) ?_
                    exact jg_ri rfl rfl rfl rfl
                  · skip
                    refine jg_sw (fun _ _ _ _ e k => jt_tabEq (t := 170) (off := 63) rfl e (by decide) rfl rfl k) (fun c21 => ?_) (fun c21 => ?_)
                    · refine jg_sg 1 (pc1 := 171) (lv1 := [(9, .int v16), (8, .int v14), (6, .long v12), (5, .int z10), (0, .ref 215), (1, .int p0), (2, .long p1), (4, .int p2)]) (st1 := [.ref 215]) (fun _ _ _ => rfl) ?_
                      refine jg_g (v := .int (z17.1 215 6)) rfl kc_215 rfl rfl ?_
                      exact jg_ri rfl rfl rfl rfl
                    · skip
                      refine jg_sw (fun _ _ _ _ e k => jt_tabEq (t := 175) (off := 68) rfl e (by decide) rfl rfl k) (fun c22 => ?_) (fun c22 => ?_)
                      · refine jg_sg 1 (pc1 := 176) (lv1 := [(9, .int v16), (8, .int v14), (6, .long v12), (5, .int z10), (0, .ref 215), (1, .int p0), (2, .long p1), (4, .int p2)]) (st1 := [.ref 215]) (fun _ _ _ => rfl) ?_
                        refine jg_g (v := .int (z17.1 215 5)) rfl kc_215 rfl rfl ?_
                        exact jg_ri rfl rfl rfl rfl
                      · skip
                        refine jg_sw (fun _ _ _ _ e k => jt_tabEq (t := 180) (off := 73) rfl e (by decide) rfl rfl k) (fun c23 => ?_) (fun c23 => ?_)
                        · refine jg_sg 1 (pc1 := 181) (lv1 := [(9, .int v16), (8, .int v14), (6, .long v12), (5, .int z10), (0, .ref 215), (1, .int p0), (2, .long p1), (4, .int p2)]) (st1 := [.ref 215]) (fun _ _ _ => rfl) ?_
                          refine jg_g (v := .int (z17.1 215 4)) rfl kc_215 rfl rfl ?_
                          exact jg_ri rfl rfl rfl rfl
                        · skip
                          refine jg_sw (fun _ _ _ _ e k => jt_tabEq (t := 185) (off := 78) rfl e (by decide) rfl rfl k) (fun c24 => ?_) (fun c24 => ?_)
                          · refine jg_sg 1 (pc1 := 187) (lv1 := [(9, .int v16), (8, .int v14), (6, .long v12), (5, .int z10), (0, .ref 215), (1, .int p0), (2, .long p1), (4, .int p2)]) (st1 := [.int v14]) (fun _ _ _ => rfl) ?_
                            refine jg_cpI (m2 := jp_M_weekday) (As := [.int v14]) (r := []) (mx := 1) (jh_s rfl (fun _ _ _ => rfl) rfl rfl rfl (by omega) (by omega) (Nat.le_of_ble_eq_true rfl)) (kF_M_weekday v14 z17 _ _ (by omega) (by omega) ) (fun z25 => ?_)
                            exact jg_ri rfl rfl rfl rfl
                          · skip
                            refine jg_st (fun _ _ _ _ _ k => jt_tabOut (t := 191) rfl (by have q0 := lv_neT c18 (a := 0) rfl; have q1 := lv_neT c19 (a := 1) rfl; have q2 := lv_neT c20 (a := 2) rfl; have q3 := lv_neT c21 (a := 3) rfl; have q4 := lv_neT c22 (a := 4) rfl; have q5 := lv_neT c23 (a := 5) rfl; have q6 := lv_neT c24 (a := 6) rfl; omega) rfl k) ?_
                            refine jg_sg 1 (pc1 := 193) (lv1 := [(9, .int v16), (8, .int v14), (6, .long v12), (5, .int z10), (0, .ref 215), (1, .int p0), (2, .long p1), (4, .int p2)]) (st1 := [.int z10]) (fun _ _ _ => rfl) ?_
                            exact jg_ri rfl rfl rfl rfl
            · refine jg_lvs (lv1 := [(0, .ref 215)]) rfl rfl ⟨rfl, trivial⟩ ?_
              exact kJ_M_local_41 (by omega) (by omega) S1
noncomputable def J_M_enter_26 (x1 : Int32) (x2 : Int64) (x4 : Int64) (x6 : Int64) (x8 : Int32) (x9 : Int32) (x10 : Int32) (x11 : Int32) (S : jS) : Option (Int32 × jS) := if x11 = 100 then (some (-1, S)) else (j_q (j_in x11 100) (j_l (w_i S 436 ((x11 : Int32).toNatClampNeg) 1) (fun S4 => j_q (j_in x11 100) (j_l (w_i S4 437 ((x11 : Int32).toNatClampNeg) x1) (fun S6 => j_q (j_in x11 100) (j_l (w_l S6 438 ((x11 : Int32).toNatClampNeg) x2) (fun S8 => j_q (j_in x11 100) (j_l (w_l S8 442 ((x11 : Int32).toNatClampNeg) x4) (fun S10 => j_q (j_in x11 100) (j_l (w_l S10 443 ((x11 : Int32).toNatClampNeg) x6) (fun S12 => j_q (j_in x11 100) (j_l (w_i S12 444 ((x11 : Int32).toNatClampNeg) x8) (fun S14 => j_q (j_in x11 100) (j_l (w_i S14 445 ((x11 : Int32).toNatClampNeg) x9) (fun S16 => j_q (j_in x11 100) (j_l (w_i S16 446 ((x11 : Int32).toNatClampNeg) x10) (fun S18 => j_q (j_in x11 100) (j_l (w_l S18 440 ((x11 : Int32).toNatClampNeg) 0) (fun S20 => j_q (j_in x11 100) (j_l (w_l S20 441 ((x11 : Int32).toNatClampNeg) (S20.2.1 215 43)) (fun S22 => j_l (w_l S22 215 43 ((S22.2.1 215 43) + 1)) (fun S23 => some (x11, S23)))))))))))))))))))))))
set_option maxRecDepth 20000 in
theorem kJ_M_enter_26 {q rF rL : Nat} (hF : 0 ≤ rF) (hL : 0 ≤ rL)   (x1 : Int32) (x2 : Int64) (x4 : Int64) (x6 : Int64) (x8 : Int32) (x9 : Int32) (x10 : Int32) (x11 : Int32) (S : jS) : jg q jp_M_enter rF rL 26 [(0, .ref 215), (1, .int x1), (2, .long x2), (4, .long x4), (6, .long x6), (8, .int x8), (9, .int x9), (10, .int x10), (11, .int x11)] [] S 0 s_I (J_M_enter_26 x1 x2 x4 x6 x8 x9 x10 x11 S) := by
  unfold J_M_enter_26
  refine jg_sg 2 (pc1 := 30) (lv1 := [(0, .ref 215), (1, .int x1), (2, .long x2), (4, .long x4), (6, .long x6), (8, .int x8), (9, .int x9), (10, .int x10), (11, .int x11)]) (st1 := [.int 100, .int x11]) (fun _ _ _ => rfl) ?_
  refine jg_br (fun _ _ _ _ k1 k2 => jt_icmp_ne (t := 35) rfl rfl k2 k1) (fun c2 => ?_) (fun c2 => ?_)
  · refine jg_sg 1 (pc1 := 34) (lv1 := [(0, .ref 215), (1, .int x1), (2, .long x2), (4, .long x4), (6, .long x6), (8, .int x8), (9, .int x9), (10, .int x10), (11, .int x11)]) (st1 := [.int (-1)]) (fun _ _ _ => rfl) ?_
    exact jg_ri rfl rfl rfl rfl
  · refine jg_sg 1 (pc1 := 36) (lv1 := [(0, .ref 215), (1, .int x1), (2, .long x2), (4, .long x4), (6, .long x6), (8, .int x8), (9, .int x9), (10, .int x10), (11, .int x11)]) (st1 := [.ref 215]) (fun _ _ _ => rfl) ?_
    refine jg_g (v := .ref 436) rfl kc_215 rfl rfl ?_
    refine jg_sg 2 (pc1 := 42) (lv1 := [(0, .ref 215), (1, .int x1), (2, .long x2), (4, .long x4), (6, .long x6), (8, .int x8), (9, .int x9), (10, .int x10), (11, .int x11)]) (st1 := [.int 1, .int x11, .ref 436]) (fun _ _ _ => rfl) ?_
    refine jg_ias rfl kc_436 (fun g3 S4 _ => ?_)
    refine jg_sg 1 (pc1 := 44) (lv1 := [(0, .ref 215), (1, .int x1), (2, .long x2), (4, .long x4), (6, .long x6), (8, .int x8), (9, .int x9), (10, .int x10), (11, .int x11)]) (st1 := [.ref 215]) (fun _ _ _ => rfl) ?_
    refine jg_g (v := .ref 437) rfl kc_215 rfl rfl ?_
    refine jg_sg 2 (pc1 := 50) (lv1 := [(0, .ref 215), (1, .int x1), (2, .long x2), (4, .long x4), (6, .long x6), (8, .int x8), (9, .int x9), (10, .int x10), (11, .int x11)]) (st1 := [.int x1, .int x11, .ref 437]) (fun _ _ _ => rfl) ?_
    refine jg_ias rfl kc_437 (fun g5 S6 _ => ?_)
    refine jg_sg 1 (pc1 := 52) (lv1 := [(0, .ref 215), (1, .int x1), (2, .long x2), (4, .long x4), (6, .long x6), (8, .int x8), (9, .int x9), (10, .int x10), (11, .int x11)]) (st1 := [.ref 215]) (fun _ _ _ => rfl) ?_
    refine jg_g (v := .ref 438) rfl kc_215 rfl rfl ?_
    refine jg_sg 2 (pc1 := 58) (lv1 := [(0, .ref 215), (1, .int x1), (2, .long x2), (4, .long x4), (6, .long x6), (8, .int x8), (9, .int x9), (10, .int x10), (11, .int x11)]) (st1 := [.long x2, .int x11, .ref 438]) (fun _ _ _ => rfl) ?_
    refine jg_las rfl kc_438 (fun g7 S8 _ => ?_)
    refine jg_sg 1 (pc1 := 60) (lv1 := [(0, .ref 215), (1, .int x1), (2, .long x2), (4, .long x4), (6, .long x6), (8, .int x8), (9, .int x9), (10, .int x10), (11, .int x11)]) (st1 := [.ref 215]) (fun _ _ _ => rfl) ?_
    refine jg_g (v := .ref 442) rfl kc_215 rfl rfl ?_
    refine jg_sg 2 (pc1 := 67) (lv1 := [(0, .ref 215), (1, .int x1), (2, .long x2), (4, .long x4), (6, .long x6), (8, .int x8), (9, .int x9), (10, .int x10), (11, .int x11)]) (st1 := [.long x4, .int x11, .ref 442]) (fun _ _ _ => rfl) ?_
    refine jg_las rfl kc_442 (fun g9 S10 _ => ?_)
    refine jg_sg 1 (pc1 := 69) (lv1 := [(0, .ref 215), (1, .int x1), (2, .long x2), (4, .long x4), (6, .long x6), (8, .int x8), (9, .int x9), (10, .int x10), (11, .int x11)]) (st1 := [.ref 215]) (fun _ _ _ => rfl) ?_
    refine jg_g (v := .ref 443) rfl kc_215 rfl rfl ?_
    refine jg_sg 2 (pc1 := 76) (lv1 := [(0, .ref 215), (1, .int x1), (2, .long x2), (4, .long x4), (6, .long x6), (8, .int x8), (9, .int x9), (10, .int x10), (11, .int x11)]) (st1 := [.long x6, .int x11, .ref 443]) (fun _ _ _ => rfl) ?_
    refine jg_las rfl kc_443 (fun g11 S12 _ => ?_)
    refine jg_sg 1 (pc1 := 78) (lv1 := [(0, .ref 215), (1, .int x1), (2, .long x2), (4, .long x4), (6, .long x6), (8, .int x8), (9, .int x9), (10, .int x10), (11, .int x11)]) (st1 := [.ref 215]) (fun _ _ _ => rfl) ?_
    refine jg_g (v := .ref 444) rfl kc_215 rfl rfl ?_
    refine jg_sg 2 (pc1 := 85) (lv1 := [(0, .ref 215), (1, .int x1), (2, .long x2), (4, .long x4), (6, .long x6), (8, .int x8), (9, .int x9), (10, .int x10), (11, .int x11)]) (st1 := [.int x8, .int x11, .ref 444]) (fun _ _ _ => rfl) ?_
    refine jg_ias rfl kc_444 (fun g13 S14 _ => ?_)
    refine jg_sg 1 (pc1 := 87) (lv1 := [(0, .ref 215), (1, .int x1), (2, .long x2), (4, .long x4), (6, .long x6), (8, .int x8), (9, .int x9), (10, .int x10), (11, .int x11)]) (st1 := [.ref 215]) (fun _ _ _ => rfl) ?_
    refine jg_g (v := .ref 445) rfl kc_215 rfl rfl ?_
    refine jg_sg 2 (pc1 := 94) (lv1 := [(0, .ref 215), (1, .int x1), (2, .long x2), (4, .long x4), (6, .long x6), (8, .int x8), (9, .int x9), (10, .int x10), (11, .int x11)]) (st1 := [.int x9, .int x11, .ref 445]) (fun _ _ _ => rfl) ?_
    refine jg_ias rfl kc_445 (fun g15 S16 _ => ?_)
    refine jg_sg 1 (pc1 := 96) (lv1 := [(0, .ref 215), (1, .int x1), (2, .long x2), (4, .long x4), (6, .long x6), (8, .int x8), (9, .int x9), (10, .int x10), (11, .int x11)]) (st1 := [.ref 215]) (fun _ _ _ => rfl) ?_
    refine jg_g (v := .ref 446) rfl kc_215 rfl rfl ?_
    refine jg_sg 2 (pc1 := 103) (lv1 := [(0, .ref 215), (1, .int x1), (2, .long x2), (4, .long x4), (6, .long x6), (8, .int x8), (9, .int x9), (10, .int x10), (11, .int x11)]) (st1 := [.int x10, .int x11, .ref 446]) (fun _ _ _ => rfl) ?_
    refine jg_ias rfl kc_446 (fun g17 S18 _ => ?_)
    refine jg_sg 1 (pc1 := 105) (lv1 := [(0, .ref 215), (1, .int x1), (2, .long x2), (4, .long x4), (6, .long x6), (8, .int x8), (9, .int x9), (10, .int x10), (11, .int x11)]) (st1 := [.ref 215]) (fun _ _ _ => rfl) ?_
    refine jg_g (v := .ref 440) rfl kc_215 rfl rfl ?_
    refine jg_sg 2 (pc1 := 111) (lv1 := [(0, .ref 215), (1, .int x1), (2, .long x2), (4, .long x4), (6, .long x6), (8, .int x8), (9, .int x9), (10, .int x10), (11, .int x11)]) (st1 := [.long 0, .int x11, .ref 440]) (fun _ _ _ => rfl) ?_
    refine jg_las rfl kc_440 (fun g19 S20 _ => ?_)
    refine jg_sg 1 (pc1 := 113) (lv1 := [(0, .ref 215), (1, .int x1), (2, .long x2), (4, .long x4), (6, .long x6), (8, .int x8), (9, .int x9), (10, .int x10), (11, .int x11)]) (st1 := [.ref 215]) (fun _ _ _ => rfl) ?_
    refine jg_g (v := .ref 441) rfl kc_215 rfl rfl ?_
    refine jg_sg 2 (pc1 := 119) (lv1 := [(0, .ref 215), (1, .int x1), (2, .long x2), (4, .long x4), (6, .long x6), (8, .int x8), (9, .int x9), (10, .int x10), (11, .int x11)]) (st1 := [.ref 215, .int x11, .ref 441]) (fun _ _ _ => rfl) ?_
    refine jg_g (v := .long (S20.2.1 215 43)) rfl kc_215 rfl rfl ?_
    refine jg_las rfl kc_441 (fun g21 S22 _ => ?_)
    refine jg_sg 2 (pc1 := 125) (lv1 := [(0, .ref 215), (1, .int x1), (2, .long x2), (4, .long x4), (6, .long x6), (8, .int x8), (9, .int x9), (10, .int x10), (11, .int x11)]) (st1 := [.ref 215, .ref 215]) (fun _ _ _ => rfl) ?_
    refine jg_g (v := .long (S22.2.1 215 43)) rfl kc_215 rfl rfl ?_
    refine jg_sg 2 (pc1 := 130) (lv1 := [(0, .ref 215), (1, .int x1), (2, .long x2), (4, .long x4), (6, .long x6), (8, .int x8), (9, .int x9), (10, .int x10), (11, .int x11)]) (st1 := [.long ((S22.2.1 215 43) + 1), .ref 215]) (fun _ _ _ => rfl) ?_
    refine jg_pl rfl kc_215 rfl (Nat.le_of_ble_eq_true rfl) rfl rfl (fun S23 _ => ?_)
    refine jg_sg 1 (pc1 := 135) (lv1 := [(0, .ref 215), (1, .int x1), (2, .long x2), (4, .long x4), (6, .long x6), (8, .int x8), (9, .int x9), (10, .int x10), (11, .int x11)]) (st1 := [.int x11]) (fun _ _ _ => rfl) ?_
    exact jg_ri rfl rfl rfl rfl
noncomputable def L_M_enter_3  : Nat → Int32 → Int64 → Int64 → Int64 → Int32 → Int32 → Int32 → Int32 → jS → Option (Int32 × jS)
  | 0, _, _, _, _, _, _, _, _, _ => none
  | f + 1, x1, x2, x4, x6, x8, x9, x10, x11, S => if 100 ≤ x11 then (J_M_enter_26 x1 x2 x4 x6 x8 x9 x10 x11 S) else (j_q (j_in x11 100) (if (S.1 436 ((x11 : Int32).toNatClampNeg)) = 0 then (J_M_enter_26 x1 x2 x4 x6 x8 x9 x10 x11 S) else ((L_M_enter_3 f) x1 x2 x4 x6 x8 x9 x10 (x11 + 1) S)))
set_option maxRecDepth 20000 in
theorem kL_M_enter_3 {q rF rL : Nat} (hF : 0 ≤ rF) (hL : 0 ≤ rL)   : ∀ (f : Nat) (x1 : Int32) (x2 : Int64) (x4 : Int64) (x6 : Int64) (x8 : Int32) (x9 : Int32) (x10 : Int32) (x11 : Int32) (S : jS), jg q jp_M_enter rF rL 3 [(0, .ref 215), (1, .int x1), (2, .long x2), (4, .long x4), (6, .long x6), (8, .int x8), (9, .int x9), (10, .int x10), (11, .int x11)] [] S 0 s_I (L_M_enter_3 f x1 x2 x4 x6 x8 x9 x10 x11 S) := by
  intro f
  induction f with
  | zero => intro _ _ _ _ _ _ _ _ _; exact jg_none
  | succ f ih3 =>
    intro x1 x2 x4 x6 x8 x9 x10 x11 S
    rw [L_M_enter_3]
    refine jg_sg 2 (pc1 := 7) (lv1 := [(0, .ref 215), (1, .int x1), (2, .long x2), (4, .long x4), (6, .long x6), (8, .int x8), (9, .int x9), (10, .int x10), (11, .int x11)]) (st1 := [.int 100, .int x11]) (fun _ _ _ => rfl) ?_
    refine jg_br (fun _ _ _ _ k1 k2 => jt_icmp_ge (t := 26) rfl rfl k1 k2) (fun c1 => ?_) (fun c1 => ?_)
    · refine jg_lvs (lv1 := [(0, .ref 215), (1, .int x1), (2, .long x2), (4, .long x4), (6, .long x6), (8, .int x8), (9, .int x9), (10, .int x10), (11, .int x11)]) rfl rfl ⟨rfl, rfl, rfl, rfl, rfl, rfl, rfl, rfl, rfl, trivial⟩ ?_
      exact kJ_M_enter_26 (by omega) (by omega) x1 x2 x4 x6 x8 x9 x10 x11 S
    · refine jg_sg 1 (pc1 := 11) (lv1 := [(0, .ref 215), (1, .int x1), (2, .long x2), (4, .long x4), (6, .long x6), (8, .int x8), (9, .int x9), (10, .int x10), (11, .int x11)]) (st1 := [.ref 215]) (fun _ _ _ => rfl) ?_
      refine jg_g (v := .ref 436) rfl kc_215 rfl rfl ?_
      refine jg_sg 1 (pc1 := 16) (lv1 := [(0, .ref 215), (1, .int x1), (2, .long x2), (4, .long x4), (6, .long x6), (8, .int x8), (9, .int x9), (10, .int x10), (11, .int x11)]) (st1 := [.int x11, .ref 436]) (fun _ _ _ => rfl) ?_
      refine jg_ial rfl kc_436 (fun g24 => ?_)
      refine jg_br (fun _ _ _ _ k1 k2 => jt_if_eq (t := 26) rfl rfl k1 k2) (fun c25 => ?_) (fun c25 => ?_)
      · refine jg_lvs (lv1 := [(0, .ref 215), (1, .int x1), (2, .long x2), (4, .long x4), (6, .long x6), (8, .int x8), (9, .int x9), (10, .int x10), (11, .int x11)]) rfl rfl ⟨rfl, rfl, rfl, rfl, rfl, rfl, rfl, rfl, rfl, trivial⟩ ?_
        exact kJ_M_enter_26 (by omega) (by omega) x1 x2 x4 x6 x8 x9 x10 x11 S
      · refine jg_sg 2 (pc1 := 3) (lv1 := [(11, .int (x11 + 1)), (0, .ref 215), (1, .int x1), (2, .long x2), (4, .long x4), (6, .long x6), (8, .int x8), (9, .int x9), (10, .int x10)]) (st1 := []) (fun _ _ _ => rfl) ?_
        refine jg_lvs (lv1 := [(0, .ref 215), (1, .int x1), (2, .long x2), (4, .long x4), (6, .long x6), (8, .int x8), (9, .int x9), (10, .int x10), (11, .int (x11 + 1))]) rfl rfl ⟨rfl, rfl, rfl, rfl, rfl, rfl, rfl, rfl, rfl, trivial⟩ ?_
        exact ih3 x1 x2 x4 x6 x8 x9 x10 (x11 + 1) S
noncomputable def F_M_enter (p0 : Int32) (p1 : Int64) (p2 : Int64) (p3 : Int64) (p4 : Int32) (p5 : Int32) (p6 : Int32) (S : jS) : Option (Int32 × jS) := L_M_enter_3 ju_ p0 p1 p2 p3 p4 p5 p6 0 S
set_option maxRecDepth 20000 in
theorem kF_M_enter {q : Nat} (p0 : Int32) (p1 : Int64) (p2 : Int64) (p3 : Int64) (p4 : Int32) (p5 : Int32) (p6 : Int32) (S : jS) (rF rL : Nat) (hF : 0 ≤ rF) (hL : 0 ≤ rL)  : jg q jp_M_enter rF rL 0 [(0, .ref 215), (1, .int p0), (2, .long p1), (4, .long p2), (6, .long p3), (8, .int p4), (9, .int p5), (10, .int p6)] [] S 0 s_I (F_M_enter p0 p1 p2 p3 p4 p5 p6 S) := by
  unfold F_M_enter
  refine jg_sg 2 (pc1 := 3) (lv1 := [(11, .int 0), (0, .ref 215), (1, .int p0), (2, .long p1), (4, .long p2), (6, .long p3), (8, .int p4), (9, .int p5), (10, .int p6)]) (st1 := []) (fun _ _ _ => rfl) ?_
  refine jg_lvs (lv1 := [(0, .ref 215), (1, .int p0), (2, .long p1), (4, .long p2), (6, .long p3), (8, .int p4), (9, .int p5), (10, .int p6), (11, .int 0)]) rfl rfl ⟨rfl, rfl, rfl, rfl, rfl, rfl, rfl, rfl, rfl, trivial⟩ ?_
  exact kL_M_enter_3 (by omega) (by omega) ju_ p0 p1 p2 p3 p4 p5 p6 0 S
noncomputable def J_M_make_103 (S : jS) : Option (Int32 × jS) := (F_M_fail 1 S).bind (fun z3 => some (z3.1, z3.2))
set_option maxRecDepth 20000 in
theorem kJ_M_make_103 {q rF rL : Nat} (hF : 1 ≤ rF) (hL : 31 ≤ rL)   (S : jS) : jg q jp_M_make rF rL 103 [(0, .ref 215)] [] S 0 s_I (J_M_make_103 S) := by
  unfold J_M_make_103
  refine jg_sg 2 (pc1 := 105) (lv1 := [(0, .ref 215)]) (st1 := [.int 1, .ref 215]) (fun _ _ _ => rfl) ?_
  refine jg_csI (m2 := jp_M_fail) (As := [.ref 215, .int 1]) (r := []) (mx := 2) (jh_v (a := 215) rfl rfl rfl kc_215 rfl (Nat.le_of_ble_eq_true rfl) rfl rfl rfl (by omega) (by omega) (Nat.le_of_ble_eq_true rfl)) (kF_M_fail 1 S _ _ (by omega) (by omega) ) (fun z3 => ?_)
  exact jg_ri rfl rfl rfl rfl
noncomputable def J_M_make_71 (x1 : Int32) (x2 : Int64) (x4 : Int64) (x6 : Int64) (x8 : Int32) (x9 : Int32) (x10 : Int32) (S : jS) : Option (Int32 × jS) := if x6 < 0 then (J_M_make_103 S) else (if ((1099511627776 : Int64)) < x6 then (J_M_make_103 S) else (if x9 < 0 then (J_M_make_103 S) else (if 2 < x9 then (J_M_make_103 S) else (if 0 ≤ x10 then (if (S.1 215 45) = 0 then ((F_M_enter x1 ((S.2.1 215 41) + x2) x4 x6 x8 x9 x10 S).bind (fun z16 => if 0 ≤ z16.1 then (some (z16.1, z16.2)) else ((F_M_fail 3 z16.2).bind (fun z18 => some (z18.1, z18.2))))) else ((F_M_fail 2 S).bind (fun z19 => some (z19.1, z19.2)))) else (J_M_make_103 S)))))
set_option maxRecDepth 20000 in
theorem kJ_M_make_71 {q rF rL : Nat} (hF : 1 ≤ rF) (hL : 31 ≤ rL)   (x1 : Int32) (x2 : Int64) (x4 : Int64) (x6 : Int64) (x8 : Int32) (x9 : Int32) (x10 : Int32) (S : jS) : jg q jp_M_make rF rL 71 [(0, .ref 215), (1, .int x1), (2, .long x2), (4, .long x4), (6, .long x6), (8, .int x8), (9, .int x9), (10, .int x10)] [] S 0 s_I (J_M_make_71 x1 x2 x4 x6 x8 x9 x10 S) := by
  unfold J_M_make_71
  refine jg_sg 3 (pc1 := 75) (lv1 := [(0, .ref 215), (1, .int x1), (2, .long x2), (4, .long x4), (6, .long x6), (8, .int x8), (9, .int x9), (10, .int x10)]) (st1 := [.int (lg_cmp x6 0)]) (fun _ _ _ => rfl) ?_
  refine jg_br (fun _ _ _ _ k1 k2 => jt_lif_lt (t := 103) rfl rfl k1 k2) (fun c10 => ?_) (fun c10 => ?_)
  · refine jg_lvs (lv1 := [(0, .ref 215)]) rfl rfl ⟨rfl, trivial⟩ ?_
    exact kJ_M_make_103 (by omega) (by omega) S
  · refine jg_sg 3 (pc1 := 84) (lv1 := [(0, .ref 215), (1, .int x1), (2, .long x2), (4, .long x4), (6, .long x6), (8, .int x8), (9, .int x9), (10, .int x10)]) (st1 := [.int (lg_cmp x6 1099511627776)]) (fun _ _ _ => rfl) ?_
    refine jg_br (fun _ _ _ _ k1 k2 => jt_lif_gt (t := 103) rfl rfl k1 k2) (fun c11 => ?_) (fun c11 => ?_)
    · refine jg_lvs (lv1 := [(0, .ref 215)]) rfl rfl ⟨rfl, trivial⟩ ?_
      exact kJ_M_make_103 (by omega) (by omega) S
    · refine jg_sg 1 (pc1 := 89) (lv1 := [(0, .ref 215), (1, .int x1), (2, .long x2), (4, .long x4), (6, .long x6), (8, .int x8), (9, .int x9), (10, .int x10)]) (st1 := [.int x9]) (fun _ _ _ => rfl) ?_
      refine jg_br (fun _ _ _ _ k1 k2 => jt_if_lt (t := 103) rfl rfl k1 k2) (fun c12 => ?_) (fun c12 => ?_)
      · refine jg_lvs (lv1 := [(0, .ref 215)]) rfl rfl ⟨rfl, trivial⟩ ?_
        exact kJ_M_make_103 (by omega) (by omega) S
      · refine jg_sg 2 (pc1 := 95) (lv1 := [(0, .ref 215), (1, .int x1), (2, .long x2), (4, .long x4), (6, .long x6), (8, .int x8), (9, .int x9), (10, .int x10)]) (st1 := [.int 2, .int x9]) (fun _ _ _ => rfl) ?_
        refine jg_br (fun _ _ _ _ k1 k2 => jt_icmp_gt (t := 103) rfl rfl k1 k2) (fun c13 => ?_) (fun c13 => ?_)
        · refine jg_lvs (lv1 := [(0, .ref 215)]) rfl rfl ⟨rfl, trivial⟩ ?_
          exact kJ_M_make_103 (by omega) (by omega) S
        · refine jg_sg 1 (pc1 := 100) (lv1 := [(0, .ref 215), (1, .int x1), (2, .long x2), (4, .long x4), (6, .long x6), (8, .int x8), (9, .int x9), (10, .int x10)]) (st1 := [.int x10]) (fun _ _ _ => rfl) ?_
          refine jg_br (fun _ _ _ _ k1 k2 => jt_if_ge (t := 109) rfl rfl k1 k2) (fun c14 => ?_) (fun c14 => ?_)
          · refine jg_sg 1 (pc1 := 110) (lv1 := [(0, .ref 215), (1, .int x1), (2, .long x2), (4, .long x4), (6, .long x6), (8, .int x8), (9, .int x9), (10, .int x10)]) (st1 := [.ref 215]) (fun _ _ _ => rfl) ?_
            refine jg_g (v := .int (S.1 215 45)) rfl kc_215 rfl rfl ?_
            refine jg_br (fun _ _ _ _ k1 k2 => jt_if_eq (t := 122) rfl rfl k1 k2) (fun c15 => ?_) (fun c15 => ?_)
            · refine jg_sg 3 (pc1 := 125) (lv1 := [(0, .ref 215), (1, .int x1), (2, .long x2), (4, .long x4), (6, .long x6), (8, .int x8), (9, .int x9), (10, .int x10)]) (st1 := [.ref 215, .int x1, .ref 215]) (fun _ _ _ => rfl) ?_
              refine jg_g (v := .long (S.2.1 215 41)) rfl kc_215 rfl rfl ?_
              refine jg_sg 7 (pc1 := 140) (lv1 := [(0, .ref 215), (1, .int x1), (2, .long x2), (4, .long x4), (6, .long x6), (8, .int x8), (9, .int x9), (10, .int x10)]) (st1 := [.int x10, .int x9, .int x8, .long x6, .long x4, .long ((S.2.1 215 41) + x2), .int x1, .ref 215]) (fun _ _ _ => rfl) ?_
              refine jg_csI (m2 := jp_M_enter) (As := [.ref 215, .int x1, .long ((S.2.1 215 41) + x2), .long x4, .long x6, .int x8, .int x9, .int x10]) (r := []) (mx := 12) (jh_v (a := 215) rfl rfl rfl kc_215 rfl (Nat.le_of_ble_eq_true rfl) rfl rfl rfl (by omega) (by omega) (Nat.le_of_ble_eq_true rfl)) (kF_M_enter x1 ((S.2.1 215 41) + x2) x4 x6 x8 x9 x10 S _ _ (by omega) (by omega) ) (fun z16 => ?_)
              refine jg_sg 2 (pc1 := 147) (lv1 := [(11, .int z16.1), (0, .ref 215), (1, .int x1), (2, .long x2), (4, .long x4), (6, .long x6), (8, .int x8), (9, .int x9), (10, .int x10)]) (st1 := [.int z16.1]) (fun _ _ _ => rfl) ?_
              refine jg_br (fun _ _ _ _ k1 k2 => jt_if_ge (t := 158) rfl rfl k1 k2) (fun c17 => ?_) (fun c17 => ?_)
              · refine jg_sg 1 (pc1 := 160) (lv1 := [(11, .int z16.1), (0, .ref 215), (1, .int x1), (2, .long x2), (4, .long x4), (6, .long x6), (8, .int x8), (9, .int x9), (10, .int x10)]) (st1 := [.int z16.1]) (fun _ _ _ => rfl) ?_
                exact jg_ri rfl rfl rfl rfl
              · refine jg_sg 2 (pc1 := 152) (lv1 := [(11, .int z16.1), (0, .ref 215), (1, .int x1), (2, .long x2), (4, .long x4), (6, .long x6), (8, .int x8), (9, .int x9), (10, .int x10)]) (st1 := [.int 3, .ref 215]) (fun _ _ _ => rfl) ?_
                refine jg_csI (m2 := jp_M_fail) (As := [.ref 215, .int 3]) (r := []) (mx := 2) (jh_v (a := 215) rfl rfl rfl kc_215 rfl (Nat.le_of_ble_eq_true rfl) rfl rfl rfl (by omega) (by omega) (Nat.le_of_ble_eq_true rfl)) (kF_M_fail 3 z16.2 _ _ (by omega) (by omega) ) (fun z18 => ?_)
                refine jg_sg 1 (pc1 := 160) (lv1 := [(11, .int z16.1), (0, .ref 215), (1, .int x1), (2, .long x2), (4, .long x4), (6, .long x6), (8, .int x8), (9, .int x9), (10, .int x10)]) (st1 := [.int z18.1]) (fun _ _ _ => rfl) ?_
                exact jg_ri rfl rfl rfl rfl
            · refine jg_sg 2 (pc1 := 118) (lv1 := [(0, .ref 215), (1, .int x1), (2, .long x2), (4, .long x4), (6, .long x6), (8, .int x8), (9, .int x9), (10, .int x10)]) (st1 := [.int 2, .ref 215]) (fun _ _ _ => rfl) ?_
              refine jg_csI (m2 := jp_M_fail) (As := [.ref 215, .int 2]) (r := []) (mx := 2) (jh_v (a := 215) rfl rfl rfl kc_215 rfl (Nat.le_of_ble_eq_true rfl) rfl rfl rfl (by omega) (by omega) (Nat.le_of_ble_eq_true rfl)) (kF_M_fail 2 S _ _ (by omega) (by omega) ) (fun z19 => ?_)
              exact jg_ri rfl rfl rfl rfl
          · refine jg_lvs (lv1 := [(0, .ref 215)]) rfl rfl ⟨rfl, trivial⟩ ?_
            exact kJ_M_make_103 (by omega) (by omega) S
noncomputable def F_M_make (p0 : Int32) (p1 : Int64) (p2 : Int64) (p3 : Int64) (p4 : Int32) (p5 : Int32) (p6 : Int32) (S : jS) : Option (Int32 × jS) := j_l (w_i S 215 0 0) (fun S1 => if p0 < 0 then (J_M_make_103 S1) else (if 2 < p0 then (J_M_make_103 S1) else (if p1 < 0 then (J_M_make_103 S1) else (if ((1099511627776 : Int64)) < p1 then (J_M_make_103 S1) else (if ((10413791999999 : Int64)) < ((S1.2.1 215 41) + p1) then (J_M_make_103 S1) else (if p0 = 0 then (if p2 = 0 then (J_M_make_71 p0 p1 p2 p3 p4 p5 p6 S1) else (J_M_make_103 S1)) else (if p2 < 1 then (J_M_make_103 S1) else (if ((1099511627776 : Int64)) < p2 then (J_M_make_103 S1) else (J_M_make_71 p0 p1 p2 p3 p4 p5 p6 S1)))))))))
set_option maxRecDepth 20000 in
theorem kF_M_make {q : Nat} (p0 : Int32) (p1 : Int64) (p2 : Int64) (p3 : Int64) (p4 : Int32) (p5 : Int32) (p6 : Int32) (S : jS) (rF rL : Nat) (hF : 1 ≤ rF) (hL : 31 ≤ rL)  : jg q jp_M_make rF rL 0 [(0, .ref 215), (1, .int p0), (2, .long p1), (4, .long p2), (6, .long p3), (8, .int p4), (9, .int p5), (10, .int p6)] [] S 0 s_I (F_M_make p0 p1 p2 p3 p4 p5 p6 S) := by
  unfold F_M_make
  refine jg_sg 2 (pc1 := 2) (lv1 := [(0, .ref 215), (1, .int p0), (2, .long p1), (4, .long p2), (6, .long p3), (8, .int p4), (9, .int p5), (10, .int p6)]) (st1 := [.int 0, .ref 215]) (fun _ _ _ => rfl) ?_
  refine jg_pi rfl kc_215 rfl (Nat.le_of_ble_eq_true rfl) rfl rfl (fun S1 _ => ?_)
  refine jg_sg 1 (pc1 := 6) (lv1 := [(0, .ref 215), (1, .int p0), (2, .long p1), (4, .long p2), (6, .long p3), (8, .int p4), (9, .int p5), (10, .int p6)]) (st1 := [.int p0]) (fun _ _ _ => rfl) ?_
  refine jg_br (fun _ _ _ _ k1 k2 => jt_if_lt (t := 103) rfl rfl k1 k2) (fun c2 => ?_) (fun c2 => ?_)
  · refine jg_lvs (lv1 := [(0, .ref 215)]) rfl rfl ⟨rfl, trivial⟩ ?_
    exact kJ_M_make_103 (by omega) (by omega) S1
  · refine jg_sg 2 (pc1 := 11) (lv1 := [(0, .ref 215), (1, .int p0), (2, .long p1), (4, .long p2), (6, .long p3), (8, .int p4), (9, .int p5), (10, .int p6)]) (st1 := [.int 2, .int p0]) (fun _ _ _ => rfl) ?_
    refine jg_br (fun _ _ _ _ k1 k2 => jt_icmp_gt (t := 103) rfl rfl k1 k2) (fun c4 => ?_) (fun c4 => ?_)
    · refine jg_lvs (lv1 := [(0, .ref 215)]) rfl rfl ⟨rfl, trivial⟩ ?_
      exact kJ_M_make_103 (by omega) (by omega) S1
    · refine jg_sg 3 (pc1 := 17) (lv1 := [(0, .ref 215), (1, .int p0), (2, .long p1), (4, .long p2), (6, .long p3), (8, .int p4), (9, .int p5), (10, .int p6)]) (st1 := [.int (lg_cmp p1 0)]) (fun _ _ _ => rfl) ?_
      refine jg_br (fun _ _ _ _ k1 k2 => jt_lif_lt (t := 103) rfl rfl k1 k2) (fun c5 => ?_) (fun c5 => ?_)
      · refine jg_lvs (lv1 := [(0, .ref 215)]) rfl rfl ⟨rfl, trivial⟩ ?_
        exact kJ_M_make_103 (by omega) (by omega) S1
      · refine jg_sg 3 (pc1 := 25) (lv1 := [(0, .ref 215), (1, .int p0), (2, .long p1), (4, .long p2), (6, .long p3), (8, .int p4), (9, .int p5), (10, .int p6)]) (st1 := [.int (lg_cmp p1 1099511627776)]) (fun _ _ _ => rfl) ?_
        refine jg_br (fun _ _ _ _ k1 k2 => jt_lif_gt (t := 103) rfl rfl k1 k2) (fun c6 => ?_) (fun c6 => ?_)
        · refine jg_lvs (lv1 := [(0, .ref 215)]) rfl rfl ⟨rfl, trivial⟩ ?_
          exact kJ_M_make_103 (by omega) (by omega) S1
        · refine jg_sg 1 (pc1 := 29) (lv1 := [(0, .ref 215), (1, .int p0), (2, .long p1), (4, .long p2), (6, .long p3), (8, .int p4), (9, .int p5), (10, .int p6)]) (st1 := [.ref 215]) (fun _ _ _ => rfl) ?_
          refine jg_g (v := .long (S1.2.1 215 41)) rfl kc_215 rfl rfl ?_
          refine jg_sg 4 (pc1 := 38) (lv1 := [(0, .ref 215), (1, .int p0), (2, .long p1), (4, .long p2), (6, .long p3), (8, .int p4), (9, .int p5), (10, .int p6)]) (st1 := [.int (lg_cmp ((S1.2.1 215 41) + p1) 10413791999999)]) (fun _ _ _ => rfl) ?_
          refine jg_br (fun _ _ _ _ k1 k2 => jt_lif_gt (t := 103) rfl rfl k1 k2) (fun c7 => ?_) (fun c7 => ?_)
          · refine jg_lvs (lv1 := [(0, .ref 215)]) rfl rfl ⟨rfl, trivial⟩ ?_
            exact kJ_M_make_103 (by omega) (by omega) S1
          · refine jg_sg 1 (pc1 := 42) (lv1 := [(0, .ref 215), (1, .int p0), (2, .long p1), (4, .long p2), (6, .long p3), (8, .int p4), (9, .int p5), (10, .int p6)]) (st1 := [.int p0]) (fun _ _ _ => rfl) ?_
            refine jg_br (fun _ _ _ _ k1 k2 => jt_if_ne (t := 55) rfl rfl k2 k1) (fun c8 => ?_) (fun c8 => ?_)
            · refine jg_sg 3 (pc1 := 49) (lv1 := [(0, .ref 215), (1, .int p0), (2, .long p1), (4, .long p2), (6, .long p3), (8, .int p4), (9, .int p5), (10, .int p6)]) (st1 := [.int (lg_cmp p2 0)]) (fun _ _ _ => rfl) ?_
              refine jg_br (fun _ _ _ _ k1 k2 => jt_lif_eq (t := 71) rfl rfl k1 k2) (fun c9 => ?_) (fun c9 => ?_)
              · refine jg_lvs (lv1 := [(0, .ref 215), (1, .int p0), (2, .long p1), (4, .long p2), (6, .long p3), (8, .int p4), (9, .int p5), (10, .int p6)]) rfl rfl ⟨rfl, rfl, rfl, rfl, rfl, rfl, rfl, rfl, trivial⟩ ?_
                exact kJ_M_make_71 (by omega) (by omega) p0 p1 p2 p3 p4 p5 p6 S1
              · refine jg_sg 1 (pc1 := 103) (lv1 := [(0, .ref 215), (1, .int p0), (2, .long p1), (4, .long p2), (6, .long p3), (8, .int p4), (9, .int p5), (10, .int p6)]) (st1 := []) (fun _ _ _ => rfl) ?_
                refine jg_lvs (lv1 := [(0, .ref 215)]) rfl rfl ⟨rfl, trivial⟩ ?_
                exact kJ_M_make_103 (by omega) (by omega) S1
            · refine jg_sg 3 (pc1 := 59) (lv1 := [(0, .ref 215), (1, .int p0), (2, .long p1), (4, .long p2), (6, .long p3), (8, .int p4), (9, .int p5), (10, .int p6)]) (st1 := [.int (lg_cmp p2 1)]) (fun _ _ _ => rfl) ?_
              refine jg_br (fun _ _ _ _ k1 k2 => jt_lif_lt (t := 103) rfl rfl k1 k2) (fun c20 => ?_) (fun c20 => ?_)
              · refine jg_lvs (lv1 := [(0, .ref 215)]) rfl rfl ⟨rfl, trivial⟩ ?_
                exact kJ_M_make_103 (by omega) (by omega) S1
              · refine jg_sg 3 (pc1 := 68) (lv1 := [(0, .ref 215), (1, .int p0), (2, .long p1), (4, .long p2), (6, .long p3), (8, .int p4), (9, .int p5), (10, .int p6)]) (st1 := [.int (lg_cmp p2 1099511627776)]) (fun _ _ _ => rfl) ?_
                refine jg_br (fun _ _ _ _ k1 k2 => jt_lif_gt (t := 103) rfl rfl k1 k2) (fun c21 => ?_) (fun c21 => ?_)
                · refine jg_lvs (lv1 := [(0, .ref 215)]) rfl rfl ⟨rfl, trivial⟩ ?_
                  exact kJ_M_make_103 (by omega) (by omega) S1
                · refine jg_lvs (lv1 := [(0, .ref 215), (1, .int p0), (2, .long p1), (4, .long p2), (6, .long p3), (8, .int p4), (9, .int p5), (10, .int p6)]) rfl rfl ⟨rfl, rfl, rfl, rfl, rfl, rfl, rfl, rfl, trivial⟩ ?_
                  exact kJ_M_make_71 (by omega) (by omega) p0 p1 p2 p3 p4 p5 p6 S1
noncomputable def J_M_makeCron_48 (S : jS) : Option (Int32 × jS) := (F_M_fail 1 S).bind (fun z5 => some (z5.1, z5.2))
set_option maxRecDepth 20000 in
theorem kJ_M_makeCron_48 {q rF rL : Nat} (hF : 6 ≤ rF) (hL : 152 ≤ rL)   (S : jS) : jg q jp_M_makeCron rF rL 48 [(0, .ref 215)] [] S 0 s_I (J_M_makeCron_48 S) := by
  unfold J_M_makeCron_48
  refine jg_sg 2 (pc1 := 50) (lv1 := [(0, .ref 215)]) (st1 := [.int 1, .ref 215]) (fun _ _ _ => rfl) ?_
  refine jg_csI (m2 := jp_M_fail) (As := [.ref 215, .int 1]) (r := []) (mx := 2) (jh_v (a := 215) rfl rfl rfl kc_215 rfl (Nat.le_of_ble_eq_true rfl) rfl rfl rfl (by omega) (by omega) (Nat.le_of_ble_eq_true rfl)) (kF_M_fail 1 S _ _ (by omega) (by omega) ) (fun z5 => ?_)
  exact jg_ri rfl rfl rfl rfl
noncomputable def F_M_makeCron (p0 : Int32) (p1 : Int32) (p2 : Int32) (p3 : Int64) (p4 : Int32) (p5 : Int32) (p6 : Int32) (S : jS) : Option (Int32 × jS) := j_l (w_i S 215 0 0) (fun S1 => (F_M_badFire p0 p1 p2 0 S1).bind (fun z2 => if z2 = 0 then (if p3 < 0 then (J_M_makeCron_48 S1) else (if ((1099511627776 : Int64)) < p3 then (J_M_makeCron_48 S1) else (if p5 < 0 then (J_M_makeCron_48 S1) else (if 2 < p5 then (J_M_makeCron_48 S1) else (if 0 ≤ p6 then (if (S1.1 215 45) = 0 then ((F_M_nextFire p0 p1 p2 (S1.2.1 215 41) S1).bind (fun z11 => if ((0 : Int64)) ≤ z11.1 then ((F_M_enter 3 z11.1 0 p3 p4 p5 p6 z11.2).bind (fun z13 => if 0 ≤ z13.1 then (j_q (j_in z13.1 100) (j_l (w_i z13.2 447 ((z13.1 : Int32).toNatClampNeg) p0) (fun S16 => j_q (j_in z13.1 100) (j_l (w_i S16 448 ((z13.1 : Int32).toNatClampNeg) p1) (fun S18 => j_q (j_in z13.1 100) (j_l (w_i S18 449 ((z13.1 : Int32).toNatClampNeg) p2) (fun S20 => some (z13.1, S20)))))))) else ((F_M_fail 4 z13.2).bind (fun z21 => some (z21.1, z21.2))))) else ((F_M_fail 3 z11.2).bind (fun z22 => some (z22.1, z22.2))))) else ((F_M_fail 2 S1).bind (fun z23 => some (z23.1, z23.2)))) else (J_M_makeCron_48 S1)))))) else (J_M_makeCron_48 S1)))
set_option maxRecDepth 20000 in
theorem kF_M_makeCron {q : Nat} (p0 : Int32) (p1 : Int32) (p2 : Int32) (p3 : Int64) (p4 : Int32) (p5 : Int32) (p6 : Int32) (S : jS) (rF rL : Nat) (hF : 6 ≤ rF) (hL : 152 ≤ rL)  : jg q jp_M_makeCron rF rL 0 [(0, .ref 215), (1, .int p0), (2, .int p1), (3, .int p2), (4, .long p3), (6, .int p4), (7, .int p5), (8, .int p6)] [] S 0 s_I (F_M_makeCron p0 p1 p2 p3 p4 p5 p6 S) := by
  unfold F_M_makeCron
  refine jg_sg 2 (pc1 := 2) (lv1 := [(0, .ref 215), (1, .int p0), (2, .int p1), (3, .int p2), (4, .long p3), (6, .int p4), (7, .int p5), (8, .int p6)]) (st1 := [.int 0, .ref 215]) (fun _ _ _ => rfl) ?_
  refine jg_pi rfl kc_215 rfl (Nat.le_of_ble_eq_true rfl) rfl rfl (fun S1 _ => ?_)
  refine jg_sg 5 (pc1 := 10) (lv1 := [(0, .ref 215), (1, .int p0), (2, .int p1), (3, .int p2), (4, .long p3), (6, .int p4), (7, .int p5), (8, .int p6)]) (st1 := [.long 0, .int p2, .int p1, .int p0, .ref 215]) (fun _ _ _ => rfl) ?_
  refine jg_cpI (m2 := jp_M_badFire) (As := [.ref 215, .int p0, .int p1, .int p2, .long 0]) (r := []) (mx := 6) (jh_v (a := 215) rfl rfl rfl kc_215 rfl (Nat.le_of_ble_eq_true rfl) rfl rfl rfl (by omega) (by omega) (Nat.le_of_ble_eq_true rfl)) (kF_M_badFire p0 p1 p2 0 S1 _ _ (by omega) (by omega) ) (fun z2 => ?_)
  refine jg_br (fun _ _ _ _ k1 k2 => jt_if_ne (t := 48) rfl rfl k2 k1) (fun c3 => ?_) (fun c3 => ?_)
  · refine jg_sg 3 (pc1 := 20) (lv1 := [(0, .ref 215), (1, .int p0), (2, .int p1), (3, .int p2), (4, .long p3), (6, .int p4), (7, .int p5), (8, .int p6)]) (st1 := [.int (lg_cmp p3 0)]) (fun _ _ _ => rfl) ?_
    refine jg_br (fun _ _ _ _ k1 k2 => jt_lif_lt (t := 48) rfl rfl k1 k2) (fun c4 => ?_) (fun c4 => ?_)
    · refine jg_lvs (lv1 := [(0, .ref 215)]) rfl rfl ⟨rfl, trivial⟩ ?_
      exact kJ_M_makeCron_48 (by omega) (by omega) S1
    · refine jg_sg 3 (pc1 := 29) (lv1 := [(0, .ref 215), (1, .int p0), (2, .int p1), (3, .int p2), (4, .long p3), (6, .int p4), (7, .int p5), (8, .int p6)]) (st1 := [.int (lg_cmp p3 1099511627776)]) (fun _ _ _ => rfl) ?_
      refine jg_br (fun _ _ _ _ k1 k2 => jt_lif_gt (t := 48) rfl rfl k1 k2) (fun c6 => ?_) (fun c6 => ?_)
      · refine jg_lvs (lv1 := [(0, .ref 215)]) rfl rfl ⟨rfl, trivial⟩ ?_
        exact kJ_M_makeCron_48 (by omega) (by omega) S1
      · refine jg_sg 1 (pc1 := 34) (lv1 := [(0, .ref 215), (1, .int p0), (2, .int p1), (3, .int p2), (4, .long p3), (6, .int p4), (7, .int p5), (8, .int p6)]) (st1 := [.int p5]) (fun _ _ _ => rfl) ?_
        refine jg_br (fun _ _ _ _ k1 k2 => jt_if_lt (t := 48) rfl rfl k1 k2) (fun c7 => ?_) (fun c7 => ?_)
        · refine jg_lvs (lv1 := [(0, .ref 215)]) rfl rfl ⟨rfl, trivial⟩ ?_
          exact kJ_M_makeCron_48 (by omega) (by omega) S1
        · refine jg_sg 2 (pc1 := 40) (lv1 := [(0, .ref 215), (1, .int p0), (2, .int p1), (3, .int p2), (4, .long p3), (6, .int p4), (7, .int p5), (8, .int p6)]) (st1 := [.int 2, .int p5]) (fun _ _ _ => rfl) ?_
          refine jg_br (fun _ _ _ _ k1 k2 => jt_icmp_gt (t := 48) rfl rfl k1 k2) (fun c8 => ?_) (fun c8 => ?_)
          · refine jg_lvs (lv1 := [(0, .ref 215)]) rfl rfl ⟨rfl, trivial⟩ ?_
            exact kJ_M_makeCron_48 (by omega) (by omega) S1
          · refine jg_sg 1 (pc1 := 45) (lv1 := [(0, .ref 215), (1, .int p0), (2, .int p1), (3, .int p2), (4, .long p3), (6, .int p4), (7, .int p5), (8, .int p6)]) (st1 := [.int p6]) (fun _ _ _ => rfl) ?_
            refine jg_br (fun _ _ _ _ k1 k2 => jt_if_ge (t := 54) rfl rfl k1 k2) (fun c9 => ?_) (fun c9 => ?_)
            · refine jg_sg 1 (pc1 := 55) (lv1 := [(0, .ref 215), (1, .int p0), (2, .int p1), (3, .int p2), (4, .long p3), (6, .int p4), (7, .int p5), (8, .int p6)]) (st1 := [.ref 215]) (fun _ _ _ => rfl) ?_
              refine jg_g (v := .int (S1.1 215 45)) rfl kc_215 rfl rfl ?_
              refine jg_br (fun _ _ _ _ k1 k2 => jt_if_eq (t := 67) rfl rfl k1 k2) (fun c10 => ?_) (fun c10 => ?_)
              · refine jg_sg 5 (pc1 := 72) (lv1 := [(0, .ref 215), (1, .int p0), (2, .int p1), (3, .int p2), (4, .long p3), (6, .int p4), (7, .int p5), (8, .int p6)]) (st1 := [.ref 215, .int p2, .int p1, .int p0, .ref 215]) (fun _ _ _ => rfl) ?_
                refine jg_g (v := .long (S1.2.1 215 41)) rfl kc_215 rfl rfl ?_
                refine jg_csL (m2 := jp_M_nextFire) (As := [.ref 215, .int p0, .int p1, .int p2, .long (S1.2.1 215 41)]) (r := []) (mx := 19) (jh_v (a := 215) rfl rfl rfl kc_215 rfl (Nat.le_of_ble_eq_true rfl) rfl rfl rfl (by omega) (by omega) (Nat.le_of_ble_eq_true rfl)) (kF_M_nextFire p0 p1 p2 (S1.2.1 215 41) S1 _ _ (by omega) (by omega) ) (fun z11 => ?_)
                refine jg_sg 4 (pc1 := 84) (lv1 := [(9, .long z11.1), (0, .ref 215), (1, .int p0), (2, .int p1), (3, .int p2), (4, .long p3), (6, .int p4), (7, .int p5), (8, .int p6)]) (st1 := [.int (lg_cmp z11.1 0)]) (fun _ _ _ => rfl) ?_
                refine jg_br (fun _ _ _ _ k1 k2 => jt_lif_ge (t := 93) rfl rfl k1 k2) (fun c12 => ?_) (fun c12 => ?_)
                · refine jg_sg 8 (pc1 := 106) (lv1 := [(9, .long z11.1), (0, .ref 215), (1, .int p0), (2, .int p1), (3, .int p2), (4, .long p3), (6, .int p4), (7, .int p5), (8, .int p6)]) (st1 := [.int p6, .int p5, .int p4, .long p3, .long 0, .long z11.1, .int 3, .ref 215]) (fun _ _ _ => rfl) ?_
                  refine jg_csI (m2 := jp_M_enter) (As := [.ref 215, .int 3, .long z11.1, .long 0, .long p3, .int p4, .int p5, .int p6]) (r := []) (mx := 12) (jh_v (a := 215) rfl rfl rfl kc_215 rfl (Nat.le_of_ble_eq_true rfl) rfl rfl rfl (by omega) (by omega) (Nat.le_of_ble_eq_true rfl)) (kF_M_enter 3 z11.1 0 p3 p4 p5 p6 z11.2 _ _ (by omega) (by omega) ) (fun z13 => ?_)
                  refine jg_sg 2 (pc1 := 113) (lv1 := [(11, .int z13.1), (9, .long z11.1), (0, .ref 215), (1, .int p0), (2, .int p1), (3, .int p2), (4, .long p3), (6, .int p4), (7, .int p5), (8, .int p6)]) (st1 := [.int z13.1]) (fun _ _ _ => rfl) ?_
                  refine jg_br (fun _ _ _ _ k1 k2 => jt_if_ge (t := 122) rfl rfl k1 k2) (fun c14 => ?_) (fun c14 => ?_)
                  · refine jg_sg 1 (pc1 := 123) (lv1 := [(11, .int z13.1), (9, .long z11.1), (0, .ref 215), (1, .int p0), (2, .int p1), (3, .int p2), (4, .long p3), (6, .int p4), (7, .int p5), (8, .int p6)]) (st1 := [.ref 215]) (fun _ _ _ => rfl) ?_
                    refine jg_g (v := .ref 447) rfl kc_215 rfl rfl ?_
                    refine jg_sg 2 (pc1 := 129) (lv1 := [(11, .int z13.1), (9, .long z11.1), (0, .ref 215), (1, .int p0), (2, .int p1), (3, .int p2), (4, .long p3), (6, .int p4), (7, .int p5), (8, .int p6)]) (st1 := [.int p0, .int z13.1, .ref 447]) (fun _ _ _ => rfl) ?_
                    refine jg_ias rfl kc_447 (fun g15 S16 _ => ?_)
                    refine jg_sg 1 (pc1 := 131) (lv1 := [(11, .int z13.1), (9, .long z11.1), (0, .ref 215), (1, .int p0), (2, .int p1), (3, .int p2), (4, .long p3), (6, .int p4), (7, .int p5), (8, .int p6)]) (st1 := [.ref 215]) (fun _ _ _ => rfl) ?_
                    refine jg_g (v := .ref 448) rfl kc_215 rfl rfl ?_
                    refine jg_sg 2 (pc1 := 137) (lv1 := [(11, .int z13.1), (9, .long z11.1), (0, .ref 215), (1, .int p0), (2, .int p1), (3, .int p2), (4, .long p3), (6, .int p4), (7, .int p5), (8, .int p6)]) (st1 := [.int p1, .int z13.1, .ref 448]) (fun _ _ _ => rfl) ?_
                    refine jg_ias rfl kc_448 (fun g17 S18 _ => ?_)
                    refine jg_sg 1 (pc1 := 139) (lv1 := [(11, .int z13.1), (9, .long z11.1), (0, .ref 215), (1, .int p0), (2, .int p1), (3, .int p2), (4, .long p3), (6, .int p4), (7, .int p5), (8, .int p6)]) (st1 := [.ref 215]) (fun _ _ _ => rfl) ?_
                    refine jg_g (v := .ref 449) rfl kc_215 rfl rfl ?_
                    refine jg_sg 2 (pc1 := 145) (lv1 := [(11, .int z13.1), (9, .long z11.1), (0, .ref 215), (1, .int p0), (2, .int p1), (3, .int p2), (4, .long p3), (6, .int p4), (7, .int p5), (8, .int p6)]) (st1 := [.int p2, .int z13.1, .ref 449]) (fun _ _ _ => rfl) ?_
                    refine jg_ias rfl kc_449 (fun g19 S20 _ => ?_)
                    refine jg_sg 1 (pc1 := 148) (lv1 := [(11, .int z13.1), (9, .long z11.1), (0, .ref 215), (1, .int p0), (2, .int p1), (3, .int p2), (4, .long p3), (6, .int p4), (7, .int p5), (8, .int p6)]) (st1 := [.int z13.1]) (fun _ _ _ => rfl) ?_
                    exact jg_ri rfl rfl rfl rfl
                  · refine jg_sg 2 (pc1 := 118) (lv1 := [(11, .int z13.1), (9, .long z11.1), (0, .ref 215), (1, .int p0), (2, .int p1), (3, .int p2), (4, .long p3), (6, .int p4), (7, .int p5), (8, .int p6)]) (st1 := [.int 4, .ref 215]) (fun _ _ _ => rfl) ?_
                    refine jg_csI (m2 := jp_M_fail) (As := [.ref 215, .int 4]) (r := []) (mx := 2) (jh_v (a := 215) rfl rfl rfl kc_215 rfl (Nat.le_of_ble_eq_true rfl) rfl rfl rfl (by omega) (by omega) (Nat.le_of_ble_eq_true rfl)) (kF_M_fail 4 z13.2 _ _ (by omega) (by omega) ) (fun z21 => ?_)
                    exact jg_ri rfl rfl rfl rfl
                · refine jg_sg 2 (pc1 := 89) (lv1 := [(9, .long z11.1), (0, .ref 215), (1, .int p0), (2, .int p1), (3, .int p2), (4, .long p3), (6, .int p4), (7, .int p5), (8, .int p6)]) (st1 := [.int 3, .ref 215]) (fun _ _ _ => rfl) ?_
                  refine jg_csI (m2 := jp_M_fail) (As := [.ref 215, .int 3]) (r := []) (mx := 2) (jh_v (a := 215) rfl rfl rfl kc_215 rfl (Nat.le_of_ble_eq_true rfl) rfl rfl rfl (by omega) (by omega) (Nat.le_of_ble_eq_true rfl)) (kF_M_fail 3 z11.2 _ _ (by omega) (by omega) ) (fun z22 => ?_)
                  exact jg_ri rfl rfl rfl rfl
              · refine jg_sg 2 (pc1 := 63) (lv1 := [(0, .ref 215), (1, .int p0), (2, .int p1), (3, .int p2), (4, .long p3), (6, .int p4), (7, .int p5), (8, .int p6)]) (st1 := [.int 2, .ref 215]) (fun _ _ _ => rfl) ?_
                refine jg_csI (m2 := jp_M_fail) (As := [.ref 215, .int 2]) (r := []) (mx := 2) (jh_v (a := 215) rfl rfl rfl kc_215 rfl (Nat.le_of_ble_eq_true rfl) rfl rfl rfl (by omega) (by omega) (Nat.le_of_ble_eq_true rfl)) (kF_M_fail 2 S1 _ _ (by omega) (by omega) ) (fun z23 => ?_)
                exact jg_ri rfl rfl rfl rfl
            · refine jg_lvs (lv1 := [(0, .ref 215)]) rfl rfl ⟨rfl, trivial⟩ ?_
              exact kJ_M_makeCron_48 (by omega) (by omega) S1
  · refine jg_lvs (lv1 := [(0, .ref 215)]) rfl rfl ⟨rfl, trivial⟩ ?_
    exact kJ_M_makeCron_48 (by omega) (by omega) S1
noncomputable def F_M_none (p0 : Int32) (S : jS) : Option Int32 := if p0 < 0 then (some 1) else (if 99 < p0 then (some 1) else (j_q (j_in p0 100) (if (S.1 436 ((p0 : Int32).toNatClampNeg)) = 0 then (some 1) else (some 0))))
set_option maxRecDepth 20000 in
theorem kF_M_none {q : Nat} (p0 : Int32) (S : jS) (rF rL : Nat) (hF : 0 ≤ rF) (hL : 0 ≤ rL)  : jg q jp_M_none rF rL 0 [(0, .ref 215), (1, .int p0)] [] S 0 (p_I S) (F_M_none p0 S) := by
  unfold F_M_none
  refine jg_sg 1 (pc1 := 1) (lv1 := [(0, .ref 215), (1, .int p0)]) (st1 := [.int p0]) (fun _ _ _ => rfl) ?_
  refine jg_br (fun _ _ _ _ k1 k2 => jt_if_lt (t := 19) rfl rfl k1 k2) (fun c1 => ?_) (fun c1 => ?_)
  · refine jg_sg 2 (pc1 := 24) (lv1 := [(0, .ref 215), (1, .int p0)]) (st1 := [.int 1]) (fun _ _ _ => rfl) ?_
    exact jg_ri rfl rfl rfl rfl
  · refine jg_sg 2 (pc1 := 7) (lv1 := [(0, .ref 215), (1, .int p0)]) (st1 := [.int 99, .int p0]) (fun _ _ _ => rfl) ?_
    refine jg_br (fun _ _ _ _ k1 k2 => jt_icmp_gt (t := 19) rfl rfl k1 k2) (fun c2 => ?_) (fun c2 => ?_)
    · refine jg_sg 2 (pc1 := 24) (lv1 := [(0, .ref 215), (1, .int p0)]) (st1 := [.int 1]) (fun _ _ _ => rfl) ?_
      exact jg_ri rfl rfl rfl rfl
    · refine jg_sg 1 (pc1 := 11) (lv1 := [(0, .ref 215), (1, .int p0)]) (st1 := [.ref 215]) (fun _ _ _ => rfl) ?_
      refine jg_g (v := .ref 436) rfl kc_215 rfl rfl ?_
      refine jg_sg 1 (pc1 := 15) (lv1 := [(0, .ref 215), (1, .int p0)]) (st1 := [.int p0, .ref 436]) (fun _ _ _ => rfl) ?_
      refine jg_ial rfl kc_436 (fun g3 => ?_)
      refine jg_br (fun _ _ _ _ k1 k2 => jt_if_ne (t := 23) rfl rfl k2 k1) (fun c4 => ?_) (fun c4 => ?_)
      · refine jg_sg 2 (pc1 := 24) (lv1 := [(0, .ref 215), (1, .int p0)]) (st1 := [.int 1]) (fun _ _ _ => rfl) ?_
        exact jg_ri rfl rfl rfl rfl
      · refine jg_sg 1 (pc1 := 24) (lv1 := [(0, .ref 215), (1, .int p0)]) (st1 := [.int 0]) (fun _ _ _ => rfl) ?_
        exact jg_ri rfl rfl rfl rfl
noncomputable def J_M_cancel_41 (x2 : Int32) (y0 : Int32) (y1 : Int32) (S : jS) : Option (Int32 × jS) := j_q (j_in y1 100) (j_l (w_i S 436 ((y1 : Int32).toNatClampNeg) y0) (fun S8 => if x2 = 1 then (some (1, S8)) else (some (2, S8))))
set_option maxRecDepth 20000 in
theorem kJ_M_cancel_41 {q rF rL : Nat} (hF : 1 ≤ rF) (hL : 21 ≤ rL)   (x2 : Int32) (y0 : Int32) (y1 : Int32) (S : jS) : jg q jp_M_cancel rF rL 41 [(2, .int x2)] [.int y0, .int y1, .ref 436] S 0 s_I (J_M_cancel_41 x2 y0 y1 S) := by
  unfold J_M_cancel_41
  refine jg_ias rfl kc_436 (fun g7 S8 _ => ?_)
  refine jg_sg 2 (pc1 := 44) (lv1 := [(2, .int x2)]) (st1 := [.int 1, .int x2]) (fun _ _ _ => rfl) ?_
  refine jg_br (fun _ _ _ _ k1 k2 => jt_icmp_ne (t := 51) rfl rfl k2 k1) (fun c9 => ?_) (fun c9 => ?_)
  · refine jg_sg 2 (pc1 := 52) (lv1 := [(2, .int x2)]) (st1 := [.int 1]) (fun _ _ _ => rfl) ?_
    exact jg_ri rfl rfl rfl rfl
  · refine jg_sg 1 (pc1 := 52) (lv1 := [(2, .int x2)]) (st1 := [.int 2]) (fun _ _ _ => rfl) ?_
    exact jg_ri rfl rfl rfl rfl
noncomputable def F_M_cancel (p0 : Int32) (S : jS) : Option (Int32 × jS) := j_l (w_i S 215 0 0) (fun S1 => (F_M_none p0 S1).bind (fun z2 => if z2 = 0 then (j_q (j_in p0 100) (j_l (S1.1 436 ((p0 : Int32).toNatClampNeg) : Int32) (fun v5 => if v5 = 1 then (J_M_cancel_41 v5 0 p0 S1) else (J_M_cancel_41 v5 3 p0 S1)))) else ((F_M_fail 1 S1).bind (fun z10 => some (z10.1, z10.2)))))
set_option maxRecDepth 20000 in
theorem kF_M_cancel {q : Nat} (p0 : Int32) (S : jS) (rF rL : Nat) (hF : 1 ≤ rF) (hL : 21 ≤ rL)  : jg q jp_M_cancel rF rL 0 [(0, .ref 215), (1, .int p0)] [] S 0 s_I (F_M_cancel p0 S) := by
  unfold F_M_cancel
  refine jg_sg 2 (pc1 := 2) (lv1 := [(0, .ref 215), (1, .int p0)]) (st1 := [.int 0, .ref 215]) (fun _ _ _ => rfl) ?_
  refine jg_pi rfl kc_215 rfl (Nat.le_of_ble_eq_true rfl) rfl rfl (fun S1 _ => ?_)
  refine jg_sg 2 (pc1 := 7) (lv1 := [(0, .ref 215), (1, .int p0)]) (st1 := [.int p0, .ref 215]) (fun _ _ _ => rfl) ?_
  refine jg_cpI (m2 := jp_M_none) (As := [.ref 215, .int p0]) (r := []) (mx := 2) (jh_v (a := 215) rfl rfl rfl kc_215 rfl (Nat.le_of_ble_eq_true rfl) rfl rfl rfl (by omega) (by omega) (Nat.le_of_ble_eq_true rfl)) (kF_M_none p0 S1 _ _ (by omega) (by omega) ) (fun z2 => ?_)
  refine jg_br (fun _ _ _ _ k1 k2 => jt_if_eq (t := 19) rfl rfl k1 k2) (fun c3 => ?_) (fun c3 => ?_)
  · refine jg_sg 1 (pc1 := 20) (lv1 := [(0, .ref 215), (1, .int p0)]) (st1 := [.ref 215]) (fun _ _ _ => rfl) ?_
    refine jg_g (v := .ref 436) rfl kc_215 rfl rfl ?_
    refine jg_sg 1 (pc1 := 24) (lv1 := [(0, .ref 215), (1, .int p0)]) (st1 := [.int p0, .ref 436]) (fun _ _ _ => rfl) ?_
    refine jg_ial rfl kc_436 (fun g4 => ?_)
    refine jg_sg 1 (pc1 := 26) (lv1 := [(2, .int (S1.1 436 ((p0 : Int32).toNatClampNeg))), (0, .ref 215), (1, .int p0)]) (st1 := []) (fun _ _ _ => rfl) ?_
    refine jg_vi (fun v5 => ?_)
    refine jg_sg 1 (pc1 := 27) (lv1 := [(2, .int v5), (0, .ref 215), (1, .int p0)]) (st1 := [.ref 215]) (fun _ _ _ => rfl) ?_
    refine jg_g (v := .ref 436) rfl kc_215 rfl rfl ?_
    refine jg_sg 3 (pc1 := 33) (lv1 := [(2, .int v5), (0, .ref 215), (1, .int p0)]) (st1 := [.int 1, .int v5, .int p0, .ref 436]) (fun _ _ _ => rfl) ?_
    refine jg_br (fun _ _ _ _ k1 k2 => jt_icmp_ne (t := 40) rfl rfl k2 k1) (fun c6 => ?_) (fun c6 => ?_)
    · refine jg_sg 2 (pc1 := 41) (lv1 := [(2, .int v5), (0, .ref 215), (1, .int p0)]) (st1 := [.int 0, .int p0, .ref 436]) (fun _ _ _ => rfl) ?_
      refine jg_lvs (lv1 := [(2, .int v5)]) rfl rfl ⟨rfl, trivial⟩ ?_
      exact kJ_M_cancel_41 (by omega) (by omega) v5 0 p0 S1
    · refine jg_sg 1 (pc1 := 41) (lv1 := [(2, .int v5), (0, .ref 215), (1, .int p0)]) (st1 := [.int 3, .int p0, .ref 436]) (fun _ _ _ => rfl) ?_
      refine jg_lvs (lv1 := [(2, .int v5)]) rfl rfl ⟨rfl, trivial⟩ ?_
      exact kJ_M_cancel_41 (by omega) (by omega) v5 3 p0 S1
  · refine jg_sg 2 (pc1 := 15) (lv1 := [(0, .ref 215), (1, .int p0)]) (st1 := [.int 1, .ref 215]) (fun _ _ _ => rfl) ?_
    refine jg_csI (m2 := jp_M_fail) (As := [.ref 215, .int 1]) (r := []) (mx := 2) (jh_v (a := 215) rfl rfl rfl kc_215 rfl (Nat.le_of_ble_eq_true rfl) rfl rfl rfl (by omega) (by omega) (Nat.le_of_ble_eq_true rfl)) (kF_M_fail 1 S1 _ _ (by omega) (by omega) ) (fun z10 => ?_)
    exact jg_ri rfl rfl rfl rfl
noncomputable def J_M_workers_15 (S : jS) : Option (Int32 × jS) := (F_M_fail 1 S).bind (fun z3 => some (z3.1, z3.2))
set_option maxRecDepth 20000 in
theorem kJ_M_workers_15 {q rF rL : Nat} (hF : 1 ≤ rF) (hL : 21 ≤ rL)   (S : jS) : jg q jp_M_workers rF rL 15 [(0, .ref 215)] [] S 0 s_I (J_M_workers_15 S) := by
  unfold J_M_workers_15
  refine jg_sg 2 (pc1 := 17) (lv1 := [(0, .ref 215)]) (st1 := [.int 1, .ref 215]) (fun _ _ _ => rfl) ?_
  refine jg_csI (m2 := jp_M_fail) (As := [.ref 215, .int 1]) (r := []) (mx := 2) (jh_v (a := 215) rfl rfl rfl kc_215 rfl (Nat.le_of_ble_eq_true rfl) rfl rfl rfl (by omega) (by omega) (Nat.le_of_ble_eq_true rfl)) (kF_M_fail 1 S _ _ (by omega) (by omega) ) (fun z3 => ?_)
  exact jg_ri rfl rfl rfl rfl
noncomputable def F_M_workers (p0 : Int32) (S : jS) : Option (Int32 × jS) := j_l (w_i S 215 0 0) (fun S1 => if p0 < 0 then (J_M_workers_15 S1) else (if p0 ≤ 8 then (j_l (S1.1 215 42 : Int32) (fun v5 => j_l (w_i S1 215 42 p0) (fun S6 => some (v5, S6)))) else (J_M_workers_15 S1)))
set_option maxRecDepth 20000 in
theorem kF_M_workers {q : Nat} (p0 : Int32) (S : jS) (rF rL : Nat) (hF : 1 ≤ rF) (hL : 21 ≤ rL)  : jg q jp_M_workers rF rL 0 [(0, .ref 215), (1, .int p0)] [] S 0 s_I (F_M_workers p0 S) := by
  unfold F_M_workers
  refine jg_sg 2 (pc1 := 2) (lv1 := [(0, .ref 215), (1, .int p0)]) (st1 := [.int 0, .ref 215]) (fun _ _ _ => rfl) ?_
  refine jg_pi rfl kc_215 rfl (Nat.le_of_ble_eq_true rfl) rfl rfl (fun S1 _ => ?_)
  refine jg_sg 1 (pc1 := 6) (lv1 := [(0, .ref 215), (1, .int p0)]) (st1 := [.int p0]) (fun _ _ _ => rfl) ?_
  refine jg_br (fun _ _ _ _ k1 k2 => jt_if_lt (t := 15) rfl rfl k1 k2) (fun c2 => ?_) (fun c2 => ?_)
  · refine jg_lvs (lv1 := [(0, .ref 215)]) rfl rfl ⟨rfl, trivial⟩ ?_
    exact kJ_M_workers_15 (by omega) (by omega) S1
  · refine jg_sg 2 (pc1 := 12) (lv1 := [(0, .ref 215), (1, .int p0)]) (st1 := [.int 8, .int p0]) (fun _ _ _ => rfl) ?_
    refine jg_br (fun _ _ _ _ k1 k2 => jt_icmp_le (t := 21) rfl rfl k1 k2) (fun c4 => ?_) (fun c4 => ?_)
    · refine jg_sg 1 (pc1 := 22) (lv1 := [(0, .ref 215), (1, .int p0)]) (st1 := [.ref 215]) (fun _ _ _ => rfl) ?_
      refine jg_g (v := .int (S1.1 215 42)) rfl kc_215 rfl rfl ?_
      refine jg_sg 1 (pc1 := 26) (lv1 := [(2, .int (S1.1 215 42)), (0, .ref 215), (1, .int p0)]) (st1 := []) (fun _ _ _ => rfl) ?_
      refine jg_vi (fun v5 => ?_)
      refine jg_sg 2 (pc1 := 28) (lv1 := [(2, .int v5), (0, .ref 215), (1, .int p0)]) (st1 := [.int p0, .ref 215]) (fun _ _ _ => rfl) ?_
      refine jg_pi rfl kc_215 rfl (Nat.le_of_ble_eq_true rfl) rfl rfl (fun S6 _ => ?_)
      refine jg_sg 1 (pc1 := 32) (lv1 := [(2, .int v5), (0, .ref 215), (1, .int p0)]) (st1 := [.int v5]) (fun _ _ _ => rfl) ?_
      exact jg_ri rfl rfl rfl rfl
    · refine jg_lvs (lv1 := [(0, .ref 215)]) rfl rfl ⟨rfl, trivial⟩ ?_
      exact kJ_M_workers_15 (by omega) (by omega) S1
noncomputable def J_M_running_26 (kt4 : Int32 → Int32 → Option Int32) (S : jS) (x2 : Int32) (y0 : Int32) (y1 : Int32) : Option Int32 := j_l (y1 + y0 : Int32) (fun v4 => kt4 v4 (x2 + 1))
set_option maxRecDepth 20000 in
theorem kJ_M_running_26 {q rF rL : Nat} (hF : 0 ≤ rF) (hL : 0 ≤ rL) (S : jS) (kt4 : Int32 → Int32 → Option Int32) (ih4 : ∀ (x1 : Int32) (x2 : Int32), jg q jp_M_running rF rL 4 [(0, .ref 215), (1, .int x1), (2, .int x2)] [] S 0 (p_I S) (kt4 x1 x2)) (x2 : Int32) (y0 : Int32) (y1 : Int32) : jg q jp_M_running rF rL 26 [(0, .ref 215), (2, .int x2)] [.int y0, .int y1] S 0 (p_I S) (J_M_running_26 kt4 S x2 y0 y1) := by
  unfold J_M_running_26
  refine jg_sg 2 (pc1 := 28) (lv1 := [(1, .int (y1 + y0)), (0, .ref 215), (2, .int x2)]) (st1 := []) (fun _ _ _ => rfl) ?_
  refine jg_vi (fun v4 => ?_)
  refine jg_sg 2 (pc1 := 4) (lv1 := [(2, .int (x2 + 1)), (1, .int v4), (0, .ref 215)]) (st1 := []) (fun _ _ _ => rfl) ?_
  refine jg_lvs (lv1 := [(0, .ref 215), (1, .int v4), (2, .int (x2 + 1))]) rfl rfl ⟨rfl, rfl, rfl, trivial⟩ ?_
  exact ih4 v4 (x2 + 1)
noncomputable def L_M_running_4 (S : jS) : Nat → Int32 → Int32 → Option Int32
  | 0, _, _ => none
  | f + 1, x1, x2 => if 100 ≤ x2 then (some x1) else (j_q (j_in x2 100) (if (S.1 436 ((x2 : Int32).toNatClampNeg)) ≤ 1 then (J_M_running_26 (L_M_running_4 S f) S x2 0 x1) else (J_M_running_26 (L_M_running_4 S f) S x2 1 x1)))
set_option maxRecDepth 20000 in
theorem kL_M_running_4 {q rF rL : Nat} (hF : 0 ≤ rF) (hL : 0 ≤ rL) (S : jS)  : ∀ (f : Nat) (x1 : Int32) (x2 : Int32), jg q jp_M_running rF rL 4 [(0, .ref 215), (1, .int x1), (2, .int x2)] [] S 0 (p_I S) (L_M_running_4 S f x1 x2) := by
  intro f
  induction f with
  | zero => intro _ _; exact jg_none
  | succ f ih4 =>
    intro x1 x2
    rw [L_M_running_4]
    refine jg_sg 2 (pc1 := 7) (lv1 := [(0, .ref 215), (1, .int x1), (2, .int x2)]) (st1 := [.int 100, .int x2]) (fun _ _ _ => rfl) ?_
    refine jg_br (fun _ _ _ _ k1 k2 => jt_icmp_ge (t := 34) rfl rfl k1 k2) (fun c1 => ?_) (fun c1 => ?_)
    · refine jg_sg 1 (pc1 := 35) (lv1 := [(0, .ref 215), (1, .int x1), (2, .int x2)]) (st1 := [.int x1]) (fun _ _ _ => rfl) ?_
      exact jg_ri rfl rfl rfl rfl
    · refine jg_sg 2 (pc1 := 12) (lv1 := [(0, .ref 215), (1, .int x1), (2, .int x2)]) (st1 := [.ref 215, .int x1]) (fun _ _ _ => rfl) ?_
      refine jg_g (v := .ref 436) rfl kc_215 rfl rfl ?_
      refine jg_sg 1 (pc1 := 16) (lv1 := [(0, .ref 215), (1, .int x1), (2, .int x2)]) (st1 := [.int x2, .ref 436, .int x1]) (fun _ _ _ => rfl) ?_
      refine jg_ial rfl kc_436 (fun g2 => ?_)
      refine jg_sg 1 (pc1 := 18) (lv1 := [(0, .ref 215), (1, .int x1), (2, .int x2)]) (st1 := [.int 1, .int (S.1 436 ((x2 : Int32).toNatClampNeg)), .int x1]) (fun _ _ _ => rfl) ?_
      refine jg_br (fun _ _ _ _ k1 k2 => jt_icmp_le (t := 25) rfl rfl k1 k2) (fun c3 => ?_) (fun c3 => ?_)
      · refine jg_sg 1 (pc1 := 26) (lv1 := [(0, .ref 215), (1, .int x1), (2, .int x2)]) (st1 := [.int 0, .int x1]) (fun _ _ _ => rfl) ?_
        refine jg_lvs (lv1 := [(0, .ref 215), (2, .int x2)]) rfl rfl ⟨rfl, rfl, trivial⟩ ?_
        exact kJ_M_running_26 (by omega) (by omega) S (L_M_running_4 S f) ih4 x2 0 x1
      · refine jg_sg 2 (pc1 := 26) (lv1 := [(0, .ref 215), (1, .int x1), (2, .int x2)]) (st1 := [.int 1, .int x1]) (fun _ _ _ => rfl) ?_
        refine jg_lvs (lv1 := [(0, .ref 215), (2, .int x2)]) rfl rfl ⟨rfl, rfl, trivial⟩ ?_
        exact kJ_M_running_26 (by omega) (by omega) S (L_M_running_4 S f) ih4 x2 1 x1
noncomputable def F_M_running  (S : jS) : Option Int32 := L_M_running_4 S ju_ 0 0
set_option maxRecDepth 20000 in
theorem kF_M_running {q : Nat}  (S : jS) (rF rL : Nat) (hF : 0 ≤ rF) (hL : 0 ≤ rL)  : jg q jp_M_running rF rL 0 [(0, .ref 215)] [] S 0 (p_I S) (F_M_running S) := by
  unfold F_M_running
  refine jg_sg 4 (pc1 := 4) (lv1 := [(2, .int 0), (1, .int 0), (0, .ref 215)]) (st1 := []) (fun _ _ _ => rfl) ?_
  refine jg_lvs (lv1 := [(0, .ref 215), (1, .int 0), (2, .int 0)]) rfl rfl ⟨rfl, rfl, rfl, trivial⟩ ?_
  exact kL_M_running_4 (by omega) (by omega) S ju_ 0 0
end JF15
