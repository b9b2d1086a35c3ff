section JF8
noncomputable def F_L_add (p0 : Int64) (p1 : Int32) (p2 : Int64) (S : jS) : Option jS := if 500 ≤ (S.1 47 3) then (some S) else (j_q (j_in (S.1 47 3) 500) (j_l (w_l S 48 ((S.1 47 3 : Int32).toNatClampNeg) p0) (fun S3 => j_q (j_in (S3.1 47 3) 500) (j_l (w_i S3 49 ((S3.1 47 3 : Int32).toNatClampNeg) p1) (fun S5 => j_q (j_in (S5.1 47 3) 500) (j_l (w_l S5 50 ((S5.1 47 3 : Int32).toNatClampNeg) p2) (fun S7 => j_l (w_i S7 47 3 ((S7.1 47 3) + 1)) (fun S8 => j_l (w_l S8 47 4 ((S8.2.1 47 4) + 1)) (fun S9 => some S9)))))))))
set_option maxRecDepth 20000 in
theorem kF_L_add {q : Nat} (p0 : Int64) (p1 : Int32) (p2 : Int64) (S : jS) (rF rL : Nat) (hF : 0 ≤ rF) (hL : 0 ≤ rL)  : jg q jp_L_add rF rL 0 [(0, .ref 47), (1, .long p0), (3, .int p1), (4, .long p2)] [] S 0 s_V (F_L_add p0 p1 p2 S) := by
  unfold F_L_add
  refine jg_sg 1 (pc1 := 1) (lv1 := [(0, .ref 47), (1, .long p0), (3, .int p1), (4, .long p2)]) (st1 := [.ref 47]) (fun _ _ _ => rfl) ?_
  refine jg_g (v := .int (S.1 47 3)) rfl kc_47 rfl rfl ?_
  refine jg_sg 1 (pc1 := 7) (lv1 := [(0, .ref 47), (1, .long p0), (3, .int p1), (4, .long p2)]) (st1 := [.int 500, .int (S.1 47 3)]) (fun _ _ _ => rfl) ?_
  refine jg_br (fun _ _ _ _ k1 k2 => jt_icmp_ge (t := 61) rfl rfl k1 k2) (fun c1 => ?_) (fun c1 => ?_)
  · exact jg_rv rfl rfl rfl
  · refine jg_sg 1 (pc1 := 11) (lv1 := [(0, .ref 47), (1, .long p0), (3, .int p1), (4, .long p2)]) (st1 := [.ref 47]) (fun _ _ _ => rfl) ?_
    refine jg_g (v := .ref 48) rfl kc_47 rfl rfl ?_
    refine jg_sg 1 (pc1 := 15) (lv1 := [(0, .ref 47), (1, .long p0), (3, .int p1), (4, .long p2)]) (st1 := [.ref 47, .ref 48]) (fun _ _ _ => rfl) ?_
    refine jg_g (v := .int (S.1 47 3)) rfl kc_47 rfl rfl ?_
    refine jg_sg 1 (pc1 := 19) (lv1 := [(0, .ref 47), (1, .long p0), (3, .int p1), (4, .long p2)]) (st1 := [.long p0, .int (S.1 47 3), .ref 48]) (fun _ _ _ => rfl) ?_
    refine jg_las rfl kc_48 (fun g2 S3 _ => ?_)
    refine jg_sg 1 (pc1 := 21) (lv1 := [(0, .ref 47), (1, .long p0), (3, .int p1), (4, .long p2)]) (st1 := [.ref 47]) (fun _ _ _ => rfl) ?_
    refine jg_g (v := .ref 49) rfl kc_47 rfl rfl ?_
    refine jg_sg 1 (pc1 := 25) (lv1 := [(0, .ref 47), (1, .long p0), (3, .int p1), (4, .long p2)]) (st1 := [.ref 47, .ref 49]) (fun _ _ _ => rfl) ?_
    refine jg_g (v := .int (S3.1 47 3)) rfl kc_47 rfl rfl ?_
    refine jg_sg 1 (pc1 := 29) (lv1 := [(0, .ref 47), (1, .long p0), (3, .int p1), (4, .long p2)]) (st1 := [.int p1, .int (S3.1 47 3), .ref 49]) (fun _ _ _ => rfl) ?_
    refine jg_ias rfl kc_49 (fun g4 S5 _ => ?_)
    refine jg_sg 1 (pc1 := 31) (lv1 := [(0, .ref 47), (1, .long p0), (3, .int p1), (4, .long p2)]) (st1 := [.ref 47]) (fun _ _ _ => rfl) ?_
    refine jg_g (v := .ref 50) rfl kc_47 rfl rfl ?_
    refine jg_sg 1 (pc1 := 35) (lv1 := [(0, .ref 47), (1, .long p0), (3, .int p1), (4, .long p2)]) (st1 := [.ref 47, .ref 50]) (fun _ _ _ => rfl) ?_
    refine jg_g (v := .int (S5.1 47 3)) rfl kc_47 rfl rfl ?_
    refine jg_sg 1 (pc1 := 40) (lv1 := [(0, .ref 47), (1, .long p0), (3, .int p1), (4, .long p2)]) (st1 := [.long p2, .int (S5.1 47 3), .ref 50]) (fun _ _ _ => rfl) ?_
    refine jg_las rfl kc_50 (fun g6 S7 _ => ?_)
    refine jg_sg 2 (pc1 := 43) (lv1 := [(0, .ref 47), (1, .long p0), (3, .int p1), (4, .long p2)]) (st1 := [.ref 47, .ref 47]) (fun _ _ _ => rfl) ?_
    refine jg_g (v := .int (S7.1 47 3)) rfl kc_47 rfl rfl ?_
    refine jg_sg 2 (pc1 := 48) (lv1 := [(0, .ref 47), (1, .long p0), (3, .int p1), (4, .long p2)]) (st1 := [.int ((S7.1 47 3) + 1), .ref 47]) (fun _ _ _ => rfl) ?_
    refine jg_pi rfl kc_47 rfl (Nat.le_of_ble_eq_true rfl) rfl rfl (fun S8 _ => ?_)
    refine jg_sg 2 (pc1 := 53) (lv1 := [(0, .ref 47), (1, .long p0), (3, .int p1), (4, .long p2)]) (st1 := [.ref 47, .ref 47]) (fun _ _ _ => rfl) ?_
    refine jg_g (v := .long (S8.2.1 47 4)) rfl kc_47 rfl rfl ?_
    refine jg_sg 2 (pc1 := 58) (lv1 := [(0, .ref 47), (1, .long p0), (3, .int p1), (4, .long p2)]) (st1 := [.long ((S8.2.1 47 4) + 1), .ref 47]) (fun _ _ _ => rfl) ?_
    refine jg_pl rfl kc_47 rfl (Nat.le_of_ble_eq_true rfl) rfl rfl (fun S9 _ => ?_)
    exact jg_rv rfl rfl rfl
noncomputable def J_J_begin_64 (x1 : Int32) (x2 : Nat) (S : jS) : Option jS := (F_L_add (S.2.1 24 8) x1 (S.2.1 x2 4) S).bind (fun z7 => some z7)
set_option maxRecDepth 20000 in
theorem kJ_J_begin_64 {q rF rL : Nat} (hF : 1 ≤ rF) (hL : 25 ≤ rL)   (x1 : Int32) (x2 : Nat) (S : jS) (hx2 : jb_ x2 = true) : jg q jp_J_begin rF rL 64 [(0, .ref 24), (1, .int x1), (2, .ref x2)] [] S 0 s_V (J_J_begin_64 x1 x2 S) := by
  unfold J_J_begin_64
  refine jg_sg 1 (pc1 := 65) (lv1 := [(0, .ref 24), (1, .int x1), (2, .ref x2)]) (st1 := [.ref 24]) (fun _ _ _ => rfl) ?_
  refine jg_g (v := .ref 47) rfl kc_24 rfl rfl ?_
  refine jg_sg 1 (pc1 := 69) (lv1 := [(0, .ref 24), (1, .int x1), (2, .ref x2)]) (st1 := [.ref 24, .ref 47]) (fun _ _ _ => rfl) ?_
  refine jg_g (v := .long (S.2.1 24 8)) rfl kc_24 rfl rfl ?_
  refine jg_sg 2 (pc1 := 74) (lv1 := [(0, .ref 24), (1, .int x1), (2, .ref x2)]) (st1 := [.ref x2, .int x1, .long (S.2.1 24 8), .ref 47]) (fun _ _ _ => rfl) ?_
  refine jg_g (v := .long (S.2.1 x2 4)) rfl (kc_B hx2) rfl rfl ?_
  refine jg_csV (m2 := jp_L_add) (As := [.ref 47, .long (S.2.1 24 8), .int x1, .long (S.2.1 x2 4)]) (r := []) (mx := 6) (jh_v (a := 47) rfl rfl rfl kc_47 rfl (Nat.le_of_ble_eq_true rfl) rfl rfl rfl (by omega) (by omega) (Nat.le_of_ble_eq_true rfl)) (kF_L_add (S.2.1 24 8) x1 (S.2.1 x2 4) S _ _ (by omega) (by omega) ) (fun z7 => ?_)
  exact jg_rv rfl rfl rfl
noncomputable def F_J_begin (p0 : Int32) (S : jS) : Option jS := j_q (j_in p0 100) (j_l (115 + ((p0 : Int32).toNatClampNeg) : Nat) (fun b2 => j_l (w_i S b2 0 2) (fun S3 => j_l (w_i S3 b2 3 ((S3.1 b2 3) + 1)) (fun S4 => j_l (w_l S4 b2 5 ((S4.2.1 24 8) + (S4.2.1 b2 7))) (fun S5 => if 8 ≤ (S5.1 24 14) then (J_J_begin_64 p0 b2 S5) else (j_q (j_in (S5.1 24 14) 8) (j_l (w_i S5 46 ((S5.1 24 14 : Int32).toNatClampNeg) p0) (fun S9 => j_l (w_i S9 24 14 ((S9.1 24 14) + 1)) (fun S10 => J_J_begin_64 p0 b2 S10)))))))))
set_option maxRecDepth 20000 in
theorem kF_J_begin {q : Nat} (p0 : Int32) (S : jS) (rF rL : Nat) (hF : 1 ≤ rF) (hL : 25 ≤ rL)  : jg q jp_J_begin rF rL 0 [(0, .ref 24), (1, .int p0)] [] S 0 s_V (F_J_begin p0 S) := by
  unfold F_J_begin
  refine jg_sg 1 (pc1 := 1) (lv1 := [(0, .ref 24), (1, .int p0)]) (st1 := [.ref 24]) (fun _ _ _ => rfl) ?_
  refine jg_g (v := .ref 45) rfl kc_24 rfl rfl ?_
  refine jg_sg 1 (pc1 := 5) (lv1 := [(0, .ref 24), (1, .int p0)]) (st1 := [.int p0, .ref 45]) (fun _ _ _ => rfl) ?_
  refine jg_aal (w := 115 + ((p0 : Int32).toNatClampNeg)) rfl rfl kc_45 rfl (fun g1 => ?_)
  refine jg_sg 1 (pc1 := 7) (lv1 := [(2, .ref (115 + ((p0 : Int32).toNatClampNeg))), (0, .ref 24), (1, .int p0)]) (st1 := []) (fun _ _ _ => rfl) ?_
  refine jg_va (P := fun b => jb_ b = true) ((jb_m g1)) (fun b2 hb2 => ?_)
  refine jg_sg 2 (pc1 := 9) (lv1 := [(2, .ref b2), (0, .ref 24), (1, .int p0)]) (st1 := [.int 2, .ref b2]) (fun _ _ _ => rfl) ?_
  refine jg_pi rfl (kc_B hb2) rfl (Nat.le_of_ble_eq_true rfl) rfl rfl (fun S3 _ => ?_)
  refine jg_sg 2 (pc1 := 14) (lv1 := [(2, .ref b2), (0, .ref 24), (1, .int p0)]) (st1 := [.ref b2, .ref b2]) (fun _ _ _ => rfl) ?_
  refine jg_g (v := .int (S3.1 b2 3)) rfl (kc_B hb2) rfl rfl ?_
  refine jg_sg 2 (pc1 := 19) (lv1 := [(2, .ref b2), (0, .ref 24), (1, .int p0)]) (st1 := [.int ((S3.1 b2 3) + 1), .ref b2]) (fun _ _ _ => rfl) ?_
  refine jg_pi rfl (kc_B hb2) rfl (Nat.le_of_ble_eq_true rfl) rfl rfl (fun S4 _ => ?_)
  refine jg_sg 2 (pc1 := 24) (lv1 := [(2, .ref b2), (0, .ref 24), (1, .int p0)]) (st1 := [.ref 24, .ref b2]) (fun _ _ _ => rfl) ?_
  refine jg_g (v := .long (S4.2.1 24 8)) rfl kc_24 rfl rfl ?_
  refine jg_sg 1 (pc1 := 28) (lv1 := [(2, .ref b2), (0, .ref 24), (1, .int p0)]) (st1 := [.ref b2, .long (S4.2.1 24 8), .ref b2]) (fun _ _ _ => rfl) ?_
  refine jg_g (v := .long (S4.2.1 b2 7)) rfl (kc_B hb2) rfl rfl ?_
  refine jg_sg 1 (pc1 := 32) (lv1 := [(2, .ref b2), (0, .ref 24), (1, .int p0)]) (st1 := [.long ((S4.2.1 24 8) + (S4.2.1 b2 7)), .ref b2]) (fun _ _ _ => rfl) ?_
  refine jg_pl rfl (kc_B hb2) rfl (Nat.le_of_ble_eq_true rfl) rfl rfl (fun S5 _ => ?_)
  refine jg_sg 1 (pc1 := 36) (lv1 := [(2, .ref b2), (0, .ref 24), (1, .int p0)]) (st1 := [.ref 24]) (fun _ _ _ => rfl) ?_
  refine jg_g (v := .int (S5.1 24 14)) rfl kc_24 rfl rfl ?_
  refine jg_sg 1 (pc1 := 41) (lv1 := [(2, .ref b2), (0, .ref 24), (1, .int p0)]) (st1 := [.int 8, .int (S5.1 24 14)]) (fun _ _ _ => rfl) ?_
  refine jg_br (fun _ _ _ _ k1 k2 => jt_icmp_ge (t := 64) rfl rfl k1 k2) (fun c6 => ?_) (fun c6 => ?_)
  · refine jg_lvs (lv1 := [(0, .ref 24), (1, .int p0), (2, .ref b2)]) rfl rfl ⟨rfl, rfl, rfl, trivial⟩ ?_
    exact kJ_J_begin_64 (by omega) (by omega) p0 b2 S5 hb2
  · refine jg_sg 1 (pc1 := 45) (lv1 := [(2, .ref b2), (0, .ref 24), (1, .int p0)]) (st1 := [.ref 24]) (fun _ _ _ => rfl) ?_
    refine jg_g (v := .ref 46) rfl kc_24 rfl rfl ?_
    refine jg_sg 1 (pc1 := 49) (lv1 := [(2, .ref b2), (0, .ref 24), (1, .int p0)]) (st1 := [.ref 24, .ref 46]) (fun _ _ _ => rfl) ?_
    refine jg_g (v := .int (S5.1 24 14)) rfl kc_24 rfl rfl ?_
    refine jg_sg 1 (pc1 := 53) (lv1 := [(2, .ref b2), (0, .ref 24), (1, .int p0)]) (st1 := [.int p0, .int (S5.1 24 14), .ref 46]) (fun _ _ _ => rfl) ?_
    refine jg_ias rfl kc_46 (fun g8 S9 _ => ?_)
    refine jg_sg 2 (pc1 := 56) (lv1 := [(2, .ref b2), (0, .ref 24), (1, .int p0)]) (st1 := [.ref 24, .ref 24]) (fun _ _ _ => rfl) ?_
    refine jg_g (v := .int (S9.1 24 14)) rfl kc_24 rfl rfl ?_
    refine jg_sg 2 (pc1 := 61) (lv1 := [(2, .ref b2), (0, .ref 24), (1, .int p0)]) (st1 := [.int ((S9.1 24 14) + 1), .ref 24]) (fun _ _ _ => rfl) ?_
    refine jg_pi rfl kc_24 rfl (Nat.le_of_ble_eq_true rfl) rfl rfl (fun S10 _ => ?_)
    refine jg_lvs (lv1 := [(0, .ref 24), (1, .int p0), (2, .ref b2)]) rfl rfl ⟨rfl, rfl, rfl, trivial⟩ ?_
    exact kJ_J_begin_64 (by omega) (by omega) p0 b2 S10 hb2
noncomputable def L_J_nextTime_23 (S : jS) : Nat → Int64 → Int32 → Option Int64
  | 0, _, _ => none
  | f + 1, x2, x4 => if (S.1 24 14) ≤ x4 then (some x2) else (j_q (j_in x4 8) (j_q (j_in (S.1 46 ((x4 : Int32).toNatClampNeg)) 100) ((F_Math_min2 x2 (S.2.1 (115 + ((S.1 46 ((x4 : Int32).toNatClampNeg) : Int32).toNatClampNeg)) 5) S).bind (fun z7 => (L_J_nextTime_23 S f) z7 (x4 + 1)))))
set_option maxRecDepth 20000 in
theorem kL_J_nextTime_23 {q rF rL : Nat} (hF : 1 ≤ rF) (hL : 23 ≤ rL) (S : jS)  : ∀ (f : Nat) (x2 : Int64) (x4 : Int32), jg q jp_J_nextTime rF rL 23 [(0, .ref 24), (2, .long x2), (4, .int x4)] [] S 0 (p_L S) (L_J_nextTime_23 S f x2 x4) := by
  intro f
  induction f with
  | zero => intro _ _; exact jg_none
  | succ f ih23 =>
    intro x2 x4
    rw [L_J_nextTime_23]
    refine jg_sg 2 (pc1 := 26) (lv1 := [(0, .ref 24), (2, .long x2), (4, .int x4)]) (st1 := [.ref 24, .int x4]) (fun _ _ _ => rfl) ?_
    refine jg_g (v := .int (S.1 24 14)) rfl kc_24 rfl rfl ?_
    refine jg_br (fun _ _ _ _ k1 k2 => jt_icmp_ge (t := 58) rfl rfl k1 k2) (fun c4 => ?_) (fun c4 => ?_)
    · refine jg_sg 1 (pc1 := 59) (lv1 := [(0, .ref 24), (2, .long x2), (4, .int x4)]) (st1 := [.long x2]) (fun _ _ _ => rfl) ?_
      exact jg_rl rfl rfl rfl
    · refine jg_sg 2 (pc1 := 34) (lv1 := [(0, .ref 24), (2, .long x2), (4, .int x4)]) (st1 := [.ref 24, .long x2]) (fun _ _ _ => rfl) ?_
      refine jg_g (v := .ref 45) rfl kc_24 rfl rfl ?_
      refine jg_sg 1 (pc1 := 38) (lv1 := [(0, .ref 24), (2, .long x2), (4, .int x4)]) (st1 := [.ref 24, .ref 45, .long x2]) (fun _ _ _ => rfl) ?_
      refine jg_g (v := .ref 46) rfl kc_24 rfl rfl ?_
      refine jg_sg 1 (pc1 := 43) (lv1 := [(0, .ref 24), (2, .long x2), (4, .int x4)]) (st1 := [.int x4, .ref 46, .ref 45, .long x2]) (fun _ _ _ => rfl) ?_
      refine jg_ial rfl kc_46 (fun g5 => ?_)
      refine jg_aal (w := 115 + ((S.1 46 ((x4 : Int32).toNatClampNeg) : Int32).toNatClampNeg)) rfl rfl kc_45 rfl (fun g6 => ?_)
      refine jg_g (v := .long (S.2.1 (115 + ((S.1 46 ((x4 : Int32).toNatClampNeg) : Int32).toNatClampNeg)) 5)) rfl (kc_B (jb_m g6)) rfl rfl ?_
      refine jg_cpL (m2 := jp_Math_min2) (As := [.long x2, .long (S.2.1 (115 + ((S.1 46 ((x4 : Int32).toNatClampNeg) : Int32).toNatClampNeg)) 5)]) (r := []) (mx := 4) (jh_s rfl (fun _ _ _ => rfl) rfl rfl rfl (by omega) (by omega) (Nat.le_of_ble_eq_true rfl)) (kF_Math_min2 x2 (S.2.1 (115 + ((S.1 46 ((x4 : Int32).toNatClampNeg) : Int32).toNatClampNeg)) 5) S _ _ (by omega) (by omega) ) (fun z7 => ?_)
      refine jg_sg 3 (pc1 := 23) (lv1 := [(4, .int (x4 + 1)), (2, .long z7), (0, .ref 24)]) (st1 := []) (fun _ _ _ => rfl) ?_
      refine jg_lvs (lv1 := [(0, .ref 24), (2, .long z7), (4, .int (x4 + 1))]) rfl rfl ⟨rfl, rfl, rfl, trivial⟩ ?_
      exact ih23 z7 (x4 + 1)
noncomputable def F_J_nextTime (p0 : Int32) (S : jS) : Option Int64 := if 0 ≤ p0 then (j_q (j_in p0 100) (j_l (S.2.1 (115 + ((p0 : Int32).toNatClampNeg)) 4 : Int64) (fun v3 => L_J_nextTime_23 S ju_ v3 0))) else (L_J_nextTime_23 S ju_ 1152921504606846976 0)
set_option maxRecDepth 20000 in
theorem kF_J_nextTime {q : Nat} (p0 : Int32) (S : jS) (rF rL : Nat) (hF : 1 ≤ rF) (hL : 23 ≤ rL)  : jg q jp_J_nextTime rF rL 0 [(0, .ref 24), (1, .int p0)] [] S 0 (p_L S) (F_J_nextTime p0 S) := by
  unfold F_J_nextTime
  refine jg_sg 1 (pc1 := 1) (lv1 := [(0, .ref 24), (1, .int p0)]) (st1 := [.int p0]) (fun _ _ _ => rfl) ?_
  refine jg_br (fun _ _ _ _ k1 k2 => jt_if_ge (t := 10) rfl rfl k1 k2) (fun c1 => ?_) (fun c1 => ?_)
  · refine jg_sg 1 (pc1 := 11) (lv1 := [(0, .ref 24), (1, .int p0)]) (st1 := [.ref 24]) (fun _ _ _ => rfl) ?_
    refine jg_g (v := .ref 45) rfl kc_24 rfl rfl ?_
    refine jg_sg 1 (pc1 := 15) (lv1 := [(0, .ref 24), (1, .int p0)]) (st1 := [.int p0, .ref 45]) (fun _ _ _ => rfl) ?_
    refine jg_aal (w := 115 + ((p0 : Int32).toNatClampNeg)) rfl rfl kc_45 rfl (fun g2 => ?_)
    refine jg_g (v := .long (S.2.1 (115 + ((p0 : Int32).toNatClampNeg)) 4)) rfl (kc_B (jb_m g2)) rfl rfl ?_
    refine jg_sg 1 (pc1 := 20) (lv1 := [(2, .long (S.2.1 (115 + ((p0 : Int32).toNatClampNeg)) 4)), (0, .ref 24), (1, .int p0)]) (st1 := []) (fun _ _ _ => rfl) ?_
    refine jg_vl (fun v3 => ?_)
    refine jg_sg 2 (pc1 := 23) (lv1 := [(4, .int 0), (2, .long v3), (0, .ref 24), (1, .int p0)]) (st1 := []) (fun _ _ _ => rfl) ?_
    refine jg_lvs (lv1 := [(0, .ref 24), (2, .long v3), (4, .int 0)]) rfl rfl ⟨rfl, rfl, rfl, trivial⟩ ?_
    exact kL_J_nextTime_23 (by omega) (by omega) S ju_ v3 0
  · refine jg_sg 5 (pc1 := 23) (lv1 := [(4, .int 0), (2, .long 1152921504606846976), (0, .ref 24), (1, .int p0)]) (st1 := []) (fun _ _ _ => rfl) ?_
    refine jg_lvs (lv1 := [(0, .ref 24), (2, .long 1152921504606846976), (4, .int 0)]) rfl rfl ⟨rfl, rfl, rfl, trivial⟩ ?_
    exact kL_J_nextTime_23 (by omega) (by omega) S ju_ 1152921504606846976 0
noncomputable def J_J_advance_135 (kt23 : Int64 → Int32 → jS → Option ((Int32 ⊕ Nat) × jS)) (x3 : Int64) (x5 : Int32) (x7 : Int32) (S : jS) : Option ((Int32 ⊕ Nat) × jS) := (F_J_nextTime x7 S).bind (fun z10 => if z10 ≤ x3 then (j_l (w_l S 24 8 z10) (fun S12 => kt23 x3 (x5 + 1) S12)) else (j_l (w_l S 24 8 x3) (fun S13 => some (.inl (S13.1 47 3), S13))))
set_option maxRecDepth 20000 in
theorem kJ_J_advance_135 {q rF rL : Nat} (hF : 8 ≤ rF) (hL : 181 ≤ rL)  (kt23 : Int64 → Int32 → jS → Option ((Int32 ⊕ Nat) × jS)) (ih23 : ∀ (x3 : Int64) (x5 : Int32) (S : jS), jg q jp_J_advance rF rL 23 [(0, .ref 24), (3, .long x3), (5, .int x5)] [] S 0 x_I (kt23 x3 x5 S)) (x3 : Int64) (x5 : Int32) (x7 : Int32) (S : jS) : jg q jp_J_advance rF rL 135 [(0, .ref 24), (3, .long x3), (5, .int x5), (7, .int x7)] [] S 0 x_I (J_J_advance_135 kt23 x3 x5 x7 S) := by
  unfold J_J_advance_135
  refine jg_sg 2 (pc1 := 138) (lv1 := [(0, .ref 24), (3, .long x3), (5, .int x5), (7, .int x7)]) (st1 := [.int x7, .ref 24]) (fun _ _ _ => rfl) ?_
  refine jg_cpL (m2 := jp_J_nextTime) (As := [.ref 24, .int x7]) (r := []) (mx := 5) (jh_v (a := 24) rfl rfl rfl kc_24 rfl (Nat.le_of_ble_eq_true rfl) rfl rfl rfl (by omega) (by omega) (Nat.le_of_ble_eq_true rfl)) (kF_J_nextTime x7 S _ _ (by omega) (by omega) ) (fun z10 => ?_)
  refine jg_sg 4 (pc1 := 147) (lv1 := [(8, .long z10), (0, .ref 24), (3, .long x3), (5, .int x5), (7, .int x7)]) (st1 := [.int (lg_cmp z10 x3)]) (fun _ _ _ => rfl) ?_
  refine jg_br (fun _ _ _ _ k1 k2 => jt_lif_le (t := 158) rfl rfl k1 k2) (fun c11 => ?_) (fun c11 => ?_)
  · refine jg_sg 2 (pc1 := 161) (lv1 := [(8, .long z10), (0, .ref 24), (3, .long x3), (5, .int x5), (7, .int x7)]) (st1 := [.long z10, .ref 24]) (fun _ _ _ => rfl) ?_
    refine jg_pl rfl kc_24 rfl (Nat.le_of_ble_eq_true rfl) rfl rfl (fun S12 _ => ?_)
    refine jg_sg 2 (pc1 := 23) (lv1 := [(5, .int (x5 + 1)), (8, .long z10), (0, .ref 24), (3, .long x3), (7, .int x7)]) (st1 := []) (fun _ _ _ => rfl) ?_
    refine jg_lvs (lv1 := [(0, .ref 24), (3, .long x3), (5, .int (x5 + 1))]) rfl rfl ⟨rfl, rfl, rfl, trivial⟩ ?_
    exact ih23 x3 (x5 + 1) S12
  · refine jg_sg 2 (pc1 := 152) (lv1 := [(8, .long z10), (0, .ref 24), (3, .long x3), (5, .int x5), (7, .int x7)]) (st1 := [.long x3, .ref 24]) (fun _ _ _ => rfl) ?_
    refine jg_pl rfl kc_24 rfl (Nat.le_of_ble_eq_true rfl) rfl rfl (fun S13 _ => ?_)
    refine jg_sg 2 (pc1 := 171) (lv1 := [(8, .long z10), (0, .ref 24), (3, .long x3), (5, .int x5), (7, .int x7)]) (st1 := [.ref 24]) (fun _ _ _ => rfl) ?_
    refine jg_g (v := .ref 47) rfl kc_24 rfl rfl ?_
    refine jg_g (v := .int (S13.1 47 3)) rfl kc_47 rfl rfl ?_
    exact jg_ri rfl rfl rfl rfl
noncomputable def J_J_advance_101 (kt23 : Int64 → Int32 → jS → Option ((Int32 ⊕ Nat) × jS)) (x3 : Int64) (x5 : Int32) (y0 : Int32) (S : jS) : Option ((Int32 ⊕ Nat) × jS) := if y0 < 0 then (J_J_advance_135 kt23 x3 x5 y0 S) else (j_q (j_in y0 100) (if (S.2.1 24 8) < (S.2.1 (115 + ((y0 : Int32).toNatClampNeg)) 4) then (J_J_advance_135 kt23 x3 x5 y0 S) else ((F_J_begin y0 S).bind (fun z16 => kt23 x3 (x5 + 1) z16))))
set_option maxRecDepth 20000 in
theorem kJ_J_advance_101 {q rF rL : Nat} (hF : 8 ≤ rF) (hL : 181 ≤ rL)  (kt23 : Int64 → Int32 → jS → Option ((Int32 ⊕ Nat) × jS)) (ih23 : ∀ (x3 : Int64) (x5 : Int32) (S : jS), jg q jp_J_advance rF rL 23 [(0, .ref 24), (3, .long x3), (5, .int x5)] [] S 0 x_I (kt23 x3 x5 S)) (x3 : Int64) (x5 : Int32) (y0 : Int32) (S : jS) : jg q jp_J_advance rF rL 101 [(0, .ref 24), (3, .long x3), (5, .int x5)] [.int y0] S 0 x_I (J_J_advance_101 kt23 x3 x5 y0 S) := by
  unfold J_J_advance_101
  refine jg_sg 2 (pc1 := 105) (lv1 := [(7, .int y0), (0, .ref 24), (3, .long x3), (5, .int x5)]) (st1 := [.int y0]) (fun _ _ _ => rfl) ?_
  refine jg_br (fun _ _ _ _ k1 k2 => jt_if_lt (t := 135) rfl rfl k1 k2) (fun c9 => ?_) (fun c9 => ?_)
  · refine jg_lvs (lv1 := [(0, .ref 24), (3, .long x3), (5, .int x5), (7, .int y0)]) rfl rfl ⟨rfl, rfl, rfl, rfl, trivial⟩ ?_
    exact kJ_J_advance_135 (by omega) (by omega) kt23 ih23 x3 x5 y0 S
  · refine jg_sg 1 (pc1 := 109) (lv1 := [(7, .int y0), (0, .ref 24), (3, .long x3), (5, .int x5)]) (st1 := [.ref 24]) (fun _ _ _ => rfl) ?_
    refine jg_g (v := .ref 45) rfl kc_24 rfl rfl ?_
    refine jg_sg 1 (pc1 := 114) (lv1 := [(7, .int y0), (0, .ref 24), (3, .long x3), (5, .int x5)]) (st1 := [.int y0, .ref 45]) (fun _ _ _ => rfl) ?_
    refine jg_aal (w := 115 + ((y0 : Int32).toNatClampNeg)) rfl rfl kc_45 rfl (fun g14 => ?_)
    refine jg_g (v := .long (S.2.1 (115 + ((y0 : Int32).toNatClampNeg)) 4)) rfl (kc_B (jb_m g14)) rfl rfl ?_
    refine jg_sg 1 (pc1 := 119) (lv1 := [(7, .int y0), (0, .ref 24), (3, .long x3), (5, .int x5)]) (st1 := [.ref 24, .long (S.2.1 (115 + ((y0 : Int32).toNatClampNeg)) 4)]) (fun _ _ _ => rfl) ?_
    refine jg_g (v := .long (S.2.1 24 8)) rfl kc_24 rfl rfl ?_
    refine jg_sg 1 (pc1 := 123) (lv1 := [(7, .int y0), (0, .ref 24), (3, .long x3), (5, .int x5)]) (st1 := [.int (lg_cmp (S.2.1 (115 + ((y0 : Int32).toNatClampNeg)) 4) (S.2.1 24 8))]) (fun _ _ _ => rfl) ?_
    refine jg_br (fun _ _ _ _ k1 k2 => jt_lif_gt (t := 135) rfl rfl k1 k2) (fun c15 => ?_) (fun c15 => ?_)
    · refine jg_lvs (lv1 := [(0, .ref 24), (3, .long x3), (5, .int x5), (7, .int y0)]) rfl rfl ⟨rfl, rfl, rfl, rfl, trivial⟩ ?_
      exact kJ_J_advance_135 (by omega) (by omega) kt23 ih23 x3 x5 y0 S
    · refine jg_sg 2 (pc1 := 129) (lv1 := [(7, .int y0), (0, .ref 24), (3, .long x3), (5, .int x5)]) (st1 := [.int y0, .ref 24]) (fun _ _ _ => rfl) ?_
      refine jg_csV (m2 := jp_J_begin) (As := [.ref 24, .int y0]) (r := []) (mx := 3) (jh_v (a := 24) rfl rfl rfl kc_24 rfl (Nat.le_of_ble_eq_true rfl) rfl rfl rfl (by omega) (by omega) (Nat.le_of_ble_eq_true rfl)) (kF_J_begin y0 S _ _ (by omega) (by omega) ) (fun z16 => ?_)
      refine jg_sg 3 (pc1 := 23) (lv1 := [(5, .int (x5 + 1)), (7, .int y0), (0, .ref 24), (3, .long x3)]) (st1 := []) (fun _ _ _ => rfl) ?_
      refine jg_lvs (lv1 := [(0, .ref 24), (3, .long x3), (5, .int (x5 + 1))]) rfl rfl ⟨rfl, rfl, rfl, trivial⟩ ?_
      exact ih23 x3 (x5 + 1) z16
noncomputable def L_J_advance_23  : Nat → Int64 → Int32 → jS → Option ((Int32 ⊕ Nat) × jS)
  | 0, _, _, _ => none
  | f + 1, x3, x5, S => if 100000 ≤ x5 then (some (.inl (S.1 47 3), S)) else ((F_J_firstEnded S).bind (fun z5 => if z5 < 0 then (if (S.1 47 3) < 500 then (if (S.1 24 15) ≤ (S.1 24 14) then (J_J_advance_101 (L_J_advance_23 f) x3 x5 (-1) S) else ((F_J_firstPending S).bind (fun z17 => J_J_advance_101 (L_J_advance_23 f) x3 x5 z17 S))) else (some (.inl (S.1 47 3), S))) else (j_q (j_in z5 8) (j_q (j_in (S.1 46 ((z5 : Int32).toNatClampNeg)) 100) ((F_J_nominalBehind (115 + ((S.1 46 ((z5 : Int32).toNatClampNeg) : Int32).toNatClampNeg)) S).bind (fun z20 => (F_J_free z5 z20.1 z20.2).bind (fun z21 => (L_J_advance_23 f) x3 (x5 + 1) z21)))))))
set_option maxRecDepth 20000 in
theorem kL_J_advance_23 {q rF rL : Nat} (hF : 8 ≤ rF) (hL : 181 ≤ rL)   : ∀ (f : Nat) (x3 : Int64) (x5 : Int32) (S : jS), jg q jp_J_advance rF rL 23 [(0, .ref 24), (3, .long x3), (5, .int x5)] [] S 0 x_I (L_J_advance_23 f x3 x5 S) := by
  intro f
  induction f with
  | zero => intro _ _ _; exact jg_none
  | succ f ih23 =>
    intro x3 x5 S
    rw [L_J_advance_23]
    refine jg_sg 2 (pc1 := 27) (lv1 := [(0, .ref 24), (3, .long x3), (5, .int x5)]) (st1 := [.int 100000, .int x5]) (fun _ _ _ => rfl) ?_
    refine jg_br (fun _ _ _ _ k1 k2 => jt_icmp_ge (t := 170) rfl rfl k1 k2) (fun c4 => ?_) (fun c4 => ?_)
    · refine jg_sg 1 (pc1 := 171) (lv1 := [(0, .ref 24), (3, .long x3), (5, .int x5)]) (st1 := [.ref 24]) (fun _ _ _ => rfl) ?_
      refine jg_g (v := .ref 47) rfl kc_24 rfl rfl ?_
      refine jg_g (v := .int (S.1 47 3)) rfl kc_47 rfl rfl ?_
      exact jg_ri rfl rfl rfl rfl
    · refine jg_sg 1 (pc1 := 31) (lv1 := [(0, .ref 24), (3, .long x3), (5, .int x5)]) (st1 := [.ref 24]) (fun _ _ _ => rfl) ?_
      refine jg_cpI (m2 := jp_J_firstEnded) (As := [.ref 24]) (r := []) (mx := 4) (jh_v (a := 24) rfl rfl rfl kc_24 rfl (Nat.le_of_ble_eq_true rfl) rfl rfl rfl (by omega) (by omega) (Nat.le_of_ble_eq_true rfl)) (kF_J_firstEnded S _ _ (by omega) (by omega) ) (fun z5 => ?_)
      refine jg_sg 2 (pc1 := 38) (lv1 := [(6, .int z5), (0, .ref 24), (3, .long x3), (5, .int x5)]) (st1 := [.int z5]) (fun _ _ _ => rfl) ?_
      refine jg_br (fun _ _ _ _ k1 k2 => jt_if_lt (t := 66) rfl rfl k1 k2) (fun c6 => ?_) (fun c6 => ?_)
      · refine jg_sg 1 (pc1 := 67) (lv1 := [(6, .int z5), (0, .ref 24), (3, .long x3), (5, .int x5)]) (st1 := [.ref 24]) (fun _ _ _ => rfl) ?_
        refine jg_g (v := .ref 47) rfl kc_24 rfl rfl ?_
        refine jg_g (v := .int (S.1 47 3)) rfl kc_47 rfl rfl ?_
        refine jg_sg 1 (pc1 := 76) (lv1 := [(6, .int z5), (0, .ref 24), (3, .long x3), (5, .int x5)]) (st1 := [.int 500, .int (S.1 47 3)]) (fun _ _ _ => rfl) ?_
        refine jg_br (fun _ _ _ _ k1 k2 => jt_icmp_lt (t := 82) rfl rfl k1 k2) (fun c7 => ?_) (fun c7 => ?_)
        · refine jg_sg 1 (pc1 := 83) (lv1 := [(6, .int z5), (0, .ref 24), (3, .long x3), (5, .int x5)]) (st1 := [.ref 24]) (fun _ _ _ => rfl) ?_
          refine jg_g (v := .int (S.1 24 14)) rfl kc_24 rfl rfl ?_
          refine jg_sg 1 (pc1 := 87) (lv1 := [(6, .int z5), (0, .ref 24), (3, .long x3), (5, .int x5)]) (st1 := [.ref 24, .int (S.1 24 14)]) (fun _ _ _ => rfl) ?_
          refine jg_g (v := .int (S.1 24 15)) rfl kc_24 rfl rfl ?_
          refine jg_br (fun _ _ _ _ k1 k2 => jt_icmp_ge (t := 100) rfl rfl k1 k2) (fun c8 => ?_) (fun c8 => ?_)
          · refine jg_sg 1 (pc1 := 101) (lv1 := [(6, .int z5), (0, .ref 24), (3, .long x3), (5, .int x5)]) (st1 := [.int (-1)]) (fun _ _ _ => rfl) ?_
            refine jg_lvs (lv1 := [(0, .ref 24), (3, .long x3), (5, .int x5)]) rfl rfl ⟨rfl, rfl, rfl, trivial⟩ ?_
            exact kJ_J_advance_101 (by omega) (by omega) (L_J_advance_23 f) ih23 x3 x5 (-1) S
          · refine jg_sg 1 (pc1 := 94) (lv1 := [(6, .int z5), (0, .ref 24), (3, .long x3), (5, .int x5)]) (st1 := [.ref 24]) (fun _ _ _ => rfl) ?_
            refine jg_cpI (m2 := jp_J_firstPending) (As := [.ref 24]) (r := []) (mx := 3) (jh_v (a := 24) rfl rfl rfl kc_24 rfl (Nat.le_of_ble_eq_true rfl) rfl rfl rfl (by omega) (by omega) (Nat.le_of_ble_eq_true rfl)) (kF_J_firstPending S _ _ (by omega) (by omega) ) (fun z17 => ?_)
            refine jg_sg 1 (pc1 := 101) (lv1 := [(6, .int z5), (0, .ref 24), (3, .long x3), (5, .int x5)]) (st1 := [.int z17]) (fun _ _ _ => rfl) ?_
            refine jg_lvs (lv1 := [(0, .ref 24), (3, .long x3), (5, .int x5)]) rfl rfl ⟨rfl, rfl, rfl, trivial⟩ ?_
            exact kJ_J_advance_101 (by omega) (by omega) (L_J_advance_23 f) ih23 x3 x5 z17 S
        · refine jg_sg 2 (pc1 := 171) (lv1 := [(6, .int z5), (0, .ref 24), (3, .long x3), (5, .int x5)]) (st1 := [.ref 24]) (fun _ _ _ => rfl) ?_
          refine jg_g (v := .ref 47) rfl kc_24 rfl rfl ?_
          refine jg_g (v := .int (S.1 47 3)) rfl kc_47 rfl rfl ?_
          exact jg_ri rfl rfl rfl rfl
      · refine jg_sg 4 (pc1 := 46) (lv1 := [(6, .int z5), (0, .ref 24), (3, .long x3), (5, .int x5)]) (st1 := [.ref 24, .ref 24, .int z5, .ref 24]) (fun _ _ _ => rfl) ?_
        refine jg_g (v := .ref 45) rfl kc_24 rfl rfl ?_
        refine jg_sg 1 (pc1 := 50) (lv1 := [(6, .int z5), (0, .ref 24), (3, .long x3), (5, .int x5)]) (st1 := [.ref 24, .ref 45, .ref 24, .int z5, .ref 24]) (fun _ _ _ => rfl) ?_
        refine jg_g (v := .ref 46) rfl kc_24 rfl rfl ?_
        refine jg_sg 1 (pc1 := 55) (lv1 := [(6, .int z5), (0, .ref 24), (3, .long x3), (5, .int x5)]) (st1 := [.int z5, .ref 46, .ref 45, .ref 24, .int z5, .ref 24]) (fun _ _ _ => rfl) ?_
        refine jg_ial rfl kc_46 (fun g18 => ?_)
        refine jg_aal (w := 115 + ((S.1 46 ((z5 : Int32).toNatClampNeg) : Int32).toNatClampNeg)) rfl rfl kc_45 rfl (fun g19 => ?_)
        refine jg_csL (m2 := jp_J_nominalBehind) (As := [.ref 24, .ref (115 + ((S.1 46 ((z5 : Int32).toNatClampNeg) : Int32).toNatClampNeg))]) (r := [.int z5, .ref 24]) (mx := 4) (jh_v (a := 24) rfl rfl rfl kc_24 rfl (Nat.le_of_ble_eq_true rfl) rfl rfl rfl (by omega) (by omega) (Nat.le_of_ble_eq_true rfl)) (kF_J_nominalBehind (115 + ((S.1 46 ((z5 : Int32).toNatClampNeg) : Int32).toNatClampNeg)) S _ _ (by omega) (by omega) ((jb_m g19))) (fun z20 => ?_)
        refine jg_csV (m2 := jp_J_free) (As := [.ref 24, .int z5, .long z20.1]) (r := []) (mx := 5) (jh_v (a := 24) rfl rfl rfl kc_24 rfl (Nat.le_of_ble_eq_true rfl) rfl rfl rfl (by omega) (by omega) (Nat.le_of_ble_eq_true rfl)) (kF_J_free z5 z20.1 z20.2 _ _ (by omega) (by omega) ) (fun z21 => ?_)
        refine jg_sg 3 (pc1 := 23) (lv1 := [(5, .int (x5 + 1)), (6, .int z5), (0, .ref 24), (3, .long x3)]) (st1 := []) (fun _ _ _ => rfl) ?_
        refine jg_lvs (lv1 := [(0, .ref 24), (3, .long x3), (5, .int (x5 + 1))]) rfl rfl ⟨rfl, rfl, rfl, trivial⟩ ?_
        exact ih23 x3 (x5 + 1) z21
noncomputable def F_J_advance (p0 : Int64) (S : jS) : Option ((Int32 ⊕ Nat) × jS) := j_xv (F_J_checkWay p0 S) (fun c S => (.inr c, S)) (fun S1 => j_l ((S1.2.1 24 8) + p0 : Int64) (fun v2 => j_l (w_i S1 47 3 0) (fun S3 => L_J_advance_23 ju_ v2 0 S3)))
set_option maxRecDepth 20000 in
theorem kF_J_advance {q : Nat} (p0 : Int64) (S : jS) (rF rL : Nat) (hF : 8 ≤ rF) (hL : 181 ≤ rL)  : jg q jp_J_advance rF rL 0 [(0, .ref 24), (1, .long p0)] [] S 0 x_I (F_J_advance p0 S) := by
  unfold F_J_advance
  refine jg_sg 2 (pc1 := 2) (lv1 := [(0, .ref 24), (1, .long p0)]) (st1 := [.long p0, .ref 24]) (fun _ _ _ => rfl) ?_
  refine jg_cxV (m2 := jp_J_checkWay) (As := [.ref 24, .long p0]) (r := []) (mx := 3) (jh_v (a := 24) rfl rfl rfl kc_24 rfl (Nat.le_of_ble_eq_true rfl) rfl rfl rfl (by omega) (by omega) (Nat.le_of_ble_eq_true rfl)) rfl (fun _ _ => rfl) (kF_J_checkWay p0 S _ _ (by omega) (by omega) ) (fun S1 => ?_)
  refine jg_sg 1 (pc1 := 6) (lv1 := [(0, .ref 24), (1, .long p0)]) (st1 := [.ref 24]) (fun _ _ _ => rfl) ?_
  refine jg_g (v := .long (S1.2.1 24 8)) rfl kc_24 rfl rfl ?_
  refine jg_sg 3 (pc1 := 12) (lv1 := [(3, .long ((S1.2.1 24 8) + p0)), (0, .ref 24), (1, .long p0)]) (st1 := []) (fun _ _ _ => rfl) ?_
  refine jg_vl (fun v2 => ?_)
  refine jg_sg 1 (pc1 := 13) (lv1 := [(3, .long v2), (0, .ref 24), (1, .long p0)]) (st1 := [.ref 24]) (fun _ _ _ => rfl) ?_
  refine jg_g (v := .ref 47) rfl kc_24 rfl rfl ?_
  refine jg_sg 1 (pc1 := 17) (lv1 := [(3, .long v2), (0, .ref 24), (1, .long p0)]) (st1 := [.int 0, .ref 47]) (fun _ _ _ => rfl) ?_
  refine jg_pi rfl kc_47 rfl (Nat.le_of_ble_eq_true rfl) rfl rfl (fun S3 _ => ?_)
  refine jg_sg 2 (pc1 := 23) (lv1 := [(5, .int 0), (3, .long v2), (0, .ref 24), (1, .long p0)]) (st1 := []) (fun _ _ _ => rfl) ?_
  refine jg_lvs (lv1 := [(0, .ref 24), (3, .long v2), (5, .int 0)]) rfl rfl ⟨rfl, rfl, rfl, trivial⟩ ?_
  exact kL_J_advance_23 (by omega) (by omega) ju_ v2 0 S3
noncomputable def F_J_stall (p0 : Int64) (S : jS) : Option (Option Nat × jS) := j_xv (F_J_checkWay p0 S) (fun c S => (some c, S)) (fun S1 => j_l (w_l S1 24 8 ((S1.2.1 24 8) + p0)) (fun S2 => some (none, S2)))
set_option maxRecDepth 20000 in
theorem kF_J_stall {q : Nat} (p0 : Int64) (S : jS) (rF rL : Nat) (hF : 8 ≤ rF) (hL : 128 ≤ rL)  : jg q jp_J_stall rF rL 0 [(0, .ref 24), (1, .long p0)] [] S 0 x_V (F_J_stall p0 S) := by
  unfold F_J_stall
  refine jg_sg 2 (pc1 := 2) (lv1 := [(0, .ref 24), (1, .long p0)]) (st1 := [.long p0, .ref 24]) (fun _ _ _ => rfl) ?_
  refine jg_cxV (m2 := jp_J_checkWay) (As := [.ref 24, .long p0]) (r := []) (mx := 3) (jh_v (a := 24) rfl rfl rfl kc_24 rfl (Nat.le_of_ble_eq_true rfl) rfl rfl rfl (by omega) (by omega) (Nat.le_of_ble_eq_true rfl)) rfl (fun _ _ => rfl) (kF_J_checkWay p0 S _ _ (by omega) (by omega) ) (fun S1 => ?_)
  refine jg_sg 2 (pc1 := 7) (lv1 := [(0, .ref 24), (1, .long p0)]) (st1 := [.ref 24, .ref 24]) (fun _ _ _ => rfl) ?_
  refine jg_g (v := .long (S1.2.1 24 8)) rfl kc_24 rfl rfl ?_
  refine jg_sg 2 (pc1 := 12) (lv1 := [(0, .ref 24), (1, .long p0)]) (st1 := [.long ((S1.2.1 24 8) + p0), .ref 24]) (fun _ _ _ => rfl) ?_
  refine jg_pl rfl kc_24 rfl (Nat.le_of_ble_eq_true rfl) rfl rfl (fun S2 _ => ?_)
  exact jg_rv rfl rfl rfl
noncomputable def J_J_close_65 (kt11 : Int32 → Int32 → Int32 → jS → Option ((Int32 ⊕ Nat) × jS)) (x1 : Int32) (x2 : Int32) (x3 : Int32) (x4 : Nat) (x5 : Int32) (S : jS) : Option ((Int32 ⊕ Nat) × jS) := if x5 = 0 then (kt11 x1 x2 (x3 + 1) S) else (if (S.1 x4 0) = 2 then (if (S.1 x4 1) = 0 then (kt11 x1 x2 (x3 + 1) S) else (j_l (w_i S x4 0 3) (fun S11 => kt11 x1 x2 (x3 + 1) S11))) else (kt11 x1 x2 (x3 + 1) S))
set_option maxRecDepth 20000 in
theorem kJ_J_close_65 {q rF rL : Nat} (hF : 7 ≤ rF) (hL : 101 ≤ rL)  (kt11 : Int32 → Int32 → Int32 → jS → Option ((Int32 ⊕ Nat) × jS)) (ih11 : ∀ (x1 : Int32) (x2 : Int32) (x3 : Int32) (S : jS), jg q jp_J_close rF rL 11 [(0, .ref 24), (1, .int x1), (2, .int x2), (3, .int x3)] [] S 0 x_I (kt11 x1 x2 x3 S)) (x1 : Int32) (x2 : Int32) (x3 : Int32) (x4 : Nat) (x5 : Int32) (S : jS) (hx4 : jb_ x4 = true) : jg q jp_J_close rF rL 65 [(0, .ref 24), (1, .int x1), (2, .int x2), (3, .int x3), (4, .ref x4), (5, .int x5)] [] S 0 x_I (J_J_close_65 kt11 x1 x2 x3 x4 x5 S) := by
  unfold J_J_close_65
  refine jg_sg 1 (pc1 := 67) (lv1 := [(0, .ref 24), (1, .int x1), (2, .int x2), (3, .int x3), (4, .ref x4), (5, .int x5)]) (st1 := [.int x5]) (fun _ _ _ => rfl) ?_
  refine jg_br (fun _ _ _ _ k1 k2 => jt_if_eq (t := 93) rfl rfl k1 k2) (fun c8 => ?_) (fun c8 => ?_)
  · refine jg_sg 2 (pc1 := 11) (lv1 := [(3, .int (x3 + 1)), (0, .ref 24), (1, .int x1), (2, .int x2), (4, .ref x4), (5, .int x5)]) (st1 := []) (fun _ _ _ => rfl) ?_
    refine jg_lvs (lv1 := [(0, .ref 24), (1, .int x1), (2, .int x2), (3, .int (x3 + 1))]) rfl rfl ⟨rfl, rfl, rfl, rfl, trivial⟩ ?_
    exact ih11 x1 x2 (x3 + 1) S
  · refine jg_sg 1 (pc1 := 72) (lv1 := [(0, .ref 24), (1, .int x1), (2, .int x2), (3, .int x3), (4, .ref x4), (5, .int x5)]) (st1 := [.ref x4]) (fun _ _ _ => rfl) ?_
    refine jg_g (v := .int (S.1 x4 0)) rfl (kc_B hx4) rfl rfl ?_
    refine jg_sg 1 (pc1 := 76) (lv1 := [(0, .ref 24), (1, .int x1), (2, .int x2), (3, .int x3), (4, .ref x4), (5, .int x5)]) (st1 := [.int 2, .int (S.1 x4 0)]) (fun _ _ _ => rfl) ?_
    refine jg_br (fun _ _ _ _ k1 k2 => jt_icmp_ne (t := 93) rfl rfl k2 k1) (fun c9 => ?_) (fun c9 => ?_)
    · refine jg_sg 1 (pc1 := 81) (lv1 := [(0, .ref 24), (1, .int x1), (2, .int x2), (3, .int x3), (4, .ref x4), (5, .int x5)]) (st1 := [.ref x4]) (fun _ _ _ => rfl) ?_
      refine jg_g (v := .int (S.1 x4 1)) rfl (kc_B hx4) rfl rfl ?_
      refine jg_br (fun _ _ _ _ k1 k2 => jt_if_eq (t := 93) rfl rfl k1 k2) (fun c10 => ?_) (fun c10 => ?_)
      · refine jg_sg 2 (pc1 := 11) (lv1 := [(3, .int (x3 + 1)), (0, .ref 24), (1, .int x1), (2, .int x2), (4, .ref x4), (5, .int x5)]) (st1 := []) (fun _ _ _ => rfl) ?_
        refine jg_lvs (lv1 := [(0, .ref 24), (1, .int x1), (2, .int x2), (3, .int (x3 + 1))]) rfl rfl ⟨rfl, rfl, rfl, rfl, trivial⟩ ?_
        exact ih11 x1 x2 (x3 + 1) S
      · refine jg_sg 2 (pc1 := 90) (lv1 := [(0, .ref 24), (1, .int x1), (2, .int x2), (3, .int x3), (4, .ref x4), (5, .int x5)]) (st1 := [.int 3, .ref x4]) (fun _ _ _ => rfl) ?_
        refine jg_pi rfl (kc_B hx4) rfl (Nat.le_of_ble_eq_true rfl) rfl rfl (fun S11 _ => ?_)
        refine jg_sg 2 (pc1 := 11) (lv1 := [(3, .int (x3 + 1)), (0, .ref 24), (1, .int x1), (2, .int x2), (4, .ref x4), (5, .int x5)]) (st1 := []) (fun _ _ _ => rfl) ?_
        refine jg_lvs (lv1 := [(0, .ref 24), (1, .int x1), (2, .int x2), (3, .int (x3 + 1))]) rfl rfl ⟨rfl, rfl, rfl, rfl, trivial⟩ ?_
        exact ih11 x1 x2 (x3 + 1) S11
    · refine jg_sg 2 (pc1 := 11) (lv1 := [(3, .int (x3 + 1)), (0, .ref 24), (1, .int x1), (2, .int x2), (4, .ref x4), (5, .int x5)]) (st1 := []) (fun _ _ _ => rfl) ?_
      refine jg_lvs (lv1 := [(0, .ref 24), (1, .int x1), (2, .int x2), (3, .int (x3 + 1))]) rfl rfl ⟨rfl, rfl, rfl, rfl, trivial⟩ ?_
      exact ih11 x1 x2 (x3 + 1) S
noncomputable def J_J_close_40 (kt11 : Int32 → Int32 → Int32 → jS → Option ((Int32 ⊕ Nat) × jS)) (x1 : Int32) (x2 : Int32) (x3 : Int32) (x4 : Nat) (y0 : Int32) (S : jS) : Option ((Int32 ⊕ Nat) × jS) := if y0 = 0 then (J_J_close_65 kt11 x1 x2 x3 x4 y0 S) else (if (S.1 x4 0) = 1 then ((F_J_remove x4 S).bind (fun z13 => kt11 x1 x2 (x3 + 1) z13)) else (J_J_close_65 kt11 x1 x2 x3 x4 y0 S))
set_option maxRecDepth 20000 in
theorem kJ_J_close_40 {q rF rL : Nat} (hF : 7 ≤ rF) (hL : 101 ≤ rL)  (kt11 : Int32 → Int32 → Int32 → jS → Option ((Int32 ⊕ Nat) × jS)) (ih11 : ∀ (x1 : Int32) (x2 : Int32) (x3 : Int32) (S : jS), jg q jp_J_close rF rL 11 [(0, .ref 24), (1, .int x1), (2, .int x2), (3, .int x3)] [] S 0 x_I (kt11 x1 x2 x3 S)) (x1 : Int32) (x2 : Int32) (x3 : Int32) (x4 : Nat) (y0 : Int32) (S : jS) (hx4 : jb_ x4 = true) : jg q jp_J_close rF rL 40 [(0, .ref 24), (1, .int x1), (2, .int x2), (3, .int x3), (4, .ref x4)] [.int y0] S 0 x_I (J_J_close_40 kt11 x1 x2 x3 x4 y0 S) := by
  unfold J_J_close_40
  refine jg_sg 2 (pc1 := 44) (lv1 := [(5, .int y0), (0, .ref 24), (1, .int x1), (2, .int x2), (3, .int x3), (4, .ref x4)]) (st1 := [.int y0]) (fun _ _ _ => rfl) ?_
  refine jg_br (fun _ _ _ _ k1 k2 => jt_if_eq (t := 65) rfl rfl k1 k2) (fun c7 => ?_) (fun c7 => ?_)
  · refine jg_lvs (lv1 := [(0, .ref 24), (1, .int x1), (2, .int x2), (3, .int x3), (4, .ref x4), (5, .int y0)]) rfl rfl ⟨rfl, rfl, rfl, rfl, rfl, rfl, trivial⟩ ?_
    exact kJ_J_close_65 (by omega) (by omega) kt11 ih11 x1 x2 x3 x4 y0 S hx4
  · refine jg_sg 1 (pc1 := 49) (lv1 := [(5, .int y0), (0, .ref 24), (1, .int x1), (2, .int x2), (3, .int x3), (4, .ref x4)]) (st1 := [.ref x4]) (fun _ _ _ => rfl) ?_
    refine jg_g (v := .int (S.1 x4 0)) rfl (kc_B hx4) rfl rfl ?_
    refine jg_sg 1 (pc1 := 53) (lv1 := [(5, .int y0), (0, .ref 24), (1, .int x1), (2, .int x2), (3, .int x3), (4, .ref x4)]) (st1 := [.int 1, .int (S.1 x4 0)]) (fun _ _ _ => rfl) ?_
    refine jg_br (fun _ _ _ _ k1 k2 => jt_icmp_ne (t := 65) rfl rfl k2 k1) (fun c12 => ?_) (fun c12 => ?_)
    · refine jg_sg 2 (pc1 := 59) (lv1 := [(5, .int y0), (0, .ref 24), (1, .int x1), (2, .int x2), (3, .int x3), (4, .ref x4)]) (st1 := [.ref x4, .ref 24]) (fun _ _ _ => rfl) ?_
      refine jg_csV (m2 := jp_J_remove) (As := [.ref 24, .ref x4]) (r := []) (mx := 2) (jh_v (a := 24) rfl rfl rfl kc_24 rfl (Nat.le_of_ble_eq_true rfl) rfl rfl rfl (by omega) (by omega) (Nat.le_of_ble_eq_true rfl)) (kF_J_remove x4 S _ _ (by omega) (by omega) hx4) (fun z13 => ?_)
      refine jg_sg 3 (pc1 := 11) (lv1 := [(3, .int (x3 + 1)), (5, .int y0), (0, .ref 24), (1, .int x1), (2, .int x2), (4, .ref x4)]) (st1 := []) (fun _ _ _ => rfl) ?_
      refine jg_lvs (lv1 := [(0, .ref 24), (1, .int x1), (2, .int x2), (3, .int (x3 + 1))]) rfl rfl ⟨rfl, rfl, rfl, rfl, trivial⟩ ?_
      exact ih11 x1 x2 (x3 + 1) z13
    · refine jg_lvs (lv1 := [(0, .ref 24), (1, .int x1), (2, .int x2), (3, .int x3), (4, .ref x4), (5, .int y0)]) rfl rfl ⟨rfl, rfl, rfl, rfl, rfl, rfl, trivial⟩ ?_
      exact kJ_J_close_65 (by omega) (by omega) kt11 ih11 x1 x2 x3 x4 y0 S hx4
noncomputable def L_J_close_11  : Nat → Int32 → Int32 → Int32 → jS → Option ((Int32 ⊕ Nat) × jS)
  | 0, _, _, _, _ => none
  | f + 1, x1, x2, x3, S => if (S.1 24 10) ≤ x3 then (some (.inl (S.1 24 11), S)) else (j_q (j_in x3 100) (j_l (115 + ((x3 : Int32).toNatClampNeg) : Nat) (fun b5 => if (S.1 b5 1) = 0 then (J_J_close_40 (L_J_close_11 f) x1 x2 x3 b5 x1 S) else (J_J_close_40 (L_J_close_11 f) x1 x2 x3 b5 x2 S))))
set_option maxRecDepth 20000 in
theorem kL_J_close_11 {q rF rL : Nat} (hF : 7 ≤ rF) (hL : 101 ≤ rL)   : ∀ (f : Nat) (x1 : Int32) (x2 : Int32) (x3 : Int32) (S : jS), jg q jp_J_close rF rL 11 [(0, .ref 24), (1, .int x1), (2, .int x2), (3, .int x3)] [] S 0 x_I (L_J_close_11 f x1 x2 x3 S) := by
  intro f
  induction f with
  | zero => intro _ _ _ _; exact jg_none
  | succ f ih11 =>
    intro x1 x2 x3 S
    rw [L_J_close_11]
    refine jg_sg 2 (pc1 := 13) (lv1 := [(0, .ref 24), (1, .int x1), (2, .int x2), (3, .int x3)]) (st1 := [.ref 24, .int x3]) (fun _ _ _ => rfl) ?_
    refine jg_g (v := .int (S.1 24 10)) rfl kc_24 rfl rfl ?_
    refine jg_br (fun _ _ _ _ k1 k2 => jt_icmp_ge (t := 99) rfl rfl k1 k2) (fun c3 => ?_) (fun c3 => ?_)
    · refine jg_sg 1 (pc1 := 100) (lv1 := [(0, .ref 24), (1, .int x1), (2, .int x2), (3, .int x3)]) (st1 := [.ref 24]) (fun _ _ _ => rfl) ?_
      refine jg_g (v := .int (S.1 24 11)) rfl kc_24 rfl rfl ?_
      exact jg_ri rfl rfl rfl rfl
    · refine jg_sg 1 (pc1 := 20) (lv1 := [(0, .ref 24), (1, .int x1), (2, .int x2), (3, .int x3)]) (st1 := [.ref 24]) (fun _ _ _ => rfl) ?_
      refine jg_g (v := .ref 45) rfl kc_24 rfl rfl ?_
      refine jg_sg 1 (pc1 := 24) (lv1 := [(0, .ref 24), (1, .int x1), (2, .int x2), (3, .int x3)]) (st1 := [.int x3, .ref 45]) (fun _ _ _ => rfl) ?_
      refine jg_aal (w := 115 + ((x3 : Int32).toNatClampNeg)) rfl rfl kc_45 rfl (fun g4 => ?_)
      refine jg_sg 1 (pc1 := 27) (lv1 := [(4, .ref (115 + ((x3 : Int32).toNatClampNeg))), (0, .ref 24), (1, .int x1), (2, .int x2), (3, .int x3)]) (st1 := []) (fun _ _ _ => rfl) ?_
      refine jg_va (P := fun b => jb_ b = true) ((jb_m g4)) (fun b5 hb5 => ?_)
      refine jg_sg 1 (pc1 := 29) (lv1 := [(4, .ref b5), (0, .ref 24), (1, .int x1), (2, .int x2), (3, .int x3)]) (st1 := [.ref b5]) (fun _ _ _ => rfl) ?_
      refine jg_g (v := .int (S.1 b5 1)) rfl (kc_B hb5) rfl rfl ?_
      refine jg_br (fun _ _ _ _ k1 k2 => jt_if_ne (t := 39) rfl rfl k2 k1) (fun c6 => ?_) (fun c6 => ?_)
      · refine jg_sg 2 (pc1 := 40) (lv1 := [(4, .ref b5), (0, .ref 24), (1, .int x1), (2, .int x2), (3, .int x3)]) (st1 := [.int x1]) (fun _ _ _ => rfl) ?_
        refine jg_lvs (lv1 := [(0, .ref 24), (1, .int x1), (2, .int x2), (3, .int x3), (4, .ref b5)]) rfl rfl ⟨rfl, rfl, rfl, rfl, rfl, trivial⟩ ?_
        exact kJ_J_close_40 (by omega) (by omega) (L_J_close_11 f) ih11 x1 x2 x3 b5 x1 S hb5
      · refine jg_sg 1 (pc1 := 40) (lv1 := [(4, .ref b5), (0, .ref 24), (1, .int x1), (2, .int x2), (3, .int x3)]) (st1 := [.int x2]) (fun _ _ _ => rfl) ?_
        refine jg_lvs (lv1 := [(0, .ref 24), (1, .int x1), (2, .int x2), (3, .int x3), (4, .ref b5)]) rfl rfl ⟨rfl, rfl, rfl, rfl, rfl, trivial⟩ ?_
        exact kJ_J_close_40 (by omega) (by omega) (L_J_close_11 f) ih11 x1 x2 x3 b5 x2 S hb5
noncomputable def F_J_close (p0 : Int32) (p1 : Int32) (S : jS) : Option ((Int32 ⊕ Nat) × jS) := j_xv (F_J_checkOpen S) (fun c S => (.inr c, S)) (fun S1 => j_l (w_i S1 24 16 1) (fun S2 => L_J_close_11 ju_ p0 p1 0 S2))
set_option maxRecDepth 20000 in
theorem kF_J_close {q : Nat} (p0 : Int32) (p1 : Int32) (S : jS) (rF rL : Nat) (hF : 7 ≤ rF) (hL : 101 ≤ rL)  : jg q jp_J_close rF rL 0 [(0, .ref 24), (1, .int p0), (2, .int p1)] [] S 0 x_I (F_J_close p0 p1 S) := by
  unfold F_J_close
  refine jg_sg 1 (pc1 := 1) (lv1 := [(0, .ref 24), (1, .int p0), (2, .int p1)]) (st1 := [.ref 24]) (fun _ _ _ => rfl) ?_
  refine jg_cxV (m2 := jp_J_checkOpen) (As := [.ref 24]) (r := []) (mx := 1) (jh_v (a := 24) rfl rfl rfl kc_24 rfl (Nat.le_of_ble_eq_true rfl) rfl rfl rfl (by omega) (by omega) (Nat.le_of_ble_eq_true rfl)) rfl (fun _ _ => rfl) (kF_J_checkOpen S _ _ (by omega) (by omega) ) (fun S1 => ?_)
  refine jg_sg 2 (pc1 := 6) (lv1 := [(0, .ref 24), (1, .int p0), (2, .int p1)]) (st1 := [.int 1, .ref 24]) (fun _ _ _ => rfl) ?_
  refine jg_pi rfl kc_24 rfl (Nat.le_of_ble_eq_true rfl) rfl rfl (fun S2 _ => ?_)
  refine jg_sg 2 (pc1 := 11) (lv1 := [(3, .int 0), (0, .ref 24), (1, .int p0), (2, .int p1)]) (st1 := []) (fun _ _ _ => rfl) ?_
  refine jg_lvs (lv1 := [(0, .ref 24), (1, .int p0), (2, .int p1), (3, .int 0)]) rfl rfl ⟨rfl, rfl, rfl, rfl, trivial⟩ ?_
  exact kL_J_close_11 (by omega) (by omega) ju_ p0 p1 0 S2
noncomputable def F_J_job (p0 : Int32) (p1 : Int32) (S : jS) : Option ((Int64 ⊕ Nat) × jS) := j_xv (F_J_checkRange ((p1 : Int32).toInt64) 0 4 S) (fun c S => (.inr c, S)) (fun S1 => j_x (F_J_jobAt p0 S1) (fun c S => (.inr c, S)) (fun z3 S2 => j_q (jb_ z3) (if p1 = 0 then (some (.inl ((S2.1 z3 0 : Int32).toInt64), S2)) else (if p1 = 1 then (some (.inl (S2.2.1 z3 4), S2)) else (if p1 = 2 then (some (.inl ((S2.1 z3 3 : Int32).toInt64), S2)) else (if p1 = 3 then (some (.inl ((S2.1 z3 2 : Int32).toInt64), S2)) else (if (S2.1 z3 0) = 1 then (some (.inl (-1), S2)) else (some (.inl (S2.2.1 z3 5), S2)))))))))
set_option maxRecDepth 20000 in
theorem kF_J_job {q : Nat} (p0 : Int32) (p1 : Int32) (S : jS) (rF rL : Nat) (hF : 7 ≤ rF) (hL : 106 ≤ rL)  : jg q jp_J_job rF rL 0 [(0, .ref 24), (1, .int p0), (2, .int p1)] [] S 0 x_L (F_J_job p0 p1 S) := by
  unfold F_J_job
  refine jg_sg 4 (pc1 := 6) (lv1 := [(0, .ref 24), (1, .int p0), (2, .int p1)]) (st1 := [.long 4, .long 0, .long ((p1 : Int32).toInt64)]) (fun _ _ _ => rfl) ?_
  refine jg_cxV (m2 := jp_J_checkRange) (As := [.long ((p1 : Int32).toInt64), .long 0, .long 4]) (r := []) (mx := 6) (jh_s rfl (fun _ _ _ => rfl) rfl rfl rfl (by omega) (by omega) (Nat.le_of_ble_eq_true rfl)) rfl (fun _ _ => rfl) (kF_J_checkRange ((p1 : Int32).toInt64) 0 4 S _ _ (by omega) (by omega) ) (fun S1 => ?_)
  refine jg_sg 2 (pc1 := 11) (lv1 := [(0, .ref 24), (1, .int p0), (2, .int p1)]) (st1 := [.int p0, .ref 24]) (fun _ _ _ => rfl) ?_
  refine jg_cxA (m2 := jp_J_jobAt) (As := [.ref 24, .int p0]) (r := []) (mx := 2) (jh_v (a := 24) rfl rfl rfl kc_24 rfl (Nat.le_of_ble_eq_true rfl) rfl rfl rfl (by omega) (by omega) (Nat.le_of_ble_eq_true rfl)) rfl (fun _ _ => rfl) (kF_J_jobAt p0 S1 _ _ (by omega) (by omega) ) (fun z3 S2 => ?_)
  refine jg_q (fun g4 => ?_)
  refine jg_sg 2 (pc1 := 16) (lv1 := [(3, .ref z3), (0, .ref 24), (1, .int p0), (2, .int p1)]) (st1 := [.int p1]) (fun _ _ _ => rfl) ?_
  refine jg_sw (fun _ _ _ _ e k => jt_tabEq (t := 48) (off := 32) rfl e (by decide) rfl rfl k) (fun c5 => ?_) (fun c5 => ?_)
  · refine jg_sg 1 (pc1 := 49) (lv1 := [(3, .ref z3), (0, .ref 24), (1, .int p0), (2, .int p1)]) (st1 := [.ref z3]) (fun _ _ _ => rfl) ?_
    refine jg_g (v := .int (S2.1 z3 0)) rfl (kc_B g4) rfl rfl ?_
    refine jg_sg 1 (pc1 := 53) (lv1 := [(3, .ref z3), (0, .ref 24), (1, .int p0), (2, .int p1)]) (st1 := [.long ((S2.1 z3 0 : Int32).toInt64)]) (fun _ _ _ => rfl) ?_
    exact jg_rl rfl rfl rfl
  · skip
    refine jg_sw (fun _ _ _ _ e k => jt_tabEq (t := 54) (off := 38) rfl e (by decide) rfl rfl k) (fun c6 => ?_) (fun c6 => ?_)
    · refine jg_sg 1 (pc1 := 55) (lv1 := [(3, .ref z3), (0, .ref 24), (1, .int p0), (2, .int p1)]) (st1 := [.ref z3]) (fun _ _ _ => rfl) ?_
      refine jg_g (v := .long (S2.2.1 z3 4)) rfl (kc_B g4) rfl rfl ?_
      exact jg_rl rfl rfl rfl
    · skip
      refine jg_sw (fun _ _ _ _ e k => jt_tabEq (t := 59) (off := 43) rfl e (by decide) rfl rfl k) (fun c7 => ?_) (fun c7 => ?_)
      · refine jg_sg 1 (pc1 := 60) (lv1 := [(3, .ref z3), (0, .ref 24), (1, .int p0), (2, .int p1)]) (st1 := [.ref z3]) (fun _ _ _ => rfl) ?_
        refine jg_g (v := .int (S2.1 z3 3)) rfl (kc_B g4) rfl rfl ?_
        refine jg_sg 1 (pc1 := 64) (lv1 := [(3, .ref z3), (0, .ref 24), (1, .int p0), (2, .int p1)]) (st1 := [.long ((S2.1 z3 3 : Int32).toInt64)]) (fun _ _ _ => rfl) ?_
        exact jg_rl rfl rfl rfl
      · skip
        refine jg_sw (fun _ _ _ _ e k => jt_tabEq (t := 65) (off := 49) rfl e (by decide) rfl rfl k) (fun c8 => ?_) (fun c8 => ?_)
        · refine jg_sg 1 (pc1 := 66) (lv1 := [(3, .ref z3), (0, .ref 24), (1, .int p0), (2, .int p1)]) (st1 := [.ref z3]) (fun _ _ _ => rfl) ?_
          refine jg_g (v := .int (S2.1 z3 2)) rfl (kc_B g4) rfl rfl ?_
          refine jg_sg 1 (pc1 := 70) (lv1 := [(3, .ref z3), (0, .ref 24), (1, .int p0), (2, .int p1)]) (st1 := [.long ((S2.1 z3 2 : Int32).toInt64)]) (fun _ _ _ => rfl) ?_
          exact jg_rl rfl rfl rfl
        · skip
          refine jg_st (fun _ _ _ _ _ k => jt_tabOut (t := 71) rfl (by have q0 := lv_neT c5 (a := 0) rfl; have q1 := lv_neT c6 (a := 1) rfl; have q2 := lv_neT c7 (a := 2) rfl; have q3 := lv_neT c8 (a := 3) rfl; omega) rfl k) ?_
          refine jg_sg 1 (pc1 := 72) (lv1 := [(3, .ref z3), (0, .ref 24), (1, .int p0), (2, .int p1)]) (st1 := [.ref z3]) (fun _ _ _ => rfl) ?_
          refine jg_g (v := .int (S2.1 z3 0)) rfl (kc_B g4) rfl rfl ?_
          refine jg_sg 1 (pc1 := 76) (lv1 := [(3, .ref z3), (0, .ref 24), (1, .int p0), (2, .int p1)]) (st1 := [.int 1, .int (S2.1 z3 0)]) (fun _ _ _ => rfl) ?_
          refine jg_br (fun _ _ _ _ k1 k2 => jt_icmp_ne (t := 85) rfl rfl k2 k1) (fun c9 => ?_) (fun c9 => ?_)
          · refine jg_sg 2 (pc1 := 89) (lv1 := [(3, .ref z3), (0, .ref 24), (1, .int p0), (2, .int p1)]) (st1 := [.long (-1)]) (fun _ _ _ => rfl) ?_
            exact jg_rl rfl rfl rfl
          · refine jg_sg 1 (pc1 := 86) (lv1 := [(3, .ref z3), (0, .ref 24), (1, .int p0), (2, .int p1)]) (st1 := [.ref z3]) (fun _ _ _ => rfl) ?_
            refine jg_g (v := .long (S2.2.1 z3 5)) rfl (kc_B g4) rfl rfl ?_
            exact jg_rl rfl rfl rfl
noncomputable def F_J_start (p0 : Int32) (p1 : Int32) (S : jS) : Option ((Int64 ⊕ Nat) × jS) := j_xv (F_J_checkRange ((p1 : Int32).toInt64) 0 2 S) (fun c S => (.inr c, S)) (fun S1 => if p0 < 0 then (some (.inr 14, S1)) else (if p0 < (S1.1 47 3) then (if p1 = 0 then (j_q (j_in p0 500) (some (.inl (S1.2.1 48 ((p0 : Int32).toNatClampNeg)), S1))) else (if p1 = 1 then (j_q (j_in p0 500) (some (.inl ((S1.1 49 ((p0 : Int32).toNatClampNeg) : Int32).toInt64), S1))) else (j_q (j_in p0 500) (some (.inl (S1.2.1 50 ((p0 : Int32).toNatClampNeg)), S1))))) else (some (.inr 14, S1))))
set_option maxRecDepth 20000 in
theorem kF_J_start {q : Nat} (p0 : Int32) (p1 : Int32) (S : jS) (rF rL : Nat) (hF : 7 ≤ rF) (hL : 106 ≤ rL)  : jg q jp_J_start rF rL 0 [(0, .ref 24), (1, .int p0), (2, .int p1)] [] S 0 x_L (F_J_start p0 p1 S) := by
  unfold F_J_start
  refine jg_sg 4 (pc1 := 6) (lv1 := [(0, .ref 24), (1, .int p0), (2, .int p1)]) (st1 := [.long 2, .long 0, .long ((p1 : Int32).toInt64)]) (fun _ _ _ => rfl) ?_
  refine jg_cxV (m2 := jp_J_checkRange) (As := [.long ((p1 : Int32).toInt64), .long 0, .long 2]) (r := []) (mx := 6) (jh_s rfl (fun _ _ _ => rfl) rfl rfl rfl (by omega) (by omega) (Nat.le_of_ble_eq_true rfl)) rfl (fun _ _ => rfl) (kF_J_checkRange ((p1 : Int32).toInt64) 0 2 S _ _ (by omega) (by omega) ) (fun S1 => ?_)
  refine jg_sg 1 (pc1 := 10) (lv1 := [(0, .ref 24), (1, .int p0), (2, .int p1)]) (st1 := [.int p0]) (fun _ _ _ => rfl) ?_
  refine jg_br (fun _ _ _ _ k1 k2 => jt_if_lt (t := 24) rfl rfl k1 k2) (fun c2 => ?_) (fun c2 => ?_)
  · exact jg_thr rfl (fun _ _ _ => rfl) rfl (by omega) (by show 0 + 81 ≤ rL; omega) rfl
  · refine jg_sg 2 (pc1 := 15) (lv1 := [(0, .ref 24), (1, .int p0), (2, .int p1)]) (st1 := [.ref 24, .int p0]) (fun _ _ _ => rfl) ?_
    refine jg_g (v := .ref 47) rfl kc_24 rfl rfl ?_
    refine jg_g (v := .int (S1.1 47 3)) rfl kc_47 rfl rfl ?_
    refine jg_br (fun _ _ _ _ k1 k2 => jt_icmp_lt (t := 32) rfl rfl k1 k2) (fun c3 => ?_) (fun c3 => ?_)
    · refine jg_sg 1 (pc1 := 33) (lv1 := [(0, .ref 24), (1, .int p0), (2, .int p1)]) (st1 := [.int p1]) (fun _ _ _ => rfl) ?_
      refine jg_sw (fun _ _ _ _ e k => jt_lusEq (t := 60) (off := 27) rfl e (by decide +kernel) (by decide +kernel) rfl k) (fun c4 => ?_) (fun c4 => ?_)
      · refine jg_sg 1 (pc1 := 61) (lv1 := [(0, .ref 24), (1, .int p0), (2, .int p1)]) (st1 := [.ref 24]) (fun _ _ _ => rfl) ?_
        refine jg_g (v := .ref 47) rfl kc_24 rfl rfl ?_
        refine jg_g (v := .ref 48) rfl kc_47 rfl rfl ?_
        refine jg_sg 1 (pc1 := 68) (lv1 := [(0, .ref 24), (1, .int p0), (2, .int p1)]) (st1 := [.int p0, .ref 48]) (fun _ _ _ => rfl) ?_
        refine jg_lal rfl kc_48 (fun g5 => ?_)
        exact jg_rl rfl rfl rfl
      · skip
        refine jg_sw (fun _ _ _ _ e k => jt_lusEq (t := 70) (off := 37) rfl e (by decide +kernel) (by decide +kernel) rfl k) (fun c6 => ?_) (fun c6 => ?_)
        · refine jg_sg 1 (pc1 := 71) (lv1 := [(0, .ref 24), (1, .int p0), (2, .int p1)]) (st1 := [.ref 24]) (fun _ _ _ => rfl) ?_
          refine jg_g (v := .ref 47) rfl kc_24 rfl rfl ?_
          refine jg_g (v := .ref 49) rfl kc_47 rfl rfl ?_
          refine jg_sg 1 (pc1 := 78) (lv1 := [(0, .ref 24), (1, .int p0), (2, .int p1)]) (st1 := [.int p0, .ref 49]) (fun _ _ _ => rfl) ?_
          refine jg_ial rfl kc_49 (fun g7 => ?_)
          refine jg_sg 1 (pc1 := 80) (lv1 := [(0, .ref 24), (1, .int p0), (2, .int p1)]) (st1 := [.long ((S1.1 49 ((p0 : Int32).toNatClampNeg) : Int32).toInt64)]) (fun _ _ _ => rfl) ?_
          exact jg_rl rfl rfl rfl
        · skip
          refine jg_st (fun _ _ _ _ _ k => jt_lusOut (t := 81) rfl (by decide +kernel) (by have q0 := lv_neT c4 (a := 0) rfl; have q1 := lv_neT c6 (a := 1) rfl; simp [Op.lookupswitch.offset]; omega) rfl k) ?_
          refine jg_sg 1 (pc1 := 82) (lv1 := [(0, .ref 24), (1, .int p0), (2, .int p1)]) (st1 := [.ref 24]) (fun _ _ _ => rfl) ?_
          refine jg_g (v := .ref 47) rfl kc_24 rfl rfl ?_
          refine jg_g (v := .ref 50) rfl kc_47 rfl rfl ?_
          refine jg_sg 1 (pc1 := 89) (lv1 := [(0, .ref 24), (1, .int p0), (2, .int p1)]) (st1 := [.int p0, .ref 50]) (fun _ _ _ => rfl) ?_
          refine jg_lal rfl kc_50 (fun g8 => ?_)
          exact jg_rl rfl rfl rfl
    · exact jg_thr rfl (fun _ _ _ => rfl) rfl (by omega) (by show 0 + 81 ≤ rL; omega) rfl
noncomputable def F_J_count (p0 : Int32) (S : jS) : Option ((Int64 ⊕ Nat) × jS) := j_xv (F_J_checkRange ((p0 : Int32).toInt64) 0 5 S) (fun c S => (.inr c, S)) (fun S1 => if p0 = 0 then (some (.inl (S1.2.1 24 8), S1)) else (if p0 = 1 then (some (.inl ((S1.1 24 11 : Int32).toInt64), S1)) else (if p0 = 2 then (some (.inl ((S1.1 24 14 : Int32).toInt64), S1)) else (if p0 = 3 then (some (.inl (S1.2.1 47 4), S1)) else (if p0 = 4 then (some (.inl ((S1.1 25 1 : Int32).toInt64), S1)) else (some (.inl ((S1.1 25 3 : Int32).toInt64), S1)))))))
set_option maxRecDepth 20000 in
theorem kF_J_count {q : Nat} (p0 : Int32) (S : jS) (rF rL : Nat) (hF : 7 ≤ rF) (hL : 106 ≤ rL)  : jg q jp_J_count rF rL 0 [(0, .ref 24), (1, .int p0)] [] S 0 x_L (F_J_count p0 S) := by
  unfold F_J_count
  refine jg_sg 4 (pc1 := 6) (lv1 := [(0, .ref 24), (1, .int p0)]) (st1 := [.long 5, .long 0, .long ((p0 : Int32).toInt64)]) (fun _ _ _ => rfl) ?_
  refine jg_cxV (m2 := jp_J_checkRange) (As := [.long ((p0 : Int32).toInt64), .long 0, .long 5]) (r := []) (mx := 6) (jh_s rfl (fun _ _ _ => rfl) rfl rfl rfl (by omega) (by omega) (Nat.le_of_ble_eq_true rfl)) rfl (fun _ _ => rfl) (kF_J_checkRange ((p0 : Int32).toInt64) 0 5 S _ _ (by omega) (by omega) ) (fun S1 => ?_)
  refine jg_sg 1 (pc1 := 10) (lv1 := [(0, .ref 24), (1, .int p0)]) (st1 := [.int p0]) (fun _ _ _ => rfl) ?_
  refine jg_sw (fun _ _ _ _ e k => jt_tabEq (t := 44) (off := 34) rfl e (by decide) rfl rfl k) (fun c2 => ?_) (fun c2 => ?_)
  · refine jg_sg 1 (pc1 := 45) (lv1 := [(0, .ref 24), (1, .int p0)]) (st1 := [.ref 24]) (fun _ _ _ => rfl) ?_
    refine jg_g (v := .long (S1.2.1 24 8)) rfl kc_24 rfl rfl ?_
    exact jg_rl rfl rfl rfl
  · skip
    refine jg_sw (fun _ _ _ _ e k => jt_tabEq (t := 49) (off := 39) rfl e (by decide) rfl rfl k) (fun c3 => ?_) (fun c3 => ?_)
    · refine jg_sg 1 (pc1 := 50) (lv1 := [(0, .ref 24), (1, .int p0)]) (st1 := [.ref 24]) (fun _ _ _ => rfl) ?_
      refine jg_g (v := .int (S1.1 24 11)) rfl kc_24 rfl rfl ?_
      refine jg_sg 1 (pc1 := 54) (lv1 := [(0, .ref 24), (1, .int p0)]) (st1 := [.long ((S1.1 24 11 : Int32).toInt64)]) (fun _ _ _ => rfl) ?_
      exact jg_rl rfl rfl rfl
    · skip
      refine jg_sw (fun _ _ _ _ e k => jt_tabEq (t := 55) (off := 45) rfl e (by decide) rfl rfl k) (fun c4 => ?_) (fun c4 => ?_)
      · refine jg_sg 1 (pc1 := 56) (lv1 := [(0, .ref 24), (1, .int p0)]) (st1 := [.ref 24]) (fun _ _ _ => rfl) ?_
        refine jg_g (v := .int (S1.1 24 14)) rfl kc_24 rfl rfl ?_
        refine jg_sg 1 (pc1 := 60) (lv1 := [(0, .ref 24), (1, .int p0)]) (st1 := [.long ((S1.1 24 14 : Int32).toInt64)]) (fun _ _ _ => rfl) ?_
        exact jg_rl rfl rfl rfl
      · skip
        refine jg_sw (fun _ _ _ _ e k => jt_tabEq (t := 61) (off := 51) rfl e (by decide) rfl rfl k) (fun c5 => ?_) (fun c5 => ?_)
        · refine jg_sg 1 (pc1 := 62) (lv1 := [(0, .ref 24), (1, .int p0)]) (st1 := [.ref 24]) (fun _ _ _ => rfl) ?_
          refine jg_g (v := .ref 47) rfl kc_24 rfl rfl ?_
          refine jg_g (v := .long (S1.2.1 47 4)) rfl kc_47 rfl rfl ?_
          exact jg_rl rfl rfl rfl
        · skip
          refine jg_sw (fun _ _ _ _ e k => jt_tabEq (t := 69) (off := 59) rfl e (by decide) rfl rfl k) (fun c6 => ?_) (fun c6 => ?_)
          · refine jg_sg 1 (pc1 := 70) (lv1 := [(0, .ref 24), (1, .int p0)]) (st1 := [.ref 24]) (fun _ _ _ => rfl) ?_
            refine jg_g (v := .ref 25) rfl kc_24 rfl rfl ?_
            refine jg_g (v := .int (S1.1 25 1)) rfl kc_25 rfl rfl ?_
            refine jg_sg 1 (pc1 := 77) (lv1 := [(0, .ref 24), (1, .int p0)]) (st1 := [.long ((S1.1 25 1 : Int32).toInt64)]) (fun _ _ _ => rfl) ?_
            exact jg_rl rfl rfl rfl
          · skip
            refine jg_st (fun _ _ _ _ _ k => jt_tabOut (t := 78) rfl (by have q0 := lv_neT c2 (a := 0) rfl; have q1 := lv_neT c3 (a := 1) rfl; have q2 := lv_neT c4 (a := 2) rfl; have q3 := lv_neT c5 (a := 3) rfl; have q4 := lv_neT c6 (a := 4) rfl; omega) rfl k) ?_
            refine jg_sg 1 (pc1 := 79) (lv1 := [(0, .ref 24), (1, .int p0)]) (st1 := [.ref 24]) (fun _ _ _ => rfl) ?_
            refine jg_g (v := .ref 25) rfl kc_24 rfl rfl ?_
            refine jg_g (v := .int (S1.1 25 3)) rfl kc_25 rfl rfl ?_
            refine jg_sg 1 (pc1 := 86) (lv1 := [(0, .ref 24), (1, .int p0)]) (st1 := [.long ((S1.1 25 3 : Int32).toInt64)]) (fun _ _ _ => rfl) ?_
            exact jg_rl rfl rfl rfl
noncomputable def F_M_thrown  (S : jS) : Option Int32 := some (S.1 215 0)
set_option maxRecDepth 20000 in
theorem kF_M_thrown {q : Nat}  (S : jS) (rF rL : Nat) (hF : 0 ≤ rF) (hL : 0 ≤ rL)  : jg q jp_M_thrown rF rL 0 [(0, .ref 215)] [] S 0 (p_I S) (F_M_thrown S) := by
  unfold F_M_thrown
  refine jg_sg 1 (pc1 := 1) (lv1 := [(0, .ref 215)]) (st1 := [.ref 215]) (fun _ _ _ => rfl) ?_
  refine jg_g (v := .int (S.1 215 0)) rfl kc_215 rfl rfl ?_
  exact jg_ri rfl rfl rfl rfl
noncomputable def F_M_fail (p0 : Int32) (S : jS) : Option (Int32 × jS) := j_l (w_i S 215 0 p0) (fun S1 => some (0, S1))
set_option maxRecDepth 20000 in
theorem kF_M_fail {q : Nat} (p0 : Int32) (S : jS) (rF rL : Nat) (hF : 0 ≤ rF) (hL : 0 ≤ rL)  : jg q jp_M_fail rF rL 0 [(0, .ref 215), (1, .int p0)] [] S 0 s_I (F_M_fail p0 S) := by
  unfold F_M_fail
  refine jg_sg 2 (pc1 := 2) (lv1 := [(0, .ref 215), (1, .int p0)]) (st1 := [.int p0, .ref 215]) (fun _ _ _ => rfl) ?_
  refine jg_pi rfl kc_215 rfl (Nat.le_of_ble_eq_true rfl) rfl rfl (fun S1 _ => ?_)
  refine jg_sg 1 (pc1 := 6) (lv1 := [(0, .ref 215), (1, .int p0)]) (st1 := [.int 0]) (fun _ _ _ => rfl) ?_
  exact jg_ri rfl rfl rfl rfl
noncomputable def J_M_leap_13 (S : jS) (x0 : Int32) : Option Int32 := if (x0 - x0 / 400 * 400) = 0 then (some 1) else (some 0)
set_option maxRecDepth 20000 in
theorem kJ_M_leap_13 {q rF rL : Nat} (hF : 0 ≤ rF) (hL : 0 ≤ rL) (S : jS)  (x0 : Int32) : jg q jp_M_leap rF rL 13 [(0, .int x0)] [] S 0 (p_I S) (J_M_leap_13 S x0) := by
  unfold J_M_leap_13
  refine jg_sg 2 (pc1 := 17) (lv1 := [(0, .int x0)]) (st1 := [.int 400, .int x0]) (fun _ _ _ => rfl) ?_
  refine jg_st (fun _ _ _ _ _ k => jt_irem rfl (by decide +kernel) k) ?_
  refine jg_br (fun _ _ _ _ k1 k2 => jt_if_ne (t := 25) rfl rfl k2 k1) (fun c3 => ?_) (fun c3 => ?_)
  · refine jg_sg 2 (pc1 := 26) (lv1 := [(0, .int x0)]) (st1 := [.int 1]) (fun _ _ _ => rfl) ?_
    exact jg_ri rfl rfl rfl rfl
  · refine jg_sg 1 (pc1 := 26) (lv1 := [(0, .int x0)]) (st1 := [.int 0]) (fun _ _ _ => rfl) ?_
    exact jg_ri rfl rfl rfl rfl
noncomputable def F_M_leap (p0 : Int32) (S : jS) : Option Int32 := if (p0 - p0 / 4 * 4) = 0 then (if (p0 - p0 / 100 * 100) = 0 then (J_M_leap_13 S p0) else (some 1)) else (J_M_leap_13 S p0)
set_option maxRecDepth 20000 in
theorem kF_M_leap {q : Nat} (p0 : Int32) (S : jS) (rF rL : Nat) (hF : 0 ≤ rF) (hL : 0 ≤ rL)  : jg q jp_M_leap rF rL 0 [(0, .int p0)] [] S 0 (p_I S) (F_M_leap p0 S) := by
  unfold F_M_leap
  refine jg_sg 2 (pc1 := 2) (lv1 := [(0, .int p0)]) (st1 := [.int 4, .int p0]) (fun _ _ _ => rfl) ?_
  refine jg_st (fun _ _ _ _ _ k => jt_irem rfl (by decide +kernel) k) ?_
  refine jg_br (fun _ _ _ _ k1 k2 => jt_if_ne (t := 13) rfl rfl k2 k1) (fun c1 => ?_) (fun c1 => ?_)
  · refine jg_sg 2 (pc1 := 9) (lv1 := [(0, .int p0)]) (st1 := [.int 100, .int p0]) (fun _ _ _ => rfl) ?_
    refine jg_st (fun _ _ _ _ _ k => jt_irem rfl (by decide +kernel) k) ?_
    refine jg_br (fun _ _ _ _ k1 k2 => jt_if_ne (t := 21) rfl rfl k2 k1) (fun c2 => ?_) (fun c2 => ?_)
    · refine jg_lvs (lv1 := [(0, .int p0)]) rfl rfl ⟨rfl, trivial⟩ ?_
      exact kJ_M_leap_13 (by omega) (by omega) S p0
    · refine jg_sg 2 (pc1 := 26) (lv1 := [(0, .int p0)]) (st1 := [.int 1]) (fun _ _ _ => rfl) ?_
      exact jg_ri rfl rfl rfl rfl
  · refine jg_lvs (lv1 := [(0, .int p0)]) rfl rfl ⟨rfl, trivial⟩ ?_
    exact kJ_M_leap_13 (by omega) (by omega) S p0
noncomputable def F_M_length (p0 : Int32) (p1 : Int32) (S : jS) : Option Int32 := if p1 = 2 then ((F_M_leap p0 S).bind (fun z2 => if z2 = 0 then (some 28) else (some 29))) else (if p1 = 4 then (some 30) else (if p1 = 6 then (some 30) else (if p1 = 9 then (some 30) else (if p1 = 11 then (some 30) else (some 31)))))
set_option maxRecDepth 20000 in
theorem kF_M_length {q : Nat} (p0 : Int32) (p1 : Int32) (S : jS) (rF rL : Nat) (hF : 1 ≤ rF) (hL : 20 ≤ rL)  : jg q jp_M_length rF rL 0 [(0, .int p0), (1, .int p1)] [] S 0 (p_I S) (F_M_length p0 p1 S) := by
  unfold F_M_length
  refine jg_sg 2 (pc1 := 2) (lv1 := [(0, .int p0), (1, .int p1)]) (st1 := [.int 2, .int p1]) (fun _ _ _ => rfl) ?_
  refine jg_br (fun _ _ _ _ k1 k2 => jt_icmp_ne (t := 22) rfl rfl k2 k1) (fun c1 => ?_) (fun c1 => ?_)
  · refine jg_sg 1 (pc1 := 6) (lv1 := [(0, .int p0), (1, .int p1)]) (st1 := [.int p0]) (fun _ _ _ => rfl) ?_
    refine jg_cpI (m2 := jp_M_leap) (As := [.int p0]) (r := []) (mx := 1) (jh_s rfl (fun _ _ _ => rfl) rfl rfl rfl (by omega) (by omega) (Nat.le_of_ble_eq_true rfl)) (kF_M_leap p0 S _ _ (by omega) (by omega) ) (fun z2 => ?_)
    refine jg_br (fun _ _ _ _ k1 k2 => jt_if_eq (t := 17) rfl rfl k1 k2) (fun c3 => ?_) (fun c3 => ?_)
    · refine jg_sg 2 (pc1 := 52) (lv1 := [(0, .int p0), (1, .int p1)]) (st1 := [.int 28]) (fun _ _ _ => rfl) ?_
      exact jg_ri rfl rfl rfl rfl
    · refine jg_sg 2 (pc1 := 52) (lv1 := [(0, .int p0), (1, .int p1)]) (st1 := [.int 29]) (fun _ _ _ => rfl) ?_
      exact jg_ri rfl rfl rfl rfl
  · refine jg_sg 2 (pc1 := 24) (lv1 := [(0, .int p0), (1, .int p1)]) (st1 := [.int 4, .int p1]) (fun _ _ _ => rfl) ?_
    refine jg_br (fun _ _ _ _ k1 k2 => jt_icmp_eq (t := 45) rfl rfl k1 k2) (fun c4 => ?_) (fun c4 => ?_)
    · refine jg_sg 2 (pc1 := 52) (lv1 := [(0, .int p0), (1, .int p1)]) (st1 := [.int 30]) (fun _ _ _ => rfl) ?_
      exact jg_ri rfl rfl rfl rfl
    · refine jg_sg 2 (pc1 := 30) (lv1 := [(0, .int p0), (1, .int p1)]) (st1 := [.int 6, .int p1]) (fun _ _ _ => rfl) ?_
      refine jg_br (fun _ _ _ _ k1 k2 => jt_icmp_eq (t := 45) rfl rfl k1 k2) (fun c5 => ?_) (fun c5 => ?_)
      · refine jg_sg 2 (pc1 := 52) (lv1 := [(0, .int p0), (1, .int p1)]) (st1 := [.int 30]) (fun _ _ _ => rfl) ?_
        exact jg_ri rfl rfl rfl rfl
      · refine jg_sg 2 (pc1 := 36) (lv1 := [(0, .int p0), (1, .int p1)]) (st1 := [.int 9, .int p1]) (fun _ _ _ => rfl) ?_
        refine jg_br (fun _ _ _ _ k1 k2 => jt_icmp_eq (t := 45) rfl rfl k1 k2) (fun c6 => ?_) (fun c6 => ?_)
        · refine jg_sg 2 (pc1 := 52) (lv1 := [(0, .int p0), (1, .int p1)]) (st1 := [.int 30]) (fun _ _ _ => rfl) ?_
          exact jg_ri rfl rfl rfl rfl
        · refine jg_sg 2 (pc1 := 42) (lv1 := [(0, .int p0), (1, .int p1)]) (st1 := [.int 11, .int p1]) (fun _ _ _ => rfl) ?_
          refine jg_br (fun _ _ _ _ k1 k2 => jt_icmp_ne (t := 50) rfl rfl k2 k1) (fun c7 => ?_) (fun c7 => ?_)
          · refine jg_sg 2 (pc1 := 52) (lv1 := [(0, .int p0), (1, .int p1)]) (st1 := [.int 30]) (fun _ _ _ => rfl) ?_
            exact jg_ri rfl rfl rfl rfl
          · refine jg_sg 1 (pc1 := 52) (lv1 := [(0, .int p0), (1, .int p1)]) (st1 := [.int 31]) (fun _ _ _ => rfl) ?_
            exact jg_ri rfl rfl rfl rfl
noncomputable def L_M_number_36 (S : jS) : Nat → Int32 → Int32 → Int32 → Int32 → Option Int32
  | 0, _, _, _, _ => none
  | f + 1, x0, x1, x3, x4 => if x1 ≤ x4 then (some x3) else ((F_M_length x0 x4 S).bind (fun z4 => j_l (x3 + z4 : Int32) (fun v5 => (L_M_number_36 S f) x0 x1 v5 (x4 + 1))))
set_option maxRecDepth 20000 in
theorem kL_M_number_36 {q rF rL : Nat} (hF : 2 ≤ rF) (hL : 41 ≤ rL) (S : jS)  : ∀ (f : Nat) (x0 : Int32) (x1 : Int32) (x3 : Int32) (x4 : Int32), jg q jp_M_number rF rL 36 [(0, .int x0), (1, .int x1), (3, .int x3), (4, .int x4)] [] S 0 (p_I S) (L_M_number_36 S f x0 x1 x3 x4) := by
  intro f
  induction f with
  | zero => intro _ _ _ _; exact jg_none
  | succ f ih36 =>
    intro x0 x1 x3 x4
    rw [L_M_number_36]
    refine jg_sg 2 (pc1 := 39) (lv1 := [(0, .int x0), (1, .int x1), (3, .int x3), (4, .int x4)]) (st1 := [.int x1, .int x4]) (fun _ _ _ => rfl) ?_
    refine jg_br (fun _ _ _ _ k1 k2 => jt_icmp_ge (t := 57) rfl rfl k1 k2) (fun c3 => ?_) (fun c3 => ?_)
    · refine jg_sg 1 (pc1 := 58) (lv1 := [(0, .int x0), (1, .int x1), (3, .int x3), (4, .int x4)]) (st1 := [.int x3]) (fun _ _ _ => rfl) ?_
      exact jg_ri rfl rfl rfl rfl
    · refine jg_sg 3 (pc1 := 46) (lv1 := [(0, .int x0), (1, .int x1), (3, .int x3), (4, .int x4)]) (st1 := [.int x4, .int x0, .int x3]) (fun _ _ _ => rfl) ?_
      refine jg_cpI (m2 := jp_M_length) (As := [.int x0, .int x4]) (r := [.int x3]) (mx := 2) (jh_s rfl (fun _ _ _ => rfl) rfl rfl rfl (by omega) (by omega) (Nat.le_of_ble_eq_true rfl)) (kF_M_length x0 x4 S _ _ (by omega) (by omega) ) (fun z4 => ?_)
      refine jg_sg 2 (pc1 := 51) (lv1 := [(3, .int (x3 + z4)), (0, .int x0), (1, .int x1), (4, .int x4)]) (st1 := []) (fun _ _ _ => rfl) ?_
      refine jg_vi (fun v5 => ?_)
      refine jg_sg 2 (pc1 := 36) (lv1 := [(4, .int (x4 + 1)), (3, .int v5), (0, .int x0), (1, .int x1)]) (st1 := []) (fun _ _ _ => rfl) ?_
      refine jg_lvs (lv1 := [(0, .int x0), (1, .int x1), (3, .int v5), (4, .int (x4 + 1))]) rfl rfl ⟨rfl, rfl, rfl, rfl, trivial⟩ ?_
      exact ih36 x0 x1 v5 (x4 + 1)
noncomputable def F_M_number (p0 : Int32) (p1 : Int32) (S : jS) : Option Int32 := j_l (p0 - 1 : Int32) (fun v1 => j_l (((((365 * (p0 - 1970)) + (v1 / 4)) - (v1 / 100)) + (v1 / 400)) - 477 : Int32) (fun v2 => L_M_number_36 S ju_ p0 p1 v2 1))
set_option maxRecDepth 20000 in
theorem kF_M_number {q : Nat} (p0 : Int32) (p1 : Int32) (S : jS) (rF rL : Nat) (hF : 2 ≤ rF) (hL : 41 ≤ rL)  : jg q jp_M_number rF rL 0 [(0, .int p0), (1, .int p1)] [] S 0 (p_I S) (F_M_number p0 p1 S) := by
  unfold F_M_number
  refine jg_sg 4 (pc1 := 4) (lv1 := [(2, .int (p0 - 1)), (0, .int p0), (1, .int p1)]) (st1 := []) (fun _ _ _ => rfl) ?_
  refine jg_vi (fun v1 => ?_)
  refine jg_sg 7 (pc1 := 15) (lv1 := [(2, .int v1), (0, .int p0), (1, .int p1)]) (st1 := [.int 4, .int v1, .int (365 * (p0 - 1970))]) (fun _ _ _ => rfl) ?_
  refine jg_st (fun _ _ _ _ _ k => jt_idiv rfl (by decide +kernel) k) ?_
  refine jg_sg 3 (pc1 := 20) (lv1 := [(2, .int v1), (0, .int p0), (1, .int p1)]) (st1 := [.int 100, .int v1, .int ((365 * (p0 - 1970)) + (v1 / 4))]) (fun _ _ _ => rfl) ?_
  refine jg_st (fun _ _ _ _ _ k => jt_idiv rfl (by decide +kernel) k) ?_
  refine jg_sg 3 (pc1 := 26) (lv1 := [(2, .int v1), (0, .int p0), (1, .int p1)]) (st1 := [.int 400, .int v1, .int (((365 * (p0 - 1970)) + (v1 / 4)) - (v1 / 100))]) (fun _ _ _ => rfl) ?_
  refine jg_st (fun _ _ _ _ _ k => jt_idiv rfl (by decide +kernel) k) ?_
  refine jg_sg 4 (pc1 := 33) (lv1 := [(3, .int (((((365 * (p0 - 1970)) + (v1 / 4)) - (v1 / 100)) + (v1 / 400)) - 477)), (2, .int v1), (0, .int p0), (1, .int p1)]) (st1 := []) (fun _ _ _ => rfl) ?_
  refine jg_vi (fun v2 => ?_)
  refine jg_sg 2 (pc1 := 36) (lv1 := [(4, .int 1), (3, .int v2), (2, .int v1), (0, .int p0), (1, .int p1)]) (st1 := []) (fun _ _ _ => rfl) ?_
  refine jg_lvs (lv1 := [(0, .int p0), (1, .int p1), (3, .int v2), (4, .int 1)]) rfl rfl ⟨rfl, rfl, rfl, rfl, trivial⟩ ?_
  exact kL_M_number_36 (by omega) (by omega) S ju_ p0 p1 v2 1
end JF8
