section JF1
noncomputable def L_T_addWord_3  : Nat → Int32 → Int32 → jS → Option jS
  | 0, _, _, _ => none
  | f + 1, x1, x2, S => if x2 < 0 then (some S) else (if 400 ≤ (S.1 25 1) then (some S) else (j_q (j_in (S.1 25 1) 400) (j_l (w_i S 26 ((S.1 25 1 : Int32).toNatClampNeg) (vp_nar .byte (((x1 : Int32) >>> (x2 &&& 31) : Int32).toInt8.toInt32))) (fun S4 => j_l (w_i S4 25 1 ((S4.1 25 1) + 1)) (fun S5 => (L_T_addWord_3 f) x1 (x2 + (-8)) S5)))))
set_option maxRecDepth 20000 in
theorem kL_T_addWord_3 {q rF rL : Nat} (hF : 0 ≤ rF) (hL : 0 ≤ rL)   : ∀ (f : Nat) (x1 : Int32) (x2 : Int32) (S : jS), jg q jp_T_addWord rF rL 3 [(0, .ref 25), (1, .int x1), (2, .int x2)] [] S 0 s_V (L_T_addWord_3 f x1 x2 S) := by
  intro f
  induction f with
  | zero => intro _ _ _; exact jg_none
  | succ f ih3 =>
    intro x1 x2 S
    rw [L_T_addWord_3]
    refine jg_sg 1 (pc1 := 4) (lv1 := [(0, .ref 25), (1, .int x1), (2, .int x2)]) (st1 := [.int x2]) (fun _ _ _ => rfl) ?_
    refine jg_br (fun _ _ _ _ k1 k2 => jt_if_lt (t := 46) rfl rfl k1 k2) (fun c1 => ?_) (fun c1 => ?_)
    · exact jg_rv rfl rfl rfl
    · refine jg_sg 1 (pc1 := 8) (lv1 := [(0, .ref 25), (1, .int x1), (2, .int x2)]) (st1 := [.ref 25]) (fun _ _ _ => rfl) ?_
      refine jg_g (v := .int (S.1 25 1)) rfl kc_25 rfl rfl ?_
      refine jg_sg 1 (pc1 := 14) (lv1 := [(0, .ref 25), (1, .int x1), (2, .int x2)]) (st1 := [.int 400, .int (S.1 25 1)]) (fun _ _ _ => rfl) ?_
      refine jg_br (fun _ _ _ _ k1 k2 => jt_icmp_ge (t := 46) rfl rfl k1 k2) (fun c2 => ?_) (fun c2 => ?_)
      · exact jg_rv rfl rfl rfl
      · refine jg_sg 1 (pc1 := 18) (lv1 := [(0, .ref 25), (1, .int x1), (2, .int x2)]) (st1 := [.ref 25]) (fun _ _ _ => rfl) ?_
        refine jg_g (v := .ref 26) rfl kc_25 rfl rfl ?_
        refine jg_sg 1 (pc1 := 22) (lv1 := [(0, .ref 25), (1, .int x1), (2, .int x2)]) (st1 := [.ref 25, .ref 26]) (fun _ _ _ => rfl) ?_
        refine jg_g (v := .int (S.1 25 1)) rfl kc_25 rfl rfl ?_
        refine jg_sg 4 (pc1 := 29) (lv1 := [(0, .ref 25), (1, .int x1), (2, .int x2)]) (st1 := [.int (((x1 : Int32) >>> (x2 &&& 31) : Int32).toInt8.toInt32), .int (S.1 25 1), .ref 26]) (fun _ _ _ => rfl) ?_
        refine jg_bas rfl rfl kc_26 rfl (fun g3 S4 _ => ?_)
        refine jg_sg 2 (pc1 := 32) (lv1 := [(0, .ref 25), (1, .int x1), (2, .int x2)]) (st1 := [.ref 25, .ref 25]) (fun _ _ _ => rfl) ?_
        refine jg_g (v := .int (S4.1 25 1)) rfl kc_25 rfl rfl ?_
        refine jg_sg 2 (pc1 := 37) (lv1 := [(0, .ref 25), (1, .int x1), (2, .int x2)]) (st1 := [.int ((S4.1 25 1) + 1), .ref 25]) (fun _ _ _ => rfl) ?_
        refine jg_pi rfl kc_25 rfl (Nat.le_of_ble_eq_true rfl) rfl rfl (fun S5 _ => ?_)
        refine jg_sg 2 (pc1 := 3) (lv1 := [(2, .int (x2 + (-8))), (0, .ref 25), (1, .int x1)]) (st1 := []) (fun _ _ _ => rfl) ?_
        refine jg_lvs (lv1 := [(0, .ref 25), (1, .int x1), (2, .int (x2 + (-8)))]) rfl rfl ⟨rfl, rfl, rfl, trivial⟩ ?_
        exact ih3 x1 (x2 + (-8)) S5
noncomputable def F_T_addWord (p0 : Int32) (S : jS) : Option jS := L_T_addWord_3 ju_ p0 24 S
set_option maxRecDepth 20000 in
theorem kF_T_addWord {q : Nat} (p0 : Int32) (S : jS) (rF rL : Nat) (hF : 0 ≤ rF) (hL : 0 ≤ rL)  : jg q jp_T_addWord rF rL 0 [(0, .ref 25), (1, .int p0)] [] S 0 s_V (F_T_addWord p0 S) := by
  unfold F_T_addWord
  refine jg_sg 2 (pc1 := 3) (lv1 := [(2, .int 24), (0, .ref 25), (1, .int p0)]) (st1 := []) (fun _ _ _ => rfl) ?_
  refine jg_lvs (lv1 := [(0, .ref 25), (1, .int p0), (2, .int 24)]) rfl rfl ⟨rfl, rfl, rfl, trivial⟩ ?_
  exact kL_T_addWord_3 (by omega) (by omega) ju_ p0 24 S
noncomputable def F_J_feed (p0 : Int32) (p1 : Int32) (p2 : Int32) (p3 : Int32) (p4 : Int32) (S : jS) : Option ((Int32 ⊕ Nat) × jS) := if ((S.1 25 1) + 20) ≤ 400 then ((F_T_addWord p0 S).bind (fun z2 => (F_T_addWord p1 z2).bind (fun z3 => (F_T_addWord p2 z3).bind (fun z4 => (F_T_addWord p3 z4).bind (fun z5 => (F_T_addWord p4 z5).bind (fun z6 => some (.inl (z6.1 25 1), z6))))))) else (some (.inr 10, S))
set_option maxRecDepth 20000 in
theorem kF_J_feed {q : Nat} (p0 : Int32) (p1 : Int32) (p2 : Int32) (p3 : Int32) (p4 : Int32) (S : jS) (rF rL : Nat) (hF : 6 ≤ rF) (hL : 81 ≤ rL)  : jg q jp_J_feed rF rL 0 [(0, .ref 24), (1, .int p0), (2, .int p1), (3, .int p2), (4, .int p3), (5, .int p4)] [] S 0 x_I (F_J_feed p0 p1 p2 p3 p4 S) := by
  unfold F_J_feed
  refine jg_sg 1 (pc1 := 1) (lv1 := [(0, .ref 24), (1, .int p0), (2, .int p1), (3, .int p2), (4, .int p3), (5, .int p4)]) (st1 := [.ref 24]) (fun _ _ _ => rfl) ?_
  refine jg_g (v := .ref 25) rfl kc_24 rfl rfl ?_
  refine jg_g (v := .int (S.1 25 1)) rfl kc_25 rfl rfl ?_
  refine jg_sg 3 (pc1 := 13) (lv1 := [(0, .ref 24), (1, .int p0), (2, .int p1), (3, .int p2), (4, .int p3), (5, .int p4)]) (st1 := [.int 400, .int ((S.1 25 1) + 20)]) (fun _ _ _ => rfl) ?_
  refine jg_br (fun _ _ _ _ k1 k2 => jt_icmp_le (t := 24) rfl rfl k1 k2) (fun c1 => ?_) (fun c1 => ?_)
  · refine jg_sg 1 (pc1 := 25) (lv1 := [(0, .ref 24), (1, .int p0), (2, .int p1), (3, .int p2), (4, .int p3), (5, .int p4)]) (st1 := [.ref 24]) (fun _ _ _ => rfl) ?_
    refine jg_g (v := .ref 25) rfl kc_24 rfl rfl ?_
    refine jg_sg 1 (pc1 := 29) (lv1 := [(0, .ref 24), (1, .int p0), (2, .int p1), (3, .int p2), (4, .int p3), (5, .int p4)]) (st1 := [.int p0, .ref 25]) (fun _ _ _ => rfl) ?_
    refine jg_csV (m2 := jp_T_addWord) (As := [.ref 25, .int p0]) (r := []) (mx := 3) (jh_v (a := 25) rfl rfl rfl kc_25 rfl (Nat.le_of_ble_eq_true rfl) rfl rfl rfl (by omega) (by omega) (Nat.le_of_ble_eq_true rfl)) (kF_T_addWord p0 S _ _ (by omega) (by omega) ) (fun z2 => ?_)
    refine jg_sg 1 (pc1 := 33) (lv1 := [(0, .ref 24), (1, .int p0), (2, .int p1), (3, .int p2), (4, .int p3), (5, .int p4)]) (st1 := [.ref 24]) (fun _ _ _ => rfl) ?_
    refine jg_g (v := .ref 25) rfl kc_24 rfl rfl ?_
    refine jg_sg 1 (pc1 := 37) (lv1 := [(0, .ref 24), (1, .int p0), (2, .int p1), (3, .int p2), (4, .int p3), (5, .int p4)]) (st1 := [.int p1, .ref 25]) (fun _ _ _ => rfl) ?_
    refine jg_csV (m2 := jp_T_addWord) (As := [.ref 25, .int p1]) (r := []) (mx := 3) (jh_v (a := 25) rfl rfl rfl kc_25 rfl (Nat.le_of_ble_eq_true rfl) rfl rfl rfl (by omega) (by omega) (Nat.le_of_ble_eq_true rfl)) (kF_T_addWord p1 z2 _ _ (by omega) (by omega) ) (fun z3 => ?_)
    refine jg_sg 1 (pc1 := 41) (lv1 := [(0, .ref 24), (1, .int p0), (2, .int p1), (3, .int p2), (4, .int p3), (5, .int p4)]) (st1 := [.ref 24]) (fun _ _ _ => rfl) ?_
    refine jg_g (v := .ref 25) rfl kc_24 rfl rfl ?_
    refine jg_sg 1 (pc1 := 45) (lv1 := [(0, .ref 24), (1, .int p0), (2, .int p1), (3, .int p2), (4, .int p3), (5, .int p4)]) (st1 := [.int p2, .ref 25]) (fun _ _ _ => rfl) ?_
    refine jg_csV (m2 := jp_T_addWord) (As := [.ref 25, .int p2]) (r := []) (mx := 3) (jh_v (a := 25) rfl rfl rfl kc_25 rfl (Nat.le_of_ble_eq_true rfl) rfl rfl rfl (by omega) (by omega) (Nat.le_of_ble_eq_true rfl)) (kF_T_addWord p2 z3 _ _ (by omega) (by omega) ) (fun z4 => ?_)
    refine jg_sg 1 (pc1 := 49) (lv1 := [(0, .ref 24), (1, .int p0), (2, .int p1), (3, .int p2), (4, .int p3), (5, .int p4)]) (st1 := [.ref 24]) (fun _ _ _ => rfl) ?_
    refine jg_g (v := .ref 25) rfl kc_24 rfl rfl ?_
    refine jg_sg 1 (pc1 := 54) (lv1 := [(0, .ref 24), (1, .int p0), (2, .int p1), (3, .int p2), (4, .int p3), (5, .int p4)]) (st1 := [.int p3, .ref 25]) (fun _ _ _ => rfl) ?_
    refine jg_csV (m2 := jp_T_addWord) (As := [.ref 25, .int p3]) (r := []) (mx := 3) (jh_v (a := 25) rfl rfl rfl kc_25 rfl (Nat.le_of_ble_eq_true rfl) rfl rfl rfl (by omega) (by omega) (Nat.le_of_ble_eq_true rfl)) (kF_T_addWord p3 z4 _ _ (by omega) (by omega) ) (fun z5 => ?_)
    refine jg_sg 1 (pc1 := 58) (lv1 := [(0, .ref 24), (1, .int p0), (2, .int p1), (3, .int p2), (4, .int p3), (5, .int p4)]) (st1 := [.ref 24]) (fun _ _ _ => rfl) ?_
    refine jg_g (v := .ref 25) rfl kc_24 rfl rfl ?_
    refine jg_sg 1 (pc1 := 63) (lv1 := [(0, .ref 24), (1, .int p0), (2, .int p1), (3, .int p2), (4, .int p3), (5, .int p4)]) (st1 := [.int p4, .ref 25]) (fun _ _ _ => rfl) ?_
    refine jg_csV (m2 := jp_T_addWord) (As := [.ref 25, .int p4]) (r := []) (mx := 3) (jh_v (a := 25) rfl rfl rfl kc_25 rfl (Nat.le_of_ble_eq_true rfl) rfl rfl rfl (by omega) (by omega) (Nat.le_of_ble_eq_true rfl)) (kF_T_addWord p4 z5 _ _ (by omega) (by omega) ) (fun z6 => ?_)
    refine jg_sg 1 (pc1 := 67) (lv1 := [(0, .ref 24), (1, .int p0), (2, .int p1), (3, .int p2), (4, .int p3), (5, .int p4)]) (st1 := [.ref 24]) (fun _ _ _ => rfl) ?_
    refine jg_g (v := .ref 25) rfl kc_24 rfl rfl ?_
    refine jg_g (v := .int (z6.1 25 1)) rfl kc_25 rfl rfl ?_
    exact jg_ri rfl rfl rfl rfl
  · exact jg_thr rfl (fun _ _ _ => rfl) rfl (by omega) (by show 0 + 81 ≤ rL; omega) rfl
noncomputable def F_J_checkRange (p0 : Int64) (p1 : Int64) (p2 : Int64) (S : jS) : Option (Option Nat × jS) := if p0 < p1 then (some (some 11, S)) else (if p0 ≤ p2 then (some (none, S)) else (some (some 11, S)))
set_option maxRecDepth 20000 in
theorem kF_J_checkRange {q : Nat} (p0 : Int64) (p1 : Int64) (p2 : Int64) (S : jS) (rF rL : Nat) (hF : 6 ≤ rF) (hL : 81 ≤ rL)  : jg q jp_J_checkRange rF rL 0 [(0, .long p0), (2, .long p1), (4, .long p2)] [] S 0 x_V (F_J_checkRange p0 p1 p2 S) := by
  unfold F_J_checkRange
  refine jg_sg 3 (pc1 := 3) (lv1 := [(0, .long p0), (2, .long p1), (4, .long p2)]) (st1 := [.int (lg_cmp p0 p1)]) (fun _ _ _ => rfl) ?_
  refine jg_br (fun _ _ _ _ k1 k2 => jt_lif_lt (t := 13) rfl rfl k1 k2) (fun c1 => ?_) (fun c1 => ?_)
  · exact jg_thr rfl (fun _ _ _ => rfl) rfl (by omega) (by show 0 + 81 ≤ rL; omega) rfl
  · refine jg_sg 3 (pc1 := 10) (lv1 := [(0, .long p0), (2, .long p1), (4, .long p2)]) (st1 := [.int (lg_cmp p0 p2)]) (fun _ _ _ => rfl) ?_
    refine jg_br (fun _ _ _ _ k1 k2 => jt_lif_le (t := 21) rfl rfl k1 k2) (fun c2 => ?_) (fun c2 => ?_)
    · exact jg_rv rfl rfl rfl
    · exact jg_thr rfl (fun _ _ _ => rfl) rfl (by omega) (by show 0 + 81 ≤ rL; omega) rfl
noncomputable def F_J_end (p0 : Int32) (S : jS) : Option ((Int32 ⊕ Nat) × jS) := j_xv (F_J_checkRange ((p0 : Int32).toInt64) 0 ((S.1 25 1 : Int32).toInt64) S) (fun c S => (.inr c, S)) (fun S1 => j_l (w_i S1 25 1 p0) (fun S2 => some (.inl p0, S2)))
set_option maxRecDepth 20000 in
theorem kF_J_end {q : Nat} (p0 : Int32) (S : jS) (rF rL : Nat) (hF : 7 ≤ rF) (hL : 106 ≤ rL)  : jg q jp_J_end rF rL 0 [(0, .ref 24), (1, .int p0)] [] S 0 x_I (F_J_end p0 S) := by
  unfold F_J_end
  refine jg_sg 4 (pc1 := 4) (lv1 := [(0, .ref 24), (1, .int p0)]) (st1 := [.ref 24, .long 0, .long ((p0 : Int32).toInt64)]) (fun _ _ _ => rfl) ?_
  refine jg_g (v := .ref 25) rfl kc_24 rfl rfl ?_
  refine jg_g (v := .int (S.1 25 1)) rfl kc_25 rfl rfl ?_
  refine jg_sg 1 (pc1 := 11) (lv1 := [(0, .ref 24), (1, .int p0)]) (st1 := [.long ((S.1 25 1 : Int32).toInt64), .long 0, .long ((p0 : Int32).toInt64)]) (fun _ _ _ => rfl) ?_
  refine jg_cxV (m2 := jp_J_checkRange) (As := [.long ((p0 : Int32).toInt64), .long 0, .long ((S.1 25 1 : Int32).toInt64)]) (r := []) (mx := 6) (jh_s rfl (fun _ _ _ => rfl) rfl rfl rfl (by omega) (by omega) (Nat.le_of_ble_eq_true rfl)) rfl (fun _ _ => rfl) (kF_J_checkRange ((p0 : Int32).toInt64) 0 ((S.1 25 1 : Int32).toInt64) S _ _ (by omega) (by omega) ) (fun S1 => ?_)
  refine jg_sg 1 (pc1 := 15) (lv1 := [(0, .ref 24), (1, .int p0)]) (st1 := [.ref 24]) (fun _ _ _ => rfl) ?_
  refine jg_g (v := .ref 25) rfl kc_24 rfl rfl ?_
  refine jg_sg 1 (pc1 := 19) (lv1 := [(0, .ref 24), (1, .int p0)]) (st1 := [.int p0, .ref 25]) (fun _ _ _ => rfl) ?_
  refine jg_pi rfl kc_25 rfl (Nat.le_of_ble_eq_true rfl) rfl rfl (fun S2 _ => ?_)
  refine jg_sg 1 (pc1 := 23) (lv1 := [(0, .ref 24), (1, .int p0)]) (st1 := [.int p0]) (fun _ _ _ => rfl) ?_
  exact jg_ri rfl rfl rfl rfl
noncomputable def F_T_rewind  (S : jS) : Option jS := j_l (w_i S 25 2 0) (fun S1 => j_l (w_i S1 25 3 (-1)) (fun S2 => some S2))
set_option maxRecDepth 20000 in
theorem kF_T_rewind {q : Nat}  (S : jS) (rF rL : Nat) (hF : 0 ≤ rF) (hL : 0 ≤ rL)  : jg q jp_T_rewind rF rL 0 [(0, .ref 25)] [] S 0 s_V (F_T_rewind S) := by
  unfold F_T_rewind
  refine jg_sg 2 (pc1 := 2) (lv1 := [(0, .ref 25)]) (st1 := [.int 0, .ref 25]) (fun _ _ _ => rfl) ?_
  refine jg_pi rfl kc_25 rfl (Nat.le_of_ble_eq_true rfl) rfl rfl (fun S1 _ => ?_)
  refine jg_sg 2 (pc1 := 7) (lv1 := [(0, .ref 25)]) (st1 := [.int (-1), .ref 25]) (fun _ _ _ => rfl) ?_
  refine jg_pi rfl kc_25 rfl (Nat.le_of_ble_eq_true rfl) rfl rfl (fun S2 _ => ?_)
  exact jg_rv rfl rfl rfl
noncomputable def F_T_peek  (S : jS) : Option Int32 := if (S.1 25 3) = (-1) then (if (S.1 25 2) < (S.1 25 1) then (j_q (j_in (S.1 25 2) 400) (some ((S.1 26 ((S.1 25 2 : Int32).toNatClampNeg)) &&& 255))) else (some (-1))) else (some (-1))
set_option maxRecDepth 20000 in
theorem kF_T_peek {q : Nat}  (S : jS) (rF rL : Nat) (hF : 0 ≤ rF) (hL : 0 ≤ rL)  : jg q jp_T_peek rF rL 0 [(0, .ref 25)] [] S 0 (p_I S) (F_T_peek S) := by
  unfold F_T_peek
  refine jg_sg 1 (pc1 := 1) (lv1 := [(0, .ref 25)]) (st1 := [.ref 25]) (fun _ _ _ => rfl) ?_
  refine jg_g (v := .int (S.1 25 3)) rfl kc_25 rfl rfl ?_
  refine jg_sg 1 (pc1 := 5) (lv1 := [(0, .ref 25)]) (st1 := [.int (-1), .int (S.1 25 3)]) (fun _ _ _ => rfl) ?_
  refine jg_br (fun _ _ _ _ k1 k2 => jt_icmp_ne (t := 19) rfl rfl k2 k1) (fun c1 => ?_) (fun c1 => ?_)
  · refine jg_sg 1 (pc1 := 9) (lv1 := [(0, .ref 25)]) (st1 := [.ref 25]) (fun _ _ _ => rfl) ?_
    refine jg_g (v := .int (S.1 25 2)) rfl kc_25 rfl rfl ?_
    refine jg_sg 1 (pc1 := 13) (lv1 := [(0, .ref 25)]) (st1 := [.ref 25, .int (S.1 25 2)]) (fun _ _ _ => rfl) ?_
    refine jg_g (v := .int (S.1 25 1)) rfl kc_25 rfl rfl ?_
    refine jg_br (fun _ _ _ _ k1 k2 => jt_icmp_lt (t := 23) rfl rfl k1 k2) (fun c2 => ?_) (fun c2 => ?_)
    · refine jg_sg 1 (pc1 := 24) (lv1 := [(0, .ref 25)]) (st1 := [.ref 25]) (fun _ _ _ => rfl) ?_
      refine jg_g (v := .ref 26) rfl kc_25 rfl rfl ?_
      refine jg_sg 1 (pc1 := 28) (lv1 := [(0, .ref 25)]) (st1 := [.ref 25, .ref 26]) (fun _ _ _ => rfl) ?_
      refine jg_g (v := .int (S.1 25 2)) rfl kc_25 rfl rfl ?_
      refine jg_bal rfl rfl kc_26 (fun g3 => ?_)
      refine jg_sg 2 (pc1 := 36) (lv1 := [(0, .ref 25)]) (st1 := [.int ((S.1 26 ((S.1 25 2 : Int32).toNatClampNeg)) &&& 255)]) (fun _ _ _ => rfl) ?_
      exact jg_ri rfl rfl rfl rfl
    · refine jg_sg 2 (pc1 := 36) (lv1 := [(0, .ref 25)]) (st1 := [.int (-1)]) (fun _ _ _ => rfl) ?_
      exact jg_ri rfl rfl rfl rfl
  · refine jg_sg 2 (pc1 := 36) (lv1 := [(0, .ref 25)]) (st1 := [.int (-1)]) (fun _ _ _ => rfl) ?_
    exact jg_ri rfl rfl rfl rfl
noncomputable def F_T_take (p0 : Int32) (S : jS) : Option (Int32 × jS) := (F_T_peek S).bind (fun z1 => if z1 = p0 then (j_l (w_i S 25 2 ((S.1 25 2) + 1)) (fun S3 => some (1, S3))) else (some (0, S)))
set_option maxRecDepth 20000 in
theorem kF_T_take {q : Nat} (p0 : Int32) (S : jS) (rF rL : Nat) (hF : 1 ≤ rF) (hL : 20 ≤ rL)  : jg q jp_T_take rF rL 0 [(0, .ref 25), (1, .int p0)] [] S 0 s_I (F_T_take p0 S) := by
  unfold F_T_take
  refine jg_sg 1 (pc1 := 1) (lv1 := [(0, .ref 25), (1, .int p0)]) (st1 := [.ref 25]) (fun _ _ _ => rfl) ?_
  refine jg_cpI (m2 := jp_T_peek) (As := [.ref 25]) (r := []) (mx := 1) (jh_v (a := 25) rfl rfl rfl kc_25 rfl (Nat.le_of_ble_eq_true rfl) rfl rfl rfl (by omega) (by omega) (Nat.le_of_ble_eq_true rfl)) (kF_T_peek S _ _ (by omega) (by omega) ) (fun z1 => ?_)
  refine jg_sg 1 (pc1 := 5) (lv1 := [(0, .ref 25), (1, .int p0)]) (st1 := [.int p0, .int z1]) (fun _ _ _ => rfl) ?_
  refine jg_br (fun _ _ _ _ k1 k2 => jt_icmp_eq (t := 10) rfl rfl k1 k2) (fun c2 => ?_) (fun c2 => ?_)
  · refine jg_sg 2 (pc1 := 12) (lv1 := [(0, .ref 25), (1, .int p0)]) (st1 := [.ref 25, .ref 25]) (fun _ _ _ => rfl) ?_
    refine jg_g (v := .int (S.1 25 2)) rfl kc_25 rfl rfl ?_
    refine jg_sg 2 (pc1 := 17) (lv1 := [(0, .ref 25), (1, .int p0)]) (st1 := [.int ((S.1 25 2) + 1), .ref 25]) (fun _ _ _ => rfl) ?_
    refine jg_pi rfl kc_25 rfl (Nat.le_of_ble_eq_true rfl) rfl rfl (fun S3 _ => ?_)
    refine jg_sg 1 (pc1 := 21) (lv1 := [(0, .ref 25), (1, .int p0)]) (st1 := [.int 1]) (fun _ _ _ => rfl) ?_
    exact jg_ri rfl rfl rfl rfl
  · refine jg_sg 1 (pc1 := 9) (lv1 := [(0, .ref 25), (1, .int p0)]) (st1 := [.int 0]) (fun _ _ _ => rfl) ?_
    exact jg_ri rfl rfl rfl rfl
noncomputable def F_T_breakAt (p0 : Int32) (S : jS) : Option jS := if (S.1 25 3) = (-1) then (j_l (w_i S 25 3 p0) (fun S2 => some S2)) else (some S)
set_option maxRecDepth 20000 in
theorem kF_T_breakAt {q : Nat} (p0 : Int32) (S : jS) (rF rL : Nat) (hF : 0 ≤ rF) (hL : 0 ≤ rL)  : jg q jp_T_breakAt rF rL 0 [(0, .ref 25), (1, .int p0)] [] S 0 s_V (F_T_breakAt p0 S) := by
  unfold F_T_breakAt
  refine jg_sg 1 (pc1 := 1) (lv1 := [(0, .ref 25), (1, .int p0)]) (st1 := [.ref 25]) (fun _ _ _ => rfl) ?_
  refine jg_g (v := .int (S.1 25 3)) rfl kc_25 rfl rfl ?_
  refine jg_sg 1 (pc1 := 5) (lv1 := [(0, .ref 25), (1, .int p0)]) (st1 := [.int (-1), .int (S.1 25 3)]) (fun _ _ _ => rfl) ?_
  refine jg_br (fun _ _ _ _ k1 k2 => jt_icmp_ne (t := 13) rfl rfl k2 k1) (fun c1 => ?_) (fun c1 => ?_)
  · refine jg_sg 2 (pc1 := 10) (lv1 := [(0, .ref 25), (1, .int p0)]) (st1 := [.int p0, .ref 25]) (fun _ _ _ => rfl) ?_
    refine jg_pi rfl kc_25 rfl (Nat.le_of_ble_eq_true rfl) rfl rfl (fun S2 _ => ?_)
    exact jg_rv rfl rfl rfl
  · exact jg_rv rfl rfl rfl
noncomputable def F_T_require (p0 : Int32) (S : jS) : Option jS := (F_T_take p0 S).bind (fun z1 => if z1.1 = 0 then ((F_T_breakAt (z1.2.1 25 2) z1.2).bind (fun z3 => some z3)) else (some z1.2))
set_option maxRecDepth 20000 in
theorem kF_T_require {q : Nat} (p0 : Int32) (S : jS) (rF rL : Nat) (hF : 2 ≤ rF) (hL : 41 ≤ rL)  : jg q jp_T_require rF rL 0 [(0, .ref 25), (1, .int p0)] [] S 0 s_V (F_T_require p0 S) := by
  unfold F_T_require
  refine jg_sg 2 (pc1 := 2) (lv1 := [(0, .ref 25), (1, .int p0)]) (st1 := [.int p0, .ref 25]) (fun _ _ _ => rfl) ?_
  refine jg_csI (m2 := jp_T_take) (As := [.ref 25, .int p0]) (r := []) (mx := 2) (jh_v (a := 25) rfl rfl rfl kc_25 rfl (Nat.le_of_ble_eq_true rfl) rfl rfl rfl (by omega) (by omega) (Nat.le_of_ble_eq_true rfl)) (kF_T_take p0 S _ _ (by omega) (by omega) ) (fun z1 => ?_)
  refine jg_br (fun _ _ _ _ k1 k2 => jt_if_ne (t := 16) rfl rfl k2 k1) (fun c2 => ?_) (fun c2 => ?_)
  · refine jg_sg 2 (pc1 := 10) (lv1 := [(0, .ref 25), (1, .int p0)]) (st1 := [.ref 25, .ref 25]) (fun _ _ _ => rfl) ?_
    refine jg_g (v := .int (z1.2.1 25 2)) rfl kc_25 rfl rfl ?_
    refine jg_csV (m2 := jp_T_breakAt) (As := [.ref 25, .int (z1.2.1 25 2)]) (r := []) (mx := 2) (jh_v (a := 25) rfl rfl rfl kc_25 rfl (Nat.le_of_ble_eq_true rfl) rfl rfl rfl (by omega) (by omega) (Nat.le_of_ble_eq_true rfl)) (kF_T_breakAt (z1.2.1 25 2) z1.2 _ _ (by omega) (by omega) ) (fun z3 => ?_)
    exact jg_rv rfl rfl rfl
  · exact jg_rv rfl rfl rfl
noncomputable def F_T_isDigit (p0 : Int32) (S : jS) : Option Int32 := if p0 < 48 then (some 0) else (if 57 < p0 then (some 0) else (some 1))
set_option maxRecDepth 20000 in
theorem kF_T_isDigit {q : Nat} (p0 : Int32) (S : jS) (rF rL : Nat) (hF : 0 ≤ rF) (hL : 0 ≤ rL)  : jg q jp_T_isDigit rF rL 0 [(0, .int p0)] [] S 0 (p_I S) (F_T_isDigit p0 S) := by
  unfold F_T_isDigit
  refine jg_sg 2 (pc1 := 3) (lv1 := [(0, .int p0)]) (st1 := [.int 48, .int p0]) (fun _ _ _ => rfl) ?_
  refine jg_br (fun _ _ _ _ k1 k2 => jt_icmp_lt (t := 16) rfl rfl k1 k2) (fun c1 => ?_) (fun c1 => ?_)
  · refine jg_sg 1 (pc1 := 17) (lv1 := [(0, .int p0)]) (st1 := [.int 0]) (fun _ _ _ => rfl) ?_
    exact jg_ri rfl rfl rfl rfl
  · refine jg_sg 2 (pc1 := 9) (lv1 := [(0, .int p0)]) (st1 := [.int 57, .int p0]) (fun _ _ _ => rfl) ?_
    refine jg_br (fun _ _ _ _ k1 k2 => jt_icmp_gt (t := 16) rfl rfl k1 k2) (fun c2 => ?_) (fun c2 => ?_)
    · refine jg_sg 1 (pc1 := 17) (lv1 := [(0, .int p0)]) (st1 := [.int 0]) (fun _ _ _ => rfl) ?_
      exact jg_ri rfl rfl rfl rfl
    · refine jg_sg 2 (pc1 := 17) (lv1 := [(0, .int p0)]) (st1 := [.int 1]) (fun _ _ _ => rfl) ?_
      exact jg_ri rfl rfl rfl rfl
noncomputable def F_Math_min (p0 : Int32) (p1 : Int32) (S : jS) : Option Int32 := if p1 < p0 then (some p1) else (some p0)
set_option maxRecDepth 20000 in
theorem kF_Math_min {q : Nat} (p0 : Int32) (p1 : Int32) (S : jS) (rF rL : Nat) (hF : 0 ≤ rF) (hL : 0 ≤ rL)  : jg q jp_Math_min rF rL 0 [(0, .int p0), (1, .int p1)] [] S 0 (p_I S) (F_Math_min p0 p1 S) := by
  unfold F_Math_min
  refine jg_sg 2 (pc1 := 2) (lv1 := [(0, .int p0), (1, .int p1)]) (st1 := [.int p1, .int p0]) (fun _ _ _ => rfl) ?_
  refine jg_br (fun _ _ _ _ k1 k2 => jt_icmp_gt (t := 9) rfl rfl k1 k2) (fun c1 => ?_) (fun c1 => ?_)
  · refine jg_sg 1 (pc1 := 10) (lv1 := [(0, .int p0), (1, .int p1)]) (st1 := [.int p1]) (fun _ _ _ => rfl) ?_
    exact jg_ri rfl rfl rfl rfl
  · refine jg_sg 2 (pc1 := 10) (lv1 := [(0, .int p0), (1, .int p1)]) (st1 := [.int p0]) (fun _ _ _ => rfl) ?_
    exact jg_ri rfl rfl rfl rfl
noncomputable def J_T_number_116 (x1 : Int32) (x4 : Int32) (S : jS) : Option (Int32 × jS) := if (S.1 25 3) = (-1) then (some (x4, S)) else (some (x1, S))
set_option maxRecDepth 20000 in
theorem kJ_T_number_116 {q rF rL : Nat} (hF : 1 ≤ rF) (hL : 21 ≤ rL)   (x1 : Int32) (x4 : Int32) (S : jS) : jg q jp_T_number rF rL 116 [(0, .ref 25), (1, .int x1), (4, .int x4)] [] S 0 s_I (J_T_number_116 x1 x4 S) := by
  unfold J_T_number_116
  refine jg_sg 1 (pc1 := 117) (lv1 := [(0, .ref 25), (1, .int x1), (4, .int x4)]) (st1 := [.ref 25]) (fun _ _ _ => rfl) ?_
  refine jg_g (v := .int (S.1 25 3)) rfl kc_25 rfl rfl ?_
  refine jg_sg 1 (pc1 := 121) (lv1 := [(0, .ref 25), (1, .int x1), (4, .int x4)]) (st1 := [.int (-1), .int (S.1 25 3)]) (fun _ _ _ => rfl) ?_
  refine jg_br (fun _ _ _ _ k1 k2 => jt_icmp_ne (t := 129) rfl rfl k2 k1) (fun c7 => ?_) (fun c7 => ?_)
  · refine jg_sg 2 (pc1 := 130) (lv1 := [(0, .ref 25), (1, .int x1), (4, .int x4)]) (st1 := [.int x4]) (fun _ _ _ => rfl) ?_
    exact jg_ri rfl rfl rfl rfl
  · refine jg_sg 1 (pc1 := 130) (lv1 := [(0, .ref 25), (1, .int x1), (4, .int x4)]) (st1 := [.int x1]) (fun _ _ _ => rfl) ?_
    exact jg_ri rfl rfl rfl rfl
noncomputable def J_T_number_111 (x1 : Int32) (x3 : Int32) (x4 : Int32) (S : jS) : Option (Int32 × jS) := (F_T_breakAt x3 S).bind (fun z6 => J_T_number_116 x1 x4 z6)
set_option maxRecDepth 20000 in
theorem kJ_T_number_111 {q rF rL : Nat} (hF : 1 ≤ rF) (hL : 21 ≤ rL)   (x1 : Int32) (x3 : Int32) (x4 : Int32) (S : jS) : jg q jp_T_number rF rL 111 [(0, .ref 25), (1, .int x1), (3, .int x3), (4, .int x4)] [] S 0 s_I (J_T_number_111 x1 x3 x4 S) := by
  unfold J_T_number_111
  refine jg_sg 2 (pc1 := 113) (lv1 := [(0, .ref 25), (1, .int x1), (3, .int x3), (4, .int x4)]) (st1 := [.int x3, .ref 25]) (fun _ _ _ => rfl) ?_
  refine jg_csV (m2 := jp_T_breakAt) (As := [.ref 25, .int x3]) (r := []) (mx := 2) (jh_v (a := 25) rfl rfl rfl kc_25 rfl (Nat.le_of_ble_eq_true rfl) rfl rfl rfl (by omega) (by omega) (Nat.le_of_ble_eq_true rfl)) (kF_T_breakAt x3 S _ _ (by omega) (by omega) ) (fun z6 => ?_)
  refine jg_lvs (lv1 := [(0, .ref 25), (1, .int x1), (4, .int x4)]) rfl rfl ⟨rfl, rfl, rfl, trivial⟩ ?_
  exact kJ_T_number_116 (by omega) (by omega) x1 x4 z6
noncomputable def J_T_number_91 (x1 : Int32) (x2 : Int32) (x3 : Int32) (x4 : Int32) (S : jS) : Option (Int32 × jS) := if (S.1 25 2) = x3 then (J_T_number_111 x1 x3 x4 S) else (if x4 < x1 then (J_T_number_111 x1 x3 x4 S) else (if x4 ≤ x2 then (J_T_number_116 x1 x4 S) else (J_T_number_111 x1 x3 x4 S)))
set_option maxRecDepth 20000 in
theorem kJ_T_number_91 {q rF rL : Nat} (hF : 1 ≤ rF) (hL : 21 ≤ rL)   (x1 : Int32) (x2 : Int32) (x3 : Int32) (x4 : Int32) (S : jS) : jg q jp_T_number rF rL 91 [(0, .ref 25), (1, .int x1), (2, .int x2), (3, .int x3), (4, .int x4)] [] S 0 s_I (J_T_number_91 x1 x2 x3 x4 S) := by
  unfold J_T_number_91
  refine jg_sg 1 (pc1 := 92) (lv1 := [(0, .ref 25), (1, .int x1), (2, .int x2), (3, .int x3), (4, .int x4)]) (st1 := [.ref 25]) (fun _ _ _ => rfl) ?_
  refine jg_g (v := .int (S.1 25 2)) rfl kc_25 rfl rfl ?_
  refine jg_sg 1 (pc1 := 96) (lv1 := [(0, .ref 25), (1, .int x1), (2, .int x2), (3, .int x3), (4, .int x4)]) (st1 := [.int x3, .int (S.1 25 2)]) (fun _ _ _ => rfl) ?_
  refine jg_br (fun _ _ _ _ k1 k2 => jt_icmp_eq (t := 111) rfl rfl k1 k2) (fun c5 => ?_) (fun c5 => ?_)
  · refine jg_lvs (lv1 := [(0, .ref 25), (1, .int x1), (3, .int x3), (4, .int x4)]) rfl rfl ⟨rfl, rfl, rfl, rfl, trivial⟩ ?_
    exact kJ_T_number_111 (by omega) (by omega) x1 x3 x4 S
  · refine jg_sg 2 (pc1 := 102) (lv1 := [(0, .ref 25), (1, .int x1), (2, .int x2), (3, .int x3), (4, .int x4)]) (st1 := [.int x1, .int x4]) (fun _ _ _ => rfl) ?_
    refine jg_br (fun _ _ _ _ k1 k2 => jt_icmp_lt (t := 111) rfl rfl k1 k2) (fun c8 => ?_) (fun c8 => ?_)
    · refine jg_lvs (lv1 := [(0, .ref 25), (1, .int x1), (3, .int x3), (4, .int x4)]) rfl rfl ⟨rfl, rfl, rfl, rfl, trivial⟩ ?_
      exact kJ_T_number_111 (by omega) (by omega) x1 x3 x4 S
    · refine jg_sg 2 (pc1 := 108) (lv1 := [(0, .ref 25), (1, .int x1), (2, .int x2), (3, .int x3), (4, .int x4)]) (st1 := [.int x2, .int x4]) (fun _ _ _ => rfl) ?_
      refine jg_br (fun _ _ _ _ k1 k2 => jt_icmp_le (t := 116) rfl rfl k1 k2) (fun c9 => ?_) (fun c9 => ?_)
      · refine jg_lvs (lv1 := [(0, .ref 25), (1, .int x1), (4, .int x4)]) rfl rfl ⟨rfl, rfl, rfl, trivial⟩ ?_
        exact kJ_T_number_116 (by omega) (by omega) x1 x4 S
      · refine jg_lvs (lv1 := [(0, .ref 25), (1, .int x1), (3, .int x3), (4, .int x4)]) rfl rfl ⟨rfl, rfl, rfl, rfl, trivial⟩ ?_
        exact kJ_T_number_111 (by omega) (by omega) x1 x3 x4 S
noncomputable def J_T_number_58 (kt24 : Int32 → Int32 → Int32 → Int32 → Int32 → jS → Option (Int32 × jS)) (x1 : Int32) (x2 : Int32) (x3 : Int32) (x4 : Int32) (x5 : Int32) (S : jS) : Option (Int32 × jS) := (F_T_peek S).bind (fun z14 => (F_Math_min (((x4 * 10) + z14) - 48) 1000000 S).bind (fun z15 => j_l (w_i S 25 2 ((S.1 25 2) + 1)) (fun S16 => kt24 x1 x2 x3 z15 x5 S16)))
set_option maxRecDepth 20000 in
theorem kJ_T_number_58 {q rF rL : Nat} (hF : 1 ≤ rF) (hL : 21 ≤ rL)  (kt24 : Int32 → Int32 → Int32 → Int32 → Int32 → jS → Option (Int32 × jS)) (ih24 : ∀ (x1 : Int32) (x2 : Int32) (x3 : Int32) (x4 : Int32) (x5 : Int32) (S : jS), jg q jp_T_number rF rL 24 [(0, .ref 25), (1, .int x1), (2, .int x2), (3, .int x3), (4, .int x4), (5, .int x5)] [] S 0 s_I (kt24 x1 x2 x3 x4 x5 S)) (x1 : Int32) (x2 : Int32) (x3 : Int32) (x4 : Int32) (x5 : Int32) (S : jS) : jg q jp_T_number rF rL 58 [(0, .ref 25), (1, .int x1), (2, .int x2), (3, .int x3), (4, .int x4), (5, .int x5)] [] S 0 s_I (J_T_number_58 kt24 x1 x2 x3 x4 x5 S) := by
  unfold J_T_number_58
  refine jg_sg 4 (pc1 := 64) (lv1 := [(0, .ref 25), (1, .int x1), (2, .int x2), (3, .int x3), (4, .int x4), (5, .int x5)]) (st1 := [.ref 25, .int (x4 * 10)]) (fun _ _ _ => rfl) ?_
  refine jg_cpI (m2 := jp_T_peek) (As := [.ref 25]) (r := [.int (x4 * 10)]) (mx := 1) (jh_v (a := 25) rfl rfl rfl kc_25 rfl (Nat.le_of_ble_eq_true rfl) rfl rfl rfl (by omega) (by omega) (Nat.le_of_ble_eq_true rfl)) (kF_T_peek S _ _ (by omega) (by omega) ) (fun z14 => ?_)
  refine jg_sg 4 (pc1 := 73) (lv1 := [(0, .ref 25), (1, .int x1), (2, .int x2), (3, .int x3), (4, .int x4), (5, .int x5)]) (st1 := [.int 1000000, .int (((x4 * 10) + z14) - 48)]) (fun _ _ _ => rfl) ?_
  refine jg_cpI (m2 := jp_Math_min) (As := [.int (((x4 * 10) + z14) - 48), .int 1000000]) (r := []) (mx := 2) (jh_s rfl (fun _ _ _ => rfl) rfl rfl rfl (by omega) (by omega) (Nat.le_of_ble_eq_true rfl)) (kF_Math_min (((x4 * 10) + z14) - 48) 1000000 S _ _ (by omega) (by omega) ) (fun z15 => ?_)
  refine jg_sg 3 (pc1 := 80) (lv1 := [(4, .int z15), (0, .ref 25), (1, .int x1), (2, .int x2), (3, .int x3), (5, .int x5)]) (st1 := [.ref 25, .ref 25]) (fun _ _ _ => rfl) ?_
  refine jg_g (v := .int (S.1 25 2)) rfl kc_25 rfl rfl ?_
  refine jg_sg 2 (pc1 := 85) (lv1 := [(4, .int z15), (0, .ref 25), (1, .int x1), (2, .int x2), (3, .int x3), (5, .int x5)]) (st1 := [.int ((S.1 25 2) + 1), .ref 25]) (fun _ _ _ => rfl) ?_
  refine jg_pi rfl kc_25 rfl (Nat.le_of_ble_eq_true rfl) rfl rfl (fun S16 _ => ?_)
  refine jg_sg 1 (pc1 := 24) (lv1 := [(4, .int z15), (0, .ref 25), (1, .int x1), (2, .int x2), (3, .int x3), (5, .int x5)]) (st1 := []) (fun _ _ _ => rfl) ?_
  refine jg_lvs (lv1 := [(0, .ref 25), (1, .int x1), (2, .int x2), (3, .int x3), (4, .int z15), (5, .int x5)]) rfl rfl ⟨rfl, rfl, rfl, rfl, rfl, rfl, trivial⟩ ?_
  exact ih24 x1 x2 x3 z15 x5 S16
noncomputable def L_T_number_24  : Nat → Int32 → Int32 → Int32 → Int32 → Int32 → jS → Option (Int32 × jS)
  | 0, _, _, _, _, _, _ => none
  | f + 1, x1, x2, x3, x4, x5, S => if (S.1 25 1) ≤ (S.1 25 2) then (J_T_number_91 x1 x2 x3 x4 S) else ((F_T_peek S).bind (fun z10 => (F_T_isDigit z10 S).bind (fun z11 => if z11 = 0 then (J_T_number_91 x1 x2 x3 x4 S) else (if x5 = 0 then (J_T_number_58 (L_T_number_24 f) x1 x2 x3 x4 x5 S) else (if x3 < (S.1 25 2) then (J_T_number_91 x1 x2 x3 x4 S) else (J_T_number_58 (L_T_number_24 f) x1 x2 x3 x4 x5 S))))))
set_option maxRecDepth 20000 in
theorem kL_T_number_24 {q rF rL : Nat} (hF : 1 ≤ rF) (hL : 21 ≤ rL)   : ∀ (f : Nat) (x1 : Int32) (x2 : Int32) (x3 : Int32) (x4 : Int32) (x5 : Int32) (S : jS), jg q jp_T_number rF rL 24 [(0, .ref 25), (1, .int x1), (2, .int x2), (3, .int x3), (4, .int x4), (5, .int x5)] [] S 0 s_I (L_T_number_24 f x1 x2 x3 x4 x5 S) := by
  intro f
  induction f with
  | zero => intro _ _ _ _ _ _; exact jg_none
  | succ f ih24 =>
    intro x1 x2 x3 x4 x5 S
    rw [L_T_number_24]
    refine jg_sg 1 (pc1 := 25) (lv1 := [(0, .ref 25), (1, .int x1), (2, .int x2), (3, .int x3), (4, .int x4), (5, .int x5)]) (st1 := [.ref 25]) (fun _ _ _ => rfl) ?_
    refine jg_g (v := .int (S.1 25 2)) rfl kc_25 rfl rfl ?_
    refine jg_sg 1 (pc1 := 29) (lv1 := [(0, .ref 25), (1, .int x1), (2, .int x2), (3, .int x3), (4, .int x4), (5, .int x5)]) (st1 := [.ref 25, .int (S.1 25 2)]) (fun _ _ _ => rfl) ?_
    refine jg_g (v := .int (S.1 25 1)) rfl kc_25 rfl rfl ?_
    refine jg_br (fun _ _ _ _ k1 k2 => jt_icmp_ge (t := 91) rfl rfl k1 k2) (fun c4 => ?_) (fun c4 => ?_)
    · refine jg_lvs (lv1 := [(0, .ref 25), (1, .int x1), (2, .int x2), (3, .int x3), (4, .int x4)]) rfl rfl ⟨rfl, rfl, rfl, rfl, rfl, trivial⟩ ?_
      exact kJ_T_number_91 (by omega) (by omega) x1 x2 x3 x4 S
    · refine jg_sg 1 (pc1 := 36) (lv1 := [(0, .ref 25), (1, .int x1), (2, .int x2), (3, .int x3), (4, .int x4), (5, .int x5)]) (st1 := [.ref 25]) (fun _ _ _ => rfl) ?_
      refine jg_cpI (m2 := jp_T_peek) (As := [.ref 25]) (r := []) (mx := 1) (jh_v (a := 25) rfl rfl rfl kc_25 rfl (Nat.le_of_ble_eq_true rfl) rfl rfl rfl (by omega) (by omega) (Nat.le_of_ble_eq_true rfl)) (kF_T_peek S _ _ (by omega) (by omega) ) (fun z10 => ?_)
      refine jg_cpI (m2 := jp_T_isDigit) (As := [.int z10]) (r := []) (mx := 1) (jh_s rfl (fun _ _ _ => rfl) rfl rfl rfl (by omega) (by omega) (Nat.le_of_ble_eq_true rfl)) (kF_T_isDigit z10 S _ _ (by omega) (by omega) ) (fun z11 => ?_)
      refine jg_br (fun _ _ _ _ k1 k2 => jt_if_eq (t := 91) rfl rfl k1 k2) (fun c12 => ?_) (fun c12 => ?_)
      · refine jg_lvs (lv1 := [(0, .ref 25), (1, .int x1), (2, .int x2), (3, .int x3), (4, .int x4)]) rfl rfl ⟨rfl, rfl, rfl, rfl, rfl, trivial⟩ ?_
        exact kJ_T_number_91 (by omega) (by omega) x1 x2 x3 x4 S
      · refine jg_sg 1 (pc1 := 47) (lv1 := [(0, .ref 25), (1, .int x1), (2, .int x2), (3, .int x3), (4, .int x4), (5, .int x5)]) (st1 := [.int x5]) (fun _ _ _ => rfl) ?_
        refine jg_br (fun _ _ _ _ k1 k2 => jt_if_eq (t := 58) rfl rfl k1 k2) (fun c13 => ?_) (fun c13 => ?_)
        · refine jg_lvs (lv1 := [(0, .ref 25), (1, .int x1), (2, .int x2), (3, .int x3), (4, .int x4), (5, .int x5)]) rfl rfl ⟨rfl, rfl, rfl, rfl, rfl, rfl, trivial⟩ ?_
          exact kJ_T_number_58 (by omega) (by omega) (L_T_number_24 f) ih24 x1 x2 x3 x4 x5 S
        · refine jg_sg 1 (pc1 := 51) (lv1 := [(0, .ref 25), (1, .int x1), (2, .int x2), (3, .int x3), (4, .int x4), (5, .int x5)]) (st1 := [.ref 25]) (fun _ _ _ => rfl) ?_
          refine jg_g (v := .int (S.1 25 2)) rfl kc_25 rfl rfl ?_
          refine jg_sg 1 (pc1 := 55) (lv1 := [(0, .ref 25), (1, .int x1), (2, .int x2), (3, .int x3), (4, .int x4), (5, .int x5)]) (st1 := [.int x3, .int (S.1 25 2)]) (fun _ _ _ => rfl) ?_
          refine jg_br (fun _ _ _ _ k1 k2 => jt_icmp_gt (t := 91) rfl rfl k1 k2) (fun c17 => ?_) (fun c17 => ?_)
          · refine jg_lvs (lv1 := [(0, .ref 25), (1, .int x1), (2, .int x2), (3, .int x3), (4, .int x4)]) rfl rfl ⟨rfl, rfl, rfl, rfl, rfl, trivial⟩ ?_
            exact kJ_T_number_91 (by omega) (by omega) x1 x2 x3 x4 S
          · refine jg_lvs (lv1 := [(0, .ref 25), (1, .int x1), (2, .int x2), (3, .int x3), (4, .int x4), (5, .int x5)]) rfl rfl ⟨rfl, rfl, rfl, rfl, rfl, rfl, trivial⟩ ?_
            exact kJ_T_number_58 (by omega) (by omega) (L_T_number_24 f) ih24 x1 x2 x3 x4 x5 S
noncomputable def F_T_number (p0 : Int32) (p1 : Int32) (S : jS) : Option (Int32 × jS) := j_l (S.1 25 2 : Int32) (fun v1 => (F_T_peek S).bind (fun z2 => if z2 = 48 then (L_T_number_24 ju_ p0 p1 v1 0 1 S) else (L_T_number_24 ju_ p0 p1 v1 0 0 S)))
set_option maxRecDepth 20000 in
theorem kF_T_number {q : Nat} (p0 : Int32) (p1 : Int32) (S : jS) (rF rL : Nat) (hF : 1 ≤ rF) (hL : 21 ≤ rL)  : jg q jp_T_number rF rL 0 [(0, .ref 25), (1, .int p0), (2, .int p1)] [] S 0 s_I (F_T_number p0 p1 S) := by
  unfold F_T_number
  refine jg_sg 1 (pc1 := 1) (lv1 := [(0, .ref 25), (1, .int p0), (2, .int p1)]) (st1 := [.ref 25]) (fun _ _ _ => rfl) ?_
  refine jg_g (v := .int (S.1 25 2)) rfl kc_25 rfl rfl ?_
  refine jg_sg 1 (pc1 := 5) (lv1 := [(3, .int (S.1 25 2)), (0, .ref 25), (1, .int p0), (2, .int p1)]) (st1 := []) (fun _ _ _ => rfl) ?_
  refine jg_vi (fun v1 => ?_)
  refine jg_sg 3 (pc1 := 9) (lv1 := [(4, .int 0), (3, .int v1), (0, .ref 25), (1, .int p0), (2, .int p1)]) (st1 := [.ref 25]) (fun _ _ _ => rfl) ?_
  refine jg_cpI (m2 := jp_T_peek) (As := [.ref 25]) (r := []) (mx := 1) (jh_v (a := 25) rfl rfl rfl kc_25 rfl (Nat.le_of_ble_eq_true rfl) rfl rfl rfl (by omega) (by omega) (Nat.le_of_ble_eq_true rfl)) (kF_T_peek S _ _ (by omega) (by omega) ) (fun z2 => ?_)
  refine jg_sg 1 (pc1 := 14) (lv1 := [(4, .int 0), (3, .int v1), (0, .ref 25), (1, .int p0), (2, .int p1)]) (st1 := [.int 48, .int z2]) (fun _ _ _ => rfl) ?_
  refine jg_br (fun _ _ _ _ k1 k2 => jt_icmp_ne (t := 21) rfl rfl k2 k1) (fun c3 => ?_) (fun c3 => ?_)
  · refine jg_sg 3 (pc1 := 24) (lv1 := [(5, .int 1), (4, .int 0), (3, .int v1), (0, .ref 25), (1, .int p0), (2, .int p1)]) (st1 := []) (fun _ _ _ => rfl) ?_
    refine jg_lvs (lv1 := [(0, .ref 25), (1, .int p0), (2, .int p1), (3, .int v1), (4, .int 0), (5, .int 1)]) rfl rfl ⟨rfl, rfl, rfl, rfl, rfl, rfl, trivial⟩ ?_
    exact kL_T_number_24 (by omega) (by omega) ju_ p0 p1 v1 0 1 S
  · refine jg_sg 2 (pc1 := 24) (lv1 := [(5, .int 0), (4, .int 0), (3, .int v1), (0, .ref 25), (1, .int p0), (2, .int p1)]) (st1 := []) (fun _ _ _ => rfl) ?_
    refine jg_lvs (lv1 := [(0, .ref 25), (1, .int p0), (2, .int p1), (3, .int v1), (4, .int 0), (5, .int 0)]) rfl rfl ⟨rfl, rfl, rfl, rfl, rfl, rfl, trivial⟩ ?_
    exact kL_T_number_24 (by omega) (by omega) ju_ p0 p1 v1 0 0 S
noncomputable def F_T_isDone  (S : jS) : Option Int32 := (F_T_peek S).bind (fun z1 => if z1 = (-1) then (some 1) else (some 0))
set_option maxRecDepth 20000 in
theorem kF_T_isDone {q : Nat}  (S : jS) (rF rL : Nat) (hF : 1 ≤ rF) (hL : 20 ≤ rL)  : jg q jp_T_isDone rF rL 0 [(0, .ref 25)] [] S 0 (p_I S) (F_T_isDone S) := by
  unfold F_T_isDone
  refine jg_sg 1 (pc1 := 1) (lv1 := [(0, .ref 25)]) (st1 := [.ref 25]) (fun _ _ _ => rfl) ?_
  refine jg_cpI (m2 := jp_T_peek) (As := [.ref 25]) (r := []) (mx := 1) (jh_v (a := 25) rfl rfl rfl kc_25 rfl (Nat.le_of_ble_eq_true rfl) rfl rfl rfl (by omega) (by omega) (Nat.le_of_ble_eq_true rfl)) (kF_T_peek S _ _ (by omega) (by omega) ) (fun z1 => ?_)
  refine jg_sg 1 (pc1 := 5) (lv1 := [(0, .ref 25)]) (st1 := [.int (-1), .int z1]) (fun _ _ _ => rfl) ?_
  refine jg_br (fun _ _ _ _ k1 k2 => jt_icmp_ne (t := 12) rfl rfl k2 k1) (fun c2 => ?_) (fun c2 => ?_)
  · refine jg_sg 2 (pc1 := 13) (lv1 := [(0, .ref 25)]) (st1 := [.int 1]) (fun _ _ _ => rfl) ?_
    exact jg_ri rfl rfl rfl rfl
  · refine jg_sg 1 (pc1 := 13) (lv1 := [(0, .ref 25)]) (st1 := [.int 0]) (fun _ _ _ => rfl) ?_
    exact jg_ri rfl rfl rfl rfl
noncomputable def L_T_requireBlanks_6  : Nat → jS → Option jS
  | 0, _ => none
  | f + 1, S => if (S.1 25 1) ≤ (S.1 25 2) then (some S) else (j_q (j_in (S.1 25 2) 400) (if (S.1 26 ((S.1 25 2 : Int32).toNatClampNeg)) = 32 then (j_l (w_i S 25 2 ((S.1 25 2) + 1)) (fun S5 => (L_T_requireBlanks_6 f) S5)) else (some S)))
set_option maxRecDepth 20000 in
theorem kL_T_requireBlanks_6 {q rF rL : Nat} (hF : 3 ≤ rF) (hL : 62 ≤ rL)   : ∀ (f : Nat) (S : jS), jg q jp_T_requireBlanks rF rL 6 [(0, .ref 25)] [] S 0 s_V (L_T_requireBlanks_6 f S) := by
  intro f
  induction f with
  | zero => intro _; exact jg_none
  | succ f ih6 =>
    intro S
    rw [L_T_requireBlanks_6]
    refine jg_sg 1 (pc1 := 7) (lv1 := [(0, .ref 25)]) (st1 := [.ref 25]) (fun _ _ _ => rfl) ?_
    refine jg_g (v := .int (S.1 25 2)) rfl kc_25 rfl rfl ?_
    refine jg_sg 1 (pc1 := 11) (lv1 := [(0, .ref 25)]) (st1 := [.ref 25, .int (S.1 25 2)]) (fun _ _ _ => rfl) ?_
    refine jg_g (v := .int (S.1 25 1)) rfl kc_25 rfl rfl ?_
    refine jg_br (fun _ _ _ _ k1 k2 => jt_icmp_ge (t := 44) rfl rfl k1 k2) (fun c2 => ?_) (fun c2 => ?_)
    · exact jg_rv rfl rfl rfl
    · refine jg_sg 1 (pc1 := 18) (lv1 := [(0, .ref 25)]) (st1 := [.ref 25]) (fun _ _ _ => rfl) ?_
      refine jg_g (v := .ref 26) rfl kc_25 rfl rfl ?_
      refine jg_sg 1 (pc1 := 22) (lv1 := [(0, .ref 25)]) (st1 := [.ref 25, .ref 26]) (fun _ _ _ => rfl) ?_
      refine jg_g (v := .int (S.1 25 2)) rfl kc_25 rfl rfl ?_
      refine jg_bal rfl rfl kc_26 (fun g3 => ?_)
      refine jg_sg 1 (pc1 := 28) (lv1 := [(0, .ref 25)]) (st1 := [.int 32, .int (S.1 26 ((S.1 25 2 : Int32).toNatClampNeg))]) (fun _ _ _ => rfl) ?_
      refine jg_br (fun _ _ _ _ k1 k2 => jt_icmp_ne (t := 44) rfl rfl k2 k1) (fun c4 => ?_) (fun c4 => ?_)
      · refine jg_sg 2 (pc1 := 33) (lv1 := [(0, .ref 25)]) (st1 := [.ref 25, .ref 25]) (fun _ _ _ => rfl) ?_
        refine jg_g (v := .int (S.1 25 2)) rfl kc_25 rfl rfl ?_
        refine jg_sg 2 (pc1 := 38) (lv1 := [(0, .ref 25)]) (st1 := [.int ((S.1 25 2) + 1), .ref 25]) (fun _ _ _ => rfl) ?_
        refine jg_pi rfl kc_25 rfl (Nat.le_of_ble_eq_true rfl) rfl rfl (fun S5 _ => ?_)
        refine jg_sg 1 (pc1 := 6) (lv1 := [(0, .ref 25)]) (st1 := []) (fun _ _ _ => rfl) ?_
        refine jg_lvs (lv1 := [(0, .ref 25)]) rfl rfl ⟨rfl, trivial⟩ ?_
        exact ih6 S5
      · exact jg_rv rfl rfl rfl
noncomputable def F_T_requireBlanks  (S : jS) : Option jS := (F_T_require 32 S).bind (fun z1 => L_T_requireBlanks_6 ju_ z1)
set_option maxRecDepth 20000 in
theorem kF_T_requireBlanks {q : Nat}  (S : jS) (rF rL : Nat) (hF : 3 ≤ rF) (hL : 62 ≤ rL)  : jg q jp_T_requireBlanks rF rL 0 [(0, .ref 25)] [] S 0 s_V (F_T_requireBlanks S) := by
  unfold F_T_requireBlanks
  refine jg_sg 2 (pc1 := 3) (lv1 := [(0, .ref 25)]) (st1 := [.int 32, .ref 25]) (fun _ _ _ => rfl) ?_
  refine jg_csV (m2 := jp_T_require) (As := [.ref 25, .int 32]) (r := []) (mx := 2) (jh_v (a := 25) rfl rfl rfl kc_25 rfl (Nat.le_of_ble_eq_true rfl) rfl rfl rfl (by omega) (by omega) (Nat.le_of_ble_eq_true rfl)) (kF_T_require 32 S _ _ (by omega) (by omega) ) (fun z1 => ?_)
  refine jg_lvs (lv1 := [(0, .ref 25)]) rfl rfl ⟨rfl, trivial⟩ ?_
  exact kL_T_requireBlanks_6 (by omega) (by omega) ju_ z1
noncomputable def F_Y_readFrom (a0 : Nat) (S : jS) : Option jS := (F_T_require 77 S).bind (fun z1 => (F_T_number 1 12 z1).bind (fun z2 => j_l (w_i z2.2 a0 0 z2.1) (fun S3 => (F_T_require 46 S3).bind (fun z4 => (F_T_number 1 5 z4).bind (fun z5 => j_l (w_i z5.2 a0 1 z5.1) (fun S6 => (F_T_require 46 S6).bind (fun z7 => (F_T_number 0 6 z7).bind (fun z8 => j_l (w_i z8.2 a0 2 z8.1) (fun S9 => (F_T_require 47 S9).bind (fun z10 => (F_T_number 0 1439 z10).bind (fun z11 => j_l (w_i z11.2 a0 3 z11.1) (fun S12 => some S12))))))))))))
set_option maxRecDepth 20000 in
theorem kF_Y_readFrom {q : Nat} (a0 : Nat) (S : jS) (rF rL : Nat) (hF : 3 ≤ rF) (hL : 62 ≤ rL) (ha0 : jy_ a0 = true) : jg q jp_Y_readFrom rF rL 0 [(0, .ref a0), (1, .ref 25)] [] S 0 s_V (F_Y_readFrom a0 S) := by
  unfold F_Y_readFrom
  refine jg_sg 2 (pc1 := 3) (lv1 := [(0, .ref a0), (1, .ref 25)]) (st1 := [.int 77, .ref 25]) (fun _ _ _ => rfl) ?_
  refine jg_csV (m2 := jp_T_require) (As := [.ref 25, .int 77]) (r := []) (mx := 2) (jh_v (a := 25) rfl rfl rfl kc_25 rfl (Nat.le_of_ble_eq_true rfl) rfl rfl rfl (by omega) (by omega) (Nat.le_of_ble_eq_true rfl)) (kF_T_require 77 S _ _ (by omega) (by omega) ) (fun z1 => ?_)
  refine jg_sg 4 (pc1 := 11) (lv1 := [(0, .ref a0), (1, .ref 25)]) (st1 := [.int 12, .int 1, .ref 25, .ref a0]) (fun _ _ _ => rfl) ?_
  refine jg_csI (m2 := jp_T_number) (As := [.ref 25, .int 1, .int 12]) (r := [.ref a0]) (mx := 6) (jh_v (a := 25) rfl rfl rfl kc_25 rfl (Nat.le_of_ble_eq_true rfl) rfl rfl rfl (by omega) (by omega) (Nat.le_of_ble_eq_true rfl)) (kF_T_number 1 12 z1 _ _ (by omega) (by omega) ) (fun z2 => ?_)
  refine jg_pi rfl (kc_Y ha0) rfl (Nat.le_of_ble_eq_true rfl) rfl rfl (fun S3 _ => ?_)
  refine jg_sg 2 (pc1 := 20) (lv1 := [(0, .ref a0), (1, .ref 25)]) (st1 := [.int 46, .ref 25]) (fun _ _ _ => rfl) ?_
  refine jg_csV (m2 := jp_T_require) (As := [.ref 25, .int 46]) (r := []) (mx := 2) (jh_v (a := 25) rfl rfl rfl kc_25 rfl (Nat.le_of_ble_eq_true rfl) rfl rfl rfl (by omega) (by omega) (Nat.le_of_ble_eq_true rfl)) (kF_T_require 46 S3 _ _ (by omega) (by omega) ) (fun z4 => ?_)
  refine jg_sg 4 (pc1 := 27) (lv1 := [(0, .ref a0), (1, .ref 25)]) (st1 := [.int 5, .int 1, .ref 25, .ref a0]) (fun _ _ _ => rfl) ?_
  refine jg_csI (m2 := jp_T_number) (As := [.ref 25, .int 1, .int 5]) (r := [.ref a0]) (mx := 6) (jh_v (a := 25) rfl rfl rfl kc_25 rfl (Nat.le_of_ble_eq_true rfl) rfl rfl rfl (by omega) (by omega) (Nat.le_of_ble_eq_true rfl)) (kF_T_number 1 5 z4 _ _ (by omega) (by omega) ) (fun z5 => ?_)
  refine jg_pi rfl (kc_Y ha0) rfl (Nat.le_of_ble_eq_true rfl) rfl rfl (fun S6 _ => ?_)
  refine jg_sg 2 (pc1 := 36) (lv1 := [(0, .ref a0), (1, .ref 25)]) (st1 := [.int 46, .ref 25]) (fun _ _ _ => rfl) ?_
  refine jg_csV (m2 := jp_T_require) (As := [.ref 25, .int 46]) (r := []) (mx := 2) (jh_v (a := 25) rfl rfl rfl kc_25 rfl (Nat.le_of_ble_eq_true rfl) rfl rfl rfl (by omega) (by omega) (Nat.le_of_ble_eq_true rfl)) (kF_T_require 46 S6 _ _ (by omega) (by omega) ) (fun z7 => ?_)
  refine jg_sg 4 (pc1 := 44) (lv1 := [(0, .ref a0), (1, .ref 25)]) (st1 := [.int 6, .int 0, .ref 25, .ref a0]) (fun _ _ _ => rfl) ?_
  refine jg_csI (m2 := jp_T_number) (As := [.ref 25, .int 0, .int 6]) (r := [.ref a0]) (mx := 6) (jh_v (a := 25) rfl rfl rfl kc_25 rfl (Nat.le_of_ble_eq_true rfl) rfl rfl rfl (by omega) (by omega) (Nat.le_of_ble_eq_true rfl)) (kF_T_number 0 6 z7 _ _ (by omega) (by omega) ) (fun z8 => ?_)
  refine jg_pi rfl (kc_Y ha0) rfl (Nat.le_of_ble_eq_true rfl) rfl rfl (fun S9 _ => ?_)
  refine jg_sg 2 (pc1 := 53) (lv1 := [(0, .ref a0), (1, .ref 25)]) (st1 := [.int 47, .ref 25]) (fun _ _ _ => rfl) ?_
  refine jg_csV (m2 := jp_T_require) (As := [.ref 25, .int 47]) (r := []) (mx := 2) (jh_v (a := 25) rfl rfl rfl kc_25 rfl (Nat.le_of_ble_eq_true rfl) rfl rfl rfl (by omega) (by omega) (Nat.le_of_ble_eq_true rfl)) (kF_T_require 47 S9 _ _ (by omega) (by omega) ) (fun z10 => ?_)
  refine jg_sg 4 (pc1 := 62) (lv1 := [(0, .ref a0), (1, .ref 25)]) (st1 := [.int 1439, .int 0, .ref 25, .ref a0]) (fun _ _ _ => rfl) ?_
  refine jg_csI (m2 := jp_T_number) (As := [.ref 25, .int 0, .int 1439]) (r := [.ref a0]) (mx := 6) (jh_v (a := 25) rfl rfl rfl kc_25 rfl (Nat.le_of_ble_eq_true rfl) rfl rfl rfl (by omega) (by omega) (Nat.le_of_ble_eq_true rfl)) (kF_T_number 0 1439 z10 _ _ (by omega) (by omega) ) (fun z11 => ?_)
  refine jg_pi rfl (kc_Y ha0) rfl (Nat.le_of_ble_eq_true rfl) rfl rfl (fun S12 _ => ?_)
  exact jg_rv rfl rfl rfl
noncomputable def F_T_requireEnd  (S : jS) : Option jS := (F_T_isDone S).bind (fun z1 => if z1 = 0 then ((F_T_breakAt (S.1 25 2) S).bind (fun z3 => some z3)) else (some S))
set_option maxRecDepth 20000 in
theorem kF_T_requireEnd {q : Nat}  (S : jS) (rF rL : Nat) (hF : 2 ≤ rF) (hL : 40 ≤ rL)  : jg q jp_T_requireEnd rF rL 0 [(0, .ref 25)] [] S 0 s_V (F_T_requireEnd S) := by
  unfold F_T_requireEnd
  refine jg_sg 1 (pc1 := 1) (lv1 := [(0, .ref 25)]) (st1 := [.ref 25]) (fun _ _ _ => rfl) ?_
  refine jg_cpI (m2 := jp_T_isDone) (As := [.ref 25]) (r := []) (mx := 1) (jh_v (a := 25) rfl rfl rfl kc_25 rfl (Nat.le_of_ble_eq_true rfl) rfl rfl rfl (by omega) (by omega) (Nat.le_of_ble_eq_true rfl)) (kF_T_isDone S _ _ (by omega) (by omega) ) (fun z1 => ?_)
  refine jg_br (fun _ _ _ _ k1 k2 => jt_if_ne (t := 15) rfl rfl k2 k1) (fun c2 => ?_) (fun c2 => ?_)
  · refine jg_sg 2 (pc1 := 9) (lv1 := [(0, .ref 25)]) (st1 := [.ref 25, .ref 25]) (fun _ _ _ => rfl) ?_
    refine jg_g (v := .int (S.1 25 2)) rfl kc_25 rfl rfl ?_
    refine jg_csV (m2 := jp_T_breakAt) (As := [.ref 25, .int (S.1 25 2)]) (r := []) (mx := 2) (jh_v (a := 25) rfl rfl rfl kc_25 rfl (Nat.le_of_ble_eq_true rfl) rfl rfl rfl (by omega) (by omega) (Nat.le_of_ble_eq_true rfl)) (kF_T_breakAt (S.1 25 2) S _ _ (by omega) (by omega) ) (fun z3 => ?_)
    exact jg_rv rfl rfl rfl
  · exact jg_rv rfl rfl rfl
noncomputable def J_Z_readFrom_49 (x0 : Nat) (y0 : Int32) (y1 : Nat) (S : jS) : Option jS := j_l (w_i S y1 0 (y0 * 60)) (fun S8 => (F_T_isDone S8).bind (fun z9 => if z9 = 0 then ((F_T_requireBlanks S8).bind (fun z11 => (F_T_number 1 120 z11).bind (fun z12 => j_l (w_i z12.2 x0 1 (z12.1 * 60)) (fun S13 => (F_T_requireBlanks S13).bind (fun z14 => (F_Y_readFrom (x0 + 1) z14).bind (fun z15 => (F_T_requireBlanks z15).bind (fun z16 => (F_Y_readFrom (x0 + 2) z16).bind (fun z17 => (F_T_requireEnd z17).bind (fun z18 => some z18))))))))) else (some S8)))
set_option maxRecDepth 20000 in
theorem kJ_Z_readFrom_49 {q rF rL : Nat} (hF : 4 ≤ rF) (hL : 83 ≤ rL)   (x0 : Nat) (y0 : Int32) (y1 : Nat) (S : jS) (hx0 : jz_ x0 = true) (hy1 : jz_ y1 = true) : jg q jp_Z_readFrom rF rL 49 [(0, .ref x0), (1, .ref 25)] [.int y0, .ref y1] S 0 s_V (J_Z_readFrom_49 x0 y0 y1 S) := by
  unfold J_Z_readFrom_49
  refine jg_sg 2 (pc1 := 52) (lv1 := [(0, .ref x0), (1, .ref 25)]) (st1 := [.int (y0 * 60), .ref y1]) (fun _ _ _ => rfl) ?_
  refine jg_pi rfl (kc_Z hy1) rfl (Nat.le_of_ble_eq_true rfl) rfl rfl (fun S8 _ => ?_)
  refine jg_sg 1 (pc1 := 56) (lv1 := [(0, .ref x0), (1, .ref 25)]) (st1 := [.ref 25]) (fun _ _ _ => rfl) ?_
  refine jg_cpI (m2 := jp_T_isDone) (As := [.ref 25]) (r := []) (mx := 1) (jh_v (a := 25) rfl rfl rfl kc_25 rfl (Nat.le_of_ble_eq_true rfl) rfl rfl rfl (by omega) (by omega) (Nat.le_of_ble_eq_true rfl)) (kF_T_isDone S8 _ _ (by omega) (by omega) ) (fun z9 => ?_)
  refine jg_br (fun _ _ _ _ k1 k2 => jt_if_eq (t := 63) rfl rfl k1 k2) (fun c10 => ?_) (fun c10 => ?_)
  · refine jg_sg 1 (pc1 := 64) (lv1 := [(0, .ref x0), (1, .ref 25)]) (st1 := [.ref 25]) (fun _ _ _ => rfl) ?_
    refine jg_csV (m2 := jp_T_requireBlanks) (As := [.ref 25]) (r := []) (mx := 1) (jh_v (a := 25) rfl rfl rfl kc_25 rfl (Nat.le_of_ble_eq_true rfl) rfl rfl rfl (by omega) (by omega) (Nat.le_of_ble_eq_true rfl)) (kF_T_requireBlanks S8 _ _ (by omega) (by omega) ) (fun z11 => ?_)
    refine jg_sg 4 (pc1 := 72) (lv1 := [(0, .ref x0), (1, .ref 25)]) (st1 := [.int 120, .int 1, .ref 25, .ref x0]) (fun _ _ _ => rfl) ?_
    refine jg_csI (m2 := jp_T_number) (As := [.ref 25, .int 1, .int 120]) (r := [.ref x0]) (mx := 6) (jh_v (a := 25) rfl rfl rfl kc_25 rfl (Nat.le_of_ble_eq_true rfl) rfl rfl rfl (by omega) (by omega) (Nat.le_of_ble_eq_true rfl)) (kF_T_number 1 120 z11 _ _ (by omega) (by omega) ) (fun z12 => ?_)
    refine jg_sg 2 (pc1 := 78) (lv1 := [(0, .ref x0), (1, .ref 25)]) (st1 := [.int (z12.1 * 60), .ref x0]) (fun _ _ _ => rfl) ?_
    refine jg_pi rfl (kc_Z hx0) rfl (Nat.le_of_ble_eq_true rfl) rfl rfl (fun S13 _ => ?_)
    refine jg_sg 1 (pc1 := 82) (lv1 := [(0, .ref x0), (1, .ref 25)]) (st1 := [.ref 25]) (fun _ _ _ => rfl) ?_
    refine jg_csV (m2 := jp_T_requireBlanks) (As := [.ref 25]) (r := []) (mx := 1) (jh_v (a := 25) rfl rfl rfl kc_25 rfl (Nat.le_of_ble_eq_true rfl) rfl rfl rfl (by omega) (by omega) (Nat.le_of_ble_eq_true rfl)) (kF_T_requireBlanks S13 _ _ (by omega) (by omega) ) (fun z14 => ?_)
    refine jg_sg 1 (pc1 := 86) (lv1 := [(0, .ref x0), (1, .ref 25)]) (st1 := [.ref x0]) (fun _ _ _ => rfl) ?_
    refine jg_g (v := .ref (x0 + 1)) rfl (kc_Z hx0) rfl rfl ?_
    refine jg_sg 1 (pc1 := 90) (lv1 := [(0, .ref x0), (1, .ref 25)]) (st1 := [.ref 25, .ref (x0 + 1)]) (fun _ _ _ => rfl) ?_
    refine jg_csV (m2 := jp_Y_readFrom) (As := [.ref (x0 + 1), .ref 25]) (r := []) (mx := 2) (jh_v (a := (x0 + 1)) rfl rfl rfl (kc_Y (jy_1 hx0)) rfl (Nat.le_of_ble_eq_true rfl) rfl rfl rfl (by omega) (by omega) (Nat.le_of_ble_eq_true rfl)) (kF_Y_readFrom (x0 + 1) z14 _ _ (by omega) (by omega) ((jy_1 hx0))) (fun z15 => ?_)
    refine jg_sg 1 (pc1 := 94) (lv1 := [(0, .ref x0), (1, .ref 25)]) (st1 := [.ref 25]) (fun _ _ _ => rfl) ?_
    refine jg_csV (m2 := jp_T_requireBlanks) (As := [.ref 25]) (r := []) (mx := 1) (jh_v (a := 25) rfl rfl rfl kc_25 rfl (Nat.le_of_ble_eq_true rfl) rfl rfl rfl (by omega) (by omega) (Nat.le_of_ble_eq_true rfl)) (kF_T_requireBlanks z15 _ _ (by omega) (by omega) ) (fun z16 => ?_)
    refine jg_sg 1 (pc1 := 98) (lv1 := [(0, .ref x0), (1, .ref 25)]) (st1 := [.ref x0]) (fun _ _ _ => rfl) ?_
    refine jg_g (v := .ref (x0 + 2)) rfl (kc_Z hx0) rfl rfl ?_
    refine jg_sg 1 (pc1 := 102) (lv1 := [(0, .ref x0), (1, .ref 25)]) (st1 := [.ref 25, .ref (x0 + 2)]) (fun _ _ _ => rfl) ?_
    refine jg_csV (m2 := jp_Y_readFrom) (As := [.ref (x0 + 2), .ref 25]) (r := []) (mx := 2) (jh_v (a := (x0 + 2)) rfl rfl rfl (kc_Y (jy_2 hx0)) rfl (Nat.le_of_ble_eq_true rfl) rfl rfl rfl (by omega) (by omega) (Nat.le_of_ble_eq_true rfl)) (kF_Y_readFrom (x0 + 2) z16 _ _ (by omega) (by omega) ((jy_2 hx0))) (fun z17 => ?_)
    refine jg_sg 1 (pc1 := 106) (lv1 := [(0, .ref x0), (1, .ref 25)]) (st1 := [.ref 25]) (fun _ _ _ => rfl) ?_
    refine jg_csV (m2 := jp_T_requireEnd) (As := [.ref 25]) (r := []) (mx := 1) (jh_v (a := 25) rfl rfl rfl kc_25 rfl (Nat.le_of_ble_eq_true rfl) rfl rfl rfl (by omega) (by omega) (Nat.le_of_ble_eq_true rfl)) (kF_T_requireEnd z17 _ _ (by omega) (by omega) ) (fun z18 => ?_)
    exact jg_rv rfl rfl rfl
  · exact jg_rv rfl rfl rfl
noncomputable def J_Z_readFrom_29 (x0 : Nat) (x2 : Int32) (S : jS) : Option jS := (F_T_number 0 840 S).bind (fun z6 => if x2 = 0 then (J_Z_readFrom_49 x0 z6.1 x0 z6.2) else (J_Z_readFrom_49 x0 (-z6.1) x0 z6.2))
set_option maxRecDepth 20000 in
theorem kJ_Z_readFrom_29 {q rF rL : Nat} (hF : 4 ≤ rF) (hL : 83 ≤ rL)   (x0 : Nat) (x2 : Int32) (S : jS) (hx0 : jz_ x0 = true) : jg q jp_Z_readFrom rF rL 29 [(0, .ref x0), (1, .ref 25), (2, .int x2)] [] S 0 s_V (J_Z_readFrom_29 x0 x2 S) := by
  unfold J_Z_readFrom_29
  refine jg_sg 3 (pc1 := 34) (lv1 := [(0, .ref x0), (1, .ref 25), (2, .int x2)]) (st1 := [.int 840, .int 0, .ref 25]) (fun _ _ _ => rfl) ?_
  refine jg_csI (m2 := jp_T_number) (As := [.ref 25, .int 0, .int 840]) (r := []) (mx := 6) (jh_v (a := 25) rfl rfl rfl kc_25 rfl (Nat.le_of_ble_eq_true rfl) rfl rfl rfl (by omega) (by omega) (Nat.le_of_ble_eq_true rfl)) (kF_T_number 0 840 S _ _ (by omega) (by omega) ) (fun z6 => ?_)
  refine jg_sg 3 (pc1 := 40) (lv1 := [(3, .int z6.1), (0, .ref x0), (1, .ref 25), (2, .int x2)]) (st1 := [.int x2, .ref x0]) (fun _ _ _ => rfl) ?_
  refine jg_br (fun _ _ _ _ k1 k2 => jt_if_eq (t := 48) rfl rfl k1 k2) (fun c7 => ?_) (fun c7 => ?_)
  · refine jg_sg 1 (pc1 := 49) (lv1 := [(3, .int z6.1), (0, .ref x0), (1, .ref 25), (2, .int x2)]) (st1 := [.int z6.1, .ref x0]) (fun _ _ _ => rfl) ?_
    refine jg_lvs (lv1 := [(0, .ref x0), (1, .ref 25)]) rfl rfl ⟨rfl, rfl, trivial⟩ ?_
    exact kJ_Z_readFrom_49 (by omega) (by omega) x0 z6.1 x0 z6.2 hx0 hx0
  · refine jg_sg 3 (pc1 := 49) (lv1 := [(3, .int z6.1), (0, .ref x0), (1, .ref 25), (2, .int x2)]) (st1 := [.int (-z6.1), .ref x0]) (fun _ _ _ => rfl) ?_
    refine jg_lvs (lv1 := [(0, .ref x0), (1, .ref 25)]) rfl rfl ⟨rfl, rfl, trivial⟩ ?_
    exact kJ_Z_readFrom_49 (by omega) (by omega) x0 (-z6.1) x0 z6.2 hx0 hx0
noncomputable def F_Z_readFrom (a0 : Nat) (S : jS) : Option jS := j_l (w_l S a0 5 (-1152921504606846976)) (fun S1 => j_l (w_i S1 a0 1 0) (fun S2 => (F_T_take 45 S2).bind (fun z3 => if z3.1 = 0 then ((F_T_require 43 z3.2).bind (fun z5 => J_Z_readFrom_29 a0 z3.1 z5)) else (J_Z_readFrom_29 a0 z3.1 z3.2))))
set_option maxRecDepth 20000 in
theorem kF_Z_readFrom {q : Nat} (a0 : Nat) (S : jS) (rF rL : Nat) (hF : 4 ≤ rF) (hL : 83 ≤ rL) (ha0 : jz_ a0 = true) : jg q jp_Z_readFrom rF rL 0 [(0, .ref a0), (1, .ref 25)] [] S 0 s_V (F_Z_readFrom a0 S) := by
  unfold F_Z_readFrom
  refine jg_sg 2 (pc1 := 4) (lv1 := [(0, .ref a0), (1, .ref 25)]) (st1 := [.long (-1152921504606846976), .ref a0]) (fun _ _ _ => rfl) ?_
  refine jg_pl rfl (kc_Z ha0) rfl (Nat.le_of_ble_eq_true rfl) rfl rfl (fun S1 _ => ?_)
  refine jg_sg 2 (pc1 := 9) (lv1 := [(0, .ref a0), (1, .ref 25)]) (st1 := [.int 0, .ref a0]) (fun _ _ _ => rfl) ?_
  refine jg_pi rfl (kc_Z ha0) rfl (Nat.le_of_ble_eq_true rfl) rfl rfl (fun S2 _ => ?_)
  refine jg_sg 2 (pc1 := 15) (lv1 := [(0, .ref a0), (1, .ref 25)]) (st1 := [.int 45, .ref 25]) (fun _ _ _ => rfl) ?_
  refine jg_csI (m2 := jp_T_take) (As := [.ref 25, .int 45]) (r := []) (mx := 2) (jh_v (a := 25) rfl rfl rfl kc_25 rfl (Nat.le_of_ble_eq_true rfl) rfl rfl rfl (by omega) (by omega) (Nat.le_of_ble_eq_true rfl)) (kF_T_take 45 S2 _ _ (by omega) (by omega) ) (fun z3 => ?_)
  refine jg_sg 2 (pc1 := 20) (lv1 := [(2, .int z3.1), (0, .ref a0), (1, .ref 25)]) (st1 := [.int z3.1]) (fun _ _ _ => rfl) ?_
  refine jg_br (fun _ _ _ _ k1 k2 => jt_if_ne (t := 29) rfl rfl k2 k1) (fun c4 => ?_) (fun c4 => ?_)
  · refine jg_sg 2 (pc1 := 26) (lv1 := [(2, .int z3.1), (0, .ref a0), (1, .ref 25)]) (st1 := [.int 43, .ref 25]) (fun _ _ _ => rfl) ?_
    refine jg_csV (m2 := jp_T_require) (As := [.ref 25, .int 43]) (r := []) (mx := 2) (jh_v (a := 25) rfl rfl rfl kc_25 rfl (Nat.le_of_ble_eq_true rfl) rfl rfl rfl (by omega) (by omega) (Nat.le_of_ble_eq_true rfl)) (kF_T_require 43 z3.2 _ _ (by omega) (by omega) ) (fun z5 => ?_)
    refine jg_lvs (lv1 := [(0, .ref a0), (1, .ref 25), (2, .int z3.1)]) rfl rfl ⟨rfl, rfl, rfl, trivial⟩ ?_
    exact kJ_Z_readFrom_29 (by omega) (by omega) a0 z3.1 z5 ha0
  · refine jg_lvs (lv1 := [(0, .ref a0), (1, .ref 25), (2, .int z3.1)]) rfl rfl ⟨rfl, rfl, rfl, trivial⟩ ?_
    exact kJ_Z_readFrom_29 (by omega) (by omega) a0 z3.1 z3.2 ha0
noncomputable def F_J_checkNotBroken  (S : jS) : Option (Option Nat × jS) := if (S.1 25 3) = (-1) then (some (none, S)) else (some (some 12, S))
set_option maxRecDepth 20000 in
theorem kF_J_checkNotBroken {q : Nat}  (S : jS) (rF rL : Nat) (hF : 6 ≤ rF) (hL : 81 ≤ rL)  : jg q jp_J_checkNotBroken rF rL 0 [(0, .ref 24)] [] S 0 x_V (F_J_checkNotBroken S) := by
  unfold F_J_checkNotBroken
  refine jg_sg 1 (pc1 := 1) (lv1 := [(0, .ref 24)]) (st1 := [.ref 24]) (fun _ _ _ => rfl) ?_
  refine jg_g (v := .ref 25) rfl kc_24 rfl rfl ?_
  refine jg_g (v := .int (S.1 25 3)) rfl kc_25 rfl rfl ?_
  refine jg_sg 1 (pc1 := 8) (lv1 := [(0, .ref 24)]) (st1 := [.int (-1), .int (S.1 25 3)]) (fun _ _ _ => rfl) ?_
  refine jg_br (fun _ _ _ _ k1 k2 => jt_icmp_eq (t := 19) rfl rfl k1 k2) (fun c1 => ?_) (fun c1 => ?_)
  · exact jg_rv rfl rfl rfl
  · exact jg_thr rfl (fun _ _ _ => rfl) rfl (by omega) (by show 0 + 81 ≤ rL; omega) rfl
noncomputable def F_J_zone (p0 : Int32) (S : jS) : Option (Option Nat × jS) := j_xv (F_J_checkRange ((p0 : Int32).toInt64) 0 7 S) (fun c S => (some c, S)) (fun S1 => (F_T_rewind S1).bind (fun z2 => j_q (jz_ (z2.2.2 24 6)) ((F_Z_readFrom (z2.2.2 24 6) z2).bind (fun z4 => j_l (w_i z4 25 1 0) (fun S5 => j_xv (F_J_checkNotBroken S5) (fun c S => (some c, S)) (fun S6 => j_q (j_in p0 8) (j_q (jz_ (S6.2.2 27 ((p0 : Int32).toNatClampNeg))) (j_l (S6.2.2 27 ((p0 : Int32).toNatClampNeg) : Nat) (fun b9 => j_q (jz_ (S6.2.2 24 6)) (j_q (j_in p0 8) (j_l (w_r S6 27 ((p0 : Int32).toNatClampNeg) (S6.2.2 24 6)) (fun S12 => j_l (w_r S12 24 6 b9) (fun S13 => some (none, S13))))))))))))))
set_option maxRecDepth 20000 in
theorem kF_J_zone {q : Nat} (p0 : Int32) (S : jS) (rF rL : Nat) (hF : 7 ≤ rF) (hL : 106 ≤ rL)  : jg q jp_J_zone rF rL 0 [(0, .ref 24), (1, .int p0)] [] S 0 x_V (F_J_zone p0 S) := by
  unfold F_J_zone
  refine jg_sg 4 (pc1 := 6) (lv1 := [(0, .ref 24), (1, .int p0)]) (st1 := [.long 7, .long 0, .long ((p0 : Int32).toInt64)]) (fun _ _ _ => rfl) ?_
  refine jg_cxV (m2 := jp_J_checkRange) (As := [.long ((p0 : Int32).toInt64), .long 0, .long 7]) (r := []) (mx := 6) (jh_s rfl (fun _ _ _ => rfl) rfl rfl rfl (by omega) (by omega) (Nat.le_of_ble_eq_true rfl)) rfl (fun _ _ => rfl) (kF_J_checkRange ((p0 : Int32).toInt64) 0 7 S _ _ (by omega) (by omega) ) (fun S1 => ?_)
  refine jg_sg 1 (pc1 := 10) (lv1 := [(0, .ref 24), (1, .int p0)]) (st1 := [.ref 24]) (fun _ _ _ => rfl) ?_
  refine jg_g (v := .ref 25) rfl kc_24 rfl rfl ?_
  refine jg_csV (m2 := jp_T_rewind) (As := [.ref 25]) (r := []) (mx := 1) (jh_v (a := 25) rfl rfl rfl kc_25 rfl (Nat.le_of_ble_eq_true rfl) rfl rfl rfl (by omega) (by omega) (Nat.le_of_ble_eq_true rfl)) (kF_T_rewind S1 _ _ (by omega) (by omega) ) (fun z2 => ?_)
  refine jg_sg 1 (pc1 := 17) (lv1 := [(0, .ref 24), (1, .int p0)]) (st1 := [.ref 24]) (fun _ _ _ => rfl) ?_
  refine jg_g (v := .ref (z2.2.2 24 6)) rfl kc_24 rfl rfl ?_
  refine jg_q (fun g3 => ?_)
  refine jg_sg 1 (pc1 := 21) (lv1 := [(0, .ref 24), (1, .int p0)]) (st1 := [.ref 24, .ref (z2.2.2 24 6)]) (fun _ _ _ => rfl) ?_
  refine jg_g (v := .ref 25) rfl kc_24 rfl rfl ?_
  refine jg_csV (m2 := jp_Z_readFrom) (As := [.ref (z2.2.2 24 6), .ref 25]) (r := []) (mx := 4) (jh_v (a := (z2.2.2 24 6)) rfl rfl rfl (kc_Z g3) rfl (Nat.le_of_ble_eq_true rfl) rfl rfl rfl (by omega) (by omega) (Nat.le_of_ble_eq_true rfl)) (kF_Z_readFrom (z2.2.2 24 6) z2 _ _ (by omega) (by omega) g3) (fun z4 => ?_)
  refine jg_sg 1 (pc1 := 28) (lv1 := [(0, .ref 24), (1, .int p0)]) (st1 := [.ref 24]) (fun _ _ _ => rfl) ?_
  refine jg_g (v := .ref 25) rfl kc_24 rfl rfl ?_
  refine jg_sg 1 (pc1 := 32) (lv1 := [(0, .ref 24), (1, .int p0)]) (st1 := [.int 0, .ref 25]) (fun _ _ _ => rfl) ?_
  refine jg_pi rfl kc_25 rfl (Nat.le_of_ble_eq_true rfl) rfl rfl (fun S5 _ => ?_)
  refine jg_sg 1 (pc1 := 36) (lv1 := [(0, .ref 24), (1, .int p0)]) (st1 := [.ref 24]) (fun _ _ _ => rfl) ?_
  refine jg_cxV (m2 := jp_J_checkNotBroken) (As := [.ref 24]) (r := []) (mx := 1) (jh_v (a := 24) rfl rfl rfl kc_24 rfl (Nat.le_of_ble_eq_true rfl) rfl rfl rfl (by omega) (by omega) (Nat.le_of_ble_eq_true rfl)) rfl (fun _ _ => rfl) (kF_J_checkNotBroken S5 _ _ (by omega) (by omega) ) (fun S6 => ?_)
  refine jg_sg 1 (pc1 := 40) (lv1 := [(0, .ref 24), (1, .int p0)]) (st1 := [.ref 24]) (fun _ _ _ => rfl) ?_
  refine jg_g (v := .ref 27) rfl kc_24 rfl rfl ?_
  refine jg_sg 1 (pc1 := 44) (lv1 := [(0, .ref 24), (1, .int p0)]) (st1 := [.int p0, .ref 27]) (fun _ _ _ => rfl) ?_
  refine jg_aal (w := S6.2.2 27 ((p0 : Int32).toNatClampNeg)) rfl rfl kc_27 rfl (fun g7 => ?_)
  refine jg_q (fun g8 => ?_)
  refine jg_sg 1 (pc1 := 46) (lv1 := [(2, .ref (S6.2.2 27 ((p0 : Int32).toNatClampNeg))), (0, .ref 24), (1, .int p0)]) (st1 := []) (fun _ _ _ => rfl) ?_
  refine jg_va (P := fun b => jz_ b = true) g8 (fun b9 hb9 => ?_)
  refine jg_sg 1 (pc1 := 47) (lv1 := [(2, .ref b9), (0, .ref 24), (1, .int p0)]) (st1 := [.ref 24]) (fun _ _ _ => rfl) ?_
  refine jg_g (v := .ref 27) rfl kc_24 rfl rfl ?_
  refine jg_sg 2 (pc1 := 52) (lv1 := [(2, .ref b9), (0, .ref 24), (1, .int p0)]) (st1 := [.ref 24, .int p0, .ref 27]) (fun _ _ _ => rfl) ?_
  refine jg_g (v := .ref (S6.2.2 24 6)) rfl kc_24 rfl rfl ?_
  refine jg_q (fun g10 => ?_)
  refine jg_aas rfl (by decide) kc_27 (kc_Z g10) rfl rfl (fun g11 S12 _ => ?_)
  refine jg_sg 2 (pc1 := 58) (lv1 := [(2, .ref b9), (0, .ref 24), (1, .int p0)]) (st1 := [.ref b9, .ref 24]) (fun _ _ _ => rfl) ?_
  refine jg_pr rfl kc_24 rfl (Nat.le_of_ble_eq_true rfl) rfl rfl (fun S13 _ => ?_)
  exact jg_rv rfl rfl rfl
noncomputable def L_C_clear_2  : Nat → Nat → Int32 → jS → Option jS
  | 0, _, _, _ => none
  | f + 1, x0, x1, S => if 12 ≤ x1 then (j_l (w_i S x0 1 0) (fun S2 => some S2)) else (j_q (j_in x1 12) (j_l (w_l S (x0 + 1) ((x1 : Int32).toNatClampNeg) 0) (fun S4 => (L_C_clear_2 f) x0 (x1 + 1) S4)))
set_option maxRecDepth 20000 in
theorem kL_C_clear_2 {q rF rL : Nat} (hF : 0 ≤ rF) (hL : 0 ≤ rL)   : ∀ (f : Nat) (x0 : Nat) (x1 : Int32) (S : jS), jc_ x0 = true → jg q jp_C_clear rF rL 2 [(0, .ref x0), (1, .int x1)] [] S 0 s_V (L_C_clear_2 f x0 x1 S) := by
  intro f
  induction f with
  | zero => intro _ _ _ _; exact jg_none
  | succ f ih2 =>
    intro x0 x1 S hx0
    rw [L_C_clear_2]
    refine jg_sg 2 (pc1 := 5) (lv1 := [(0, .ref x0), (1, .int x1)]) (st1 := [.int 12, .int x1]) (fun _ _ _ => rfl) ?_
    refine jg_br (fun _ _ _ _ k1 k2 => jt_icmp_ge (t := 21) rfl rfl k1 k2) (fun c1 => ?_) (fun c1 => ?_)
    · refine jg_sg 2 (pc1 := 23) (lv1 := [(0, .ref x0), (1, .int x1)]) (st1 := [.int 0, .ref x0]) (fun _ _ _ => rfl) ?_
      refine jg_pi rfl (kc_C hx0) rfl (Nat.le_of_ble_eq_true rfl) rfl rfl (fun S2 _ => ?_)
      exact jg_rv rfl rfl rfl
    · refine jg_sg 1 (pc1 := 9) (lv1 := [(0, .ref x0), (1, .int x1)]) (st1 := [.ref x0]) (fun _ _ _ => rfl) ?_
      refine jg_g (v := .ref (x0 + 1)) rfl (kc_C hx0) rfl rfl ?_
      refine jg_sg 2 (pc1 := 14) (lv1 := [(0, .ref x0), (1, .int x1)]) (st1 := [.long 0, .int x1, .ref (x0 + 1)]) (fun _ _ _ => rfl) ?_
      refine jg_las rfl (kc_CA hx0) (fun g3 S4 _ => ?_)
      refine jg_sg 2 (pc1 := 2) (lv1 := [(1, .int (x1 + 1)), (0, .ref x0)]) (st1 := []) (fun _ _ _ => rfl) ?_
      refine jg_lvs (lv1 := [(0, .ref x0), (1, .int (x1 + 1))]) rfl rfl ⟨rfl, rfl, trivial⟩ ?_
      exact ih2 x0 (x1 + 1) S4 hx0
noncomputable def F_C_clear (a0 : Nat) (S : jS) : Option jS := L_C_clear_2 ju_ a0 0 S
set_option maxRecDepth 20000 in
theorem kF_C_clear {q : Nat} (a0 : Nat) (S : jS) (rF rL : Nat) (hF : 0 ≤ rF) (hL : 0 ≤ rL) (ha0 : jc_ a0 = true) : jg q jp_C_clear rF rL 0 [(0, .ref a0)] [] S 0 s_V (F_C_clear a0 S) := by
  unfold F_C_clear
  refine jg_sg 2 (pc1 := 2) (lv1 := [(1, .int 0), (0, .ref a0)]) (st1 := []) (fun _ _ _ => rfl) ?_
  refine jg_lvs (lv1 := [(0, .ref a0), (1, .int 0)]) rfl rfl ⟨rfl, rfl, trivial⟩ ?_
  exact kL_C_clear_2 (by omega) (by omega) ju_ a0 0 S ha0
noncomputable def F_C_lowest (p0 : Int32) (S : jS) : Option Int32 := if p0 = 3 then (some 1) else (if p0 = 4 then (some 1) else (if p0 = 5 then (some 1) else (if p0 = 6 then (some 1970) else (some 0))))
set_option maxRecDepth 20000 in
theorem kF_C_lowest {q : Nat} (p0 : Int32) (S : jS) (rF rL : Nat) (hF : 0 ≤ rF) (hL : 0 ≤ rL)  : jg q jp_C_lowest rF rL 0 [(0, .int p0)] [] S 0 (p_I S) (F_C_lowest p0 S) := by
  unfold F_C_lowest
  refine jg_sg 1 (pc1 := 1) (lv1 := [(0, .int p0)]) (st1 := [.int p0]) (fun _ _ _ => rfl) ?_
  refine jg_sw (fun _ _ _ _ e k => jt_tabEq (t := 32) (off := 31) rfl e (by decide) rfl rfl k) (fun c1 => ?_) (fun c1 => ?_)
  · refine jg_sg 1 (pc1 := 33) (lv1 := [(0, .int p0)]) (st1 := [.int 1]) (fun _ _ _ => rfl) ?_
    exact jg_ri rfl rfl rfl rfl
  · skip
    refine jg_sw (fun _ _ _ _ e k => jt_tabEq (t := 32) (off := 31) rfl e (by decide) rfl rfl k) (fun c2 => ?_) (fun c2 => ?_)
    · refine jg_sg 1 (pc1 := 33) (lv1 := [(0, .int p0)]) (st1 := [.int 1]) (fun _ _ _ => rfl) ?_
      exact jg_ri rfl rfl rfl rfl
    · skip
      refine jg_sw (fun _ _ _ _ e k => jt_tabEq (t := 32) (off := 31) rfl e (by decide) rfl rfl k) (fun c3 => ?_) (fun c3 => ?_)
      · refine jg_sg 1 (pc1 := 33) (lv1 := [(0, .int p0)]) (st1 := [.int 1]) (fun _ _ _ => rfl) ?_
        exact jg_ri rfl rfl rfl rfl
      · skip
        refine jg_sw (fun _ _ _ _ e k => jt_tabEq (t := 34) (off := 33) rfl e (by decide) rfl rfl k) (fun c4 => ?_) (fun c4 => ?_)
        · refine jg_sg 1 (pc1 := 37) (lv1 := [(0, .int p0)]) (st1 := [.int 1970]) (fun _ _ _ => rfl) ?_
          exact jg_ri rfl rfl rfl rfl
        · skip
          refine jg_st (fun _ _ _ _ _ k => jt_tabOut (t := 38) rfl (by have q0 := lv_neT c1 (a := 3) rfl; have q1 := lv_neT c2 (a := 4) rfl; have q2 := lv_neT c3 (a := 5) rfl; have q3 := lv_neT c4 (a := 6) rfl; omega) rfl k) ?_
          refine jg_sg 1 (pc1 := 39) (lv1 := [(0, .int p0)]) (st1 := [.int 0]) (fun _ _ _ => rfl) ?_
          exact jg_ri rfl rfl rfl rfl
noncomputable def F_C_highest (p0 : Int32) (S : jS) : Option Int32 := if p0 = 2 then (some 23) else (if p0 = 3 then (some 31) else (if p0 = 4 then (some 12) else (if p0 = 5 then (some 7) else (if p0 = 6 then (some 2299) else (some 59)))))
set_option maxRecDepth 20000 in
theorem kF_C_highest {q : Nat} (p0 : Int32) (S : jS) (rF rL : Nat) (hF : 0 ≤ rF) (hL : 0 ≤ rL)  : jg q jp_C_highest rF rL 0 [(0, .int p0)] [] S 0 (p_I S) (F_C_highest p0 S) := by
  unfold F_C_highest
  refine jg_sg 1 (pc1 := 1) (lv1 := [(0, .int p0)]) (st1 := [.int p0]) (fun _ _ _ => rfl) ?_
  refine jg_sw (fun _ _ _ _ e k => jt_tabEq (t := 36) (off := 35) rfl e (by decide) rfl rfl k) (fun c1 => ?_) (fun c1 => ?_)
  · refine jg_sg 1 (pc1 := 38) (lv1 := [(0, .int p0)]) (st1 := [.int 23]) (fun _ _ _ => rfl) ?_
    exact jg_ri rfl rfl rfl rfl
  · skip
    refine jg_sw (fun _ _ _ _ e k => jt_tabEq (t := 39) (off := 38) rfl e (by decide) rfl rfl k) (fun c2 => ?_) (fun c2 => ?_)
    · refine jg_sg 1 (pc1 := 41) (lv1 := [(0, .int p0)]) (st1 := [.int 31]) (fun _ _ _ => rfl) ?_
      exact jg_ri rfl rfl rfl rfl
    · skip
      refine jg_sw (fun _ _ _ _ e k => jt_tabEq (t := 42) (off := 41) rfl e (by decide) rfl rfl k) (fun c3 => ?_) (fun c3 => ?_)
      · refine jg_sg 1 (pc1 := 44) (lv1 := [(0, .int p0)]) (st1 := [.int 12]) (fun _ _ _ => rfl) ?_
        exact jg_ri rfl rfl rfl rfl
      · skip
        refine jg_sw (fun _ _ _ _ e k => jt_tabEq (t := 45) (off := 44) rfl e (by decide) rfl rfl k) (fun c4 => ?_) (fun c4 => ?_)
        · refine jg_sg 1 (pc1 := 47) (lv1 := [(0, .int p0)]) (st1 := [.int 7]) (fun _ _ _ => rfl) ?_
          exact jg_ri rfl rfl rfl rfl
        · skip
          refine jg_sw (fun _ _ _ _ e k => jt_tabEq (t := 48) (off := 47) rfl e (by decide) rfl rfl k) (fun c5 => ?_) (fun c5 => ?_)
          · refine jg_sg 1 (pc1 := 51) (lv1 := [(0, .int p0)]) (st1 := [.int 2299]) (fun _ _ _ => rfl) ?_
            exact jg_ri rfl rfl rfl rfl
          · skip
            refine jg_st (fun _ _ _ _ _ k => jt_tabOut (t := 52) rfl (by have q0 := lv_neT c1 (a := 2) rfl; have q1 := lv_neT c2 (a := 3) rfl; have q2 := lv_neT c3 (a := 4) rfl; have q3 := lv_neT c4 (a := 5) rfl; have q4 := lv_neT c5 (a := 6) rfl; omega) rfl k) ?_
            refine jg_sg 1 (pc1 := 54) (lv1 := [(0, .int p0)]) (st1 := [.int 59]) (fun _ _ _ => rfl) ?_
            exact jg_ri rfl rfl rfl rfl
end JF1
