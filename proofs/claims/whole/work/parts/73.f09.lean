section JF9
noncomputable def L_M_date_56  : Nat → Int32 → jS → Option jS
  | 0, _, _ => none
  | f + 1, x2, S => (F_M_length (S.1 215 4) (S.1 215 5) S).bind (fun z8 => if x2 < z8 then (j_l (w_i S 215 6 (x2 + 1)) (fun S10 => some S10)) else ((F_M_length (S.1 215 4) (S.1 215 5) S).bind (fun z11 => j_l (x2 - z11 : Int32) (fun v12 => j_l (w_i S 215 5 ((S.1 215 5) + 1)) (fun S13 => (L_M_date_56 f) v12 S13)))))
set_option maxRecDepth 20000 in
theorem kL_M_date_56 {q rF rL : Nat} (hF : 3 ≤ rF) (hL : 65 ≤ rL)   : ∀ (f : Nat) (x2 : Int32) (S : jS), jg q jp_M_date rF rL 56 [(0, .ref 215), (2, .int x2)] [] S 0 s_V (L_M_date_56 f x2 S) := by
  intro f
  induction f with
  | zero => intro _ _; exact jg_none
  | succ f ih56 =>
    intro x2 S
    rw [L_M_date_56]
    refine jg_sg 2 (pc1 := 58) (lv1 := [(0, .ref 215), (2, .int x2)]) (st1 := [.ref 215, .int x2]) (fun _ _ _ => rfl) ?_
    refine jg_g (v := .int (S.1 215 4)) rfl kc_215 rfl rfl ?_
    refine jg_sg 1 (pc1 := 62) (lv1 := [(0, .ref 215), (2, .int x2)]) (st1 := [.ref 215, .int (S.1 215 4), .int x2]) (fun _ _ _ => rfl) ?_
    refine jg_g (v := .int (S.1 215 5)) rfl kc_215 rfl rfl ?_
    refine jg_cpI (m2 := jp_M_length) (As := [.int (S.1 215 4), .int (S.1 215 5)]) (r := [.int x2]) (mx := 2) (jh_s rfl (fun _ _ _ => rfl) rfl rfl rfl (by omega) (by omega) (Nat.le_of_ble_eq_true rfl)) (kF_M_length (S.1 215 4) (S.1 215 5) S _ _ (by omega) (by omega) ) (fun z8 => ?_)
    refine jg_br (fun _ _ _ _ k1 k2 => jt_icmp_lt (t := 98) rfl rfl k1 k2) (fun c9 => ?_) (fun c9 => ?_)
    · refine jg_sg 4 (pc1 := 102) (lv1 := [(0, .ref 215), (2, .int x2)]) (st1 := [.int (x2 + 1), .ref 215]) (fun _ _ _ => rfl) ?_
      refine jg_pi rfl kc_215 rfl (Nat.le_of_ble_eq_true rfl) rfl rfl (fun S10 _ => ?_)
      exact jg_rv rfl rfl rfl
    · refine jg_sg 2 (pc1 := 73) (lv1 := [(0, .ref 215), (2, .int x2)]) (st1 := [.ref 215, .int x2]) (fun _ _ _ => rfl) ?_
      refine jg_g (v := .int (S.1 215 4)) rfl kc_215 rfl rfl ?_
      refine jg_sg 1 (pc1 := 77) (lv1 := [(0, .ref 215), (2, .int x2)]) (st1 := [.ref 215, .int (S.1 215 4), .int x2]) (fun _ _ _ => rfl) ?_
      refine jg_g (v := .int (S.1 215 5)) rfl kc_215 rfl rfl ?_
      refine jg_cpI (m2 := jp_M_length) (As := [.int (S.1 215 4), .int (S.1 215 5)]) (r := [.int x2]) (mx := 2) (jh_s rfl (fun _ _ _ => rfl) rfl rfl rfl (by omega) (by omega) (Nat.le_of_ble_eq_true rfl)) (kF_M_length (S.1 215 4) (S.1 215 5) S _ _ (by omega) (by omega) ) (fun z11 => ?_)
      refine jg_sg 2 (pc1 := 85) (lv1 := [(2, .int (x2 - z11)), (0, .ref 215)]) (st1 := []) (fun _ _ _ => rfl) ?_
      refine jg_vi (fun v12 => ?_)
      refine jg_sg 2 (pc1 := 87) (lv1 := [(2, .int v12), (0, .ref 215)]) (st1 := [.ref 215, .ref 215]) (fun _ _ _ => rfl) ?_
      refine jg_g (v := .int (S.1 215 5)) rfl kc_215 rfl rfl ?_
      refine jg_sg 2 (pc1 := 92) (lv1 := [(2, .int v12), (0, .ref 215)]) (st1 := [.int ((S.1 215 5) + 1), .ref 215]) (fun _ _ _ => rfl) ?_
      refine jg_pi rfl kc_215 rfl (Nat.le_of_ble_eq_true rfl) rfl rfl (fun S13 _ => ?_)
      refine jg_sg 1 (pc1 := 56) (lv1 := [(2, .int v12), (0, .ref 215)]) (st1 := []) (fun _ _ _ => rfl) ?_
      refine jg_lvs (lv1 := [(0, .ref 215), (2, .int v12)]) rfl rfl ⟨rfl, rfl, trivial⟩ ?_
      exact ih56 v12 S13
noncomputable def L_M_date_15  : Nat → Int32 → jS → Option jS
  | 0, _, _ => none
  | f + 1, x1, S => (F_M_number (S.1 215 4) 1 S).bind (fun z3 => if z3 ≤ x1 then ((F_M_number (S.1 215 4) 1 S).bind (fun z5 => j_l (x1 - z5 : Int32) (fun v6 => j_l (w_i S 215 5 1) (fun S7 => L_M_date_56 ju_ v6 S7)))) else (j_l (w_i S 215 4 ((S.1 215 4) - 1)) (fun S14 => (L_M_date_15 f) x1 S14)))
set_option maxRecDepth 20000 in
theorem kL_M_date_15 {q rF rL : Nat} (hF : 3 ≤ rF) (hL : 65 ≤ rL)   : ∀ (f : Nat) (x1 : Int32) (S : jS), jg q jp_M_date rF rL 15 [(0, .ref 215), (1, .int x1)] [] S 0 s_V (L_M_date_15 f x1 S) := by
  intro f
  induction f with
  | zero => intro _ _; exact jg_none
  | succ f ih15 =>
    intro x1 S
    rw [L_M_date_15]
    refine jg_sg 1 (pc1 := 16) (lv1 := [(0, .ref 215), (1, .int x1)]) (st1 := [.ref 215]) (fun _ _ _ => rfl) ?_
    refine jg_g (v := .int (S.1 215 4)) rfl kc_215 rfl rfl ?_
    refine jg_sg 1 (pc1 := 20) (lv1 := [(0, .ref 215), (1, .int x1)]) (st1 := [.int 1, .int (S.1 215 4)]) (fun _ _ _ => rfl) ?_
    refine jg_cpI (m2 := jp_M_number) (As := [.int (S.1 215 4), .int 1]) (r := []) (mx := 5) (jh_s rfl (fun _ _ _ => rfl) rfl rfl rfl (by omega) (by omega) (Nat.le_of_ble_eq_true rfl)) (kF_M_number (S.1 215 4) 1 S _ _ (by omega) (by omega) ) (fun z3 => ?_)
    refine jg_sg 1 (pc1 := 24) (lv1 := [(0, .ref 215), (1, .int x1)]) (st1 := [.int x1, .int z3]) (fun _ _ _ => rfl) ?_
    refine jg_br (fun _ _ _ _ k1 k2 => jt_icmp_le (t := 40) rfl rfl k1 k2) (fun c4 => ?_) (fun c4 => ?_)
    · refine jg_sg 2 (pc1 := 42) (lv1 := [(0, .ref 215), (1, .int x1)]) (st1 := [.ref 215, .int x1]) (fun _ _ _ => rfl) ?_
      refine jg_g (v := .int (S.1 215 4)) rfl kc_215 rfl rfl ?_
      refine jg_sg 1 (pc1 := 46) (lv1 := [(0, .ref 215), (1, .int x1)]) (st1 := [.int 1, .int (S.1 215 4), .int x1]) (fun _ _ _ => rfl) ?_
      refine jg_cpI (m2 := jp_M_number) (As := [.int (S.1 215 4), .int 1]) (r := [.int x1]) (mx := 5) (jh_s rfl (fun _ _ _ => rfl) rfl rfl rfl (by omega) (by omega) (Nat.le_of_ble_eq_true rfl)) (kF_M_number (S.1 215 4) 1 S _ _ (by omega) (by omega) ) (fun z5 => ?_)
      refine jg_sg 2 (pc1 := 51) (lv1 := [(2, .int (x1 - z5)), (0, .ref 215), (1, .int x1)]) (st1 := []) (fun _ _ _ => rfl) ?_
      refine jg_vi (fun v6 => ?_)
      refine jg_sg 2 (pc1 := 53) (lv1 := [(2, .int v6), (0, .ref 215), (1, .int x1)]) (st1 := [.int 1, .ref 215]) (fun _ _ _ => rfl) ?_
      refine jg_pi rfl kc_215 rfl (Nat.le_of_ble_eq_true rfl) rfl rfl (fun S7 _ => ?_)
      refine jg_lvs (lv1 := [(0, .ref 215), (2, .int v6)]) rfl rfl ⟨rfl, rfl, trivial⟩ ?_
      exact kL_M_date_56 (by omega) (by omega) ju_ v6 S7
    · refine jg_sg 2 (pc1 := 29) (lv1 := [(0, .ref 215), (1, .int x1)]) (st1 := [.ref 215, .ref 215]) (fun _ _ _ => rfl) ?_
      refine jg_g (v := .int (S.1 215 4)) rfl kc_215 rfl rfl ?_
      refine jg_sg 2 (pc1 := 34) (lv1 := [(0, .ref 215), (1, .int x1)]) (st1 := [.int ((S.1 215 4) - 1), .ref 215]) (fun _ _ _ => rfl) ?_
      refine jg_pi rfl kc_215 rfl (Nat.le_of_ble_eq_true rfl) rfl rfl (fun S14 _ => ?_)
      refine jg_sg 1 (pc1 := 15) (lv1 := [(0, .ref 215), (1, .int x1)]) (st1 := []) (fun _ _ _ => rfl) ?_
      refine jg_lvs (lv1 := [(0, .ref 215), (1, .int x1)]) rfl rfl ⟨rfl, rfl, trivial⟩ ?_
      exact ih15 x1 S14
noncomputable def F_M_date (p0 : Int32) (S : jS) : Option jS := (F_Math_floorDiv p0 365 S).bind (fun z1 => j_l (w_i S 215 4 (1970 + z1)) (fun S2 => L_M_date_15 ju_ p0 S2))
set_option maxRecDepth 20000 in
theorem kF_M_date {q : Nat} (p0 : Int32) (S : jS) (rF rL : Nat) (hF : 3 ≤ rF) (hL : 65 ≤ rL)  : jg q jp_M_date rF rL 0 [(0, .ref 215), (1, .int p0)] [] S 0 s_V (F_M_date p0 S) := by
  unfold F_M_date
  refine jg_sg 4 (pc1 := 8) (lv1 := [(0, .ref 215), (1, .int p0)]) (st1 := [.int 365, .int p0, .int 1970, .ref 215]) (fun _ _ _ => rfl) ?_
  refine jg_cpI (m2 := jp_Math_floorDiv) (As := [.int p0, .int 365]) (r := [.int 1970, .ref 215]) (mx := 3) (jh_s rfl (fun _ _ _ => rfl) rfl rfl rfl (by omega) (by omega) (Nat.le_of_ble_eq_true rfl)) (kF_Math_floorDiv p0 365 S _ _ (by omega) (by omega) ) (fun z1 => ?_)
  refine jg_sg 1 (pc1 := 12) (lv1 := [(0, .ref 215), (1, .int p0)]) (st1 := [.int (1970 + z1), .ref 215]) (fun _ _ _ => rfl) ?_
  refine jg_pi rfl kc_215 rfl (Nat.le_of_ble_eq_true rfl) rfl rfl (fun S2 _ => ?_)
  refine jg_lvs (lv1 := [(0, .ref 215), (1, .int p0)]) rfl rfl ⟨rfl, rfl, trivial⟩ ?_
  exact kL_M_date_15 (by omega) (by omega) ju_ p0 S2
noncomputable def F_M_weekday (p0 : Int32) (S : jS) : Option Int32 := (F_Math_floorMod (p0 + 4) 7 S).bind (fun z1 => some (z1 + 1))
set_option maxRecDepth 20000 in
theorem kF_M_weekday {q : Nat} (p0 : Int32) (S : jS) (rF rL : Nat) (hF : 1 ≤ rF) (hL : 22 ≤ rL)  : jg q jp_M_weekday rF rL 0 [(0, .int p0)] [] S 0 (p_I S) (F_M_weekday p0 S) := by
  unfold F_M_weekday
  refine jg_sg 4 (pc1 := 5) (lv1 := [(0, .int p0)]) (st1 := [.int 7, .int (p0 + 4)]) (fun _ _ _ => rfl) ?_
  refine jg_cpI (m2 := jp_Math_floorMod) (As := [.int (p0 + 4), .int 7]) (r := []) (mx := 3) (jh_s rfl (fun _ _ _ => rfl) rfl rfl rfl (by omega) (by omega) (Nat.le_of_ble_eq_true rfl)) (kF_Math_floorMod (p0 + 4) 7 S _ _ (by omega) (by omega) ) (fun z1 => ?_)
  refine jg_sg 2 (pc1 := 10) (lv1 := [(0, .int p0)]) (st1 := [.int (z1 + 1)]) (fun _ _ _ => rfl) ?_
  exact jg_ri rfl rfl rfl rfl
noncomputable def F_M_bad (p0 : Int32) (S : jS) : Option (Option Nat × jS) := j_l (w_i S 215 3 p0) (fun S1 => some (some 12, S1))
set_option maxRecDepth 20000 in
theorem kF_M_bad {q : Nat} (p0 : Int32) (S : jS) (rF rL : Nat) (hF : 6 ≤ rF) (hL : 81 ≤ rL)  : jg q jp_M_bad rF rL 0 [(0, .ref 215), (1, .int p0)] [] S 0 x_V (F_M_bad p0 S) := by
  unfold F_M_bad
  refine jg_sg 2 (pc1 := 2) (lv1 := [(0, .ref 215), (1, .int p0)]) (st1 := [.int p0, .ref 215]) (fun _ _ _ => rfl) ?_
  refine jg_pi rfl kc_215 rfl (Nat.le_of_ble_eq_true rfl) rfl rfl (fun S1 _ => ?_)
  exact jg_thr rfl (fun _ _ _ => rfl) rfl (by omega) (by show 0 + 81 ≤ rL; omega) rfl
noncomputable def F_M_peek  (S : jS) : Option Int32 := if (S.1 215 2) ≤ (S.1 215 7) then (some (-1)) else (j_q (j_in (S.1 215 7) 400) (some ((S.1 216 ((S.1 215 7 : Int32).toNatClampNeg)) &&& 255)))
set_option maxRecDepth 20000 in
theorem kF_M_peek {q : Nat}  (S : jS) (rF rL : Nat) (hF : 0 ≤ rF) (hL : 0 ≤ rL)  : jg q jp_M_peek rF rL 0 [(0, .ref 215)] [] S 0 (p_I S) (F_M_peek S) := by
  unfold F_M_peek
  refine jg_sg 1 (pc1 := 1) (lv1 := [(0, .ref 215)]) (st1 := [.ref 215]) (fun _ _ _ => rfl) ?_
  refine jg_g (v := .int (S.1 215 7)) rfl kc_215 rfl rfl ?_
  refine jg_sg 1 (pc1 := 5) (lv1 := [(0, .ref 215)]) (st1 := [.ref 215, .int (S.1 215 7)]) (fun _ _ _ => rfl) ?_
  refine jg_g (v := .int (S.1 215 2)) rfl kc_215 rfl rfl ?_
  refine jg_br (fun _ _ _ _ k1 k2 => jt_icmp_ge (t := 27) rfl rfl k1 k2) (fun c1 => ?_) (fun c1 => ?_)
  · refine jg_sg 1 (pc1 := 28) (lv1 := [(0, .ref 215)]) (st1 := [.int (-1)]) (fun _ _ _ => rfl) ?_
    exact jg_ri rfl rfl rfl rfl
  · refine jg_sg 1 (pc1 := 12) (lv1 := [(0, .ref 215)]) (st1 := [.ref 215]) (fun _ _ _ => rfl) ?_
    refine jg_g (v := .ref 216) rfl kc_215 rfl rfl ?_
    refine jg_sg 1 (pc1 := 16) (lv1 := [(0, .ref 215)]) (st1 := [.ref 215, .ref 216]) (fun _ _ _ => rfl) ?_
    refine jg_g (v := .int (S.1 215 7)) rfl kc_215 rfl rfl ?_
    refine jg_bal rfl rfl kc_216 (fun g2 => ?_)
    refine jg_sg 3 (pc1 := 28) (lv1 := [(0, .ref 215)]) (st1 := [.int ((S.1 216 ((S.1 215 7 : Int32).toNatClampNeg)) &&& 255)]) (fun _ _ _ => rfl) ?_
    exact jg_ri rfl rfl rfl rfl
noncomputable def F_M_digit (p0 : Int32) (S : jS) : Option Int32 := if p0 < 48 then (some 0) else (if 57 < p0 then (some 0) else (some 1))
set_option maxRecDepth 20000 in
theorem kF_M_digit {q : Nat} (p0 : Int32) (S : jS) (rF rL : Nat) (hF : 0 ≤ rF) (hL : 0 ≤ rL)  : jg q jp_M_digit rF rL 0 [(0, .int p0)] [] S 0 (p_I S) (F_M_digit p0 S) := by
  unfold F_M_digit
  refine jg_sg 2 (pc1 := 3) (lv1 := [(0, .int p0)]) (st1 := [.int 48, .int p0]) (fun _ _ _ => rfl) ?_
  refine jg_br (fun _ _ _ _ k1 k2 => jt_icmp_lt (t := 16) rfl rfl k1 k2) (fun c1 => ?_) (fun c1 => ?_)
  · refine jg_sg 1 (pc1 := 17) (lv1 := [(0, .int p0)]) (st1 := [.int 0]) (fun _ _ _ => rfl) ?_
    exact jg_ri rfl rfl rfl rfl
  · refine jg_sg 2 (pc1 := 9) (lv1 := [(0, .int p0)]) (st1 := [.int 57, .int p0]) (fun _ _ _ => rfl) ?_
    refine jg_br (fun _ _ _ _ k1 k2 => jt_icmp_gt (t := 16) rfl rfl k1 k2) (fun c2 => ?_) (fun c2 => ?_)
    · refine jg_sg 1 (pc1 := 17) (lv1 := [(0, .int p0)]) (st1 := [.int 0]) (fun _ _ _ => rfl) ?_
      exact jg_ri rfl rfl rfl rfl
    · refine jg_sg 2 (pc1 := 17) (lv1 := [(0, .int p0)]) (st1 := [.int 1]) (fun _ _ _ => rfl) ?_
      exact jg_ri rfl rfl rfl rfl
noncomputable def J_M_expect_16 (S : jS) : Option (Option Nat × jS) := j_l (w_i S 215 7 ((S.1 215 7) + 1)) (fun S3 => some (none, S3))
set_option maxRecDepth 20000 in
theorem kJ_M_expect_16 {q rF rL : Nat} (hF : 7 ≤ rF) (hL : 102 ≤ rL)   (S : jS) : jg q jp_M_expect rF rL 16 [(0, .ref 215)] [] S 0 x_V (J_M_expect_16 S) := by
  unfold J_M_expect_16
  refine jg_sg 2 (pc1 := 18) (lv1 := [(0, .ref 215)]) (st1 := [.ref 215, .ref 215]) (fun _ _ _ => rfl) ?_
  refine jg_g (v := .int (S.1 215 7)) rfl kc_215 rfl rfl ?_
  refine jg_sg 2 (pc1 := 23) (lv1 := [(0, .ref 215)]) (st1 := [.int ((S.1 215 7) + 1), .ref 215]) (fun _ _ _ => rfl) ?_
  refine jg_pi rfl kc_215 rfl (Nat.le_of_ble_eq_true rfl) rfl rfl (fun S3 _ => ?_)
  exact jg_rv rfl rfl rfl
noncomputable def F_M_expect (p0 : Int32) (S : jS) : Option (Option Nat × jS) := (F_M_peek S).bind (fun z1 => if z1 = p0 then (J_M_expect_16 S) else (j_xv (F_M_bad (S.1 215 7) S) (fun c S => (some c, S)) (fun S4 => J_M_expect_16 S4)))
set_option maxRecDepth 20000 in
theorem kF_M_expect {q : Nat} (p0 : Int32) (S : jS) (rF rL : Nat) (hF : 7 ≤ rF) (hL : 102 ≤ rL)  : jg q jp_M_expect rF rL 0 [(0, .ref 215), (1, .int p0)] [] S 0 x_V (F_M_expect p0 S) := by
  unfold F_M_expect
  refine jg_sg 1 (pc1 := 1) (lv1 := [(0, .ref 215), (1, .int p0)]) (st1 := [.ref 215]) (fun _ _ _ => rfl) ?_
  refine jg_cpI (m2 := jp_M_peek) (As := [.ref 215]) (r := []) (mx := 1) (jh_v (a := 215) rfl rfl rfl kc_215 rfl (Nat.le_of_ble_eq_true rfl) rfl rfl rfl (by omega) (by omega) (Nat.le_of_ble_eq_true rfl)) (kF_M_peek S _ _ (by omega) (by omega) ) (fun z1 => ?_)
  refine jg_sg 1 (pc1 := 5) (lv1 := [(0, .ref 215), (1, .int p0)]) (st1 := [.int p0, .int z1]) (fun _ _ _ => rfl) ?_
  refine jg_br (fun _ _ _ _ k1 k2 => jt_icmp_eq (t := 16) rfl rfl k1 k2) (fun c2 => ?_) (fun c2 => ?_)
  · refine jg_lvs (lv1 := [(0, .ref 215)]) rfl rfl ⟨rfl, trivial⟩ ?_
    exact kJ_M_expect_16 (by omega) (by omega) S
  · refine jg_sg 2 (pc1 := 10) (lv1 := [(0, .ref 215), (1, .int p0)]) (st1 := [.ref 215, .ref 215]) (fun _ _ _ => rfl) ?_
    refine jg_g (v := .int (S.1 215 7)) rfl kc_215 rfl rfl ?_
    refine jg_cxV (m2 := jp_M_bad) (As := [.ref 215, .int (S.1 215 7)]) (r := []) (mx := 2) (jh_v (a := 215) rfl rfl rfl kc_215 rfl (Nat.le_of_ble_eq_true rfl) rfl rfl rfl (by omega) (by omega) (Nat.le_of_ble_eq_true rfl)) rfl (fun _ _ => rfl) (kF_M_bad (S.1 215 7) S _ _ (by omega) (by omega) ) (fun S4 => ?_)
    refine jg_lvs (lv1 := [(0, .ref 215)]) rfl rfl ⟨rfl, trivial⟩ ?_
    exact kJ_M_expect_16 (by omega) (by omega) S4
noncomputable def L_M_blanks_17  : Nat → jS → Option (Option Nat × jS)
  | 0, _ => none
  | f + 1, S => (F_M_peek S).bind (fun z3 => if z3 = 32 then (j_l (w_i S 215 7 ((S.1 215 7) + 1)) (fun S5 => (L_M_blanks_17 f) S5)) else (some (none, S)))
set_option maxRecDepth 20000 in
theorem kL_M_blanks_17 {q rF rL : Nat} (hF : 7 ≤ rF) (hL : 102 ≤ rL)   : ∀ (f : Nat) (S : jS), jg q jp_M_blanks rF rL 17 [(0, .ref 215)] [] S 0 x_V (L_M_blanks_17 f S) := by
  intro f
  induction f with
  | zero => intro _; exact jg_none
  | succ f ih17 =>
    intro S
    rw [L_M_blanks_17]
    refine jg_sg 1 (pc1 := 18) (lv1 := [(0, .ref 215)]) (st1 := [.ref 215]) (fun _ _ _ => rfl) ?_
    refine jg_cpI (m2 := jp_M_peek) (As := [.ref 215]) (r := []) (mx := 1) (jh_v (a := 215) rfl rfl rfl kc_215 rfl (Nat.le_of_ble_eq_true rfl) rfl rfl rfl (by omega) (by omega) (Nat.le_of_ble_eq_true rfl)) (kF_M_peek S _ _ (by omega) (by omega) ) (fun z3 => ?_)
    refine jg_sg 1 (pc1 := 23) (lv1 := [(0, .ref 215)]) (st1 := [.int 32, .int z3]) (fun _ _ _ => rfl) ?_
    refine jg_br (fun _ _ _ _ k1 k2 => jt_icmp_ne (t := 39) rfl rfl k2 k1) (fun c4 => ?_) (fun c4 => ?_)
    · refine jg_sg 2 (pc1 := 28) (lv1 := [(0, .ref 215)]) (st1 := [.ref 215, .ref 215]) (fun _ _ _ => rfl) ?_
      refine jg_g (v := .int (S.1 215 7)) rfl kc_215 rfl rfl ?_
      refine jg_sg 2 (pc1 := 33) (lv1 := [(0, .ref 215)]) (st1 := [.int ((S.1 215 7) + 1), .ref 215]) (fun _ _ _ => rfl) ?_
      refine jg_pi rfl kc_215 rfl (Nat.le_of_ble_eq_true rfl) rfl rfl (fun S5 _ => ?_)
      refine jg_sg 1 (pc1 := 17) (lv1 := [(0, .ref 215)]) (st1 := []) (fun _ _ _ => rfl) ?_
      refine jg_lvs (lv1 := [(0, .ref 215)]) rfl rfl ⟨rfl, trivial⟩ ?_
      exact ih17 S5
    · exact jg_rv rfl rfl rfl
noncomputable def F_M_blanks  (S : jS) : Option (Option Nat × jS) := (F_M_peek S).bind (fun z1 => if z1 = 32 then (L_M_blanks_17 ju_ S) else (j_xv (F_M_bad (S.1 215 7) S) (fun c S => (some c, S)) (fun S6 => L_M_blanks_17 ju_ S6)))
set_option maxRecDepth 20000 in
theorem kF_M_blanks {q : Nat}  (S : jS) (rF rL : Nat) (hF : 7 ≤ rF) (hL : 102 ≤ rL)  : jg q jp_M_blanks rF rL 0 [(0, .ref 215)] [] S 0 x_V (F_M_blanks S) := by
  unfold F_M_blanks
  refine jg_sg 1 (pc1 := 1) (lv1 := [(0, .ref 215)]) (st1 := [.ref 215]) (fun _ _ _ => rfl) ?_
  refine jg_cpI (m2 := jp_M_peek) (As := [.ref 215]) (r := []) (mx := 1) (jh_v (a := 215) rfl rfl rfl kc_215 rfl (Nat.le_of_ble_eq_true rfl) rfl rfl rfl (by omega) (by omega) (Nat.le_of_ble_eq_true rfl)) (kF_M_peek S _ _ (by omega) (by omega) ) (fun z1 => ?_)
  refine jg_sg 1 (pc1 := 6) (lv1 := [(0, .ref 215)]) (st1 := [.int 32, .int z1]) (fun _ _ _ => rfl) ?_
  refine jg_br (fun _ _ _ _ k1 k2 => jt_icmp_eq (t := 17) rfl rfl k1 k2) (fun c2 => ?_) (fun c2 => ?_)
  · refine jg_lvs (lv1 := [(0, .ref 215)]) rfl rfl ⟨rfl, trivial⟩ ?_
    exact kL_M_blanks_17 (by omega) (by omega) ju_ S
  · refine jg_sg 2 (pc1 := 11) (lv1 := [(0, .ref 215)]) (st1 := [.ref 215, .ref 215]) (fun _ _ _ => rfl) ?_
    refine jg_g (v := .int (S.1 215 7)) rfl kc_215 rfl rfl ?_
    refine jg_cxV (m2 := jp_M_bad) (As := [.ref 215, .int (S.1 215 7)]) (r := []) (mx := 2) (jh_v (a := 215) rfl rfl rfl kc_215 rfl (Nat.le_of_ble_eq_true rfl) rfl rfl rfl (by omega) (by omega) (Nat.le_of_ble_eq_true rfl)) rfl (fun _ _ => rfl) (kF_M_bad (S.1 215 7) S _ _ (by omega) (by omega) ) (fun S6 => ?_)
    refine jg_lvs (lv1 := [(0, .ref 215)]) rfl rfl ⟨rfl, trivial⟩ ?_
    exact kL_M_blanks_17 (by omega) (by omega) ju_ S6
noncomputable def J_M_ranged_103 (x3 : Int32) (x4 : Int32) (S : jS) : Option ((Int32 ⊕ Nat) × jS) := j_xv (F_M_bad x3 S) (fun c S => (.inr c, S)) (fun S10 => some (.inl x4, S10))
set_option maxRecDepth 20000 in
theorem kJ_M_ranged_103 {q rF rL : Nat} (hF : 7 ≤ rF) (hL : 102 ≤ rL)   (x3 : Int32) (x4 : Int32) (S : jS) : jg q jp_M_ranged rF rL 103 [(0, .ref 215), (3, .int x3), (4, .int x4)] [] S 0 x_I (J_M_ranged_103 x3 x4 S) := by
  unfold J_M_ranged_103
  refine jg_sg 2 (pc1 := 105) (lv1 := [(0, .ref 215), (3, .int x3), (4, .int x4)]) (st1 := [.int x3, .ref 215]) (fun _ _ _ => rfl) ?_
  refine jg_cxV (m2 := jp_M_bad) (As := [.ref 215, .int x3]) (r := []) (mx := 2) (jh_v (a := 215) rfl rfl rfl kc_215 rfl (Nat.le_of_ble_eq_true rfl) rfl rfl rfl (by omega) (by omega) (Nat.le_of_ble_eq_true rfl)) rfl (fun _ _ => rfl) (kF_M_bad x3 S _ _ (by omega) (by omega) ) (fun S10 => ?_)
  refine jg_sg 1 (pc1 := 110) (lv1 := [(0, .ref 215), (3, .int x3), (4, .int x4)]) (st1 := [.int x4]) (fun _ _ _ => rfl) ?_
  exact jg_ri rfl rfl rfl rfl
noncomputable def J_M_ranged_91 (x1 : Int32) (x2 : Int32) (x3 : Int32) (x4 : Int32) (S : jS) : Option ((Int32 ⊕ Nat) × jS) := if x4 < x1 then (J_M_ranged_103 x3 x4 S) else (if x4 ≤ x2 then (some (.inl x4, S)) else (J_M_ranged_103 x3 x4 S))
set_option maxRecDepth 20000 in
theorem kJ_M_ranged_91 {q rF rL : Nat} (hF : 7 ≤ rF) (hL : 102 ≤ rL)   (x1 : Int32) (x2 : Int32) (x3 : Int32) (x4 : Int32) (S : jS) : jg q jp_M_ranged rF rL 91 [(0, .ref 215), (1, .int x1), (2, .int x2), (3, .int x3), (4, .int x4)] [] S 0 x_I (J_M_ranged_91 x1 x2 x3 x4 S) := by
  unfold J_M_ranged_91
  refine jg_sg 2 (pc1 := 94) (lv1 := [(0, .ref 215), (1, .int x1), (2, .int x2), (3, .int x3), (4, .int x4)]) (st1 := [.int x1, .int x4]) (fun _ _ _ => rfl) ?_
  refine jg_br (fun _ _ _ _ k1 k2 => jt_icmp_lt (t := 103) rfl rfl k1 k2) (fun c9 => ?_) (fun c9 => ?_)
  · refine jg_lvs (lv1 := [(0, .ref 215), (3, .int x3), (4, .int x4)]) rfl rfl ⟨rfl, rfl, rfl, trivial⟩ ?_
    exact kJ_M_ranged_103 (by omega) (by omega) x3 x4 S
  · refine jg_sg 2 (pc1 := 100) (lv1 := [(0, .ref 215), (1, .int x1), (2, .int x2), (3, .int x3), (4, .int x4)]) (st1 := [.int x2, .int x4]) (fun _ _ _ => rfl) ?_
    refine jg_br (fun _ _ _ _ k1 k2 => jt_icmp_le (t := 108) rfl rfl k1 k2) (fun c11 => ?_) (fun c11 => ?_)
    · refine jg_sg 1 (pc1 := 110) (lv1 := [(0, .ref 215), (1, .int x1), (2, .int x2), (3, .int x3), (4, .int x4)]) (st1 := [.int x4]) (fun _ _ _ => rfl) ?_
      exact jg_ri rfl rfl rfl rfl
    · refine jg_lvs (lv1 := [(0, .ref 215), (3, .int x3), (4, .int x4)]) rfl rfl ⟨rfl, rfl, rfl, trivial⟩ ?_
      exact kJ_M_ranged_103 (by omega) (by omega) x3 x4 S
noncomputable def L_M_ranged_48  : Nat → Int32 → Int32 → Int32 → Int32 → jS → Option ((Int32 ⊕ Nat) × jS)
  | 0, _, _, _, _, _ => none
  | f + 1, x1, x2, x3, x4, S => (F_M_peek S).bind (fun z12 => (F_M_digit z12 S).bind (fun z13 => if z13 = 0 then (J_M_ranged_91 x1 x2 x3 x4 S) else ((F_M_peek S).bind (fun z15 => (F_Math_min (((10 * x4) + z15) - 48) 100000 S).bind (fun z16 => j_l (w_i S 215 7 ((S.1 215 7) + 1)) (fun S17 => (L_M_ranged_48 f) x1 x2 x3 z16 S17))))))
set_option maxRecDepth 20000 in
theorem kL_M_ranged_48 {q rF rL : Nat} (hF : 7 ≤ rF) (hL : 102 ≤ rL)   : ∀ (f : Nat) (x1 : Int32) (x2 : Int32) (x3 : Int32) (x4 : Int32) (S : jS), jg q jp_M_ranged rF rL 48 [(0, .ref 215), (1, .int x1), (2, .int x2), (3, .int x3), (4, .int x4)] [] S 0 x_I (L_M_ranged_48 f x1 x2 x3 x4 S) := by
  intro f
  induction f with
  | zero => intro _ _ _ _ _; exact jg_none
  | succ f ih48 =>
    intro x1 x2 x3 x4 S
    rw [L_M_ranged_48]
    refine jg_sg 1 (pc1 := 49) (lv1 := [(0, .ref 215), (1, .int x1), (2, .int x2), (3, .int x3), (4, .int x4)]) (st1 := [.ref 215]) (fun _ _ _ => rfl) ?_
    refine jg_cpI (m2 := jp_M_peek) (As := [.ref 215]) (r := []) (mx := 1) (jh_v (a := 215) rfl rfl rfl kc_215 rfl (Nat.le_of_ble_eq_true rfl) rfl rfl rfl (by omega) (by omega) (Nat.le_of_ble_eq_true rfl)) (kF_M_peek S _ _ (by omega) (by omega) ) (fun z12 => ?_)
    refine jg_cpI (m2 := jp_M_digit) (As := [.int z12]) (r := []) (mx := 1) (jh_s rfl (fun _ _ _ => rfl) rfl rfl rfl (by omega) (by omega) (Nat.le_of_ble_eq_true rfl)) (kF_M_digit z12 S _ _ (by omega) (by omega) ) (fun z13 => ?_)
    refine jg_br (fun _ _ _ _ k1 k2 => jt_if_eq (t := 91) rfl rfl k1 k2) (fun c14 => ?_) (fun c14 => ?_)
    · refine jg_lvs (lv1 := [(0, .ref 215), (1, .int x1), (2, .int x2), (3, .int x3), (4, .int x4)]) rfl rfl ⟨rfl, rfl, rfl, rfl, rfl, trivial⟩ ?_
      exact kJ_M_ranged_91 (by omega) (by omega) x1 x2 x3 x4 S
    · refine jg_sg 4 (pc1 := 64) (lv1 := [(0, .ref 215), (1, .int x1), (2, .int x2), (3, .int x3), (4, .int x4)]) (st1 := [.ref 215, .int (10 * x4)]) (fun _ _ _ => rfl) ?_
      refine jg_cpI (m2 := jp_M_peek) (As := [.ref 215]) (r := [.int (10 * x4)]) (mx := 1) (jh_v (a := 215) rfl rfl rfl kc_215 rfl (Nat.le_of_ble_eq_true rfl) rfl rfl rfl (by omega) (by omega) (Nat.le_of_ble_eq_true rfl)) (kF_M_peek S _ _ (by omega) (by omega) ) (fun z15 => ?_)
      refine jg_sg 4 (pc1 := 73) (lv1 := [(0, .ref 215), (1, .int x1), (2, .int x2), (3, .int x3), (4, .int x4)]) (st1 := [.int 100000, .int (((10 * x4) + z15) - 48)]) (fun _ _ _ => rfl) ?_
      refine jg_cpI (m2 := jp_Math_min) (As := [.int (((10 * x4) + z15) - 48), .int 100000]) (r := []) (mx := 2) (jh_s rfl (fun _ _ _ => rfl) rfl rfl rfl (by omega) (by omega) (Nat.le_of_ble_eq_true rfl)) (kF_Math_min (((10 * x4) + z15) - 48) 100000 S _ _ (by omega) (by omega) ) (fun z16 => ?_)
      refine jg_sg 3 (pc1 := 80) (lv1 := [(4, .int z16), (0, .ref 215), (1, .int x1), (2, .int x2), (3, .int x3)]) (st1 := [.ref 215, .ref 215]) (fun _ _ _ => rfl) ?_
      refine jg_g (v := .int (S.1 215 7)) rfl kc_215 rfl rfl ?_
      refine jg_sg 2 (pc1 := 85) (lv1 := [(4, .int z16), (0, .ref 215), (1, .int x1), (2, .int x2), (3, .int x3)]) (st1 := [.int ((S.1 215 7) + 1), .ref 215]) (fun _ _ _ => rfl) ?_
      refine jg_pi rfl kc_215 rfl (Nat.le_of_ble_eq_true rfl) rfl rfl (fun S17 _ => ?_)
      refine jg_sg 1 (pc1 := 48) (lv1 := [(4, .int z16), (0, .ref 215), (1, .int x1), (2, .int x2), (3, .int x3)]) (st1 := []) (fun _ _ _ => rfl) ?_
      refine jg_lvs (lv1 := [(0, .ref 215), (1, .int x1), (2, .int x2), (3, .int x3), (4, .int z16)]) rfl rfl ⟨rfl, rfl, rfl, rfl, rfl, trivial⟩ ?_
      exact ih48 x1 x2 x3 z16 S17
noncomputable def J_M_ranged_23 (x1 : Int32) (x2 : Int32) (x3 : Int32) (S : jS) : Option ((Int32 ⊕ Nat) × jS) := (F_M_peek S).bind (fun z6 => if z6 = 48 then (j_l (w_i S 215 7 ((S.1 215 7) + 1)) (fun S8 => J_M_ranged_91 x1 x2 x3 0 S8)) else (L_M_ranged_48 ju_ x1 x2 x3 0 S))
set_option maxRecDepth 20000 in
theorem kJ_M_ranged_23 {q rF rL : Nat} (hF : 7 ≤ rF) (hL : 102 ≤ rL)   (x1 : Int32) (x2 : Int32) (x3 : Int32) (S : jS) : jg q jp_M_ranged rF rL 23 [(0, .ref 215), (1, .int x1), (2, .int x2), (3, .int x3)] [] S 0 x_I (J_M_ranged_23 x1 x2 x3 S) := by
  unfold J_M_ranged_23
  refine jg_sg 3 (pc1 := 27) (lv1 := [(4, .int 0), (0, .ref 215), (1, .int x1), (2, .int x2), (3, .int x3)]) (st1 := [.ref 215]) (fun _ _ _ => rfl) ?_
  refine jg_cpI (m2 := jp_M_peek) (As := [.ref 215]) (r := []) (mx := 1) (jh_v (a := 215) rfl rfl rfl kc_215 rfl (Nat.le_of_ble_eq_true rfl) rfl rfl rfl (by omega) (by omega) (Nat.le_of_ble_eq_true rfl)) (kF_M_peek S _ _ (by omega) (by omega) ) (fun z6 => ?_)
  refine jg_sg 1 (pc1 := 32) (lv1 := [(4, .int 0), (0, .ref 215), (1, .int x1), (2, .int x2), (3, .int x3)]) (st1 := [.int 48, .int z6]) (fun _ _ _ => rfl) ?_
  refine jg_br (fun _ _ _ _ k1 k2 => jt_icmp_ne (t := 48) rfl rfl k2 k1) (fun c7 => ?_) (fun c7 => ?_)
  · refine jg_sg 2 (pc1 := 37) (lv1 := [(4, .int 0), (0, .ref 215), (1, .int x1), (2, .int x2), (3, .int x3)]) (st1 := [.ref 215, .ref 215]) (fun _ _ _ => rfl) ?_
    refine jg_g (v := .int (S.1 215 7)) rfl kc_215 rfl rfl ?_
    refine jg_sg 2 (pc1 := 42) (lv1 := [(4, .int 0), (0, .ref 215), (1, .int x1), (2, .int x2), (3, .int x3)]) (st1 := [.int ((S.1 215 7) + 1), .ref 215]) (fun _ _ _ => rfl) ?_
    refine jg_pi rfl kc_215 rfl (Nat.le_of_ble_eq_true rfl) rfl rfl (fun S8 _ => ?_)
    refine jg_sg 1 (pc1 := 91) (lv1 := [(4, .int 0), (0, .ref 215), (1, .int x1), (2, .int x2), (3, .int x3)]) (st1 := []) (fun _ _ _ => rfl) ?_
    refine jg_lvs (lv1 := [(0, .ref 215), (1, .int x1), (2, .int x2), (3, .int x3), (4, .int 0)]) rfl rfl ⟨rfl, rfl, rfl, rfl, rfl, trivial⟩ ?_
    exact kJ_M_ranged_91 (by omega) (by omega) x1 x2 x3 0 S8
  · refine jg_lvs (lv1 := [(0, .ref 215), (1, .int x1), (2, .int x2), (3, .int x3), (4, .int 0)]) rfl rfl ⟨rfl, rfl, rfl, rfl, rfl, trivial⟩ ?_
    exact kL_M_ranged_48 (by omega) (by omega) ju_ x1 x2 x3 0 S
noncomputable def F_M_ranged (p0 : Int32) (p1 : Int32) (S : jS) : Option ((Int32 ⊕ Nat) × jS) := j_l (S.1 215 7 : Int32) (fun v1 => (F_M_peek S).bind (fun z2 => (F_M_digit z2 S).bind (fun z3 => if z3 = 0 then (j_xv (F_M_bad (S.1 215 7) S) (fun c S => (.inr c, S)) (fun S5 => J_M_ranged_23 p0 p1 v1 S5)) else (J_M_ranged_23 p0 p1 v1 S))))
set_option maxRecDepth 20000 in
theorem kF_M_ranged {q : Nat} (p0 : Int32) (p1 : Int32) (S : jS) (rF rL : Nat) (hF : 7 ≤ rF) (hL : 102 ≤ rL)  : jg q jp_M_ranged rF rL 0 [(0, .ref 215), (1, .int p0), (2, .int p1)] [] S 0 x_I (F_M_ranged p0 p1 S) := by
  unfold F_M_ranged
  refine jg_sg 1 (pc1 := 1) (lv1 := [(0, .ref 215), (1, .int p0), (2, .int p1)]) (st1 := [.ref 215]) (fun _ _ _ => rfl) ?_
  refine jg_g (v := .int (S.1 215 7)) rfl kc_215 rfl rfl ?_
  refine jg_sg 1 (pc1 := 5) (lv1 := [(3, .int (S.1 215 7)), (0, .ref 215), (1, .int p0), (2, .int p1)]) (st1 := []) (fun _ _ _ => rfl) ?_
  refine jg_vi (fun v1 => ?_)
  refine jg_sg 1 (pc1 := 6) (lv1 := [(3, .int v1), (0, .ref 215), (1, .int p0), (2, .int p1)]) (st1 := [.ref 215]) (fun _ _ _ => rfl) ?_
  refine jg_cpI (m2 := jp_M_peek) (As := [.ref 215]) (r := []) (mx := 1) (jh_v (a := 215) rfl rfl rfl kc_215 rfl (Nat.le_of_ble_eq_true rfl) rfl rfl rfl (by omega) (by omega) (Nat.le_of_ble_eq_true rfl)) (kF_M_peek S _ _ (by omega) (by omega) ) (fun z2 => ?_)
  refine jg_cpI (m2 := jp_M_digit) (As := [.int z2]) (r := []) (mx := 1) (jh_s rfl (fun _ _ _ => rfl) rfl rfl rfl (by omega) (by omega) (Nat.le_of_ble_eq_true rfl)) (kF_M_digit z2 S _ _ (by omega) (by omega) ) (fun z3 => ?_)
  refine jg_br (fun _ _ _ _ k1 k2 => jt_if_ne (t := 23) rfl rfl k2 k1) (fun c4 => ?_) (fun c4 => ?_)
  · refine jg_sg 2 (pc1 := 17) (lv1 := [(3, .int v1), (0, .ref 215), (1, .int p0), (2, .int p1)]) (st1 := [.ref 215, .ref 215]) (fun _ _ _ => rfl) ?_
    refine jg_g (v := .int (S.1 215 7)) rfl kc_215 rfl rfl ?_
    refine jg_cxV (m2 := jp_M_bad) (As := [.ref 215, .int (S.1 215 7)]) (r := []) (mx := 2) (jh_v (a := 215) rfl rfl rfl kc_215 rfl (Nat.le_of_ble_eq_true rfl) rfl rfl rfl (by omega) (by omega) (Nat.le_of_ble_eq_true rfl)) rfl (fun _ _ => rfl) (kF_M_bad (S.1 215 7) S _ _ (by omega) (by omega) ) (fun S5 => ?_)
    refine jg_lvs (lv1 := [(0, .ref 215), (1, .int p0), (2, .int p1), (3, .int v1)]) rfl rfl ⟨rfl, rfl, rfl, rfl, trivial⟩ ?_
    exact kJ_M_ranged_23 (by omega) (by omega) p0 p1 v1 S5
  · refine jg_lvs (lv1 := [(0, .ref 215), (1, .int p0), (2, .int p1), (3, .int v1)]) rfl rfl ⟨rfl, rfl, rfl, rfl, trivial⟩ ?_
    exact kJ_M_ranged_23 (by omega) (by omega) p0 p1 v1 S
noncomputable def F_M_rule (p0 : Int32) (S : jS) : Option (Option Nat × jS) := j_xv (F_M_expect 77 S) (fun c S => (some c, S)) (fun S1 => j_x (F_M_ranged 1 12 S1) (fun c S => (some c, S)) (fun z3 S2 => j_q (j_in p0 8) (j_l (w_i S2 238 ((p0 : Int32).toNatClampNeg) z3) (fun S5 => j_xv (F_M_expect 46 S5) (fun c S => (some c, S)) (fun S6 => j_x (F_M_ranged 1 5 S6) (fun c S => (some c, S)) (fun z8 S7 => j_q (j_in (p0 + 1) 8) (j_l (w_i S7 238 ((p0 + 1 : Int32).toNatClampNeg) z8) (fun S10 => j_xv (F_M_expect 46 S10) (fun c S => (some c, S)) (fun S11 => j_x (F_M_ranged 0 6 S11) (fun c S => (some c, S)) (fun z13 S12 => j_q (j_in (p0 + 2) 8) (j_l (w_i S12 238 ((p0 + 2 : Int32).toNatClampNeg) z13) (fun S15 => j_xv (F_M_expect 47 S15) (fun c S => (some c, S)) (fun S16 => j_x (F_M_ranged 0 1439 S16) (fun c S => (some c, S)) (fun z18 S17 => j_q (j_in (p0 + 3) 8) (j_l (w_i S17 238 ((p0 + 3 : Int32).toNatClampNeg) z18) (fun S20 => some (none, S20)))))))))))))))))
set_option maxRecDepth 20000 in
theorem kF_M_rule {q : Nat} (p0 : Int32) (S : jS) (rF rL : Nat) (hF : 8 ≤ rF) (hL : 126 ≤ rL)  : jg q jp_M_rule rF rL 0 [(0, .ref 215), (1, .int p0)] [] S 0 x_V (F_M_rule p0 S) := by
  unfold F_M_rule
  refine jg_sg 2 (pc1 := 3) (lv1 := [(0, .ref 215), (1, .int p0)]) (st1 := [.int 77, .ref 215]) (fun _ _ _ => rfl) ?_
  refine jg_cxV (m2 := jp_M_expect) (As := [.ref 215, .int 77]) (r := []) (mx := 2) (jh_v (a := 215) rfl rfl rfl kc_215 rfl (Nat.le_of_ble_eq_true rfl) rfl rfl rfl (by omega) (by omega) (Nat.le_of_ble_eq_true rfl)) rfl (fun _ _ => rfl) (kF_M_expect 77 S _ _ (by omega) (by omega) ) (fun S1 => ?_)
  refine jg_sg 1 (pc1 := 7) (lv1 := [(0, .ref 215), (1, .int p0)]) (st1 := [.ref 215]) (fun _ _ _ => rfl) ?_
  refine jg_g (v := .ref 238) rfl kc_215 rfl rfl ?_
  refine jg_sg 4 (pc1 := 15) (lv1 := [(0, .ref 215), (1, .int p0)]) (st1 := [.int 12, .int 1, .ref 215, .int p0, .ref 238]) (fun _ _ _ => rfl) ?_
  refine jg_cxI (m2 := jp_M_ranged) (As := [.ref 215, .int 1, .int 12]) (r := [.int p0, .ref 238]) (mx := 5) (jh_v (a := 215) rfl rfl rfl kc_215 rfl (Nat.le_of_ble_eq_true rfl) rfl rfl rfl (by omega) (by omega) (Nat.le_of_ble_eq_true rfl)) rfl (fun _ _ => rfl) (kF_M_ranged 1 12 S1 _ _ (by omega) (by omega) ) (fun z3 S2 => ?_)
  refine jg_ias rfl kc_238 (fun g4 S5 _ => ?_)
  refine jg_sg 2 (pc1 := 22) (lv1 := [(0, .ref 215), (1, .int p0)]) (st1 := [.int 46, .ref 215]) (fun _ _ _ => rfl) ?_
  refine jg_cxV (m2 := jp_M_expect) (As := [.ref 215, .int 46]) (r := []) (mx := 2) (jh_v (a := 215) rfl rfl rfl kc_215 rfl (Nat.le_of_ble_eq_true rfl) rfl rfl rfl (by omega) (by omega) (Nat.le_of_ble_eq_true rfl)) rfl (fun _ _ => rfl) (kF_M_expect 46 S5 _ _ (by omega) (by omega) ) (fun S6 => ?_)
  refine jg_sg 1 (pc1 := 26) (lv1 := [(0, .ref 215), (1, .int p0)]) (st1 := [.ref 215]) (fun _ _ _ => rfl) ?_
  refine jg_g (v := .ref 238) rfl kc_215 rfl rfl ?_
  refine jg_sg 6 (pc1 := 35) (lv1 := [(0, .ref 215), (1, .int p0)]) (st1 := [.int 5, .int 1, .ref 215, .int (p0 + 1), .ref 238]) (fun _ _ _ => rfl) ?_
  refine jg_cxI (m2 := jp_M_ranged) (As := [.ref 215, .int 1, .int 5]) (r := [.int (p0 + 1), .ref 238]) (mx := 5) (jh_v (a := 215) rfl rfl rfl kc_215 rfl (Nat.le_of_ble_eq_true rfl) rfl rfl rfl (by omega) (by omega) (Nat.le_of_ble_eq_true rfl)) rfl (fun _ _ => rfl) (kF_M_ranged 1 5 S6 _ _ (by omega) (by omega) ) (fun z8 S7 => ?_)
  refine jg_ias rfl kc_238 (fun g9 S10 _ => ?_)
  refine jg_sg 2 (pc1 := 42) (lv1 := [(0, .ref 215), (1, .int p0)]) (st1 := [.int 46, .ref 215]) (fun _ _ _ => rfl) ?_
  refine jg_cxV (m2 := jp_M_expect) (As := [.ref 215, .int 46]) (r := []) (mx := 2) (jh_v (a := 215) rfl rfl rfl kc_215 rfl (Nat.le_of_ble_eq_true rfl) rfl rfl rfl (by omega) (by omega) (Nat.le_of_ble_eq_true rfl)) rfl (fun _ _ => rfl) (kF_M_expect 46 S10 _ _ (by omega) (by omega) ) (fun S11 => ?_)
  refine jg_sg 1 (pc1 := 46) (lv1 := [(0, .ref 215), (1, .int p0)]) (st1 := [.ref 215]) (fun _ _ _ => rfl) ?_
  refine jg_g (v := .ref 238) rfl kc_215 rfl rfl ?_
  refine jg_sg 6 (pc1 := 56) (lv1 := [(0, .ref 215), (1, .int p0)]) (st1 := [.int 6, .int 0, .ref 215, .int (p0 + 2), .ref 238]) (fun _ _ _ => rfl) ?_
  refine jg_cxI (m2 := jp_M_ranged) (As := [.ref 215, .int 0, .int 6]) (r := [.int (p0 + 2), .ref 238]) (mx := 5) (jh_v (a := 215) rfl rfl rfl kc_215 rfl (Nat.le_of_ble_eq_true rfl) rfl rfl rfl (by omega) (by omega) (Nat.le_of_ble_eq_true rfl)) rfl (fun _ _ => rfl) (kF_M_ranged 0 6 S11 _ _ (by omega) (by omega) ) (fun z13 S12 => ?_)
  refine jg_ias rfl kc_238 (fun g14 S15 _ => ?_)
  refine jg_sg 2 (pc1 := 63) (lv1 := [(0, .ref 215), (1, .int p0)]) (st1 := [.int 47, .ref 215]) (fun _ _ _ => rfl) ?_
  refine jg_cxV (m2 := jp_M_expect) (As := [.ref 215, .int 47]) (r := []) (mx := 2) (jh_v (a := 215) rfl rfl rfl kc_215 rfl (Nat.le_of_ble_eq_true rfl) rfl rfl rfl (by omega) (by omega) (Nat.le_of_ble_eq_true rfl)) rfl (fun _ _ => rfl) (kF_M_expect 47 S15 _ _ (by omega) (by omega) ) (fun S16 => ?_)
  refine jg_sg 1 (pc1 := 67) (lv1 := [(0, .ref 215), (1, .int p0)]) (st1 := [.ref 215]) (fun _ _ _ => rfl) ?_
  refine jg_g (v := .ref 238) rfl kc_215 rfl rfl ?_
  refine jg_sg 6 (pc1 := 78) (lv1 := [(0, .ref 215), (1, .int p0)]) (st1 := [.int 1439, .int 0, .ref 215, .int (p0 + 3), .ref 238]) (fun _ _ _ => rfl) ?_
  refine jg_cxI (m2 := jp_M_ranged) (As := [.ref 215, .int 0, .int 1439]) (r := [.int (p0 + 3), .ref 238]) (mx := 5) (jh_v (a := 215) rfl rfl rfl kc_215 rfl (Nat.le_of_ble_eq_true rfl) rfl rfl rfl (by omega) (by omega) (Nat.le_of_ble_eq_true rfl)) rfl (fun _ _ => rfl) (kF_M_ranged 0 1439 S16 _ _ (by omega) (by omega) ) (fun z18 S17 => ?_)
  refine jg_ias rfl kc_238 (fun g19 S20 _ => ?_)
  exact jg_rv rfl rfl rfl
noncomputable def F_M_ruleDay (p0 : Int32) (p1 : Int32) (S : jS) : Option Int32 := j_q (j_in p0 8) ((F_M_number p1 (S.1 238 ((p0 : Int32).toNatClampNeg)) S).bind (fun z2 => j_q (j_in (p0 + 2) 8) ((F_M_weekday z2 S).bind (fun z4 => (F_Math_floorMod (((S.1 238 ((p0 + 2 : Int32).toNatClampNeg)) + 1) - z4) 7 S).bind (fun z5 => j_q (j_in (p0 + 1) 8) (j_l ((z2 + z5) + (7 * ((S.1 238 ((p0 + 1 : Int32).toNatClampNeg)) - 1)) : Int32) (fun v7 => j_q (j_in p0 8) ((F_M_length p1 (S.1 238 ((p0 : Int32).toNatClampNeg)) S).bind (fun z9 => if v7 < (z2 + z9) then (some v7) else (some (v7 - 7)))))))))))
set_option maxRecDepth 20000 in
theorem kF_M_ruleDay {q : Nat} (p0 : Int32) (p1 : Int32) (S : jS) (rF rL : Nat) (hF : 3 ≤ rF) (hL : 65 ≤ rL)  : jg q jp_M_ruleDay rF rL 0 [(0, .ref 215), (1, .int p0), (2, .int p1)] [] S 0 (p_I S) (F_M_ruleDay p0 p1 S) := by
  unfold F_M_ruleDay
  refine jg_sg 2 (pc1 := 2) (lv1 := [(0, .ref 215), (1, .int p0), (2, .int p1)]) (st1 := [.ref 215, .int p1]) (fun _ _ _ => rfl) ?_
  refine jg_g (v := .ref 238) rfl kc_215 rfl rfl ?_
  refine jg_sg 1 (pc1 := 6) (lv1 := [(0, .ref 215), (1, .int p0), (2, .int p1)]) (st1 := [.int p0, .ref 238, .int p1]) (fun _ _ _ => rfl) ?_
  refine jg_ial rfl kc_238 (fun g1 => ?_)
  refine jg_cpI (m2 := jp_M_number) (As := [.int p1, .int (S.1 238 ((p0 : Int32).toNatClampNeg))]) (r := []) (mx := 5) (jh_s rfl (fun _ _ _ => rfl) rfl rfl rfl (by omega) (by omega) (Nat.le_of_ble_eq_true rfl)) (kF_M_number p1 (S.1 238 ((p0 : Int32).toNatClampNeg)) S _ _ (by omega) (by omega) ) (fun z2 => ?_)
  refine jg_sg 3 (pc1 := 13) (lv1 := [(3, .int z2), (0, .ref 215), (1, .int p0), (2, .int p1)]) (st1 := [.ref 215, .int z2]) (fun _ _ _ => rfl) ?_
  refine jg_g (v := .ref 238) rfl kc_215 rfl rfl ?_
  refine jg_sg 3 (pc1 := 19) (lv1 := [(3, .int z2), (0, .ref 215), (1, .int p0), (2, .int p1)]) (st1 := [.int (p0 + 2), .ref 238, .int z2]) (fun _ _ _ => rfl) ?_
  refine jg_ial rfl kc_238 (fun g3 => ?_)
  refine jg_sg 3 (pc1 := 23) (lv1 := [(3, .int z2), (0, .ref 215), (1, .int p0), (2, .int p1)]) (st1 := [.int z2, .int ((S.1 238 ((p0 + 2 : Int32).toNatClampNeg)) + 1), .int z2]) (fun _ _ _ => rfl) ?_
  refine jg_cpI (m2 := jp_M_weekday) (As := [.int z2]) (r := [.int ((S.1 238 ((p0 + 2 : Int32).toNatClampNeg)) + 1), .int z2]) (mx := 1) (jh_s rfl (fun _ _ _ => rfl) rfl rfl rfl (by omega) (by omega) (Nat.le_of_ble_eq_true rfl)) (kF_M_weekday z2 S _ _ (by omega) (by omega) ) (fun z4 => ?_)
  refine jg_sg 2 (pc1 := 29) (lv1 := [(3, .int z2), (0, .ref 215), (1, .int p0), (2, .int p1)]) (st1 := [.int 7, .int (((S.1 238 ((p0 + 2 : Int32).toNatClampNeg)) + 1) - z4), .int z2]) (fun _ _ _ => rfl) ?_
  refine jg_cpI (m2 := jp_Math_floorMod) (As := [.int (((S.1 238 ((p0 + 2 : Int32).toNatClampNeg)) + 1) - z4), .int 7]) (r := [.int z2]) (mx := 3) (jh_s rfl (fun _ _ _ => rfl) rfl rfl rfl (by omega) (by omega) (Nat.le_of_ble_eq_true rfl)) (kF_Math_floorMod (((S.1 238 ((p0 + 2 : Int32).toNatClampNeg)) + 1) - z4) 7 S _ _ (by omega) (by omega) ) (fun z5 => ?_)
  refine jg_sg 3 (pc1 := 36) (lv1 := [(3, .int z2), (0, .ref 215), (1, .int p0), (2, .int p1)]) (st1 := [.ref 215, .int 7, .int (z2 + z5)]) (fun _ _ _ => rfl) ?_
  refine jg_g (v := .ref 238) rfl kc_215 rfl rfl ?_
  refine jg_sg 3 (pc1 := 42) (lv1 := [(3, .int z2), (0, .ref 215), (1, .int p0), (2, .int p1)]) (st1 := [.int (p0 + 1), .ref 238, .int 7, .int (z2 + z5)]) (fun _ _ _ => rfl) ?_
  refine jg_ial rfl kc_238 (fun g6 => ?_)
  refine jg_sg 5 (pc1 := 49) (lv1 := [(4, .int ((z2 + z5) + (7 * ((S.1 238 ((p0 + 1 : Int32).toNatClampNeg)) - 1)))), (3, .int z2), (0, .ref 215), (1, .int p0), (2, .int p1)]) (st1 := []) (fun _ _ _ => rfl) ?_
  refine jg_vi (fun v7 => ?_)
  refine jg_sg 4 (pc1 := 54) (lv1 := [(4, .int v7), (3, .int z2), (0, .ref 215), (1, .int p0), (2, .int p1)]) (st1 := [.ref 215, .int p1, .int z2, .int v7]) (fun _ _ _ => rfl) ?_
  refine jg_g (v := .ref 238) rfl kc_215 rfl rfl ?_
  refine jg_sg 1 (pc1 := 58) (lv1 := [(4, .int v7), (3, .int z2), (0, .ref 215), (1, .int p0), (2, .int p1)]) (st1 := [.int p0, .ref 238, .int p1, .int z2, .int v7]) (fun _ _ _ => rfl) ?_
  refine jg_ial rfl kc_238 (fun g8 => ?_)
  refine jg_cpI (m2 := jp_M_length) (As := [.int p1, .int (S.1 238 ((p0 : Int32).toNatClampNeg))]) (r := [.int z2, .int v7]) (mx := 2) (jh_s rfl (fun _ _ _ => rfl) rfl rfl rfl (by omega) (by omega) (Nat.le_of_ble_eq_true rfl)) (kF_M_length p1 (S.1 238 ((p0 : Int32).toNatClampNeg)) S _ _ (by omega) (by omega) ) (fun z9 => ?_)
  refine jg_sg 1 (pc1 := 63) (lv1 := [(4, .int v7), (3, .int z2), (0, .ref 215), (1, .int p0), (2, .int p1)]) (st1 := [.int (z2 + z9), .int v7]) (fun _ _ _ => rfl) ?_
  refine jg_br (fun _ _ _ _ k1 k2 => jt_icmp_lt (t := 74) rfl rfl k1 k2) (fun c10 => ?_) (fun c10 => ?_)
  · refine jg_sg 1 (pc1 := 76) (lv1 := [(4, .int v7), (3, .int z2), (0, .ref 215), (1, .int p0), (2, .int p1)]) (st1 := [.int v7]) (fun _ _ _ => rfl) ?_
    exact jg_ri rfl rfl rfl rfl
  · refine jg_sg 4 (pc1 := 76) (lv1 := [(4, .int v7), (3, .int z2), (0, .ref 215), (1, .int p0), (2, .int p1)]) (st1 := [.int (v7 - 7)]) (fun _ _ _ => rfl) ?_
    exact jg_ri rfl rfl rfl rfl
noncomputable def J_M_event_110 (x1 : Int32) (x2 : Int64) (x4 : Int32) (x5 : Int32) (S : jS) : Option jS := j_q (j_in x1 8) (j_q (j_in x5 660) (j_l (w_l S (220 + ((x1 : Int32).toNatClampNeg)) ((x5 : Int32).toNatClampNeg) x2) (fun S6 => j_q (j_in x1 8) (j_q (j_in x5 660) (j_l (w_i S6 (229 + ((x1 : Int32).toNatClampNeg)) ((x5 : Int32).toNatClampNeg) (vp_nar .boolean x4)) (fun S9 => j_q (j_in x1 8) (j_q (j_in x1 8) (j_l (w_i S9 237 ((x1 : Int32).toNatClampNeg) ((S9.1 237 ((x1 : Int32).toNatClampNeg)) + 1)) (fun S12 => some S12)))))))))
set_option maxRecDepth 20000 in
theorem kJ_M_event_110 {q rF rL : Nat} (hF : 0 ≤ rF) (hL : 0 ≤ rL)   (x1 : Int32) (x2 : Int64) (x4 : Int32) (x5 : Int32) (S : jS) : jg q jp_M_event rF rL 110 [(0, .ref 215), (1, .int x1), (2, .long x2), (4, .int x4), (5, .int x5)] [] S 0 s_V (J_M_event_110 x1 x2 x4 x5 S) := by
  unfold J_M_event_110
  refine jg_sg 1 (pc1 := 111) (lv1 := [(0, .ref 215), (1, .int x1), (2, .long x2), (4, .int x4), (5, .int x5)]) (st1 := [.ref 215]) (fun _ _ _ => rfl) ?_
  refine jg_g (v := .ref 219) rfl kc_215 rfl rfl ?_
  refine jg_sg 1 (pc1 := 115) (lv1 := [(0, .ref 215), (1, .int x1), (2, .long x2), (4, .int x4), (5, .int x5)]) (st1 := [.int x1, .ref 219]) (fun _ _ _ => rfl) ?_
  refine jg_aal (w := 220 + ((x1 : Int32).toNatClampNeg)) rfl rfl kc_219 rfl (fun g4 => ?_)
  refine jg_sg 2 (pc1 := 119) (lv1 := [(0, .ref 215), (1, .int x1), (2, .long x2), (4, .int x4), (5, .int x5)]) (st1 := [.long x2, .int x5, .ref (220 + ((x1 : Int32).toNatClampNeg))]) (fun _ _ _ => rfl) ?_
  refine jg_las rfl (kc_ev (jr_m g4)) (fun g5 S6 _ => ?_)
  refine jg_sg 1 (pc1 := 121) (lv1 := [(0, .ref 215), (1, .int x1), (2, .long x2), (4, .int x4), (5, .int x5)]) (st1 := [.ref 215]) (fun _ _ _ => rfl) ?_
  refine jg_g (v := .ref 228) rfl kc_215 rfl rfl ?_
  refine jg_sg 1 (pc1 := 125) (lv1 := [(0, .ref 215), (1, .int x1), (2, .long x2), (4, .int x4), (5, .int x5)]) (st1 := [.int x1, .ref 228]) (fun _ _ _ => rfl) ?_
  refine jg_aal (w := 229 + ((x1 : Int32).toNatClampNeg)) rfl rfl kc_228 rfl (fun g7 => ?_)
  refine jg_sg 2 (pc1 := 130) (lv1 := [(0, .ref 215), (1, .int x1), (2, .long x2), (4, .int x4), (5, .int x5)]) (st1 := [.int x4, .int x5, .ref (229 + ((x1 : Int32).toNatClampNeg))]) (fun _ _ _ => rfl) ?_
  refine jg_bas rfl rfl (kc_bg (jr_m g7)) rfl (fun g8 S9 _ => ?_)
  refine jg_sg 1 (pc1 := 132) (lv1 := [(0, .ref 215), (1, .int x1), (2, .long x2), (4, .int x4), (5, .int x5)]) (st1 := [.ref 215]) (fun _ _ _ => rfl) ?_
  refine jg_g (v := .ref 237) rfl kc_215 rfl rfl ?_
  refine jg_sg 2 (pc1 := 137) (lv1 := [(0, .ref 215), (1, .int x1), (2, .long x2), (4, .int x4), (5, .int x5)]) (st1 := [.int x1, .ref 237, .int x1, .ref 237]) (fun _ _ _ => rfl) ?_
  refine jg_ial rfl kc_237 (fun g10 => ?_)
  refine jg_sg 2 (pc1 := 140) (lv1 := [(0, .ref 215), (1, .int x1), (2, .long x2), (4, .int x4), (5, .int x5)]) (st1 := [.int ((S9.1 237 ((x1 : Int32).toNatClampNeg)) + 1), .int x1, .ref 237]) (fun _ _ _ => rfl) ?_
  refine jg_ias rfl kc_237 (fun g11 S12 _ => ?_)
  exact jg_rv rfl rfl rfl
noncomputable def J_M_event_64 (kt8 : Int32 → Int64 → Int32 → Int32 → jS → Option jS) (x1 : Int32) (x2 : Int64) (x4 : Int32) (x5 : Int32) (S : jS) : Option jS := j_q (j_in x1 8) (j_q (j_in x1 8) (j_q (j_in (x5 - 1) 660) (j_q (j_in x5 660) (j_l (w_l S (220 + ((x1 : Int32).toNatClampNeg)) ((x5 : Int32).toNatClampNeg) (S.2.1 (220 + ((x1 : Int32).toNatClampNeg)) ((x5 - 1 : Int32).toNatClampNeg))) (fun S20 => j_q (j_in x1 8) (j_q (j_in x1 8) (j_q (j_in (x5 - 1) 660) (j_q (j_in x5 660) (j_l (w_i S20 (229 + ((x1 : Int32).toNatClampNeg)) ((x5 : Int32).toNatClampNeg) (vp_nar .boolean (S20.1 (229 + ((x1 : Int32).toNatClampNeg)) ((x5 - 1 : Int32).toNatClampNeg)))) (fun S25 => kt8 x1 x2 x4 (x5 + (-1)) S25))))))))))
set_option maxRecDepth 20000 in
theorem kJ_M_event_64 {q rF rL : Nat} (hF : 0 ≤ rF) (hL : 0 ≤ rL)  (kt8 : Int32 → Int64 → Int32 → Int32 → jS → Option jS) (ih8 : ∀ (x1 : Int32) (x2 : Int64) (x4 : Int32) (x5 : Int32) (S : jS), jg q jp_M_event rF rL 8 [(0, .ref 215), (1, .int x1), (2, .long x2), (4, .int x4), (5, .int x5)] [] S 0 s_V (kt8 x1 x2 x4 x5 S)) (x1 : Int32) (x2 : Int64) (x4 : Int32) (x5 : Int32) (S : jS) : jg q jp_M_event rF rL 64 [(0, .ref 215), (1, .int x1), (2, .long x2), (4, .int x4), (5, .int x5)] [] S 0 s_V (J_M_event_64 kt8 x1 x2 x4 x5 S) := by
  unfold J_M_event_64
  refine jg_sg 1 (pc1 := 65) (lv1 := [(0, .ref 215), (1, .int x1), (2, .long x2), (4, .int x4), (5, .int x5)]) (st1 := [.ref 215]) (fun _ _ _ => rfl) ?_
  refine jg_g (v := .ref 219) rfl kc_215 rfl rfl ?_
  refine jg_sg 1 (pc1 := 69) (lv1 := [(0, .ref 215), (1, .int x1), (2, .long x2), (4, .int x4), (5, .int x5)]) (st1 := [.int x1, .ref 219]) (fun _ _ _ => rfl) ?_
  refine jg_aal (w := 220 + ((x1 : Int32).toNatClampNeg)) rfl rfl kc_219 rfl (fun g16 => ?_)
  refine jg_sg 2 (pc1 := 73) (lv1 := [(0, .ref 215), (1, .int x1), (2, .long x2), (4, .int x4), (5, .int x5)]) (st1 := [.ref 215, .int x5, .ref (220 + ((x1 : Int32).toNatClampNeg))]) (fun _ _ _ => rfl) ?_
  refine jg_g (v := .ref 219) rfl kc_215 rfl rfl ?_
  refine jg_sg 1 (pc1 := 77) (lv1 := [(0, .ref 215), (1, .int x1), (2, .long x2), (4, .int x4), (5, .int x5)]) (st1 := [.int x1, .ref 219, .int x5, .ref (220 + ((x1 : Int32).toNatClampNeg))]) (fun _ _ _ => rfl) ?_
  refine jg_aal (w := 220 + ((x1 : Int32).toNatClampNeg)) rfl rfl kc_219 rfl (fun g17 => ?_)
  refine jg_sg 3 (pc1 := 82) (lv1 := [(0, .ref 215), (1, .int x1), (2, .long x2), (4, .int x4), (5, .int x5)]) (st1 := [.int (x5 - 1), .ref (220 + ((x1 : Int32).toNatClampNeg)), .int x5, .ref (220 + ((x1 : Int32).toNatClampNeg))]) (fun _ _ _ => rfl) ?_
  refine jg_lal rfl (kc_ev (jr_m g17)) (fun g18 => ?_)
  refine jg_las rfl (kc_ev (jr_m g16)) (fun g19 S20 _ => ?_)
  refine jg_sg 1 (pc1 := 85) (lv1 := [(0, .ref 215), (1, .int x1), (2, .long x2), (4, .int x4), (5, .int x5)]) (st1 := [.ref 215]) (fun _ _ _ => rfl) ?_
  refine jg_g (v := .ref 228) rfl kc_215 rfl rfl ?_
  refine jg_sg 1 (pc1 := 89) (lv1 := [(0, .ref 215), (1, .int x1), (2, .long x2), (4, .int x4), (5, .int x5)]) (st1 := [.int x1, .ref 228]) (fun _ _ _ => rfl) ?_
  refine jg_aal (w := 229 + ((x1 : Int32).toNatClampNeg)) rfl rfl kc_228 rfl (fun g21 => ?_)
  refine jg_sg 2 (pc1 := 93) (lv1 := [(0, .ref 215), (1, .int x1), (2, .long x2), (4, .int x4), (5, .int x5)]) (st1 := [.ref 215, .int x5, .ref (229 + ((x1 : Int32).toNatClampNeg))]) (fun _ _ _ => rfl) ?_
  refine jg_g (v := .ref 228) rfl kc_215 rfl rfl ?_
  refine jg_sg 1 (pc1 := 97) (lv1 := [(0, .ref 215), (1, .int x1), (2, .long x2), (4, .int x4), (5, .int x5)]) (st1 := [.int x1, .ref 228, .int x5, .ref (229 + ((x1 : Int32).toNatClampNeg))]) (fun _ _ _ => rfl) ?_
  refine jg_aal (w := 229 + ((x1 : Int32).toNatClampNeg)) rfl rfl kc_228 rfl (fun g22 => ?_)
  refine jg_sg 3 (pc1 := 102) (lv1 := [(0, .ref 215), (1, .int x1), (2, .long x2), (4, .int x4), (5, .int x5)]) (st1 := [.int (x5 - 1), .ref (229 + ((x1 : Int32).toNatClampNeg)), .int x5, .ref (229 + ((x1 : Int32).toNatClampNeg))]) (fun _ _ _ => rfl) ?_
  refine jg_bal rfl rfl (kc_bg (jr_m g22)) (fun g23 => ?_)
  refine jg_bas rfl rfl (kc_bg (jr_m g21)) rfl (fun g24 S25 _ => ?_)
  refine jg_sg 2 (pc1 := 8) (lv1 := [(5, .int (x5 + (-1))), (0, .ref 215), (1, .int x1), (2, .long x2), (4, .int x4)]) (st1 := []) (fun _ _ _ => rfl) ?_
  refine jg_lvs (lv1 := [(0, .ref 215), (1, .int x1), (2, .long x2), (4, .int x4), (5, .int (x5 + (-1)))]) rfl rfl ⟨rfl, rfl, rfl, rfl, rfl, trivial⟩ ?_
  exact ih8 x1 x2 x4 (x5 + (-1)) S25
noncomputable def L_M_event_8  : Nat → Int32 → Int64 → Int32 → Int32 → jS → Option jS
  | 0, _, _, _, _, _ => none
  | f + 1, x1, x2, x4, x5, S => if x5 ≤ 0 then (J_M_event_110 x1 x2 x4 x5 S) else (j_q (j_in x1 8) (j_q (j_in (x5 - 1) 660) (if x2 < (S.2.1 (220 + ((x1 : Int32).toNatClampNeg)) ((x5 - 1 : Int32).toNatClampNeg)) then (J_M_event_64 (L_M_event_8 f) x1 x2 x4 x5 S) else (j_q (j_in x1 8) (j_q (j_in (x5 - 1) 660) (if (S.2.1 (220 + ((x1 : Int32).toNatClampNeg)) ((x5 - 1 : Int32).toNatClampNeg)) = x2 then (if x4 = 0 then (J_M_event_110 x1 x2 x4 x5 S) else (j_q (j_in x1 8) (j_q (j_in (x5 - 1) 660) (if (S.1 (229 + ((x1 : Int32).toNatClampNeg)) ((x5 - 1 : Int32).toNatClampNeg)) = 0 then (J_M_event_64 (L_M_event_8 f) x1 x2 x4 x5 S) else (J_M_event_110 x1 x2 x4 x5 S))))) else (J_M_event_110 x1 x2 x4 x5 S)))))))
set_option maxRecDepth 20000 in
theorem kL_M_event_8 {q rF rL : Nat} (hF : 0 ≤ rF) (hL : 0 ≤ rL)   : ∀ (f : Nat) (x1 : Int32) (x2 : Int64) (x4 : Int32) (x5 : Int32) (S : jS), jg q jp_M_event rF rL 8 [(0, .ref 215), (1, .int x1), (2, .long x2), (4, .int x4), (5, .int x5)] [] S 0 s_V (L_M_event_8 f x1 x2 x4 x5 S) := by
  intro f
  induction f with
  | zero => intro _ _ _ _ _; exact jg_none
  | succ f ih8 =>
    intro x1 x2 x4 x5 S
    rw [L_M_event_8]
    refine jg_sg 1 (pc1 := 10) (lv1 := [(0, .ref 215), (1, .int x1), (2, .long x2), (4, .int x4), (5, .int x5)]) (st1 := [.int x5]) (fun _ _ _ => rfl) ?_
    refine jg_br (fun _ _ _ _ k1 k2 => jt_if_le (t := 110) rfl rfl k1 k2) (fun c3 => ?_) (fun c3 => ?_)
    · refine jg_lvs (lv1 := [(0, .ref 215), (1, .int x1), (2, .long x2), (4, .int x4), (5, .int x5)]) rfl rfl ⟨rfl, rfl, rfl, rfl, rfl, trivial⟩ ?_
      exact kJ_M_event_110 (by omega) (by omega) x1 x2 x4 x5 S
    · refine jg_sg 1 (pc1 := 14) (lv1 := [(0, .ref 215), (1, .int x1), (2, .long x2), (4, .int x4), (5, .int x5)]) (st1 := [.ref 215]) (fun _ _ _ => rfl) ?_
      refine jg_g (v := .ref 219) rfl kc_215 rfl rfl ?_
      refine jg_sg 1 (pc1 := 18) (lv1 := [(0, .ref 215), (1, .int x1), (2, .long x2), (4, .int x4), (5, .int x5)]) (st1 := [.int x1, .ref 219]) (fun _ _ _ => rfl) ?_
      refine jg_aal (w := 220 + ((x1 : Int32).toNatClampNeg)) rfl rfl kc_219 rfl (fun g13 => ?_)
      refine jg_sg 3 (pc1 := 23) (lv1 := [(0, .ref 215), (1, .int x1), (2, .long x2), (4, .int x4), (5, .int x5)]) (st1 := [.int (x5 - 1), .ref (220 + ((x1 : Int32).toNatClampNeg))]) (fun _ _ _ => rfl) ?_
      refine jg_lal rfl (kc_ev (jr_m g13)) (fun g14 => ?_)
      refine jg_sg 2 (pc1 := 26) (lv1 := [(0, .ref 215), (1, .int x1), (2, .long x2), (4, .int x4), (5, .int x5)]) (st1 := [.int (lg_cmp (S.2.1 (220 + ((x1 : Int32).toNatClampNeg)) ((x5 - 1 : Int32).toNatClampNeg)) x2)]) (fun _ _ _ => rfl) ?_
      refine jg_br (fun _ _ _ _ k1 k2 => jt_lif_gt (t := 64) rfl rfl k1 k2) (fun c15 => ?_) (fun c15 => ?_)
      · refine jg_lvs (lv1 := [(0, .ref 215), (1, .int x1), (2, .long x2), (4, .int x4), (5, .int x5)]) rfl rfl ⟨rfl, rfl, rfl, rfl, rfl, trivial⟩ ?_
        exact kJ_M_event_64 (by omega) (by omega) (L_M_event_8 f) ih8 x1 x2 x4 x5 S
      · refine jg_sg 1 (pc1 := 30) (lv1 := [(0, .ref 215), (1, .int x1), (2, .long x2), (4, .int x4), (5, .int x5)]) (st1 := [.ref 215]) (fun _ _ _ => rfl) ?_
        refine jg_g (v := .ref 219) rfl kc_215 rfl rfl ?_
        refine jg_sg 1 (pc1 := 34) (lv1 := [(0, .ref 215), (1, .int x1), (2, .long x2), (4, .int x4), (5, .int x5)]) (st1 := [.int x1, .ref 219]) (fun _ _ _ => rfl) ?_
        refine jg_aal (w := 220 + ((x1 : Int32).toNatClampNeg)) rfl rfl kc_219 rfl (fun g26 => ?_)
        refine jg_sg 3 (pc1 := 39) (lv1 := [(0, .ref 215), (1, .int x1), (2, .long x2), (4, .int x4), (5, .int x5)]) (st1 := [.int (x5 - 1), .ref (220 + ((x1 : Int32).toNatClampNeg))]) (fun _ _ _ => rfl) ?_
        refine jg_lal rfl (kc_ev (jr_m g26)) (fun g27 => ?_)
        refine jg_sg 2 (pc1 := 42) (lv1 := [(0, .ref 215), (1, .int x1), (2, .long x2), (4, .int x4), (5, .int x5)]) (st1 := [.int (lg_cmp (S.2.1 (220 + ((x1 : Int32).toNatClampNeg)) ((x5 - 1 : Int32).toNatClampNeg)) x2)]) (fun _ _ _ => rfl) ?_
        refine jg_br (fun _ _ _ _ k1 k2 => jt_lif_ne (t := 110) rfl rfl k2 k1) (fun c28 => ?_) (fun c28 => ?_)
        · refine jg_sg 1 (pc1 := 47) (lv1 := [(0, .ref 215), (1, .int x1), (2, .long x2), (4, .int x4), (5, .int x5)]) (st1 := [.int x4]) (fun _ _ _ => rfl) ?_
          refine jg_br (fun _ _ _ _ k1 k2 => jt_if_eq (t := 110) rfl rfl k1 k2) (fun c29 => ?_) (fun c29 => ?_)
          · refine jg_lvs (lv1 := [(0, .ref 215), (1, .int x1), (2, .long x2), (4, .int x4), (5, .int x5)]) rfl rfl ⟨rfl, rfl, rfl, rfl, rfl, trivial⟩ ?_
            exact kJ_M_event_110 (by omega) (by omega) x1 x2 x4 x5 S
          · refine jg_sg 1 (pc1 := 51) (lv1 := [(0, .ref 215), (1, .int x1), (2, .long x2), (4, .int x4), (5, .int x5)]) (st1 := [.ref 215]) (fun _ _ _ => rfl) ?_
            refine jg_g (v := .ref 228) rfl kc_215 rfl rfl ?_
            refine jg_sg 1 (pc1 := 55) (lv1 := [(0, .ref 215), (1, .int x1), (2, .long x2), (4, .int x4), (5, .int x5)]) (st1 := [.int x1, .ref 228]) (fun _ _ _ => rfl) ?_
            refine jg_aal (w := 229 + ((x1 : Int32).toNatClampNeg)) rfl rfl kc_228 rfl (fun g30 => ?_)
            refine jg_sg 3 (pc1 := 60) (lv1 := [(0, .ref 215), (1, .int x1), (2, .long x2), (4, .int x4), (5, .int x5)]) (st1 := [.int (x5 - 1), .ref (229 + ((x1 : Int32).toNatClampNeg))]) (fun _ _ _ => rfl) ?_
            refine jg_bal rfl rfl (kc_bg (jr_m g30)) (fun g31 => ?_)
            refine jg_br (fun _ _ _ _ k1 k2 => jt_if_ne (t := 110) rfl rfl k2 k1) (fun c32 => ?_) (fun c32 => ?_)
            · refine jg_lvs (lv1 := [(0, .ref 215), (1, .int x1), (2, .long x2), (4, .int x4), (5, .int x5)]) rfl rfl ⟨rfl, rfl, rfl, rfl, rfl, trivial⟩ ?_
              exact kJ_M_event_64 (by omega) (by omega) (L_M_event_8 f) ih8 x1 x2 x4 x5 S
            · refine jg_lvs (lv1 := [(0, .ref 215), (1, .int x1), (2, .long x2), (4, .int x4), (5, .int x5)]) rfl rfl ⟨rfl, rfl, rfl, rfl, rfl, trivial⟩ ?_
              exact kJ_M_event_110 (by omega) (by omega) x1 x2 x4 x5 S
        · refine jg_lvs (lv1 := [(0, .ref 215), (1, .int x1), (2, .long x2), (4, .int x4), (5, .int x5)]) rfl rfl ⟨rfl, rfl, rfl, rfl, rfl, trivial⟩ ?_
          exact kJ_M_event_110 (by omega) (by omega) x1 x2 x4 x5 S
noncomputable def F_M_event (p0 : Int32) (p1 : Int64) (p2 : Int32) (S : jS) : Option jS := j_q (j_in p0 8) (j_l (S.1 237 ((p0 : Int32).toNatClampNeg) : Int32) (fun v2 => L_M_event_8 ju_ p0 p1 p2 v2 S))
set_option maxRecDepth 20000 in
theorem kF_M_event {q : Nat} (p0 : Int32) (p1 : Int64) (p2 : Int32) (S : jS) (rF rL : Nat) (hF : 0 ≤ rF) (hL : 0 ≤ rL)  : jg q jp_M_event rF rL 0 [(0, .ref 215), (1, .int p0), (2, .long p1), (4, .int p2)] [] S 0 s_V (F_M_event p0 p1 p2 S) := by
  unfold F_M_event
  refine jg_sg 1 (pc1 := 1) (lv1 := [(0, .ref 215), (1, .int p0), (2, .long p1), (4, .int p2)]) (st1 := [.ref 215]) (fun _ _ _ => rfl) ?_
  refine jg_g (v := .ref 237) rfl kc_215 rfl rfl ?_
  refine jg_sg 1 (pc1 := 5) (lv1 := [(0, .ref 215), (1, .int p0), (2, .long p1), (4, .int p2)]) (st1 := [.int p0, .ref 237]) (fun _ _ _ => rfl) ?_
  refine jg_ial rfl kc_237 (fun g1 => ?_)
  refine jg_sg 1 (pc1 := 8) (lv1 := [(5, .int (S.1 237 ((p0 : Int32).toNatClampNeg))), (0, .ref 215), (1, .int p0), (2, .long p1), (4, .int p2)]) (st1 := []) (fun _ _ _ => rfl) ?_
  refine jg_vi (fun v2 => ?_)
  refine jg_lvs (lv1 := [(0, .ref 215), (1, .int p0), (2, .long p1), (4, .int p2), (5, .int v2)]) rfl rfl ⟨rfl, rfl, rfl, rfl, rfl, trivial⟩ ?_
  exact kL_M_event_8 (by omega) (by omega) ju_ p0 p1 p2 v2 S
end JF9
