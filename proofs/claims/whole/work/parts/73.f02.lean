section JF2
noncomputable def L_T_takeName_29  : Nat → Nat → Int32 → Int32 → jS → Option (Int32 × jS)
  | 0, _, _, _, _ => none
  | f + 1, x1, x2, x3, S => if x2 = 0 then (some (-1, S)) else (if (Int32.ofNat (sl_ x1)) < (x3 + 3) then (some (-1, S)) else (j_q (j_in (S.1 25 2) 400) (j_q (j_in x3 (sl_ x1)) (if (S.1 26 ((S.1 25 2 : Int32).toNatClampNeg)) = (sc_ x1 (x3 : Int32).toNatClampNeg) then (j_q (j_in ((S.1 25 2) + 1) 400) (j_q (j_in (x3 + 1) (sl_ x1)) (if (S.1 26 (((S.1 25 2) + 1 : Int32).toNatClampNeg)) = (sc_ x1 (x3 + 1 : Int32).toNatClampNeg) then (j_q (j_in ((S.1 25 2) + 2) 400) (j_q (j_in (x3 + 2) (sl_ x1)) (if (S.1 26 (((S.1 25 2) + 2 : Int32).toNatClampNeg)) = (sc_ x1 (x3 + 2 : Int32).toNatClampNeg) then (j_l (w_i S 25 2 ((S.1 25 2) + 3)) (fun S14 => some (x3 / 3, S14))) else ((L_T_takeName_29 f) x1 x2 (x3 + 3) S)))) else ((L_T_takeName_29 f) x1 x2 (x3 + 3) S)))) else ((L_T_takeName_29 f) x1 x2 (x3 + 3) S)))))
set_option maxRecDepth 20000 in
theorem kL_T_takeName_29 {q rF rL : Nat} (hF : 6 ≤ rF) (hL : 150 ≤ rL)   : ∀ (f : Nat) (x1 : Nat) (x2 : Int32) (x3 : Int32) (S : jS), js_ x1 = true → jg q jp_T_takeName rF rL 29 [(0, .ref 25), (1, .ref x1), (2, .int x2), (3, .int x3)] [] S 0 s_I (L_T_takeName_29 f x1 x2 x3 S) := by
  intro f
  induction f with
  | zero => intro _ _ _ _ _; exact jg_none
  | succ f ih29 =>
    intro x1 x2 x3 S hx1
    rw [L_T_takeName_29]
    refine jg_sg 1 (pc1 := 30) (lv1 := [(0, .ref 25), (1, .ref x1), (2, .int x2), (3, .int x3)]) (st1 := [.int x2]) (fun _ _ _ => rfl) ?_
    refine jg_br (fun _ _ _ _ k1 k2 => jt_if_eq (t := 122) rfl rfl k1 k2) (fun c3 => ?_) (fun c3 => ?_)
    · refine jg_sg 1 (pc1 := 123) (lv1 := [(0, .ref 25), (1, .ref x1), (2, .int x2), (3, .int x3)]) (st1 := [.int (-1)]) (fun _ _ _ => rfl) ?_
      exact jg_ri rfl rfl rfl rfl
    · refine jg_sg 4 (pc1 := 37) (lv1 := [(0, .ref 25), (1, .ref x1), (2, .int x2), (3, .int x3)]) (st1 := [.ref x1, .int (x3 + 3)]) (fun _ _ _ => rfl) ?_
      refine jg_len rfl hx1 (Nat.le_of_ble_eq_true rfl) (by omega) (by omega) ?_
      refine jg_br (fun _ _ _ _ k1 k2 => jt_icmp_gt (t := 122) rfl rfl k1 k2) (fun c4 => ?_) (fun c4 => ?_)
      · refine jg_sg 1 (pc1 := 123) (lv1 := [(0, .ref 25), (1, .ref x1), (2, .int x2), (3, .int x3)]) (st1 := [.int (-1)]) (fun _ _ _ => rfl) ?_
        exact jg_ri rfl rfl rfl rfl
      · refine jg_sg 1 (pc1 := 44) (lv1 := [(0, .ref 25), (1, .ref x1), (2, .int x2), (3, .int x3)]) (st1 := [.ref 25]) (fun _ _ _ => rfl) ?_
        refine jg_g (v := .ref 26) rfl kc_25 rfl rfl ?_
        refine jg_sg 1 (pc1 := 48) (lv1 := [(0, .ref 25), (1, .ref x1), (2, .int x2), (3, .int x3)]) (st1 := [.ref 25, .ref 26]) (fun _ _ _ => rfl) ?_
        refine jg_g (v := .int (S.1 25 2)) rfl kc_25 rfl rfl ?_
        refine jg_bal rfl rfl kc_26 (fun g5 => ?_)
        refine jg_sg 2 (pc1 := 54) (lv1 := [(0, .ref 25), (1, .ref x1), (2, .int x2), (3, .int x3)]) (st1 := [.int x3, .ref x1, .int (S.1 26 ((S.1 25 2 : Int32).toNatClampNeg))]) (fun _ _ _ => rfl) ?_
        refine jg_chr rfl hx1 (Nat.le_of_ble_eq_true rfl) (by omega) (by omega) (fun g6 => ?_)
        refine jg_br (fun _ _ _ _ k1 k2 => jt_icmp_ne (t := 116) rfl rfl k2 k1) (fun c7 => ?_) (fun c7 => ?_)
        · refine jg_sg 1 (pc1 := 61) (lv1 := [(0, .ref 25), (1, .ref x1), (2, .int x2), (3, .int x3)]) (st1 := [.ref 25]) (fun _ _ _ => rfl) ?_
          refine jg_g (v := .ref 26) rfl kc_25 rfl rfl ?_
          refine jg_sg 1 (pc1 := 65) (lv1 := [(0, .ref 25), (1, .ref x1), (2, .int x2), (3, .int x3)]) (st1 := [.ref 25, .ref 26]) (fun _ _ _ => rfl) ?_
          refine jg_g (v := .int (S.1 25 2)) rfl kc_25 rfl rfl ?_
          refine jg_sg 2 (pc1 := 70) (lv1 := [(0, .ref 25), (1, .ref x1), (2, .int x2), (3, .int x3)]) (st1 := [.int ((S.1 25 2) + 1), .ref 26]) (fun _ _ _ => rfl) ?_
          refine jg_bal rfl rfl kc_26 (fun g8 => ?_)
          refine jg_sg 4 (pc1 := 75) (lv1 := [(0, .ref 25), (1, .ref x1), (2, .int x2), (3, .int x3)]) (st1 := [.int (x3 + 1), .ref x1, .int (S.1 26 (((S.1 25 2) + 1 : Int32).toNatClampNeg))]) (fun _ _ _ => rfl) ?_
          refine jg_chr rfl hx1 (Nat.le_of_ble_eq_true rfl) (by omega) (by omega) (fun g9 => ?_)
          refine jg_br (fun _ _ _ _ k1 k2 => jt_icmp_ne (t := 116) rfl rfl k2 k1) (fun c10 => ?_) (fun c10 => ?_)
          · refine jg_sg 1 (pc1 := 82) (lv1 := [(0, .ref 25), (1, .ref x1), (2, .int x2), (3, .int x3)]) (st1 := [.ref 25]) (fun _ _ _ => rfl) ?_
            refine jg_g (v := .ref 26) rfl kc_25 rfl rfl ?_
            refine jg_sg 1 (pc1 := 86) (lv1 := [(0, .ref 25), (1, .ref x1), (2, .int x2), (3, .int x3)]) (st1 := [.ref 25, .ref 26]) (fun _ _ _ => rfl) ?_
            refine jg_g (v := .int (S.1 25 2)) rfl kc_25 rfl rfl ?_
            refine jg_sg 2 (pc1 := 91) (lv1 := [(0, .ref 25), (1, .ref x1), (2, .int x2), (3, .int x3)]) (st1 := [.int ((S.1 25 2) + 2), .ref 26]) (fun _ _ _ => rfl) ?_
            refine jg_bal rfl rfl kc_26 (fun g11 => ?_)
            refine jg_sg 4 (pc1 := 96) (lv1 := [(0, .ref 25), (1, .ref x1), (2, .int x2), (3, .int x3)]) (st1 := [.int (x3 + 2), .ref x1, .int (S.1 26 (((S.1 25 2) + 2 : Int32).toNatClampNeg))]) (fun _ _ _ => rfl) ?_
            refine jg_chr rfl hx1 (Nat.le_of_ble_eq_true rfl) (by omega) (by omega) (fun g12 => ?_)
            refine jg_br (fun _ _ _ _ k1 k2 => jt_icmp_ne (t := 116) rfl rfl k2 k1) (fun c13 => ?_) (fun c13 => ?_)
            · refine jg_sg 2 (pc1 := 104) (lv1 := [(0, .ref 25), (1, .ref x1), (2, .int x2), (3, .int x3)]) (st1 := [.ref 25, .ref 25]) (fun _ _ _ => rfl) ?_
              refine jg_g (v := .int (S.1 25 2)) rfl kc_25 rfl rfl ?_
              refine jg_sg 2 (pc1 := 109) (lv1 := [(0, .ref 25), (1, .ref x1), (2, .int x2), (3, .int x3)]) (st1 := [.int ((S.1 25 2) + 3), .ref 25]) (fun _ _ _ => rfl) ?_
              refine jg_pi rfl kc_25 rfl (Nat.le_of_ble_eq_true rfl) rfl rfl (fun S14 _ => ?_)
              refine jg_sg 2 (pc1 := 114) (lv1 := [(0, .ref 25), (1, .ref x1), (2, .int x2), (3, .int x3)]) (st1 := [.int 3, .int x3]) (fun _ _ _ => rfl) ?_
              refine jg_st (fun _ _ _ _ _ k => jt_idiv rfl (by decide +kernel) k) ?_
              exact jg_ri rfl rfl rfl rfl
            · refine jg_sg 2 (pc1 := 29) (lv1 := [(3, .int (x3 + 3)), (0, .ref 25), (1, .ref x1), (2, .int x2)]) (st1 := []) (fun _ _ _ => rfl) ?_
              refine jg_lvs (lv1 := [(0, .ref 25), (1, .ref x1), (2, .int x2), (3, .int (x3 + 3))]) rfl rfl ⟨rfl, rfl, rfl, rfl, trivial⟩ ?_
              exact ih29 x1 x2 (x3 + 3) S hx1
          · refine jg_sg 2 (pc1 := 29) (lv1 := [(3, .int (x3 + 3)), (0, .ref 25), (1, .ref x1), (2, .int x2)]) (st1 := []) (fun _ _ _ => rfl) ?_
            refine jg_lvs (lv1 := [(0, .ref 25), (1, .ref x1), (2, .int x2), (3, .int (x3 + 3))]) rfl rfl ⟨rfl, rfl, rfl, rfl, trivial⟩ ?_
            exact ih29 x1 x2 (x3 + 3) S hx1
        · refine jg_sg 2 (pc1 := 29) (lv1 := [(3, .int (x3 + 3)), (0, .ref 25), (1, .ref x1), (2, .int x2)]) (st1 := []) (fun _ _ _ => rfl) ?_
          refine jg_lvs (lv1 := [(0, .ref 25), (1, .ref x1), (2, .int x2), (3, .int (x3 + 3))]) rfl rfl ⟨rfl, rfl, rfl, rfl, trivial⟩ ?_
          exact ih29 x1 x2 (x3 + 3) S hx1
noncomputable def J_T_takeName_25 (x1 : Nat) (S : jS) : Option (Int32 × jS) := L_T_takeName_29 ju_ x1 0 0 S
set_option maxRecDepth 20000 in
theorem kJ_T_takeName_25 {q rF rL : Nat} (hF : 6 ≤ rF) (hL : 150 ≤ rL)   (x1 : Nat) (S : jS) (hx1 : js_ x1 = true) : jg q jp_T_takeName rF rL 25 [(0, .ref 25), (1, .ref x1)] [] S 0 s_I (J_T_takeName_25 x1 S) := by
  unfold J_T_takeName_25
  refine jg_sg 4 (pc1 := 29) (lv1 := [(3, .int 0), (2, .int 0), (0, .ref 25), (1, .ref x1)]) (st1 := []) (fun _ _ _ => rfl) ?_
  refine jg_lvs (lv1 := [(0, .ref 25), (1, .ref x1), (2, .int 0), (3, .int 0)]) rfl rfl ⟨rfl, rfl, rfl, rfl, trivial⟩ ?_
  exact kL_T_takeName_29 (by omega) (by omega) ju_ x1 0 0 S hx1
noncomputable def F_T_takeName (a0 : Nat) (S : jS) : Option (Int32 × jS) := if (S.1 25 3) = (-1) then (if (S.1 25 1) < ((S.1 25 2) + 3) then (J_T_takeName_25 a0 S) else (L_T_takeName_29 ju_ a0 1 0 S)) else (J_T_takeName_25 a0 S)
set_option maxRecDepth 20000 in
theorem kF_T_takeName {q : Nat} (a0 : Nat) (S : jS) (rF rL : Nat) (hF : 6 ≤ rF) (hL : 150 ≤ rL) (ha0 : js_ a0 = true) : jg q jp_T_takeName rF rL 0 [(0, .ref 25), (1, .ref a0)] [] S 0 s_I (F_T_takeName a0 S) := by
  unfold F_T_takeName
  refine jg_sg 1 (pc1 := 1) (lv1 := [(0, .ref 25), (1, .ref a0)]) (st1 := [.ref 25]) (fun _ _ _ => rfl) ?_
  refine jg_g (v := .int (S.1 25 3)) rfl kc_25 rfl rfl ?_
  refine jg_sg 1 (pc1 := 5) (lv1 := [(0, .ref 25), (1, .ref a0)]) (st1 := [.int (-1), .int (S.1 25 3)]) (fun _ _ _ => rfl) ?_
  refine jg_br (fun _ _ _ _ k1 k2 => jt_icmp_ne (t := 25) rfl rfl k2 k1) (fun c1 => ?_) (fun c1 => ?_)
  · refine jg_sg 1 (pc1 := 9) (lv1 := [(0, .ref 25), (1, .ref a0)]) (st1 := [.ref 25]) (fun _ _ _ => rfl) ?_
    refine jg_g (v := .int (S.1 25 2)) rfl kc_25 rfl rfl ?_
    refine jg_sg 3 (pc1 := 15) (lv1 := [(0, .ref 25), (1, .ref a0)]) (st1 := [.ref 25, .int ((S.1 25 2) + 3)]) (fun _ _ _ => rfl) ?_
    refine jg_g (v := .int (S.1 25 1)) rfl kc_25 rfl rfl ?_
    refine jg_br (fun _ _ _ _ k1 k2 => jt_icmp_gt (t := 25) rfl rfl k1 k2) (fun c2 => ?_) (fun c2 => ?_)
    · refine jg_lvs (lv1 := [(0, .ref 25), (1, .ref a0)]) rfl rfl ⟨rfl, rfl, trivial⟩ ?_
      exact kJ_T_takeName_25 (by omega) (by omega) a0 S ha0
    · refine jg_sg 5 (pc1 := 29) (lv1 := [(3, .int 0), (2, .int 1), (0, .ref 25), (1, .ref a0)]) (st1 := []) (fun _ _ _ => rfl) ?_
      refine jg_lvs (lv1 := [(0, .ref 25), (1, .ref a0), (2, .int 1), (3, .int 0)]) rfl rfl ⟨rfl, rfl, rfl, rfl, trivial⟩ ?_
      exact kL_T_takeName_29 (by omega) (by omega) ju_ a0 1 0 S ha0
  · refine jg_lvs (lv1 := [(0, .ref 25), (1, .ref a0)]) rfl rfl ⟨rfl, rfl, trivial⟩ ?_
    exact kJ_T_takeName_25 (by omega) (by omega) a0 S ha0
noncomputable def J_CR_readValue_29 (x1 : Int32) (x2 : Int32) (S : jS) : Option (Int32 × jS) := (F_C_lowest x1 S).bind (fun z3 => if 0 ≤ x2 then (some (z3 + x2, S)) else ((F_C_highest x1 S).bind (fun z5 => (F_T_number z3 z5 S).bind (fun z6 => some (z6.1, z6.2)))))
set_option maxRecDepth 20000 in
theorem kJ_CR_readValue_29 {q rF rL : Nat} (hF : 7 ≤ rF) (hL : 173 ≤ rL)   (x1 : Int32) (x2 : Int32) (S : jS) : jg q jp_CR_readValue rF rL 29 [(0, .ref 25), (1, .int x1), (2, .int x2)] [] S 0 s_I (J_CR_readValue_29 x1 x2 S) := by
  unfold J_CR_readValue_29
  refine jg_sg 1 (pc1 := 30) (lv1 := [(0, .ref 25), (1, .int x1), (2, .int x2)]) (st1 := [.int x1]) (fun _ _ _ => rfl) ?_
  refine jg_cpI (m2 := jp_C_lowest) (As := [.int x1]) (r := []) (mx := 1) (jh_s rfl (fun _ _ _ => rfl) rfl rfl rfl (by omega) (by omega) (Nat.le_of_ble_eq_true rfl)) (kF_C_lowest x1 S _ _ (by omega) (by omega) ) (fun z3 => ?_)
  refine jg_sg 2 (pc1 := 35) (lv1 := [(3, .int z3), (0, .ref 25), (1, .int x1), (2, .int x2)]) (st1 := [.int x2]) (fun _ _ _ => rfl) ?_
  refine jg_br (fun _ _ _ _ k1 k2 => jt_if_ge (t := 50) rfl rfl k1 k2) (fun c4 => ?_) (fun c4 => ?_)
  · refine jg_sg 3 (pc1 := 53) (lv1 := [(3, .int z3), (0, .ref 25), (1, .int x1), (2, .int x2)]) (st1 := [.int (z3 + x2)]) (fun _ _ _ => rfl) ?_
    exact jg_ri rfl rfl rfl rfl
  · refine jg_sg 3 (pc1 := 41) (lv1 := [(3, .int z3), (0, .ref 25), (1, .int x1), (2, .int x2)]) (st1 := [.int x1, .int z3, .ref 25]) (fun _ _ _ => rfl) ?_
    refine jg_cpI (m2 := jp_C_highest) (As := [.int x1]) (r := [.int z3, .ref 25]) (mx := 1) (jh_s rfl (fun _ _ _ => rfl) rfl rfl rfl (by omega) (by omega) (Nat.le_of_ble_eq_true rfl)) (kF_C_highest x1 S _ _ (by omega) (by omega) ) (fun z5 => ?_)
    refine jg_csI (m2 := jp_T_number) (As := [.ref 25, .int z3, .int z5]) (r := []) (mx := 6) (jh_v (a := 25) rfl rfl rfl kc_25 rfl (Nat.le_of_ble_eq_true rfl) rfl rfl rfl (by omega) (by omega) (Nat.le_of_ble_eq_true rfl)) (kF_T_number z3 z5 S _ _ (by omega) (by omega) ) (fun z6 => ?_)
    refine jg_sg 1 (pc1 := 53) (lv1 := [(3, .int z3), (0, .ref 25), (1, .int x1), (2, .int x2)]) (st1 := [.int z6.1]) (fun _ _ _ => rfl) ?_
    exact jg_ri rfl rfl rfl rfl
noncomputable def F_CR_readValue (p0 : Int32) (S : jS) : Option (Int32 × jS) := if p0 = 4 then ((F_T_takeName 3 S).bind (fun z2 => J_CR_readValue_29 p0 z2.1 z2.2)) else (if p0 = 5 then ((F_T_takeName 4 S).bind (fun z8 => J_CR_readValue_29 p0 z8.1 z8.2)) else (J_CR_readValue_29 p0 (-1) S))
set_option maxRecDepth 20000 in
theorem kF_CR_readValue {q : Nat} (p0 : Int32) (S : jS) (rF rL : Nat) (hF : 7 ≤ rF) (hL : 173 ≤ rL)  : jg q jp_CR_readValue rF rL 0 [(0, .ref 25), (1, .int p0)] [] S 0 s_I (F_CR_readValue p0 S) := by
  unfold F_CR_readValue
  refine jg_sg 4 (pc1 := 4) (lv1 := [(2, .int (-1)), (0, .ref 25), (1, .int p0)]) (st1 := [.int 4, .int p0]) (fun _ _ _ => rfl) ?_
  refine jg_br (fun _ _ _ _ k1 k2 => jt_icmp_ne (t := 17) rfl rfl k2 k1) (fun c1 => ?_) (fun c1 => ?_)
  · refine jg_sg 2 (pc1 := 10) (lv1 := [(2, .int (-1)), (0, .ref 25), (1, .int p0)]) (st1 := [.ref 3, .ref 25]) (fun _ _ _ => rfl) ?_
    refine jg_csI (m2 := jp_T_takeName) (As := [.ref 25, .ref 3]) (r := []) (mx := 4) (jh_v (a := 25) rfl rfl rfl kc_25 rfl (Nat.le_of_ble_eq_true rfl) rfl rfl rfl (by omega) (by omega) (Nat.le_of_ble_eq_true rfl)) (kF_T_takeName 3 S _ _ (by omega) (by omega) rfl) (fun z2 => ?_)
    refine jg_sg 2 (pc1 := 29) (lv1 := [(2, .int z2.1), (0, .ref 25), (1, .int p0)]) (st1 := []) (fun _ _ _ => rfl) ?_
    refine jg_lvs (lv1 := [(0, .ref 25), (1, .int p0), (2, .int z2.1)]) rfl rfl ⟨rfl, rfl, rfl, trivial⟩ ?_
    exact kJ_CR_readValue_29 (by omega) (by omega) p0 z2.1 z2.2
  · refine jg_sg 2 (pc1 := 19) (lv1 := [(2, .int (-1)), (0, .ref 25), (1, .int p0)]) (st1 := [.int 5, .int p0]) (fun _ _ _ => rfl) ?_
    refine jg_br (fun _ _ _ _ k1 k2 => jt_icmp_ne (t := 29) rfl rfl k2 k1) (fun c7 => ?_) (fun c7 => ?_)
    · refine jg_sg 2 (pc1 := 25) (lv1 := [(2, .int (-1)), (0, .ref 25), (1, .int p0)]) (st1 := [.ref 4, .ref 25]) (fun _ _ _ => rfl) ?_
      refine jg_csI (m2 := jp_T_takeName) (As := [.ref 25, .ref 4]) (r := []) (mx := 4) (jh_v (a := 25) rfl rfl rfl kc_25 rfl (Nat.le_of_ble_eq_true rfl) rfl rfl rfl (by omega) (by omega) (Nat.le_of_ble_eq_true rfl)) (kF_T_takeName 4 S _ _ (by omega) (by omega) rfl) (fun z8 => ?_)
      refine jg_sg 1 (pc1 := 29) (lv1 := [(2, .int z8.1), (0, .ref 25), (1, .int p0)]) (st1 := []) (fun _ _ _ => rfl) ?_
      refine jg_lvs (lv1 := [(0, .ref 25), (1, .int p0), (2, .int z8.1)]) rfl rfl ⟨rfl, rfl, rfl, trivial⟩ ?_
      exact kJ_CR_readValue_29 (by omega) (by omega) p0 z8.1 z8.2
    · refine jg_lvs (lv1 := [(0, .ref 25), (1, .int p0), (2, .int (-1))]) rfl rfl ⟨rfl, rfl, rfl, trivial⟩ ?_
      exact kJ_CR_readValue_29 (by omega) (by omega) p0 (-1) S
noncomputable def J_CR_takeSign_79 (x1 : Nat) (x3 : Int32) (S : jS) : Option (Int32 × jS) := j_l (w_i S x1 2 x3) (fun S13 => some (1, S13))
set_option maxRecDepth 20000 in
theorem kJ_CR_takeSign_79 {q rF rL : Nat} (hF : 2 ≤ rF) (hL : 46 ≤ rL)   (x1 : Nat) (x3 : Int32) (S : jS) (hx1 : jc_ x1 = true) : jg q jp_CR_takeSign rF rL 79 [(1, .ref x1), (3, .int x3)] [] S 0 s_I (J_CR_takeSign_79 x1 x3 S) := by
  unfold J_CR_takeSign_79
  refine jg_sg 2 (pc1 := 81) (lv1 := [(1, .ref x1), (3, .int x3)]) (st1 := [.int x3, .ref x1]) (fun _ _ _ => rfl) ?_
  refine jg_pi rfl (kc_C hx1) rfl (Nat.le_of_ble_eq_true rfl) rfl rfl (fun S13 _ => ?_)
  refine jg_sg 1 (pc1 := 85) (lv1 := [(1, .ref x1), (3, .int x3)]) (st1 := [.int 1]) (fun _ _ _ => rfl) ?_
  exact jg_ri rfl rfl rfl rfl
noncomputable def J_CR_takeSign_44 (x1 : Nat) (x2 : Int32) (x3 : Int32) (S : jS) : Option (Int32 × jS) := if x2 = 5 then ((F_T_take 35 S).bind (fun z8 => if z8.1 = 0 then (some (0, z8.2)) else (j_l (w_i z8.2 x1 1 6) (fun S10 => (F_T_number 1 5 S10).bind (fun z11 => j_l (w_i z11.2 x1 3 z11.1) (fun S12 => J_CR_takeSign_79 x1 x3 S12)))))) else (some (0, S))
set_option maxRecDepth 20000 in
theorem kJ_CR_takeSign_44 {q rF rL : Nat} (hF : 2 ≤ rF) (hL : 46 ≤ rL)   (x1 : Nat) (x2 : Int32) (x3 : Int32) (S : jS) (hx1 : jc_ x1 = true) : jg q jp_CR_takeSign rF rL 44 [(0, .ref 25), (1, .ref x1), (2, .int x2), (3, .int x3)] [] S 0 s_I (J_CR_takeSign_44 x1 x2 x3 S) := by
  unfold J_CR_takeSign_44
  refine jg_sg 2 (pc1 := 46) (lv1 := [(0, .ref 25), (1, .ref x1), (2, .int x2), (3, .int x3)]) (st1 := [.int 5, .int x2]) (fun _ _ _ => rfl) ?_
  refine jg_br (fun _ _ _ _ k1 k2 => jt_icmp_ne (t := 77) rfl rfl k2 k1) (fun c7 => ?_) (fun c7 => ?_)
  · refine jg_sg 2 (pc1 := 52) (lv1 := [(0, .ref 25), (1, .ref x1), (2, .int x2), (3, .int x3)]) (st1 := [.int 35, .ref 25]) (fun _ _ _ => rfl) ?_
    refine jg_csI (m2 := jp_T_take) (As := [.ref 25, .int 35]) (r := []) (mx := 2) (jh_v (a := 25) rfl rfl rfl kc_25 rfl (Nat.le_of_ble_eq_true rfl) rfl rfl rfl (by omega) (by omega) (Nat.le_of_ble_eq_true rfl)) (kF_T_take 35 S _ _ (by omega) (by omega) ) (fun z8 => ?_)
    refine jg_br (fun _ _ _ _ k1 k2 => jt_if_eq (t := 77) rfl rfl k1 k2) (fun c9 => ?_) (fun c9 => ?_)
    · refine jg_sg 1 (pc1 := 78) (lv1 := [(0, .ref 25), (1, .ref x1), (2, .int x2), (3, .int x3)]) (st1 := [.int 0]) (fun _ _ _ => rfl) ?_
      exact jg_ri rfl rfl rfl rfl
    · refine jg_sg 2 (pc1 := 61) (lv1 := [(0, .ref 25), (1, .ref x1), (2, .int x2), (3, .int x3)]) (st1 := [.int 6, .ref x1]) (fun _ _ _ => rfl) ?_
      refine jg_pi rfl (kc_C hx1) rfl (Nat.le_of_ble_eq_true rfl) rfl rfl (fun S10 _ => ?_)
      refine jg_sg 4 (pc1 := 68) (lv1 := [(0, .ref 25), (1, .ref x1), (2, .int x2), (3, .int x3)]) (st1 := [.int 5, .int 1, .ref 25, .ref x1]) (fun _ _ _ => rfl) ?_
      refine jg_csI (m2 := jp_T_number) (As := [.ref 25, .int 1, .int 5]) (r := [.ref x1]) (mx := 6) (jh_v (a := 25) rfl rfl rfl kc_25 rfl (Nat.le_of_ble_eq_true rfl) rfl rfl rfl (by omega) (by omega) (Nat.le_of_ble_eq_true rfl)) (kF_T_number 1 5 S10 _ _ (by omega) (by omega) ) (fun z11 => ?_)
      refine jg_pi rfl (kc_C hx1) rfl (Nat.le_of_ble_eq_true rfl) rfl rfl (fun S12 _ => ?_)
      refine jg_sg 1 (pc1 := 79) (lv1 := [(0, .ref 25), (1, .ref x1), (2, .int x2), (3, .int x3)]) (st1 := []) (fun _ _ _ => rfl) ?_
      refine jg_lvs (lv1 := [(1, .ref x1), (3, .int x3)]) rfl rfl ⟨rfl, rfl, trivial⟩ ?_
      exact kJ_CR_takeSign_79 (by omega) (by omega) x1 x3 S12 hx1
  · refine jg_sg 1 (pc1 := 78) (lv1 := [(0, .ref 25), (1, .ref x1), (2, .int x2), (3, .int x3)]) (st1 := [.int 0]) (fun _ _ _ => rfl) ?_
    exact jg_ri rfl rfl rfl rfl
noncomputable def J_CR_takeSign_22 (x1 : Nat) (x2 : Int32) (x3 : Int32) (S : jS) : Option (Int32 × jS) := if x2 = 5 then ((F_T_take 76 S).bind (fun z5 => if z5.1 = 0 then (J_CR_takeSign_44 x1 x2 x3 z5.2) else (j_l (w_i z5.2 x1 1 5) (fun S14 => J_CR_takeSign_79 x1 x3 S14)))) else (J_CR_takeSign_44 x1 x2 x3 S)
set_option maxRecDepth 20000 in
theorem kJ_CR_takeSign_22 {q rF rL : Nat} (hF : 2 ≤ rF) (hL : 46 ≤ rL)   (x1 : Nat) (x2 : Int32) (x3 : Int32) (S : jS) (hx1 : jc_ x1 = true) : jg q jp_CR_takeSign rF rL 22 [(0, .ref 25), (1, .ref x1), (2, .int x2), (3, .int x3)] [] S 0 s_I (J_CR_takeSign_22 x1 x2 x3 S) := by
  unfold J_CR_takeSign_22
  refine jg_sg 2 (pc1 := 24) (lv1 := [(0, .ref 25), (1, .ref x1), (2, .int x2), (3, .int x3)]) (st1 := [.int 5, .int x2]) (fun _ _ _ => rfl) ?_
  refine jg_br (fun _ _ _ _ k1 k2 => jt_icmp_ne (t := 44) rfl rfl k2 k1) (fun c4 => ?_) (fun c4 => ?_)
  · refine jg_sg 2 (pc1 := 30) (lv1 := [(0, .ref 25), (1, .ref x1), (2, .int x2), (3, .int x3)]) (st1 := [.int 76, .ref 25]) (fun _ _ _ => rfl) ?_
    refine jg_csI (m2 := jp_T_take) (As := [.ref 25, .int 76]) (r := []) (mx := 2) (jh_v (a := 25) rfl rfl rfl kc_25 rfl (Nat.le_of_ble_eq_true rfl) rfl rfl rfl (by omega) (by omega) (Nat.le_of_ble_eq_true rfl)) (kF_T_take 76 S _ _ (by omega) (by omega) ) (fun z5 => ?_)
    refine jg_br (fun _ _ _ _ k1 k2 => jt_if_eq (t := 44) rfl rfl k1 k2) (fun c6 => ?_) (fun c6 => ?_)
    · refine jg_lvs (lv1 := [(0, .ref 25), (1, .ref x1), (2, .int x2), (3, .int x3)]) rfl rfl ⟨rfl, rfl, rfl, rfl, trivial⟩ ?_
      exact kJ_CR_takeSign_44 (by omega) (by omega) x1 x2 x3 z5.2 hx1
    · refine jg_sg 2 (pc1 := 38) (lv1 := [(0, .ref 25), (1, .ref x1), (2, .int x2), (3, .int x3)]) (st1 := [.int 5, .ref x1]) (fun _ _ _ => rfl) ?_
      refine jg_pi rfl (kc_C hx1) rfl (Nat.le_of_ble_eq_true rfl) rfl rfl (fun S14 _ => ?_)
      refine jg_sg 1 (pc1 := 79) (lv1 := [(0, .ref 25), (1, .ref x1), (2, .int x2), (3, .int x3)]) (st1 := []) (fun _ _ _ => rfl) ?_
      refine jg_lvs (lv1 := [(1, .ref x1), (3, .int x3)]) rfl rfl ⟨rfl, rfl, trivial⟩ ?_
      exact kJ_CR_takeSign_79 (by omega) (by omega) x1 x3 S14 hx1
  · refine jg_lvs (lv1 := [(0, .ref 25), (1, .ref x1), (2, .int x2), (3, .int x3)]) rfl rfl ⟨rfl, rfl, rfl, rfl, trivial⟩ ?_
    exact kJ_CR_takeSign_44 (by omega) (by omega) x1 x2 x3 S hx1
noncomputable def F_CR_takeSign (a0 : Nat) (p0 : Int32) (p1 : Int32) (S : jS) : Option (Int32 × jS) := if p0 = 3 then ((F_T_take 87 S).bind (fun z2 => if z2.1 = 0 then (J_CR_takeSign_22 a0 p0 p1 z2.2) else (j_l (w_i z2.2 a0 1 4) (fun S15 => J_CR_takeSign_79 a0 p1 S15)))) else (J_CR_takeSign_22 a0 p0 p1 S)
set_option maxRecDepth 20000 in
theorem kF_CR_takeSign {q : Nat} (a0 : Nat) (p0 : Int32) (p1 : Int32) (S : jS) (rF rL : Nat) (hF : 2 ≤ rF) (hL : 46 ≤ rL) (ha0 : jc_ a0 = true) : jg q jp_CR_takeSign rF rL 0 [(0, .ref 25), (1, .ref a0), (2, .int p0), (3, .int p1)] [] S 0 s_I (F_CR_takeSign a0 p0 p1 S) := by
  unfold F_CR_takeSign
  refine jg_sg 2 (pc1 := 2) (lv1 := [(0, .ref 25), (1, .ref a0), (2, .int p0), (3, .int p1)]) (st1 := [.int 3, .int p0]) (fun _ _ _ => rfl) ?_
  refine jg_br (fun _ _ _ _ k1 k2 => jt_icmp_ne (t := 22) rfl rfl k2 k1) (fun c1 => ?_) (fun c1 => ?_)
  · refine jg_sg 2 (pc1 := 8) (lv1 := [(0, .ref 25), (1, .ref a0), (2, .int p0), (3, .int p1)]) (st1 := [.int 87, .ref 25]) (fun _ _ _ => rfl) ?_
    refine jg_csI (m2 := jp_T_take) (As := [.ref 25, .int 87]) (r := []) (mx := 2) (jh_v (a := 25) rfl rfl rfl kc_25 rfl (Nat.le_of_ble_eq_true rfl) rfl rfl rfl (by omega) (by omega) (Nat.le_of_ble_eq_true rfl)) (kF_T_take 87 S _ _ (by omega) (by omega) ) (fun z2 => ?_)
    refine jg_br (fun _ _ _ _ k1 k2 => jt_if_eq (t := 22) rfl rfl k1 k2) (fun c3 => ?_) (fun c3 => ?_)
    · refine jg_lvs (lv1 := [(0, .ref 25), (1, .ref a0), (2, .int p0), (3, .int p1)]) rfl rfl ⟨rfl, rfl, rfl, rfl, trivial⟩ ?_
      exact kJ_CR_takeSign_22 (by omega) (by omega) a0 p0 p1 z2.2 ha0
    · refine jg_sg 2 (pc1 := 16) (lv1 := [(0, .ref 25), (1, .ref a0), (2, .int p0), (3, .int p1)]) (st1 := [.int 4, .ref a0]) (fun _ _ _ => rfl) ?_
      refine jg_pi rfl (kc_C ha0) rfl (Nat.le_of_ble_eq_true rfl) rfl rfl (fun S15 _ => ?_)
      refine jg_sg 1 (pc1 := 79) (lv1 := [(0, .ref 25), (1, .ref a0), (2, .int p0), (3, .int p1)]) (st1 := []) (fun _ _ _ => rfl) ?_
      refine jg_lvs (lv1 := [(1, .ref a0), (3, .int p1)]) rfl rfl ⟨rfl, rfl, trivial⟩ ?_
      exact kJ_CR_takeSign_79 (by omega) (by omega) a0 p1 S15 ha0
  · refine jg_lvs (lv1 := [(0, .ref 25), (1, .ref a0), (2, .int p0), (3, .int p1)]) rfl rfl ⟨rfl, rfl, rfl, rfl, trivial⟩ ?_
    exact kJ_CR_takeSign_22 (by omega) (by omega) a0 p0 p1 S ha0
noncomputable def F_CR_readUpper (p0 : Int32) (p1 : Int32) (S : jS) : Option (Int32 × jS) := j_l (S.1 25 2 : Int32) (fun v1 => (F_CR_readValue p0 S).bind (fun z2 => if p0 = 6 then (if p1 ≤ z2.1 then (some (z2.1, z2.2)) else ((F_T_breakAt v1 z2.2).bind (fun z5 => some (z2.1, z5)))) else (some (z2.1, z2.2))))
set_option maxRecDepth 20000 in
theorem kF_CR_readUpper {q : Nat} (p0 : Int32) (p1 : Int32) (S : jS) (rF rL : Nat) (hF : 8 ≤ rF) (hL : 196 ≤ rL)  : jg q jp_CR_readUpper rF rL 0 [(0, .ref 25), (1, .int p0), (2, .int p1)] [] S 0 s_I (F_CR_readUpper p0 p1 S) := by
  unfold F_CR_readUpper
  refine jg_sg 1 (pc1 := 1) (lv1 := [(0, .ref 25), (1, .int p0), (2, .int p1)]) (st1 := [.ref 25]) (fun _ _ _ => rfl) ?_
  refine jg_g (v := .int (S.1 25 2)) rfl kc_25 rfl rfl ?_
  refine jg_sg 1 (pc1 := 5) (lv1 := [(3, .int (S.1 25 2)), (0, .ref 25), (1, .int p0), (2, .int p1)]) (st1 := []) (fun _ _ _ => rfl) ?_
  refine jg_vi (fun v1 => ?_)
  refine jg_sg 2 (pc1 := 7) (lv1 := [(3, .int v1), (0, .ref 25), (1, .int p0), (2, .int p1)]) (st1 := [.int p0, .ref 25]) (fun _ _ _ => rfl) ?_
  refine jg_csI (m2 := jp_CR_readValue) (As := [.ref 25, .int p0]) (r := []) (mx := 4) (jh_s rfl (fun _ _ _ => rfl) rfl rfl rfl (by omega) (by omega) (Nat.le_of_ble_eq_true rfl)) (kF_CR_readValue p0 S _ _ (by omega) (by omega) ) (fun z2 => ?_)
  refine jg_sg 3 (pc1 := 15) (lv1 := [(4, .int z2.1), (3, .int v1), (0, .ref 25), (1, .int p0), (2, .int p1)]) (st1 := [.int 6, .int p0]) (fun _ _ _ => rfl) ?_
  refine jg_br (fun _ _ _ _ k1 k2 => jt_icmp_ne (t := 29) rfl rfl k2 k1) (fun c3 => ?_) (fun c3 => ?_)
  · refine jg_sg 2 (pc1 := 21) (lv1 := [(4, .int z2.1), (3, .int v1), (0, .ref 25), (1, .int p0), (2, .int p1)]) (st1 := [.int p1, .int z2.1]) (fun _ _ _ => rfl) ?_
    refine jg_br (fun _ _ _ _ k1 k2 => jt_icmp_ge (t := 29) rfl rfl k1 k2) (fun c4 => ?_) (fun c4 => ?_)
    · refine jg_sg 1 (pc1 := 31) (lv1 := [(4, .int z2.1), (3, .int v1), (0, .ref 25), (1, .int p0), (2, .int p1)]) (st1 := [.int z2.1]) (fun _ _ _ => rfl) ?_
      exact jg_ri rfl rfl rfl rfl
    · refine jg_sg 2 (pc1 := 26) (lv1 := [(4, .int z2.1), (3, .int v1), (0, .ref 25), (1, .int p0), (2, .int p1)]) (st1 := [.int v1, .ref 25]) (fun _ _ _ => rfl) ?_
      refine jg_csV (m2 := jp_T_breakAt) (As := [.ref 25, .int v1]) (r := []) (mx := 2) (jh_v (a := 25) rfl rfl rfl kc_25 rfl (Nat.le_of_ble_eq_true rfl) rfl rfl rfl (by omega) (by omega) (Nat.le_of_ble_eq_true rfl)) (kF_T_breakAt v1 z2.2 _ _ (by omega) (by omega) ) (fun z5 => ?_)
      refine jg_sg 1 (pc1 := 31) (lv1 := [(4, .int z2.1), (3, .int v1), (0, .ref 25), (1, .int p0), (2, .int p1)]) (st1 := [.int z2.1]) (fun _ _ _ => rfl) ?_
      exact jg_ri rfl rfl rfl rfl
  · refine jg_sg 1 (pc1 := 31) (lv1 := [(4, .int z2.1), (3, .int v1), (0, .ref 25), (1, .int p0), (2, .int p1)]) (st1 := [.int z2.1]) (fun _ _ _ => rfl) ?_
    exact jg_ri rfl rfl rfl rfl
noncomputable def F_C_add (a0 : Nat) (p0 : Int32) (p1 : Int32) (S : jS) : Option jS := if p0 = 6 then (j_l (p1 - 1970 : Int32) (fun v2 => j_q (j_in (6 + (v2 / 64)) 12) (j_q (j_in (6 + (v2 / 64)) 12) (j_l (w_l S (a0 + 1) ((6 + (v2 / 64) : Int32).toNatClampNeg) ((S.2.1 (a0 + 1) ((6 + (v2 / 64) : Int32).toNatClampNeg)) ||| ((1 : Int64) <<< ((v2 - v2 / 64 * 64 : Int32).toInt64 &&& 63)))) (fun S5 => some S5))))) else (j_q (j_in p0 12) (j_q (j_in p0 12) (j_l (w_l S (a0 + 1) ((p0 : Int32).toNatClampNeg) ((S.2.1 (a0 + 1) ((p0 : Int32).toNatClampNeg)) ||| ((1 : Int64) <<< ((p1 : Int32).toInt64 &&& 63)))) (fun S8 => some S8))))
set_option maxRecDepth 20000 in
theorem kF_C_add {q : Nat} (a0 : Nat) (p0 : Int32) (p1 : Int32) (S : jS) (rF rL : Nat) (hF : 0 ≤ rF) (hL : 0 ≤ rL) (ha0 : jc_ a0 = true) : jg q jp_C_add rF rL 0 [(0, .ref a0), (1, .int p0), (2, .int p1)] [] S 0 s_V (F_C_add a0 p0 p1 S) := by
  unfold F_C_add
  refine jg_sg 2 (pc1 := 3) (lv1 := [(0, .ref a0), (1, .int p0), (2, .int p1)]) (st1 := [.int 6, .int p0]) (fun _ _ _ => rfl) ?_
  refine jg_br (fun _ _ _ _ k1 k2 => jt_icmp_ne (t := 36) rfl rfl k2 k1) (fun c1 => ?_) (fun c1 => ?_)
  · refine jg_sg 4 (pc1 := 12) (lv1 := [(3, .int (p1 - 1970)), (0, .ref a0), (1, .int p0), (2, .int p1)]) (st1 := []) (fun _ _ _ => rfl) ?_
    refine jg_vi (fun v2 => ?_)
    refine jg_sg 1 (pc1 := 13) (lv1 := [(3, .int v2), (0, .ref a0), (1, .int p0), (2, .int p1)]) (st1 := [.ref a0]) (fun _ _ _ => rfl) ?_
    refine jg_g (v := .ref (a0 + 1)) rfl (kc_C ha0) rfl rfl ?_
    refine jg_sg 3 (pc1 := 21) (lv1 := [(3, .int v2), (0, .ref a0), (1, .int p0), (2, .int p1)]) (st1 := [.int 64, .int v2, .int 6, .ref (a0 + 1)]) (fun _ _ _ => rfl) ?_
    refine jg_st (fun _ _ _ _ _ k => jt_idiv rfl (by decide +kernel) k) ?_
    refine jg_sg 2 (pc1 := 24) (lv1 := [(3, .int v2), (0, .ref a0), (1, .int p0), (2, .int p1)]) (st1 := [.int (6 + (v2 / 64)), .ref (a0 + 1), .int (6 + (v2 / 64)), .ref (a0 + 1)]) (fun _ _ _ => rfl) ?_
    refine jg_lal rfl (kc_CA ha0) (fun g3 => ?_)
    refine jg_sg 3 (pc1 := 29) (lv1 := [(3, .int v2), (0, .ref a0), (1, .int p0), (2, .int p1)]) (st1 := [.int 64, .int v2, .long 1, .long (S.2.1 (a0 + 1) ((6 + (v2 / 64) : Int32).toNatClampNeg)), .int (6 + (v2 / 64)), .ref (a0 + 1)]) (fun _ _ _ => rfl) ?_
    refine jg_st (fun _ _ _ _ _ k => jt_irem rfl (by decide +kernel) k) ?_
    refine jg_sg 2 (pc1 := 32) (lv1 := [(3, .int v2), (0, .ref a0), (1, .int p0), (2, .int p1)]) (st1 := [.long ((S.2.1 (a0 + 1) ((6 + (v2 / 64) : Int32).toNatClampNeg)) ||| ((1 : Int64) <<< ((v2 - v2 / 64 * 64 : Int32).toInt64 &&& 63))), .int (6 + (v2 / 64)), .ref (a0 + 1)]) (fun _ _ _ => rfl) ?_
    refine jg_las rfl (kc_CA ha0) (fun g4 S5 _ => ?_)
    refine jg_sg 1 (pc1 := 48) (lv1 := [(3, .int v2), (0, .ref a0), (1, .int p0), (2, .int p1)]) (st1 := []) (fun _ _ _ => rfl) ?_
    exact jg_rv rfl rfl rfl
  · refine jg_sg 1 (pc1 := 37) (lv1 := [(0, .ref a0), (1, .int p0), (2, .int p1)]) (st1 := [.ref a0]) (fun _ _ _ => rfl) ?_
    refine jg_g (v := .ref (a0 + 1)) rfl (kc_C ha0) rfl rfl ?_
    refine jg_sg 2 (pc1 := 42) (lv1 := [(0, .ref a0), (1, .int p0), (2, .int p1)]) (st1 := [.int p0, .ref (a0 + 1), .int p0, .ref (a0 + 1)]) (fun _ _ _ => rfl) ?_
    refine jg_lal rfl (kc_CA ha0) (fun g6 => ?_)
    refine jg_sg 4 (pc1 := 47) (lv1 := [(0, .ref a0), (1, .int p0), (2, .int p1)]) (st1 := [.long ((S.2.1 (a0 + 1) ((p0 : Int32).toNatClampNeg)) ||| ((1 : Int64) <<< ((p1 : Int32).toInt64 &&& 63))), .int p0, .ref (a0 + 1)]) (fun _ _ _ => rfl) ?_
    refine jg_las rfl (kc_CA ha0) (fun g7 S8 _ => ?_)
    exact jg_rv rfl rfl rfl
noncomputable def F_Math_max (p0 : Int32) (p1 : Int32) (S : jS) : Option Int32 := if p0 < p1 then (some p1) else (some p0)
set_option maxRecDepth 20000 in
theorem kF_Math_max {q : Nat} (p0 : Int32) (p1 : Int32) (S : jS) (rF rL : Nat) (hF : 0 ≤ rF) (hL : 0 ≤ rL)  : jg q jp_Math_max rF rL 0 [(0, .int p0), (1, .int p1)] [] S 0 (p_I S) (F_Math_max p0 p1 S) := by
  unfold F_Math_max
  refine jg_sg 2 (pc1 := 2) (lv1 := [(0, .int p0), (1, .int p1)]) (st1 := [.int p1, .int p0]) (fun _ _ _ => rfl) ?_
  refine jg_br (fun _ _ _ _ k1 k2 => jt_icmp_lt (t := 9) rfl rfl k1 k2) (fun c1 => ?_) (fun c1 => ?_)
  · refine jg_sg 1 (pc1 := 10) (lv1 := [(0, .int p0), (1, .int p1)]) (st1 := [.int p1]) (fun _ _ _ => rfl) ?_
    exact jg_ri rfl rfl rfl rfl
  · refine jg_sg 2 (pc1 := 10) (lv1 := [(0, .int p0), (1, .int p1)]) (st1 := [.int p0]) (fun _ _ _ => rfl) ?_
    exact jg_ri rfl rfl rfl rfl
noncomputable def J_CR_addSome_75 (kt43 : Nat → Int32 → Int32 → Int32 → Int32 → Int32 → Int32 → Int32 → jS → Option jS) (x0 : Nat) (x1 : Int32) (x2 : Int32) (x4 : Int32) (x6 : Int32) (x7 : Int32) (x8 : Int32) (x9 : Int32) (y0 : Int32) (y1 : Int32) (y2 : Nat) (S : jS) : Option jS := (F_C_add y2 y1 y0 S).bind (fun z9 => (F_Math_max x4 1 z9).bind (fun z10 => j_l (x9 + z10 : Int32) (fun v11 => kt43 x0 x1 x2 x4 x6 x7 x8 v11 z9)))
set_option maxRecDepth 20000 in
theorem kJ_CR_addSome_75 {q rF rL : Nat} (hF : 1 ≤ rF) (hL : 23 ≤ rL)  (kt43 : Nat → Int32 → Int32 → Int32 → Int32 → Int32 → Int32 → Int32 → jS → Option jS) (ih43 : ∀ (x0 : Nat) (x1 : Int32) (x2 : Int32) (x4 : Int32) (x6 : Int32) (x7 : Int32) (x8 : Int32) (x9 : Int32) (S : jS), jc_ x0 = true → jg q jp_CR_addSome rF rL 43 [(0, .ref x0), (1, .int x1), (2, .int x2), (4, .int x4), (6, .int x6), (7, .int x7), (8, .int x8), (9, .int x9)] [] S 0 s_V (kt43 x0 x1 x2 x4 x6 x7 x8 x9 S)) (x0 : Nat) (x1 : Int32) (x2 : Int32) (x4 : Int32) (x6 : Int32) (x7 : Int32) (x8 : Int32) (x9 : Int32) (y0 : Int32) (y1 : Int32) (y2 : Nat) (S : jS) (hx0 : jc_ x0 = true) (hy2 : jc_ y2 = true) : jg q jp_CR_addSome rF rL 75 [(0, .ref x0), (1, .int x1), (2, .int x2), (4, .int x4), (6, .int x6), (7, .int x7), (8, .int x8), (9, .int x9)] [.int y0, .int y1, .ref y2] S 0 s_V (J_CR_addSome_75 kt43 x0 x1 x2 x4 x6 x7 x8 x9 y0 y1 y2 S) := by
  unfold J_CR_addSome_75
  refine jg_csV (m2 := jp_C_add) (As := [.ref y2, .int y1, .int y0]) (r := []) (mx := 4) (jh_v (a := y2) rfl rfl rfl (kc_C hy2) rfl (Nat.le_of_ble_eq_true rfl) rfl rfl rfl (by omega) (by omega) (Nat.le_of_ble_eq_true rfl)) (kF_C_add y2 y1 y0 S _ _ (by omega) (by omega) hy2) (fun z9 => ?_)
  refine jg_sg 3 (pc1 := 83) (lv1 := [(0, .ref x0), (1, .int x1), (2, .int x2), (4, .int x4), (6, .int x6), (7, .int x7), (8, .int x8), (9, .int x9)]) (st1 := [.int 1, .int x4, .int x9]) (fun _ _ _ => rfl) ?_
  refine jg_cpI (m2 := jp_Math_max) (As := [.int x4, .int 1]) (r := [.int x9]) (mx := 2) (jh_s rfl (fun _ _ _ => rfl) rfl rfl rfl (by omega) (by omega) (Nat.le_of_ble_eq_true rfl)) (kF_Math_max x4 1 z9 _ _ (by omega) (by omega) ) (fun z10 => ?_)
  refine jg_sg 2 (pc1 := 89) (lv1 := [(9, .int (x9 + z10)), (0, .ref x0), (1, .int x1), (2, .int x2), (4, .int x4), (6, .int x6), (7, .int x7), (8, .int x8)]) (st1 := []) (fun _ _ _ => rfl) ?_
  refine jg_vi (fun v11 => ?_)
  refine jg_sg 1 (pc1 := 43) (lv1 := [(9, .int v11), (0, .ref x0), (1, .int x1), (2, .int x2), (4, .int x4), (6, .int x6), (7, .int x7), (8, .int x8)]) (st1 := []) (fun _ _ _ => rfl) ?_
  refine jg_lvs (lv1 := [(0, .ref x0), (1, .int x1), (2, .int x2), (4, .int x4), (6, .int x6), (7, .int x7), (8, .int x8), (9, .int v11)]) rfl rfl ⟨rfl, rfl, rfl, rfl, rfl, rfl, rfl, rfl, trivial⟩ ?_
  exact ih43 x0 x1 x2 x4 x6 x7 x8 v11 z9 hx0
noncomputable def L_CR_addSome_43  : Nat → Nat → Int32 → Int32 → Int32 → Int32 → Int32 → Int32 → Int32 → jS → Option jS
  | 0, _, _, _, _, _, _, _, _, _ => none
  | f + 1, x0, x1, x2, x4, x6, x7, x8, x9, S => if x8 < x9 then (some S) else (j_l (x2 + x9 : Int32) (fun v7 => if v7 ≤ x6 then (J_CR_addSome_75 (L_CR_addSome_43 f) x0 x1 x2 x4 x6 x7 x8 x9 v7 x1 x0 S) else (J_CR_addSome_75 (L_CR_addSome_43 f) x0 x1 x2 x4 x6 x7 x8 x9 (v7 - x7) x1 x0 S)))
set_option maxRecDepth 20000 in
theorem kL_CR_addSome_43 {q rF rL : Nat} (hF : 1 ≤ rF) (hL : 23 ≤ rL)   : ∀ (f : Nat) (x0 : Nat) (x1 : Int32) (x2 : Int32) (x4 : Int32) (x6 : Int32) (x7 : Int32) (x8 : Int32) (x9 : Int32) (S : jS), jc_ x0 = true → jg q jp_CR_addSome rF rL 43 [(0, .ref x0), (1, .int x1), (2, .int x2), (4, .int x4), (6, .int x6), (7, .int x7), (8, .int x8), (9, .int x9)] [] S 0 s_V (L_CR_addSome_43 f x0 x1 x2 x4 x6 x7 x8 x9 S) := by
  intro f
  induction f with
  | zero => intro _ _ _ _ _ _ _ _ _ _; exact jg_none
  | succ f ih43 =>
    intro x0 x1 x2 x4 x6 x7 x8 x9 S hx0
    rw [L_CR_addSome_43]
    refine jg_sg 2 (pc1 := 47) (lv1 := [(0, .ref x0), (1, .int x1), (2, .int x2), (4, .int x4), (6, .int x6), (7, .int x7), (8, .int x8), (9, .int x9)]) (st1 := [.int x8, .int x9]) (fun _ _ _ => rfl) ?_
    refine jg_br (fun _ _ _ _ k1 k2 => jt_icmp_gt (t := 92) rfl rfl k1 k2) (fun c6 => ?_) (fun c6 => ?_)
    · exact jg_rv rfl rfl rfl
    · refine jg_sg 4 (pc1 := 56) (lv1 := [(10, .int (x2 + x9)), (0, .ref x0), (1, .int x1), (2, .int x2), (4, .int x4), (6, .int x6), (7, .int x7), (8, .int x8), (9, .int x9)]) (st1 := []) (fun _ _ _ => rfl) ?_
      refine jg_vi (fun v7 => ?_)
      refine jg_sg 4 (pc1 := 62) (lv1 := [(10, .int v7), (0, .ref x0), (1, .int x1), (2, .int x2), (4, .int x4), (6, .int x6), (7, .int x7), (8, .int x8), (9, .int x9)]) (st1 := [.int x6, .int v7, .int x1, .ref x0]) (fun _ _ _ => rfl) ?_
      refine jg_br (fun _ _ _ _ k1 k2 => jt_icmp_le (t := 73) rfl rfl k1 k2) (fun c8 => ?_) (fun c8 => ?_)
      · refine jg_sg 1 (pc1 := 75) (lv1 := [(10, .int v7), (0, .ref x0), (1, .int x1), (2, .int x2), (4, .int x4), (6, .int x6), (7, .int x7), (8, .int x8), (9, .int x9)]) (st1 := [.int v7, .int x1, .ref x0]) (fun _ _ _ => rfl) ?_
        refine jg_lvs (lv1 := [(0, .ref x0), (1, .int x1), (2, .int x2), (4, .int x4), (6, .int x6), (7, .int x7), (8, .int x8), (9, .int x9)]) rfl rfl ⟨rfl, rfl, rfl, rfl, rfl, rfl, rfl, rfl, trivial⟩ ?_
        exact kJ_CR_addSome_75 (by omega) (by omega) (L_CR_addSome_43 f) ih43 x0 x1 x2 x4 x6 x7 x8 x9 v7 x1 x0 S hx0 hx0
      · refine jg_sg 4 (pc1 := 75) (lv1 := [(10, .int v7), (0, .ref x0), (1, .int x1), (2, .int x2), (4, .int x4), (6, .int x6), (7, .int x7), (8, .int x8), (9, .int x9)]) (st1 := [.int (v7 - x7), .int x1, .ref x0]) (fun _ _ _ => rfl) ?_
        refine jg_lvs (lv1 := [(0, .ref x0), (1, .int x1), (2, .int x2), (4, .int x4), (6, .int x6), (7, .int x7), (8, .int x8), (9, .int x9)]) rfl rfl ⟨rfl, rfl, rfl, rfl, rfl, rfl, rfl, rfl, trivial⟩ ?_
        exact kJ_CR_addSome_75 (by omega) (by omega) (L_CR_addSome_43 f) ih43 x0 x1 x2 x4 x6 x7 x8 x9 (v7 - x7) x1 x0 S hx0 hx0
noncomputable def F_CR_addSome (a0 : Nat) (p0 : Int32) (p1 : Int32) (p2 : Int32) (p3 : Int32) (S : jS) : Option jS := (F_C_lowest p0 S).bind (fun z1 => (F_C_highest p0 S).bind (fun z2 => j_l ((z2 - z1) + 1 : Int32) (fun v3 => if p1 ≤ p2 then (j_l (p2 - p1 : Int32) (fun v5 => L_CR_addSome_43 ju_ a0 p0 p1 p3 z2 v3 v5 0 S)) else (j_l ((p2 - p1) + v3 : Int32) (fun v12 => L_CR_addSome_43 ju_ a0 p0 p1 p3 z2 v3 v12 0 S)))))
set_option maxRecDepth 20000 in
theorem kF_CR_addSome {q : Nat} (a0 : Nat) (p0 : Int32) (p1 : Int32) (p2 : Int32) (p3 : Int32) (S : jS) (rF rL : Nat) (hF : 1 ≤ rF) (hL : 23 ≤ rL) (ha0 : jc_ a0 = true) : jg q jp_CR_addSome rF rL 0 [(0, .ref a0), (1, .int p0), (2, .int p1), (3, .int p2), (4, .int p3)] [] S 0 s_V (F_CR_addSome a0 p0 p1 p2 p3 S) := by
  unfold F_CR_addSome
  refine jg_sg 1 (pc1 := 1) (lv1 := [(0, .ref a0), (1, .int p0), (2, .int p1), (3, .int p2), (4, .int p3)]) (st1 := [.int p0]) (fun _ _ _ => rfl) ?_
  refine jg_cpI (m2 := jp_C_lowest) (As := [.int p0]) (r := []) (mx := 1) (jh_s rfl (fun _ _ _ => rfl) rfl rfl rfl (by omega) (by omega) (Nat.le_of_ble_eq_true rfl)) (kF_C_lowest p0 S _ _ (by omega) (by omega) ) (fun z1 => ?_)
  refine jg_sg 2 (pc1 := 7) (lv1 := [(5, .int z1), (0, .ref a0), (1, .int p0), (2, .int p1), (3, .int p2), (4, .int p3)]) (st1 := [.int p0]) (fun _ _ _ => rfl) ?_
  refine jg_cpI (m2 := jp_C_highest) (As := [.int p0]) (r := []) (mx := 1) (jh_s rfl (fun _ _ _ => rfl) rfl rfl rfl (by omega) (by omega) (Nat.le_of_ble_eq_true rfl)) (kF_C_highest p0 S _ _ (by omega) (by omega) ) (fun z2 => ?_)
  refine jg_sg 7 (pc1 := 21) (lv1 := [(7, .int ((z2 - z1) + 1)), (6, .int z2), (5, .int z1), (0, .ref a0), (1, .int p0), (2, .int p1), (3, .int p2), (4, .int p3)]) (st1 := []) (fun _ _ _ => rfl) ?_
  refine jg_vi (fun v3 => ?_)
  refine jg_sg 2 (pc1 := 23) (lv1 := [(7, .int v3), (6, .int z2), (5, .int z1), (0, .ref a0), (1, .int p0), (2, .int p1), (3, .int p2), (4, .int p3)]) (st1 := [.int p1, .int p2]) (fun _ _ _ => rfl) ?_
  refine jg_br (fun _ _ _ _ k1 k2 => jt_icmp_ge (t := 35) rfl rfl k1 k2) (fun c4 => ?_) (fun c4 => ?_)
  · refine jg_sg 4 (pc1 := 40) (lv1 := [(8, .int (p2 - p1)), (7, .int v3), (6, .int z2), (5, .int z1), (0, .ref a0), (1, .int p0), (2, .int p1), (3, .int p2), (4, .int p3)]) (st1 := []) (fun _ _ _ => rfl) ?_
    refine jg_vi (fun v5 => ?_)
    refine jg_sg 2 (pc1 := 43) (lv1 := [(9, .int 0), (8, .int v5), (7, .int v3), (6, .int z2), (5, .int z1), (0, .ref a0), (1, .int p0), (2, .int p1), (3, .int p2), (4, .int p3)]) (st1 := []) (fun _ _ _ => rfl) ?_
    refine jg_lvs (lv1 := [(0, .ref a0), (1, .int p0), (2, .int p1), (4, .int p3), (6, .int z2), (7, .int v3), (8, .int v5), (9, .int 0)]) rfl rfl ⟨rfl, rfl, rfl, rfl, rfl, rfl, rfl, rfl, trivial⟩ ?_
    exact kL_CR_addSome_43 (by omega) (by omega) ju_ a0 p0 p1 p3 z2 v3 v5 0 S ha0
  · refine jg_sg 7 (pc1 := 40) (lv1 := [(8, .int ((p2 - p1) + v3)), (7, .int v3), (6, .int z2), (5, .int z1), (0, .ref a0), (1, .int p0), (2, .int p1), (3, .int p2), (4, .int p3)]) (st1 := []) (fun _ _ _ => rfl) ?_
    refine jg_vi (fun v12 => ?_)
    refine jg_sg 2 (pc1 := 43) (lv1 := [(9, .int 0), (8, .int v12), (7, .int v3), (6, .int z2), (5, .int z1), (0, .ref a0), (1, .int p0), (2, .int p1), (3, .int p2), (4, .int p3)]) (st1 := []) (fun _ _ _ => rfl) ?_
    refine jg_lvs (lv1 := [(0, .ref a0), (1, .int p0), (2, .int p1), (4, .int p3), (6, .int z2), (7, .int v3), (8, .int v12), (9, .int 0)]) rfl rfl ⟨rfl, rfl, rfl, rfl, rfl, rfl, rfl, rfl, trivial⟩ ?_
    exact kL_CR_addSome_43 (by omega) (by omega) ju_ a0 p0 p1 p3 z2 v3 v12 0 S ha0
noncomputable def J_CR_readItem_97 (x1 : Nat) (x2 : Int32) (x4 : Int32) (x5 : Int32) (y0 : Int32) (S : jS) : Option (Int32 × jS) := (F_CR_addSome x1 x2 x4 x5 y0 S).bind (fun z11 => some (1, z11))
set_option maxRecDepth 20000 in
theorem kJ_CR_readItem_97 {q rF rL : Nat} (hF : 9 ≤ rF) (hL : 220 ≤ rL)   (x1 : Nat) (x2 : Int32) (x4 : Int32) (x5 : Int32) (y0 : Int32) (S : jS) (hx1 : jc_ x1 = true) : jg q jp_CR_readItem rF rL 97 [(1, .ref x1), (2, .int x2), (4, .int x4), (5, .int x5)] [.int y0] S 0 s_I (J_CR_readItem_97 x1 x2 x4 x5 y0 S) := by
  unfold J_CR_readItem_97
  refine jg_sg 6 (pc1 := 107) (lv1 := [(6, .int y0), (1, .ref x1), (2, .int x2), (4, .int x4), (5, .int x5)]) (st1 := [.int y0, .int x5, .int x4, .int x2, .ref x1]) (fun _ _ _ => rfl) ?_
  refine jg_csV (m2 := jp_CR_addSome) (As := [.ref x1, .int x2, .int x4, .int x5, .int y0]) (r := []) (mx := 11) (jh_s rfl (fun _ _ _ => rfl) rfl rfl rfl (by omega) (by omega) (Nat.le_of_ble_eq_true rfl)) (kF_CR_addSome x1 x2 x4 x5 y0 S _ _ (by omega) (by omega) hx1) (fun z11 => ?_)
  refine jg_sg 1 (pc1 := 111) (lv1 := [(6, .int y0), (1, .ref x1), (2, .int x2), (4, .int x4), (5, .int x5)]) (st1 := [.int 1]) (fun _ _ _ => rfl) ?_
  exact jg_ri rfl rfl rfl rfl
noncomputable def J_CR_readItem_77 (x1 : Nat) (x2 : Int32) (x4 : Int32) (x5 : Int32) (S : jS) : Option (Int32 × jS) := (F_T_take 47 S).bind (fun z9 => if z9.1 = 0 then (J_CR_readItem_97 x1 x2 x4 x5 1 z9.2) else ((F_T_number 1 99 z9.2).bind (fun z12 => J_CR_readItem_97 x1 x2 x4 x5 z12.1 z12.2)))
set_option maxRecDepth 20000 in
theorem kJ_CR_readItem_77 {q rF rL : Nat} (hF : 9 ≤ rF) (hL : 220 ≤ rL)   (x1 : Nat) (x2 : Int32) (x4 : Int32) (x5 : Int32) (S : jS) (hx1 : jc_ x1 = true) : jg q jp_CR_readItem rF rL 77 [(0, .ref 25), (1, .ref x1), (2, .int x2), (4, .int x4), (5, .int x5)] [] S 0 s_I (J_CR_readItem_77 x1 x2 x4 x5 S) := by
  unfold J_CR_readItem_77
  refine jg_sg 2 (pc1 := 80) (lv1 := [(0, .ref 25), (1, .ref x1), (2, .int x2), (4, .int x4), (5, .int x5)]) (st1 := [.int 47, .ref 25]) (fun _ _ _ => rfl) ?_
  refine jg_csI (m2 := jp_T_take) (As := [.ref 25, .int 47]) (r := []) (mx := 2) (jh_v (a := 25) rfl rfl rfl kc_25 rfl (Nat.le_of_ble_eq_true rfl) rfl rfl rfl (by omega) (by omega) (Nat.le_of_ble_eq_true rfl)) (kF_T_take 47 S _ _ (by omega) (by omega) ) (fun z9 => ?_)
  refine jg_br (fun _ _ _ _ k1 k2 => jt_if_eq (t := 96) rfl rfl k1 k2) (fun c10 => ?_) (fun c10 => ?_)
  · refine jg_sg 1 (pc1 := 97) (lv1 := [(0, .ref 25), (1, .ref x1), (2, .int x2), (4, .int x4), (5, .int x5)]) (st1 := [.int 1]) (fun _ _ _ => rfl) ?_
    refine jg_lvs (lv1 := [(1, .ref x1), (2, .int x2), (4, .int x4), (5, .int x5)]) rfl rfl ⟨rfl, rfl, rfl, rfl, trivial⟩ ?_
    exact kJ_CR_readItem_97 (by omega) (by omega) x1 x2 x4 x5 1 z9.2 hx1
  · refine jg_sg 3 (pc1 := 90) (lv1 := [(0, .ref 25), (1, .ref x1), (2, .int x2), (4, .int x4), (5, .int x5)]) (st1 := [.int 99, .int 1, .ref 25]) (fun _ _ _ => rfl) ?_
    refine jg_csI (m2 := jp_T_number) (As := [.ref 25, .int 1, .int 99]) (r := []) (mx := 6) (jh_v (a := 25) rfl rfl rfl kc_25 rfl (Nat.le_of_ble_eq_true rfl) rfl rfl rfl (by omega) (by omega) (Nat.le_of_ble_eq_true rfl)) (kF_T_number 1 99 z9.2 _ _ (by omega) (by omega) ) (fun z12 => ?_)
    refine jg_sg 1 (pc1 := 97) (lv1 := [(0, .ref 25), (1, .ref x1), (2, .int x2), (4, .int x4), (5, .int x5)]) (st1 := [.int z12.1]) (fun _ _ _ => rfl) ?_
    refine jg_lvs (lv1 := [(1, .ref x1), (2, .int x2), (4, .int x4), (5, .int x5)]) rfl rfl ⟨rfl, rfl, rfl, rfl, trivial⟩ ?_
    exact kJ_CR_readItem_97 (by omega) (by omega) x1 x2 x4 x5 z12.1 z12.2 hx1
noncomputable def J_CR_readItem_75 (x1 : Nat) (x2 : Int32) (x4 : Int32) (y0 : Int32) (S : jS) : Option (Int32 × jS) := J_CR_readItem_77 x1 x2 x4 y0 S
set_option maxRecDepth 20000 in
theorem kJ_CR_readItem_75 {q rF rL : Nat} (hF : 9 ≤ rF) (hL : 220 ≤ rL)   (x1 : Nat) (x2 : Int32) (x4 : Int32) (y0 : Int32) (S : jS) (hx1 : jc_ x1 = true) : jg q jp_CR_readItem rF rL 75 [(0, .ref 25), (1, .ref x1), (2, .int x2), (4, .int x4)] [.int y0] S 0 s_I (J_CR_readItem_75 x1 x2 x4 y0 S) := by
  unfold J_CR_readItem_75
  refine jg_sg 1 (pc1 := 77) (lv1 := [(5, .int y0), (0, .ref 25), (1, .ref x1), (2, .int x2), (4, .int x4)]) (st1 := []) (fun _ _ _ => rfl) ?_
  refine jg_lvs (lv1 := [(0, .ref 25), (1, .ref x1), (2, .int x2), (4, .int x4), (5, .int y0)]) rfl rfl ⟨rfl, rfl, rfl, rfl, rfl, trivial⟩ ?_
  exact kJ_CR_readItem_77 (by omega) (by omega) x1 x2 x4 y0 S hx1
noncomputable def J_CR_readItem_45 (x1 : Nat) (x2 : Int32) (x4 : Int32) (x5 : Int32) (S : jS) : Option (Int32 × jS) := (F_T_peek S).bind (fun z7 => if z7 = 47 then (J_CR_readItem_77 x1 x2 x4 x5 S) else ((F_T_take 45 S).bind (fun z13 => if z13.1 = 0 then (J_CR_readItem_75 x1 x2 x4 x4 z13.2) else ((F_CR_readUpper x2 x4 z13.2).bind (fun z15 => J_CR_readItem_75 x1 x2 x4 z15.1 z15.2)))))
set_option maxRecDepth 20000 in
theorem kJ_CR_readItem_45 {q rF rL : Nat} (hF : 9 ≤ rF) (hL : 220 ≤ rL)   (x1 : Nat) (x2 : Int32) (x4 : Int32) (x5 : Int32) (S : jS) (hx1 : jc_ x1 = true) : jg q jp_CR_readItem rF rL 45 [(0, .ref 25), (1, .ref x1), (2, .int x2), (4, .int x4), (5, .int x5)] [] S 0 s_I (J_CR_readItem_45 x1 x2 x4 x5 S) := by
  unfold J_CR_readItem_45
  refine jg_sg 1 (pc1 := 46) (lv1 := [(0, .ref 25), (1, .ref x1), (2, .int x2), (4, .int x4), (5, .int x5)]) (st1 := [.ref 25]) (fun _ _ _ => rfl) ?_
  refine jg_cpI (m2 := jp_T_peek) (As := [.ref 25]) (r := []) (mx := 1) (jh_v (a := 25) rfl rfl rfl kc_25 rfl (Nat.le_of_ble_eq_true rfl) rfl rfl rfl (by omega) (by omega) (Nat.le_of_ble_eq_true rfl)) (kF_T_peek S _ _ (by omega) (by omega) ) (fun z7 => ?_)
  refine jg_sg 1 (pc1 := 51) (lv1 := [(0, .ref 25), (1, .ref x1), (2, .int x2), (4, .int x4), (5, .int x5)]) (st1 := [.int 47, .int z7]) (fun _ _ _ => rfl) ?_
  refine jg_br (fun _ _ _ _ k1 k2 => jt_icmp_eq (t := 77) rfl rfl k1 k2) (fun c8 => ?_) (fun c8 => ?_)
  · refine jg_lvs (lv1 := [(0, .ref 25), (1, .ref x1), (2, .int x2), (4, .int x4), (5, .int x5)]) rfl rfl ⟨rfl, rfl, rfl, rfl, rfl, trivial⟩ ?_
    exact kJ_CR_readItem_77 (by omega) (by omega) x1 x2 x4 x5 S hx1
  · refine jg_sg 2 (pc1 := 57) (lv1 := [(0, .ref 25), (1, .ref x1), (2, .int x2), (4, .int x4), (5, .int x5)]) (st1 := [.int 45, .ref 25]) (fun _ _ _ => rfl) ?_
    refine jg_csI (m2 := jp_T_take) (As := [.ref 25, .int 45]) (r := []) (mx := 2) (jh_v (a := 25) rfl rfl rfl kc_25 rfl (Nat.le_of_ble_eq_true rfl) rfl rfl rfl (by omega) (by omega) (Nat.le_of_ble_eq_true rfl)) (kF_T_take 45 S _ _ (by omega) (by omega) ) (fun z13 => ?_)
    refine jg_br (fun _ _ _ _ k1 k2 => jt_if_eq (t := 73) rfl rfl k1 k2) (fun c14 => ?_) (fun c14 => ?_)
    · refine jg_sg 1 (pc1 := 75) (lv1 := [(0, .ref 25), (1, .ref x1), (2, .int x2), (4, .int x4), (5, .int x5)]) (st1 := [.int x4]) (fun _ _ _ => rfl) ?_
      refine jg_lvs (lv1 := [(0, .ref 25), (1, .ref x1), (2, .int x2), (4, .int x4)]) rfl rfl ⟨rfl, rfl, rfl, rfl, trivial⟩ ?_
      exact kJ_CR_readItem_75 (by omega) (by omega) x1 x2 x4 x4 z13.2 hx1
    · refine jg_sg 3 (pc1 := 67) (lv1 := [(0, .ref 25), (1, .ref x1), (2, .int x2), (4, .int x4), (5, .int x5)]) (st1 := [.int x4, .int x2, .ref 25]) (fun _ _ _ => rfl) ?_
      refine jg_csI (m2 := jp_CR_readUpper) (As := [.ref 25, .int x2, .int x4]) (r := []) (mx := 5) (jh_s rfl (fun _ _ _ => rfl) rfl rfl rfl (by omega) (by omega) (Nat.le_of_ble_eq_true rfl)) (kF_CR_readUpper x2 x4 z13.2 _ _ (by omega) (by omega) ) (fun z15 => ?_)
      refine jg_sg 1 (pc1 := 75) (lv1 := [(0, .ref 25), (1, .ref x1), (2, .int x2), (4, .int x4), (5, .int x5)]) (st1 := [.int z15.1]) (fun _ _ _ => rfl) ?_
      refine jg_lvs (lv1 := [(0, .ref 25), (1, .ref x1), (2, .int x2), (4, .int x4)]) rfl rfl ⟨rfl, rfl, rfl, rfl, trivial⟩ ?_
      exact kJ_CR_readItem_75 (by omega) (by omega) x1 x2 x4 z15.1 z15.2 hx1
noncomputable def F_CR_readItem (a0 : Nat) (p0 : Int32) (p1 : Int32) (S : jS) : Option (Int32 × jS) := (F_C_lowest p0 S).bind (fun z1 => (F_C_highest p0 S).bind (fun z2 => (F_T_take 42 S).bind (fun z3 => if z3.1 = 0 then ((F_CR_readValue p0 z3.2).bind (fun z5 => if p1 = 0 then (J_CR_readItem_45 a0 p0 z5.1 z2 z5.2) else ((F_CR_takeSign a0 p0 z5.1 z5.2).bind (fun z16 => if z16.1 = 0 then (J_CR_readItem_45 a0 p0 z5.1 z2 z16.2) else (some (0, z16.2)))))) else (J_CR_readItem_77 a0 p0 z1 z2 z3.2))))
set_option maxRecDepth 20000 in
theorem kF_CR_readItem {q : Nat} (a0 : Nat) (p0 : Int32) (p1 : Int32) (S : jS) (rF rL : Nat) (hF : 9 ≤ rF) (hL : 220 ≤ rL) (ha0 : jc_ a0 = true) : jg q jp_CR_readItem rF rL 0 [(0, .ref 25), (1, .ref a0), (2, .int p0), (3, .int p1)] [] S 0 s_I (F_CR_readItem a0 p0 p1 S) := by
  unfold F_CR_readItem
  refine jg_sg 1 (pc1 := 1) (lv1 := [(0, .ref 25), (1, .ref a0), (2, .int p0), (3, .int p1)]) (st1 := [.int p0]) (fun _ _ _ => rfl) ?_
  refine jg_cpI (m2 := jp_C_lowest) (As := [.int p0]) (r := []) (mx := 1) (jh_s rfl (fun _ _ _ => rfl) rfl rfl rfl (by omega) (by omega) (Nat.le_of_ble_eq_true rfl)) (kF_C_lowest p0 S _ _ (by omega) (by omega) ) (fun z1 => ?_)
  refine jg_sg 2 (pc1 := 7) (lv1 := [(4, .int z1), (0, .ref 25), (1, .ref a0), (2, .int p0), (3, .int p1)]) (st1 := [.int p0]) (fun _ _ _ => rfl) ?_
  refine jg_cpI (m2 := jp_C_highest) (As := [.int p0]) (r := []) (mx := 1) (jh_s rfl (fun _ _ _ => rfl) rfl rfl rfl (by omega) (by omega) (Nat.le_of_ble_eq_true rfl)) (kF_C_highest p0 S _ _ (by omega) (by omega) ) (fun z2 => ?_)
  refine jg_sg 3 (pc1 := 15) (lv1 := [(5, .int z2), (4, .int z1), (0, .ref 25), (1, .ref a0), (2, .int p0), (3, .int p1)]) (st1 := [.int 42, .ref 25]) (fun _ _ _ => rfl) ?_
  refine jg_csI (m2 := jp_T_take) (As := [.ref 25, .int 42]) (r := []) (mx := 2) (jh_v (a := 25) rfl rfl rfl kc_25 rfl (Nat.le_of_ble_eq_true rfl) rfl rfl rfl (by omega) (by omega) (Nat.le_of_ble_eq_true rfl)) (kF_T_take 42 S _ _ (by omega) (by omega) ) (fun z3 => ?_)
  refine jg_br (fun _ _ _ _ k1 k2 => jt_if_ne (t := 77) rfl rfl k2 k1) (fun c4 => ?_) (fun c4 => ?_)
  · refine jg_sg 2 (pc1 := 23) (lv1 := [(5, .int z2), (4, .int z1), (0, .ref 25), (1, .ref a0), (2, .int p0), (3, .int p1)]) (st1 := [.int p0, .ref 25]) (fun _ _ _ => rfl) ?_
    refine jg_csI (m2 := jp_CR_readValue) (As := [.ref 25, .int p0]) (r := []) (mx := 4) (jh_s rfl (fun _ _ _ => rfl) rfl rfl rfl (by omega) (by omega) (Nat.le_of_ble_eq_true rfl)) (kF_CR_readValue p0 z3.2 _ _ (by omega) (by omega) ) (fun z5 => ?_)
    refine jg_sg 2 (pc1 := 29) (lv1 := [(4, .int z5.1), (5, .int z2), (0, .ref 25), (1, .ref a0), (2, .int p0), (3, .int p1)]) (st1 := [.int p1]) (fun _ _ _ => rfl) ?_
    refine jg_br (fun _ _ _ _ k1 k2 => jt_if_eq (t := 45) rfl rfl k1 k2) (fun c6 => ?_) (fun c6 => ?_)
    · refine jg_lvs (lv1 := [(0, .ref 25), (1, .ref a0), (2, .int p0), (4, .int z5.1), (5, .int z2)]) rfl rfl ⟨rfl, rfl, rfl, rfl, rfl, trivial⟩ ?_
      exact kJ_CR_readItem_45 (by omega) (by omega) a0 p0 z5.1 z2 z5.2 ha0
    · refine jg_sg 4 (pc1 := 37) (lv1 := [(4, .int z5.1), (5, .int z2), (0, .ref 25), (1, .ref a0), (2, .int p0), (3, .int p1)]) (st1 := [.int z5.1, .int p0, .ref a0, .ref 25]) (fun _ _ _ => rfl) ?_
      refine jg_csI (m2 := jp_CR_takeSign) (As := [.ref 25, .ref a0, .int p0, .int z5.1]) (r := []) (mx := 4) (jh_s rfl (fun _ _ _ => rfl) rfl rfl rfl (by omega) (by omega) (Nat.le_of_ble_eq_true rfl)) (kF_CR_takeSign a0 p0 z5.1 z5.2 _ _ (by omega) (by omega) ha0) (fun z16 => ?_)
      refine jg_br (fun _ _ _ _ k1 k2 => jt_if_eq (t := 45) rfl rfl k1 k2) (fun c17 => ?_) (fun c17 => ?_)
      · refine jg_lvs (lv1 := [(0, .ref 25), (1, .ref a0), (2, .int p0), (4, .int z5.1), (5, .int z2)]) rfl rfl ⟨rfl, rfl, rfl, rfl, rfl, trivial⟩ ?_
        exact kJ_CR_readItem_45 (by omega) (by omega) a0 p0 z5.1 z2 z16.2 ha0
      · refine jg_sg 1 (pc1 := 44) (lv1 := [(4, .int z5.1), (5, .int z2), (0, .ref 25), (1, .ref a0), (2, .int p0), (3, .int p1)]) (st1 := [.int 0]) (fun _ _ _ => rfl) ?_
        exact jg_ri rfl rfl rfl rfl
  · refine jg_lvs (lv1 := [(0, .ref 25), (1, .ref a0), (2, .int p0), (4, .int z1), (5, .int z2)]) rfl rfl ⟨rfl, rfl, rfl, rfl, rfl, trivial⟩ ?_
    exact kJ_CR_readItem_77 (by omega) (by omega) a0 p0 z1 z2 z3.2 ha0
noncomputable def J_CR_readItems_49 (kt5 : Nat → Int32 → Int32 → Int32 → jS → Option jS) (x1 : Nat) (x2 : Int32) (x4 : Int32) (S : jS) : Option jS := kt5 x1 x2 0 (x4 + 1) S
set_option maxRecDepth 20000 in
theorem kJ_CR_readItems_49 {q rF rL : Nat} (hF : 10 ≤ rF) (hL : 246 ≤ rL)  (kt5 : Nat → Int32 → Int32 → Int32 → jS → Option jS) (ih5 : ∀ (x1 : Nat) (x2 : Int32) (x3 : Int32) (x4 : Int32) (S : jS), jc_ x1 = true → jg q jp_CR_readItems rF rL 5 [(0, .ref 25), (1, .ref x1), (2, .int x2), (3, .int x3), (4, .int x4)] [] S 0 s_V (kt5 x1 x2 x3 x4 S)) (x1 : Nat) (x2 : Int32) (x4 : Int32) (S : jS) (hx1 : jc_ x1 = true) : jg q jp_CR_readItems rF rL 49 [(0, .ref 25), (1, .ref x1), (2, .int x2), (4, .int x4)] [] S 0 s_V (J_CR_readItems_49 kt5 x1 x2 x4 S) := by
  unfold J_CR_readItems_49
  refine jg_sg 4 (pc1 := 5) (lv1 := [(4, .int (x4 + 1)), (3, .int 0), (0, .ref 25), (1, .ref x1), (2, .int x2)]) (st1 := []) (fun _ _ _ => rfl) ?_
  refine jg_lvs (lv1 := [(0, .ref 25), (1, .ref x1), (2, .int x2), (3, .int 0), (4, .int (x4 + 1))]) rfl rfl ⟨rfl, rfl, rfl, rfl, rfl, trivial⟩ ?_
  exact ih5 x1 x2 0 (x4 + 1) S hx1
noncomputable def J_CR_readItems_30 (kt5 : Nat → Int32 → Int32 → Int32 → jS → Option jS) (x1 : Nat) (x2 : Int32) (x4 : Int32) (y0 : Int32) (y1 : Int32) (y2 : Nat) (S : jS) : Option jS := (F_CR_readItem y2 y1 y0 S).bind (fun z4 => if z4.1 = 0 then (J_CR_readItems_49 kt5 x1 x2 x4 z4.2) else ((F_T_take 44 z4.2).bind (fun z6 => if z6.1 = 0 then (J_CR_readItems_49 kt5 x1 x2 x4 z6.2) else (kt5 x1 x2 1 (x4 + 1) z6.2))))
set_option maxRecDepth 20000 in
theorem kJ_CR_readItems_30 {q rF rL : Nat} (hF : 10 ≤ rF) (hL : 246 ≤ rL)  (kt5 : Nat → Int32 → Int32 → Int32 → jS → Option jS) (ih5 : ∀ (x1 : Nat) (x2 : Int32) (x3 : Int32) (x4 : Int32) (S : jS), jc_ x1 = true → jg q jp_CR_readItems rF rL 5 [(0, .ref 25), (1, .ref x1), (2, .int x2), (3, .int x3), (4, .int x4)] [] S 0 s_V (kt5 x1 x2 x3 x4 S)) (x1 : Nat) (x2 : Int32) (x4 : Int32) (y0 : Int32) (y1 : Int32) (y2 : Nat) (S : jS) (hx1 : jc_ x1 = true) (hy2 : jc_ y2 = true) : jg q jp_CR_readItems rF rL 30 [(0, .ref 25), (1, .ref x1), (2, .int x2), (4, .int x4)] [.int y0, .int y1, .ref y2, .ref 25] S 0 s_V (J_CR_readItems_30 kt5 x1 x2 x4 y0 y1 y2 S) := by
  unfold J_CR_readItems_30
  refine jg_csI (m2 := jp_CR_readItem) (As := [.ref 25, .ref y2, .int y1, .int y0]) (r := []) (mx := 7) (jh_s rfl (fun _ _ _ => rfl) rfl rfl rfl (by omega) (by omega) (Nat.le_of_ble_eq_true rfl)) (kF_CR_readItem y2 y1 y0 S _ _ (by omega) (by omega) hy2) (fun z4 => ?_)
  refine jg_br (fun _ _ _ _ k1 k2 => jt_if_eq (t := 49) rfl rfl k1 k2) (fun c5 => ?_) (fun c5 => ?_)
  · refine jg_lvs (lv1 := [(0, .ref 25), (1, .ref x1), (2, .int x2), (4, .int x4)]) rfl rfl ⟨rfl, rfl, rfl, rfl, trivial⟩ ?_
    exact kJ_CR_readItems_49 (by omega) (by omega) kt5 ih5 x1 x2 x4 z4.2 hx1
  · refine jg_sg 2 (pc1 := 39) (lv1 := [(0, .ref 25), (1, .ref x1), (2, .int x2), (4, .int x4)]) (st1 := [.int 44, .ref 25]) (fun _ _ _ => rfl) ?_
    refine jg_csI (m2 := jp_T_take) (As := [.ref 25, .int 44]) (r := []) (mx := 2) (jh_v (a := 25) rfl rfl rfl kc_25 rfl (Nat.le_of_ble_eq_true rfl) rfl rfl rfl (by omega) (by omega) (Nat.le_of_ble_eq_true rfl)) (kF_T_take 44 z4.2 _ _ (by omega) (by omega) ) (fun z6 => ?_)
    refine jg_br (fun _ _ _ _ k1 k2 => jt_if_eq (t := 49) rfl rfl k1 k2) (fun c7 => ?_) (fun c7 => ?_)
    · refine jg_lvs (lv1 := [(0, .ref 25), (1, .ref x1), (2, .int x2), (4, .int x4)]) rfl rfl ⟨rfl, rfl, rfl, rfl, trivial⟩ ?_
      exact kJ_CR_readItems_49 (by omega) (by omega) kt5 ih5 x1 x2 x4 z6.2 hx1
    · refine jg_sg 5 (pc1 := 5) (lv1 := [(4, .int (x4 + 1)), (3, .int 1), (0, .ref 25), (1, .ref x1), (2, .int x2)]) (st1 := []) (fun _ _ _ => rfl) ?_
      refine jg_lvs (lv1 := [(0, .ref 25), (1, .ref x1), (2, .int x2), (3, .int 1), (4, .int (x4 + 1))]) rfl rfl ⟨rfl, rfl, rfl, rfl, rfl, trivial⟩ ?_
      exact ih5 x1 x2 1 (x4 + 1) z6.2 hx1
noncomputable def L_CR_readItems_5  : Nat → Nat → Int32 → Int32 → Int32 → jS → Option jS
  | 0, _, _, _, _, _ => none
  | f + 1, x1, x2, x3, x4, S => if x3 = 0 then (some S) else (if 400 ≤ x4 then (some S) else (if x4 = 0 then (J_CR_readItems_30 (L_CR_readItems_5 f) x1 x2 x4 1 x2 x1 S) else (J_CR_readItems_30 (L_CR_readItems_5 f) x1 x2 x4 0 x2 x1 S)))
set_option maxRecDepth 20000 in
theorem kL_CR_readItems_5 {q rF rL : Nat} (hF : 10 ≤ rF) (hL : 246 ≤ rL)   : ∀ (f : Nat) (x1 : Nat) (x2 : Int32) (x3 : Int32) (x4 : Int32) (S : jS), jc_ x1 = true → jg q jp_CR_readItems rF rL 5 [(0, .ref 25), (1, .ref x1), (2, .int x2), (3, .int x3), (4, .int x4)] [] S 0 s_V (L_CR_readItems_5 f x1 x2 x3 x4 S) := by
  intro f
  induction f with
  | zero => intro _ _ _ _ _ _; exact jg_none
  | succ f ih5 =>
    intro x1 x2 x3 x4 S hx1
    rw [L_CR_readItems_5]
    refine jg_sg 1 (pc1 := 6) (lv1 := [(0, .ref 25), (1, .ref x1), (2, .int x2), (3, .int x3), (4, .int x4)]) (st1 := [.int x3]) (fun _ _ _ => rfl) ?_
    refine jg_br (fun _ _ _ _ k1 k2 => jt_if_eq (t := 57) rfl rfl k1 k2) (fun c1 => ?_) (fun c1 => ?_)
    · exact jg_rv rfl rfl rfl
    · refine jg_sg 2 (pc1 := 14) (lv1 := [(0, .ref 25), (1, .ref x1), (2, .int x2), (3, .int x3), (4, .int x4)]) (st1 := [.int 400, .int x4]) (fun _ _ _ => rfl) ?_
      refine jg_br (fun _ _ _ _ k1 k2 => jt_icmp_ge (t := 57) rfl rfl k1 k2) (fun c2 => ?_) (fun c2 => ?_)
      · exact jg_rv rfl rfl rfl
      · refine jg_sg 4 (pc1 := 22) (lv1 := [(0, .ref 25), (1, .ref x1), (2, .int x2), (3, .int x3), (4, .int x4)]) (st1 := [.int x4, .int x2, .ref x1, .ref 25]) (fun _ _ _ => rfl) ?_
        refine jg_br (fun _ _ _ _ k1 k2 => jt_if_ne (t := 29) rfl rfl k2 k1) (fun c3 => ?_) (fun c3 => ?_)
        · refine jg_sg 2 (pc1 := 30) (lv1 := [(0, .ref 25), (1, .ref x1), (2, .int x2), (3, .int x3), (4, .int x4)]) (st1 := [.int 1, .int x2, .ref x1, .ref 25]) (fun _ _ _ => rfl) ?_
          refine jg_lvs (lv1 := [(0, .ref 25), (1, .ref x1), (2, .int x2), (4, .int x4)]) rfl rfl ⟨rfl, rfl, rfl, rfl, trivial⟩ ?_
          exact kJ_CR_readItems_30 (by omega) (by omega) (L_CR_readItems_5 f) ih5 x1 x2 x4 1 x2 x1 S hx1 hx1
        · refine jg_sg 1 (pc1 := 30) (lv1 := [(0, .ref 25), (1, .ref x1), (2, .int x2), (3, .int x3), (4, .int x4)]) (st1 := [.int 0, .int x2, .ref x1, .ref 25]) (fun _ _ _ => rfl) ?_
          refine jg_lvs (lv1 := [(0, .ref 25), (1, .ref x1), (2, .int x2), (4, .int x4)]) rfl rfl ⟨rfl, rfl, rfl, rfl, trivial⟩ ?_
          exact kJ_CR_readItems_30 (by omega) (by omega) (L_CR_readItems_5 f) ih5 x1 x2 x4 0 x2 x1 S hx1 hx1
noncomputable def F_CR_readItems (a0 : Nat) (p0 : Int32) (S : jS) : Option jS := L_CR_readItems_5 ju_ a0 p0 1 0 S
set_option maxRecDepth 20000 in
theorem kF_CR_readItems {q : Nat} (a0 : Nat) (p0 : Int32) (S : jS) (rF rL : Nat) (hF : 10 ≤ rF) (hL : 246 ≤ rL) (ha0 : jc_ a0 = true) : jg q jp_CR_readItems rF rL 0 [(0, .ref 25), (1, .ref a0), (2, .int p0)] [] S 0 s_V (F_CR_readItems a0 p0 S) := by
  unfold F_CR_readItems
  refine jg_sg 4 (pc1 := 5) (lv1 := [(4, .int 0), (3, .int 1), (0, .ref 25), (1, .ref a0), (2, .int p0)]) (st1 := []) (fun _ _ _ => rfl) ?_
  refine jg_lvs (lv1 := [(0, .ref 25), (1, .ref a0), (2, .int p0), (3, .int 1), (4, .int 0)]) rfl rfl ⟨rfl, rfl, rfl, rfl, rfl, trivial⟩ ?_
  exact kL_CR_readItems_5 (by omega) (by omega) ju_ a0 p0 1 0 S ha0
noncomputable def J_CR_takeDayRule_70 (y0 : Int32) (y1 : Nat) (S : jS) : Option (Int32 × jS) := j_l (w_i S y1 3 y0) (fun S10 => some (1, S10))
set_option maxRecDepth 20000 in
theorem kJ_CR_takeDayRule_70 {q rF rL : Nat} (hF : 2 ≤ rF) (hL : 46 ≤ rL)   (y0 : Int32) (y1 : Nat) (S : jS) (hy1 : jc_ y1 = true) : jg q jp_CR_takeDayRule rF rL 70 [] [.int y0, .ref y1] S 0 s_I (J_CR_takeDayRule_70 y0 y1 S) := by
  unfold J_CR_takeDayRule_70
  refine jg_pi rfl (kc_C hy1) rfl (Nat.le_of_ble_eq_true rfl) rfl rfl (fun S10 _ => ?_)
  refine jg_sg 1 (pc1 := 74) (lv1 := []) (st1 := [.int 1]) (fun _ _ _ => rfl) ?_
  exact jg_ri rfl rfl rfl rfl
noncomputable def F_CR_takeDayRule (a0 : Nat) (S : jS) : Option (Int32 × jS) := (F_T_take 63 S).bind (fun z1 => if z1.1 = 0 then ((F_T_take 76 z1.2).bind (fun z3 => if z3.1 = 0 then (some (0, z3.2)) else ((F_T_take 87 z3.2).bind (fun z5 => if z5.1 = 0 then (j_l (w_i z5.2 a0 1 2) (fun S7 => (F_T_take 45 S7).bind (fun z8 => if z8.1 = 0 then (J_CR_takeDayRule_70 0 a0 z8.2) else ((F_T_number 1 30 z8.2).bind (fun z11 => J_CR_takeDayRule_70 z11.1 a0 z11.2))))) else (j_l (w_i z5.2 a0 1 3) (fun S12 => some (1, S12))))))) else (j_l (w_i z1.2 a0 1 1) (fun S13 => some (1, S13))))
set_option maxRecDepth 20000 in
theorem kF_CR_takeDayRule {q : Nat} (a0 : Nat) (S : jS) (rF rL : Nat) (hF : 2 ≤ rF) (hL : 46 ≤ rL) (ha0 : jc_ a0 = true) : jg q jp_CR_takeDayRule rF rL 0 [(0, .ref 25), (1, .ref a0)] [] S 0 s_I (F_CR_takeDayRule a0 S) := by
  unfold F_CR_takeDayRule
  refine jg_sg 2 (pc1 := 3) (lv1 := [(0, .ref 25), (1, .ref a0)]) (st1 := [.int 63, .ref 25]) (fun _ _ _ => rfl) ?_
  refine jg_csI (m2 := jp_T_take) (As := [.ref 25, .int 63]) (r := []) (mx := 2) (jh_v (a := 25) rfl rfl rfl kc_25 rfl (Nat.le_of_ble_eq_true rfl) rfl rfl rfl (by omega) (by omega) (Nat.le_of_ble_eq_true rfl)) (kF_T_take 63 S _ _ (by omega) (by omega) ) (fun z1 => ?_)
  refine jg_br (fun _ _ _ _ k1 k2 => jt_if_eq (t := 16) rfl rfl k1 k2) (fun c2 => ?_) (fun c2 => ?_)
  · refine jg_sg 2 (pc1 := 19) (lv1 := [(0, .ref 25), (1, .ref a0)]) (st1 := [.int 76, .ref 25]) (fun _ _ _ => rfl) ?_
    refine jg_csI (m2 := jp_T_take) (As := [.ref 25, .int 76]) (r := []) (mx := 2) (jh_v (a := 25) rfl rfl rfl kc_25 rfl (Nat.le_of_ble_eq_true rfl) rfl rfl rfl (by omega) (by omega) (Nat.le_of_ble_eq_true rfl)) (kF_T_take 76 z1.2 _ _ (by omega) (by omega) ) (fun z3 => ?_)
    refine jg_br (fun _ _ _ _ k1 k2 => jt_if_ne (t := 27) rfl rfl k2 k1) (fun c4 => ?_) (fun c4 => ?_)
    · refine jg_sg 1 (pc1 := 26) (lv1 := [(0, .ref 25), (1, .ref a0)]) (st1 := [.int 0]) (fun _ _ _ => rfl) ?_
      exact jg_ri rfl rfl rfl rfl
    · refine jg_sg 2 (pc1 := 30) (lv1 := [(0, .ref 25), (1, .ref a0)]) (st1 := [.int 87, .ref 25]) (fun _ _ _ => rfl) ?_
      refine jg_csI (m2 := jp_T_take) (As := [.ref 25, .int 87]) (r := []) (mx := 2) (jh_v (a := 25) rfl rfl rfl kc_25 rfl (Nat.le_of_ble_eq_true rfl) rfl rfl rfl (by omega) (by omega) (Nat.le_of_ble_eq_true rfl)) (kF_T_take 87 z3.2 _ _ (by omega) (by omega) ) (fun z5 => ?_)
      refine jg_br (fun _ _ _ _ k1 k2 => jt_if_eq (t := 44) rfl rfl k1 k2) (fun c6 => ?_) (fun c6 => ?_)
      · refine jg_sg 2 (pc1 := 46) (lv1 := [(0, .ref 25), (1, .ref a0)]) (st1 := [.int 2, .ref a0]) (fun _ _ _ => rfl) ?_
        refine jg_pi rfl (kc_C ha0) rfl (Nat.le_of_ble_eq_true rfl) rfl rfl (fun S7 _ => ?_)
        refine jg_sg 3 (pc1 := 53) (lv1 := [(0, .ref 25), (1, .ref a0)]) (st1 := [.int 45, .ref 25, .ref a0]) (fun _ _ _ => rfl) ?_
        refine jg_csI (m2 := jp_T_take) (As := [.ref 25, .int 45]) (r := [.ref a0]) (mx := 2) (jh_v (a := 25) rfl rfl rfl kc_25 rfl (Nat.le_of_ble_eq_true rfl) rfl rfl rfl (by omega) (by omega) (Nat.le_of_ble_eq_true rfl)) (kF_T_take 45 S7 _ _ (by omega) (by omega) ) (fun z8 => ?_)
        refine jg_br (fun _ _ _ _ k1 k2 => jt_if_eq (t := 69) rfl rfl k1 k2) (fun c9 => ?_) (fun c9 => ?_)
        · refine jg_sg 1 (pc1 := 70) (lv1 := [(0, .ref 25), (1, .ref a0)]) (st1 := [.int 0, .ref a0]) (fun _ _ _ => rfl) ?_
          refine jg_lvs (lv1 := []) rfl rfl trivial ?_
          exact kJ_CR_takeDayRule_70 (by omega) (by omega) 0 a0 z8.2 ha0
        · refine jg_sg 3 (pc1 := 63) (lv1 := [(0, .ref 25), (1, .ref a0)]) (st1 := [.int 30, .int 1, .ref 25, .ref a0]) (fun _ _ _ => rfl) ?_
          refine jg_csI (m2 := jp_T_number) (As := [.ref 25, .int 1, .int 30]) (r := [.ref a0]) (mx := 6) (jh_v (a := 25) rfl rfl rfl kc_25 rfl (Nat.le_of_ble_eq_true rfl) rfl rfl rfl (by omega) (by omega) (Nat.le_of_ble_eq_true rfl)) (kF_T_number 1 30 z8.2 _ _ (by omega) (by omega) ) (fun z11 => ?_)
          refine jg_sg 1 (pc1 := 70) (lv1 := [(0, .ref 25), (1, .ref a0)]) (st1 := [.int z11.1, .ref a0]) (fun _ _ _ => rfl) ?_
          refine jg_lvs (lv1 := []) rfl rfl trivial ?_
          exact kJ_CR_takeDayRule_70 (by omega) (by omega) z11.1 a0 z11.2 ha0
      · refine jg_sg 2 (pc1 := 38) (lv1 := [(0, .ref 25), (1, .ref a0)]) (st1 := [.int 3, .ref a0]) (fun _ _ _ => rfl) ?_
        refine jg_pi rfl (kc_C ha0) rfl (Nat.le_of_ble_eq_true rfl) rfl rfl (fun S12 _ => ?_)
        refine jg_sg 2 (pc1 := 74) (lv1 := [(0, .ref 25), (1, .ref a0)]) (st1 := [.int 1]) (fun _ _ _ => rfl) ?_
        exact jg_ri rfl rfl rfl rfl
  · refine jg_sg 2 (pc1 := 11) (lv1 := [(0, .ref 25), (1, .ref a0)]) (st1 := [.int 1, .ref a0]) (fun _ _ _ => rfl) ?_
    refine jg_pi rfl (kc_C ha0) rfl (Nat.le_of_ble_eq_true rfl) rfl rfl (fun S13 _ => ?_)
    refine jg_sg 1 (pc1 := 15) (lv1 := [(0, .ref 25), (1, .ref a0)]) (st1 := [.int 1]) (fun _ _ _ => rfl) ?_
    exact jg_ri rfl rfl rfl rfl
noncomputable def F_CR_takeWeekdayRule (a0 : Nat) (S : jS) : Option (Int32 × jS) := if (S.1 a0 1) = 1 then ((F_T_take 76 S).bind (fun z2 => if z2.1 = 0 then (some (0, z2.2)) else ((F_C_add a0 5 7 z2.2).bind (fun z4 => some (1, z4))))) else ((F_T_require 63 S).bind (fun z5 => some (1, z5)))
set_option maxRecDepth 20000 in
theorem kF_CR_takeWeekdayRule {q : Nat} (a0 : Nat) (S : jS) (rF rL : Nat) (hF : 3 ≤ rF) (hL : 62 ≤ rL) (ha0 : jc_ a0 = true) : jg q jp_CR_takeWeekdayRule rF rL 0 [(0, .ref 25), (1, .ref a0)] [] S 0 s_I (F_CR_takeWeekdayRule a0 S) := by
  unfold F_CR_takeWeekdayRule
  refine jg_sg 1 (pc1 := 1) (lv1 := [(0, .ref 25), (1, .ref a0)]) (st1 := [.ref a0]) (fun _ _ _ => rfl) ?_
  refine jg_g (v := .int (S.1 a0 1)) rfl (kc_C ha0) rfl rfl ?_
  refine jg_sg 1 (pc1 := 5) (lv1 := [(0, .ref 25), (1, .ref a0)]) (st1 := [.int 1, .int (S.1 a0 1)]) (fun _ _ _ => rfl) ?_
  refine jg_br (fun _ _ _ _ k1 k2 => jt_icmp_eq (t := 16) rfl rfl k1 k2) (fun c1 => ?_) (fun c1 => ?_)
  · refine jg_sg 2 (pc1 := 19) (lv1 := [(0, .ref 25), (1, .ref a0)]) (st1 := [.int 76, .ref 25]) (fun _ _ _ => rfl) ?_
    refine jg_csI (m2 := jp_T_take) (As := [.ref 25, .int 76]) (r := []) (mx := 2) (jh_v (a := 25) rfl rfl rfl kc_25 rfl (Nat.le_of_ble_eq_true rfl) rfl rfl rfl (by omega) (by omega) (Nat.le_of_ble_eq_true rfl)) (kF_T_take 76 S _ _ (by omega) (by omega) ) (fun z2 => ?_)
    refine jg_br (fun _ _ _ _ k1 k2 => jt_if_eq (t := 34) rfl rfl k1 k2) (fun c3 => ?_) (fun c3 => ?_)
    · refine jg_sg 1 (pc1 := 35) (lv1 := [(0, .ref 25), (1, .ref a0)]) (st1 := [.int 0]) (fun _ _ _ => rfl) ?_
      exact jg_ri rfl rfl rfl rfl
    · refine jg_sg 3 (pc1 := 29) (lv1 := [(0, .ref 25), (1, .ref a0)]) (st1 := [.int 7, .int 5, .ref a0]) (fun _ _ _ => rfl) ?_
      refine jg_csV (m2 := jp_C_add) (As := [.ref a0, .int 5, .int 7]) (r := []) (mx := 4) (jh_v (a := a0) rfl rfl rfl (kc_C ha0) rfl (Nat.le_of_ble_eq_true rfl) rfl rfl rfl (by omega) (by omega) (Nat.le_of_ble_eq_true rfl)) (kF_C_add a0 5 7 z2.2 _ _ (by omega) (by omega) ha0) (fun z4 => ?_)
      refine jg_sg 1 (pc1 := 33) (lv1 := [(0, .ref 25), (1, .ref a0)]) (st1 := [.int 1]) (fun _ _ _ => rfl) ?_
      exact jg_ri rfl rfl rfl rfl
  · refine jg_sg 2 (pc1 := 11) (lv1 := [(0, .ref 25), (1, .ref a0)]) (st1 := [.int 63, .ref 25]) (fun _ _ _ => rfl) ?_
    refine jg_csV (m2 := jp_T_require) (As := [.ref 25, .int 63]) (r := []) (mx := 2) (jh_v (a := 25) rfl rfl rfl kc_25 rfl (Nat.le_of_ble_eq_true rfl) rfl rfl rfl (by omega) (by omega) (Nat.le_of_ble_eq_true rfl)) (kF_T_require 63 S _ _ (by omega) (by omega) ) (fun z5 => ?_)
    refine jg_sg 1 (pc1 := 15) (lv1 := [(0, .ref 25), (1, .ref a0)]) (st1 := [.int 1]) (fun _ _ _ => rfl) ?_
    exact jg_ri rfl rfl rfl rfl
end JF2
