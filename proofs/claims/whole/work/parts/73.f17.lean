section JF17
noncomputable def J_M_advance_32 (S : jS) : Option (Int32 × jS) := (F_M_fail 1 S).bind (fun z3 => some (z3.1, z3.2))
set_option maxRecDepth 20000 in
theorem kJ_M_advance_32 {q rF rL : Nat} (hF : 9 ≤ rF) (hL : 227 ≤ rL)   (S : jS) : jg q jp_M_advance rF rL 32 [(0, .ref 215)] [] S 0 s_I (J_M_advance_32 S) := by
  unfold J_M_advance_32
  refine jg_sg 2 (pc1 := 34) (lv1 := [(0, .ref 215)]) (st1 := [.int 1, .ref 215]) (fun _ _ _ => rfl) ?_
  refine jg_csI (m2 := jp_M_fail) (As := [.ref 215, .int 1]) (r := []) (mx := 2) (jh_v (a := 215) rfl rfl rfl kc_215 rfl (Nat.le_of_ble_eq_true rfl) rfl rfl rfl (by omega) (by omega) (Nat.le_of_ble_eq_true rfl)) (kF_M_fail 1 S _ _ (by omega) (by omega) ) (fun z3 => ?_)
  exact jg_ri rfl rfl rfl rfl
noncomputable def J_M_advance_112 (kt50 : Int64 → jS → Option (Int32 × jS)) (kt65 : Int64 → Int64 → Int32 → jS → Option (Int32 × jS)) (x3 : Int64) (x5 : Int64) (x7 : Int32) (S : jS) : Option (Int32 × jS) := j_q (j_in x7 100) (if (S.1 436 ((x7 : Int32).toNatClampNeg)) = 1 then (j_q (j_in x7 100) (if (S.2.1 438 ((x7 : Int32).toNatClampNeg)) ≤ (S.2.1 215 41) then (kt65 x3 x5 (x7 + 1) S) else (j_q (j_in x7 100) ((F_Math_min2 x5 (S.2.1 438 ((x7 : Int32).toNatClampNeg)) S).bind (fun z22 => kt65 x3 z22 (x7 + 1) S))))) else (kt65 x3 x5 (x7 + 1) S))
set_option maxRecDepth 20000 in
theorem kJ_M_advance_112 {q rF rL : Nat} (hF : 9 ≤ rF) (hL : 227 ≤ rL)  (kt50 : Int64 → jS → Option (Int32 × jS)) (ih50 : ∀ (x3 : Int64) (S : jS), jg q jp_M_advance rF rL 50 [(0, .ref 215), (3, .long x3)] [] S 0 s_I (kt50 x3 S)) (kt65 : Int64 → Int64 → Int32 → jS → Option (Int32 × jS)) (ih65 : ∀ (x3 : Int64) (x5 : Int64) (x7 : Int32) (S : jS), jg q jp_M_advance rF rL 65 [(0, .ref 215), (3, .long x3), (5, .long x5), (7, .int x7)] [] S 0 s_I (kt65 x3 x5 x7 S)) (x3 : Int64) (x5 : Int64) (x7 : Int32) (S : jS) : jg q jp_M_advance rF rL 112 [(0, .ref 215), (3, .long x3), (5, .long x5), (7, .int x7)] [] S 0 s_I (J_M_advance_112 kt50 kt65 x3 x5 x7 S) := by
  unfold J_M_advance_112
  refine jg_sg 1 (pc1 := 113) (lv1 := [(0, .ref 215), (3, .long x3), (5, .long x5), (7, .int x7)]) (st1 := [.ref 215]) (fun _ _ _ => rfl) ?_
  refine jg_g (v := .ref 436) rfl kc_215 rfl rfl ?_
  refine jg_sg 1 (pc1 := 118) (lv1 := [(0, .ref 215), (3, .long x3), (5, .long x5), (7, .int x7)]) (st1 := [.int x7, .ref 436]) (fun _ _ _ => rfl) ?_
  refine jg_ial rfl kc_436 (fun g17 => ?_)
  refine jg_sg 1 (pc1 := 120) (lv1 := [(0, .ref 215), (3, .long x3), (5, .long x5), (7, .int x7)]) (st1 := [.int 1, .int (S.1 436 ((x7 : Int32).toNatClampNeg))]) (fun _ _ _ => rfl) ?_
  refine jg_br (fun _ _ _ _ k1 k2 => jt_icmp_ne (t := 152) rfl rfl k2 k1) (fun c18 => ?_) (fun c18 => ?_)
  · refine jg_sg 1 (pc1 := 124) (lv1 := [(0, .ref 215), (3, .long x3), (5, .long x5), (7, .int x7)]) (st1 := [.ref 215]) (fun _ _ _ => rfl) ?_
    refine jg_g (v := .ref 438) rfl kc_215 rfl rfl ?_
    refine jg_sg 1 (pc1 := 129) (lv1 := [(0, .ref 215), (3, .long x3), (5, .long x5), (7, .int x7)]) (st1 := [.int x7, .ref 438]) (fun _ _ _ => rfl) ?_
    refine jg_lal rfl kc_438 (fun g19 => ?_)
    refine jg_sg 1 (pc1 := 131) (lv1 := [(0, .ref 215), (3, .long x3), (5, .long x5), (7, .int x7)]) (st1 := [.ref 215, .long (S.2.1 438 ((x7 : Int32).toNatClampNeg))]) (fun _ _ _ => rfl) ?_
    refine jg_g (v := .long (S.2.1 215 41)) rfl kc_215 rfl rfl ?_
    refine jg_sg 1 (pc1 := 135) (lv1 := [(0, .ref 215), (3, .long x3), (5, .long x5), (7, .int x7)]) (st1 := [.int (lg_cmp (S.2.1 438 ((x7 : Int32).toNatClampNeg)) (S.2.1 215 41))]) (fun _ _ _ => rfl) ?_
    refine jg_br (fun _ _ _ _ k1 k2 => jt_lif_le (t := 152) rfl rfl k1 k2) (fun c20 => ?_) (fun c20 => ?_)
    · refine jg_sg 2 (pc1 := 65) (lv1 := [(7, .int (x7 + 1)), (0, .ref 215), (3, .long x3), (5, .long x5)]) (st1 := []) (fun _ _ _ => rfl) ?_
      refine jg_lvs (lv1 := [(0, .ref 215), (3, .long x3), (5, .long x5), (7, .int (x7 + 1))]) rfl rfl ⟨rfl, rfl, rfl, rfl, trivial⟩ ?_
      exact ih65 x3 x5 (x7 + 1) S
    · refine jg_sg 2 (pc1 := 141) (lv1 := [(0, .ref 215), (3, .long x3), (5, .long x5), (7, .int x7)]) (st1 := [.ref 215, .long x5]) (fun _ _ _ => rfl) ?_
      refine jg_g (v := .ref 438) rfl kc_215 rfl rfl ?_
      refine jg_sg 1 (pc1 := 146) (lv1 := [(0, .ref 215), (3, .long x3), (5, .long x5), (7, .int x7)]) (st1 := [.int x7, .ref 438, .long x5]) (fun _ _ _ => rfl) ?_
      refine jg_lal rfl kc_438 (fun g21 => ?_)
      refine jg_cpL (m2 := jp_Math_min2) (As := [.long x5, .long (S.2.1 438 ((x7 : Int32).toNatClampNeg))]) (r := []) (mx := 4) (jh_s rfl (fun _ _ _ => rfl) rfl rfl rfl (by omega) (by omega) (Nat.le_of_ble_eq_true rfl)) (kF_Math_min2 x5 (S.2.1 438 ((x7 : Int32).toNatClampNeg)) S _ _ (by omega) (by omega) ) (fun z22 => ?_)
      refine jg_sg 3 (pc1 := 65) (lv1 := [(7, .int (x7 + 1)), (5, .long z22), (0, .ref 215), (3, .long x3)]) (st1 := []) (fun _ _ _ => rfl) ?_
      refine jg_lvs (lv1 := [(0, .ref 215), (3, .long x3), (5, .long z22), (7, .int (x7 + 1))]) rfl rfl ⟨rfl, rfl, rfl, rfl, trivial⟩ ?_
      exact ih65 x3 z22 (x7 + 1) S
  · refine jg_sg 2 (pc1 := 65) (lv1 := [(7, .int (x7 + 1)), (0, .ref 215), (3, .long x3), (5, .long x5)]) (st1 := []) (fun _ _ _ => rfl) ?_
    refine jg_lvs (lv1 := [(0, .ref 215), (3, .long x3), (5, .long x5), (7, .int (x7 + 1))]) rfl rfl ⟨rfl, rfl, rfl, rfl, trivial⟩ ?_
    exact ih65 x3 x5 (x7 + 1) S
noncomputable def L_M_advance_65 (kt50 : Int64 → jS → Option (Int32 × jS)) : Nat → Int64 → Int64 → Int32 → jS → Option (Int32 × jS)
  | 0, _, _, _, _ => none
  | f + 1, x3, x5, x7, S => if 100 ≤ x7 then (if x5 ≤ x3 then (j_l (w_l S 215 41 x5) (fun S13 => kt50 x3 S13)) else (j_l (w_l S 215 41 x3) (fun S14 => some (S14.1 215 49, S14)))) else (j_q (j_in x7 100) (if (S.1 436 ((x7 : Int32).toNatClampNeg)) ≤ 1 then (J_M_advance_112 kt50 (L_M_advance_65 kt50 f) x3 x5 x7 S) else (j_q (j_in x7 100) (if (S.2.1 439 ((x7 : Int32).toNatClampNeg)) ≤ (S.2.1 215 41) then (J_M_advance_112 kt50 (L_M_advance_65 kt50 f) x3 x5 x7 S) else (j_q (j_in x7 100) ((F_Math_min2 x5 (S.2.1 439 ((x7 : Int32).toNatClampNeg)) S).bind (fun z26 => J_M_advance_112 kt50 (L_M_advance_65 kt50 f) x3 z26 x7 S)))))))
set_option maxRecDepth 20000 in
theorem kL_M_advance_65 {q rF rL : Nat} (hF : 9 ≤ rF) (hL : 227 ≤ rL)  (kt50 : Int64 → jS → Option (Int32 × jS)) (ih50 : ∀ (x3 : Int64) (S : jS), jg q jp_M_advance rF rL 50 [(0, .ref 215), (3, .long x3)] [] S 0 s_I (kt50 x3 S)) : ∀ (f : Nat) (x3 : Int64) (x5 : Int64) (x7 : Int32) (S : jS), jg q jp_M_advance rF rL 65 [(0, .ref 215), (3, .long x3), (5, .long x5), (7, .int x7)] [] S 0 s_I (L_M_advance_65 kt50 f x3 x5 x7 S) := by
  intro f
  induction f with
  | zero => intro _ _ _ _; exact jg_none
  | succ f ih65 =>
    intro x3 x5 x7 S
    rw [L_M_advance_65]
    refine jg_sg 2 (pc1 := 69) (lv1 := [(0, .ref 215), (3, .long x3), (5, .long x5), (7, .int x7)]) (st1 := [.int 100, .int x7]) (fun _ _ _ => rfl) ?_
    refine jg_br (fun _ _ _ _ k1 k2 => jt_icmp_ge (t := 158) rfl rfl k1 k2) (fun c11 => ?_) (fun c11 => ?_)
    · refine jg_sg 3 (pc1 := 162) (lv1 := [(0, .ref 215), (3, .long x3), (5, .long x5), (7, .int x7)]) (st1 := [.int (lg_cmp x5 x3)]) (fun _ _ _ => rfl) ?_
      refine jg_br (fun _ _ _ _ k1 k2 => jt_lif_le (t := 175) rfl rfl k1 k2) (fun c12 => ?_) (fun c12 => ?_)
      · refine jg_sg 2 (pc1 := 178) (lv1 := [(0, .ref 215), (3, .long x3), (5, .long x5), (7, .int x7)]) (st1 := [.long x5, .ref 215]) (fun _ _ _ => rfl) ?_
        refine jg_pl rfl kc_215 rfl (Nat.le_of_ble_eq_true rfl) rfl rfl (fun S13 _ => ?_)
        refine jg_sg 1 (pc1 := 50) (lv1 := [(0, .ref 215), (3, .long x3), (5, .long x5), (7, .int x7)]) (st1 := []) (fun _ _ _ => rfl) ?_
        refine jg_lvs (lv1 := [(0, .ref 215), (3, .long x3)]) rfl rfl ⟨rfl, rfl, trivial⟩ ?_
        exact ih50 x3 S13
      · refine jg_sg 2 (pc1 := 167) (lv1 := [(0, .ref 215), (3, .long x3), (5, .long x5), (7, .int x7)]) (st1 := [.long x3, .ref 215]) (fun _ _ _ => rfl) ?_
        refine jg_pl rfl kc_215 rfl (Nat.le_of_ble_eq_true rfl) rfl rfl (fun S14 _ => ?_)
        refine jg_sg 1 (pc1 := 171) (lv1 := [(0, .ref 215), (3, .long x3), (5, .long x5), (7, .int x7)]) (st1 := [.ref 215]) (fun _ _ _ => rfl) ?_
        refine jg_g (v := .int (S14.1 215 49)) rfl kc_215 rfl rfl ?_
        exact jg_ri rfl rfl rfl rfl
    · refine jg_sg 1 (pc1 := 73) (lv1 := [(0, .ref 215), (3, .long x3), (5, .long x5), (7, .int x7)]) (st1 := [.ref 215]) (fun _ _ _ => rfl) ?_
      refine jg_g (v := .ref 436) rfl kc_215 rfl rfl ?_
      refine jg_sg 1 (pc1 := 78) (lv1 := [(0, .ref 215), (3, .long x3), (5, .long x5), (7, .int x7)]) (st1 := [.int x7, .ref 436]) (fun _ _ _ => rfl) ?_
      refine jg_ial rfl kc_436 (fun g15 => ?_)
      refine jg_sg 1 (pc1 := 80) (lv1 := [(0, .ref 215), (3, .long x3), (5, .long x5), (7, .int x7)]) (st1 := [.int 1, .int (S.1 436 ((x7 : Int32).toNatClampNeg))]) (fun _ _ _ => rfl) ?_
      refine jg_br (fun _ _ _ _ k1 k2 => jt_icmp_le (t := 112) rfl rfl k1 k2) (fun c16 => ?_) (fun c16 => ?_)
      · refine jg_lvs (lv1 := [(0, .ref 215), (3, .long x3), (5, .long x5), (7, .int x7)]) rfl rfl ⟨rfl, rfl, rfl, rfl, trivial⟩ ?_
        exact kJ_M_advance_112 (by omega) (by omega) kt50 ih50 (L_M_advance_65 kt50 f) ih65 x3 x5 x7 S
      · refine jg_sg 1 (pc1 := 84) (lv1 := [(0, .ref 215), (3, .long x3), (5, .long x5), (7, .int x7)]) (st1 := [.ref 215]) (fun _ _ _ => rfl) ?_
        refine jg_g (v := .ref 439) rfl kc_215 rfl rfl ?_
        refine jg_sg 1 (pc1 := 89) (lv1 := [(0, .ref 215), (3, .long x3), (5, .long x5), (7, .int x7)]) (st1 := [.int x7, .ref 439]) (fun _ _ _ => rfl) ?_
        refine jg_lal rfl kc_439 (fun g23 => ?_)
        refine jg_sg 1 (pc1 := 91) (lv1 := [(0, .ref 215), (3, .long x3), (5, .long x5), (7, .int x7)]) (st1 := [.ref 215, .long (S.2.1 439 ((x7 : Int32).toNatClampNeg))]) (fun _ _ _ => rfl) ?_
        refine jg_g (v := .long (S.2.1 215 41)) rfl kc_215 rfl rfl ?_
        refine jg_sg 1 (pc1 := 95) (lv1 := [(0, .ref 215), (3, .long x3), (5, .long x5), (7, .int x7)]) (st1 := [.int (lg_cmp (S.2.1 439 ((x7 : Int32).toNatClampNeg)) (S.2.1 215 41))]) (fun _ _ _ => rfl) ?_
        refine jg_br (fun _ _ _ _ k1 k2 => jt_lif_le (t := 112) rfl rfl k1 k2) (fun c24 => ?_) (fun c24 => ?_)
        · refine jg_lvs (lv1 := [(0, .ref 215), (3, .long x3), (5, .long x5), (7, .int x7)]) rfl rfl ⟨rfl, rfl, rfl, rfl, trivial⟩ ?_
          exact kJ_M_advance_112 (by omega) (by omega) kt50 ih50 (L_M_advance_65 kt50 f) ih65 x3 x5 x7 S
        · refine jg_sg 2 (pc1 := 101) (lv1 := [(0, .ref 215), (3, .long x3), (5, .long x5), (7, .int x7)]) (st1 := [.ref 215, .long x5]) (fun _ _ _ => rfl) ?_
          refine jg_g (v := .ref 439) rfl kc_215 rfl rfl ?_
          refine jg_sg 1 (pc1 := 106) (lv1 := [(0, .ref 215), (3, .long x3), (5, .long x5), (7, .int x7)]) (st1 := [.int x7, .ref 439, .long x5]) (fun _ _ _ => rfl) ?_
          refine jg_lal rfl kc_439 (fun g25 => ?_)
          refine jg_cpL (m2 := jp_Math_min2) (As := [.long x5, .long (S.2.1 439 ((x7 : Int32).toNatClampNeg))]) (r := []) (mx := 4) (jh_s rfl (fun _ _ _ => rfl) rfl rfl rfl (by omega) (by omega) (Nat.le_of_ble_eq_true rfl)) (kF_Math_min2 x5 (S.2.1 439 ((x7 : Int32).toNatClampNeg)) S _ _ (by omega) (by omega) ) (fun z26 => ?_)
          refine jg_sg 1 (pc1 := 112) (lv1 := [(5, .long z26), (0, .ref 215), (3, .long x3), (7, .int x7)]) (st1 := []) (fun _ _ _ => rfl) ?_
          refine jg_lvs (lv1 := [(0, .ref 215), (3, .long x3), (5, .long z26), (7, .int x7)]) rfl rfl ⟨rfl, rfl, rfl, rfl, trivial⟩ ?_
          exact kJ_M_advance_112 (by omega) (by omega) kt50 ih50 (L_M_advance_65 kt50 f) ih65 x3 z26 x7 S
noncomputable def L_M_advance_50  : Nat → Int64 → jS → Option (Int32 × jS)
  | 0, _, _ => none
  | f + 1, x3, S => (F_M_work S).bind (fun z8 => if z8.1 = 0 then (some (z8.2.1 215 49, z8.2)) else (j_l (x3 + 1 : Int64) (fun v10 => L_M_advance_65 (L_M_advance_50 f) ju_ x3 v10 0 z8.2)))
set_option maxRecDepth 20000 in
theorem kL_M_advance_50 {q rF rL : Nat} (hF : 9 ≤ rF) (hL : 227 ≤ rL)   : ∀ (f : Nat) (x3 : Int64) (S : jS), jg q jp_M_advance rF rL 50 [(0, .ref 215), (3, .long x3)] [] S 0 s_I (L_M_advance_50 f x3 S) := by
  intro f
  induction f with
  | zero => intro _ _; exact jg_none
  | succ f ih50 =>
    intro x3 S
    rw [L_M_advance_50]
    refine jg_sg 1 (pc1 := 51) (lv1 := [(0, .ref 215), (3, .long x3)]) (st1 := [.ref 215]) (fun _ _ _ => rfl) ?_
    refine jg_csI (m2 := jp_M_work) (As := [.ref 215]) (r := []) (mx := 3) (jh_v (a := 215) rfl rfl rfl kc_215 rfl (Nat.le_of_ble_eq_true rfl) rfl rfl rfl (by omega) (by omega) (Nat.le_of_ble_eq_true rfl)) (kF_M_work S _ _ (by omega) (by omega) ) (fun z8 => ?_)
    refine jg_br (fun _ _ _ _ k1 k2 => jt_if_eq (t := 184) rfl rfl k1 k2) (fun c9 => ?_) (fun c9 => ?_)
    · refine jg_sg 1 (pc1 := 185) (lv1 := [(0, .ref 215), (3, .long x3)]) (st1 := [.ref 215]) (fun _ _ _ => rfl) ?_
      refine jg_g (v := .int (z8.2.1 215 49)) rfl kc_215 rfl rfl ?_
      exact jg_ri rfl rfl rfl rfl
    · refine jg_sg 4 (pc1 := 62) (lv1 := [(5, .long (x3 + 1)), (0, .ref 215), (3, .long x3)]) (st1 := []) (fun _ _ _ => rfl) ?_
      refine jg_vl (fun v10 => ?_)
      refine jg_sg 2 (pc1 := 65) (lv1 := [(7, .int 0), (5, .long v10), (0, .ref 215), (3, .long x3)]) (st1 := []) (fun _ _ _ => rfl) ?_
      refine jg_lvs (lv1 := [(0, .ref 215), (3, .long x3), (5, .long v10), (7, .int 0)]) rfl rfl ⟨rfl, rfl, rfl, rfl, trivial⟩ ?_
      exact kL_M_advance_65 (by omega) (by omega) (L_M_advance_50 f) ih50 ju_ x3 v10 0 z8.2
noncomputable def F_M_advance (p0 : Int64) (S : jS) : Option (Int32 × jS) := j_l (w_i S 215 0 0) (fun S1 => if p0 < 0 then (J_M_advance_32 S1) else (if ((8796093022208 : Int64)) < p0 then (J_M_advance_32 S1) else (if ((S1.2.1 215 41) + p0) ≤ 10413791999999 then (j_l ((S1.2.1 215 41) + p0 : Int64) (fun v6 => j_l (w_i S1 215 49 0) (fun S7 => L_M_advance_50 ju_ v6 S7))) else (J_M_advance_32 S1))))
set_option maxRecDepth 20000 in
theorem kF_M_advance {q : Nat} (p0 : Int64) (S : jS) (rF rL : Nat) (hF : 9 ≤ rF) (hL : 227 ≤ rL)  : jg q jp_M_advance rF rL 0 [(0, .ref 215), (1, .long p0)] [] S 0 s_I (F_M_advance p0 S) := by
  unfold F_M_advance
  refine jg_sg 2 (pc1 := 2) (lv1 := [(0, .ref 215), (1, .long p0)]) (st1 := [.int 0, .ref 215]) (fun _ _ _ => rfl) ?_
  refine jg_pi rfl kc_215 rfl (Nat.le_of_ble_eq_true rfl) rfl rfl (fun S1 _ => ?_)
  refine jg_sg 3 (pc1 := 8) (lv1 := [(0, .ref 215), (1, .long p0)]) (st1 := [.int (lg_cmp p0 0)]) (fun _ _ _ => rfl) ?_
  refine jg_br (fun _ _ _ _ k1 k2 => jt_lif_lt (t := 32) rfl rfl k1 k2) (fun c2 => ?_) (fun c2 => ?_)
  · refine jg_lvs (lv1 := [(0, .ref 215)]) rfl rfl ⟨rfl, trivial⟩ ?_
    exact kJ_M_advance_32 (by omega) (by omega) S1
  · refine jg_sg 3 (pc1 := 16) (lv1 := [(0, .ref 215), (1, .long p0)]) (st1 := [.int (lg_cmp p0 8796093022208)]) (fun _ _ _ => rfl) ?_
    refine jg_br (fun _ _ _ _ k1 k2 => jt_lif_gt (t := 32) rfl rfl k1 k2) (fun c4 => ?_) (fun c4 => ?_)
    · refine jg_lvs (lv1 := [(0, .ref 215)]) rfl rfl ⟨rfl, trivial⟩ ?_
      exact kJ_M_advance_32 (by omega) (by omega) S1
    · refine jg_sg 1 (pc1 := 20) (lv1 := [(0, .ref 215), (1, .long p0)]) (st1 := [.ref 215]) (fun _ _ _ => rfl) ?_
      refine jg_g (v := .long (S1.2.1 215 41)) rfl kc_215 rfl rfl ?_
      refine jg_sg 4 (pc1 := 29) (lv1 := [(0, .ref 215), (1, .long p0)]) (st1 := [.int (lg_cmp ((S1.2.1 215 41) + p0) 10413791999999)]) (fun _ _ _ => rfl) ?_
      refine jg_br (fun _ _ _ _ k1 k2 => jt_lif_le (t := 38) rfl rfl k1 k2) (fun c5 => ?_) (fun c5 => ?_)
      · refine jg_sg 1 (pc1 := 39) (lv1 := [(0, .ref 215), (1, .long p0)]) (st1 := [.ref 215]) (fun _ _ _ => rfl) ?_
        refine jg_g (v := .long (S1.2.1 215 41)) rfl kc_215 rfl rfl ?_
        refine jg_sg 3 (pc1 := 45) (lv1 := [(3, .long ((S1.2.1 215 41) + p0)), (0, .ref 215), (1, .long p0)]) (st1 := []) (fun _ _ _ => rfl) ?_
        refine jg_vl (fun v6 => ?_)
        refine jg_sg 2 (pc1 := 47) (lv1 := [(3, .long v6), (0, .ref 215), (1, .long p0)]) (st1 := [.int 0, .ref 215]) (fun _ _ _ => rfl) ?_
        refine jg_pi rfl kc_215 rfl (Nat.le_of_ble_eq_true rfl) rfl rfl (fun S7 _ => ?_)
        refine jg_lvs (lv1 := [(0, .ref 215), (3, .long v6)]) rfl rfl ⟨rfl, rfl, trivial⟩ ?_
        exact kL_M_advance_50 (by omega) (by omega) ju_ v6 S7
      · refine jg_lvs (lv1 := [(0, .ref 215)]) rfl rfl ⟨rfl, trivial⟩ ?_
        exact kJ_M_advance_32 (by omega) (by omega) S1
noncomputable def J_M_stall_32 (S : jS) : Option jS := j_l (w_i S 215 0 1) (fun S3 => some S3)
set_option maxRecDepth 20000 in
theorem kJ_M_stall_32 {q rF rL : Nat} (hF : 0 ≤ rF) (hL : 0 ≤ rL)   (S : jS) : jg q jp_M_stall rF rL 32 [(0, .ref 215)] [] S 0 s_V (J_M_stall_32 S) := by
  unfold J_M_stall_32
  refine jg_sg 2 (pc1 := 34) (lv1 := [(0, .ref 215)]) (st1 := [.int 1, .ref 215]) (fun _ _ _ => rfl) ?_
  refine jg_pi rfl kc_215 rfl (Nat.le_of_ble_eq_true rfl) rfl rfl (fun S3 _ => ?_)
  refine jg_sg 1 (pc1 := 50) (lv1 := [(0, .ref 215)]) (st1 := []) (fun _ _ _ => rfl) ?_
  exact jg_rv rfl rfl rfl
noncomputable def F_M_stall (p0 : Int64) (S : jS) : Option jS := j_l (w_i S 215 0 0) (fun S1 => if p0 < 0 then (J_M_stall_32 S1) else (if ((8796093022208 : Int64)) < p0 then (J_M_stall_32 S1) else (if ((S1.2.1 215 41) + p0) ≤ 10413791999999 then (j_l (w_l S1 215 41 ((S1.2.1 215 41) + p0)) (fun S6 => some S6)) else (J_M_stall_32 S1))))
set_option maxRecDepth 20000 in
theorem kF_M_stall {q : Nat} (p0 : Int64) (S : jS) (rF rL : Nat) (hF : 0 ≤ rF) (hL : 0 ≤ rL)  : jg q jp_M_stall rF rL 0 [(0, .ref 215), (1, .long p0)] [] S 0 s_V (F_M_stall p0 S) := by
  unfold F_M_stall
  refine jg_sg 2 (pc1 := 2) (lv1 := [(0, .ref 215), (1, .long p0)]) (st1 := [.int 0, .ref 215]) (fun _ _ _ => rfl) ?_
  refine jg_pi rfl kc_215 rfl (Nat.le_of_ble_eq_true rfl) rfl rfl (fun S1 _ => ?_)
  refine jg_sg 3 (pc1 := 8) (lv1 := [(0, .ref 215), (1, .long p0)]) (st1 := [.int (lg_cmp p0 0)]) (fun _ _ _ => rfl) ?_
  refine jg_br (fun _ _ _ _ k1 k2 => jt_lif_lt (t := 32) rfl rfl k1 k2) (fun c2 => ?_) (fun c2 => ?_)
  · refine jg_lvs (lv1 := [(0, .ref 215)]) rfl rfl ⟨rfl, trivial⟩ ?_
    exact kJ_M_stall_32 (by omega) (by omega) S1
  · refine jg_sg 3 (pc1 := 16) (lv1 := [(0, .ref 215), (1, .long p0)]) (st1 := [.int (lg_cmp p0 8796093022208)]) (fun _ _ _ => rfl) ?_
    refine jg_br (fun _ _ _ _ k1 k2 => jt_lif_gt (t := 32) rfl rfl k1 k2) (fun c4 => ?_) (fun c4 => ?_)
    · refine jg_lvs (lv1 := [(0, .ref 215)]) rfl rfl ⟨rfl, trivial⟩ ?_
      exact kJ_M_stall_32 (by omega) (by omega) S1
    · refine jg_sg 1 (pc1 := 20) (lv1 := [(0, .ref 215), (1, .long p0)]) (st1 := [.ref 215]) (fun _ _ _ => rfl) ?_
      refine jg_g (v := .long (S1.2.1 215 41)) rfl kc_215 rfl rfl ?_
      refine jg_sg 4 (pc1 := 29) (lv1 := [(0, .ref 215), (1, .long p0)]) (st1 := [.int (lg_cmp ((S1.2.1 215 41) + p0) 10413791999999)]) (fun _ _ _ => rfl) ?_
      refine jg_br (fun _ _ _ _ k1 k2 => jt_lif_le (t := 40) rfl rfl k1 k2) (fun c5 => ?_) (fun c5 => ?_)
      · refine jg_sg 2 (pc1 := 42) (lv1 := [(0, .ref 215), (1, .long p0)]) (st1 := [.ref 215, .ref 215]) (fun _ _ _ => rfl) ?_
        refine jg_g (v := .long (S1.2.1 215 41)) rfl kc_215 rfl rfl ?_
        refine jg_sg 2 (pc1 := 47) (lv1 := [(0, .ref 215), (1, .long p0)]) (st1 := [.long ((S1.2.1 215 41) + p0), .ref 215]) (fun _ _ _ => rfl) ?_
        refine jg_pl rfl kc_215 rfl (Nat.le_of_ble_eq_true rfl) rfl rfl (fun S6 _ => ?_)
        exact jg_rv rfl rfl rfl
      · refine jg_lvs (lv1 := [(0, .ref 215)]) rfl rfl ⟨rfl, trivial⟩ ?_
        exact kJ_M_stall_32 (by omega) (by omega) S1
noncomputable def J_M_there_25 (kt4 : Int32 → Int32 → Option Int32) (S : jS) (x2 : Int32) (y0 : Int32) (y1 : Int32) : Option Int32 := j_l (y1 + y0 : Int32) (fun v4 => kt4 v4 (x2 + 1))
set_option maxRecDepth 20000 in
theorem kJ_M_there_25 {q rF rL : Nat} (hF : 0 ≤ rF) (hL : 0 ≤ rL) (S : jS) (kt4 : Int32 → Int32 → Option Int32) (ih4 : ∀ (x1 : Int32) (x2 : Int32), jg q jp_M_there rF rL 4 [(0, .ref 215), (1, .int x1), (2, .int x2)] [] S 0 (p_I S) (kt4 x1 x2)) (x2 : Int32) (y0 : Int32) (y1 : Int32) : jg q jp_M_there rF rL 25 [(0, .ref 215), (2, .int x2)] [.int y0, .int y1] S 0 (p_I S) (J_M_there_25 kt4 S x2 y0 y1) := by
  unfold J_M_there_25
  refine jg_sg 2 (pc1 := 27) (lv1 := [(1, .int (y1 + y0)), (0, .ref 215), (2, .int x2)]) (st1 := []) (fun _ _ _ => rfl) ?_
  refine jg_vi (fun v4 => ?_)
  refine jg_sg 2 (pc1 := 4) (lv1 := [(2, .int (x2 + 1)), (1, .int v4), (0, .ref 215)]) (st1 := []) (fun _ _ _ => rfl) ?_
  refine jg_lvs (lv1 := [(0, .ref 215), (1, .int v4), (2, .int (x2 + 1))]) rfl rfl ⟨rfl, rfl, rfl, trivial⟩ ?_
  exact ih4 v4 (x2 + 1)
noncomputable def L_M_there_4 (S : jS) : Nat → Int32 → Int32 → Option Int32
  | 0, _, _ => none
  | f + 1, x1, x2 => if 100 ≤ x2 then (some x1) else (j_q (j_in x2 100) (if (S.1 436 ((x2 : Int32).toNatClampNeg)) ≤ 0 then (J_M_there_25 (L_M_there_4 S f) S x2 0 x1) else (J_M_there_25 (L_M_there_4 S f) S x2 1 x1)))
set_option maxRecDepth 20000 in
theorem kL_M_there_4 {q rF rL : Nat} (hF : 0 ≤ rF) (hL : 0 ≤ rL) (S : jS)  : ∀ (f : Nat) (x1 : Int32) (x2 : Int32), jg q jp_M_there rF rL 4 [(0, .ref 215), (1, .int x1), (2, .int x2)] [] S 0 (p_I S) (L_M_there_4 S f x1 x2) := by
  intro f
  induction f with
  | zero => intro _ _; exact jg_none
  | succ f ih4 =>
    intro x1 x2
    rw [L_M_there_4]
    refine jg_sg 2 (pc1 := 7) (lv1 := [(0, .ref 215), (1, .int x1), (2, .int x2)]) (st1 := [.int 100, .int x2]) (fun _ _ _ => rfl) ?_
    refine jg_br (fun _ _ _ _ k1 k2 => jt_icmp_ge (t := 33) rfl rfl k1 k2) (fun c1 => ?_) (fun c1 => ?_)
    · refine jg_sg 1 (pc1 := 34) (lv1 := [(0, .ref 215), (1, .int x1), (2, .int x2)]) (st1 := [.int x1]) (fun _ _ _ => rfl) ?_
      exact jg_ri rfl rfl rfl rfl
    · refine jg_sg 2 (pc1 := 12) (lv1 := [(0, .ref 215), (1, .int x1), (2, .int x2)]) (st1 := [.ref 215, .int x1]) (fun _ _ _ => rfl) ?_
      refine jg_g (v := .ref 436) rfl kc_215 rfl rfl ?_
      refine jg_sg 1 (pc1 := 16) (lv1 := [(0, .ref 215), (1, .int x1), (2, .int x2)]) (st1 := [.int x2, .ref 436, .int x1]) (fun _ _ _ => rfl) ?_
      refine jg_ial rfl kc_436 (fun g2 => ?_)
      refine jg_br (fun _ _ _ _ k1 k2 => jt_if_le (t := 24) rfl rfl k1 k2) (fun c3 => ?_) (fun c3 => ?_)
      · refine jg_sg 1 (pc1 := 25) (lv1 := [(0, .ref 215), (1, .int x1), (2, .int x2)]) (st1 := [.int 0, .int x1]) (fun _ _ _ => rfl) ?_
        refine jg_lvs (lv1 := [(0, .ref 215), (2, .int x2)]) rfl rfl ⟨rfl, rfl, trivial⟩ ?_
        exact kJ_M_there_25 (by omega) (by omega) S (L_M_there_4 S f) ih4 x2 0 x1
      · refine jg_sg 2 (pc1 := 25) (lv1 := [(0, .ref 215), (1, .int x1), (2, .int x2)]) (st1 := [.int 1, .int x1]) (fun _ _ _ => rfl) ?_
        refine jg_lvs (lv1 := [(0, .ref 215), (2, .int x2)]) rfl rfl ⟨rfl, rfl, trivial⟩ ?_
        exact kJ_M_there_25 (by omega) (by omega) S (L_M_there_4 S f) ih4 x2 1 x1
noncomputable def F_M_there  (S : jS) : Option Int32 := L_M_there_4 S ju_ 0 0
set_option maxRecDepth 20000 in
theorem kF_M_there {q : Nat}  (S : jS) (rF rL : Nat) (hF : 0 ≤ rF) (hL : 0 ≤ rL)  : jg q jp_M_there rF rL 0 [(0, .ref 215)] [] S 0 (p_I S) (F_M_there S) := by
  unfold F_M_there
  refine jg_sg 4 (pc1 := 4) (lv1 := [(2, .int 0), (1, .int 0), (0, .ref 215)]) (st1 := []) (fun _ _ _ => rfl) ?_
  refine jg_lvs (lv1 := [(0, .ref 215), (1, .int 0), (2, .int 0)]) rfl rfl ⟨rfl, rfl, rfl, trivial⟩ ?_
  exact kL_M_there_4 (by omega) (by omega) S ju_ 0 0
noncomputable def J_M_close_71 (kt25 : Int32 → Int32 → Int32 → jS → Option (Int32 × jS)) (x1 : Int32) (x2 : Int32) (x3 : Int32) (S : jS) : Option (Int32 × jS) := j_q (j_in x3 100) (if (S.1 436 ((x3 : Int32).toNatClampNeg)) = 2 then (j_q (j_in x3 100) (if (S.1 437 ((x3 : Int32).toNatClampNeg)) = 0 then (kt25 x1 x2 (x3 + 1) S) else (if x2 = 0 then (kt25 x1 x2 (x3 + 1) S) else (j_q (j_in x3 100) (j_l (w_i S 436 ((x3 : Int32).toNatClampNeg) 3) (fun S17 => kt25 x1 x2 (x3 + 1) S17)))))) else (kt25 x1 x2 (x3 + 1) S))
set_option maxRecDepth 20000 in
theorem kJ_M_close_71 {q rF rL : Nat} (hF : 1 ≤ rF) (hL : 22 ≤ rL)  (kt25 : Int32 → Int32 → Int32 → jS → Option (Int32 × jS)) (ih25 : ∀ (x1 : Int32) (x2 : Int32) (x3 : Int32) (S : jS), jg q jp_M_close rF rL 25 [(0, .ref 215), (1, .int x1), (2, .int x2), (3, .int x3)] [] S 0 s_I (kt25 x1 x2 x3 S)) (x1 : Int32) (x2 : Int32) (x3 : Int32) (S : jS) : jg q jp_M_close rF rL 71 [(0, .ref 215), (1, .int x1), (2, .int x2), (3, .int x3)] [] S 0 s_I (J_M_close_71 kt25 x1 x2 x3 S) := by
  unfold J_M_close_71
  refine jg_sg 1 (pc1 := 72) (lv1 := [(0, .ref 215), (1, .int x1), (2, .int x2), (3, .int x3)]) (st1 := [.ref 215]) (fun _ _ _ => rfl) ?_
  refine jg_g (v := .ref 436) rfl kc_215 rfl rfl ?_
  refine jg_sg 1 (pc1 := 76) (lv1 := [(0, .ref 215), (1, .int x1), (2, .int x2), (3, .int x3)]) (st1 := [.int x3, .ref 436]) (fun _ _ _ => rfl) ?_
  refine jg_ial rfl kc_436 (fun g11 => ?_)
  refine jg_sg 1 (pc1 := 78) (lv1 := [(0, .ref 215), (1, .int x1), (2, .int x2), (3, .int x3)]) (st1 := [.int 2, .int (S.1 436 ((x3 : Int32).toNatClampNeg))]) (fun _ _ _ => rfl) ?_
  refine jg_br (fun _ _ _ _ k1 k2 => jt_icmp_ne (t := 101) rfl rfl k2 k1) (fun c12 => ?_) (fun c12 => ?_)
  · refine jg_sg 1 (pc1 := 82) (lv1 := [(0, .ref 215), (1, .int x1), (2, .int x2), (3, .int x3)]) (st1 := [.ref 215]) (fun _ _ _ => rfl) ?_
    refine jg_g (v := .ref 437) rfl kc_215 rfl rfl ?_
    refine jg_sg 1 (pc1 := 86) (lv1 := [(0, .ref 215), (1, .int x1), (2, .int x2), (3, .int x3)]) (st1 := [.int x3, .ref 437]) (fun _ _ _ => rfl) ?_
    refine jg_ial rfl kc_437 (fun g13 => ?_)
    refine jg_br (fun _ _ _ _ k1 k2 => jt_if_eq (t := 101) rfl rfl k1 k2) (fun c14 => ?_) (fun c14 => ?_)
    · refine jg_sg 2 (pc1 := 25) (lv1 := [(3, .int (x3 + 1)), (0, .ref 215), (1, .int x1), (2, .int x2)]) (st1 := []) (fun _ _ _ => rfl) ?_
      refine jg_lvs (lv1 := [(0, .ref 215), (1, .int x1), (2, .int x2), (3, .int (x3 + 1))]) rfl rfl ⟨rfl, rfl, rfl, rfl, trivial⟩ ?_
      exact ih25 x1 x2 (x3 + 1) S
    · refine jg_sg 1 (pc1 := 91) (lv1 := [(0, .ref 215), (1, .int x1), (2, .int x2), (3, .int x3)]) (st1 := [.int x2]) (fun _ _ _ => rfl) ?_
      refine jg_br (fun _ _ _ _ k1 k2 => jt_if_eq (t := 101) rfl rfl k1 k2) (fun c15 => ?_) (fun c15 => ?_)
      · refine jg_sg 2 (pc1 := 25) (lv1 := [(3, .int (x3 + 1)), (0, .ref 215), (1, .int x1), (2, .int x2)]) (st1 := []) (fun _ _ _ => rfl) ?_
        refine jg_lvs (lv1 := [(0, .ref 215), (1, .int x1), (2, .int x2), (3, .int (x3 + 1))]) rfl rfl ⟨rfl, rfl, rfl, rfl, trivial⟩ ?_
        exact ih25 x1 x2 (x3 + 1) S
      · refine jg_sg 1 (pc1 := 95) (lv1 := [(0, .ref 215), (1, .int x1), (2, .int x2), (3, .int x3)]) (st1 := [.ref 215]) (fun _ _ _ => rfl) ?_
        refine jg_g (v := .ref 436) rfl kc_215 rfl rfl ?_
        refine jg_sg 2 (pc1 := 100) (lv1 := [(0, .ref 215), (1, .int x1), (2, .int x2), (3, .int x3)]) (st1 := [.int 3, .int x3, .ref 436]) (fun _ _ _ => rfl) ?_
        refine jg_ias rfl kc_436 (fun g16 S17 _ => ?_)
        refine jg_sg 2 (pc1 := 25) (lv1 := [(3, .int (x3 + 1)), (0, .ref 215), (1, .int x1), (2, .int x2)]) (st1 := []) (fun _ _ _ => rfl) ?_
        refine jg_lvs (lv1 := [(0, .ref 215), (1, .int x1), (2, .int x2), (3, .int (x3 + 1))]) rfl rfl ⟨rfl, rfl, rfl, rfl, trivial⟩ ?_
        exact ih25 x1 x2 (x3 + 1) S17
  · refine jg_sg 2 (pc1 := 25) (lv1 := [(3, .int (x3 + 1)), (0, .ref 215), (1, .int x1), (2, .int x2)]) (st1 := []) (fun _ _ _ => rfl) ?_
    refine jg_lvs (lv1 := [(0, .ref 215), (1, .int x1), (2, .int x2), (3, .int (x3 + 1))]) rfl rfl ⟨rfl, rfl, rfl, rfl, trivial⟩ ?_
    exact ih25 x1 x2 (x3 + 1) S
noncomputable def J_M_close_61 (kt25 : Int32 → Int32 → Int32 → jS → Option (Int32 × jS)) (x1 : Int32) (x2 : Int32) (x3 : Int32) (S : jS) : Option (Int32 × jS) := j_q (j_in x3 100) (j_l (w_i S 436 ((x3 : Int32).toNatClampNeg) 0) (fun S19 => kt25 x1 x2 (x3 + 1) S19))
set_option maxRecDepth 20000 in
theorem kJ_M_close_61 {q rF rL : Nat} (hF : 1 ≤ rF) (hL : 22 ≤ rL)  (kt25 : Int32 → Int32 → Int32 → jS → Option (Int32 × jS)) (ih25 : ∀ (x1 : Int32) (x2 : Int32) (x3 : Int32) (S : jS), jg q jp_M_close rF rL 25 [(0, .ref 215), (1, .int x1), (2, .int x2), (3, .int x3)] [] S 0 s_I (kt25 x1 x2 x3 S)) (x1 : Int32) (x2 : Int32) (x3 : Int32) (S : jS) : jg q jp_M_close rF rL 61 [(0, .ref 215), (1, .int x1), (2, .int x2), (3, .int x3)] [] S 0 s_I (J_M_close_61 kt25 x1 x2 x3 S) := by
  unfold J_M_close_61
  refine jg_sg 1 (pc1 := 62) (lv1 := [(0, .ref 215), (1, .int x1), (2, .int x2), (3, .int x3)]) (st1 := [.ref 215]) (fun _ _ _ => rfl) ?_
  refine jg_g (v := .ref 436) rfl kc_215 rfl rfl ?_
  refine jg_sg 2 (pc1 := 67) (lv1 := [(0, .ref 215), (1, .int x1), (2, .int x2), (3, .int x3)]) (st1 := [.int 0, .int x3, .ref 436]) (fun _ _ _ => rfl) ?_
  refine jg_ias rfl kc_436 (fun g18 S19 _ => ?_)
  refine jg_sg 3 (pc1 := 25) (lv1 := [(3, .int (x3 + 1)), (0, .ref 215), (1, .int x1), (2, .int x2)]) (st1 := []) (fun _ _ _ => rfl) ?_
  refine jg_lvs (lv1 := [(0, .ref 215), (1, .int x1), (2, .int x2), (3, .int (x3 + 1))]) rfl rfl ⟨rfl, rfl, rfl, rfl, trivial⟩ ?_
  exact ih25 x1 x2 (x3 + 1) S19
noncomputable def L_M_close_25  : Nat → Int32 → Int32 → Int32 → jS → Option (Int32 × jS)
  | 0, _, _, _, _ => none
  | f + 1, x1, x2, x3, S => if 100 ≤ x3 then ((F_M_there S).bind (fun z5 => some (z5, S))) else (j_q (j_in x3 100) (if (S.1 436 ((x3 : Int32).toNatClampNeg)) = 1 then (j_q (j_in x3 100) (if (S.1 437 ((x3 : Int32).toNatClampNeg)) = 0 then (if x1 = 0 then (J_M_close_71 (L_M_close_25 f) x1 x2 x3 S) else (J_M_close_61 (L_M_close_25 f) x1 x2 x3 S)) else (if x2 = 0 then (J_M_close_71 (L_M_close_25 f) x1 x2 x3 S) else (J_M_close_61 (L_M_close_25 f) x1 x2 x3 S)))) else (J_M_close_71 (L_M_close_25 f) x1 x2 x3 S)))
set_option maxRecDepth 20000 in
theorem kL_M_close_25 {q rF rL : Nat} (hF : 1 ≤ rF) (hL : 22 ≤ rL)   : ∀ (f : Nat) (x1 : Int32) (x2 : Int32) (x3 : Int32) (S : jS), jg q jp_M_close rF rL 25 [(0, .ref 215), (1, .int x1), (2, .int x2), (3, .int x3)] [] S 0 s_I (L_M_close_25 f x1 x2 x3 S) := by
  intro f
  induction f with
  | zero => intro _ _ _ _; exact jg_none
  | succ f ih25 =>
    intro x1 x2 x3 S
    rw [L_M_close_25]
    refine jg_sg 2 (pc1 := 28) (lv1 := [(0, .ref 215), (1, .int x1), (2, .int x2), (3, .int x3)]) (st1 := [.int 100, .int x3]) (fun _ _ _ => rfl) ?_
    refine jg_br (fun _ _ _ _ k1 k2 => jt_icmp_ge (t := 107) rfl rfl k1 k2) (fun c4 => ?_) (fun c4 => ?_)
    · refine jg_sg 1 (pc1 := 108) (lv1 := [(0, .ref 215), (1, .int x1), (2, .int x2), (3, .int x3)]) (st1 := [.ref 215]) (fun _ _ _ => rfl) ?_
      refine jg_cpI (m2 := jp_M_there) (As := [.ref 215]) (r := []) (mx := 3) (jh_v (a := 215) rfl rfl rfl kc_215 rfl (Nat.le_of_ble_eq_true rfl) rfl rfl rfl (by omega) (by omega) (Nat.le_of_ble_eq_true rfl)) (kF_M_there S _ _ (by omega) (by omega) ) (fun z5 => ?_)
      exact jg_ri rfl rfl rfl rfl
    · refine jg_sg 1 (pc1 := 32) (lv1 := [(0, .ref 215), (1, .int x1), (2, .int x2), (3, .int x3)]) (st1 := [.ref 215]) (fun _ _ _ => rfl) ?_
      refine jg_g (v := .ref 436) rfl kc_215 rfl rfl ?_
      refine jg_sg 1 (pc1 := 36) (lv1 := [(0, .ref 215), (1, .int x1), (2, .int x2), (3, .int x3)]) (st1 := [.int x3, .ref 436]) (fun _ _ _ => rfl) ?_
      refine jg_ial rfl kc_436 (fun g6 => ?_)
      refine jg_sg 1 (pc1 := 38) (lv1 := [(0, .ref 215), (1, .int x1), (2, .int x2), (3, .int x3)]) (st1 := [.int 1, .int (S.1 436 ((x3 : Int32).toNatClampNeg))]) (fun _ _ _ => rfl) ?_
      refine jg_br (fun _ _ _ _ k1 k2 => jt_icmp_ne (t := 71) rfl rfl k2 k1) (fun c7 => ?_) (fun c7 => ?_)
      · refine jg_sg 1 (pc1 := 42) (lv1 := [(0, .ref 215), (1, .int x1), (2, .int x2), (3, .int x3)]) (st1 := [.ref 215]) (fun _ _ _ => rfl) ?_
        refine jg_g (v := .ref 437) rfl kc_215 rfl rfl ?_
        refine jg_sg 1 (pc1 := 46) (lv1 := [(0, .ref 215), (1, .int x1), (2, .int x2), (3, .int x3)]) (st1 := [.int x3, .ref 437]) (fun _ _ _ => rfl) ?_
        refine jg_ial rfl kc_437 (fun g8 => ?_)
        refine jg_br (fun _ _ _ _ k1 k2 => jt_if_ne (t := 57) rfl rfl k2 k1) (fun c9 => ?_) (fun c9 => ?_)
        · refine jg_sg 1 (pc1 := 51) (lv1 := [(0, .ref 215), (1, .int x1), (2, .int x2), (3, .int x3)]) (st1 := [.int x1]) (fun _ _ _ => rfl) ?_
          refine jg_br (fun _ _ _ _ k1 k2 => jt_if_eq (t := 71) rfl rfl k1 k2) (fun c10 => ?_) (fun c10 => ?_)
          · refine jg_lvs (lv1 := [(0, .ref 215), (1, .int x1), (2, .int x2), (3, .int x3)]) rfl rfl ⟨rfl, rfl, rfl, rfl, trivial⟩ ?_
            exact kJ_M_close_71 (by omega) (by omega) (L_M_close_25 f) ih25 x1 x2 x3 S
          · refine jg_sg 1 (pc1 := 61) (lv1 := [(0, .ref 215), (1, .int x1), (2, .int x2), (3, .int x3)]) (st1 := []) (fun _ _ _ => rfl) ?_
            refine jg_lvs (lv1 := [(0, .ref 215), (1, .int x1), (2, .int x2), (3, .int x3)]) rfl rfl ⟨rfl, rfl, rfl, rfl, trivial⟩ ?_
            exact kJ_M_close_61 (by omega) (by omega) (L_M_close_25 f) ih25 x1 x2 x3 S
        · refine jg_sg 1 (pc1 := 58) (lv1 := [(0, .ref 215), (1, .int x1), (2, .int x2), (3, .int x3)]) (st1 := [.int x2]) (fun _ _ _ => rfl) ?_
          refine jg_br (fun _ _ _ _ k1 k2 => jt_if_eq (t := 71) rfl rfl k1 k2) (fun c20 => ?_) (fun c20 => ?_)
          · refine jg_lvs (lv1 := [(0, .ref 215), (1, .int x1), (2, .int x2), (3, .int x3)]) rfl rfl ⟨rfl, rfl, rfl, rfl, trivial⟩ ?_
            exact kJ_M_close_71 (by omega) (by omega) (L_M_close_25 f) ih25 x1 x2 x3 S
          · refine jg_lvs (lv1 := [(0, .ref 215), (1, .int x1), (2, .int x2), (3, .int x3)]) rfl rfl ⟨rfl, rfl, rfl, rfl, trivial⟩ ?_
            exact kJ_M_close_61 (by omega) (by omega) (L_M_close_25 f) ih25 x1 x2 x3 S
      · refine jg_lvs (lv1 := [(0, .ref 215), (1, .int x1), (2, .int x2), (3, .int x3)]) rfl rfl ⟨rfl, rfl, rfl, rfl, trivial⟩ ?_
        exact kJ_M_close_71 (by omega) (by omega) (L_M_close_25 f) ih25 x1 x2 x3 S
noncomputable def F_M_close (p0 : Int32) (p1 : Int32) (S : jS) : Option (Int32 × jS) := j_l (w_i S 215 0 0) (fun S1 => if (S1.1 215 45) = 0 then (j_l (w_i S1 215 45 1) (fun S3 => L_M_close_25 ju_ p0 p1 0 S3)) else ((F_M_fail 1 S1).bind (fun z21 => some (z21.1, z21.2))))
set_option maxRecDepth 20000 in
theorem kF_M_close {q : Nat} (p0 : Int32) (p1 : Int32) (S : jS) (rF rL : Nat) (hF : 1 ≤ rF) (hL : 22 ≤ rL)  : jg q jp_M_close rF rL 0 [(0, .ref 215), (1, .int p0), (2, .int p1)] [] S 0 s_I (F_M_close p0 p1 S) := by
  unfold F_M_close
  refine jg_sg 2 (pc1 := 2) (lv1 := [(0, .ref 215), (1, .int p0), (2, .int p1)]) (st1 := [.int 0, .ref 215]) (fun _ _ _ => rfl) ?_
  refine jg_pi rfl kc_215 rfl (Nat.le_of_ble_eq_true rfl) rfl rfl (fun S1 _ => ?_)
  refine jg_sg 1 (pc1 := 6) (lv1 := [(0, .ref 215), (1, .int p0), (2, .int p1)]) (st1 := [.ref 215]) (fun _ _ _ => rfl) ?_
  refine jg_g (v := .int (S1.1 215 45)) rfl kc_215 rfl rfl ?_
  refine jg_br (fun _ _ _ _ k1 k2 => jt_if_eq (t := 18) rfl rfl k1 k2) (fun c2 => ?_) (fun c2 => ?_)
  · refine jg_sg 2 (pc1 := 20) (lv1 := [(0, .ref 215), (1, .int p0), (2, .int p1)]) (st1 := [.int 1, .ref 215]) (fun _ _ _ => rfl) ?_
    refine jg_pi rfl kc_215 rfl (Nat.le_of_ble_eq_true rfl) rfl rfl (fun S3 _ => ?_)
    refine jg_sg 2 (pc1 := 25) (lv1 := [(3, .int 0), (0, .ref 215), (1, .int p0), (2, .int p1)]) (st1 := []) (fun _ _ _ => rfl) ?_
    refine jg_lvs (lv1 := [(0, .ref 215), (1, .int p0), (2, .int p1), (3, .int 0)]) rfl rfl ⟨rfl, rfl, rfl, rfl, trivial⟩ ?_
    exact kL_M_close_25 (by omega) (by omega) ju_ p0 p1 0 S3
  · refine jg_sg 2 (pc1 := 14) (lv1 := [(0, .ref 215), (1, .int p0), (2, .int p1)]) (st1 := [.int 1, .ref 215]) (fun _ _ _ => rfl) ?_
    refine jg_csI (m2 := jp_M_fail) (As := [.ref 215, .int 1]) (r := []) (mx := 2) (jh_v (a := 215) rfl rfl rfl kc_215 rfl (Nat.le_of_ble_eq_true rfl) rfl rfl rfl (by omega) (by omega) (Nat.le_of_ble_eq_true rfl)) (kF_M_fail 1 S1 _ _ (by omega) (by omega) ) (fun z21 => ?_)
    exact jg_ri rfl rfl rfl rfl
noncomputable def J_M_job_14 (S : jS) : Option (Int64 × jS) := (F_M_fail 1 S).bind (fun z3 => some ((z3.1 : Int32).toInt64, z3.2))
set_option maxRecDepth 20000 in
theorem kJ_M_job_14 {q rF rL : Nat} (hF : 1 ≤ rF) (hL : 21 ≤ rL)   (S : jS) : jg q jp_M_job rF rL 14 [(0, .ref 215)] [] S 0 s_L (J_M_job_14 S) := by
  unfold J_M_job_14
  refine jg_sg 2 (pc1 := 16) (lv1 := [(0, .ref 215)]) (st1 := [.int 1, .ref 215]) (fun _ _ _ => rfl) ?_
  refine jg_csI (m2 := jp_M_fail) (As := [.ref 215, .int 1]) (r := []) (mx := 2) (jh_v (a := 215) rfl rfl rfl kc_215 rfl (Nat.le_of_ble_eq_true rfl) rfl rfl rfl (by omega) (by omega) (Nat.le_of_ble_eq_true rfl)) (kF_M_fail 1 S _ _ (by omega) (by omega) ) (fun z3 => ?_)
  refine jg_sg 1 (pc1 := 20) (lv1 := [(0, .ref 215)]) (st1 := [.long ((z3.1 : Int32).toInt64)]) (fun _ _ _ => rfl) ?_
  exact jg_rl rfl rfl rfl
noncomputable def F_M_job (p0 : Int32) (p1 : Int32) (S : jS) : Option (Int64 × jS) := j_l (w_i S 215 0 0) (fun S1 => if p1 < 0 then (J_M_job_14 S1) else (if p1 ≤ 4 then ((F_M_none p0 S1).bind (fun z5 => if z5 = 0 then (if p1 = 0 then (j_q (j_in p0 100) (some ((S1.1 436 ((p0 : Int32).toNatClampNeg) : Int32).toInt64, S1))) else (if p1 = 1 then (j_q (j_in p0 100) (some (S1.2.1 438 ((p0 : Int32).toNatClampNeg), S1))) else (if p1 = 2 then (j_q (j_in p0 100) (some (S1.2.1 440 ((p0 : Int32).toNatClampNeg), S1))) else (if p1 = 3 then (j_q (j_in p0 100) (some (S1.2.1 441 ((p0 : Int32).toNatClampNeg), S1))) else (j_q (j_in p0 100) (if (S1.1 436 ((p0 : Int32).toNatClampNeg)) = 1 then (some (-1, S1)) else (j_q (j_in p0 100) (some (S1.2.1 439 ((p0 : Int32).toNatClampNeg), S1))))))))) else ((F_M_fail 2 S1).bind (fun z18 => some ((z18.1 : Int32).toInt64, z18.2))))) else (J_M_job_14 S1)))
set_option maxRecDepth 20000 in
theorem kF_M_job {q : Nat} (p0 : Int32) (p1 : Int32) (S : jS) (rF rL : Nat) (hF : 1 ≤ rF) (hL : 21 ≤ rL)  : jg q jp_M_job rF rL 0 [(0, .ref 215), (1, .int p0), (2, .int p1)] [] S 0 s_L (F_M_job p0 p1 S) := by
  unfold F_M_job
  refine jg_sg 2 (pc1 := 2) (lv1 := [(0, .ref 215), (1, .int p0), (2, .int p1)]) (st1 := [.int 0, .ref 215]) (fun _ _ _ => rfl) ?_
  refine jg_pi rfl kc_215 rfl (Nat.le_of_ble_eq_true rfl) rfl rfl (fun S1 _ => ?_)
  refine jg_sg 1 (pc1 := 6) (lv1 := [(0, .ref 215), (1, .int p0), (2, .int p1)]) (st1 := [.int p1]) (fun _ _ _ => rfl) ?_
  refine jg_br (fun _ _ _ _ k1 k2 => jt_if_lt (t := 14) rfl rfl k1 k2) (fun c2 => ?_) (fun c2 => ?_)
  · refine jg_lvs (lv1 := [(0, .ref 215)]) rfl rfl ⟨rfl, trivial⟩ ?_
    exact kJ_M_job_14 (by omega) (by omega) S1
  · refine jg_sg 2 (pc1 := 11) (lv1 := [(0, .ref 215), (1, .int p0), (2, .int p1)]) (st1 := [.int 4, .int p1]) (fun _ _ _ => rfl) ?_
    refine jg_br (fun _ _ _ _ k1 k2 => jt_icmp_le (t := 21) rfl rfl k1 k2) (fun c4 => ?_) (fun c4 => ?_)
    · refine jg_sg 2 (pc1 := 23) (lv1 := [(0, .ref 215), (1, .int p0), (2, .int p1)]) (st1 := [.int p0, .ref 215]) (fun _ _ _ => rfl) ?_
      refine jg_cpI (m2 := jp_M_none) (As := [.ref 215, .int p0]) (r := []) (mx := 2) (jh_v (a := 215) rfl rfl rfl kc_215 rfl (Nat.le_of_ble_eq_true rfl) rfl rfl rfl (by omega) (by omega) (Nat.le_of_ble_eq_true rfl)) (kF_M_none p0 S1 _ _ (by omega) (by omega) ) (fun z5 => ?_)
      refine jg_br (fun _ _ _ _ k1 k2 => jt_if_eq (t := 36) rfl rfl k1 k2) (fun c6 => ?_) (fun c6 => ?_)
      · refine jg_sg 1 (pc1 := 37) (lv1 := [(0, .ref 215), (1, .int p0), (2, .int p1)]) (st1 := [.int p1]) (fun _ _ _ => rfl) ?_
        refine jg_br (fun _ _ _ _ k1 k2 => jt_if_ne (t := 50) rfl rfl k2 k1) (fun c7 => ?_) (fun c7 => ?_)
        · refine jg_sg 1 (pc1 := 41) (lv1 := [(0, .ref 215), (1, .int p0), (2, .int p1)]) (st1 := [.ref 215]) (fun _ _ _ => rfl) ?_
          refine jg_g (v := .ref 436) rfl kc_215 rfl rfl ?_
          refine jg_sg 1 (pc1 := 45) (lv1 := [(0, .ref 215), (1, .int p0), (2, .int p1)]) (st1 := [.int p0, .ref 436]) (fun _ _ _ => rfl) ?_
          refine jg_ial rfl kc_436 (fun g8 => ?_)
          refine jg_sg 2 (pc1 := 114) (lv1 := [(0, .ref 215), (1, .int p0), (2, .int p1)]) (st1 := [.long ((S1.1 436 ((p0 : Int32).toNatClampNeg) : Int32).toInt64)]) (fun _ _ _ => rfl) ?_
          exact jg_rl rfl rfl rfl
        · refine jg_sg 2 (pc1 := 52) (lv1 := [(0, .ref 215), (1, .int p0), (2, .int p1)]) (st1 := [.int 1, .int p1]) (fun _ _ _ => rfl) ?_
          refine jg_br (fun _ _ _ _ k1 k2 => jt_icmp_ne (t := 64) rfl rfl k2 k1) (fun c9 => ?_) (fun c9 => ?_)
          · refine jg_sg 1 (pc1 := 56) (lv1 := [(0, .ref 215), (1, .int p0), (2, .int p1)]) (st1 := [.ref 215]) (fun _ _ _ => rfl) ?_
            refine jg_g (v := .ref 438) rfl kc_215 rfl rfl ?_
            refine jg_sg 1 (pc1 := 60) (lv1 := [(0, .ref 215), (1, .int p0), (2, .int p1)]) (st1 := [.int p0, .ref 438]) (fun _ _ _ => rfl) ?_
            refine jg_lal rfl kc_438 (fun g10 => ?_)
            refine jg_sg 1 (pc1 := 114) (lv1 := [(0, .ref 215), (1, .int p0), (2, .int p1)]) (st1 := [.long (S1.2.1 438 ((p0 : Int32).toNatClampNeg))]) (fun _ _ _ => rfl) ?_
            exact jg_rl rfl rfl rfl
          · refine jg_sg 2 (pc1 := 66) (lv1 := [(0, .ref 215), (1, .int p0), (2, .int p1)]) (st1 := [.int 2, .int p1]) (fun _ _ _ => rfl) ?_
            refine jg_br (fun _ _ _ _ k1 k2 => jt_icmp_ne (t := 78) rfl rfl k2 k1) (fun c11 => ?_) (fun c11 => ?_)
            · refine jg_sg 1 (pc1 := 70) (lv1 := [(0, .ref 215), (1, .int p0), (2, .int p1)]) (st1 := [.ref 215]) (fun _ _ _ => rfl) ?_
              refine jg_g (v := .ref 440) rfl kc_215 rfl rfl ?_
              refine jg_sg 1 (pc1 := 74) (lv1 := [(0, .ref 215), (1, .int p0), (2, .int p1)]) (st1 := [.int p0, .ref 440]) (fun _ _ _ => rfl) ?_
              refine jg_lal rfl kc_440 (fun g12 => ?_)
              refine jg_sg 1 (pc1 := 114) (lv1 := [(0, .ref 215), (1, .int p0), (2, .int p1)]) (st1 := [.long (S1.2.1 440 ((p0 : Int32).toNatClampNeg))]) (fun _ _ _ => rfl) ?_
              exact jg_rl rfl rfl rfl
            · refine jg_sg 2 (pc1 := 80) (lv1 := [(0, .ref 215), (1, .int p0), (2, .int p1)]) (st1 := [.int 3, .int p1]) (fun _ _ _ => rfl) ?_
              refine jg_br (fun _ _ _ _ k1 k2 => jt_icmp_ne (t := 92) rfl rfl k2 k1) (fun c13 => ?_) (fun c13 => ?_)
              · refine jg_sg 1 (pc1 := 84) (lv1 := [(0, .ref 215), (1, .int p0), (2, .int p1)]) (st1 := [.ref 215]) (fun _ _ _ => rfl) ?_
                refine jg_g (v := .ref 441) rfl kc_215 rfl rfl ?_
                refine jg_sg 1 (pc1 := 88) (lv1 := [(0, .ref 215), (1, .int p0), (2, .int p1)]) (st1 := [.int p0, .ref 441]) (fun _ _ _ => rfl) ?_
                refine jg_lal rfl kc_441 (fun g14 => ?_)
                refine jg_sg 1 (pc1 := 114) (lv1 := [(0, .ref 215), (1, .int p0), (2, .int p1)]) (st1 := [.long (S1.2.1 441 ((p0 : Int32).toNatClampNeg))]) (fun _ _ _ => rfl) ?_
                exact jg_rl rfl rfl rfl
              · refine jg_sg 1 (pc1 := 93) (lv1 := [(0, .ref 215), (1, .int p0), (2, .int p1)]) (st1 := [.ref 215]) (fun _ _ _ => rfl) ?_
                refine jg_g (v := .ref 436) rfl kc_215 rfl rfl ?_
                refine jg_sg 1 (pc1 := 97) (lv1 := [(0, .ref 215), (1, .int p0), (2, .int p1)]) (st1 := [.int p0, .ref 436]) (fun _ _ _ => rfl) ?_
                refine jg_ial rfl kc_436 (fun g15 => ?_)
                refine jg_sg 1 (pc1 := 99) (lv1 := [(0, .ref 215), (1, .int p0), (2, .int p1)]) (st1 := [.int 1, .int (S1.1 436 ((p0 : Int32).toNatClampNeg))]) (fun _ _ _ => rfl) ?_
                refine jg_br (fun _ _ _ _ k1 k2 => jt_icmp_ne (t := 108) rfl rfl k2 k1) (fun c16 => ?_) (fun c16 => ?_)
                · refine jg_sg 2 (pc1 := 114) (lv1 := [(0, .ref 215), (1, .int p0), (2, .int p1)]) (st1 := [.long (-1)]) (fun _ _ _ => rfl) ?_
                  exact jg_rl rfl rfl rfl
                · refine jg_sg 1 (pc1 := 109) (lv1 := [(0, .ref 215), (1, .int p0), (2, .int p1)]) (st1 := [.ref 215]) (fun _ _ _ => rfl) ?_
                  refine jg_g (v := .ref 439) rfl kc_215 rfl rfl ?_
                  refine jg_sg 1 (pc1 := 113) (lv1 := [(0, .ref 215), (1, .int p0), (2, .int p1)]) (st1 := [.int p0, .ref 439]) (fun _ _ _ => rfl) ?_
                  refine jg_lal rfl kc_439 (fun g17 => ?_)
                  exact jg_rl rfl rfl rfl
      · refine jg_sg 2 (pc1 := 31) (lv1 := [(0, .ref 215), (1, .int p0), (2, .int p1)]) (st1 := [.int 2, .ref 215]) (fun _ _ _ => rfl) ?_
        refine jg_csI (m2 := jp_M_fail) (As := [.ref 215, .int 2]) (r := []) (mx := 2) (jh_v (a := 215) rfl rfl rfl kc_215 rfl (Nat.le_of_ble_eq_true rfl) rfl rfl rfl (by omega) (by omega) (Nat.le_of_ble_eq_true rfl)) (kF_M_fail 2 S1 _ _ (by omega) (by omega) ) (fun z18 => ?_)
        refine jg_sg 1 (pc1 := 35) (lv1 := [(0, .ref 215), (1, .int p0), (2, .int p1)]) (st1 := [.long ((z18.1 : Int32).toInt64)]) (fun _ _ _ => rfl) ?_
        exact jg_rl rfl rfl rfl
    · refine jg_lvs (lv1 := [(0, .ref 215)]) rfl rfl ⟨rfl, trivial⟩ ?_
      exact kJ_M_job_14 (by omega) (by omega) S1
noncomputable def J_M_start_14 (S : jS) : Option (Int64 × jS) := (F_M_fail 1 S).bind (fun z3 => some ((z3.1 : Int32).toInt64, z3.2))
set_option maxRecDepth 20000 in
theorem kJ_M_start_14 {q rF rL : Nat} (hF : 1 ≤ rF) (hL : 21 ≤ rL)   (S : jS) : jg q jp_M_start rF rL 14 [(0, .ref 215)] [] S 0 s_L (J_M_start_14 S) := by
  unfold J_M_start_14
  refine jg_sg 2 (pc1 := 16) (lv1 := [(0, .ref 215)]) (st1 := [.int 1, .ref 215]) (fun _ _ _ => rfl) ?_
  refine jg_csI (m2 := jp_M_fail) (As := [.ref 215, .int 1]) (r := []) (mx := 2) (jh_v (a := 215) rfl rfl rfl kc_215 rfl (Nat.le_of_ble_eq_true rfl) rfl rfl rfl (by omega) (by omega) (Nat.le_of_ble_eq_true rfl)) (kF_M_fail 1 S _ _ (by omega) (by omega) ) (fun z3 => ?_)
  refine jg_sg 1 (pc1 := 20) (lv1 := [(0, .ref 215)]) (st1 := [.long ((z3.1 : Int32).toInt64)]) (fun _ _ _ => rfl) ?_
  exact jg_rl rfl rfl rfl
noncomputable def J_M_start_33 (S : jS) : Option (Int64 × jS) := (F_M_fail 2 S).bind (fun z6 => some ((z6.1 : Int32).toInt64, z6.2))
set_option maxRecDepth 20000 in
theorem kJ_M_start_33 {q rF rL : Nat} (hF : 1 ≤ rF) (hL : 21 ≤ rL)   (S : jS) : jg q jp_M_start rF rL 33 [(0, .ref 215)] [] S 0 s_L (J_M_start_33 S) := by
  unfold J_M_start_33
  refine jg_sg 2 (pc1 := 35) (lv1 := [(0, .ref 215)]) (st1 := [.int 2, .ref 215]) (fun _ _ _ => rfl) ?_
  refine jg_csI (m2 := jp_M_fail) (As := [.ref 215, .int 2]) (r := []) (mx := 2) (jh_v (a := 215) rfl rfl rfl kc_215 rfl (Nat.le_of_ble_eq_true rfl) rfl rfl rfl (by omega) (by omega) (Nat.le_of_ble_eq_true rfl)) (kF_M_fail 2 S _ _ (by omega) (by omega) ) (fun z6 => ?_)
  refine jg_sg 1 (pc1 := 39) (lv1 := [(0, .ref 215)]) (st1 := [.long ((z6.1 : Int32).toInt64)]) (fun _ _ _ => rfl) ?_
  exact jg_rl rfl rfl rfl
noncomputable def F_M_start (p0 : Int32) (p1 : Int32) (S : jS) : Option (Int64 × jS) := j_l (w_i S 215 0 0) (fun S1 => if p1 < 0 then (J_M_start_14 S1) else (if p1 ≤ 2 then (if p0 < 0 then (J_M_start_33 S1) else (if p0 < (S1.1 215 49) then (if p1 = 0 then (j_q (j_in p0 500) (some (S1.2.1 450 ((p0 : Int32).toNatClampNeg), S1))) else (if p1 = 1 then (j_q (j_in p0 500) (some ((S1.1 451 ((p0 : Int32).toNatClampNeg) : Int32).toInt64, S1))) else (j_q (j_in p0 500) (some (S1.2.1 452 ((p0 : Int32).toNatClampNeg), S1))))) else (J_M_start_33 S1))) else (J_M_start_14 S1)))
set_option maxRecDepth 20000 in
theorem kF_M_start {q : Nat} (p0 : Int32) (p1 : Int32) (S : jS) (rF rL : Nat) (hF : 1 ≤ rF) (hL : 21 ≤ rL)  : jg q jp_M_start rF rL 0 [(0, .ref 215), (1, .int p0), (2, .int p1)] [] S 0 s_L (F_M_start p0 p1 S) := by
  unfold F_M_start
  refine jg_sg 2 (pc1 := 2) (lv1 := [(0, .ref 215), (1, .int p0), (2, .int p1)]) (st1 := [.int 0, .ref 215]) (fun _ _ _ => rfl) ?_
  refine jg_pi rfl kc_215 rfl (Nat.le_of_ble_eq_true rfl) rfl rfl (fun S1 _ => ?_)
  refine jg_sg 1 (pc1 := 6) (lv1 := [(0, .ref 215), (1, .int p0), (2, .int p1)]) (st1 := [.int p1]) (fun _ _ _ => rfl) ?_
  refine jg_br (fun _ _ _ _ k1 k2 => jt_if_lt (t := 14) rfl rfl k1 k2) (fun c2 => ?_) (fun c2 => ?_)
  · refine jg_lvs (lv1 := [(0, .ref 215)]) rfl rfl ⟨rfl, trivial⟩ ?_
    exact kJ_M_start_14 (by omega) (by omega) S1
  · refine jg_sg 2 (pc1 := 11) (lv1 := [(0, .ref 215), (1, .int p0), (2, .int p1)]) (st1 := [.int 2, .int p1]) (fun _ _ _ => rfl) ?_
    refine jg_br (fun _ _ _ _ k1 k2 => jt_icmp_le (t := 21) rfl rfl k1 k2) (fun c4 => ?_) (fun c4 => ?_)
    · refine jg_sg 1 (pc1 := 22) (lv1 := [(0, .ref 215), (1, .int p0), (2, .int p1)]) (st1 := [.int p0]) (fun _ _ _ => rfl) ?_
      refine jg_br (fun _ _ _ _ k1 k2 => jt_if_lt (t := 33) rfl rfl k1 k2) (fun c5 => ?_) (fun c5 => ?_)
      · refine jg_lvs (lv1 := [(0, .ref 215)]) rfl rfl ⟨rfl, trivial⟩ ?_
        exact kJ_M_start_33 (by omega) (by omega) S1
      · refine jg_sg 2 (pc1 := 27) (lv1 := [(0, .ref 215), (1, .int p0), (2, .int p1)]) (st1 := [.ref 215, .int p0]) (fun _ _ _ => rfl) ?_
        refine jg_g (v := .int (S1.1 215 49)) rfl kc_215 rfl rfl ?_
        refine jg_br (fun _ _ _ _ k1 k2 => jt_icmp_lt (t := 40) rfl rfl k1 k2) (fun c7 => ?_) (fun c7 => ?_)
        · refine jg_sg 1 (pc1 := 41) (lv1 := [(0, .ref 215), (1, .int p0), (2, .int p1)]) (st1 := [.int p1]) (fun _ _ _ => rfl) ?_
          refine jg_br (fun _ _ _ _ k1 k2 => jt_if_ne (t := 53) rfl rfl k2 k1) (fun c8 => ?_) (fun c8 => ?_)
          · refine jg_sg 1 (pc1 := 45) (lv1 := [(0, .ref 215), (1, .int p0), (2, .int p1)]) (st1 := [.ref 215]) (fun _ _ _ => rfl) ?_
            refine jg_g (v := .ref 450) rfl kc_215 rfl rfl ?_
            refine jg_sg 1 (pc1 := 49) (lv1 := [(0, .ref 215), (1, .int p0), (2, .int p1)]) (st1 := [.int p0, .ref 450]) (fun _ _ _ => rfl) ?_
            refine jg_lal rfl kc_450 (fun g9 => ?_)
            refine jg_sg 1 (pc1 := 74) (lv1 := [(0, .ref 215), (1, .int p0), (2, .int p1)]) (st1 := [.long (S1.2.1 450 ((p0 : Int32).toNatClampNeg))]) (fun _ _ _ => rfl) ?_
            exact jg_rl rfl rfl rfl
          · refine jg_sg 2 (pc1 := 55) (lv1 := [(0, .ref 215), (1, .int p0), (2, .int p1)]) (st1 := [.int 1, .int p1]) (fun _ _ _ => rfl) ?_
            refine jg_br (fun _ _ _ _ k1 k2 => jt_icmp_ne (t := 68) rfl rfl k2 k1) (fun c10 => ?_) (fun c10 => ?_)
            · refine jg_sg 1 (pc1 := 59) (lv1 := [(0, .ref 215), (1, .int p0), (2, .int p1)]) (st1 := [.ref 215]) (fun _ _ _ => rfl) ?_
              refine jg_g (v := .ref 451) rfl kc_215 rfl rfl ?_
              refine jg_sg 1 (pc1 := 63) (lv1 := [(0, .ref 215), (1, .int p0), (2, .int p1)]) (st1 := [.int p0, .ref 451]) (fun _ _ _ => rfl) ?_
              refine jg_ial rfl kc_451 (fun g11 => ?_)
              refine jg_sg 2 (pc1 := 74) (lv1 := [(0, .ref 215), (1, .int p0), (2, .int p1)]) (st1 := [.long ((S1.1 451 ((p0 : Int32).toNatClampNeg) : Int32).toInt64)]) (fun _ _ _ => rfl) ?_
              exact jg_rl rfl rfl rfl
            · refine jg_sg 1 (pc1 := 69) (lv1 := [(0, .ref 215), (1, .int p0), (2, .int p1)]) (st1 := [.ref 215]) (fun _ _ _ => rfl) ?_
              refine jg_g (v := .ref 452) rfl kc_215 rfl rfl ?_
              refine jg_sg 1 (pc1 := 73) (lv1 := [(0, .ref 215), (1, .int p0), (2, .int p1)]) (st1 := [.int p0, .ref 452]) (fun _ _ _ => rfl) ?_
              refine jg_lal rfl kc_452 (fun g12 => ?_)
              exact jg_rl rfl rfl rfl
        · refine jg_lvs (lv1 := [(0, .ref 215)]) rfl rfl ⟨rfl, trivial⟩ ?_
          exact kJ_M_start_33 (by omega) (by omega) S1
    · refine jg_lvs (lv1 := [(0, .ref 215)]) rfl rfl ⟨rfl, trivial⟩ ?_
      exact kJ_M_start_14 (by omega) (by omega) S1
noncomputable def J_M_feed_80 (kt27 : Int32 → Int32 → Int32 → Int32 → Int32 → Int32 → jS → Option (Int32 × jS)) (x1 : Int32) (x2 : Int32) (x3 : Int32) (x4 : Int32) (x5 : Int32) (x6 : Int32) (y0 : Int32) (S : jS) : Option (Int32 × jS) := j_q (j_in (S.1 215 2) 400) (j_l (w_i S 216 ((S.1 215 2 : Int32).toNatClampNeg) (vp_nar .byte (((y0 : Int32) >>> ((24 - (8 * (x6 - x6 / 4 * 4))) &&& 31) : Int32).toInt8.toInt32))) (fun S9 => j_l (w_i S9 215 2 ((S9.1 215 2) + 1)) (fun S10 => kt27 x1 x2 x3 x4 x5 (x6 + 1) S10)))
set_option maxRecDepth 20000 in
theorem kJ_M_feed_80 {q rF rL : Nat} (hF : 1 ≤ rF) (hL : 21 ≤ rL)  (kt27 : Int32 → Int32 → Int32 → Int32 → Int32 → Int32 → jS → Option (Int32 × jS)) (ih27 : ∀ (x1 : Int32) (x2 : Int32) (x3 : Int32) (x4 : Int32) (x5 : Int32) (x6 : Int32) (S : jS), jg q jp_M_feed rF rL 27 [(0, .ref 215), (1, .int x1), (2, .int x2), (3, .int x3), (4, .int x4), (5, .int x5), (6, .int x6)] [] S 0 s_I (kt27 x1 x2 x3 x4 x5 x6 S)) (x1 : Int32) (x2 : Int32) (x3 : Int32) (x4 : Int32) (x5 : Int32) (x6 : Int32) (y0 : Int32) (S : jS) : jg q jp_M_feed rF rL 80 [(0, .ref 215), (1, .int x1), (2, .int x2), (3, .int x3), (4, .int x4), (5, .int x5), (6, .int x6)] [.int y0] S 0 s_I (J_M_feed_80 kt27 x1 x2 x3 x4 x5 x6 y0 S) := by
  unfold J_M_feed_80
  refine jg_sg 2 (pc1 := 83) (lv1 := [(7, .int y0), (0, .ref 215), (1, .int x1), (2, .int x2), (3, .int x3), (4, .int x4), (5, .int x5), (6, .int x6)]) (st1 := [.ref 215]) (fun _ _ _ => rfl) ?_
  refine jg_g (v := .ref 216) rfl kc_215 rfl rfl ?_
  refine jg_sg 1 (pc1 := 87) (lv1 := [(7, .int y0), (0, .ref 215), (1, .int x1), (2, .int x2), (3, .int x3), (4, .int x4), (5, .int x5), (6, .int x6)]) (st1 := [.ref 215, .ref 216]) (fun _ _ _ => rfl) ?_
  refine jg_g (v := .int (S.1 215 2)) rfl kc_215 rfl rfl ?_
  refine jg_sg 5 (pc1 := 99) (lv1 := [(7, .int y0), (0, .ref 215), (1, .int x1), (2, .int x2), (3, .int x3), (4, .int x4), (5, .int x5), (6, .int x6)]) (st1 := [.int 4, .int x6, .int 8, .int 24, .int y0, .int (S.1 215 2), .ref 216]) (fun _ _ _ => rfl) ?_
  refine jg_st (fun _ _ _ _ _ k => jt_irem rfl (by decide +kernel) k) ?_
  refine jg_sg 4 (pc1 := 104) (lv1 := [(7, .int y0), (0, .ref 215), (1, .int x1), (2, .int x2), (3, .int x3), (4, .int x4), (5, .int x5), (6, .int x6)]) (st1 := [.int (((y0 : Int32) >>> ((24 - (8 * (x6 - x6 / 4 * 4))) &&& 31) : Int32).toInt8.toInt32), .int (S.1 215 2), .ref 216]) (fun _ _ _ => rfl) ?_
  refine jg_bas rfl rfl kc_216 rfl (fun g8 S9 _ => ?_)
  refine jg_sg 2 (pc1 := 107) (lv1 := [(7, .int y0), (0, .ref 215), (1, .int x1), (2, .int x2), (3, .int x3), (4, .int x4), (5, .int x5), (6, .int x6)]) (st1 := [.ref 215, .ref 215]) (fun _ _ _ => rfl) ?_
  refine jg_g (v := .int (S9.1 215 2)) rfl kc_215 rfl rfl ?_
  refine jg_sg 2 (pc1 := 112) (lv1 := [(7, .int y0), (0, .ref 215), (1, .int x1), (2, .int x2), (3, .int x3), (4, .int x4), (5, .int x5), (6, .int x6)]) (st1 := [.int ((S9.1 215 2) + 1), .ref 215]) (fun _ _ _ => rfl) ?_
  refine jg_pi rfl kc_215 rfl (Nat.le_of_ble_eq_true rfl) rfl rfl (fun S10 _ => ?_)
  refine jg_sg 2 (pc1 := 27) (lv1 := [(6, .int (x6 + 1)), (7, .int y0), (0, .ref 215), (1, .int x1), (2, .int x2), (3, .int x3), (4, .int x4), (5, .int x5)]) (st1 := []) (fun _ _ _ => rfl) ?_
  refine jg_lvs (lv1 := [(0, .ref 215), (1, .int x1), (2, .int x2), (3, .int x3), (4, .int x4), (5, .int x5), (6, .int (x6 + 1))]) rfl rfl ⟨rfl, rfl, rfl, rfl, rfl, rfl, rfl, trivial⟩ ?_
  exact ih27 x1 x2 x3 x4 x5 (x6 + 1) S10
noncomputable def L_M_feed_27  : Nat → Int32 → Int32 → Int32 → Int32 → Int32 → Int32 → jS → Option (Int32 × jS)
  | 0, _, _, _, _, _, _, _ => none
  | f + 1, x1, x2, x3, x4, x5, x6, S => if 20 ≤ x6 then (some (S.1 215 2, S)) else (if 4 ≤ x6 then (if 8 ≤ x6 then (if 12 ≤ x6 then (if 16 ≤ x6 then (J_M_feed_80 (L_M_feed_27 f) x1 x2 x3 x4 x5 x6 x5 S) else (J_M_feed_80 (L_M_feed_27 f) x1 x2 x3 x4 x5 x6 x4 S)) else (J_M_feed_80 (L_M_feed_27 f) x1 x2 x3 x4 x5 x6 x3 S)) else (J_M_feed_80 (L_M_feed_27 f) x1 x2 x3 x4 x5 x6 x2 S)) else (J_M_feed_80 (L_M_feed_27 f) x1 x2 x3 x4 x5 x6 x1 S))
set_option maxRecDepth 20000 in
theorem kL_M_feed_27 {q rF rL : Nat} (hF : 1 ≤ rF) (hL : 21 ≤ rL)   : ∀ (f : Nat) (x1 : Int32) (x2 : Int32) (x3 : Int32) (x4 : Int32) (x5 : Int32) (x6 : Int32) (S : jS), jg q jp_M_feed rF rL 27 [(0, .ref 215), (1, .int x1), (2, .int x2), (3, .int x3), (4, .int x4), (5, .int x5), (6, .int x6)] [] S 0 s_I (L_M_feed_27 f x1 x2 x3 x4 x5 x6 S) := by
  intro f
  induction f with
  | zero => intro _ _ _ _ _ _ _; exact jg_none
  | succ f ih27 =>
    intro x1 x2 x3 x4 x5 x6 S
    rw [L_M_feed_27]
    refine jg_sg 2 (pc1 := 31) (lv1 := [(0, .ref 215), (1, .int x1), (2, .int x2), (3, .int x3), (4, .int x4), (5, .int x5), (6, .int x6)]) (st1 := [.int 20, .int x6]) (fun _ _ _ => rfl) ?_
    refine jg_br (fun _ _ _ _ k1 k2 => jt_icmp_ge (t := 121) rfl rfl k1 k2) (fun c3 => ?_) (fun c3 => ?_)
    · refine jg_sg 1 (pc1 := 122) (lv1 := [(0, .ref 215), (1, .int x1), (2, .int x2), (3, .int x3), (4, .int x4), (5, .int x5), (6, .int x6)]) (st1 := [.ref 215]) (fun _ _ _ => rfl) ?_
      refine jg_g (v := .int (S.1 215 2)) rfl kc_215 rfl rfl ?_
      exact jg_ri rfl rfl rfl rfl
    · refine jg_sg 2 (pc1 := 37) (lv1 := [(0, .ref 215), (1, .int x1), (2, .int x2), (3, .int x3), (4, .int x4), (5, .int x5), (6, .int x6)]) (st1 := [.int 4, .int x6]) (fun _ _ _ => rfl) ?_
      refine jg_br (fun _ _ _ _ k1 k2 => jt_icmp_ge (t := 44) rfl rfl k1 k2) (fun c4 => ?_) (fun c4 => ?_)
      · refine jg_sg 2 (pc1 := 48) (lv1 := [(0, .ref 215), (1, .int x1), (2, .int x2), (3, .int x3), (4, .int x4), (5, .int x5), (6, .int x6)]) (st1 := [.int 8, .int x6]) (fun _ _ _ => rfl) ?_
        refine jg_br (fun _ _ _ _ k1 k2 => jt_icmp_ge (t := 55) rfl rfl k1 k2) (fun c5 => ?_) (fun c5 => ?_)
        · refine jg_sg 2 (pc1 := 59) (lv1 := [(0, .ref 215), (1, .int x1), (2, .int x2), (3, .int x3), (4, .int x4), (5, .int x5), (6, .int x6)]) (st1 := [.int 12, .int x6]) (fun _ _ _ => rfl) ?_
          refine jg_br (fun _ _ _ _ k1 k2 => jt_icmp_ge (t := 66) rfl rfl k1 k2) (fun c6 => ?_) (fun c6 => ?_)
          · refine jg_sg 2 (pc1 := 70) (lv1 := [(0, .ref 215), (1, .int x1), (2, .int x2), (3, .int x3), (4, .int x4), (5, .int x5), (6, .int x6)]) (st1 := [.int 16, .int x6]) (fun _ _ _ => rfl) ?_
            refine jg_br (fun _ _ _ _ k1 k2 => jt_icmp_ge (t := 78) rfl rfl k1 k2) (fun c7 => ?_) (fun c7 => ?_)
            · refine jg_sg 1 (pc1 := 80) (lv1 := [(0, .ref 215), (1, .int x1), (2, .int x2), (3, .int x3), (4, .int x4), (5, .int x5), (6, .int x6)]) (st1 := [.int x5]) (fun _ _ _ => rfl) ?_
              refine jg_lvs (lv1 := [(0, .ref 215), (1, .int x1), (2, .int x2), (3, .int x3), (4, .int x4), (5, .int x5), (6, .int x6)]) rfl rfl ⟨rfl, rfl, rfl, rfl, rfl, rfl, rfl, trivial⟩ ?_
              exact kJ_M_feed_80 (by omega) (by omega) (L_M_feed_27 f) ih27 x1 x2 x3 x4 x5 x6 x5 S
            · refine jg_sg 2 (pc1 := 80) (lv1 := [(0, .ref 215), (1, .int x1), (2, .int x2), (3, .int x3), (4, .int x4), (5, .int x5), (6, .int x6)]) (st1 := [.int x4]) (fun _ _ _ => rfl) ?_
              refine jg_lvs (lv1 := [(0, .ref 215), (1, .int x1), (2, .int x2), (3, .int x3), (4, .int x4), (5, .int x5), (6, .int x6)]) rfl rfl ⟨rfl, rfl, rfl, rfl, rfl, rfl, rfl, trivial⟩ ?_
              exact kJ_M_feed_80 (by omega) (by omega) (L_M_feed_27 f) ih27 x1 x2 x3 x4 x5 x6 x4 S
          · refine jg_sg 2 (pc1 := 80) (lv1 := [(0, .ref 215), (1, .int x1), (2, .int x2), (3, .int x3), (4, .int x4), (5, .int x5), (6, .int x6)]) (st1 := [.int x3]) (fun _ _ _ => rfl) ?_
            refine jg_lvs (lv1 := [(0, .ref 215), (1, .int x1), (2, .int x2), (3, .int x3), (4, .int x4), (5, .int x5), (6, .int x6)]) rfl rfl ⟨rfl, rfl, rfl, rfl, rfl, rfl, rfl, trivial⟩ ?_
            exact kJ_M_feed_80 (by omega) (by omega) (L_M_feed_27 f) ih27 x1 x2 x3 x4 x5 x6 x3 S
        · refine jg_sg 2 (pc1 := 80) (lv1 := [(0, .ref 215), (1, .int x1), (2, .int x2), (3, .int x3), (4, .int x4), (5, .int x5), (6, .int x6)]) (st1 := [.int x2]) (fun _ _ _ => rfl) ?_
          refine jg_lvs (lv1 := [(0, .ref 215), (1, .int x1), (2, .int x2), (3, .int x3), (4, .int x4), (5, .int x5), (6, .int x6)]) rfl rfl ⟨rfl, rfl, rfl, rfl, rfl, rfl, rfl, trivial⟩ ?_
          exact kJ_M_feed_80 (by omega) (by omega) (L_M_feed_27 f) ih27 x1 x2 x3 x4 x5 x6 x2 S
      · refine jg_sg 2 (pc1 := 80) (lv1 := [(0, .ref 215), (1, .int x1), (2, .int x2), (3, .int x3), (4, .int x4), (5, .int x5), (6, .int x6)]) (st1 := [.int x1]) (fun _ _ _ => rfl) ?_
        refine jg_lvs (lv1 := [(0, .ref 215), (1, .int x1), (2, .int x2), (3, .int x3), (4, .int x4), (5, .int x5), (6, .int x6)]) rfl rfl ⟨rfl, rfl, rfl, rfl, rfl, rfl, rfl, trivial⟩ ?_
        exact kJ_M_feed_80 (by omega) (by omega) (L_M_feed_27 f) ih27 x1 x2 x3 x4 x5 x6 x1 S
noncomputable def F_M_feed (p0 : Int32) (p1 : Int32) (p2 : Int32) (p3 : Int32) (p4 : Int32) (S : jS) : Option (Int32 × jS) := j_l (w_i S 215 0 0) (fun S1 => if ((S1.1 215 2) + 20) ≤ 400 then (L_M_feed_27 ju_ p0 p1 p2 p3 p4 0 S1) else ((F_M_fail 1 S1).bind (fun z11 => some (z11.1, z11.2))))
set_option maxRecDepth 20000 in
theorem kF_M_feed {q : Nat} (p0 : Int32) (p1 : Int32) (p2 : Int32) (p3 : Int32) (p4 : Int32) (S : jS) (rF rL : Nat) (hF : 1 ≤ rF) (hL : 21 ≤ rL)  : jg q jp_M_feed rF rL 0 [(0, .ref 215), (1, .int p0), (2, .int p1), (3, .int p2), (4, .int p3), (5, .int p4)] [] S 0 s_I (F_M_feed p0 p1 p2 p3 p4 S) := by
  unfold F_M_feed
  refine jg_sg 2 (pc1 := 2) (lv1 := [(0, .ref 215), (1, .int p0), (2, .int p1), (3, .int p2), (4, .int p3), (5, .int p4)]) (st1 := [.int 0, .ref 215]) (fun _ _ _ => rfl) ?_
  refine jg_pi rfl kc_215 rfl (Nat.le_of_ble_eq_true rfl) rfl rfl (fun S1 _ => ?_)
  refine jg_sg 1 (pc1 := 6) (lv1 := [(0, .ref 215), (1, .int p0), (2, .int p1), (3, .int p2), (4, .int p3), (5, .int p4)]) (st1 := [.ref 215]) (fun _ _ _ => rfl) ?_
  refine jg_g (v := .int (S1.1 215 2)) rfl kc_215 rfl rfl ?_
  refine jg_sg 3 (pc1 := 15) (lv1 := [(0, .ref 215), (1, .int p0), (2, .int p1), (3, .int p2), (4, .int p3), (5, .int p4)]) (st1 := [.int 400, .int ((S1.1 215 2) + 20)]) (fun _ _ _ => rfl) ?_
  refine jg_br (fun _ _ _ _ k1 k2 => jt_icmp_le (t := 24) rfl rfl k1 k2) (fun c2 => ?_) (fun c2 => ?_)
  · refine jg_sg 2 (pc1 := 27) (lv1 := [(6, .int 0), (0, .ref 215), (1, .int p0), (2, .int p1), (3, .int p2), (4, .int p3), (5, .int p4)]) (st1 := []) (fun _ _ _ => rfl) ?_
    refine jg_lvs (lv1 := [(0, .ref 215), (1, .int p0), (2, .int p1), (3, .int p2), (4, .int p3), (5, .int p4), (6, .int 0)]) rfl rfl ⟨rfl, rfl, rfl, rfl, rfl, rfl, rfl, trivial⟩ ?_
    exact kL_M_feed_27 (by omega) (by omega) ju_ p0 p1 p2 p3 p4 0 S1
  · refine jg_sg 2 (pc1 := 20) (lv1 := [(0, .ref 215), (1, .int p0), (2, .int p1), (3, .int p2), (4, .int p3), (5, .int p4)]) (st1 := [.int 1, .ref 215]) (fun _ _ _ => rfl) ?_
    refine jg_csI (m2 := jp_M_fail) (As := [.ref 215, .int 1]) (r := []) (mx := 2) (jh_v (a := 215) rfl rfl rfl kc_215 rfl (Nat.le_of_ble_eq_true rfl) rfl rfl rfl (by omega) (by omega) (Nat.le_of_ble_eq_true rfl)) (kF_M_fail 1 S1 _ _ (by omega) (by omega) ) (fun z11 => ?_)
    exact jg_ri rfl rfl rfl rfl
noncomputable def J_M_end_17 (S : jS) : Option (Int32 × jS) := (F_M_fail 1 S).bind (fun z3 => some (z3.1, z3.2))
set_option maxRecDepth 20000 in
theorem kJ_M_end_17 {q rF rL : Nat} (hF : 1 ≤ rF) (hL : 21 ≤ rL)   (S : jS) : jg q jp_M_end rF rL 17 [(0, .ref 215)] [] S 0 s_I (J_M_end_17 S) := by
  unfold J_M_end_17
  refine jg_sg 2 (pc1 := 19) (lv1 := [(0, .ref 215)]) (st1 := [.int 1, .ref 215]) (fun _ _ _ => rfl) ?_
  refine jg_csI (m2 := jp_M_fail) (As := [.ref 215, .int 1]) (r := []) (mx := 2) (jh_v (a := 215) rfl rfl rfl kc_215 rfl (Nat.le_of_ble_eq_true rfl) rfl rfl rfl (by omega) (by omega) (Nat.le_of_ble_eq_true rfl)) (kF_M_fail 1 S _ _ (by omega) (by omega) ) (fun z3 => ?_)
  exact jg_ri rfl rfl rfl rfl
noncomputable def F_M_end (p0 : Int32) (S : jS) : Option (Int32 × jS) := j_l (w_i S 215 0 0) (fun S1 => if p0 < 0 then (J_M_end_17 S1) else (if p0 ≤ (S1.1 215 2) then (j_l (w_i S1 215 2 p0) (fun S5 => some (p0, S5))) else (J_M_end_17 S1)))
set_option maxRecDepth 20000 in
theorem kF_M_end {q : Nat} (p0 : Int32) (S : jS) (rF rL : Nat) (hF : 1 ≤ rF) (hL : 21 ≤ rL)  : jg q jp_M_end rF rL 0 [(0, .ref 215), (1, .int p0)] [] S 0 s_I (F_M_end p0 S) := by
  unfold F_M_end
  refine jg_sg 2 (pc1 := 2) (lv1 := [(0, .ref 215), (1, .int p0)]) (st1 := [.int 0, .ref 215]) (fun _ _ _ => rfl) ?_
  refine jg_pi rfl kc_215 rfl (Nat.le_of_ble_eq_true rfl) rfl rfl (fun S1 _ => ?_)
  refine jg_sg 1 (pc1 := 6) (lv1 := [(0, .ref 215), (1, .int p0)]) (st1 := [.int p0]) (fun _ _ _ => rfl) ?_
  refine jg_br (fun _ _ _ _ k1 k2 => jt_if_lt (t := 17) rfl rfl k1 k2) (fun c2 => ?_) (fun c2 => ?_)
  · refine jg_lvs (lv1 := [(0, .ref 215)]) rfl rfl ⟨rfl, trivial⟩ ?_
    exact kJ_M_end_17 (by omega) (by omega) S1
  · refine jg_sg 2 (pc1 := 11) (lv1 := [(0, .ref 215), (1, .int p0)]) (st1 := [.ref 215, .int p0]) (fun _ _ _ => rfl) ?_
    refine jg_g (v := .int (S1.1 215 2)) rfl kc_215 rfl rfl ?_
    refine jg_br (fun _ _ _ _ k1 k2 => jt_icmp_le (t := 23) rfl rfl k1 k2) (fun c4 => ?_) (fun c4 => ?_)
    · refine jg_sg 2 (pc1 := 25) (lv1 := [(0, .ref 215), (1, .int p0)]) (st1 := [.int p0, .ref 215]) (fun _ _ _ => rfl) ?_
      refine jg_pi rfl kc_215 rfl (Nat.le_of_ble_eq_true rfl) rfl rfl (fun S5 _ => ?_)
      refine jg_sg 1 (pc1 := 29) (lv1 := [(0, .ref 215), (1, .int p0)]) (st1 := [.int p0]) (fun _ _ _ => rfl) ?_
      exact jg_ri rfl rfl rfl rfl
    · refine jg_lvs (lv1 := [(0, .ref 215)]) rfl rfl ⟨rfl, trivial⟩ ?_
      exact kJ_M_end_17 (by omega) (by omega) S1
end JF17
