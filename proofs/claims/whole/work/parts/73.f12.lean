section JF12
noncomputable def L_M_readCron_299  : Nat → Int32 → Int32 → jS → Option (Option Nat × jS)
  | 0, _, _, _ => none
  | f + 1, x1, x3, S => if 2 ≤ x3 then (j_q (j_in x1 16) (j_l (w_i S 376 ((x1 : Int32).toNatClampNeg) (vp_nar .boolean 1)) (fun S8 => some (none, S8)))) else (j_q (j_in x1 16) (j_q (j_in (3 * x3) 6) (j_q (j_in x3 2) (j_l (w_i S (378 + ((x1 : Int32).toNatClampNeg)) ((x3 : Int32).toNatClampNeg) (S.1 453 ((3 * x3 : Int32).toNatClampNeg))) (fun S12 => j_q (j_in x1 16) (j_q (j_in ((3 * x3) + 1) 6) (j_q (j_in x3 2) (j_l (w_i S12 (395 + ((x1 : Int32).toNatClampNeg)) ((x3 : Int32).toNatClampNeg) (S12.1 453 (((3 * x3) + 1 : Int32).toNatClampNeg))) (fun S16 => j_q (j_in x1 16) (j_q (j_in ((3 * x3) + 2) 6) (j_q (j_in x3 2) (j_l (w_i S16 (412 + ((x1 : Int32).toNatClampNeg)) ((x3 : Int32).toNatClampNeg) (S16.1 453 (((3 * x3) + 2 : Int32).toNatClampNeg))) (fun S20 => (L_M_readCron_299 f) x1 (x3 + 1) S20)))))))))))))
set_option maxRecDepth 20000 in
theorem kL_M_readCron_299 {q rF rL : Nat} (hF : 11 ≤ rF) (hL : 227 ≤ rL) (hq : 453 < q)   : ∀ (f : Nat) (x1 : Int32) (x3 : Int32) (S : jS), jg q jp_M_readCron rF rL 299 [(0, .ref 215), (1, .int x1), (2, .ref q), (3, .int x3)] [] S 0 x_V (L_M_readCron_299 f x1 x3 S) := by
  intro f
  induction f with
  | zero => intro _ _ _; exact jg_none
  | succ f ih299 =>
    intro x1 x3 S
    rw [L_M_readCron_299]
    refine jg_sg 2 (pc1 := 301) (lv1 := [(0, .ref 215), (1, .int x1), (2, .ref q), (3, .int x3)]) (st1 := [.int 2, .int x3]) (fun _ _ _ => rfl) ?_
    refine jg_br (fun _ _ _ _ k1 k2 => jt_icmp_ge (t := 353) rfl rfl k1 k2) (fun c6 => ?_) (fun c6 => ?_)
    · refine jg_sg 1 (pc1 := 354) (lv1 := [(0, .ref 215), (1, .int x1), (2, .ref q), (3, .int x3)]) (st1 := [.ref 215]) (fun _ _ _ => rfl) ?_
      refine jg_g (v := .ref 376) rfl kc_215 rfl rfl ?_
      refine jg_sg 2 (pc1 := 359) (lv1 := [(0, .ref 215), (1, .int x1), (2, .ref q), (3, .int x3)]) (st1 := [.int 1, .int x1, .ref 376]) (fun _ _ _ => rfl) ?_
      refine jg_bas rfl rfl kc_376 rfl (fun g7 S8 _ => ?_)
      exact jg_rv rfl rfl rfl
    · refine jg_sg 1 (pc1 := 305) (lv1 := [(0, .ref 215), (1, .int x1), (2, .ref q), (3, .int x3)]) (st1 := [.ref 215]) (fun _ _ _ => rfl) ?_
      refine jg_g (v := .ref 377) rfl kc_215 rfl rfl ?_
      refine jg_sg 1 (pc1 := 309) (lv1 := [(0, .ref 215), (1, .int x1), (2, .ref q), (3, .int x3)]) (st1 := [.int x1, .ref 377]) (fun _ _ _ => rfl) ?_
      refine jg_aal (w := 378 + ((x1 : Int32).toNatClampNeg)) rfl rfl kc_377 rfl (fun g9 => ?_)
      refine jg_sg 5 (pc1 := 315) (lv1 := [(0, .ref 215), (1, .int x1), (2, .ref q), (3, .int x3)]) (st1 := [.int (3 * x3), .ref q, .int x3, .ref (378 + ((x1 : Int32).toNatClampNeg))]) (fun _ _ _ => rfl) ?_
      refine jg_ialq rfl hq (fun g10 => ?_)
      refine jg_ias rfl (kc_w2 (jr_m g9)) (fun g11 S12 _ => ?_)
      refine jg_sg 1 (pc1 := 318) (lv1 := [(0, .ref 215), (1, .int x1), (2, .ref q), (3, .int x3)]) (st1 := [.ref 215]) (fun _ _ _ => rfl) ?_
      refine jg_g (v := .ref 394) rfl kc_215 rfl rfl ?_
      refine jg_sg 1 (pc1 := 322) (lv1 := [(0, .ref 215), (1, .int x1), (2, .ref q), (3, .int x3)]) (st1 := [.int x1, .ref 394]) (fun _ _ _ => rfl) ?_
      refine jg_aal (w := 395 + ((x1 : Int32).toNatClampNeg)) rfl rfl kc_394 rfl (fun g13 => ?_)
      refine jg_sg 7 (pc1 := 330) (lv1 := [(0, .ref 215), (1, .int x1), (2, .ref q), (3, .int x3)]) (st1 := [.int ((3 * x3) + 1), .ref q, .int x3, .ref (395 + ((x1 : Int32).toNatClampNeg))]) (fun _ _ _ => rfl) ?_
      refine jg_ialq rfl hq (fun g14 => ?_)
      refine jg_ias rfl (kc_f2 (jr_m g13)) (fun g15 S16 _ => ?_)
      refine jg_sg 1 (pc1 := 333) (lv1 := [(0, .ref 215), (1, .int x1), (2, .ref q), (3, .int x3)]) (st1 := [.ref 215]) (fun _ _ _ => rfl) ?_
      refine jg_g (v := .ref 411) rfl kc_215 rfl rfl ?_
      refine jg_sg 1 (pc1 := 337) (lv1 := [(0, .ref 215), (1, .int x1), (2, .ref q), (3, .int x3)]) (st1 := [.int x1, .ref 411]) (fun _ _ _ => rfl) ?_
      refine jg_aal (w := 412 + ((x1 : Int32).toNatClampNeg)) rfl rfl kc_411 rfl (fun g17 => ?_)
      refine jg_sg 7 (pc1 := 345) (lv1 := [(0, .ref 215), (1, .int x1), (2, .ref q), (3, .int x3)]) (st1 := [.int ((3 * x3) + 2), .ref q, .int x3, .ref (412 + ((x1 : Int32).toNatClampNeg))]) (fun _ _ _ => rfl) ?_
      refine jg_ialq rfl hq (fun g18 => ?_)
      refine jg_ias rfl (kc_s2 (jr_m g17)) (fun g19 S20 _ => ?_)
      refine jg_sg 2 (pc1 := 299) (lv1 := [(3, .int (x3 + 1)), (0, .ref 215), (1, .int x1), (2, .ref q)]) (st1 := []) (fun _ _ _ => rfl) ?_
      refine jg_lvs (lv1 := [(0, .ref 215), (1, .int x1), (2, .ref q), (3, .int (x3 + 1))]) rfl rfl ⟨rfl, rfl, rfl, rfl, trivial⟩ ?_
      exact ih299 x1 (x3 + 1) S20
noncomputable def L_M_readCron_257 (kt248 : Int32 → Int32 → jS → Option (Option Nat × jS)) : Nat → Int32 → Int32 → Int32 → jS → Option (Option Nat × jS)
  | 0, _, _, _, _ => none
  | f + 1, x1, x3, x4, S => if 330 ≤ x4 then (kt248 x1 (x3 + 1) S) else (j_q (j_in x1 16) (j_q (j_in x3 7) (j_q (j_in x3 7) (j_q (j_in x4 330) (j_q (j_in x4 330) (j_l (w_i S ((240 + ((x1 : Int32).toNatClampNeg) * 8) + 1 + ((x3 : Int32).toNatClampNeg)) ((x4 : Int32).toNatClampNeg) (vp_nar .boolean (S.1 (369 + ((x3 : Int32).toNatClampNeg)) ((x4 : Int32).toNatClampNeg)))) (fun S27 => (L_M_readCron_257 kt248 f) x1 x3 (x4 + 1) S27)))))))
set_option maxRecDepth 20000 in
theorem kL_M_readCron_257 {q rF rL : Nat} (hF : 11 ≤ rF) (hL : 227 ≤ rL) (hq : 453 < q)  (kt248 : Int32 → Int32 → jS → Option (Option Nat × jS)) (ih248 : ∀ (x1 : Int32) (x3 : Int32) (S : jS), jg q jp_M_readCron rF rL 248 [(0, .ref 215), (1, .int x1), (2, .ref q), (3, .int x3)] [] S 0 x_V (kt248 x1 x3 S)) : ∀ (f : Nat) (x1 : Int32) (x3 : Int32) (x4 : Int32) (S : jS), jg q jp_M_readCron rF rL 257 [(0, .ref 215), (1, .int x1), (2, .ref q), (3, .int x3), (4, .int x4)] [] S 0 x_V (L_M_readCron_257 kt248 f x1 x3 x4 S) := by
  intro f
  induction f with
  | zero => intro _ _ _ _; exact jg_none
  | succ f ih257 =>
    intro x1 x3 x4 S
    rw [L_M_readCron_257]
    refine jg_sg 2 (pc1 := 262) (lv1 := [(0, .ref 215), (1, .int x1), (2, .ref q), (3, .int x3), (4, .int x4)]) (st1 := [.int 330, .int x4]) (fun _ _ _ => rfl) ?_
    refine jg_br (fun _ _ _ _ k1 k2 => jt_icmp_ge (t := 291) rfl rfl k1 k2) (fun c21 => ?_) (fun c21 => ?_)
    · refine jg_sg 2 (pc1 := 248) (lv1 := [(3, .int (x3 + 1)), (0, .ref 215), (1, .int x1), (2, .ref q), (4, .int x4)]) (st1 := []) (fun _ _ _ => rfl) ?_
      refine jg_lvs (lv1 := [(0, .ref 215), (1, .int x1), (2, .ref q), (3, .int (x3 + 1))]) rfl rfl ⟨rfl, rfl, rfl, rfl, trivial⟩ ?_
      exact ih248 x1 (x3 + 1) S
    · refine jg_sg 1 (pc1 := 266) (lv1 := [(0, .ref 215), (1, .int x1), (2, .ref q), (3, .int x3), (4, .int x4)]) (st1 := [.ref 215]) (fun _ _ _ => rfl) ?_
      refine jg_g (v := .ref 239) rfl kc_215 rfl rfl ?_
      refine jg_sg 1 (pc1 := 270) (lv1 := [(0, .ref 215), (1, .int x1), (2, .ref q), (3, .int x3), (4, .int x4)]) (st1 := [.int x1, .ref 239]) (fun _ _ _ => rfl) ?_
      refine jg_aal (w := 240 + ((x1 : Int32).toNatClampNeg) * 8) rfl rfl kc_239 rfl (fun g22 => ?_)
      refine jg_sg 1 (pc1 := 272) (lv1 := [(0, .ref 215), (1, .int x1), (2, .ref q), (3, .int x3), (4, .int x4)]) (st1 := [.int x3, .ref (240 + ((x1 : Int32).toNatClampNeg) * 8)]) (fun _ _ _ => rfl) ?_
      refine jg_aal (w := (240 + ((x1 : Int32).toNatClampNeg) * 8) + 1 + ((x3 : Int32).toNatClampNeg)) rfl rfl (kc_sk (jk_m g22)) rfl (fun g23 => ?_)
      refine jg_sg 2 (pc1 := 276) (lv1 := [(0, .ref 215), (1, .int x1), (2, .ref q), (3, .int x3), (4, .int x4)]) (st1 := [.ref 215, .int x4, .ref ((240 + ((x1 : Int32).toNatClampNeg) * 8) + 1 + ((x3 : Int32).toNatClampNeg))]) (fun _ _ _ => rfl) ?_
      refine jg_g (v := .ref 368) rfl kc_215 rfl rfl ?_
      refine jg_sg 1 (pc1 := 280) (lv1 := [(0, .ref 215), (1, .int x1), (2, .ref q), (3, .int x3), (4, .int x4)]) (st1 := [.int x3, .ref 368, .int x4, .ref ((240 + ((x1 : Int32).toNatClampNeg) * 8) + 1 + ((x3 : Int32).toNatClampNeg))]) (fun _ _ _ => rfl) ?_
      refine jg_aal (w := 369 + ((x3 : Int32).toNatClampNeg)) rfl rfl kc_368 rfl (fun g24 => ?_)
      refine jg_sg 1 (pc1 := 283) (lv1 := [(0, .ref 215), (1, .int x1), (2, .ref q), (3, .int x3), (4, .int x4)]) (st1 := [.int x4, .ref (369 + ((x3 : Int32).toNatClampNeg)), .int x4, .ref ((240 + ((x1 : Int32).toNatClampNeg) * 8) + 1 + ((x3 : Int32).toNatClampNeg))]) (fun _ _ _ => rfl) ?_
      refine jg_bal rfl rfl (kc_tr (jr_m g24)) (fun g25 => ?_)
      refine jg_bas rfl rfl (kc_sb (jf_m (jk_m g22) g23)) rfl (fun g26 S27 _ => ?_)
      refine jg_sg 2 (pc1 := 257) (lv1 := [(4, .int (x4 + 1)), (0, .ref 215), (1, .int x1), (2, .ref q), (3, .int x3)]) (st1 := []) (fun _ _ _ => rfl) ?_
      refine jg_lvs (lv1 := [(0, .ref 215), (1, .int x1), (2, .ref q), (3, .int x3), (4, .int (x4 + 1))]) rfl rfl ⟨rfl, rfl, rfl, rfl, rfl, trivial⟩ ?_
      exact ih257 x1 x3 (x4 + 1) S27
noncomputable def L_M_readCron_248  : Nat → Int32 → Int32 → jS → Option (Option Nat × jS)
  | 0, _, _, _ => none
  | f + 1, x1, x3, S => if 7 ≤ x3 then (L_M_readCron_299 ju_ x1 0 S) else (L_M_readCron_257 (L_M_readCron_248 f) ju_ x1 x3 0 S)
set_option maxRecDepth 20000 in
theorem kL_M_readCron_248 {q rF rL : Nat} (hF : 11 ≤ rF) (hL : 227 ≤ rL) (hq : 453 < q)   : ∀ (f : Nat) (x1 : Int32) (x3 : Int32) (S : jS), jg q jp_M_readCron rF rL 248 [(0, .ref 215), (1, .int x1), (2, .ref q), (3, .int x3)] [] S 0 x_V (L_M_readCron_248 f x1 x3 S) := by
  intro f
  induction f with
  | zero => intro _ _ _; exact jg_none
  | succ f ih248 =>
    intro x1 x3 S
    rw [L_M_readCron_248]
    refine jg_sg 2 (pc1 := 251) (lv1 := [(0, .ref 215), (1, .int x1), (2, .ref q), (3, .int x3)]) (st1 := [.int 7, .int x3]) (fun _ _ _ => rfl) ?_
    refine jg_br (fun _ _ _ _ k1 k2 => jt_icmp_ge (t := 297) rfl rfl k1 k2) (fun c5 => ?_) (fun c5 => ?_)
    · refine jg_sg 2 (pc1 := 299) (lv1 := [(3, .int 0), (0, .ref 215), (1, .int x1), (2, .ref q)]) (st1 := []) (fun _ _ _ => rfl) ?_
      refine jg_lvs (lv1 := [(0, .ref 215), (1, .int x1), (2, .ref q), (3, .int 0)]) rfl rfl ⟨rfl, rfl, rfl, rfl, trivial⟩ ?_
      exact kL_M_readCron_299 (by omega) (by omega) hq ju_ x1 0 S
    · refine jg_sg 2 (pc1 := 257) (lv1 := [(4, .int 0), (0, .ref 215), (1, .int x1), (2, .ref q), (3, .int x3)]) (st1 := []) (fun _ _ _ => rfl) ?_
      refine jg_lvs (lv1 := [(0, .ref 215), (1, .int x1), (2, .ref q), (3, .int x3), (4, .int 0)]) rfl rfl ⟨rfl, rfl, rfl, rfl, rfl, trivial⟩ ?_
      exact kL_M_readCron_257 (by omega) (by omega) hq (L_M_readCron_248 f) ih248 ju_ x1 x3 0 S
noncomputable def J_M_readCron_227 (x1 : Int32) (S : jS) : Option (Option Nat × jS) := if (S.1 215 2) ≤ (S.1 215 7) then (L_M_readCron_248 ju_ x1 0 S) else (j_xv (F_M_bad (S.1 215 7) S) (fun c S => (some c, S)) (fun S28 => L_M_readCron_248 ju_ x1 0 S28))
set_option maxRecDepth 20000 in
theorem kJ_M_readCron_227 {q rF rL : Nat} (hF : 11 ≤ rF) (hL : 227 ≤ rL) (hq : 453 < q)   (x1 : Int32) (S : jS) : jg q jp_M_readCron rF rL 227 [(0, .ref 215), (1, .int x1), (2, .ref q)] [] S 0 x_V (J_M_readCron_227 x1 S) := by
  unfold J_M_readCron_227
  refine jg_sg 1 (pc1 := 228) (lv1 := [(0, .ref 215), (1, .int x1), (2, .ref q)]) (st1 := [.ref 215]) (fun _ _ _ => rfl) ?_
  refine jg_g (v := .int (S.1 215 7)) rfl kc_215 rfl rfl ?_
  refine jg_sg 1 (pc1 := 232) (lv1 := [(0, .ref 215), (1, .int x1), (2, .ref q)]) (st1 := [.ref 215, .int (S.1 215 7)]) (fun _ _ _ => rfl) ?_
  refine jg_g (v := .int (S.1 215 2)) rfl kc_215 rfl rfl ?_
  refine jg_br (fun _ _ _ _ k1 k2 => jt_icmp_ge (t := 246) rfl rfl k1 k2) (fun c4 => ?_) (fun c4 => ?_)
  · refine jg_sg 2 (pc1 := 248) (lv1 := [(3, .int 0), (0, .ref 215), (1, .int x1), (2, .ref q)]) (st1 := []) (fun _ _ _ => rfl) ?_
    refine jg_lvs (lv1 := [(0, .ref 215), (1, .int x1), (2, .ref q), (3, .int 0)]) rfl rfl ⟨rfl, rfl, rfl, rfl, trivial⟩ ?_
    exact kL_M_readCron_248 (by omega) (by omega) hq ju_ x1 0 S
  · refine jg_sg 2 (pc1 := 240) (lv1 := [(0, .ref 215), (1, .int x1), (2, .ref q)]) (st1 := [.ref 215, .ref 215]) (fun _ _ _ => rfl) ?_
    refine jg_g (v := .int (S.1 215 7)) rfl kc_215 rfl rfl ?_
    refine jg_cxV (m2 := jp_M_bad) (As := [.ref 215, .int (S.1 215 7)]) (r := []) (mx := 2) (jh_v (a := 215) rfl rfl rfl kc_215 rfl (Nat.le_of_ble_eq_true rfl) rfl rfl rfl (by omega) (by omega) (Nat.le_of_ble_eq_true rfl)) rfl (fun _ _ => rfl) (kF_M_bad (S.1 215 7) S _ _ (by omega) (by omega) ) (fun S28 => ?_)
    refine jg_sg 2 (pc1 := 248) (lv1 := [(3, .int 0), (0, .ref 215), (1, .int x1), (2, .ref q)]) (st1 := []) (fun _ _ _ => rfl) ?_
    refine jg_lvs (lv1 := [(0, .ref 215), (1, .int x1), (2, .ref q), (3, .int 0)]) rfl rfl ⟨rfl, rfl, rfl, rfl, trivial⟩ ?_
    exact kL_M_readCron_248 (by omega) (by omega) hq ju_ x1 0 S28
noncomputable def L_M_readCron_38  : Nat → Int32 → Int32 → jS → Option (Option Nat × jS)
  | 0, _, _, _ => none
  | f + 1, x1, x4, S => if 330 ≤ x4 then (J_M_readCron_227 x1 S) else (j_q (j_in 6 7) (j_q (j_in x4 330) (j_l (w_i S (369 + ((6 : Int32).toNatClampNeg)) ((x4 : Int32).toNatClampNeg) (vp_nar .boolean 1)) (fun S34 => (L_M_readCron_38 f) x1 (x4 + 1) S34))))
set_option maxRecDepth 20000 in
theorem kL_M_readCron_38 {q rF rL : Nat} (hF : 11 ≤ rF) (hL : 227 ≤ rL) (hq : 453 < q)   : ∀ (f : Nat) (x1 : Int32) (x4 : Int32) (S : jS), jg q jp_M_readCron rF rL 38 [(0, .ref 215), (1, .int x1), (2, .ref q), (4, .int x4)] [] S 0 x_V (L_M_readCron_38 f x1 x4 S) := by
  intro f
  induction f with
  | zero => intro _ _ _; exact jg_none
  | succ f ih38 =>
    intro x1 x4 S
    rw [L_M_readCron_38]
    refine jg_sg 2 (pc1 := 43) (lv1 := [(0, .ref 215), (1, .int x1), (2, .ref q), (4, .int x4)]) (st1 := [.int 330, .int x4]) (fun _ _ _ => rfl) ?_
    refine jg_br (fun _ _ _ _ k1 k2 => jt_icmp_ge (t := 63) rfl rfl k1 k2) (fun c31 => ?_) (fun c31 => ?_)
    · refine jg_sg 1 (pc1 := 227) (lv1 := [(0, .ref 215), (1, .int x1), (2, .ref q), (4, .int x4)]) (st1 := []) (fun _ _ _ => rfl) ?_
      refine jg_lvs (lv1 := [(0, .ref 215), (1, .int x1), (2, .ref q)]) rfl rfl ⟨rfl, rfl, rfl, trivial⟩ ?_
      exact kJ_M_readCron_227 (by omega) (by omega) hq x1 S
    · refine jg_sg 1 (pc1 := 47) (lv1 := [(0, .ref 215), (1, .int x1), (2, .ref q), (4, .int x4)]) (st1 := [.ref 215]) (fun _ _ _ => rfl) ?_
      refine jg_g (v := .ref 368) rfl kc_215 rfl rfl ?_
      refine jg_sg 1 (pc1 := 52) (lv1 := [(0, .ref 215), (1, .int x1), (2, .ref q), (4, .int x4)]) (st1 := [.int 6, .ref 368]) (fun _ _ _ => rfl) ?_
      refine jg_aal (w := 369 + ((6 : Int32).toNatClampNeg)) rfl rfl kc_368 rfl (fun g32 => ?_)
      refine jg_sg 2 (pc1 := 56) (lv1 := [(0, .ref 215), (1, .int x1), (2, .ref q), (4, .int x4)]) (st1 := [.int 1, .int x4, .ref (369 + ((6 : Int32).toNatClampNeg))]) (fun _ _ _ => rfl) ?_
      refine jg_bas rfl rfl (kc_tr (jr_m g32)) rfl (fun g33 S34 _ => ?_)
      refine jg_sg 2 (pc1 := 38) (lv1 := [(4, .int (x4 + 1)), (0, .ref 215), (1, .int x1), (2, .ref q)]) (st1 := []) (fun _ _ _ => rfl) ?_
      refine jg_lvs (lv1 := [(0, .ref 215), (1, .int x1), (2, .ref q), (4, .int (x4 + 1))]) rfl rfl ⟨rfl, rfl, rfl, rfl, trivial⟩ ?_
      exact ih38 x1 (x4 + 1) S34
noncomputable def J_M_readCron_213 (kt12 : Int32 → Int32 → jS → Option (Option Nat × jS)) (x1 : Int32) (x3 : Int32) (S : jS) : Option (Option Nat × jS) := j_xv (F_M_bad (S.1 215 7) S) (fun c S => (some c, S)) (fun S58 => kt12 x1 (x3 + 1) S58)
set_option maxRecDepth 20000 in
theorem kJ_M_readCron_213 {q rF rL : Nat} (hF : 11 ≤ rF) (hL : 227 ≤ rL) (hq : 453 < q)  (kt12 : Int32 → Int32 → jS → Option (Option Nat × jS)) (ih12 : ∀ (x1 : Int32) (x3 : Int32) (S : jS), jg q jp_M_readCron rF rL 12 [(0, .ref 215), (1, .int x1), (2, .ref q), (3, .int x3)] [] S 0 x_V (kt12 x1 x3 S)) (x1 : Int32) (x3 : Int32) (S : jS) : jg q jp_M_readCron rF rL 213 [(0, .ref 215), (1, .int x1), (2, .ref q), (3, .int x3)] [] S 0 x_V (J_M_readCron_213 kt12 x1 x3 S) := by
  unfold J_M_readCron_213
  refine jg_sg 2 (pc1 := 215) (lv1 := [(0, .ref 215), (1, .int x1), (2, .ref q), (3, .int x3)]) (st1 := [.ref 215, .ref 215]) (fun _ _ _ => rfl) ?_
  refine jg_g (v := .int (S.1 215 7)) rfl kc_215 rfl rfl ?_
  refine jg_cxV (m2 := jp_M_bad) (As := [.ref 215, .int (S.1 215 7)]) (r := []) (mx := 2) (jh_v (a := 215) rfl rfl rfl kc_215 rfl (Nat.le_of_ble_eq_true rfl) rfl rfl rfl (by omega) (by omega) (Nat.le_of_ble_eq_true rfl)) rfl (fun _ _ => rfl) (kF_M_bad (S.1 215 7) S _ _ (by omega) (by omega) ) (fun S58 => ?_)
  refine jg_sg 2 (pc1 := 12) (lv1 := [(3, .int (x3 + 1)), (0, .ref 215), (1, .int x1), (2, .ref q)]) (st1 := []) (fun _ _ _ => rfl) ?_
  refine jg_lvs (lv1 := [(0, .ref 215), (1, .int x1), (2, .ref q), (3, .int (x3 + 1))]) rfl rfl ⟨rfl, rfl, rfl, rfl, trivial⟩ ?_
  exact ih12 x1 (x3 + 1) S58
noncomputable def J_M_readCron_193 (kt12 : Int32 → Int32 → jS → Option (Option Nat × jS)) (x1 : Int32) (x3 : Int32) (S : jS) : Option (Option Nat × jS) := if (S.1 215 2) ≤ (S.1 215 7) then (kt12 x1 (x3 + 1) S) else ((F_M_peek S).bind (fun z56 => if z56 = 32 then (kt12 x1 (x3 + 1) S) else (J_M_readCron_213 kt12 x1 x3 S)))
set_option maxRecDepth 20000 in
theorem kJ_M_readCron_193 {q rF rL : Nat} (hF : 11 ≤ rF) (hL : 227 ≤ rL) (hq : 453 < q)  (kt12 : Int32 → Int32 → jS → Option (Option Nat × jS)) (ih12 : ∀ (x1 : Int32) (x3 : Int32) (S : jS), jg q jp_M_readCron rF rL 12 [(0, .ref 215), (1, .int x1), (2, .ref q), (3, .int x3)] [] S 0 x_V (kt12 x1 x3 S)) (x1 : Int32) (x3 : Int32) (S : jS) : jg q jp_M_readCron rF rL 193 [(0, .ref 215), (1, .int x1), (2, .ref q), (3, .int x3)] [] S 0 x_V (J_M_readCron_193 kt12 x1 x3 S) := by
  unfold J_M_readCron_193
  refine jg_sg 1 (pc1 := 194) (lv1 := [(0, .ref 215), (1, .int x1), (2, .ref q), (3, .int x3)]) (st1 := [.ref 215]) (fun _ _ _ => rfl) ?_
  refine jg_g (v := .int (S.1 215 7)) rfl kc_215 rfl rfl ?_
  refine jg_sg 1 (pc1 := 198) (lv1 := [(0, .ref 215), (1, .int x1), (2, .ref q), (3, .int x3)]) (st1 := [.ref 215, .int (S.1 215 7)]) (fun _ _ _ => rfl) ?_
  refine jg_g (v := .int (S.1 215 2)) rfl kc_215 rfl rfl ?_
  refine jg_br (fun _ _ _ _ k1 k2 => jt_icmp_ge (t := 221) rfl rfl k1 k2) (fun c55 => ?_) (fun c55 => ?_)
  · refine jg_sg 2 (pc1 := 12) (lv1 := [(3, .int (x3 + 1)), (0, .ref 215), (1, .int x1), (2, .ref q)]) (st1 := []) (fun _ _ _ => rfl) ?_
    refine jg_lvs (lv1 := [(0, .ref 215), (1, .int x1), (2, .ref q), (3, .int (x3 + 1))]) rfl rfl ⟨rfl, rfl, rfl, rfl, trivial⟩ ?_
    exact ih12 x1 (x3 + 1) S
  · refine jg_sg 1 (pc1 := 205) (lv1 := [(0, .ref 215), (1, .int x1), (2, .ref q), (3, .int x3)]) (st1 := [.ref 215]) (fun _ _ _ => rfl) ?_
    refine jg_cpI (m2 := jp_M_peek) (As := [.ref 215]) (r := []) (mx := 1) (jh_v (a := 215) rfl rfl rfl kc_215 rfl (Nat.le_of_ble_eq_true rfl) rfl rfl rfl (by omega) (by omega) (Nat.le_of_ble_eq_true rfl)) (kF_M_peek S _ _ (by omega) (by omega) ) (fun z56 => ?_)
    refine jg_sg 1 (pc1 := 210) (lv1 := [(0, .ref 215), (1, .int x1), (2, .ref q), (3, .int x3)]) (st1 := [.int 32, .int z56]) (fun _ _ _ => rfl) ?_
    refine jg_br (fun _ _ _ _ k1 k2 => jt_icmp_eq (t := 221) rfl rfl k1 k2) (fun c57 => ?_) (fun c57 => ?_)
    · refine jg_sg 2 (pc1 := 12) (lv1 := [(3, .int (x3 + 1)), (0, .ref 215), (1, .int x1), (2, .ref q)]) (st1 := []) (fun _ _ _ => rfl) ?_
      refine jg_lvs (lv1 := [(0, .ref 215), (1, .int x1), (2, .ref q), (3, .int (x3 + 1))]) rfl rfl ⟨rfl, rfl, rfl, rfl, trivial⟩ ?_
      exact ih12 x1 (x3 + 1) S
    · refine jg_lvs (lv1 := [(0, .ref 215), (1, .int x1), (2, .ref q), (3, .int x3)]) rfl rfl ⟨rfl, rfl, rfl, rfl, trivial⟩ ?_
      exact kJ_M_readCron_213 (by omega) (by omega) hq kt12 ih12 x1 x3 S
noncomputable def J_M_readCron_179 (kt12 : Int32 → Int32 → jS → Option (Option Nat × jS)) (x1 : Int32) (x3 : Int32) (S : jS) : Option (Option Nat × jS) := if 5 ≤ x3 then (J_M_readCron_193 kt12 x1 x3 S) else ((F_M_peek S).bind (fun z59 => if z59 = 32 then (J_M_readCron_193 kt12 x1 x3 S) else (J_M_readCron_213 kt12 x1 x3 S)))
set_option maxRecDepth 20000 in
theorem kJ_M_readCron_179 {q rF rL : Nat} (hF : 11 ≤ rF) (hL : 227 ≤ rL) (hq : 453 < q)  (kt12 : Int32 → Int32 → jS → Option (Option Nat × jS)) (ih12 : ∀ (x1 : Int32) (x3 : Int32) (S : jS), jg q jp_M_readCron rF rL 12 [(0, .ref 215), (1, .int x1), (2, .ref q), (3, .int x3)] [] S 0 x_V (kt12 x1 x3 S)) (x1 : Int32) (x3 : Int32) (S : jS) : jg q jp_M_readCron rF rL 179 [(0, .ref 215), (1, .int x1), (2, .ref q), (3, .int x3)] [] S 0 x_V (J_M_readCron_179 kt12 x1 x3 S) := by
  unfold J_M_readCron_179
  refine jg_sg 2 (pc1 := 181) (lv1 := [(0, .ref 215), (1, .int x1), (2, .ref q), (3, .int x3)]) (st1 := [.int 5, .int x3]) (fun _ _ _ => rfl) ?_
  refine jg_br (fun _ _ _ _ k1 k2 => jt_icmp_ge (t := 193) rfl rfl k1 k2) (fun c54 => ?_) (fun c54 => ?_)
  · refine jg_lvs (lv1 := [(0, .ref 215), (1, .int x1), (2, .ref q), (3, .int x3)]) rfl rfl ⟨rfl, rfl, rfl, rfl, trivial⟩ ?_
    exact kJ_M_readCron_193 (by omega) (by omega) hq kt12 ih12 x1 x3 S
  · refine jg_sg 1 (pc1 := 185) (lv1 := [(0, .ref 215), (1, .int x1), (2, .ref q), (3, .int x3)]) (st1 := [.ref 215]) (fun _ _ _ => rfl) ?_
    refine jg_cpI (m2 := jp_M_peek) (As := [.ref 215]) (r := []) (mx := 1) (jh_v (a := 215) rfl rfl rfl kc_215 rfl (Nat.le_of_ble_eq_true rfl) rfl rfl rfl (by omega) (by omega) (Nat.le_of_ble_eq_true rfl)) (kF_M_peek S _ _ (by omega) (by omega) ) (fun z59 => ?_)
    refine jg_sg 1 (pc1 := 190) (lv1 := [(0, .ref 215), (1, .int x1), (2, .ref q), (3, .int x3)]) (st1 := [.int 32, .int z59]) (fun _ _ _ => rfl) ?_
    refine jg_br (fun _ _ _ _ k1 k2 => jt_icmp_ne (t := 213) rfl rfl k2 k1) (fun c60 => ?_) (fun c60 => ?_)
    · refine jg_lvs (lv1 := [(0, .ref 215), (1, .int x1), (2, .ref q), (3, .int x3)]) rfl rfl ⟨rfl, rfl, rfl, rfl, trivial⟩ ?_
      exact kJ_M_readCron_193 (by omega) (by omega) hq kt12 ih12 x1 x3 S
    · refine jg_lvs (lv1 := [(0, .ref 215), (1, .int x1), (2, .ref q), (3, .int x3)]) rfl rfl ⟨rfl, rfl, rfl, rfl, trivial⟩ ?_
      exact kJ_M_readCron_213 (by omega) (by omega) hq kt12 ih12 x1 x3 S
noncomputable def J_M_readCron_174 (kt12 : Int32 → Int32 → jS → Option (Option Nat × jS)) (x1 : Int32) (x3 : Int32) (y0 : Int32) (S : jS) : Option (Option Nat × jS) := j_q (j_in y0 6) (j_l (w_i S 453 ((y0 : Int32).toNatClampNeg) (S.1 215 22)) (fun S53 => J_M_readCron_179 kt12 x1 x3 S53))
set_option maxRecDepth 20000 in
theorem kJ_M_readCron_174 {q rF rL : Nat} (hF : 11 ≤ rF) (hL : 227 ≤ rL) (hq : 453 < q)  (kt12 : Int32 → Int32 → jS → Option (Option Nat × jS)) (ih12 : ∀ (x1 : Int32) (x3 : Int32) (S : jS), jg q jp_M_readCron rF rL 12 [(0, .ref 215), (1, .int x1), (2, .ref q), (3, .int x3)] [] S 0 x_V (kt12 x1 x3 S)) (x1 : Int32) (x3 : Int32) (y0 : Int32) (S : jS) : jg q jp_M_readCron rF rL 174 [(0, .ref 215), (1, .int x1), (2, .ref q), (3, .int x3)] [.int y0, .ref q] S 0 x_V (J_M_readCron_174 kt12 x1 x3 y0 S) := by
  unfold J_M_readCron_174
  refine jg_sg 1 (pc1 := 175) (lv1 := [(0, .ref 215), (1, .int x1), (2, .ref q), (3, .int x3)]) (st1 := [.ref 215, .int y0, .ref q]) (fun _ _ _ => rfl) ?_
  refine jg_g (v := .int (S.1 215 22)) rfl kc_215 rfl rfl ?_
  refine jg_iasq rfl hq (fun g52 S53 _ => ?_)
  refine jg_lvs (lv1 := [(0, .ref 215), (1, .int x1), (2, .ref q), (3, .int x3)]) rfl rfl ⟨rfl, rfl, rfl, rfl, trivial⟩ ?_
  exact kJ_M_readCron_179 (by omega) (by omega) hq kt12 ih12 x1 x3 S53
noncomputable def J_M_readCron_158 (kt12 : Int32 → Int32 → jS → Option (Option Nat × jS)) (x1 : Int32) (x3 : Int32) (y0 : Int32) (S : jS) : Option (Option Nat × jS) := j_q (j_in y0 6) (j_l (w_i S 453 ((y0 : Int32).toNatClampNeg) (S.1 215 21)) (fun S50 => if x3 = 3 then (J_M_readCron_174 kt12 x1 x3 2 S50) else (J_M_readCron_174 kt12 x1 x3 5 S50)))
set_option maxRecDepth 20000 in
theorem kJ_M_readCron_158 {q rF rL : Nat} (hF : 11 ≤ rF) (hL : 227 ≤ rL) (hq : 453 < q)  (kt12 : Int32 → Int32 → jS → Option (Option Nat × jS)) (ih12 : ∀ (x1 : Int32) (x3 : Int32) (S : jS), jg q jp_M_readCron rF rL 12 [(0, .ref 215), (1, .int x1), (2, .ref q), (3, .int x3)] [] S 0 x_V (kt12 x1 x3 S)) (x1 : Int32) (x3 : Int32) (y0 : Int32) (S : jS) : jg q jp_M_readCron rF rL 158 [(0, .ref 215), (1, .int x1), (2, .ref q), (3, .int x3)] [.int y0, .ref q] S 0 x_V (J_M_readCron_158 kt12 x1 x3 y0 S) := by
  unfold J_M_readCron_158
  refine jg_sg 1 (pc1 := 159) (lv1 := [(0, .ref 215), (1, .int x1), (2, .ref q), (3, .int x3)]) (st1 := [.ref 215, .int y0, .ref q]) (fun _ _ _ => rfl) ?_
  refine jg_g (v := .int (S.1 215 21)) rfl kc_215 rfl rfl ?_
  refine jg_iasq rfl hq (fun g49 S50 _ => ?_)
  refine jg_sg 3 (pc1 := 166) (lv1 := [(0, .ref 215), (1, .int x1), (2, .ref q), (3, .int x3)]) (st1 := [.int 3, .int x3, .ref q]) (fun _ _ _ => rfl) ?_
  refine jg_br (fun _ _ _ _ k1 k2 => jt_icmp_ne (t := 173) rfl rfl k2 k1) (fun c51 => ?_) (fun c51 => ?_)
  · refine jg_sg 2 (pc1 := 174) (lv1 := [(0, .ref 215), (1, .int x1), (2, .ref q), (3, .int x3)]) (st1 := [.int 2, .ref q]) (fun _ _ _ => rfl) ?_
    refine jg_lvs (lv1 := [(0, .ref 215), (1, .int x1), (2, .ref q), (3, .int x3)]) rfl rfl ⟨rfl, rfl, rfl, rfl, trivial⟩ ?_
    exact kJ_M_readCron_174 (by omega) (by omega) hq kt12 ih12 x1 x3 2 S50
  · refine jg_sg 1 (pc1 := 174) (lv1 := [(0, .ref 215), (1, .int x1), (2, .ref q), (3, .int x3)]) (st1 := [.int 5, .ref q]) (fun _ _ _ => rfl) ?_
    refine jg_lvs (lv1 := [(0, .ref 215), (1, .int x1), (2, .ref q), (3, .int x3)]) rfl rfl ⟨rfl, rfl, rfl, rfl, trivial⟩ ?_
    exact kJ_M_readCron_174 (by omega) (by omega) hq kt12 ih12 x1 x3 5 S50
noncomputable def J_M_readCron_142 (kt12 : Int32 → Int32 → jS → Option (Option Nat × jS)) (x1 : Int32) (x3 : Int32) (y0 : Int32) (S : jS) : Option (Option Nat × jS) := j_q (j_in y0 6) (j_l (w_i S 453 ((y0 : Int32).toNatClampNeg) (S.1 215 20)) (fun S47 => if x3 = 3 then (J_M_readCron_158 kt12 x1 x3 1 S47) else (J_M_readCron_158 kt12 x1 x3 4 S47)))
set_option maxRecDepth 20000 in
theorem kJ_M_readCron_142 {q rF rL : Nat} (hF : 11 ≤ rF) (hL : 227 ≤ rL) (hq : 453 < q)  (kt12 : Int32 → Int32 → jS → Option (Option Nat × jS)) (ih12 : ∀ (x1 : Int32) (x3 : Int32) (S : jS), jg q jp_M_readCron rF rL 12 [(0, .ref 215), (1, .int x1), (2, .ref q), (3, .int x3)] [] S 0 x_V (kt12 x1 x3 S)) (x1 : Int32) (x3 : Int32) (y0 : Int32) (S : jS) : jg q jp_M_readCron rF rL 142 [(0, .ref 215), (1, .int x1), (2, .ref q), (3, .int x3)] [.int y0, .ref q] S 0 x_V (J_M_readCron_142 kt12 x1 x3 y0 S) := by
  unfold J_M_readCron_142
  refine jg_sg 1 (pc1 := 143) (lv1 := [(0, .ref 215), (1, .int x1), (2, .ref q), (3, .int x3)]) (st1 := [.ref 215, .int y0, .ref q]) (fun _ _ _ => rfl) ?_
  refine jg_g (v := .int (S.1 215 20)) rfl kc_215 rfl rfl ?_
  refine jg_iasq rfl hq (fun g46 S47 _ => ?_)
  refine jg_sg 3 (pc1 := 150) (lv1 := [(0, .ref 215), (1, .int x1), (2, .ref q), (3, .int x3)]) (st1 := [.int 3, .int x3, .ref q]) (fun _ _ _ => rfl) ?_
  refine jg_br (fun _ _ _ _ k1 k2 => jt_icmp_ne (t := 157) rfl rfl k2 k1) (fun c48 => ?_) (fun c48 => ?_)
  · refine jg_sg 2 (pc1 := 158) (lv1 := [(0, .ref 215), (1, .int x1), (2, .ref q), (3, .int x3)]) (st1 := [.int 1, .ref q]) (fun _ _ _ => rfl) ?_
    refine jg_lvs (lv1 := [(0, .ref 215), (1, .int x1), (2, .ref q), (3, .int x3)]) rfl rfl ⟨rfl, rfl, rfl, rfl, trivial⟩ ?_
    exact kJ_M_readCron_158 (by omega) (by omega) hq kt12 ih12 x1 x3 1 S47
  · refine jg_sg 1 (pc1 := 158) (lv1 := [(0, .ref 215), (1, .int x1), (2, .ref q), (3, .int x3)]) (st1 := [.int 4, .ref q]) (fun _ _ _ => rfl) ?_
    refine jg_lvs (lv1 := [(0, .ref 215), (1, .int x1), (2, .ref q), (3, .int x3)]) rfl rfl ⟨rfl, rfl, rfl, rfl, trivial⟩ ?_
    exact kJ_M_readCron_158 (by omega) (by omega) hq kt12 ih12 x1 x3 4 S47
noncomputable def J_M_readCron_131 (kt12 : Int32 → Int32 → jS → Option (Option Nat × jS)) (x1 : Int32) (x3 : Int32) (S : jS) : Option (Option Nat × jS) := if x3 = 3 then (J_M_readCron_142 kt12 x1 x3 0 S) else (J_M_readCron_142 kt12 x1 x3 3 S)
set_option maxRecDepth 20000 in
theorem kJ_M_readCron_131 {q rF rL : Nat} (hF : 11 ≤ rF) (hL : 227 ≤ rL) (hq : 453 < q)  (kt12 : Int32 → Int32 → jS → Option (Option Nat × jS)) (ih12 : ∀ (x1 : Int32) (x3 : Int32) (S : jS), jg q jp_M_readCron rF rL 12 [(0, .ref 215), (1, .int x1), (2, .ref q), (3, .int x3)] [] S 0 x_V (kt12 x1 x3 S)) (x1 : Int32) (x3 : Int32) (S : jS) : jg q jp_M_readCron rF rL 131 [(0, .ref 215), (1, .int x1), (2, .ref q), (3, .int x3)] [] S 0 x_V (J_M_readCron_131 kt12 x1 x3 S) := by
  unfold J_M_readCron_131
  refine jg_sg 3 (pc1 := 134) (lv1 := [(0, .ref 215), (1, .int x1), (2, .ref q), (3, .int x3)]) (st1 := [.int 3, .int x3, .ref q]) (fun _ _ _ => rfl) ?_
  refine jg_br (fun _ _ _ _ k1 k2 => jt_icmp_ne (t := 141) rfl rfl k2 k1) (fun c45 => ?_) (fun c45 => ?_)
  · refine jg_sg 2 (pc1 := 142) (lv1 := [(0, .ref 215), (1, .int x1), (2, .ref q), (3, .int x3)]) (st1 := [.int 0, .ref q]) (fun _ _ _ => rfl) ?_
    refine jg_lvs (lv1 := [(0, .ref 215), (1, .int x1), (2, .ref q), (3, .int x3)]) rfl rfl ⟨rfl, rfl, rfl, rfl, trivial⟩ ?_
    exact kJ_M_readCron_142 (by omega) (by omega) hq kt12 ih12 x1 x3 0 S
  · refine jg_sg 1 (pc1 := 142) (lv1 := [(0, .ref 215), (1, .int x1), (2, .ref q), (3, .int x3)]) (st1 := [.int 3, .ref q]) (fun _ _ _ => rfl) ?_
    refine jg_lvs (lv1 := [(0, .ref 215), (1, .int x1), (2, .ref q), (3, .int x3)]) rfl rfl ⟨rfl, rfl, rfl, rfl, trivial⟩ ?_
    exact kJ_M_readCron_142 (by omega) (by omega) hq kt12 ih12 x1 x3 3 S
noncomputable def J_M_readCron_116 (kt12 : Int32 → Int32 → jS → Option (Option Nat × jS)) (x1 : Int32) (x3 : Int32) (S : jS) : Option (Option Nat × jS) := j_xv (F_M_field x3 S) (fun c S => (some c, S)) (fun S43 => if x3 = 3 then (J_M_readCron_131 kt12 x1 x3 S43) else (if x3 = 5 then (J_M_readCron_131 kt12 x1 x3 S43) else (J_M_readCron_179 kt12 x1 x3 S43)))
set_option maxRecDepth 20000 in
theorem kJ_M_readCron_116 {q rF rL : Nat} (hF : 11 ≤ rF) (hL : 227 ≤ rL) (hq : 453 < q)  (kt12 : Int32 → Int32 → jS → Option (Option Nat × jS)) (ih12 : ∀ (x1 : Int32) (x3 : Int32) (S : jS), jg q jp_M_readCron rF rL 12 [(0, .ref 215), (1, .int x1), (2, .ref q), (3, .int x3)] [] S 0 x_V (kt12 x1 x3 S)) (x1 : Int32) (x3 : Int32) (S : jS) : jg q jp_M_readCron rF rL 116 [(0, .ref 215), (1, .int x1), (2, .ref q), (3, .int x3)] [] S 0 x_V (J_M_readCron_116 kt12 x1 x3 S) := by
  unfold J_M_readCron_116
  refine jg_sg 2 (pc1 := 118) (lv1 := [(0, .ref 215), (1, .int x1), (2, .ref q), (3, .int x3)]) (st1 := [.int x3, .ref 215]) (fun _ _ _ => rfl) ?_
  refine jg_cxV (m2 := jp_M_field) (As := [.ref 215, .int x3]) (r := []) (mx := 3) (jh_v (a := 215) rfl rfl rfl kc_215 rfl (Nat.le_of_ble_eq_true rfl) rfl rfl rfl (by omega) (by omega) (Nat.le_of_ble_eq_true rfl)) rfl (fun _ _ => rfl) (kF_M_field x3 S _ _ (by omega) (by omega) ) (fun S43 => ?_)
  refine jg_sg 2 (pc1 := 123) (lv1 := [(0, .ref 215), (1, .int x1), (2, .ref q), (3, .int x3)]) (st1 := [.int 3, .int x3]) (fun _ _ _ => rfl) ?_
  refine jg_br (fun _ _ _ _ k1 k2 => jt_icmp_eq (t := 131) rfl rfl k1 k2) (fun c44 => ?_) (fun c44 => ?_)
  · refine jg_lvs (lv1 := [(0, .ref 215), (1, .int x1), (2, .ref q), (3, .int x3)]) rfl rfl ⟨rfl, rfl, rfl, rfl, trivial⟩ ?_
    exact kJ_M_readCron_131 (by omega) (by omega) hq kt12 ih12 x1 x3 S43
  · refine jg_sg 2 (pc1 := 128) (lv1 := [(0, .ref 215), (1, .int x1), (2, .ref q), (3, .int x3)]) (st1 := [.int 5, .int x3]) (fun _ _ _ => rfl) ?_
    refine jg_br (fun _ _ _ _ k1 k2 => jt_icmp_ne (t := 179) rfl rfl k2 k1) (fun c61 => ?_) (fun c61 => ?_)
    · refine jg_lvs (lv1 := [(0, .ref 215), (1, .int x1), (2, .ref q), (3, .int x3)]) rfl rfl ⟨rfl, rfl, rfl, rfl, trivial⟩ ?_
      exact kJ_M_readCron_131 (by omega) (by omega) hq kt12 ih12 x1 x3 S43
    · refine jg_lvs (lv1 := [(0, .ref 215), (1, .int x1), (2, .ref q), (3, .int x3)]) rfl rfl ⟨rfl, rfl, rfl, rfl, trivial⟩ ?_
      exact kJ_M_readCron_179 (by omega) (by omega) hq kt12 ih12 x1 x3 S43
noncomputable def J_M_readCron_105 (kt12 : Int32 → Int32 → jS → Option (Option Nat × jS)) (x1 : Int32) (x3 : Int32) (y0 : Int32) (y1 : Int32) (S : jS) : Option (Option Nat × jS) := if y1 = y0 then (j_xv (F_M_bad (S.1 215 7) S) (fun c S => (some c, S)) (fun S42 => J_M_readCron_116 kt12 x1 x3 S42)) else (J_M_readCron_116 kt12 x1 x3 S)
set_option maxRecDepth 20000 in
theorem kJ_M_readCron_105 {q rF rL : Nat} (hF : 11 ≤ rF) (hL : 227 ≤ rL) (hq : 453 < q)  (kt12 : Int32 → Int32 → jS → Option (Option Nat × jS)) (ih12 : ∀ (x1 : Int32) (x3 : Int32) (S : jS), jg q jp_M_readCron rF rL 12 [(0, .ref 215), (1, .int x1), (2, .ref q), (3, .int x3)] [] S 0 x_V (kt12 x1 x3 S)) (x1 : Int32) (x3 : Int32) (y0 : Int32) (y1 : Int32) (S : jS) : jg q jp_M_readCron rF rL 105 [(0, .ref 215), (1, .int x1), (2, .ref q), (3, .int x3)] [.int y0, .int y1] S 0 x_V (J_M_readCron_105 kt12 x1 x3 y0 y1 S) := by
  unfold J_M_readCron_105
  refine jg_br (fun _ _ _ _ k1 k2 => jt_icmp_ne (t := 116) rfl rfl k2 k1) (fun c41 => ?_) (fun c41 => ?_)
  · refine jg_sg 2 (pc1 := 110) (lv1 := [(0, .ref 215), (1, .int x1), (2, .ref q), (3, .int x3)]) (st1 := [.ref 215, .ref 215]) (fun _ _ _ => rfl) ?_
    refine jg_g (v := .int (S.1 215 7)) rfl kc_215 rfl rfl ?_
    refine jg_cxV (m2 := jp_M_bad) (As := [.ref 215, .int (S.1 215 7)]) (r := []) (mx := 2) (jh_v (a := 215) rfl rfl rfl kc_215 rfl (Nat.le_of_ble_eq_true rfl) rfl rfl rfl (by omega) (by omega) (Nat.le_of_ble_eq_true rfl)) rfl (fun _ _ => rfl) (kF_M_bad (S.1 215 7) S _ _ (by omega) (by omega) ) (fun S42 => ?_)
    refine jg_lvs (lv1 := [(0, .ref 215), (1, .int x1), (2, .ref q), (3, .int x3)]) rfl rfl ⟨rfl, rfl, rfl, rfl, trivial⟩ ?_
    exact kJ_M_readCron_116 (by omega) (by omega) hq kt12 ih12 x1 x3 S42
  · refine jg_lvs (lv1 := [(0, .ref 215), (1, .int x1), (2, .ref q), (3, .int x3)]) rfl rfl ⟨rfl, rfl, rfl, rfl, trivial⟩ ?_
    exact kJ_M_readCron_116 (by omega) (by omega) hq kt12 ih12 x1 x3 S
noncomputable def J_M_readCron_93 (kt12 : Int32 → Int32 → jS → Option (Option Nat × jS)) (x1 : Int32) (x3 : Int32) (y0 : Int32) (S : jS) : Option (Option Nat × jS) := j_q (j_in 0 6) (if (S.1 453 ((0 : Int32).toNatClampNeg)) = 1 then (J_M_readCron_105 kt12 x1 x3 1 y0 S) else (J_M_readCron_105 kt12 x1 x3 0 y0 S))
set_option maxRecDepth 20000 in
theorem kJ_M_readCron_93 {q rF rL : Nat} (hF : 11 ≤ rF) (hL : 227 ≤ rL) (hq : 453 < q)  (kt12 : Int32 → Int32 → jS → Option (Option Nat × jS)) (ih12 : ∀ (x1 : Int32) (x3 : Int32) (S : jS), jg q jp_M_readCron rF rL 12 [(0, .ref 215), (1, .int x1), (2, .ref q), (3, .int x3)] [] S 0 x_V (kt12 x1 x3 S)) (x1 : Int32) (x3 : Int32) (y0 : Int32) (S : jS) : jg q jp_M_readCron rF rL 93 [(0, .ref 215), (1, .int x1), (2, .ref q), (3, .int x3)] [.int y0] S 0 x_V (J_M_readCron_93 kt12 x1 x3 y0 S) := by
  unfold J_M_readCron_93
  refine jg_sg 2 (pc1 := 95) (lv1 := [(0, .ref 215), (1, .int x1), (2, .ref q), (3, .int x3)]) (st1 := [.int 0, .ref q, .int y0]) (fun _ _ _ => rfl) ?_
  refine jg_ialq rfl hq (fun g39 => ?_)
  refine jg_sg 1 (pc1 := 97) (lv1 := [(0, .ref 215), (1, .int x1), (2, .ref q), (3, .int x3)]) (st1 := [.int 1, .int (S.1 453 ((0 : Int32).toNatClampNeg)), .int y0]) (fun _ _ _ => rfl) ?_
  refine jg_br (fun _ _ _ _ k1 k2 => jt_icmp_ne (t := 104) rfl rfl k2 k1) (fun c40 => ?_) (fun c40 => ?_)
  · refine jg_sg 2 (pc1 := 105) (lv1 := [(0, .ref 215), (1, .int x1), (2, .ref q), (3, .int x3)]) (st1 := [.int 1, .int y0]) (fun _ _ _ => rfl) ?_
    refine jg_lvs (lv1 := [(0, .ref 215), (1, .int x1), (2, .ref q), (3, .int x3)]) rfl rfl ⟨rfl, rfl, rfl, rfl, trivial⟩ ?_
    exact kJ_M_readCron_105 (by omega) (by omega) hq kt12 ih12 x1 x3 1 y0 S
  · refine jg_sg 1 (pc1 := 105) (lv1 := [(0, .ref 215), (1, .int x1), (2, .ref q), (3, .int x3)]) (st1 := [.int 0, .int y0]) (fun _ _ _ => rfl) ?_
    refine jg_lvs (lv1 := [(0, .ref 215), (1, .int x1), (2, .ref q), (3, .int x3)]) rfl rfl ⟨rfl, rfl, rfl, rfl, trivial⟩ ?_
    exact kJ_M_readCron_105 (by omega) (by omega) hq kt12 ih12 x1 x3 0 y0 S
noncomputable def J_M_readCron_74 (kt12 : Int32 → Int32 → jS → Option (Option Nat × jS)) (x1 : Int32) (x3 : Int32) (S : jS) : Option (Option Nat × jS) := if x3 = 5 then ((F_M_peek S).bind (fun z37 => if z37 = 63 then (J_M_readCron_93 kt12 x1 x3 1 S) else (J_M_readCron_93 kt12 x1 x3 0 S))) else (J_M_readCron_116 kt12 x1 x3 S)
set_option maxRecDepth 20000 in
theorem kJ_M_readCron_74 {q rF rL : Nat} (hF : 11 ≤ rF) (hL : 227 ≤ rL) (hq : 453 < q)  (kt12 : Int32 → Int32 → jS → Option (Option Nat × jS)) (ih12 : ∀ (x1 : Int32) (x3 : Int32) (S : jS), jg q jp_M_readCron rF rL 12 [(0, .ref 215), (1, .int x1), (2, .ref q), (3, .int x3)] [] S 0 x_V (kt12 x1 x3 S)) (x1 : Int32) (x3 : Int32) (S : jS) : jg q jp_M_readCron rF rL 74 [(0, .ref 215), (1, .int x1), (2, .ref q), (3, .int x3)] [] S 0 x_V (J_M_readCron_74 kt12 x1 x3 S) := by
  unfold J_M_readCron_74
  refine jg_sg 2 (pc1 := 76) (lv1 := [(0, .ref 215), (1, .int x1), (2, .ref q), (3, .int x3)]) (st1 := [.int 5, .int x3]) (fun _ _ _ => rfl) ?_
  refine jg_br (fun _ _ _ _ k1 k2 => jt_icmp_ne (t := 116) rfl rfl k2 k1) (fun c36 => ?_) (fun c36 => ?_)
  · refine jg_sg 1 (pc1 := 80) (lv1 := [(0, .ref 215), (1, .int x1), (2, .ref q), (3, .int x3)]) (st1 := [.ref 215]) (fun _ _ _ => rfl) ?_
    refine jg_cpI (m2 := jp_M_peek) (As := [.ref 215]) (r := []) (mx := 1) (jh_v (a := 215) rfl rfl rfl kc_215 rfl (Nat.le_of_ble_eq_true rfl) rfl rfl rfl (by omega) (by omega) (Nat.le_of_ble_eq_true rfl)) (kF_M_peek S _ _ (by omega) (by omega) ) (fun z37 => ?_)
    refine jg_sg 1 (pc1 := 85) (lv1 := [(0, .ref 215), (1, .int x1), (2, .ref q), (3, .int x3)]) (st1 := [.int 63, .int z37]) (fun _ _ _ => rfl) ?_
    refine jg_br (fun _ _ _ _ k1 k2 => jt_icmp_ne (t := 92) rfl rfl k2 k1) (fun c38 => ?_) (fun c38 => ?_)
    · refine jg_sg 2 (pc1 := 93) (lv1 := [(0, .ref 215), (1, .int x1), (2, .ref q), (3, .int x3)]) (st1 := [.int 1]) (fun _ _ _ => rfl) ?_
      refine jg_lvs (lv1 := [(0, .ref 215), (1, .int x1), (2, .ref q), (3, .int x3)]) rfl rfl ⟨rfl, rfl, rfl, rfl, trivial⟩ ?_
      exact kJ_M_readCron_93 (by omega) (by omega) hq kt12 ih12 x1 x3 1 S
    · refine jg_sg 1 (pc1 := 93) (lv1 := [(0, .ref 215), (1, .int x1), (2, .ref q), (3, .int x3)]) (st1 := [.int 0]) (fun _ _ _ => rfl) ?_
      refine jg_lvs (lv1 := [(0, .ref 215), (1, .int x1), (2, .ref q), (3, .int x3)]) rfl rfl ⟨rfl, rfl, rfl, rfl, trivial⟩ ?_
      exact kJ_M_readCron_93 (by omega) (by omega) hq kt12 ih12 x1 x3 0 S
  · refine jg_lvs (lv1 := [(0, .ref 215), (1, .int x1), (2, .ref q), (3, .int x3)]) rfl rfl ⟨rfl, rfl, rfl, rfl, trivial⟩ ?_
    exact kJ_M_readCron_116 (by omega) (by omega) hq kt12 ih12 x1 x3 S
noncomputable def J_M_readCron_66 (kt12 : Int32 → Int32 → jS → Option (Option Nat × jS)) (x1 : Int32) (x3 : Int32) (S : jS) : Option (Option Nat × jS) := if x3 ≤ 0 then (J_M_readCron_74 kt12 x1 x3 S) else (j_xv (F_M_blanks S) (fun c S => (some c, S)) (fun S62 => J_M_readCron_74 kt12 x1 x3 S62))
set_option maxRecDepth 20000 in
theorem kJ_M_readCron_66 {q rF rL : Nat} (hF : 11 ≤ rF) (hL : 227 ≤ rL) (hq : 453 < q)  (kt12 : Int32 → Int32 → jS → Option (Option Nat × jS)) (ih12 : ∀ (x1 : Int32) (x3 : Int32) (S : jS), jg q jp_M_readCron rF rL 12 [(0, .ref 215), (1, .int x1), (2, .ref q), (3, .int x3)] [] S 0 x_V (kt12 x1 x3 S)) (x1 : Int32) (x3 : Int32) (S : jS) : jg q jp_M_readCron rF rL 66 [(0, .ref 215), (1, .int x1), (2, .ref q), (3, .int x3)] [] S 0 x_V (J_M_readCron_66 kt12 x1 x3 S) := by
  unfold J_M_readCron_66
  refine jg_sg 1 (pc1 := 67) (lv1 := [(0, .ref 215), (1, .int x1), (2, .ref q), (3, .int x3)]) (st1 := [.int x3]) (fun _ _ _ => rfl) ?_
  refine jg_br (fun _ _ _ _ k1 k2 => jt_if_le (t := 74) rfl rfl k1 k2) (fun c35 => ?_) (fun c35 => ?_)
  · refine jg_lvs (lv1 := [(0, .ref 215), (1, .int x1), (2, .ref q), (3, .int x3)]) rfl rfl ⟨rfl, rfl, rfl, rfl, trivial⟩ ?_
    exact kJ_M_readCron_74 (by omega) (by omega) hq kt12 ih12 x1 x3 S
  · refine jg_sg 1 (pc1 := 71) (lv1 := [(0, .ref 215), (1, .int x1), (2, .ref q), (3, .int x3)]) (st1 := [.ref 215]) (fun _ _ _ => rfl) ?_
    refine jg_cxV (m2 := jp_M_blanks) (As := [.ref 215]) (r := []) (mx := 1) (jh_v (a := 215) rfl rfl rfl kc_215 rfl (Nat.le_of_ble_eq_true rfl) rfl rfl rfl (by omega) (by omega) (Nat.le_of_ble_eq_true rfl)) rfl (fun _ _ => rfl) (kF_M_blanks S _ _ (by omega) (by omega) ) (fun S62 => ?_)
    refine jg_lvs (lv1 := [(0, .ref 215), (1, .int x1), (2, .ref q), (3, .int x3)]) rfl rfl ⟨rfl, rfl, rfl, rfl, trivial⟩ ?_
    exact kJ_M_readCron_74 (by omega) (by omega) hq kt12 ih12 x1 x3 S62
noncomputable def L_M_readCron_12  : Nat → Int32 → Int32 → jS → Option (Option Nat × jS)
  | 0, _, _, _ => none
  | f + 1, x1, x3, S => if 7 ≤ x3 then (J_M_readCron_227 x1 S) else (if x3 = 6 then (if (S.1 215 7) = (S.1 215 2) then (L_M_readCron_38 ju_ x1 0 S) else (J_M_readCron_66 (L_M_readCron_12 f) x1 x3 S)) else (J_M_readCron_66 (L_M_readCron_12 f) x1 x3 S))
set_option maxRecDepth 20000 in
theorem kL_M_readCron_12 {q rF rL : Nat} (hF : 11 ≤ rF) (hL : 227 ≤ rL) (hq : 453 < q)   : ∀ (f : Nat) (x1 : Int32) (x3 : Int32) (S : jS), jg q jp_M_readCron rF rL 12 [(0, .ref 215), (1, .int x1), (2, .ref q), (3, .int x3)] [] S 0 x_V (L_M_readCron_12 f x1 x3 S) := by
  intro f
  induction f with
  | zero => intro _ _ _; exact jg_none
  | succ f ih12 =>
    intro x1 x3 S
    rw [L_M_readCron_12]
    refine jg_sg 2 (pc1 := 15) (lv1 := [(0, .ref 215), (1, .int x1), (2, .ref q), (3, .int x3)]) (st1 := [.int 7, .int x3]) (fun _ _ _ => rfl) ?_
    refine jg_br (fun _ _ _ _ k1 k2 => jt_icmp_ge (t := 227) rfl rfl k1 k2) (fun c3 => ?_) (fun c3 => ?_)
    · refine jg_lvs (lv1 := [(0, .ref 215), (1, .int x1), (2, .ref q)]) rfl rfl ⟨rfl, rfl, rfl, trivial⟩ ?_
      exact kJ_M_readCron_227 (by omega) (by omega) hq x1 S
    · refine jg_sg 2 (pc1 := 21) (lv1 := [(0, .ref 215), (1, .int x1), (2, .ref q), (3, .int x3)]) (st1 := [.int 6, .int x3]) (fun _ _ _ => rfl) ?_
      refine jg_br (fun _ _ _ _ k1 k2 => jt_icmp_ne (t := 66) rfl rfl k2 k1) (fun c29 => ?_) (fun c29 => ?_)
      · refine jg_sg 1 (pc1 := 25) (lv1 := [(0, .ref 215), (1, .int x1), (2, .ref q), (3, .int x3)]) (st1 := [.ref 215]) (fun _ _ _ => rfl) ?_
        refine jg_g (v := .int (S.1 215 7)) rfl kc_215 rfl rfl ?_
        refine jg_sg 1 (pc1 := 29) (lv1 := [(0, .ref 215), (1, .int x1), (2, .ref q), (3, .int x3)]) (st1 := [.ref 215, .int (S.1 215 7)]) (fun _ _ _ => rfl) ?_
        refine jg_g (v := .int (S.1 215 2)) rfl kc_215 rfl rfl ?_
        refine jg_br (fun _ _ _ _ k1 k2 => jt_icmp_ne (t := 66) rfl rfl k2 k1) (fun c30 => ?_) (fun c30 => ?_)
        · refine jg_sg 2 (pc1 := 38) (lv1 := [(4, .int 0), (0, .ref 215), (1, .int x1), (2, .ref q), (3, .int x3)]) (st1 := []) (fun _ _ _ => rfl) ?_
          refine jg_lvs (lv1 := [(0, .ref 215), (1, .int x1), (2, .ref q), (4, .int 0)]) rfl rfl ⟨rfl, rfl, rfl, rfl, trivial⟩ ?_
          exact kL_M_readCron_38 (by omega) (by omega) hq ju_ x1 0 S
        · refine jg_lvs (lv1 := [(0, .ref 215), (1, .int x1), (2, .ref q), (3, .int x3)]) rfl rfl ⟨rfl, rfl, rfl, rfl, trivial⟩ ?_
          exact kJ_M_readCron_66 (by omega) (by omega) hq (L_M_readCron_12 f) ih12 x1 x3 S
      · refine jg_lvs (lv1 := [(0, .ref 215), (1, .int x1), (2, .ref q), (3, .int x3)]) rfl rfl ⟨rfl, rfl, rfl, rfl, trivial⟩ ?_
        exact kJ_M_readCron_66 (by omega) (by omega) hq (L_M_readCron_12 f) ih12 x1 x3 S
noncomputable def F_M_readCron (p0 : Int32) (S : jS) : Option (Option Nat × jS) := j_l (w_i S 215 7 0) (fun S1 => j_l (w_z S1) (fun S2 => L_M_readCron_12 ju_ p0 0 S2))
set_option maxRecDepth 20000 in
theorem kF_M_readCron  (p0 : Int32) (S : jS) (rF rL : Nat) (hF : 11 ≤ rF) (hL : 227 ≤ rL)  : jg 0 jp_M_readCron rF rL 0 [(0, .ref 215), (1, .int p0)] [] S 1 x_V (F_M_readCron p0 S) := by
  unfold F_M_readCron
  refine jg_sg 2 (pc1 := 2) (lv1 := [(0, .ref 215), (1, .int p0)]) (st1 := [.int 0, .ref 215]) (fun _ _ _ => rfl) ?_
  refine jg_pi rfl kc_215 rfl (Nat.le_of_ble_eq_true rfl) rfl rfl (fun S1 _ => ?_)
  refine jg_sg 1 (pc1 := 7) (lv1 := [(0, .ref 215), (1, .int p0)]) (st1 := [.int 6]) (fun _ _ _ => rfl) ?_
  refine jg_new rfl (fun q hq S2 _ => ?_)
  refine jg_sg 3 (pc1 := 12) (lv1 := [(3, .int 0), (2, .ref q), (0, .ref 215), (1, .int p0)]) (st1 := []) (fun _ _ _ => rfl) ?_
  refine jg_lvs (lv1 := [(0, .ref 215), (1, .int p0), (2, .ref q), (3, .int 0)]) rfl rfl ⟨rfl, rfl, rfl, rfl, trivial⟩ ?_
  exact kL_M_readCron_12 (by omega) (by omega) hq ju_ p0 0 S2
noncomputable def J_M_cron_15 (S : jS) : Option jS := j_l (w_i S 215 0 1) (fun S3 => some S3)
set_option maxRecDepth 20000 in
theorem kJ_M_cron_15 {q rF rL : Nat} (hF : 12 ≤ rF) (hL : 251 ≤ rL)   (S : jS) : jg q jp_M_cron rF rL 15 [(0, .ref 215)] [] S 0 s_V (J_M_cron_15 S) := by
  unfold J_M_cron_15
  refine jg_sg 2 (pc1 := 17) (lv1 := [(0, .ref 215)]) (st1 := [.int 1, .ref 215]) (fun _ _ _ => rfl) ?_
  refine jg_pi rfl kc_215 rfl (Nat.le_of_ble_eq_true rfl) rfl rfl (fun S3 _ => ?_)
  refine jg_sg 1 (pc1 := 47) (lv1 := [(0, .ref 215)]) (st1 := []) (fun _ _ _ => rfl) ?_
  exact jg_rv rfl rfl rfl
noncomputable def J_M_cron_42 (S : jS) : Option jS := j_l (w_i S 215 2 0) (fun S9 => some S9)
set_option maxRecDepth 20000 in
theorem kJ_M_cron_42 {q rF rL : Nat} (hF : 12 ≤ rF) (hL : 251 ≤ rL)   (S : jS) : jg q jp_M_cron rF rL 42 [(0, .ref 215)] [] S 0 s_V (J_M_cron_42 S) := by
  unfold J_M_cron_42
  refine jg_sg 2 (pc1 := 44) (lv1 := [(0, .ref 215)]) (st1 := [.int 0, .ref 215]) (fun _ _ _ => rfl) ?_
  refine jg_pi rfl kc_215 rfl (Nat.le_of_ble_eq_true rfl) rfl rfl (fun S9 _ => ?_)
  exact jg_rv rfl rfl rfl
noncomputable def F_M_cron (p0 : Int32) (S : jS) : Option jS := j_l (w_i S 215 0 0) (fun S1 => if p0 < 0 then (J_M_cron_15 S1) else (if p0 ≤ 15 then (j_l (w_i S1 215 3 (-1)) (fun S5 => j_ct (F_M_readCron p0 S5) 12 (fun S6 => J_M_cron_42 S6) (fun S7 => j_l (w_i S7 215 0 2) (fun S10 => J_M_cron_42 S10)))) else (J_M_cron_15 S1)))
set_option maxRecDepth 20000 in
theorem kF_M_cron  (p0 : Int32) (S : jS) (rF rL : Nat) (hF : 12 ≤ rF) (hL : 251 ≤ rL)  : jg 0 jp_M_cron rF rL 0 [(0, .ref 215), (1, .int p0)] [] S 2 s_V (F_M_cron p0 S) := by
  unfold F_M_cron
  refine jg_sg 2 (pc1 := 2) (lv1 := [(0, .ref 215), (1, .int p0)]) (st1 := [.int 0, .ref 215]) (fun _ _ _ => rfl) ?_
  refine jg_pi rfl kc_215 rfl (Nat.le_of_ble_eq_true rfl) rfl rfl (fun S1 _ => ?_)
  refine jg_sg 1 (pc1 := 6) (lv1 := [(0, .ref 215), (1, .int p0)]) (st1 := [.int p0]) (fun _ _ _ => rfl) ?_
  refine jg_br (fun _ _ _ _ k1 k2 => jt_if_lt (t := 15) rfl rfl k1 k2) (fun c2 => ?_) (fun c2 => ?_)
  · refine jg_lvs (lv1 := [(0, .ref 215)]) rfl rfl ⟨rfl, trivial⟩ ?_
    exact jg_up0 (kJ_M_cron_15 (by omega) (by omega) S1)
  · refine jg_sg 2 (pc1 := 12) (lv1 := [(0, .ref 215), (1, .int p0)]) (st1 := [.int 15, .int p0]) (fun _ _ _ => rfl) ?_
    refine jg_br (fun _ _ _ _ k1 k2 => jt_icmp_le (t := 23) rfl rfl k1 k2) (fun c4 => ?_) (fun c4 => ?_)
    · refine jg_sg 2 (pc1 := 25) (lv1 := [(0, .ref 215), (1, .int p0)]) (st1 := [.int (-1), .ref 215]) (fun _ _ _ => rfl) ?_
      refine jg_pi rfl kc_215 rfl (Nat.le_of_ble_eq_true rfl) rfl rfl (fun S5 _ => ?_)
      refine jg_sg 2 (pc1 := 30) (lv1 := [(0, .ref 215), (1, .int p0)]) (st1 := [.int p0, .ref 215]) (fun _ _ _ => rfl) ?_
      refine jg_ctV (n := 0) (m2 := jp_M_readCron) (As := [.ref 215, .int p0]) (r := []) (mx := 5) (ci := 12) (t := 36) (jh_v (a := 215) rfl rfl rfl kc_215 rfl (Nat.le_of_ble_eq_true rfl) rfl rfl rfl (by omega) (by omega) (Nat.le_of_ble_eq_true rfl)) rfl rfl (kF_M_readCron p0 S5 _ _ (by omega) (by omega) ) (fun S6 => ?_) (fun e8 S7 => ?_)
      · refine jg_sg 1 (pc1 := 42) (lv1 := [(0, .ref 215), (1, .int p0)]) (st1 := []) (fun _ _ _ => rfl) ?_
        refine jg_lvs (lv1 := [(0, .ref 215)]) rfl rfl ⟨rfl, trivial⟩ ?_
        exact jg_up0 (kJ_M_cron_42 (by omega) (by omega) S6)
      · refine jg_sg 3 (pc1 := 39) (lv1 := [(2, .ref e8), (0, .ref 215), (1, .int p0)]) (st1 := [.int 2, .ref 215]) (fun _ _ _ => rfl) ?_
        refine jg_pi rfl kc_215 rfl (Nat.le_of_ble_eq_true rfl) rfl rfl (fun S10 _ => ?_)
        refine jg_lvs (lv1 := [(0, .ref 215)]) rfl rfl ⟨rfl, trivial⟩ ?_
        exact jg_up0 (kJ_M_cron_42 (by omega) (by omega) S10)
    · refine jg_lvs (lv1 := [(0, .ref 215)]) rfl rfl ⟨rfl, trivial⟩ ?_
      exact jg_up0 (kJ_M_cron_15 (by omega) (by omega) S1)
noncomputable def J_M_holiday_25 (S : jS) : Option (Int32 × jS) := (F_M_fail 1 S).bind (fun z3 => some (z3.1, z3.2))
set_option maxRecDepth 20000 in
theorem kJ_M_holiday_25 {q rF rL : Nat} (hF : 1 ≤ rF) (hL : 21 ≤ rL)   (S : jS) : jg q jp_M_holiday rF rL 25 [(0, .ref 215)] [] S 0 s_I (J_M_holiday_25 S) := by
  unfold J_M_holiday_25
  refine jg_sg 2 (pc1 := 27) (lv1 := [(0, .ref 215)]) (st1 := [.int 1, .ref 215]) (fun _ _ _ => rfl) ?_
  refine jg_csI (m2 := jp_M_fail) (As := [.ref 215, .int 1]) (r := []) (mx := 2) (jh_v (a := 215) rfl rfl rfl kc_215 rfl (Nat.le_of_ble_eq_true rfl) rfl rfl rfl (by omega) (by omega) (Nat.le_of_ble_eq_true rfl)) (kF_M_fail 1 S _ _ (by omega) (by omega) ) (fun z3 => ?_)
  exact jg_ri rfl rfl rfl rfl
noncomputable def J_M_holiday_94 (x1 : Int32) (x2 : Int32) (x3 : Int32) (S : jS) : Option (Int32 × jS) := j_q (j_in x1 4) (j_q (j_in x2 120530) (j_l (w_i S (431 + ((x1 : Int32).toNatClampNeg)) ((x2 : Int32).toNatClampNeg) (vp_nar .boolean x3)) (fun S13 => j_q (j_in x1 4) (some (S13.1 435 ((x1 : Int32).toNatClampNeg), S13)))))
set_option maxRecDepth 20000 in
theorem kJ_M_holiday_94 {q rF rL : Nat} (hF : 1 ≤ rF) (hL : 21 ≤ rL)   (x1 : Int32) (x2 : Int32) (x3 : Int32) (S : jS) : jg q jp_M_holiday rF rL 94 [(0, .ref 215), (1, .int x1), (2, .int x2), (3, .int x3)] [] S 0 s_I (J_M_holiday_94 x1 x2 x3 S) := by
  unfold J_M_holiday_94
  refine jg_sg 1 (pc1 := 95) (lv1 := [(0, .ref 215), (1, .int x1), (2, .int x2), (3, .int x3)]) (st1 := [.ref 215]) (fun _ _ _ => rfl) ?_
  refine jg_g (v := .ref 430) rfl kc_215 rfl rfl ?_
  refine jg_sg 1 (pc1 := 99) (lv1 := [(0, .ref 215), (1, .int x1), (2, .int x2), (3, .int x3)]) (st1 := [.int x1, .ref 430]) (fun _ _ _ => rfl) ?_
  refine jg_aal (w := 431 + ((x1 : Int32).toNatClampNeg)) rfl rfl kc_430 rfl (fun g11 => ?_)
  refine jg_sg 2 (pc1 := 102) (lv1 := [(0, .ref 215), (1, .int x1), (2, .int x2), (3, .int x3)]) (st1 := [.int x3, .int x2, .ref (431 + ((x1 : Int32).toNatClampNeg))]) (fun _ _ _ => rfl) ?_
  refine jg_bas rfl rfl (kc_hr (jr_m g11)) rfl (fun g12 S13 _ => ?_)
  refine jg_sg 1 (pc1 := 104) (lv1 := [(0, .ref 215), (1, .int x1), (2, .int x2), (3, .int x3)]) (st1 := [.ref 215]) (fun _ _ _ => rfl) ?_
  refine jg_g (v := .ref 435) rfl kc_215 rfl rfl ?_
  refine jg_sg 1 (pc1 := 108) (lv1 := [(0, .ref 215), (1, .int x1), (2, .int x2), (3, .int x3)]) (st1 := [.int x1, .ref 435]) (fun _ _ _ => rfl) ?_
  refine jg_ial rfl kc_435 (fun g14 => ?_)
  exact jg_ri rfl rfl rfl rfl
noncomputable def J_M_holiday_92 (x1 : Int32) (x2 : Int32) (x3 : Int32) (y0 : Int32) (y1 : Int32) (y2 : Int32) (S : jS) : Option (Int32 × jS) := j_q (j_in y2 4) (j_l (w_i S 435 ((y2 : Int32).toNatClampNeg) (y1 + y0)) (fun S18 => J_M_holiday_94 x1 x2 x3 S18))
set_option maxRecDepth 20000 in
theorem kJ_M_holiday_92 {q rF rL : Nat} (hF : 1 ≤ rF) (hL : 21 ≤ rL)   (x1 : Int32) (x2 : Int32) (x3 : Int32) (y0 : Int32) (y1 : Int32) (y2 : Int32) (S : jS) : jg q jp_M_holiday rF rL 92 [(0, .ref 215), (1, .int x1), (2, .int x2), (3, .int x3)] [.int y0, .int y1, .int y2, .ref 435] S 0 s_I (J_M_holiday_92 x1 x2 x3 y0 y1 y2 S) := by
  unfold J_M_holiday_92
  refine jg_sg 1 (pc1 := 93) (lv1 := [(0, .ref 215), (1, .int x1), (2, .int x2), (3, .int x3)]) (st1 := [.int (y1 + y0), .int y2, .ref 435]) (fun _ _ _ => rfl) ?_
  refine jg_ias rfl kc_435 (fun g17 S18 _ => ?_)
  refine jg_lvs (lv1 := [(0, .ref 215), (1, .int x1), (2, .int x2), (3, .int x3)]) rfl rfl ⟨rfl, rfl, rfl, rfl, trivial⟩ ?_
  exact kJ_M_holiday_94 (by omega) (by omega) x1 x2 x3 S18
noncomputable def J_M_holiday_64 (x1 : Int32) (x2 : Int32) (x3 : Int32) (S : jS) : Option (Int32 × jS) := j_q (j_in x1 4) (j_q (j_in x2 120530) (if (S.1 (431 + ((x1 : Int32).toNatClampNeg)) ((x2 : Int32).toNatClampNeg)) = x3 then (J_M_holiday_94 x1 x2 x3 S) else (j_q (j_in x1 4) (if x3 = 0 then (J_M_holiday_92 x1 x2 x3 (-1) (S.1 435 ((x1 : Int32).toNatClampNeg)) x1 S) else (J_M_holiday_92 x1 x2 x3 1 (S.1 435 ((x1 : Int32).toNatClampNeg)) x1 S)))))
set_option maxRecDepth 20000 in
theorem kJ_M_holiday_64 {q rF rL : Nat} (hF : 1 ≤ rF) (hL : 21 ≤ rL)   (x1 : Int32) (x2 : Int32) (x3 : Int32) (S : jS) : jg q jp_M_holiday rF rL 64 [(0, .ref 215), (1, .int x1), (2, .int x2), (3, .int x3)] [] S 0 s_I (J_M_holiday_64 x1 x2 x3 S) := by
  unfold J_M_holiday_64
  refine jg_sg 1 (pc1 := 65) (lv1 := [(0, .ref 215), (1, .int x1), (2, .int x2), (3, .int x3)]) (st1 := [.ref 215]) (fun _ _ _ => rfl) ?_
  refine jg_g (v := .ref 430) rfl kc_215 rfl rfl ?_
  refine jg_sg 1 (pc1 := 69) (lv1 := [(0, .ref 215), (1, .int x1), (2, .int x2), (3, .int x3)]) (st1 := [.int x1, .ref 430]) (fun _ _ _ => rfl) ?_
  refine jg_aal (w := 431 + ((x1 : Int32).toNatClampNeg)) rfl rfl kc_430 rfl (fun g8 => ?_)
  refine jg_sg 1 (pc1 := 71) (lv1 := [(0, .ref 215), (1, .int x1), (2, .int x2), (3, .int x3)]) (st1 := [.int x2, .ref (431 + ((x1 : Int32).toNatClampNeg))]) (fun _ _ _ => rfl) ?_
  refine jg_bal rfl rfl (kc_hr (jr_m g8)) (fun g9 => ?_)
  refine jg_sg 1 (pc1 := 73) (lv1 := [(0, .ref 215), (1, .int x1), (2, .int x2), (3, .int x3)]) (st1 := [.int x3, .int (S.1 (431 + ((x1 : Int32).toNatClampNeg)) ((x2 : Int32).toNatClampNeg))]) (fun _ _ _ => rfl) ?_
  refine jg_br (fun _ _ _ _ k1 k2 => jt_icmp_eq (t := 94) rfl rfl k1 k2) (fun c10 => ?_) (fun c10 => ?_)
  · refine jg_lvs (lv1 := [(0, .ref 215), (1, .int x1), (2, .int x2), (3, .int x3)]) rfl rfl ⟨rfl, rfl, rfl, rfl, trivial⟩ ?_
    exact kJ_M_holiday_94 (by omega) (by omega) x1 x2 x3 S
  · refine jg_sg 1 (pc1 := 77) (lv1 := [(0, .ref 215), (1, .int x1), (2, .int x2), (3, .int x3)]) (st1 := [.ref 215]) (fun _ _ _ => rfl) ?_
    refine jg_g (v := .ref 435) rfl kc_215 rfl rfl ?_
    refine jg_sg 2 (pc1 := 82) (lv1 := [(0, .ref 215), (1, .int x1), (2, .int x2), (3, .int x3)]) (st1 := [.int x1, .ref 435, .int x1, .ref 435]) (fun _ _ _ => rfl) ?_
    refine jg_ial rfl kc_435 (fun g15 => ?_)
    refine jg_sg 1 (pc1 := 84) (lv1 := [(0, .ref 215), (1, .int x1), (2, .int x2), (3, .int x3)]) (st1 := [.int x3, .int (S.1 435 ((x1 : Int32).toNatClampNeg)), .int x1, .ref 435]) (fun _ _ _ => rfl) ?_
    refine jg_br (fun _ _ _ _ k1 k2 => jt_if_eq (t := 91) rfl rfl k1 k2) (fun c16 => ?_) (fun c16 => ?_)
    · refine jg_sg 1 (pc1 := 92) (lv1 := [(0, .ref 215), (1, .int x1), (2, .int x2), (3, .int x3)]) (st1 := [.int (-1), .int (S.1 435 ((x1 : Int32).toNatClampNeg)), .int x1, .ref 435]) (fun _ _ _ => rfl) ?_
      refine jg_lvs (lv1 := [(0, .ref 215), (1, .int x1), (2, .int x2), (3, .int x3)]) rfl rfl ⟨rfl, rfl, rfl, rfl, trivial⟩ ?_
      exact kJ_M_holiday_92 (by omega) (by omega) x1 x2 x3 (-1) (S.1 435 ((x1 : Int32).toNatClampNeg)) x1 S
    · refine jg_sg 2 (pc1 := 92) (lv1 := [(0, .ref 215), (1, .int x1), (2, .int x2), (3, .int x3)]) (st1 := [.int 1, .int (S.1 435 ((x1 : Int32).toNatClampNeg)), .int x1, .ref 435]) (fun _ _ _ => rfl) ?_
      refine jg_lvs (lv1 := [(0, .ref 215), (1, .int x1), (2, .int x2), (3, .int x3)]) rfl rfl ⟨rfl, rfl, rfl, rfl, trivial⟩ ?_
      exact kJ_M_holiday_92 (by omega) (by omega) x1 x2 x3 1 (S.1 435 ((x1 : Int32).toNatClampNeg)) x1 S
noncomputable def F_M_holiday (p0 : Int32) (p1 : Int32) (p2 : Int32) (S : jS) : Option (Int32 × jS) := j_l (w_i S 215 0 0) (fun S1 => if p0 < 0 then (J_M_holiday_25 S1) else (if 3 < p0 then (J_M_holiday_25 S1) else (if p1 < 0 then (J_M_holiday_25 S1) else (if p1 ≤ 120529 then (if p2 = 0 then (J_M_holiday_64 p0 p1 p2 S1) else (j_q (j_in p0 4) (j_q (j_in p1 120530) (if (S1.1 (431 + ((p0 : Int32).toNatClampNeg)) ((p1 : Int32).toNatClampNeg)) = 0 then (j_q (j_in p0 4) (if (S1.1 435 ((p0 : Int32).toNatClampNeg)) = 200 then ((F_M_fail 2 S1).bind (fun z24 => some (z24.1, z24.2))) else (J_M_holiday_64 p0 p1 p2 S1))) else (J_M_holiday_64 p0 p1 p2 S1))))) else (J_M_holiday_25 S1)))))
set_option maxRecDepth 20000 in
theorem kF_M_holiday {q : Nat} (p0 : Int32) (p1 : Int32) (p2 : Int32) (S : jS) (rF rL : Nat) (hF : 1 ≤ rF) (hL : 21 ≤ rL)  : jg q jp_M_holiday rF rL 0 [(0, .ref 215), (1, .int p0), (2, .int p1), (3, .int p2)] [] S 0 s_I (F_M_holiday p0 p1 p2 S) := by
  unfold F_M_holiday
  refine jg_sg 2 (pc1 := 2) (lv1 := [(0, .ref 215), (1, .int p0), (2, .int p1), (3, .int p2)]) (st1 := [.int 0, .ref 215]) (fun _ _ _ => rfl) ?_
  refine jg_pi rfl kc_215 rfl (Nat.le_of_ble_eq_true rfl) rfl rfl (fun S1 _ => ?_)
  refine jg_sg 1 (pc1 := 6) (lv1 := [(0, .ref 215), (1, .int p0), (2, .int p1), (3, .int p2)]) (st1 := [.int p0]) (fun _ _ _ => rfl) ?_
  refine jg_br (fun _ _ _ _ k1 k2 => jt_if_lt (t := 25) rfl rfl k1 k2) (fun c2 => ?_) (fun c2 => ?_)
  · refine jg_lvs (lv1 := [(0, .ref 215)]) rfl rfl ⟨rfl, trivial⟩ ?_
    exact kJ_M_holiday_25 (by omega) (by omega) S1
  · refine jg_sg 2 (pc1 := 11) (lv1 := [(0, .ref 215), (1, .int p0), (2, .int p1), (3, .int p2)]) (st1 := [.int 3, .int p0]) (fun _ _ _ => rfl) ?_
    refine jg_br (fun _ _ _ _ k1 k2 => jt_icmp_gt (t := 25) rfl rfl k1 k2) (fun c4 => ?_) (fun c4 => ?_)
    · refine jg_lvs (lv1 := [(0, .ref 215)]) rfl rfl ⟨rfl, trivial⟩ ?_
      exact kJ_M_holiday_25 (by omega) (by omega) S1
    · refine jg_sg 1 (pc1 := 15) (lv1 := [(0, .ref 215), (1, .int p0), (2, .int p1), (3, .int p2)]) (st1 := [.int p1]) (fun _ _ _ => rfl) ?_
      refine jg_br (fun _ _ _ _ k1 k2 => jt_if_lt (t := 25) rfl rfl k1 k2) (fun c5 => ?_) (fun c5 => ?_)
      · refine jg_lvs (lv1 := [(0, .ref 215)]) rfl rfl ⟨rfl, trivial⟩ ?_
        exact kJ_M_holiday_25 (by omega) (by omega) S1
      · refine jg_sg 2 (pc1 := 22) (lv1 := [(0, .ref 215), (1, .int p0), (2, .int p1), (3, .int p2)]) (st1 := [.int 120529, .int p1]) (fun _ _ _ => rfl) ?_
        refine jg_br (fun _ _ _ _ k1 k2 => jt_icmp_le (t := 31) rfl rfl k1 k2) (fun c6 => ?_) (fun c6 => ?_)
        · refine jg_sg 1 (pc1 := 32) (lv1 := [(0, .ref 215), (1, .int p0), (2, .int p1), (3, .int p2)]) (st1 := [.int p2]) (fun _ _ _ => rfl) ?_
          refine jg_br (fun _ _ _ _ k1 k2 => jt_if_eq (t := 64) rfl rfl k1 k2) (fun c7 => ?_) (fun c7 => ?_)
          · refine jg_lvs (lv1 := [(0, .ref 215), (1, .int p0), (2, .int p1), (3, .int p2)]) rfl rfl ⟨rfl, rfl, rfl, rfl, trivial⟩ ?_
            exact kJ_M_holiday_64 (by omega) (by omega) p0 p1 p2 S1
          · refine jg_sg 1 (pc1 := 36) (lv1 := [(0, .ref 215), (1, .int p0), (2, .int p1), (3, .int p2)]) (st1 := [.ref 215]) (fun _ _ _ => rfl) ?_
            refine jg_g (v := .ref 430) rfl kc_215 rfl rfl ?_
            refine jg_sg 1 (pc1 := 40) (lv1 := [(0, .ref 215), (1, .int p0), (2, .int p1), (3, .int p2)]) (st1 := [.int p0, .ref 430]) (fun _ _ _ => rfl) ?_
            refine jg_aal (w := 431 + ((p0 : Int32).toNatClampNeg)) rfl rfl kc_430 rfl (fun g19 => ?_)
            refine jg_sg 1 (pc1 := 42) (lv1 := [(0, .ref 215), (1, .int p0), (2, .int p1), (3, .int p2)]) (st1 := [.int p1, .ref (431 + ((p0 : Int32).toNatClampNeg))]) (fun _ _ _ => rfl) ?_
            refine jg_bal rfl rfl (kc_hr (jr_m g19)) (fun g20 => ?_)
            refine jg_br (fun _ _ _ _ k1 k2 => jt_if_ne (t := 64) rfl rfl k2 k1) (fun c21 => ?_) (fun c21 => ?_)
            · refine jg_sg 1 (pc1 := 47) (lv1 := [(0, .ref 215), (1, .int p0), (2, .int p1), (3, .int p2)]) (st1 := [.ref 215]) (fun _ _ _ => rfl) ?_
              refine jg_g (v := .ref 435) rfl kc_215 rfl rfl ?_
              refine jg_sg 1 (pc1 := 51) (lv1 := [(0, .ref 215), (1, .int p0), (2, .int p1), (3, .int p2)]) (st1 := [.int p0, .ref 435]) (fun _ _ _ => rfl) ?_
              refine jg_ial rfl kc_435 (fun g22 => ?_)
              refine jg_sg 1 (pc1 := 55) (lv1 := [(0, .ref 215), (1, .int p0), (2, .int p1), (3, .int p2)]) (st1 := [.int 200, .int (S1.1 435 ((p0 : Int32).toNatClampNeg))]) (fun _ _ _ => rfl) ?_
              refine jg_br (fun _ _ _ _ k1 k2 => jt_icmp_ne (t := 64) rfl rfl k2 k1) (fun c23 => ?_) (fun c23 => ?_)
              · refine jg_sg 2 (pc1 := 60) (lv1 := [(0, .ref 215), (1, .int p0), (2, .int p1), (3, .int p2)]) (st1 := [.int 2, .ref 215]) (fun _ _ _ => rfl) ?_
                refine jg_csI (m2 := jp_M_fail) (As := [.ref 215, .int 2]) (r := []) (mx := 2) (jh_v (a := 215) rfl rfl rfl kc_215 rfl (Nat.le_of_ble_eq_true rfl) rfl rfl rfl (by omega) (by omega) (Nat.le_of_ble_eq_true rfl)) (kF_M_fail 2 S1 _ _ (by omega) (by omega) ) (fun z24 => ?_)
                exact jg_ri rfl rfl rfl rfl
              · refine jg_lvs (lv1 := [(0, .ref 215), (1, .int p0), (2, .int p1), (3, .int p2)]) rfl rfl ⟨rfl, rfl, rfl, rfl, trivial⟩ ?_
                exact kJ_M_holiday_64 (by omega) (by omega) p0 p1 p2 S1
            · refine jg_lvs (lv1 := [(0, .ref 215), (1, .int p0), (2, .int p1), (3, .int p2)]) rfl rfl ⟨rfl, rfl, rfl, rfl, trivial⟩ ?_
              exact kJ_M_holiday_64 (by omega) (by omega) p0 p1 p2 S1
        · refine jg_lvs (lv1 := [(0, .ref 215)]) rfl rfl ⟨rfl, trivial⟩ ?_
          exact kJ_M_holiday_25 (by omega) (by omega) S1
end JF12
