section JF11
noncomputable def L_M_items_248 (kt26 : Int32 → Int32 → jS → Option (Option Nat × jS)) : Nat → Int32 → Int32 → Int32 → Int32 → Int32 → Int32 → jS → Option (Option Nat × jS)
  | 0, _, _, _, _, _, _, _ => none
  | f + 1, x1, x4, x7, x8, x9, x10, S => if x9 ≤ x10 then ((F_M_peek S).bind (fun z33 => if z33 = 44 then (j_l (w_i S 215 7 ((S.1 215 7) + 1)) (fun S35 => kt26 x1 0 S35)) else (some (none, S)))) else (j_q (j_in x1 7) (j_q (j_in x1 7) ((F_Math_floorMod ((x4 - (jx_LEAST ((x1 : Int32).toNatClampNeg))) + x10) x8 S).bind (fun z38 => j_q (j_in z38 330) (j_l (w_i S (369 + ((x1 : Int32).toNatClampNeg)) ((z38 : Int32).toNatClampNeg) (vp_nar .boolean 1)) (fun S40 => j_l (x10 + x7 : Int32) (fun v41 => (L_M_items_248 kt26 f) x1 x4 x7 x8 x9 v41 S40)))))))
set_option maxRecDepth 20000 in
theorem kL_M_items_248 {q rF rL : Nat} (hF : 9 ≤ rF) (hL : 175 ≤ rL)  (kt26 : Int32 → Int32 → jS → Option (Option Nat × jS)) (ih26 : ∀ (x1 : Int32) (x2 : Int32) (S : jS), jg q jp_M_items rF rL 26 [(0, .ref 215), (1, .int x1), (2, .int x2)] [] S 0 x_V (kt26 x1 x2 S)) : ∀ (f : Nat) (x1 : Int32) (x4 : Int32) (x7 : Int32) (x8 : Int32) (x9 : Int32) (x10 : Int32) (S : jS), jg q jp_M_items rF rL 248 [(0, .ref 215), (1, .int x1), (4, .int x4), (7, .int x7), (8, .int x8), (9, .int x9), (10, .int x10)] [] S 0 x_V (L_M_items_248 kt26 f x1 x4 x7 x8 x9 x10 S) := by
  intro f
  induction f with
  | zero => intro _ _ _ _ _ _ _; exact jg_none
  | succ f ih248 =>
    intro x1 x4 x7 x8 x9 x10 S
    rw [L_M_items_248]
    refine jg_sg 2 (pc1 := 252) (lv1 := [(0, .ref 215), (1, .int x1), (4, .int x4), (7, .int x7), (8, .int x8), (9, .int x9), (10, .int x10)]) (st1 := [.int x9, .int x10]) (fun _ _ _ => rfl) ?_
    refine jg_br (fun _ _ _ _ k1 k2 => jt_icmp_ge (t := 289) rfl rfl k1 k2) (fun c32 => ?_) (fun c32 => ?_)
    · refine jg_sg 1 (pc1 := 290) (lv1 := [(0, .ref 215), (1, .int x1), (4, .int x4), (7, .int x7), (8, .int x8), (9, .int x9), (10, .int x10)]) (st1 := [.ref 215]) (fun _ _ _ => rfl) ?_
      refine jg_cpI (m2 := jp_M_peek) (As := [.ref 215]) (r := []) (mx := 1) (jh_v (a := 215) rfl rfl rfl kc_215 rfl (Nat.le_of_ble_eq_true rfl) rfl rfl rfl (by omega) (by omega) (Nat.le_of_ble_eq_true rfl)) (kF_M_peek S _ _ (by omega) (by omega) ) (fun z33 => ?_)
      refine jg_sg 1 (pc1 := 295) (lv1 := [(0, .ref 215), (1, .int x1), (4, .int x4), (7, .int x7), (8, .int x8), (9, .int x9), (10, .int x10)]) (st1 := [.int 44, .int z33]) (fun _ _ _ => rfl) ?_
      refine jg_br (fun _ _ _ _ k1 k2 => jt_icmp_eq (t := 299) rfl rfl k1 k2) (fun c34 => ?_) (fun c34 => ?_)
      · refine jg_sg 2 (pc1 := 301) (lv1 := [(0, .ref 215), (1, .int x1), (4, .int x4), (7, .int x7), (8, .int x8), (9, .int x9), (10, .int x10)]) (st1 := [.ref 215, .ref 215]) (fun _ _ _ => rfl) ?_
        refine jg_g (v := .int (S.1 215 7)) rfl kc_215 rfl rfl ?_
        refine jg_sg 2 (pc1 := 306) (lv1 := [(0, .ref 215), (1, .int x1), (4, .int x4), (7, .int x7), (8, .int x8), (9, .int x9), (10, .int x10)]) (st1 := [.int ((S.1 215 7) + 1), .ref 215]) (fun _ _ _ => rfl) ?_
        refine jg_pi rfl kc_215 rfl (Nat.le_of_ble_eq_true rfl) rfl rfl (fun S35 _ => ?_)
        refine jg_sg 3 (pc1 := 26) (lv1 := [(2, .int 0), (0, .ref 215), (1, .int x1), (4, .int x4), (7, .int x7), (8, .int x8), (9, .int x9), (10, .int x10)]) (st1 := []) (fun _ _ _ => rfl) ?_
        refine jg_lvs (lv1 := [(0, .ref 215), (1, .int x1), (2, .int 0)]) rfl rfl ⟨rfl, rfl, rfl, trivial⟩ ?_
        exact ih26 x1 0 S35
      · exact jg_rv rfl rfl rfl
    · refine jg_sg 1 (pc1 := 256) (lv1 := [(0, .ref 215), (1, .int x1), (4, .int x4), (7, .int x7), (8, .int x8), (9, .int x9), (10, .int x10)]) (st1 := [.ref 215]) (fun _ _ _ => rfl) ?_
      refine jg_g (v := .ref 368) rfl kc_215 rfl rfl ?_
      refine jg_sg 1 (pc1 := 260) (lv1 := [(0, .ref 215), (1, .int x1), (4, .int x4), (7, .int x7), (8, .int x8), (9, .int x9), (10, .int x10)]) (st1 := [.int x1, .ref 368]) (fun _ _ _ => rfl) ?_
      refine jg_aal (w := 369 + ((x1 : Int32).toNatClampNeg)) rfl rfl kc_368 rfl (fun g36 => ?_)
      refine jg_sg 3 (pc1 := 267) (lv1 := [(0, .ref 215), (1, .int x1), (4, .int x4), (7, .int x7), (8, .int x8), (9, .int x9), (10, .int x10)]) (st1 := [.int x1, .ref 1, .int x4, .ref (369 + ((x1 : Int32).toNatClampNeg))]) (fun _ _ _ => rfl) ?_
      refine jg_iaK1 rfl (fun g37 => ?_)
      refine jg_sg 4 (pc1 := 274) (lv1 := [(0, .ref 215), (1, .int x1), (4, .int x4), (7, .int x7), (8, .int x8), (9, .int x9), (10, .int x10)]) (st1 := [.int x8, .int ((x4 - (jx_LEAST ((x1 : Int32).toNatClampNeg))) + x10), .ref (369 + ((x1 : Int32).toNatClampNeg))]) (fun _ _ _ => rfl) ?_
      refine jg_cpI (m2 := jp_Math_floorMod) (As := [.int ((x4 - (jx_LEAST ((x1 : Int32).toNatClampNeg))) + x10), .int x8]) (r := [.ref (369 + ((x1 : Int32).toNatClampNeg))]) (mx := 3) (jh_s rfl (fun _ _ _ => rfl) rfl rfl rfl (by omega) (by omega) (Nat.le_of_ble_eq_true rfl)) (kF_Math_floorMod ((x4 - (jx_LEAST ((x1 : Int32).toNatClampNeg))) + x10) x8 S _ _ (by omega) (by omega) ) (fun z38 => ?_)
      refine jg_sg 1 (pc1 := 278) (lv1 := [(0, .ref 215), (1, .int x1), (4, .int x4), (7, .int x7), (8, .int x8), (9, .int x9), (10, .int x10)]) (st1 := [.int 1, .int z38, .ref (369 + ((x1 : Int32).toNatClampNeg))]) (fun _ _ _ => rfl) ?_
      refine jg_bas rfl rfl (kc_tr (jr_m g36)) rfl (fun g39 S40 _ => ?_)
      refine jg_sg 4 (pc1 := 286) (lv1 := [(10, .int (x10 + x7)), (0, .ref 215), (1, .int x1), (4, .int x4), (7, .int x7), (8, .int x8), (9, .int x9)]) (st1 := []) (fun _ _ _ => rfl) ?_
      refine jg_vi (fun v41 => ?_)
      refine jg_sg 1 (pc1 := 248) (lv1 := [(10, .int v41), (0, .ref 215), (1, .int x1), (4, .int x4), (7, .int x7), (8, .int x8), (9, .int x9)]) (st1 := []) (fun _ _ _ => rfl) ?_
      refine jg_lvs (lv1 := [(0, .ref 215), (1, .int x1), (4, .int x4), (7, .int x7), (8, .int x8), (9, .int x9), (10, .int v41)]) rfl rfl ⟨rfl, rfl, rfl, rfl, rfl, rfl, rfl, trivial⟩ ?_
      exact ih248 x1 x4 x7 x8 x9 v41 S40
noncomputable def J_M_items_216 (kt26 : Int32 → Int32 → jS → Option (Option Nat × jS)) (x1 : Int32) (x4 : Int32) (x5 : Int32) (x7 : Int32) (S : jS) : Option (Option Nat × jS) := j_q (j_in x1 7) (j_q (j_in x1 7) (j_l (((jx_MOSTS ((x1 : Int32).toNatClampNeg)) - (jx_LEAST ((x1 : Int32).toNatClampNeg))) + 1 : Int32) (fun v29 => (F_Math_floorMod (x5 - x4) v29 S).bind (fun z30 => j_l (z30 + 1 : Int32) (fun v31 => L_M_items_248 kt26 ju_ x1 x4 x7 v29 v31 0 S)))))
set_option maxRecDepth 20000 in
theorem kJ_M_items_216 {q rF rL : Nat} (hF : 9 ≤ rF) (hL : 175 ≤ rL)  (kt26 : Int32 → Int32 → jS → Option (Option Nat × jS)) (ih26 : ∀ (x1 : Int32) (x2 : Int32) (S : jS), jg q jp_M_items rF rL 26 [(0, .ref 215), (1, .int x1), (2, .int x2)] [] S 0 x_V (kt26 x1 x2 S)) (x1 : Int32) (x4 : Int32) (x5 : Int32) (x7 : Int32) (S : jS) : jg q jp_M_items rF rL 216 [(0, .ref 215), (1, .int x1), (4, .int x4), (5, .int x5), (7, .int x7)] [] S 0 x_V (J_M_items_216 kt26 x1 x4 x5 x7 S) := by
  unfold J_M_items_216
  refine jg_sg 2 (pc1 := 220) (lv1 := [(0, .ref 215), (1, .int x1), (4, .int x4), (5, .int x5), (7, .int x7)]) (st1 := [.int x1, .ref 2]) (fun _ _ _ => rfl) ?_
  refine jg_iaK2 rfl (fun g27 => ?_)
  refine jg_sg 2 (pc1 := 225) (lv1 := [(0, .ref 215), (1, .int x1), (4, .int x4), (5, .int x5), (7, .int x7)]) (st1 := [.int x1, .ref 1, .int (jx_MOSTS ((x1 : Int32).toNatClampNeg))]) (fun _ _ _ => rfl) ?_
  refine jg_iaK1 rfl (fun g28 => ?_)
  refine jg_sg 4 (pc1 := 231) (lv1 := [(8, .int (((jx_MOSTS ((x1 : Int32).toNatClampNeg)) - (jx_LEAST ((x1 : Int32).toNatClampNeg))) + 1)), (0, .ref 215), (1, .int x1), (4, .int x4), (5, .int x5), (7, .int x7)]) (st1 := []) (fun _ _ _ => rfl) ?_
  refine jg_vi (fun v29 => ?_)
  refine jg_sg 4 (pc1 := 238) (lv1 := [(8, .int v29), (0, .ref 215), (1, .int x1), (4, .int x4), (5, .int x5), (7, .int x7)]) (st1 := [.int v29, .int (x5 - x4)]) (fun _ _ _ => rfl) ?_
  refine jg_cpI (m2 := jp_Math_floorMod) (As := [.int (x5 - x4), .int v29]) (r := []) (mx := 3) (jh_s rfl (fun _ _ _ => rfl) rfl rfl rfl (by omega) (by omega) (Nat.le_of_ble_eq_true rfl)) (kF_Math_floorMod (x5 - x4) v29 S _ _ (by omega) (by omega) ) (fun z30 => ?_)
  refine jg_sg 3 (pc1 := 245) (lv1 := [(9, .int (z30 + 1)), (8, .int v29), (0, .ref 215), (1, .int x1), (4, .int x4), (5, .int x5), (7, .int x7)]) (st1 := []) (fun _ _ _ => rfl) ?_
  refine jg_vi (fun v31 => ?_)
  refine jg_sg 2 (pc1 := 248) (lv1 := [(10, .int 0), (9, .int v31), (8, .int v29), (0, .ref 215), (1, .int x1), (4, .int x4), (5, .int x5), (7, .int x7)]) (st1 := []) (fun _ _ _ => rfl) ?_
  refine jg_lvs (lv1 := [(0, .ref 215), (1, .int x1), (4, .int x4), (7, .int x7), (8, .int v29), (9, .int v31), (10, .int 0)]) rfl rfl ⟨rfl, rfl, rfl, rfl, rfl, rfl, rfl, trivial⟩ ?_
  exact kL_M_items_248 (by omega) (by omega) kt26 ih26 ju_ x1 x4 x7 v29 v31 0 S
noncomputable def J_M_items_185 (kt26 : Int32 → Int32 → jS → Option (Option Nat × jS)) (x1 : Int32) (x4 : Int32) (x5 : Int32) (S : jS) : Option (Option Nat × jS) := (F_M_peek S).bind (fun z22 => if z22 = 47 then (j_l (w_i S 215 7 ((S.1 215 7) + 1)) (fun S24 => j_x (F_M_ranged 1 99 S24) (fun c S => (some c, S)) (fun z26 S25 => J_M_items_216 kt26 x1 x4 x5 z26 S25))) else (J_M_items_216 kt26 x1 x4 x5 1 S))
set_option maxRecDepth 20000 in
theorem kJ_M_items_185 {q rF rL : Nat} (hF : 9 ≤ rF) (hL : 175 ≤ rL)  (kt26 : Int32 → Int32 → jS → Option (Option Nat × jS)) (ih26 : ∀ (x1 : Int32) (x2 : Int32) (S : jS), jg q jp_M_items rF rL 26 [(0, .ref 215), (1, .int x1), (2, .int x2)] [] S 0 x_V (kt26 x1 x2 S)) (x1 : Int32) (x4 : Int32) (x5 : Int32) (S : jS) : jg q jp_M_items rF rL 185 [(0, .ref 215), (1, .int x1), (4, .int x4), (5, .int x5)] [] S 0 x_V (J_M_items_185 kt26 x1 x4 x5 S) := by
  unfold J_M_items_185
  refine jg_sg 3 (pc1 := 189) (lv1 := [(7, .int 1), (0, .ref 215), (1, .int x1), (4, .int x4), (5, .int x5)]) (st1 := [.ref 215]) (fun _ _ _ => rfl) ?_
  refine jg_cpI (m2 := jp_M_peek) (As := [.ref 215]) (r := []) (mx := 1) (jh_v (a := 215) rfl rfl rfl kc_215 rfl (Nat.le_of_ble_eq_true rfl) rfl rfl rfl (by omega) (by omega) (Nat.le_of_ble_eq_true rfl)) (kF_M_peek S _ _ (by omega) (by omega) ) (fun z22 => ?_)
  refine jg_sg 1 (pc1 := 194) (lv1 := [(7, .int 1), (0, .ref 215), (1, .int x1), (4, .int x4), (5, .int x5)]) (st1 := [.int 47, .int z22]) (fun _ _ _ => rfl) ?_
  refine jg_br (fun _ _ _ _ k1 k2 => jt_icmp_ne (t := 216) rfl rfl k2 k1) (fun c23 => ?_) (fun c23 => ?_)
  · refine jg_sg 2 (pc1 := 199) (lv1 := [(7, .int 1), (0, .ref 215), (1, .int x1), (4, .int x4), (5, .int x5)]) (st1 := [.ref 215, .ref 215]) (fun _ _ _ => rfl) ?_
    refine jg_g (v := .int (S.1 215 7)) rfl kc_215 rfl rfl ?_
    refine jg_sg 2 (pc1 := 204) (lv1 := [(7, .int 1), (0, .ref 215), (1, .int x1), (4, .int x4), (5, .int x5)]) (st1 := [.int ((S.1 215 7) + 1), .ref 215]) (fun _ _ _ => rfl) ?_
    refine jg_pi rfl kc_215 rfl (Nat.le_of_ble_eq_true rfl) rfl rfl (fun S24 _ => ?_)
    refine jg_sg 3 (pc1 := 211) (lv1 := [(7, .int 1), (0, .ref 215), (1, .int x1), (4, .int x4), (5, .int x5)]) (st1 := [.int 99, .int 1, .ref 215]) (fun _ _ _ => rfl) ?_
    refine jg_cxI (m2 := jp_M_ranged) (As := [.ref 215, .int 1, .int 99]) (r := []) (mx := 5) (jh_v (a := 215) rfl rfl rfl kc_215 rfl (Nat.le_of_ble_eq_true rfl) rfl rfl rfl (by omega) (by omega) (Nat.le_of_ble_eq_true rfl)) rfl (fun _ _ => rfl) (kF_M_ranged 1 99 S24 _ _ (by omega) (by omega) ) (fun z26 S25 => ?_)
    refine jg_sg 1 (pc1 := 216) (lv1 := [(7, .int z26), (0, .ref 215), (1, .int x1), (4, .int x4), (5, .int x5)]) (st1 := []) (fun _ _ _ => rfl) ?_
    refine jg_lvs (lv1 := [(0, .ref 215), (1, .int x1), (4, .int x4), (5, .int x5), (7, .int z26)]) rfl rfl ⟨rfl, rfl, rfl, rfl, rfl, trivial⟩ ?_
    exact kJ_M_items_216 (by omega) (by omega) kt26 ih26 x1 x4 x5 z26 S25
  · refine jg_lvs (lv1 := [(0, .ref 215), (1, .int x1), (4, .int x4), (5, .int x5), (7, .int 1)]) rfl rfl ⟨rfl, rfl, rfl, rfl, rfl, trivial⟩ ?_
    exact kJ_M_items_216 (by omega) (by omega) kt26 ih26 x1 x4 x5 1 S
noncomputable def J_M_items_173 (kt26 : Int32 → Int32 → jS → Option (Option Nat × jS)) (x1 : Int32) (x4 : Int32) (x5 : Int32) (S : jS) : Option (Option Nat × jS) := J_M_items_185 kt26 x1 x4 x5 S
set_option maxRecDepth 20000 in
theorem kJ_M_items_173 {q rF rL : Nat} (hF : 9 ≤ rF) (hL : 175 ≤ rL)  (kt26 : Int32 → Int32 → jS → Option (Option Nat × jS)) (ih26 : ∀ (x1 : Int32) (x2 : Int32) (S : jS), jg q jp_M_items rF rL 26 [(0, .ref 215), (1, .int x1), (2, .int x2)] [] S 0 x_V (kt26 x1 x2 S)) (x1 : Int32) (x4 : Int32) (x5 : Int32) (S : jS) : jg q jp_M_items rF rL 173 [(0, .ref 215), (1, .int x1), (4, .int x4), (5, .int x5)] [] S 0 x_V (J_M_items_173 kt26 x1 x4 x5 S) := by
  unfold J_M_items_173
  refine jg_sg 1 (pc1 := 185) (lv1 := [(0, .ref 215), (1, .int x1), (4, .int x4), (5, .int x5)]) (st1 := []) (fun _ _ _ => rfl) ?_
  refine jg_lvs (lv1 := [(0, .ref 215), (1, .int x1), (4, .int x4), (5, .int x5)]) rfl rfl ⟨rfl, rfl, rfl, rfl, trivial⟩ ?_
  exact kJ_M_items_185 (by omega) (by omega) kt26 ih26 x1 x4 x5 S
noncomputable def J_M_items_120 (kt26 : Int32 → Int32 → jS → Option (Option Nat × jS)) (x1 : Int32) (x4 : Int32) (x5 : Int32) (y0 : Int32) (S : jS) : Option (Option Nat × jS) := (F_M_peek S).bind (fun z14 => if z14 = 45 then (j_l (w_i S 215 7 ((S.1 215 7) + 1)) (fun S16 => j_l (S16.1 215 7 : Int32) (fun v17 => j_x (F_M_value x1 S16) (fun c S => (some c, S)) (fun z19 S18 => if x1 = 6 then (if x4 ≤ z19 then (J_M_items_173 kt26 x1 x4 z19 S18) else (j_xv (F_M_bad v17 S18) (fun c S => (some c, S)) (fun S42 => J_M_items_173 kt26 x1 x4 z19 S42))) else (J_M_items_173 kt26 x1 x4 z19 S18))))) else (if y0 = 0 then (J_M_items_185 kt26 x1 x4 x5 S) else (J_M_items_185 kt26 x1 x4 x4 S)))
set_option maxRecDepth 20000 in
theorem kJ_M_items_120 {q rF rL : Nat} (hF : 9 ≤ rF) (hL : 175 ≤ rL)  (kt26 : Int32 → Int32 → jS → Option (Option Nat × jS)) (ih26 : ∀ (x1 : Int32) (x2 : Int32) (S : jS), jg q jp_M_items rF rL 26 [(0, .ref 215), (1, .int x1), (2, .int x2)] [] S 0 x_V (kt26 x1 x2 S)) (x1 : Int32) (x4 : Int32) (x5 : Int32) (y0 : Int32) (S : jS) : jg q jp_M_items rF rL 120 [(0, .ref 215), (1, .int x1), (4, .int x4), (5, .int x5)] [.int y0] S 0 x_V (J_M_items_120 kt26 x1 x4 x5 y0 S) := by
  unfold J_M_items_120
  refine jg_sg 2 (pc1 := 123) (lv1 := [(6, .int y0), (0, .ref 215), (1, .int x1), (4, .int x4), (5, .int x5)]) (st1 := [.ref 215]) (fun _ _ _ => rfl) ?_
  refine jg_cpI (m2 := jp_M_peek) (As := [.ref 215]) (r := []) (mx := 1) (jh_v (a := 215) rfl rfl rfl kc_215 rfl (Nat.le_of_ble_eq_true rfl) rfl rfl rfl (by omega) (by omega) (Nat.le_of_ble_eq_true rfl)) (kF_M_peek S _ _ (by omega) (by omega) ) (fun z14 => ?_)
  refine jg_sg 1 (pc1 := 128) (lv1 := [(6, .int y0), (0, .ref 215), (1, .int x1), (4, .int x4), (5, .int x5)]) (st1 := [.int 45, .int z14]) (fun _ _ _ => rfl) ?_
  refine jg_br (fun _ _ _ _ k1 k2 => jt_icmp_ne (t := 176) rfl rfl k2 k1) (fun c15 => ?_) (fun c15 => ?_)
  · refine jg_sg 2 (pc1 := 133) (lv1 := [(6, .int y0), (0, .ref 215), (1, .int x1), (4, .int x4), (5, .int x5)]) (st1 := [.ref 215, .ref 215]) (fun _ _ _ => rfl) ?_
    refine jg_g (v := .int (S.1 215 7)) rfl kc_215 rfl rfl ?_
    refine jg_sg 2 (pc1 := 138) (lv1 := [(6, .int y0), (0, .ref 215), (1, .int x1), (4, .int x4), (5, .int x5)]) (st1 := [.int ((S.1 215 7) + 1), .ref 215]) (fun _ _ _ => rfl) ?_
    refine jg_pi rfl kc_215 rfl (Nat.le_of_ble_eq_true rfl) rfl rfl (fun S16 _ => ?_)
    refine jg_sg 1 (pc1 := 142) (lv1 := [(6, .int y0), (0, .ref 215), (1, .int x1), (4, .int x4), (5, .int x5)]) (st1 := [.ref 215]) (fun _ _ _ => rfl) ?_
    refine jg_g (v := .int (S16.1 215 7)) rfl kc_215 rfl rfl ?_
    refine jg_sg 1 (pc1 := 147) (lv1 := [(7, .int (S16.1 215 7)), (6, .int y0), (0, .ref 215), (1, .int x1), (4, .int x4), (5, .int x5)]) (st1 := []) (fun _ _ _ => rfl) ?_
    refine jg_vi (fun v17 => ?_)
    refine jg_sg 2 (pc1 := 149) (lv1 := [(7, .int v17), (6, .int y0), (0, .ref 215), (1, .int x1), (4, .int x4), (5, .int x5)]) (st1 := [.int x1, .ref 215]) (fun _ _ _ => rfl) ?_
    refine jg_cxI (m2 := jp_M_value) (As := [.ref 215, .int x1]) (r := []) (mx := 6) (jh_v (a := 215) rfl rfl rfl kc_215 rfl (Nat.le_of_ble_eq_true rfl) rfl rfl rfl (by omega) (by omega) (Nat.le_of_ble_eq_true rfl)) rfl (fun _ _ => rfl) (kF_M_value x1 S16 _ _ (by omega) (by omega) ) (fun z19 S18 => ?_)
    refine jg_sg 3 (pc1 := 157) (lv1 := [(5, .int z19), (7, .int v17), (6, .int y0), (0, .ref 215), (1, .int x1), (4, .int x4)]) (st1 := [.int 6, .int x1]) (fun _ _ _ => rfl) ?_
    refine jg_br (fun _ _ _ _ k1 k2 => jt_icmp_ne (t := 173) rfl rfl k2 k1) (fun c20 => ?_) (fun c20 => ?_)
    · refine jg_sg 2 (pc1 := 164) (lv1 := [(5, .int z19), (7, .int v17), (6, .int y0), (0, .ref 215), (1, .int x1), (4, .int x4)]) (st1 := [.int z19, .int x4]) (fun _ _ _ => rfl) ?_
      refine jg_br (fun _ _ _ _ k1 k2 => jt_icmp_le (t := 173) rfl rfl k1 k2) (fun c21 => ?_) (fun c21 => ?_)
      · refine jg_lvs (lv1 := [(0, .ref 215), (1, .int x1), (4, .int x4), (5, .int z19)]) rfl rfl ⟨rfl, rfl, rfl, rfl, trivial⟩ ?_
        exact kJ_M_items_173 (by omega) (by omega) kt26 ih26 x1 x4 z19 S18
      · refine jg_sg 2 (pc1 := 170) (lv1 := [(5, .int z19), (7, .int v17), (6, .int y0), (0, .ref 215), (1, .int x1), (4, .int x4)]) (st1 := [.int v17, .ref 215]) (fun _ _ _ => rfl) ?_
        refine jg_cxV (m2 := jp_M_bad) (As := [.ref 215, .int v17]) (r := []) (mx := 2) (jh_v (a := 215) rfl rfl rfl kc_215 rfl (Nat.le_of_ble_eq_true rfl) rfl rfl rfl (by omega) (by omega) (Nat.le_of_ble_eq_true rfl)) rfl (fun _ _ => rfl) (kF_M_bad v17 S18 _ _ (by omega) (by omega) ) (fun S42 => ?_)
        refine jg_lvs (lv1 := [(0, .ref 215), (1, .int x1), (4, .int x4), (5, .int z19)]) rfl rfl ⟨rfl, rfl, rfl, rfl, trivial⟩ ?_
        exact kJ_M_items_173 (by omega) (by omega) kt26 ih26 x1 x4 z19 S42
    · refine jg_lvs (lv1 := [(0, .ref 215), (1, .int x1), (4, .int x4), (5, .int z19)]) rfl rfl ⟨rfl, rfl, rfl, rfl, trivial⟩ ?_
      exact kJ_M_items_173 (by omega) (by omega) kt26 ih26 x1 x4 z19 S18
  · refine jg_sg 1 (pc1 := 178) (lv1 := [(6, .int y0), (0, .ref 215), (1, .int x1), (4, .int x4), (5, .int x5)]) (st1 := [.int y0]) (fun _ _ _ => rfl) ?_
    refine jg_br (fun _ _ _ _ k1 k2 => jt_if_eq (t := 185) rfl rfl k1 k2) (fun c43 => ?_) (fun c43 => ?_)
    · refine jg_lvs (lv1 := [(0, .ref 215), (1, .int x1), (4, .int x4), (5, .int x5)]) rfl rfl ⟨rfl, rfl, rfl, rfl, trivial⟩ ?_
      exact kJ_M_items_185 (by omega) (by omega) kt26 ih26 x1 x4 x5 S
    · refine jg_sg 2 (pc1 := 185) (lv1 := [(5, .int x4), (6, .int y0), (0, .ref 215), (1, .int x1), (4, .int x4)]) (st1 := []) (fun _ _ _ => rfl) ?_
      refine jg_lvs (lv1 := [(0, .ref 215), (1, .int x1), (4, .int x4), (5, .int x4)]) rfl rfl ⟨rfl, rfl, rfl, rfl, trivial⟩ ?_
      exact kJ_M_items_185 (by omega) (by omega) kt26 ih26 x1 x4 x4 S
noncomputable def J_M_items_119 (kt26 : Int32 → Int32 → jS → Option (Option Nat × jS)) (x1 : Int32) (x4 : Int32) (x5 : Int32) (S : jS) : Option (Option Nat × jS) := J_M_items_120 kt26 x1 x4 x5 0 S
set_option maxRecDepth 20000 in
theorem kJ_M_items_119 {q rF rL : Nat} (hF : 9 ≤ rF) (hL : 175 ≤ rL)  (kt26 : Int32 → Int32 → jS → Option (Option Nat × jS)) (ih26 : ∀ (x1 : Int32) (x2 : Int32) (S : jS), jg q jp_M_items rF rL 26 [(0, .ref 215), (1, .int x1), (2, .int x2)] [] S 0 x_V (kt26 x1 x2 S)) (x1 : Int32) (x4 : Int32) (x5 : Int32) (S : jS) : jg q jp_M_items rF rL 119 [(0, .ref 215), (1, .int x1), (4, .int x4), (5, .int x5)] [] S 0 x_V (J_M_items_119 kt26 x1 x4 x5 S) := by
  unfold J_M_items_119
  refine jg_sg 1 (pc1 := 120) (lv1 := [(0, .ref 215), (1, .int x1), (4, .int x4), (5, .int x5)]) (st1 := [.int 0]) (fun _ _ _ => rfl) ?_
  refine jg_lvs (lv1 := [(0, .ref 215), (1, .int x1), (4, .int x4), (5, .int x5)]) rfl rfl ⟨rfl, rfl, rfl, rfl, trivial⟩ ?_
  exact kJ_M_items_120 (by omega) (by omega) kt26 ih26 x1 x4 x5 0 S
noncomputable def J_M_items_97 (kt26 : Int32 → Int32 → jS → Option (Option Nat × jS)) (x1 : Int32) (x4 : Int32) (x5 : Int32) (S : jS) : Option (Option Nat × jS) := (F_M_peek S).bind (fun z12 => if z12 = 45 then (J_M_items_119 kt26 x1 x4 x5 S) else ((F_M_peek S).bind (fun z44 => if z44 = 47 then (J_M_items_119 kt26 x1 x4 x5 S) else (J_M_items_120 kt26 x1 x4 x5 1 S))))
set_option maxRecDepth 20000 in
theorem kJ_M_items_97 {q rF rL : Nat} (hF : 9 ≤ rF) (hL : 175 ≤ rL)  (kt26 : Int32 → Int32 → jS → Option (Option Nat × jS)) (ih26 : ∀ (x1 : Int32) (x2 : Int32) (S : jS), jg q jp_M_items rF rL 26 [(0, .ref 215), (1, .int x1), (2, .int x2)] [] S 0 x_V (kt26 x1 x2 S)) (x1 : Int32) (x4 : Int32) (x5 : Int32) (S : jS) : jg q jp_M_items rF rL 97 [(0, .ref 215), (1, .int x1), (4, .int x4), (5, .int x5)] [] S 0 x_V (J_M_items_97 kt26 x1 x4 x5 S) := by
  unfold J_M_items_97
  refine jg_sg 1 (pc1 := 98) (lv1 := [(0, .ref 215), (1, .int x1), (4, .int x4), (5, .int x5)]) (st1 := [.ref 215]) (fun _ _ _ => rfl) ?_
  refine jg_cpI (m2 := jp_M_peek) (As := [.ref 215]) (r := []) (mx := 1) (jh_v (a := 215) rfl rfl rfl kc_215 rfl (Nat.le_of_ble_eq_true rfl) rfl rfl rfl (by omega) (by omega) (Nat.le_of_ble_eq_true rfl)) (kF_M_peek S _ _ (by omega) (by omega) ) (fun z12 => ?_)
  refine jg_sg 1 (pc1 := 103) (lv1 := [(0, .ref 215), (1, .int x1), (4, .int x4), (5, .int x5)]) (st1 := [.int 45, .int z12]) (fun _ _ _ => rfl) ?_
  refine jg_br (fun _ _ _ _ k1 k2 => jt_icmp_eq (t := 119) rfl rfl k1 k2) (fun c13 => ?_) (fun c13 => ?_)
  · refine jg_lvs (lv1 := [(0, .ref 215), (1, .int x1), (4, .int x4), (5, .int x5)]) rfl rfl ⟨rfl, rfl, rfl, rfl, trivial⟩ ?_
    exact kJ_M_items_119 (by omega) (by omega) kt26 ih26 x1 x4 x5 S
  · refine jg_sg 1 (pc1 := 107) (lv1 := [(0, .ref 215), (1, .int x1), (4, .int x4), (5, .int x5)]) (st1 := [.ref 215]) (fun _ _ _ => rfl) ?_
    refine jg_cpI (m2 := jp_M_peek) (As := [.ref 215]) (r := []) (mx := 1) (jh_v (a := 215) rfl rfl rfl kc_215 rfl (Nat.le_of_ble_eq_true rfl) rfl rfl rfl (by omega) (by omega) (Nat.le_of_ble_eq_true rfl)) (kF_M_peek S _ _ (by omega) (by omega) ) (fun z44 => ?_)
    refine jg_sg 1 (pc1 := 112) (lv1 := [(0, .ref 215), (1, .int x1), (4, .int x4), (5, .int x5)]) (st1 := [.int 47, .int z44]) (fun _ _ _ => rfl) ?_
    refine jg_br (fun _ _ _ _ k1 k2 => jt_icmp_eq (t := 119) rfl rfl k1 k2) (fun c45 => ?_) (fun c45 => ?_)
    · refine jg_lvs (lv1 := [(0, .ref 215), (1, .int x1), (4, .int x4), (5, .int x5)]) rfl rfl ⟨rfl, rfl, rfl, rfl, trivial⟩ ?_
      exact kJ_M_items_119 (by omega) (by omega) kt26 ih26 x1 x4 x5 S
    · refine jg_sg 2 (pc1 := 120) (lv1 := [(0, .ref 215), (1, .int x1), (4, .int x4), (5, .int x5)]) (st1 := [.int 1]) (fun _ _ _ => rfl) ?_
      refine jg_lvs (lv1 := [(0, .ref 215), (1, .int x1), (4, .int x4), (5, .int x5)]) rfl rfl ⟨rfl, rfl, rfl, rfl, trivial⟩ ?_
      exact kJ_M_items_120 (by omega) (by omega) kt26 ih26 x1 x4 x5 1 S
noncomputable def J_M_items_40 (kt26 : Int32 → Int32 → jS → Option (Option Nat × jS)) (x1 : Int32) (x2 : Int32) (y0 : Int32) (S : jS) : Option (Option Nat × jS) := j_q (j_in x1 7) (j_l (jx_LEAST ((x1 : Int32).toNatClampNeg) : Int32) (fun v5 => j_q (j_in x1 7) (j_l (jx_MOSTS ((x1 : Int32).toNatClampNeg) : Int32) (fun v7 => if y0 = 0 then (j_x (F_M_value x1 S) (fun c S => (some c, S)) (fun z10 S9 => if x2 = 0 then (J_M_items_97 kt26 x1 z10 v7 S9) else (j_x (F_M_special x1 z10 S9) (fun c S => (some c, S)) (fun z47 S46 => if z47 = 0 then (J_M_items_97 kt26 x1 z10 v7 S46) else (some (none, S46)))))) else (j_l (w_i S 215 7 ((S.1 215 7) + 1)) (fun S49 => J_M_items_185 kt26 x1 v5 v7 S49))))))
set_option maxRecDepth 20000 in
theorem kJ_M_items_40 {q rF rL : Nat} (hF : 9 ≤ rF) (hL : 175 ≤ rL)  (kt26 : Int32 → Int32 → jS → Option (Option Nat × jS)) (ih26 : ∀ (x1 : Int32) (x2 : Int32) (S : jS), jg q jp_M_items rF rL 26 [(0, .ref 215), (1, .int x1), (2, .int x2)] [] S 0 x_V (kt26 x1 x2 S)) (x1 : Int32) (x2 : Int32) (y0 : Int32) (S : jS) : jg q jp_M_items rF rL 40 [(0, .ref 215), (1, .int x1), (2, .int x2)] [.int y0] S 0 x_V (J_M_items_40 kt26 x1 x2 y0 S) := by
  unfold J_M_items_40
  refine jg_sg 3 (pc1 := 45) (lv1 := [(3, .int y0), (0, .ref 215), (1, .int x1), (2, .int x2)]) (st1 := [.int x1, .ref 1]) (fun _ _ _ => rfl) ?_
  refine jg_iaK1 rfl (fun g4 => ?_)
  refine jg_sg 1 (pc1 := 48) (lv1 := [(4, .int (jx_LEAST ((x1 : Int32).toNatClampNeg))), (3, .int y0), (0, .ref 215), (1, .int x1), (2, .int x2)]) (st1 := []) (fun _ _ _ => rfl) ?_
  refine jg_vi (fun v5 => ?_)
  refine jg_sg 2 (pc1 := 52) (lv1 := [(4, .int v5), (3, .int y0), (0, .ref 215), (1, .int x1), (2, .int x2)]) (st1 := [.int x1, .ref 2]) (fun _ _ _ => rfl) ?_
  refine jg_iaK2 rfl (fun g6 => ?_)
  refine jg_sg 1 (pc1 := 55) (lv1 := [(5, .int (jx_MOSTS ((x1 : Int32).toNatClampNeg))), (4, .int v5), (3, .int y0), (0, .ref 215), (1, .int x1), (2, .int x2)]) (st1 := []) (fun _ _ _ => rfl) ?_
  refine jg_vi (fun v7 => ?_)
  refine jg_sg 3 (pc1 := 59) (lv1 := [(6, .int 0), (5, .int v7), (4, .int v5), (3, .int y0), (0, .ref 215), (1, .int x1), (2, .int x2)]) (st1 := [.int y0]) (fun _ _ _ => rfl) ?_
  refine jg_br (fun _ _ _ _ k1 k2 => jt_if_eq (t := 75) rfl rfl k1 k2) (fun c8 => ?_) (fun c8 => ?_)
  · refine jg_sg 2 (pc1 := 77) (lv1 := [(6, .int 0), (5, .int v7), (4, .int v5), (3, .int y0), (0, .ref 215), (1, .int x1), (2, .int x2)]) (st1 := [.int x1, .ref 215]) (fun _ _ _ => rfl) ?_
    refine jg_cxI (m2 := jp_M_value) (As := [.ref 215, .int x1]) (r := []) (mx := 6) (jh_v (a := 215) rfl rfl rfl kc_215 rfl (Nat.le_of_ble_eq_true rfl) rfl rfl rfl (by omega) (by omega) (Nat.le_of_ble_eq_true rfl)) rfl (fun _ _ => rfl) (kF_M_value x1 S _ _ (by omega) (by omega) ) (fun z10 S9 => ?_)
    refine jg_sg 2 (pc1 := 83) (lv1 := [(4, .int z10), (6, .int 0), (5, .int v7), (3, .int y0), (0, .ref 215), (1, .int x1), (2, .int x2)]) (st1 := [.int x2]) (fun _ _ _ => rfl) ?_
    refine jg_br (fun _ _ _ _ k1 k2 => jt_if_eq (t := 97) rfl rfl k1 k2) (fun c11 => ?_) (fun c11 => ?_)
    · refine jg_lvs (lv1 := [(0, .ref 215), (1, .int x1), (4, .int z10), (5, .int v7)]) rfl rfl ⟨rfl, rfl, rfl, rfl, trivial⟩ ?_
      exact kJ_M_items_97 (by omega) (by omega) kt26 ih26 x1 z10 v7 S9
    · refine jg_sg 3 (pc1 := 90) (lv1 := [(4, .int z10), (6, .int 0), (5, .int v7), (3, .int y0), (0, .ref 215), (1, .int x1), (2, .int x2)]) (st1 := [.int z10, .int x1, .ref 215]) (fun _ _ _ => rfl) ?_
      refine jg_cxI (m2 := jp_M_special) (As := [.ref 215, .int x1, .int z10]) (r := []) (mx := 3) (jh_v (a := 215) rfl rfl rfl kc_215 rfl (Nat.le_of_ble_eq_true rfl) rfl rfl rfl (by omega) (by omega) (Nat.le_of_ble_eq_true rfl)) rfl (fun _ _ => rfl) (kF_M_special x1 z10 S9 _ _ (by omega) (by omega) ) (fun z47 S46 => ?_)
      refine jg_br (fun _ _ _ _ k1 k2 => jt_if_eq (t := 97) rfl rfl k1 k2) (fun c48 => ?_) (fun c48 => ?_)
      · refine jg_lvs (lv1 := [(0, .ref 215), (1, .int x1), (4, .int z10), (5, .int v7)]) rfl rfl ⟨rfl, rfl, rfl, rfl, trivial⟩ ?_
        exact kJ_M_items_97 (by omega) (by omega) kt26 ih26 x1 z10 v7 S46
      · exact jg_rv rfl rfl rfl
  · refine jg_sg 2 (pc1 := 64) (lv1 := [(6, .int 0), (5, .int v7), (4, .int v5), (3, .int y0), (0, .ref 215), (1, .int x1), (2, .int x2)]) (st1 := [.ref 215, .ref 215]) (fun _ _ _ => rfl) ?_
    refine jg_g (v := .int (S.1 215 7)) rfl kc_215 rfl rfl ?_
    refine jg_sg 2 (pc1 := 69) (lv1 := [(6, .int 0), (5, .int v7), (4, .int v5), (3, .int y0), (0, .ref 215), (1, .int x1), (2, .int x2)]) (st1 := [.int ((S.1 215 7) + 1), .ref 215]) (fun _ _ _ => rfl) ?_
    refine jg_pi rfl kc_215 rfl (Nat.le_of_ble_eq_true rfl) rfl rfl (fun S49 _ => ?_)
    refine jg_sg 1 (pc1 := 185) (lv1 := [(6, .int 0), (5, .int v7), (4, .int v5), (3, .int y0), (0, .ref 215), (1, .int x1), (2, .int x2)]) (st1 := []) (fun _ _ _ => rfl) ?_
    refine jg_lvs (lv1 := [(0, .ref 215), (1, .int x1), (4, .int v5), (5, .int v7)]) rfl rfl ⟨rfl, rfl, rfl, rfl, trivial⟩ ?_
    exact kJ_M_items_185 (by omega) (by omega) kt26 ih26 x1 v5 v7 S49
noncomputable def L_M_items_26  : Nat → Int32 → Int32 → jS → Option (Option Nat × jS)
  | 0, _, _, _ => none
  | f + 1, x1, x2, S => (F_M_peek S).bind (fun z2 => if z2 = 42 then (J_M_items_40 (L_M_items_26 f) x1 x2 1 S) else (J_M_items_40 (L_M_items_26 f) x1 x2 0 S))
set_option maxRecDepth 20000 in
theorem kL_M_items_26 {q rF rL : Nat} (hF : 9 ≤ rF) (hL : 175 ≤ rL)   : ∀ (f : Nat) (x1 : Int32) (x2 : Int32) (S : jS), jg q jp_M_items rF rL 26 [(0, .ref 215), (1, .int x1), (2, .int x2)] [] S 0 x_V (L_M_items_26 f x1 x2 S) := by
  intro f
  induction f with
  | zero => intro _ _ _; exact jg_none
  | succ f ih26 =>
    intro x1 x2 S
    rw [L_M_items_26]
    refine jg_sg 1 (pc1 := 27) (lv1 := [(0, .ref 215), (1, .int x1), (2, .int x2)]) (st1 := [.ref 215]) (fun _ _ _ => rfl) ?_
    refine jg_cpI (m2 := jp_M_peek) (As := [.ref 215]) (r := []) (mx := 1) (jh_v (a := 215) rfl rfl rfl kc_215 rfl (Nat.le_of_ble_eq_true rfl) rfl rfl rfl (by omega) (by omega) (Nat.le_of_ble_eq_true rfl)) (kF_M_peek S _ _ (by omega) (by omega) ) (fun z2 => ?_)
    refine jg_sg 1 (pc1 := 32) (lv1 := [(0, .ref 215), (1, .int x1), (2, .int x2)]) (st1 := [.int 42, .int z2]) (fun _ _ _ => rfl) ?_
    refine jg_br (fun _ _ _ _ k1 k2 => jt_icmp_ne (t := 39) rfl rfl k2 k1) (fun c3 => ?_) (fun c3 => ?_)
    · refine jg_sg 2 (pc1 := 40) (lv1 := [(0, .ref 215), (1, .int x1), (2, .int x2)]) (st1 := [.int 1]) (fun _ _ _ => rfl) ?_
      refine jg_lvs (lv1 := [(0, .ref 215), (1, .int x1), (2, .int x2)]) rfl rfl ⟨rfl, rfl, rfl, trivial⟩ ?_
      exact kJ_M_items_40 (by omega) (by omega) (L_M_items_26 f) ih26 x1 x2 1 S
    · refine jg_sg 1 (pc1 := 40) (lv1 := [(0, .ref 215), (1, .int x1), (2, .int x2)]) (st1 := [.int 0]) (fun _ _ _ => rfl) ?_
      refine jg_lvs (lv1 := [(0, .ref 215), (1, .int x1), (2, .int x2)]) rfl rfl ⟨rfl, rfl, rfl, trivial⟩ ?_
      exact kJ_M_items_40 (by omega) (by omega) (L_M_items_26 f) ih26 x1 x2 0 S
noncomputable def L_M_items_2  : Nat → Int32 → Int32 → jS → Option (Option Nat × jS)
  | 0, _, _, _ => none
  | f + 1, x1, x2, S => if 330 ≤ x2 then (L_M_items_26 ju_ x1 1 S) else (j_q (j_in x1 7) (j_q (j_in x2 330) (j_l (w_i S (369 + ((x1 : Int32).toNatClampNeg)) ((x2 : Int32).toNatClampNeg) (vp_nar .boolean 0)) (fun S52 => (L_M_items_2 f) x1 (x2 + 1) S52))))
set_option maxRecDepth 20000 in
theorem kL_M_items_2 {q rF rL : Nat} (hF : 9 ≤ rF) (hL : 175 ≤ rL)   : ∀ (f : Nat) (x1 : Int32) (x2 : Int32) (S : jS), jg q jp_M_items rF rL 2 [(0, .ref 215), (1, .int x1), (2, .int x2)] [] S 0 x_V (L_M_items_2 f x1 x2 S) := by
  intro f
  induction f with
  | zero => intro _ _ _; exact jg_none
  | succ f ih2 =>
    intro x1 x2 S
    rw [L_M_items_2]
    refine jg_sg 2 (pc1 := 6) (lv1 := [(0, .ref 215), (1, .int x1), (2, .int x2)]) (st1 := [.int 330, .int x2]) (fun _ _ _ => rfl) ?_
    refine jg_br (fun _ _ _ _ k1 k2 => jt_icmp_ge (t := 24) rfl rfl k1 k2) (fun c1 => ?_) (fun c1 => ?_)
    · refine jg_sg 2 (pc1 := 26) (lv1 := [(2, .int 1), (0, .ref 215), (1, .int x1)]) (st1 := []) (fun _ _ _ => rfl) ?_
      refine jg_lvs (lv1 := [(0, .ref 215), (1, .int x1), (2, .int 1)]) rfl rfl ⟨rfl, rfl, rfl, trivial⟩ ?_
      exact kL_M_items_26 (by omega) (by omega) ju_ x1 1 S
    · refine jg_sg 1 (pc1 := 10) (lv1 := [(0, .ref 215), (1, .int x1), (2, .int x2)]) (st1 := [.ref 215]) (fun _ _ _ => rfl) ?_
      refine jg_g (v := .ref 368) rfl kc_215 rfl rfl ?_
      refine jg_sg 1 (pc1 := 14) (lv1 := [(0, .ref 215), (1, .int x1), (2, .int x2)]) (st1 := [.int x1, .ref 368]) (fun _ _ _ => rfl) ?_
      refine jg_aal (w := 369 + ((x1 : Int32).toNatClampNeg)) rfl rfl kc_368 rfl (fun g50 => ?_)
      refine jg_sg 2 (pc1 := 17) (lv1 := [(0, .ref 215), (1, .int x1), (2, .int x2)]) (st1 := [.int 0, .int x2, .ref (369 + ((x1 : Int32).toNatClampNeg))]) (fun _ _ _ => rfl) ?_
      refine jg_bas rfl rfl (kc_tr (jr_m g50)) rfl (fun g51 S52 _ => ?_)
      refine jg_sg 2 (pc1 := 2) (lv1 := [(2, .int (x2 + 1)), (0, .ref 215), (1, .int x1)]) (st1 := []) (fun _ _ _ => rfl) ?_
      refine jg_lvs (lv1 := [(0, .ref 215), (1, .int x1), (2, .int (x2 + 1))]) rfl rfl ⟨rfl, rfl, rfl, trivial⟩ ?_
      exact ih2 x1 (x2 + 1) S52
noncomputable def F_M_items (p0 : Int32) (S : jS) : Option (Option Nat × jS) := L_M_items_2 ju_ p0 0 S
set_option maxRecDepth 20000 in
theorem kF_M_items {q : Nat} (p0 : Int32) (S : jS) (rF rL : Nat) (hF : 9 ≤ rF) (hL : 175 ≤ rL)  : jg q jp_M_items rF rL 0 [(0, .ref 215), (1, .int p0)] [] S 0 x_V (F_M_items p0 S) := by
  unfold F_M_items
  refine jg_sg 2 (pc1 := 2) (lv1 := [(2, .int 0), (0, .ref 215), (1, .int p0)]) (st1 := []) (fun _ _ _ => rfl) ?_
  refine jg_lvs (lv1 := [(0, .ref 215), (1, .int p0), (2, .int 0)]) rfl rfl ⟨rfl, rfl, rfl, trivial⟩ ?_
  exact kL_M_items_2 (by omega) (by omega) ju_ p0 0 S
noncomputable def J_M_field_192 (kt167 : Int32 → Int32 → jS → Option (Option Nat × jS)) (x1 : Int32) (x2 : Int32) (y0 : Int32) (y1 : Int32) (y2 : Nat) (S : jS) : Option (Option Nat × jS) := j_q (j_in y1 330) (j_l (w_i S y2 ((y1 : Int32).toNatClampNeg) (vp_nar .boolean y0)) (fun S32 => kt167 x1 (x2 + 1) S32))
set_option maxRecDepth 20000 in
theorem kJ_M_field_192 {q rF rL : Nat} (hF : 10 ≤ rF) (hL : 205 ≤ rL)  (kt167 : Int32 → Int32 → jS → Option (Option Nat × jS)) (ih167 : ∀ (x1 : Int32) (x2 : Int32) (S : jS), jg q jp_M_field rF rL 167 [(0, .ref 215), (1, .int x1), (2, .int x2)] [] S 0 x_V (kt167 x1 x2 S)) (x1 : Int32) (x2 : Int32) (y0 : Int32) (y1 : Int32) (y2 : Nat) (S : jS) (hy2 : jr_ 369 7 y2 = true) : jg q jp_M_field rF rL 192 [(0, .ref 215), (1, .int x1), (2, .int x2)] [.int y0, .int y1, .ref y2] S 0 x_V (J_M_field_192 kt167 x1 x2 y0 y1 y2 S) := by
  unfold J_M_field_192
  refine jg_bas rfl rfl (kc_tr hy2) rfl (fun g31 S32 _ => ?_)
  refine jg_sg 2 (pc1 := 167) (lv1 := [(2, .int (x2 + 1)), (0, .ref 215), (1, .int x1)]) (st1 := []) (fun _ _ _ => rfl) ?_
  refine jg_lvs (lv1 := [(0, .ref 215), (1, .int x1), (2, .int (x2 + 1))]) rfl rfl ⟨rfl, rfl, rfl, trivial⟩ ?_
  exact ih167 x1 (x2 + 1) S32
noncomputable def L_M_field_167  : Nat → Int32 → Int32 → jS → Option (Option Nat × jS)
  | 0, _, _, _ => none
  | f + 1, x1, x2, S => if 330 ≤ x2 then (some (none, S)) else (j_q (j_in x1 7) (if x2 = 6 then (J_M_field_192 (L_M_field_167 f) x1 x2 1 x2 (369 + ((x1 : Int32).toNatClampNeg)) S) else (J_M_field_192 (L_M_field_167 f) x1 x2 0 x2 (369 + ((x1 : Int32).toNatClampNeg)) S)))
set_option maxRecDepth 20000 in
theorem kL_M_field_167 {q rF rL : Nat} (hF : 10 ≤ rF) (hL : 205 ≤ rL)   : ∀ (f : Nat) (x1 : Int32) (x2 : Int32) (S : jS), jg q jp_M_field rF rL 167 [(0, .ref 215), (1, .int x1), (2, .int x2)] [] S 0 x_V (L_M_field_167 f x1 x2 S) := by
  intro f
  induction f with
  | zero => intro _ _ _; exact jg_none
  | succ f ih167 =>
    intro x1 x2 S
    rw [L_M_field_167]
    refine jg_sg 2 (pc1 := 171) (lv1 := [(0, .ref 215), (1, .int x1), (2, .int x2)]) (st1 := [.int 330, .int x2]) (fun _ _ _ => rfl) ?_
    refine jg_br (fun _ _ _ _ k1 k2 => jt_icmp_ge (t := 199) rfl rfl k1 k2) (fun c28 => ?_) (fun c28 => ?_)
    · refine jg_sg 1 (pc1 := 207) (lv1 := [(0, .ref 215), (1, .int x1), (2, .int x2)]) (st1 := []) (fun _ _ _ => rfl) ?_
      exact jg_rv rfl rfl rfl
    · refine jg_sg 1 (pc1 := 175) (lv1 := [(0, .ref 215), (1, .int x1), (2, .int x2)]) (st1 := [.ref 215]) (fun _ _ _ => rfl) ?_
      refine jg_g (v := .ref 368) rfl kc_215 rfl rfl ?_
      refine jg_sg 1 (pc1 := 179) (lv1 := [(0, .ref 215), (1, .int x1), (2, .int x2)]) (st1 := [.int x1, .ref 368]) (fun _ _ _ => rfl) ?_
      refine jg_aal (w := 369 + ((x1 : Int32).toNatClampNeg)) rfl rfl kc_368 rfl (fun g29 => ?_)
      refine jg_sg 3 (pc1 := 184) (lv1 := [(0, .ref 215), (1, .int x1), (2, .int x2)]) (st1 := [.int 6, .int x2, .int x2, .ref (369 + ((x1 : Int32).toNatClampNeg))]) (fun _ _ _ => rfl) ?_
      refine jg_br (fun _ _ _ _ k1 k2 => jt_icmp_ne (t := 191) rfl rfl k2 k1) (fun c30 => ?_) (fun c30 => ?_)
      · refine jg_sg 2 (pc1 := 192) (lv1 := [(0, .ref 215), (1, .int x1), (2, .int x2)]) (st1 := [.int 1, .int x2, .ref (369 + ((x1 : Int32).toNatClampNeg))]) (fun _ _ _ => rfl) ?_
        refine jg_lvs (lv1 := [(0, .ref 215), (1, .int x1), (2, .int x2)]) rfl rfl ⟨rfl, rfl, rfl, trivial⟩ ?_
        exact kJ_M_field_192 (by omega) (by omega) (L_M_field_167 f) ih167 x1 x2 1 x2 (369 + ((x1 : Int32).toNatClampNeg)) S ((jr_m g29))
      · refine jg_sg 1 (pc1 := 192) (lv1 := [(0, .ref 215), (1, .int x1), (2, .int x2)]) (st1 := [.int 0, .int x2, .ref (369 + ((x1 : Int32).toNatClampNeg))]) (fun _ _ _ => rfl) ?_
        refine jg_lvs (lv1 := [(0, .ref 215), (1, .int x1), (2, .int x2)]) rfl rfl ⟨rfl, rfl, rfl, trivial⟩ ?_
        exact kJ_M_field_192 (by omega) (by omega) (L_M_field_167 f) ih167 x1 x2 0 x2 (369 + ((x1 : Int32).toNatClampNeg)) S ((jr_m g29))
noncomputable def J_M_field_202 (x1 : Int32) (S : jS) : Option (Option Nat × jS) := j_xv (F_M_items x1 S) (fun c S => (some c, S)) (fun S33 => some (none, S33))
set_option maxRecDepth 20000 in
theorem kJ_M_field_202 {q rF rL : Nat} (hF : 10 ≤ rF) (hL : 205 ≤ rL)   (x1 : Int32) (S : jS) : jg q jp_M_field rF rL 202 [(0, .ref 215), (1, .int x1)] [] S 0 x_V (J_M_field_202 x1 S) := by
  unfold J_M_field_202
  refine jg_sg 2 (pc1 := 204) (lv1 := [(0, .ref 215), (1, .int x1)]) (st1 := [.int x1, .ref 215]) (fun _ _ _ => rfl) ?_
  refine jg_cxV (m2 := jp_M_items) (As := [.ref 215, .int x1]) (r := []) (mx := 11) (jh_v (a := 215) rfl rfl rfl kc_215 rfl (Nat.le_of_ble_eq_true rfl) rfl rfl rfl (by omega) (by omega) (Nat.le_of_ble_eq_true rfl)) rfl (fun _ _ => rfl) (kF_M_items x1 S _ _ (by omega) (by omega) ) (fun S33 => ?_)
  exact jg_rv rfl rfl rfl
noncomputable def J_M_field_141 (x1 : Int32) (S : jS) : Option (Option Nat × jS) := if x1 = 5 then ((F_M_peek S).bind (fun z25 => if z25 = 76 then (j_l (w_i S 215 7 ((S.1 215 7) + 1)) (fun S27 => L_M_field_167 ju_ x1 0 S27)) else (J_M_field_202 x1 S))) else (J_M_field_202 x1 S)
set_option maxRecDepth 20000 in
theorem kJ_M_field_141 {q rF rL : Nat} (hF : 10 ≤ rF) (hL : 205 ≤ rL)   (x1 : Int32) (S : jS) : jg q jp_M_field rF rL 141 [(0, .ref 215), (1, .int x1)] [] S 0 x_V (J_M_field_141 x1 S) := by
  unfold J_M_field_141
  refine jg_sg 2 (pc1 := 143) (lv1 := [(0, .ref 215), (1, .int x1)]) (st1 := [.int 5, .int x1]) (fun _ _ _ => rfl) ?_
  refine jg_br (fun _ _ _ _ k1 k2 => jt_icmp_ne (t := 202) rfl rfl k2 k1) (fun c24 => ?_) (fun c24 => ?_)
  · refine jg_sg 1 (pc1 := 147) (lv1 := [(0, .ref 215), (1, .int x1)]) (st1 := [.ref 215]) (fun _ _ _ => rfl) ?_
    refine jg_cpI (m2 := jp_M_peek) (As := [.ref 215]) (r := []) (mx := 1) (jh_v (a := 215) rfl rfl rfl kc_215 rfl (Nat.le_of_ble_eq_true rfl) rfl rfl rfl (by omega) (by omega) (Nat.le_of_ble_eq_true rfl)) (kF_M_peek S _ _ (by omega) (by omega) ) (fun z25 => ?_)
    refine jg_sg 1 (pc1 := 152) (lv1 := [(0, .ref 215), (1, .int x1)]) (st1 := [.int 76, .int z25]) (fun _ _ _ => rfl) ?_
    refine jg_br (fun _ _ _ _ k1 k2 => jt_icmp_ne (t := 202) rfl rfl k2 k1) (fun c26 => ?_) (fun c26 => ?_)
    · refine jg_sg 2 (pc1 := 157) (lv1 := [(0, .ref 215), (1, .int x1)]) (st1 := [.ref 215, .ref 215]) (fun _ _ _ => rfl) ?_
      refine jg_g (v := .int (S.1 215 7)) rfl kc_215 rfl rfl ?_
      refine jg_sg 2 (pc1 := 162) (lv1 := [(0, .ref 215), (1, .int x1)]) (st1 := [.int ((S.1 215 7) + 1), .ref 215]) (fun _ _ _ => rfl) ?_
      refine jg_pi rfl kc_215 rfl (Nat.le_of_ble_eq_true rfl) rfl rfl (fun S27 _ => ?_)
      refine jg_sg 2 (pc1 := 167) (lv1 := [(2, .int 0), (0, .ref 215), (1, .int x1)]) (st1 := []) (fun _ _ _ => rfl) ?_
      refine jg_lvs (lv1 := [(0, .ref 215), (1, .int x1), (2, .int 0)]) rfl rfl ⟨rfl, rfl, rfl, trivial⟩ ?_
      exact kL_M_field_167 (by omega) (by omega) ju_ x1 0 S27
    · refine jg_lvs (lv1 := [(0, .ref 215), (1, .int x1)]) rfl rfl ⟨rfl, rfl, trivial⟩ ?_
      exact kJ_M_field_202 (by omega) (by omega) x1 S
  · refine jg_lvs (lv1 := [(0, .ref 215), (1, .int x1)]) rfl rfl ⟨rfl, rfl, trivial⟩ ?_
    exact kJ_M_field_202 (by omega) (by omega) x1 S
noncomputable def J_M_field_52 (x1 : Int32) (S : jS) : Option (Option Nat × jS) := if x1 = 3 then ((F_M_peek S).bind (fun z10 => if z10 = 76 then (j_l (w_i S 215 7 ((S.1 215 7) + 1)) (fun S12 => j_l (w_i S12 215 20 2) (fun S13 => (F_M_peek S13).bind (fun z14 => if z14 = 87 then (j_l (w_i S13 215 7 ((S13.1 215 7) + 1)) (fun S16 => j_l (w_i S16 215 20 3) (fun S17 => some (none, S17)))) else ((F_M_peek S13).bind (fun z18 => if z18 = 45 then (j_l (w_i S13 215 7 ((S13.1 215 7) + 1)) (fun S20 => j_x (F_M_ranged 1 30 S20) (fun c S => (some c, S)) (fun z22 S21 => j_l (w_i S21 215 21 z22) (fun S23 => some (none, S23))))) else (some (none, S13)))))))) else (J_M_field_141 x1 S))) else (J_M_field_141 x1 S)
set_option maxRecDepth 20000 in
theorem kJ_M_field_52 {q rF rL : Nat} (hF : 10 ≤ rF) (hL : 205 ≤ rL)   (x1 : Int32) (S : jS) : jg q jp_M_field rF rL 52 [(0, .ref 215), (1, .int x1)] [] S 0 x_V (J_M_field_52 x1 S) := by
  unfold J_M_field_52
  refine jg_sg 2 (pc1 := 54) (lv1 := [(0, .ref 215), (1, .int x1)]) (st1 := [.int 3, .int x1]) (fun _ _ _ => rfl) ?_
  refine jg_br (fun _ _ _ _ k1 k2 => jt_icmp_ne (t := 141) rfl rfl k2 k1) (fun c9 => ?_) (fun c9 => ?_)
  · refine jg_sg 1 (pc1 := 58) (lv1 := [(0, .ref 215), (1, .int x1)]) (st1 := [.ref 215]) (fun _ _ _ => rfl) ?_
    refine jg_cpI (m2 := jp_M_peek) (As := [.ref 215]) (r := []) (mx := 1) (jh_v (a := 215) rfl rfl rfl kc_215 rfl (Nat.le_of_ble_eq_true rfl) rfl rfl rfl (by omega) (by omega) (Nat.le_of_ble_eq_true rfl)) (kF_M_peek S _ _ (by omega) (by omega) ) (fun z10 => ?_)
    refine jg_sg 1 (pc1 := 63) (lv1 := [(0, .ref 215), (1, .int x1)]) (st1 := [.int 76, .int z10]) (fun _ _ _ => rfl) ?_
    refine jg_br (fun _ _ _ _ k1 k2 => jt_icmp_ne (t := 141) rfl rfl k2 k1) (fun c11 => ?_) (fun c11 => ?_)
    · refine jg_sg 2 (pc1 := 68) (lv1 := [(0, .ref 215), (1, .int x1)]) (st1 := [.ref 215, .ref 215]) (fun _ _ _ => rfl) ?_
      refine jg_g (v := .int (S.1 215 7)) rfl kc_215 rfl rfl ?_
      refine jg_sg 2 (pc1 := 73) (lv1 := [(0, .ref 215), (1, .int x1)]) (st1 := [.int ((S.1 215 7) + 1), .ref 215]) (fun _ _ _ => rfl) ?_
      refine jg_pi rfl kc_215 rfl (Nat.le_of_ble_eq_true rfl) rfl rfl (fun S12 _ => ?_)
      refine jg_sg 2 (pc1 := 78) (lv1 := [(0, .ref 215), (1, .int x1)]) (st1 := [.int 2, .ref 215]) (fun _ _ _ => rfl) ?_
      refine jg_pi rfl kc_215 rfl (Nat.le_of_ble_eq_true rfl) rfl rfl (fun S13 _ => ?_)
      refine jg_sg 1 (pc1 := 82) (lv1 := [(0, .ref 215), (1, .int x1)]) (st1 := [.ref 215]) (fun _ _ _ => rfl) ?_
      refine jg_cpI (m2 := jp_M_peek) (As := [.ref 215]) (r := []) (mx := 1) (jh_v (a := 215) rfl rfl rfl kc_215 rfl (Nat.le_of_ble_eq_true rfl) rfl rfl rfl (by omega) (by omega) (Nat.le_of_ble_eq_true rfl)) (kF_M_peek S13 _ _ (by omega) (by omega) ) (fun z14 => ?_)
      refine jg_sg 1 (pc1 := 87) (lv1 := [(0, .ref 215), (1, .int x1)]) (st1 := [.int 87, .int z14]) (fun _ _ _ => rfl) ?_
      refine jg_br (fun _ _ _ _ k1 k2 => jt_icmp_ne (t := 108) rfl rfl k2 k1) (fun c15 => ?_) (fun c15 => ?_)
      · refine jg_sg 2 (pc1 := 92) (lv1 := [(0, .ref 215), (1, .int x1)]) (st1 := [.ref 215, .ref 215]) (fun _ _ _ => rfl) ?_
        refine jg_g (v := .int (S13.1 215 7)) rfl kc_215 rfl rfl ?_
        refine jg_sg 2 (pc1 := 97) (lv1 := [(0, .ref 215), (1, .int x1)]) (st1 := [.int ((S13.1 215 7) + 1), .ref 215]) (fun _ _ _ => rfl) ?_
        refine jg_pi rfl kc_215 rfl (Nat.le_of_ble_eq_true rfl) rfl rfl (fun S16 _ => ?_)
        refine jg_sg 2 (pc1 := 102) (lv1 := [(0, .ref 215), (1, .int x1)]) (st1 := [.int 3, .ref 215]) (fun _ _ _ => rfl) ?_
        refine jg_pi rfl kc_215 rfl (Nat.le_of_ble_eq_true rfl) rfl rfl (fun S17 _ => ?_)
        refine jg_sg 1 (pc1 := 207) (lv1 := [(0, .ref 215), (1, .int x1)]) (st1 := []) (fun _ _ _ => rfl) ?_
        exact jg_rv rfl rfl rfl
      · refine jg_sg 1 (pc1 := 109) (lv1 := [(0, .ref 215), (1, .int x1)]) (st1 := [.ref 215]) (fun _ _ _ => rfl) ?_
        refine jg_cpI (m2 := jp_M_peek) (As := [.ref 215]) (r := []) (mx := 1) (jh_v (a := 215) rfl rfl rfl kc_215 rfl (Nat.le_of_ble_eq_true rfl) rfl rfl rfl (by omega) (by omega) (Nat.le_of_ble_eq_true rfl)) (kF_M_peek S13 _ _ (by omega) (by omega) ) (fun z18 => ?_)
        refine jg_sg 1 (pc1 := 114) (lv1 := [(0, .ref 215), (1, .int x1)]) (st1 := [.int 45, .int z18]) (fun _ _ _ => rfl) ?_
        refine jg_br (fun _ _ _ _ k1 k2 => jt_icmp_ne (t := 207) rfl rfl k2 k1) (fun c19 => ?_) (fun c19 => ?_)
        · refine jg_sg 2 (pc1 := 119) (lv1 := [(0, .ref 215), (1, .int x1)]) (st1 := [.ref 215, .ref 215]) (fun _ _ _ => rfl) ?_
          refine jg_g (v := .int (S13.1 215 7)) rfl kc_215 rfl rfl ?_
          refine jg_sg 2 (pc1 := 124) (lv1 := [(0, .ref 215), (1, .int x1)]) (st1 := [.int ((S13.1 215 7) + 1), .ref 215]) (fun _ _ _ => rfl) ?_
          refine jg_pi rfl kc_215 rfl (Nat.le_of_ble_eq_true rfl) rfl rfl (fun S20 _ => ?_)
          refine jg_sg 4 (pc1 := 132) (lv1 := [(0, .ref 215), (1, .int x1)]) (st1 := [.int 30, .int 1, .ref 215, .ref 215]) (fun _ _ _ => rfl) ?_
          refine jg_cxI (m2 := jp_M_ranged) (As := [.ref 215, .int 1, .int 30]) (r := [.ref 215]) (mx := 5) (jh_v (a := 215) rfl rfl rfl kc_215 rfl (Nat.le_of_ble_eq_true rfl) rfl rfl rfl (by omega) (by omega) (Nat.le_of_ble_eq_true rfl)) rfl (fun _ _ => rfl) (kF_M_ranged 1 30 S20 _ _ (by omega) (by omega) ) (fun z22 S21 => ?_)
          refine jg_pi rfl kc_215 rfl (Nat.le_of_ble_eq_true rfl) rfl rfl (fun S23 _ => ?_)
          refine jg_sg 1 (pc1 := 207) (lv1 := [(0, .ref 215), (1, .int x1)]) (st1 := []) (fun _ _ _ => rfl) ?_
          exact jg_rv rfl rfl rfl
        · exact jg_rv rfl rfl rfl
    · refine jg_lvs (lv1 := [(0, .ref 215), (1, .int x1)]) rfl rfl ⟨rfl, rfl, trivial⟩ ?_
      exact kJ_M_field_141 (by omega) (by omega) x1 S
  · refine jg_lvs (lv1 := [(0, .ref 215), (1, .int x1)]) rfl rfl ⟨rfl, rfl, trivial⟩ ?_
    exact kJ_M_field_141 (by omega) (by omega) x1 S
noncomputable def J_M_field_25 (x1 : Int32) (S : jS) : Option (Option Nat × jS) := (F_M_peek S).bind (fun z5 => if z5 = 63 then (j_l (w_i S 215 7 ((S.1 215 7) + 1)) (fun S7 => j_l (w_i S7 215 20 1) (fun S8 => some (none, S8)))) else (J_M_field_52 x1 S))
set_option maxRecDepth 20000 in
theorem kJ_M_field_25 {q rF rL : Nat} (hF : 10 ≤ rF) (hL : 205 ≤ rL)   (x1 : Int32) (S : jS) : jg q jp_M_field rF rL 25 [(0, .ref 215), (1, .int x1)] [] S 0 x_V (J_M_field_25 x1 S) := by
  unfold J_M_field_25
  refine jg_sg 1 (pc1 := 26) (lv1 := [(0, .ref 215), (1, .int x1)]) (st1 := [.ref 215]) (fun _ _ _ => rfl) ?_
  refine jg_cpI (m2 := jp_M_peek) (As := [.ref 215]) (r := []) (mx := 1) (jh_v (a := 215) rfl rfl rfl kc_215 rfl (Nat.le_of_ble_eq_true rfl) rfl rfl rfl (by omega) (by omega) (Nat.le_of_ble_eq_true rfl)) (kF_M_peek S _ _ (by omega) (by omega) ) (fun z5 => ?_)
  refine jg_sg 1 (pc1 := 31) (lv1 := [(0, .ref 215), (1, .int x1)]) (st1 := [.int 63, .int z5]) (fun _ _ _ => rfl) ?_
  refine jg_br (fun _ _ _ _ k1 k2 => jt_icmp_ne (t := 52) rfl rfl k2 k1) (fun c6 => ?_) (fun c6 => ?_)
  · refine jg_sg 2 (pc1 := 36) (lv1 := [(0, .ref 215), (1, .int x1)]) (st1 := [.ref 215, .ref 215]) (fun _ _ _ => rfl) ?_
    refine jg_g (v := .int (S.1 215 7)) rfl kc_215 rfl rfl ?_
    refine jg_sg 2 (pc1 := 41) (lv1 := [(0, .ref 215), (1, .int x1)]) (st1 := [.int ((S.1 215 7) + 1), .ref 215]) (fun _ _ _ => rfl) ?_
    refine jg_pi rfl kc_215 rfl (Nat.le_of_ble_eq_true rfl) rfl rfl (fun S7 _ => ?_)
    refine jg_sg 2 (pc1 := 46) (lv1 := [(0, .ref 215), (1, .int x1)]) (st1 := [.int 1, .ref 215]) (fun _ _ _ => rfl) ?_
    refine jg_pi rfl kc_215 rfl (Nat.le_of_ble_eq_true rfl) rfl rfl (fun S8 _ => ?_)
    refine jg_sg 1 (pc1 := 207) (lv1 := [(0, .ref 215), (1, .int x1)]) (st1 := []) (fun _ _ _ => rfl) ?_
    exact jg_rv rfl rfl rfl
  · refine jg_lvs (lv1 := [(0, .ref 215), (1, .int x1)]) rfl rfl ⟨rfl, rfl, trivial⟩ ?_
    exact kJ_M_field_52 (by omega) (by omega) x1 S
noncomputable def F_M_field (p0 : Int32) (S : jS) : Option (Option Nat × jS) := j_l (w_i S 215 20 0) (fun S1 => j_l (w_i S1 215 21 0) (fun S2 => j_l (w_i S2 215 22 0) (fun S3 => if p0 = 3 then (J_M_field_25 p0 S3) else (if p0 = 5 then (J_M_field_25 p0 S3) else (J_M_field_52 p0 S3)))))
set_option maxRecDepth 20000 in
theorem kF_M_field {q : Nat} (p0 : Int32) (S : jS) (rF rL : Nat) (hF : 10 ≤ rF) (hL : 205 ≤ rL)  : jg q jp_M_field rF rL 0 [(0, .ref 215), (1, .int p0)] [] S 0 x_V (F_M_field p0 S) := by
  unfold F_M_field
  refine jg_sg 2 (pc1 := 2) (lv1 := [(0, .ref 215), (1, .int p0)]) (st1 := [.int 0, .ref 215]) (fun _ _ _ => rfl) ?_
  refine jg_pi rfl kc_215 rfl (Nat.le_of_ble_eq_true rfl) rfl rfl (fun S1 _ => ?_)
  refine jg_sg 2 (pc1 := 7) (lv1 := [(0, .ref 215), (1, .int p0)]) (st1 := [.int 0, .ref 215]) (fun _ _ _ => rfl) ?_
  refine jg_pi rfl kc_215 rfl (Nat.le_of_ble_eq_true rfl) rfl rfl (fun S2 _ => ?_)
  refine jg_sg 2 (pc1 := 12) (lv1 := [(0, .ref 215), (1, .int p0)]) (st1 := [.int 0, .ref 215]) (fun _ _ _ => rfl) ?_
  refine jg_pi rfl kc_215 rfl (Nat.le_of_ble_eq_true rfl) rfl rfl (fun S3 _ => ?_)
  refine jg_sg 2 (pc1 := 17) (lv1 := [(0, .ref 215), (1, .int p0)]) (st1 := [.int 3, .int p0]) (fun _ _ _ => rfl) ?_
  refine jg_br (fun _ _ _ _ k1 k2 => jt_icmp_eq (t := 25) rfl rfl k1 k2) (fun c4 => ?_) (fun c4 => ?_)
  · refine jg_lvs (lv1 := [(0, .ref 215), (1, .int p0)]) rfl rfl ⟨rfl, rfl, trivial⟩ ?_
    exact kJ_M_field_25 (by omega) (by omega) p0 S3
  · refine jg_sg 2 (pc1 := 22) (lv1 := [(0, .ref 215), (1, .int p0)]) (st1 := [.int 5, .int p0]) (fun _ _ _ => rfl) ?_
    refine jg_br (fun _ _ _ _ k1 k2 => jt_icmp_ne (t := 52) rfl rfl k2 k1) (fun c34 => ?_) (fun c34 => ?_)
    · refine jg_lvs (lv1 := [(0, .ref 215), (1, .int p0)]) rfl rfl ⟨rfl, rfl, trivial⟩ ?_
      exact kJ_M_field_25 (by omega) (by omega) p0 S3
    · refine jg_lvs (lv1 := [(0, .ref 215), (1, .int p0)]) rfl rfl ⟨rfl, rfl, trivial⟩ ?_
      exact kJ_M_field_52 (by omega) (by omega) p0 S3
end JF11
