section JF14
noncomputable def J_M_nextFire_208 (kt34 : Int32 → Int32 → Int32 → Int32 → Int64 → jS → Option (Int64 × jS)) (x1 : Int32) (x2 : Int32) (x3 : Int32) (x6 : Int32) (x7 : Int64) (x9 : Int64) (S : jS) : Option (Int64 × jS) := j_q (j_in x2 8) (if (S.1 237 ((x2 : Int32).toNatClampNeg)) ≤ x6 then (some (-1, S)) else (if x9 = 10413791999 then (some (-1, S)) else ((F_Math_max2 x7 (x9 + 1) S).bind (fun z16 => kt34 x1 x2 x3 (x6 + 1) z16 S))))
set_option maxRecDepth 20000 in
theorem kJ_M_nextFire_208 {q rF rL : Nat} (hF : 5 ≤ rF) (hL : 114 ≤ rL)  (kt34 : Int32 → Int32 → Int32 → Int32 → Int64 → jS → Option (Int64 × jS)) (ih34 : ∀ (x1 : Int32) (x2 : Int32) (x3 : Int32) (x6 : Int32) (x7 : Int64) (S : jS), jg q jp_M_nextFire rF rL 34 [(0, .ref 215), (1, .int x1), (2, .int x2), (3, .int x3), (6, .int x6), (7, .long x7)] [] S 0 s_L (kt34 x1 x2 x3 x6 x7 S)) (x1 : Int32) (x2 : Int32) (x3 : Int32) (x6 : Int32) (x7 : Int64) (x9 : Int64) (S : jS) : jg q jp_M_nextFire rF rL 208 [(0, .ref 215), (1, .int x1), (2, .int x2), (3, .int x3), (6, .int x6), (7, .long x7), (9, .long x9)] [] S 0 s_L (J_M_nextFire_208 kt34 x1 x2 x3 x6 x7 x9 S) := by
  unfold J_M_nextFire_208
  refine jg_sg 2 (pc1 := 211) (lv1 := [(0, .ref 215), (1, .int x1), (2, .int x2), (3, .int x3), (6, .int x6), (7, .long x7), (9, .long x9)]) (st1 := [.ref 215, .int x6]) (fun _ _ _ => rfl) ?_
  refine jg_g (v := .ref 237) rfl kc_215 rfl rfl ?_
  refine jg_sg 1 (pc1 := 215) (lv1 := [(0, .ref 215), (1, .int x1), (2, .int x2), (3, .int x3), (6, .int x6), (7, .long x7), (9, .long x9)]) (st1 := [.int x2, .ref 237, .int x6]) (fun _ _ _ => rfl) ?_
  refine jg_ial rfl kc_237 (fun g13 => ?_)
  refine jg_br (fun _ _ _ _ k1 k2 => jt_icmp_ge (t := 228) rfl rfl k1 k2) (fun c14 => ?_) (fun c14 => ?_)
  · refine jg_sg 1 (pc1 := 231) (lv1 := [(0, .ref 215), (1, .int x1), (2, .int x2), (3, .int x3), (6, .int x6), (7, .long x7), (9, .long x9)]) (st1 := [.long (-1)]) (fun _ _ _ => rfl) ?_
    exact jg_rl rfl rfl rfl
  · refine jg_sg 3 (pc1 := 225) (lv1 := [(0, .ref 215), (1, .int x1), (2, .int x2), (3, .int x3), (6, .int x6), (7, .long x7), (9, .long x9)]) (st1 := [.int (lg_cmp x9 10413791999)]) (fun _ _ _ => rfl) ?_
    refine jg_br (fun _ _ _ _ k1 k2 => jt_lif_ne (t := 232) rfl rfl k2 k1) (fun c15 => ?_) (fun c15 => ?_)
    · refine jg_sg 1 (pc1 := 231) (lv1 := [(0, .ref 215), (1, .int x1), (2, .int x2), (3, .int x3), (6, .int x6), (7, .long x7), (9, .long x9)]) (st1 := [.long (-1)]) (fun _ _ _ => rfl) ?_
      exact jg_rl rfl rfl rfl
    · refine jg_sg 4 (pc1 := 238) (lv1 := [(0, .ref 215), (1, .int x1), (2, .int x2), (3, .int x3), (6, .int x6), (7, .long x7), (9, .long x9)]) (st1 := [.long (x9 + 1), .long x7]) (fun _ _ _ => rfl) ?_
      refine jg_cpL (m2 := jp_Math_max2) (As := [.long x7, .long (x9 + 1)]) (r := []) (mx := 4) (jh_s rfl (fun _ _ _ => rfl) rfl rfl rfl (by omega) (by omega) (Nat.le_of_ble_eq_true rfl)) (kF_Math_max2 x7 (x9 + 1) S _ _ (by omega) (by omega) ) (fun z16 => ?_)
      refine jg_sg 3 (pc1 := 34) (lv1 := [(6, .int (x6 + 1)), (7, .long z16), (0, .ref 215), (1, .int x1), (2, .int x2), (3, .int x3), (9, .long x9)]) (st1 := []) (fun _ _ _ => rfl) ?_
      refine jg_lvs (lv1 := [(0, .ref 215), (1, .int x1), (2, .int x2), (3, .int x3), (6, .int (x6 + 1)), (7, .long z16)]) rfl rfl ⟨rfl, rfl, rfl, rfl, rfl, rfl, trivial⟩ ?_
      exact ih34 x1 x2 x3 (x6 + 1) z16 S
noncomputable def J_M_nextFire_156 (kt34 : Int32 → Int32 → Int32 → Int32 → Int64 → jS → Option (Int64 × jS)) (kt105 : Int32 → Int32 → Int32 → Int32 → Int64 → Int64 → Int64 → Int64 → jS → Option (Int64 × jS)) (x1 : Int32) (x2 : Int32) (x3 : Int32) (x6 : Int32) (x7 : Int64) (x9 : Int64) (x11 : Int64) (x15 : Int32) (y0 : Int32) (S : jS) : Option (Int64 × jS) := if y0 < 0 then (j_l (86400 * (((x15 : Int32).toInt64) + 1) : Int64) (fun v22 => kt105 x1 x2 x3 x6 x7 x9 x11 v22 S)) else (j_l (((86400 * ((x15 : Int32).toInt64)) + ((y0 : Int32).toInt64)) - x11 : Int64) (fun v23 => if x9 < v23 then (J_M_nextFire_208 kt34 x1 x2 x3 x6 x7 x9 S) else (some (1000 * v23, S))))
set_option maxRecDepth 20000 in
theorem kJ_M_nextFire_156 {q rF rL : Nat} (hF : 5 ≤ rF) (hL : 114 ≤ rL)  (kt34 : Int32 → Int32 → Int32 → Int32 → Int64 → jS → Option (Int64 × jS)) (ih34 : ∀ (x1 : Int32) (x2 : Int32) (x3 : Int32) (x6 : Int32) (x7 : Int64) (S : jS), jg q jp_M_nextFire rF rL 34 [(0, .ref 215), (1, .int x1), (2, .int x2), (3, .int x3), (6, .int x6), (7, .long x7)] [] S 0 s_L (kt34 x1 x2 x3 x6 x7 S)) (kt105 : Int32 → Int32 → Int32 → Int32 → Int64 → Int64 → Int64 → Int64 → jS → Option (Int64 × jS)) (ih105 : ∀ (x1 : Int32) (x2 : Int32) (x3 : Int32) (x6 : Int32) (x7 : Int64) (x9 : Int64) (x11 : Int64) (x13 : Int64) (S : jS), jg q jp_M_nextFire rF rL 105 [(0, .ref 215), (1, .int x1), (2, .int x2), (3, .int x3), (6, .int x6), (7, .long x7), (9, .long x9), (11, .long x11), (13, .long x13)] [] S 0 s_L (kt105 x1 x2 x3 x6 x7 x9 x11 x13 S)) (x1 : Int32) (x2 : Int32) (x3 : Int32) (x6 : Int32) (x7 : Int64) (x9 : Int64) (x11 : Int64) (x15 : Int32) (y0 : Int32) (S : jS) : jg q jp_M_nextFire rF rL 156 [(0, .ref 215), (1, .int x1), (2, .int x2), (3, .int x3), (6, .int x6), (7, .long x7), (9, .long x9), (11, .long x11), (15, .int x15)] [.int y0] S 0 s_L (J_M_nextFire_156 kt34 kt105 x1 x2 x3 x6 x7 x9 x11 x15 y0 S) := by
  unfold J_M_nextFire_156
  refine jg_sg 2 (pc1 := 160) (lv1 := [(16, .int y0), (0, .ref 215), (1, .int x1), (2, .int x2), (3, .int x3), (6, .int x6), (7, .long x7), (9, .long x9), (11, .long x11), (15, .int x15)]) (st1 := [.int y0]) (fun _ _ _ => rfl) ?_
  refine jg_br (fun _ _ _ _ k1 k2 => jt_if_lt (t := 194) rfl rfl k1 k2) (fun c21 => ?_) (fun c21 => ?_)
  · refine jg_sg 7 (pc1 := 205) (lv1 := [(13, .long (86400 * (((x15 : Int32).toInt64) + 1))), (16, .int y0), (0, .ref 215), (1, .int x1), (2, .int x2), (3, .int x3), (6, .int x6), (7, .long x7), (9, .long x9), (11, .long x11), (15, .int x15)]) (st1 := []) (fun _ _ _ => rfl) ?_
    refine jg_vl (fun v22 => ?_)
    refine jg_sg 1 (pc1 := 105) (lv1 := [(13, .long v22), (16, .int y0), (0, .ref 215), (1, .int x1), (2, .int x2), (3, .int x3), (6, .int x6), (7, .long x7), (9, .long x9), (11, .long x11), (15, .int x15)]) (st1 := []) (fun _ _ _ => rfl) ?_
    refine jg_lvs (lv1 := [(0, .ref 215), (1, .int x1), (2, .int x2), (3, .int x3), (6, .int x6), (7, .long x7), (9, .long x9), (11, .long x11), (13, .long v22)]) rfl rfl ⟨rfl, rfl, rfl, rfl, rfl, rfl, rfl, rfl, rfl, trivial⟩ ?_
    exact ih105 x1 x2 x3 x6 x7 x9 x11 v22 S
  · refine jg_sg 10 (pc1 := 179) (lv1 := [(17, .long (((86400 * ((x15 : Int32).toInt64)) + ((y0 : Int32).toInt64)) - x11)), (16, .int y0), (0, .ref 215), (1, .int x1), (2, .int x2), (3, .int x3), (6, .int x6), (7, .long x7), (9, .long x9), (11, .long x11), (15, .int x15)]) (st1 := []) (fun _ _ _ => rfl) ?_
    refine jg_vl (fun v23 => ?_)
    refine jg_sg 3 (pc1 := 184) (lv1 := [(17, .long v23), (16, .int y0), (0, .ref 215), (1, .int x1), (2, .int x2), (3, .int x3), (6, .int x6), (7, .long x7), (9, .long x9), (11, .long x11), (15, .int x15)]) (st1 := [.int (lg_cmp v23 x9)]) (fun _ _ _ => rfl) ?_
    refine jg_br (fun _ _ _ _ k1 k2 => jt_lif_gt (t := 208) rfl rfl k1 k2) (fun c24 => ?_) (fun c24 => ?_)
    · refine jg_lvs (lv1 := [(0, .ref 215), (1, .int x1), (2, .int x2), (3, .int x3), (6, .int x6), (7, .long x7), (9, .long x9)]) rfl rfl ⟨rfl, rfl, rfl, rfl, rfl, rfl, rfl, trivial⟩ ?_
      exact kJ_M_nextFire_208 (by omega) (by omega) kt34 ih34 x1 x2 x3 x6 x7 x9 S
    · refine jg_sg 3 (pc1 := 193) (lv1 := [(17, .long v23), (16, .int y0), (0, .ref 215), (1, .int x1), (2, .int x2), (3, .int x3), (6, .int x6), (7, .long x7), (9, .long x9), (11, .long x11), (15, .int x15)]) (st1 := [.long (1000 * v23)]) (fun _ _ _ => rfl) ?_
      exact jg_rl rfl rfl rfl
noncomputable def L_M_nextFire_105 (kt34 : Int32 → Int32 → Int32 → Int32 → Int64 → jS → Option (Int64 × jS)) : Nat → Int32 → Int32 → Int32 → Int32 → Int64 → Int64 → Int64 → Int64 → jS → Option (Int64 × jS)
  | 0, _, _, _, _, _, _, _, _, _ => none
  | f + 1, x1, x2, x3, x6, x7, x9, x11, x13, S => if (x9 + x11) < x13 then (J_M_nextFire_208 kt34 x1 x2 x3 x6 x7 x9 S) else ((F_Math_floorDiv2 x13 86400 S).bind (fun z17 => j_l ((z17 : Int64).toInt32 : Int32) (fun v18 => (F_M_dayFits x1 x3 v18 S).bind (fun z19 => if z19.1 = 0 then (J_M_nextFire_156 kt34 (L_M_nextFire_105 kt34 f) x1 x2 x3 x6 x7 x9 x11 v18 (-1) z19.2) else ((F_Math_floorMod2 x13 86400 z19.2).bind (fun z25 => (F_M_secondFrom x1 ((z25 : Int64).toInt32) z19.2).bind (fun z26 => J_M_nextFire_156 kt34 (L_M_nextFire_105 kt34 f) x1 x2 x3 x6 x7 x9 x11 v18 z26 z19.2)))))))
set_option maxRecDepth 20000 in
theorem kL_M_nextFire_105 {q rF rL : Nat} (hF : 5 ≤ rF) (hL : 114 ≤ rL)  (kt34 : Int32 → Int32 → Int32 → Int32 → Int64 → jS → Option (Int64 × jS)) (ih34 : ∀ (x1 : Int32) (x2 : Int32) (x3 : Int32) (x6 : Int32) (x7 : Int64) (S : jS), jg q jp_M_nextFire rF rL 34 [(0, .ref 215), (1, .int x1), (2, .int x2), (3, .int x3), (6, .int x6), (7, .long x7)] [] S 0 s_L (kt34 x1 x2 x3 x6 x7 S)) : ∀ (f : Nat) (x1 : Int32) (x2 : Int32) (x3 : Int32) (x6 : Int32) (x7 : Int64) (x9 : Int64) (x11 : Int64) (x13 : Int64) (S : jS), jg q jp_M_nextFire rF rL 105 [(0, .ref 215), (1, .int x1), (2, .int x2), (3, .int x3), (6, .int x6), (7, .long x7), (9, .long x9), (11, .long x11), (13, .long x13)] [] S 0 s_L (L_M_nextFire_105 kt34 f x1 x2 x3 x6 x7 x9 x11 x13 S) := by
  intro f
  induction f with
  | zero => intro _ _ _ _ _ _ _ _ _; exact jg_none
  | succ f ih105 =>
    intro x1 x2 x3 x6 x7 x9 x11 x13 S
    rw [L_M_nextFire_105]
    refine jg_sg 5 (pc1 := 113) (lv1 := [(0, .ref 215), (1, .int x1), (2, .int x2), (3, .int x3), (6, .int x6), (7, .long x7), (9, .long x9), (11, .long x11), (13, .long x13)]) (st1 := [.int (lg_cmp x13 (x9 + x11))]) (fun _ _ _ => rfl) ?_
    refine jg_br (fun _ _ _ _ k1 k2 => jt_lif_gt (t := 208) rfl rfl k1 k2) (fun c12 => ?_) (fun c12 => ?_)
    · refine jg_lvs (lv1 := [(0, .ref 215), (1, .int x1), (2, .int x2), (3, .int x3), (6, .int x6), (7, .long x7), (9, .long x9)]) rfl rfl ⟨rfl, rfl, rfl, rfl, rfl, rfl, rfl, trivial⟩ ?_
      exact kJ_M_nextFire_208 (by omega) (by omega) kt34 ih34 x1 x2 x3 x6 x7 x9 S
    · refine jg_sg 2 (pc1 := 121) (lv1 := [(0, .ref 215), (1, .int x1), (2, .int x2), (3, .int x3), (6, .int x6), (7, .long x7), (9, .long x9), (11, .long x11), (13, .long x13)]) (st1 := [.long 86400, .long x13]) (fun _ _ _ => rfl) ?_
      refine jg_cpL (m2 := jp_Math_floorDiv2) (As := [.long x13, .long 86400]) (r := []) (mx := 6) (jh_s rfl (fun _ _ _ => rfl) rfl rfl rfl (by omega) (by omega) (Nat.le_of_ble_eq_true rfl)) (kF_Math_floorDiv2 x13 86400 S _ _ (by omega) (by omega) ) (fun z17 => ?_)
      refine jg_sg 2 (pc1 := 127) (lv1 := [(15, .int ((z17 : Int64).toInt32)), (0, .ref 215), (1, .int x1), (2, .int x2), (3, .int x3), (6, .int x6), (7, .long x7), (9, .long x9), (11, .long x11), (13, .long x13)]) (st1 := []) (fun _ _ _ => rfl) ?_
      refine jg_vi (fun v18 => ?_)
      refine jg_sg 4 (pc1 := 132) (lv1 := [(15, .int v18), (0, .ref 215), (1, .int x1), (2, .int x2), (3, .int x3), (6, .int x6), (7, .long x7), (9, .long x9), (11, .long x11), (13, .long x13)]) (st1 := [.int v18, .int x3, .int x1, .ref 215]) (fun _ _ _ => rfl) ?_
      refine jg_csI (m2 := jp_M_dayFits) (As := [.ref 215, .int x1, .int x3, .int v18]) (r := []) (mx := 5) (jh_v (a := 215) rfl rfl rfl kc_215 rfl (Nat.le_of_ble_eq_true rfl) rfl rfl rfl (by omega) (by omega) (Nat.le_of_ble_eq_true rfl)) (kF_M_dayFits x1 x3 v18 S _ _ (by omega) (by omega) ) (fun z19 => ?_)
      refine jg_br (fun _ _ _ _ k1 k2 => jt_if_eq (t := 155) rfl rfl k1 k2) (fun c20 => ?_) (fun c20 => ?_)
      · refine jg_sg 1 (pc1 := 156) (lv1 := [(15, .int v18), (0, .ref 215), (1, .int x1), (2, .int x2), (3, .int x3), (6, .int x6), (7, .long x7), (9, .long x9), (11, .long x11), (13, .long x13)]) (st1 := [.int (-1)]) (fun _ _ _ => rfl) ?_
        refine jg_lvs (lv1 := [(0, .ref 215), (1, .int x1), (2, .int x2), (3, .int x3), (6, .int x6), (7, .long x7), (9, .long x9), (11, .long x11), (15, .int v18)]) rfl rfl ⟨rfl, rfl, rfl, rfl, rfl, rfl, rfl, rfl, rfl, trivial⟩ ?_
        exact kJ_M_nextFire_156 (by omega) (by omega) kt34 ih34 (L_M_nextFire_105 kt34 f) ih105 x1 x2 x3 x6 x7 x9 x11 v18 (-1) z19.2
      · refine jg_sg 4 (pc1 := 145) (lv1 := [(15, .int v18), (0, .ref 215), (1, .int x1), (2, .int x2), (3, .int x3), (6, .int x6), (7, .long x7), (9, .long x9), (11, .long x11), (13, .long x13)]) (st1 := [.long 86400, .long x13, .int x1, .ref 215]) (fun _ _ _ => rfl) ?_
        refine jg_cpL (m2 := jp_Math_floorMod2) (As := [.long x13, .long 86400]) (r := [.int x1, .ref 215]) (mx := 6) (jh_s rfl (fun _ _ _ => rfl) rfl rfl rfl (by omega) (by omega) (Nat.le_of_ble_eq_true rfl)) (kF_Math_floorMod2 x13 86400 z19.2 _ _ (by omega) (by omega) ) (fun z25 => ?_)
        refine jg_sg 1 (pc1 := 149) (lv1 := [(15, .int v18), (0, .ref 215), (1, .int x1), (2, .int x2), (3, .int x3), (6, .int x6), (7, .long x7), (9, .long x9), (11, .long x11), (13, .long x13)]) (st1 := [.int ((z25 : Int64).toInt32), .int x1, .ref 215]) (fun _ _ _ => rfl) ?_
        refine jg_cpI (m2 := jp_M_secondFrom) (As := [.ref 215, .int x1, .int ((z25 : Int64).toInt32)]) (r := []) (mx := 6) (jh_v (a := 215) rfl rfl rfl kc_215 rfl (Nat.le_of_ble_eq_true rfl) rfl rfl rfl (by omega) (by omega) (Nat.le_of_ble_eq_true rfl)) (kF_M_secondFrom x1 ((z25 : Int64).toInt32) z19.2 _ _ (by omega) (by omega) ) (fun z26 => ?_)
        refine jg_sg 1 (pc1 := 156) (lv1 := [(15, .int v18), (0, .ref 215), (1, .int x1), (2, .int x2), (3, .int x3), (6, .int x6), (7, .long x7), (9, .long x9), (11, .long x11), (13, .long x13)]) (st1 := [.int z26]) (fun _ _ _ => rfl) ?_
        refine jg_lvs (lv1 := [(0, .ref 215), (1, .int x1), (2, .int x2), (3, .int x3), (6, .int x6), (7, .long x7), (9, .long x9), (11, .long x11), (15, .int v18)]) rfl rfl ⟨rfl, rfl, rfl, rfl, rfl, rfl, rfl, rfl, rfl, trivial⟩ ?_
        exact kJ_M_nextFire_156 (by omega) (by omega) kt34 ih34 (L_M_nextFire_105 kt34 f) ih105 x1 x2 x3 x6 x7 x9 x11 v18 z26 z19.2
noncomputable def J_M_nextFire_84 (kt34 : Int32 → Int32 → Int32 → Int32 → Int64 → jS → Option (Int64 × jS)) (x1 : Int32) (x2 : Int32) (x3 : Int32) (x6 : Int32) (x7 : Int64) (x9 : Int64) (S : jS) : Option (Int64 × jS) := (F_M_minutes x2 x6 S).bind (fun z9 => j_l (60 * ((z9 : Int32).toInt64) : Int64) (fun v10 => j_l (x7 + v10 : Int64) (fun v11 => L_M_nextFire_105 kt34 ju_ x1 x2 x3 x6 x7 x9 v10 v11 S)))
set_option maxRecDepth 20000 in
theorem kJ_M_nextFire_84 {q rF rL : Nat} (hF : 5 ≤ rF) (hL : 114 ≤ rL)  (kt34 : Int32 → Int32 → Int32 → Int32 → Int64 → jS → Option (Int64 × jS)) (ih34 : ∀ (x1 : Int32) (x2 : Int32) (x3 : Int32) (x6 : Int32) (x7 : Int64) (S : jS), jg q jp_M_nextFire rF rL 34 [(0, .ref 215), (1, .int x1), (2, .int x2), (3, .int x3), (6, .int x6), (7, .long x7)] [] S 0 s_L (kt34 x1 x2 x3 x6 x7 S)) (x1 : Int32) (x2 : Int32) (x3 : Int32) (x6 : Int32) (x7 : Int64) (x9 : Int64) (S : jS) : jg q jp_M_nextFire rF rL 84 [(0, .ref 215), (1, .int x1), (2, .int x2), (3, .int x3), (6, .int x6), (7, .long x7), (9, .long x9)] [] S 0 s_L (J_M_nextFire_84 kt34 x1 x2 x3 x6 x7 x9 S) := by
  unfold J_M_nextFire_84
  refine jg_sg 4 (pc1 := 91) (lv1 := [(0, .ref 215), (1, .int x1), (2, .int x2), (3, .int x3), (6, .int x6), (7, .long x7), (9, .long x9)]) (st1 := [.int x6, .int x2, .ref 215, .long 60]) (fun _ _ _ => rfl) ?_
  refine jg_cpI (m2 := jp_M_minutes) (As := [.ref 215, .int x2, .int x6]) (r := [.long 60]) (mx := 3) (jh_v (a := 215) rfl rfl rfl kc_215 rfl (Nat.le_of_ble_eq_true rfl) rfl rfl rfl (by omega) (by omega) (Nat.le_of_ble_eq_true rfl)) (kF_M_minutes x2 x6 S _ _ (by omega) (by omega) ) (fun z9 => ?_)
  refine jg_sg 3 (pc1 := 98) (lv1 := [(11, .long (60 * ((z9 : Int32).toInt64))), (0, .ref 215), (1, .int x1), (2, .int x2), (3, .int x3), (6, .int x6), (7, .long x7), (9, .long x9)]) (st1 := []) (fun _ _ _ => rfl) ?_
  refine jg_vl (fun v10 => ?_)
  refine jg_sg 4 (pc1 := 105) (lv1 := [(13, .long (x7 + v10)), (11, .long v10), (0, .ref 215), (1, .int x1), (2, .int x2), (3, .int x3), (6, .int x6), (7, .long x7), (9, .long x9)]) (st1 := []) (fun _ _ _ => rfl) ?_
  refine jg_vl (fun v11 => ?_)
  refine jg_lvs (lv1 := [(0, .ref 215), (1, .int x1), (2, .int x2), (3, .int x3), (6, .int x6), (7, .long x7), (9, .long x9), (11, .long v10), (13, .long v11)]) rfl rfl ⟨rfl, rfl, rfl, rfl, rfl, rfl, rfl, rfl, rfl, trivial⟩ ?_
  exact kL_M_nextFire_105 (by omega) (by omega) kt34 ih34 ju_ x1 x2 x3 x6 x7 x9 v10 v11 S
noncomputable def J_M_nextFire_68 (kt34 : Int32 → Int32 → Int32 → Int32 → Int64 → jS → Option (Int64 × jS)) (x1 : Int32) (x2 : Int32) (x3 : Int32) (x6 : Int32) (x7 : Int64) (y0 : Int64) (S : jS) : Option (Int64 × jS) := if y0 ≤ 10413791999 then (J_M_nextFire_84 kt34 x1 x2 x3 x6 x7 y0 S) else (J_M_nextFire_84 kt34 x1 x2 x3 x6 x7 10413791999 S)
set_option maxRecDepth 20000 in
theorem kJ_M_nextFire_68 {q rF rL : Nat} (hF : 5 ≤ rF) (hL : 114 ≤ rL)  (kt34 : Int32 → Int32 → Int32 → Int32 → Int64 → jS → Option (Int64 × jS)) (ih34 : ∀ (x1 : Int32) (x2 : Int32) (x3 : Int32) (x6 : Int32) (x7 : Int64) (S : jS), jg q jp_M_nextFire rF rL 34 [(0, .ref 215), (1, .int x1), (2, .int x2), (3, .int x3), (6, .int x6), (7, .long x7)] [] S 0 s_L (kt34 x1 x2 x3 x6 x7 S)) (x1 : Int32) (x2 : Int32) (x3 : Int32) (x6 : Int32) (x7 : Int64) (y0 : Int64) (S : jS) : jg q jp_M_nextFire rF rL 68 [(0, .ref 215), (1, .int x1), (2, .int x2), (3, .int x3), (6, .int x6), (7, .long x7)] [.long y0] S 0 s_L (J_M_nextFire_68 kt34 x1 x2 x3 x6 x7 y0 S) := by
  unfold J_M_nextFire_68
  refine jg_sg 4 (pc1 := 76) (lv1 := [(9, .long y0), (0, .ref 215), (1, .int x1), (2, .int x2), (3, .int x3), (6, .int x6), (7, .long x7)]) (st1 := [.int (lg_cmp y0 10413791999)]) (fun _ _ _ => rfl) ?_
  refine jg_br (fun _ _ _ _ k1 k2 => jt_lif_le (t := 84) rfl rfl k1 k2) (fun c8 => ?_) (fun c8 => ?_)
  · refine jg_lvs (lv1 := [(0, .ref 215), (1, .int x1), (2, .int x2), (3, .int x3), (6, .int x6), (7, .long x7), (9, .long y0)]) rfl rfl ⟨rfl, rfl, rfl, rfl, rfl, rfl, rfl, trivial⟩ ?_
    exact kJ_M_nextFire_84 (by omega) (by omega) kt34 ih34 x1 x2 x3 x6 x7 y0 S
  · refine jg_sg 2 (pc1 := 84) (lv1 := [(9, .long 10413791999), (0, .ref 215), (1, .int x1), (2, .int x2), (3, .int x3), (6, .int x6), (7, .long x7)]) (st1 := []) (fun _ _ _ => rfl) ?_
    refine jg_lvs (lv1 := [(0, .ref 215), (1, .int x1), (2, .int x2), (3, .int x3), (6, .int x6), (7, .long x7), (9, .long 10413791999)]) rfl rfl ⟨rfl, rfl, rfl, rfl, rfl, rfl, rfl, trivial⟩ ?_
    exact kJ_M_nextFire_84 (by omega) (by omega) kt34 ih34 x1 x2 x3 x6 x7 10413791999 S
noncomputable def L_M_nextFire_34  : Nat → Int32 → Int32 → Int32 → Int32 → Int64 → jS → Option (Int64 × jS)
  | 0, _, _, _, _, _, _ => none
  | f + 1, x1, x2, x3, x6, x7, S => j_q (j_in x2 8) (if (S.1 237 ((x2 : Int32).toNatClampNeg)) ≤ x6 then (J_M_nextFire_68 (L_M_nextFire_34 f) x1 x2 x3 x6 x7 10413791999 S) else (j_q (j_in x2 8) (j_q (j_in x6 660) ((F_Math_floorDiv2 ((S.2.1 (220 + ((x2 : Int32).toNatClampNeg)) ((x6 : Int32).toNatClampNeg)) - 1) 1000 S).bind (fun z29 => J_M_nextFire_68 (L_M_nextFire_34 f) x1 x2 x3 x6 x7 z29 S)))))
set_option maxRecDepth 20000 in
theorem kL_M_nextFire_34 {q rF rL : Nat} (hF : 5 ≤ rF) (hL : 114 ≤ rL)   : ∀ (f : Nat) (x1 : Int32) (x2 : Int32) (x3 : Int32) (x6 : Int32) (x7 : Int64) (S : jS), jg q jp_M_nextFire rF rL 34 [(0, .ref 215), (1, .int x1), (2, .int x2), (3, .int x3), (6, .int x6), (7, .long x7)] [] S 0 s_L (L_M_nextFire_34 f x1 x2 x3 x6 x7 S) := by
  intro f
  induction f with
  | zero => intro _ _ _ _ _ _; exact jg_none
  | succ f ih34 =>
    intro x1 x2 x3 x6 x7 S
    rw [L_M_nextFire_34]
    refine jg_sg 2 (pc1 := 37) (lv1 := [(0, .ref 215), (1, .int x1), (2, .int x2), (3, .int x3), (6, .int x6), (7, .long x7)]) (st1 := [.ref 215, .int x6]) (fun _ _ _ => rfl) ?_
    refine jg_g (v := .ref 237) rfl kc_215 rfl rfl ?_
    refine jg_sg 1 (pc1 := 41) (lv1 := [(0, .ref 215), (1, .int x1), (2, .int x2), (3, .int x3), (6, .int x6), (7, .long x7)]) (st1 := [.int x2, .ref 237, .int x6]) (fun _ _ _ => rfl) ?_
    refine jg_ial rfl kc_237 (fun g6 => ?_)
    refine jg_br (fun _ _ _ _ k1 k2 => jt_icmp_ge (t := 65) rfl rfl k1 k2) (fun c7 => ?_) (fun c7 => ?_)
    · refine jg_sg 1 (pc1 := 68) (lv1 := [(0, .ref 215), (1, .int x1), (2, .int x2), (3, .int x3), (6, .int x6), (7, .long x7)]) (st1 := [.long 10413791999]) (fun _ _ _ => rfl) ?_
      refine jg_lvs (lv1 := [(0, .ref 215), (1, .int x1), (2, .int x2), (3, .int x3), (6, .int x6), (7, .long x7)]) rfl rfl ⟨rfl, rfl, rfl, rfl, rfl, rfl, trivial⟩ ?_
      exact kJ_M_nextFire_68 (by omega) (by omega) (L_M_nextFire_34 f) ih34 x1 x2 x3 x6 x7 10413791999 S
    · refine jg_sg 1 (pc1 := 46) (lv1 := [(0, .ref 215), (1, .int x1), (2, .int x2), (3, .int x3), (6, .int x6), (7, .long x7)]) (st1 := [.ref 215]) (fun _ _ _ => rfl) ?_
      refine jg_g (v := .ref 219) rfl kc_215 rfl rfl ?_
      refine jg_sg 1 (pc1 := 50) (lv1 := [(0, .ref 215), (1, .int x1), (2, .int x2), (3, .int x3), (6, .int x6), (7, .long x7)]) (st1 := [.int x2, .ref 219]) (fun _ _ _ => rfl) ?_
      refine jg_aal (w := 220 + ((x2 : Int32).toNatClampNeg)) rfl rfl kc_219 rfl (fun g27 => ?_)
      refine jg_sg 1 (pc1 := 53) (lv1 := [(0, .ref 215), (1, .int x1), (2, .int x2), (3, .int x3), (6, .int x6), (7, .long x7)]) (st1 := [.int x6, .ref (220 + ((x2 : Int32).toNatClampNeg))]) (fun _ _ _ => rfl) ?_
      refine jg_lal rfl (kc_ev (jr_m g27)) (fun g28 => ?_)
      refine jg_sg 3 (pc1 := 59) (lv1 := [(0, .ref 215), (1, .int x1), (2, .int x2), (3, .int x3), (6, .int x6), (7, .long x7)]) (st1 := [.long 1000, .long ((S.2.1 (220 + ((x2 : Int32).toNatClampNeg)) ((x6 : Int32).toNatClampNeg)) - 1)]) (fun _ _ _ => rfl) ?_
      refine jg_cpL (m2 := jp_Math_floorDiv2) (As := [.long ((S.2.1 (220 + ((x2 : Int32).toNatClampNeg)) ((x6 : Int32).toNatClampNeg)) - 1), .long 1000]) (r := []) (mx := 6) (jh_s rfl (fun _ _ _ => rfl) rfl rfl rfl (by omega) (by omega) (Nat.le_of_ble_eq_true rfl)) (kF_Math_floorDiv2 ((S.2.1 (220 + ((x2 : Int32).toNatClampNeg)) ((x6 : Int32).toNatClampNeg)) - 1) 1000 S _ _ (by omega) (by omega) ) (fun z29 => ?_)
      refine jg_sg 1 (pc1 := 68) (lv1 := [(0, .ref 215), (1, .int x1), (2, .int x2), (3, .int x3), (6, .int x6), (7, .long x7)]) (st1 := [.long z29]) (fun _ _ _ => rfl) ?_
      refine jg_lvs (lv1 := [(0, .ref 215), (1, .int x1), (2, .int x2), (3, .int x3), (6, .int x6), (7, .long x7)]) rfl rfl ⟨rfl, rfl, rfl, rfl, rfl, rfl, trivial⟩ ?_
      exact kJ_M_nextFire_68 (by omega) (by omega) (L_M_nextFire_34 f) ih34 x1 x2 x3 x6 x7 z29 S
noncomputable def F_M_nextFire (p0 : Int32) (p1 : Int32) (p2 : Int32) (p3 : Int64) (S : jS) : Option (Int64 × jS) := j_q (j_in p0 16) (if (S.1 376 ((p0 : Int32).toNatClampNeg)) = 0 then (some (-1, S)) else ((F_M_passed p1 p3 S).bind (fun z3 => (F_Math_floorDiv2 p3 1000 S).bind (fun z4 => j_l (z4 + 1 : Int64) (fun v5 => L_M_nextFire_34 ju_ p0 p1 p2 z3 v5 S)))))
set_option maxRecDepth 20000 in
theorem kF_M_nextFire {q : Nat} (p0 : Int32) (p1 : Int32) (p2 : Int32) (p3 : Int64) (S : jS) (rF rL : Nat) (hF : 5 ≤ rF) (hL : 114 ≤ rL)  : jg q jp_M_nextFire rF rL 0 [(0, .ref 215), (1, .int p0), (2, .int p1), (3, .int p2), (4, .long p3)] [] S 0 s_L (F_M_nextFire p0 p1 p2 p3 S) := by
  unfold F_M_nextFire
  refine jg_sg 1 (pc1 := 1) (lv1 := [(0, .ref 215), (1, .int p0), (2, .int p1), (3, .int p2), (4, .long p3)]) (st1 := [.ref 215]) (fun _ _ _ => rfl) ?_
  refine jg_g (v := .ref 376) rfl kc_215 rfl rfl ?_
  refine jg_sg 1 (pc1 := 5) (lv1 := [(0, .ref 215), (1, .int p0), (2, .int p1), (3, .int p2), (4, .long p3)]) (st1 := [.int p0, .ref 376]) (fun _ _ _ => rfl) ?_
  refine jg_bal rfl rfl kc_376 (fun g1 => ?_)
  refine jg_br (fun _ _ _ _ k1 k2 => jt_if_ne (t := 13) rfl rfl k2 k1) (fun c2 => ?_) (fun c2 => ?_)
  · refine jg_sg 1 (pc1 := 12) (lv1 := [(0, .ref 215), (1, .int p0), (2, .int p1), (3, .int p2), (4, .long p3)]) (st1 := [.long (-1)]) (fun _ _ _ => rfl) ?_
    exact jg_rl rfl rfl rfl
  · refine jg_sg 3 (pc1 := 17) (lv1 := [(0, .ref 215), (1, .int p0), (2, .int p1), (3, .int p2), (4, .long p3)]) (st1 := [.long p3, .int p1, .ref 215]) (fun _ _ _ => rfl) ?_
    refine jg_cpI (m2 := jp_M_passed) (As := [.ref 215, .int p1, .long p3]) (r := []) (mx := 7) (jh_v (a := 215) rfl rfl rfl kc_215 rfl (Nat.le_of_ble_eq_true rfl) rfl rfl rfl (by omega) (by omega) (Nat.le_of_ble_eq_true rfl)) (kF_M_passed p1 p3 S _ _ (by omega) (by omega) ) (fun z3 => ?_)
    refine jg_sg 3 (pc1 := 27) (lv1 := [(6, .int z3), (0, .ref 215), (1, .int p0), (2, .int p1), (3, .int p2), (4, .long p3)]) (st1 := [.long 1000, .long p3]) (fun _ _ _ => rfl) ?_
    refine jg_cpL (m2 := jp_Math_floorDiv2) (As := [.long p3, .long 1000]) (r := []) (mx := 6) (jh_s rfl (fun _ _ _ => rfl) rfl rfl rfl (by omega) (by omega) (Nat.le_of_ble_eq_true rfl)) (kF_Math_floorDiv2 p3 1000 S _ _ (by omega) (by omega) ) (fun z4 => ?_)
    refine jg_sg 3 (pc1 := 34) (lv1 := [(7, .long (z4 + 1)), (6, .int z3), (0, .ref 215), (1, .int p0), (2, .int p1), (3, .int p2), (4, .long p3)]) (st1 := []) (fun _ _ _ => rfl) ?_
    refine jg_vl (fun v5 => ?_)
    refine jg_lvs (lv1 := [(0, .ref 215), (1, .int p0), (2, .int p1), (3, .int p2), (6, .int z3), (7, .long v5)]) rfl rfl ⟨rfl, rfl, rfl, rfl, rfl, rfl, trivial⟩ ?_
    exact kL_M_nextFire_34 (by omega) (by omega) ju_ p0 p1 p2 z3 v5 S
noncomputable def J_M_lastFire_198 (kt32 : Int32 → Int32 → Int32 → Int32 → Int64 → jS → Option (Int64 × jS)) (x1 : Int32) (x2 : Int32) (x3 : Int32) (x6 : Int32) (x7 : Int64) (x9 : Int64) (S : jS) : Option (Int64 × jS) := if x6 = 0 then (some (-1, S)) else (if x9 = 0 then (some (-1, S)) else ((F_Math_min2 x7 (x9 - 1) S).bind (fun z13 => kt32 x1 x2 x3 (x6 + (-1)) z13 S)))
set_option maxRecDepth 20000 in
theorem kJ_M_lastFire_198 {q rF rL : Nat} (hF : 5 ≤ rF) (hL : 114 ≤ rL)  (kt32 : Int32 → Int32 → Int32 → Int32 → Int64 → jS → Option (Int64 × jS)) (ih32 : ∀ (x1 : Int32) (x2 : Int32) (x3 : Int32) (x6 : Int32) (x7 : Int64) (S : jS), jg q jp_M_lastFire rF rL 32 [(0, .ref 215), (1, .int x1), (2, .int x2), (3, .int x3), (6, .int x6), (7, .long x7)] [] S 0 s_L (kt32 x1 x2 x3 x6 x7 S)) (x1 : Int32) (x2 : Int32) (x3 : Int32) (x6 : Int32) (x7 : Int64) (x9 : Int64) (S : jS) : jg q jp_M_lastFire rF rL 198 [(0, .ref 215), (1, .int x1), (2, .int x2), (3, .int x3), (6, .int x6), (7, .long x7), (9, .long x9)] [] S 0 s_L (J_M_lastFire_198 kt32 x1 x2 x3 x6 x7 x9 S) := by
  unfold J_M_lastFire_198
  refine jg_sg 1 (pc1 := 200) (lv1 := [(0, .ref 215), (1, .int x1), (2, .int x2), (3, .int x3), (6, .int x6), (7, .long x7), (9, .long x9)]) (st1 := [.int x6]) (fun _ _ _ => rfl) ?_
  refine jg_br (fun _ _ _ _ k1 k2 => jt_if_eq (t := 210) rfl rfl k1 k2) (fun c11 => ?_) (fun c11 => ?_)
  · refine jg_sg 1 (pc1 := 213) (lv1 := [(0, .ref 215), (1, .int x1), (2, .int x2), (3, .int x3), (6, .int x6), (7, .long x7), (9, .long x9)]) (st1 := [.long (-1)]) (fun _ _ _ => rfl) ?_
    exact jg_rl rfl rfl rfl
  · refine jg_sg 3 (pc1 := 207) (lv1 := [(0, .ref 215), (1, .int x1), (2, .int x2), (3, .int x3), (6, .int x6), (7, .long x7), (9, .long x9)]) (st1 := [.int (lg_cmp x9 0)]) (fun _ _ _ => rfl) ?_
    refine jg_br (fun _ _ _ _ k1 k2 => jt_lif_ne (t := 214) rfl rfl k2 k1) (fun c12 => ?_) (fun c12 => ?_)
    · refine jg_sg 1 (pc1 := 213) (lv1 := [(0, .ref 215), (1, .int x1), (2, .int x2), (3, .int x3), (6, .int x6), (7, .long x7), (9, .long x9)]) (st1 := [.long (-1)]) (fun _ _ _ => rfl) ?_
      exact jg_rl rfl rfl rfl
    · refine jg_sg 4 (pc1 := 220) (lv1 := [(0, .ref 215), (1, .int x1), (2, .int x2), (3, .int x3), (6, .int x6), (7, .long x7), (9, .long x9)]) (st1 := [.long (x9 - 1), .long x7]) (fun _ _ _ => rfl) ?_
      refine jg_cpL (m2 := jp_Math_min2) (As := [.long x7, .long (x9 - 1)]) (r := []) (mx := 4) (jh_s rfl (fun _ _ _ => rfl) rfl rfl rfl (by omega) (by omega) (Nat.le_of_ble_eq_true rfl)) (kF_Math_min2 x7 (x9 - 1) S _ _ (by omega) (by omega) ) (fun z13 => ?_)
      refine jg_sg 3 (pc1 := 32) (lv1 := [(6, .int (x6 + (-1))), (7, .long z13), (0, .ref 215), (1, .int x1), (2, .int x2), (3, .int x3), (9, .long x9)]) (st1 := []) (fun _ _ _ => rfl) ?_
      refine jg_lvs (lv1 := [(0, .ref 215), (1, .int x1), (2, .int x2), (3, .int x3), (6, .int (x6 + (-1))), (7, .long z13)]) rfl rfl ⟨rfl, rfl, rfl, rfl, rfl, rfl, trivial⟩ ?_
      exact ih32 x1 x2 x3 (x6 + (-1)) z13 S
noncomputable def J_M_lastFire_146 (kt32 : Int32 → Int32 → Int32 → Int32 → Int64 → jS → Option (Int64 × jS)) (kt95 : Int32 → Int32 → Int32 → Int32 → Int64 → Int64 → Int64 → Int64 → jS → Option (Int64 × jS)) (x1 : Int32) (x2 : Int32) (x3 : Int32) (x6 : Int32) (x7 : Int64) (x9 : Int64) (x11 : Int64) (x15 : Int32) (y0 : Int32) (S : jS) : Option (Int64 × jS) := if y0 < 0 then (j_l ((86400 * ((x15 : Int32).toInt64)) - 1 : Int64) (fun v19 => kt95 x1 x2 x3 x6 x7 x9 x11 v19 S)) else (j_l (((86400 * ((x15 : Int32).toInt64)) + ((y0 : Int32).toInt64)) - x11 : Int64) (fun v20 => if v20 < x9 then (J_M_lastFire_198 kt32 x1 x2 x3 x6 x7 x9 S) else (some (1000 * v20, S))))
set_option maxRecDepth 20000 in
theorem kJ_M_lastFire_146 {q rF rL : Nat} (hF : 5 ≤ rF) (hL : 114 ≤ rL)  (kt32 : Int32 → Int32 → Int32 → Int32 → Int64 → jS → Option (Int64 × jS)) (ih32 : ∀ (x1 : Int32) (x2 : Int32) (x3 : Int32) (x6 : Int32) (x7 : Int64) (S : jS), jg q jp_M_lastFire rF rL 32 [(0, .ref 215), (1, .int x1), (2, .int x2), (3, .int x3), (6, .int x6), (7, .long x7)] [] S 0 s_L (kt32 x1 x2 x3 x6 x7 S)) (kt95 : Int32 → Int32 → Int32 → Int32 → Int64 → Int64 → Int64 → Int64 → jS → Option (Int64 × jS)) (ih95 : ∀ (x1 : Int32) (x2 : Int32) (x3 : Int32) (x6 : Int32) (x7 : Int64) (x9 : Int64) (x11 : Int64) (x13 : Int64) (S : jS), jg q jp_M_lastFire rF rL 95 [(0, .ref 215), (1, .int x1), (2, .int x2), (3, .int x3), (6, .int x6), (7, .long x7), (9, .long x9), (11, .long x11), (13, .long x13)] [] S 0 s_L (kt95 x1 x2 x3 x6 x7 x9 x11 x13 S)) (x1 : Int32) (x2 : Int32) (x3 : Int32) (x6 : Int32) (x7 : Int64) (x9 : Int64) (x11 : Int64) (x15 : Int32) (y0 : Int32) (S : jS) : jg q jp_M_lastFire rF rL 146 [(0, .ref 215), (1, .int x1), (2, .int x2), (3, .int x3), (6, .int x6), (7, .long x7), (9, .long x9), (11, .long x11), (15, .int x15)] [.int y0] S 0 s_L (J_M_lastFire_146 kt32 kt95 x1 x2 x3 x6 x7 x9 x11 x15 y0 S) := by
  unfold J_M_lastFire_146
  refine jg_sg 2 (pc1 := 150) (lv1 := [(16, .int y0), (0, .ref 215), (1, .int x1), (2, .int x2), (3, .int x3), (6, .int x6), (7, .long x7), (9, .long x9), (11, .long x11), (15, .int x15)]) (st1 := [.int y0]) (fun _ _ _ => rfl) ?_
  refine jg_br (fun _ _ _ _ k1 k2 => jt_if_lt (t := 184) rfl rfl k1 k2) (fun c18 => ?_) (fun c18 => ?_)
  · refine jg_sg 7 (pc1 := 195) (lv1 := [(13, .long ((86400 * ((x15 : Int32).toInt64)) - 1)), (16, .int y0), (0, .ref 215), (1, .int x1), (2, .int x2), (3, .int x3), (6, .int x6), (7, .long x7), (9, .long x9), (11, .long x11), (15, .int x15)]) (st1 := []) (fun _ _ _ => rfl) ?_
    refine jg_vl (fun v19 => ?_)
    refine jg_sg 1 (pc1 := 95) (lv1 := [(13, .long v19), (16, .int y0), (0, .ref 215), (1, .int x1), (2, .int x2), (3, .int x3), (6, .int x6), (7, .long x7), (9, .long x9), (11, .long x11), (15, .int x15)]) (st1 := []) (fun _ _ _ => rfl) ?_
    refine jg_lvs (lv1 := [(0, .ref 215), (1, .int x1), (2, .int x2), (3, .int x3), (6, .int x6), (7, .long x7), (9, .long x9), (11, .long x11), (13, .long v19)]) rfl rfl ⟨rfl, rfl, rfl, rfl, rfl, rfl, rfl, rfl, rfl, trivial⟩ ?_
    exact ih95 x1 x2 x3 x6 x7 x9 x11 v19 S
  · refine jg_sg 10 (pc1 := 169) (lv1 := [(17, .long (((86400 * ((x15 : Int32).toInt64)) + ((y0 : Int32).toInt64)) - x11)), (16, .int y0), (0, .ref 215), (1, .int x1), (2, .int x2), (3, .int x3), (6, .int x6), (7, .long x7), (9, .long x9), (11, .long x11), (15, .int x15)]) (st1 := []) (fun _ _ _ => rfl) ?_
    refine jg_vl (fun v20 => ?_)
    refine jg_sg 3 (pc1 := 174) (lv1 := [(17, .long v20), (16, .int y0), (0, .ref 215), (1, .int x1), (2, .int x2), (3, .int x3), (6, .int x6), (7, .long x7), (9, .long x9), (11, .long x11), (15, .int x15)]) (st1 := [.int (lg_cmp v20 x9)]) (fun _ _ _ => rfl) ?_
    refine jg_br (fun _ _ _ _ k1 k2 => jt_lif_lt (t := 198) rfl rfl k1 k2) (fun c21 => ?_) (fun c21 => ?_)
    · refine jg_lvs (lv1 := [(0, .ref 215), (1, .int x1), (2, .int x2), (3, .int x3), (6, .int x6), (7, .long x7), (9, .long x9)]) rfl rfl ⟨rfl, rfl, rfl, rfl, rfl, rfl, rfl, trivial⟩ ?_
      exact kJ_M_lastFire_198 (by omega) (by omega) kt32 ih32 x1 x2 x3 x6 x7 x9 S
    · refine jg_sg 3 (pc1 := 183) (lv1 := [(17, .long v20), (16, .int y0), (0, .ref 215), (1, .int x1), (2, .int x2), (3, .int x3), (6, .int x6), (7, .long x7), (9, .long x9), (11, .long x11), (15, .int x15)]) (st1 := [.long (1000 * v20)]) (fun _ _ _ => rfl) ?_
      exact jg_rl rfl rfl rfl
noncomputable def L_M_lastFire_95 (kt32 : Int32 → Int32 → Int32 → Int32 → Int64 → jS → Option (Int64 × jS)) : Nat → Int32 → Int32 → Int32 → Int32 → Int64 → Int64 → Int64 → Int64 → jS → Option (Int64 × jS)
  | 0, _, _, _, _, _, _, _, _, _ => none
  | f + 1, x1, x2, x3, x6, x7, x9, x11, x13, S => if x13 < (x9 + x11) then (J_M_lastFire_198 kt32 x1 x2 x3 x6 x7 x9 S) else ((F_Math_floorDiv2 x13 86400 S).bind (fun z14 => j_l ((z14 : Int64).toInt32 : Int32) (fun v15 => (F_M_dayFits x1 x3 v15 S).bind (fun z16 => if z16.1 = 0 then (J_M_lastFire_146 kt32 (L_M_lastFire_95 kt32 f) x1 x2 x3 x6 x7 x9 x11 v15 (-1) z16.2) else ((F_Math_floorMod2 x13 86400 z16.2).bind (fun z22 => (F_M_secondTo x1 ((z22 : Int64).toInt32) z16.2).bind (fun z23 => J_M_lastFire_146 kt32 (L_M_lastFire_95 kt32 f) x1 x2 x3 x6 x7 x9 x11 v15 z23 z16.2)))))))
set_option maxRecDepth 20000 in
theorem kL_M_lastFire_95 {q rF rL : Nat} (hF : 5 ≤ rF) (hL : 114 ≤ rL)  (kt32 : Int32 → Int32 → Int32 → Int32 → Int64 → jS → Option (Int64 × jS)) (ih32 : ∀ (x1 : Int32) (x2 : Int32) (x3 : Int32) (x6 : Int32) (x7 : Int64) (S : jS), jg q jp_M_lastFire rF rL 32 [(0, .ref 215), (1, .int x1), (2, .int x2), (3, .int x3), (6, .int x6), (7, .long x7)] [] S 0 s_L (kt32 x1 x2 x3 x6 x7 S)) : ∀ (f : Nat) (x1 : Int32) (x2 : Int32) (x3 : Int32) (x6 : Int32) (x7 : Int64) (x9 : Int64) (x11 : Int64) (x13 : Int64) (S : jS), jg q jp_M_lastFire rF rL 95 [(0, .ref 215), (1, .int x1), (2, .int x2), (3, .int x3), (6, .int x6), (7, .long x7), (9, .long x9), (11, .long x11), (13, .long x13)] [] S 0 s_L (L_M_lastFire_95 kt32 f x1 x2 x3 x6 x7 x9 x11 x13 S) := by
  intro f
  induction f with
  | zero => intro _ _ _ _ _ _ _ _ _; exact jg_none
  | succ f ih95 =>
    intro x1 x2 x3 x6 x7 x9 x11 x13 S
    rw [L_M_lastFire_95]
    refine jg_sg 5 (pc1 := 103) (lv1 := [(0, .ref 215), (1, .int x1), (2, .int x2), (3, .int x3), (6, .int x6), (7, .long x7), (9, .long x9), (11, .long x11), (13, .long x13)]) (st1 := [.int (lg_cmp x13 (x9 + x11))]) (fun _ _ _ => rfl) ?_
    refine jg_br (fun _ _ _ _ k1 k2 => jt_lif_lt (t := 198) rfl rfl k1 k2) (fun c10 => ?_) (fun c10 => ?_)
    · refine jg_lvs (lv1 := [(0, .ref 215), (1, .int x1), (2, .int x2), (3, .int x3), (6, .int x6), (7, .long x7), (9, .long x9)]) rfl rfl ⟨rfl, rfl, rfl, rfl, rfl, rfl, rfl, trivial⟩ ?_
      exact kJ_M_lastFire_198 (by omega) (by omega) kt32 ih32 x1 x2 x3 x6 x7 x9 S
    · refine jg_sg 2 (pc1 := 111) (lv1 := [(0, .ref 215), (1, .int x1), (2, .int x2), (3, .int x3), (6, .int x6), (7, .long x7), (9, .long x9), (11, .long x11), (13, .long x13)]) (st1 := [.long 86400, .long x13]) (fun _ _ _ => rfl) ?_
      refine jg_cpL (m2 := jp_Math_floorDiv2) (As := [.long x13, .long 86400]) (r := []) (mx := 6) (jh_s rfl (fun _ _ _ => rfl) rfl rfl rfl (by omega) (by omega) (Nat.le_of_ble_eq_true rfl)) (kF_Math_floorDiv2 x13 86400 S _ _ (by omega) (by omega) ) (fun z14 => ?_)
      refine jg_sg 2 (pc1 := 117) (lv1 := [(15, .int ((z14 : Int64).toInt32)), (0, .ref 215), (1, .int x1), (2, .int x2), (3, .int x3), (6, .int x6), (7, .long x7), (9, .long x9), (11, .long x11), (13, .long x13)]) (st1 := []) (fun _ _ _ => rfl) ?_
      refine jg_vi (fun v15 => ?_)
      refine jg_sg 4 (pc1 := 122) (lv1 := [(15, .int v15), (0, .ref 215), (1, .int x1), (2, .int x2), (3, .int x3), (6, .int x6), (7, .long x7), (9, .long x9), (11, .long x11), (13, .long x13)]) (st1 := [.int v15, .int x3, .int x1, .ref 215]) (fun _ _ _ => rfl) ?_
      refine jg_csI (m2 := jp_M_dayFits) (As := [.ref 215, .int x1, .int x3, .int v15]) (r := []) (mx := 5) (jh_v (a := 215) rfl rfl rfl kc_215 rfl (Nat.le_of_ble_eq_true rfl) rfl rfl rfl (by omega) (by omega) (Nat.le_of_ble_eq_true rfl)) (kF_M_dayFits x1 x3 v15 S _ _ (by omega) (by omega) ) (fun z16 => ?_)
      refine jg_br (fun _ _ _ _ k1 k2 => jt_if_eq (t := 145) rfl rfl k1 k2) (fun c17 => ?_) (fun c17 => ?_)
      · refine jg_sg 1 (pc1 := 146) (lv1 := [(15, .int v15), (0, .ref 215), (1, .int x1), (2, .int x2), (3, .int x3), (6, .int x6), (7, .long x7), (9, .long x9), (11, .long x11), (13, .long x13)]) (st1 := [.int (-1)]) (fun _ _ _ => rfl) ?_
        refine jg_lvs (lv1 := [(0, .ref 215), (1, .int x1), (2, .int x2), (3, .int x3), (6, .int x6), (7, .long x7), (9, .long x9), (11, .long x11), (15, .int v15)]) rfl rfl ⟨rfl, rfl, rfl, rfl, rfl, rfl, rfl, rfl, rfl, trivial⟩ ?_
        exact kJ_M_lastFire_146 (by omega) (by omega) kt32 ih32 (L_M_lastFire_95 kt32 f) ih95 x1 x2 x3 x6 x7 x9 x11 v15 (-1) z16.2
      · refine jg_sg 4 (pc1 := 135) (lv1 := [(15, .int v15), (0, .ref 215), (1, .int x1), (2, .int x2), (3, .int x3), (6, .int x6), (7, .long x7), (9, .long x9), (11, .long x11), (13, .long x13)]) (st1 := [.long 86400, .long x13, .int x1, .ref 215]) (fun _ _ _ => rfl) ?_
        refine jg_cpL (m2 := jp_Math_floorMod2) (As := [.long x13, .long 86400]) (r := [.int x1, .ref 215]) (mx := 6) (jh_s rfl (fun _ _ _ => rfl) rfl rfl rfl (by omega) (by omega) (Nat.le_of_ble_eq_true rfl)) (kF_Math_floorMod2 x13 86400 z16.2 _ _ (by omega) (by omega) ) (fun z22 => ?_)
        refine jg_sg 1 (pc1 := 139) (lv1 := [(15, .int v15), (0, .ref 215), (1, .int x1), (2, .int x2), (3, .int x3), (6, .int x6), (7, .long x7), (9, .long x9), (11, .long x11), (13, .long x13)]) (st1 := [.int ((z22 : Int64).toInt32), .int x1, .ref 215]) (fun _ _ _ => rfl) ?_
        refine jg_cpI (m2 := jp_M_secondTo) (As := [.ref 215, .int x1, .int ((z22 : Int64).toInt32)]) (r := []) (mx := 6) (jh_v (a := 215) rfl rfl rfl kc_215 rfl (Nat.le_of_ble_eq_true rfl) rfl rfl rfl (by omega) (by omega) (Nat.le_of_ble_eq_true rfl)) (kF_M_secondTo x1 ((z22 : Int64).toInt32) z16.2 _ _ (by omega) (by omega) ) (fun z23 => ?_)
        refine jg_sg 1 (pc1 := 146) (lv1 := [(15, .int v15), (0, .ref 215), (1, .int x1), (2, .int x2), (3, .int x3), (6, .int x6), (7, .long x7), (9, .long x9), (11, .long x11), (13, .long x13)]) (st1 := [.int z23]) (fun _ _ _ => rfl) ?_
        refine jg_lvs (lv1 := [(0, .ref 215), (1, .int x1), (2, .int x2), (3, .int x3), (6, .int x6), (7, .long x7), (9, .long x9), (11, .long x11), (15, .int v15)]) rfl rfl ⟨rfl, rfl, rfl, rfl, rfl, rfl, rfl, rfl, rfl, trivial⟩ ?_
        exact kJ_M_lastFire_146 (by omega) (by omega) kt32 ih32 (L_M_lastFire_95 kt32 f) ih95 x1 x2 x3 x6 x7 x9 x11 v15 z23 z16.2
noncomputable def J_M_lastFire_74 (kt32 : Int32 → Int32 → Int32 → Int32 → Int64 → jS → Option (Int64 × jS)) (x1 : Int32) (x2 : Int32) (x3 : Int32) (x6 : Int32) (x7 : Int64) (x9 : Int64) (S : jS) : Option (Int64 × jS) := (F_M_minutes x2 x6 S).bind (fun z7 => j_l (60 * ((z7 : Int32).toInt64) : Int64) (fun v8 => j_l (x7 + v8 : Int64) (fun v9 => L_M_lastFire_95 kt32 ju_ x1 x2 x3 x6 x7 x9 v8 v9 S)))
set_option maxRecDepth 20000 in
theorem kJ_M_lastFire_74 {q rF rL : Nat} (hF : 5 ≤ rF) (hL : 114 ≤ rL)  (kt32 : Int32 → Int32 → Int32 → Int32 → Int64 → jS → Option (Int64 × jS)) (ih32 : ∀ (x1 : Int32) (x2 : Int32) (x3 : Int32) (x6 : Int32) (x7 : Int64) (S : jS), jg q jp_M_lastFire rF rL 32 [(0, .ref 215), (1, .int x1), (2, .int x2), (3, .int x3), (6, .int x6), (7, .long x7)] [] S 0 s_L (kt32 x1 x2 x3 x6 x7 S)) (x1 : Int32) (x2 : Int32) (x3 : Int32) (x6 : Int32) (x7 : Int64) (x9 : Int64) (S : jS) : jg q jp_M_lastFire rF rL 74 [(0, .ref 215), (1, .int x1), (2, .int x2), (3, .int x3), (6, .int x6), (7, .long x7), (9, .long x9)] [] S 0 s_L (J_M_lastFire_74 kt32 x1 x2 x3 x6 x7 x9 S) := by
  unfold J_M_lastFire_74
  refine jg_sg 4 (pc1 := 81) (lv1 := [(0, .ref 215), (1, .int x1), (2, .int x2), (3, .int x3), (6, .int x6), (7, .long x7), (9, .long x9)]) (st1 := [.int x6, .int x2, .ref 215, .long 60]) (fun _ _ _ => rfl) ?_
  refine jg_cpI (m2 := jp_M_minutes) (As := [.ref 215, .int x2, .int x6]) (r := [.long 60]) (mx := 3) (jh_v (a := 215) rfl rfl rfl kc_215 rfl (Nat.le_of_ble_eq_true rfl) rfl rfl rfl (by omega) (by omega) (Nat.le_of_ble_eq_true rfl)) (kF_M_minutes x2 x6 S _ _ (by omega) (by omega) ) (fun z7 => ?_)
  refine jg_sg 3 (pc1 := 88) (lv1 := [(11, .long (60 * ((z7 : Int32).toInt64))), (0, .ref 215), (1, .int x1), (2, .int x2), (3, .int x3), (6, .int x6), (7, .long x7), (9, .long x9)]) (st1 := []) (fun _ _ _ => rfl) ?_
  refine jg_vl (fun v8 => ?_)
  refine jg_sg 4 (pc1 := 95) (lv1 := [(13, .long (x7 + v8)), (11, .long v8), (0, .ref 215), (1, .int x1), (2, .int x2), (3, .int x3), (6, .int x6), (7, .long x7), (9, .long x9)]) (st1 := []) (fun _ _ _ => rfl) ?_
  refine jg_vl (fun v9 => ?_)
  refine jg_lvs (lv1 := [(0, .ref 215), (1, .int x1), (2, .int x2), (3, .int x3), (6, .int x6), (7, .long x7), (9, .long x9), (11, .long v8), (13, .long v9)]) rfl rfl ⟨rfl, rfl, rfl, rfl, rfl, rfl, rfl, rfl, rfl, trivial⟩ ?_
  exact kL_M_lastFire_95 (by omega) (by omega) kt32 ih32 ju_ x1 x2 x3 x6 x7 x9 v8 v9 S
noncomputable def J_M_lastFire_62 (kt32 : Int32 → Int32 → Int32 → Int32 → Int64 → jS → Option (Int64 × jS)) (x1 : Int32) (x2 : Int32) (x3 : Int32) (x6 : Int32) (x7 : Int64) (y0 : Int64) (S : jS) : Option (Int64 × jS) := if ((0 : Int64)) ≤ y0 then (J_M_lastFire_74 kt32 x1 x2 x3 x6 x7 y0 S) else (J_M_lastFire_74 kt32 x1 x2 x3 x6 x7 0 S)
set_option maxRecDepth 20000 in
theorem kJ_M_lastFire_62 {q rF rL : Nat} (hF : 5 ≤ rF) (hL : 114 ≤ rL)  (kt32 : Int32 → Int32 → Int32 → Int32 → Int64 → jS → Option (Int64 × jS)) (ih32 : ∀ (x1 : Int32) (x2 : Int32) (x3 : Int32) (x6 : Int32) (x7 : Int64) (S : jS), jg q jp_M_lastFire rF rL 32 [(0, .ref 215), (1, .int x1), (2, .int x2), (3, .int x3), (6, .int x6), (7, .long x7)] [] S 0 s_L (kt32 x1 x2 x3 x6 x7 S)) (x1 : Int32) (x2 : Int32) (x3 : Int32) (x6 : Int32) (x7 : Int64) (y0 : Int64) (S : jS) : jg q jp_M_lastFire rF rL 62 [(0, .ref 215), (1, .int x1), (2, .int x2), (3, .int x3), (6, .int x6), (7, .long x7)] [.long y0] S 0 s_L (J_M_lastFire_62 kt32 x1 x2 x3 x6 x7 y0 S) := by
  unfold J_M_lastFire_62
  refine jg_sg 4 (pc1 := 68) (lv1 := [(9, .long y0), (0, .ref 215), (1, .int x1), (2, .int x2), (3, .int x3), (6, .int x6), (7, .long x7)]) (st1 := [.int (lg_cmp y0 0)]) (fun _ _ _ => rfl) ?_
  refine jg_br (fun _ _ _ _ k1 k2 => jt_lif_ge (t := 74) rfl rfl k1 k2) (fun c6 => ?_) (fun c6 => ?_)
  · refine jg_lvs (lv1 := [(0, .ref 215), (1, .int x1), (2, .int x2), (3, .int x3), (6, .int x6), (7, .long x7), (9, .long y0)]) rfl rfl ⟨rfl, rfl, rfl, rfl, rfl, rfl, rfl, trivial⟩ ?_
    exact kJ_M_lastFire_74 (by omega) (by omega) kt32 ih32 x1 x2 x3 x6 x7 y0 S
  · refine jg_sg 2 (pc1 := 74) (lv1 := [(9, .long 0), (0, .ref 215), (1, .int x1), (2, .int x2), (3, .int x3), (6, .int x6), (7, .long x7)]) (st1 := []) (fun _ _ _ => rfl) ?_
    refine jg_lvs (lv1 := [(0, .ref 215), (1, .int x1), (2, .int x2), (3, .int x3), (6, .int x6), (7, .long x7), (9, .long 0)]) rfl rfl ⟨rfl, rfl, rfl, rfl, rfl, rfl, rfl, trivial⟩ ?_
    exact kJ_M_lastFire_74 (by omega) (by omega) kt32 ih32 x1 x2 x3 x6 x7 0 S
noncomputable def L_M_lastFire_32  : Nat → Int32 → Int32 → Int32 → Int32 → Int64 → jS → Option (Int64 × jS)
  | 0, _, _, _, _, _, _ => none
  | f + 1, x1, x2, x3, x6, x7, S => if x6 ≤ 0 then (J_M_lastFire_62 (L_M_lastFire_32 f) x1 x2 x3 x6 x7 0 S) else (j_q (j_in x2 8) (j_q (j_in (x6 - 1) 660) ((F_Math_floorDiv2 ((S.2.1 (220 + ((x2 : Int32).toNatClampNeg)) ((x6 - 1 : Int32).toNatClampNeg)) + 999) 1000 S).bind (fun z26 => J_M_lastFire_62 (L_M_lastFire_32 f) x1 x2 x3 x6 x7 z26 S))))
set_option maxRecDepth 20000 in
theorem kL_M_lastFire_32 {q rF rL : Nat} (hF : 5 ≤ rF) (hL : 114 ≤ rL)   : ∀ (f : Nat) (x1 : Int32) (x2 : Int32) (x3 : Int32) (x6 : Int32) (x7 : Int64) (S : jS), jg q jp_M_lastFire rF rL 32 [(0, .ref 215), (1, .int x1), (2, .int x2), (3, .int x3), (6, .int x6), (7, .long x7)] [] S 0 s_L (L_M_lastFire_32 f x1 x2 x3 x6 x7 S) := by
  intro f
  induction f with
  | zero => intro _ _ _ _ _ _; exact jg_none
  | succ f ih32 =>
    intro x1 x2 x3 x6 x7 S
    rw [L_M_lastFire_32]
    refine jg_sg 1 (pc1 := 34) (lv1 := [(0, .ref 215), (1, .int x1), (2, .int x2), (3, .int x3), (6, .int x6), (7, .long x7)]) (st1 := [.int x6]) (fun _ _ _ => rfl) ?_
    refine jg_br (fun _ _ _ _ k1 k2 => jt_if_le (t := 61) rfl rfl k1 k2) (fun c5 => ?_) (fun c5 => ?_)
    · refine jg_sg 1 (pc1 := 62) (lv1 := [(0, .ref 215), (1, .int x1), (2, .int x2), (3, .int x3), (6, .int x6), (7, .long x7)]) (st1 := [.long 0]) (fun _ _ _ => rfl) ?_
      refine jg_lvs (lv1 := [(0, .ref 215), (1, .int x1), (2, .int x2), (3, .int x3), (6, .int x6), (7, .long x7)]) rfl rfl ⟨rfl, rfl, rfl, rfl, rfl, rfl, trivial⟩ ?_
      exact kJ_M_lastFire_62 (by omega) (by omega) (L_M_lastFire_32 f) ih32 x1 x2 x3 x6 x7 0 S
    · refine jg_sg 1 (pc1 := 38) (lv1 := [(0, .ref 215), (1, .int x1), (2, .int x2), (3, .int x3), (6, .int x6), (7, .long x7)]) (st1 := [.ref 215]) (fun _ _ _ => rfl) ?_
      refine jg_g (v := .ref 219) rfl kc_215 rfl rfl ?_
      refine jg_sg 1 (pc1 := 42) (lv1 := [(0, .ref 215), (1, .int x1), (2, .int x2), (3, .int x3), (6, .int x6), (7, .long x7)]) (st1 := [.int x2, .ref 219]) (fun _ _ _ => rfl) ?_
      refine jg_aal (w := 220 + ((x2 : Int32).toNatClampNeg)) rfl rfl kc_219 rfl (fun g24 => ?_)
      refine jg_sg 3 (pc1 := 47) (lv1 := [(0, .ref 215), (1, .int x1), (2, .int x2), (3, .int x3), (6, .int x6), (7, .long x7)]) (st1 := [.int (x6 - 1), .ref (220 + ((x2 : Int32).toNatClampNeg))]) (fun _ _ _ => rfl) ?_
      refine jg_lal rfl (kc_ev (jr_m g24)) (fun g25 => ?_)
      refine jg_sg 3 (pc1 := 55) (lv1 := [(0, .ref 215), (1, .int x1), (2, .int x2), (3, .int x3), (6, .int x6), (7, .long x7)]) (st1 := [.long 1000, .long ((S.2.1 (220 + ((x2 : Int32).toNatClampNeg)) ((x6 - 1 : Int32).toNatClampNeg)) + 999)]) (fun _ _ _ => rfl) ?_
      refine jg_cpL (m2 := jp_Math_floorDiv2) (As := [.long ((S.2.1 (220 + ((x2 : Int32).toNatClampNeg)) ((x6 - 1 : Int32).toNatClampNeg)) + 999), .long 1000]) (r := []) (mx := 6) (jh_s rfl (fun _ _ _ => rfl) rfl rfl rfl (by omega) (by omega) (Nat.le_of_ble_eq_true rfl)) (kF_Math_floorDiv2 ((S.2.1 (220 + ((x2 : Int32).toNatClampNeg)) ((x6 - 1 : Int32).toNatClampNeg)) + 999) 1000 S _ _ (by omega) (by omega) ) (fun z26 => ?_)
      refine jg_sg 1 (pc1 := 62) (lv1 := [(0, .ref 215), (1, .int x1), (2, .int x2), (3, .int x3), (6, .int x6), (7, .long x7)]) (st1 := [.long z26]) (fun _ _ _ => rfl) ?_
      refine jg_lvs (lv1 := [(0, .ref 215), (1, .int x1), (2, .int x2), (3, .int x3), (6, .int x6), (7, .long x7)]) rfl rfl ⟨rfl, rfl, rfl, rfl, rfl, rfl, trivial⟩ ?_
      exact kJ_M_lastFire_62 (by omega) (by omega) (L_M_lastFire_32 f) ih32 x1 x2 x3 x6 x7 z26 S
noncomputable def F_M_lastFire (p0 : Int32) (p1 : Int32) (p2 : Int32) (p3 : Int64) (S : jS) : Option (Int64 × jS) := j_q (j_in p0 16) (if (S.1 376 ((p0 : Int32).toNatClampNeg)) = 0 then (some (-1, S)) else ((F_M_passed p1 p3 S).bind (fun z3 => (F_Math_floorDiv2 p3 1000 S).bind (fun z4 => L_M_lastFire_32 ju_ p0 p1 p2 z3 z4 S))))
set_option maxRecDepth 20000 in
theorem kF_M_lastFire {q : Nat} (p0 : Int32) (p1 : Int32) (p2 : Int32) (p3 : Int64) (S : jS) (rF rL : Nat) (hF : 5 ≤ rF) (hL : 114 ≤ rL)  : jg q jp_M_lastFire rF rL 0 [(0, .ref 215), (1, .int p0), (2, .int p1), (3, .int p2), (4, .long p3)] [] S 0 s_L (F_M_lastFire p0 p1 p2 p3 S) := by
  unfold F_M_lastFire
  refine jg_sg 1 (pc1 := 1) (lv1 := [(0, .ref 215), (1, .int p0), (2, .int p1), (3, .int p2), (4, .long p3)]) (st1 := [.ref 215]) (fun _ _ _ => rfl) ?_
  refine jg_g (v := .ref 376) rfl kc_215 rfl rfl ?_
  refine jg_sg 1 (pc1 := 5) (lv1 := [(0, .ref 215), (1, .int p0), (2, .int p1), (3, .int p2), (4, .long p3)]) (st1 := [.int p0, .ref 376]) (fun _ _ _ => rfl) ?_
  refine jg_bal rfl rfl kc_376 (fun g1 => ?_)
  refine jg_br (fun _ _ _ _ k1 k2 => jt_if_ne (t := 13) rfl rfl k2 k1) (fun c2 => ?_) (fun c2 => ?_)
  · refine jg_sg 1 (pc1 := 12) (lv1 := [(0, .ref 215), (1, .int p0), (2, .int p1), (3, .int p2), (4, .long p3)]) (st1 := [.long (-1)]) (fun _ _ _ => rfl) ?_
    exact jg_rl rfl rfl rfl
  · refine jg_sg 3 (pc1 := 17) (lv1 := [(0, .ref 215), (1, .int p0), (2, .int p1), (3, .int p2), (4, .long p3)]) (st1 := [.long p3, .int p1, .ref 215]) (fun _ _ _ => rfl) ?_
    refine jg_cpI (m2 := jp_M_passed) (As := [.ref 215, .int p1, .long p3]) (r := []) (mx := 7) (jh_v (a := 215) rfl rfl rfl kc_215 rfl (Nat.le_of_ble_eq_true rfl) rfl rfl rfl (by omega) (by omega) (Nat.le_of_ble_eq_true rfl)) (kF_M_passed p1 p3 S _ _ (by omega) (by omega) ) (fun z3 => ?_)
    refine jg_sg 3 (pc1 := 27) (lv1 := [(6, .int z3), (0, .ref 215), (1, .int p0), (2, .int p1), (3, .int p2), (4, .long p3)]) (st1 := [.long 1000, .long p3]) (fun _ _ _ => rfl) ?_
    refine jg_cpL (m2 := jp_Math_floorDiv2) (As := [.long p3, .long 1000]) (r := []) (mx := 6) (jh_s rfl (fun _ _ _ => rfl) rfl rfl rfl (by omega) (by omega) (Nat.le_of_ble_eq_true rfl)) (kF_Math_floorDiv2 p3 1000 S _ _ (by omega) (by omega) ) (fun z4 => ?_)
    refine jg_sg 1 (pc1 := 32) (lv1 := [(7, .long z4), (6, .int z3), (0, .ref 215), (1, .int p0), (2, .int p1), (3, .int p2), (4, .long p3)]) (st1 := []) (fun _ _ _ => rfl) ?_
    refine jg_lvs (lv1 := [(0, .ref 215), (1, .int p0), (2, .int p1), (3, .int p2), (6, .int z3), (7, .long z4)]) rfl rfl ⟨rfl, rfl, rfl, rfl, rfl, rfl, trivial⟩ ?_
    exact kL_M_lastFire_32 (by omega) (by omega) ju_ p0 p1 p2 z3 z4 S
noncomputable def F_M_badFire (p0 : Int32) (p1 : Int32) (p2 : Int32) (p3 : Int64) (S : jS) : Option Int32 := if p0 < 0 then (some 1) else (if 15 < p0 then (some 1) else (if p1 < 0 then (some 1) else (if 7 < p1 then (some 1) else (if p2 < (-1) then (some 1) else (if 3 < p2 then (some 1) else (if p3 < 0 then (some 1) else (if p3 ≤ 10413791999999 then (some 0) else (some 1))))))))
set_option maxRecDepth 20000 in
theorem kF_M_badFire {q : Nat} (p0 : Int32) (p1 : Int32) (p2 : Int32) (p3 : Int64) (S : jS) (rF rL : Nat) (hF : 0 ≤ rF) (hL : 0 ≤ rL)  : jg q jp_M_badFire rF rL 0 [(0, .ref 215), (1, .int p0), (2, .int p1), (3, .int p2), (4, .long p3)] [] S 0 (p_I S) (F_M_badFire p0 p1 p2 p3 S) := by
  unfold F_M_badFire
  refine jg_sg 1 (pc1 := 1) (lv1 := [(0, .ref 215), (1, .int p0), (2, .int p1), (3, .int p2), (4, .long p3)]) (st1 := [.int p0]) (fun _ _ _ => rfl) ?_
  refine jg_br (fun _ _ _ _ k1 k2 => jt_if_lt (t := 46) rfl rfl k1 k2) (fun c1 => ?_) (fun c1 => ?_)
  · refine jg_sg 2 (pc1 := 51) (lv1 := [(0, .ref 215), (1, .int p0), (2, .int p1), (3, .int p2), (4, .long p3)]) (st1 := [.int 1]) (fun _ _ _ => rfl) ?_
    exact jg_ri rfl rfl rfl rfl
  · refine jg_sg 2 (pc1 := 7) (lv1 := [(0, .ref 215), (1, .int p0), (2, .int p1), (3, .int p2), (4, .long p3)]) (st1 := [.int 15, .int p0]) (fun _ _ _ => rfl) ?_
    refine jg_br (fun _ _ _ _ k1 k2 => jt_icmp_gt (t := 46) rfl rfl k1 k2) (fun c2 => ?_) (fun c2 => ?_)
    · refine jg_sg 2 (pc1 := 51) (lv1 := [(0, .ref 215), (1, .int p0), (2, .int p1), (3, .int p2), (4, .long p3)]) (st1 := [.int 1]) (fun _ _ _ => rfl) ?_
      exact jg_ri rfl rfl rfl rfl
    · refine jg_sg 1 (pc1 := 11) (lv1 := [(0, .ref 215), (1, .int p0), (2, .int p1), (3, .int p2), (4, .long p3)]) (st1 := [.int p1]) (fun _ _ _ => rfl) ?_
      refine jg_br (fun _ _ _ _ k1 k2 => jt_if_lt (t := 46) rfl rfl k1 k2) (fun c3 => ?_) (fun c3 => ?_)
      · refine jg_sg 2 (pc1 := 51) (lv1 := [(0, .ref 215), (1, .int p0), (2, .int p1), (3, .int p2), (4, .long p3)]) (st1 := [.int 1]) (fun _ _ _ => rfl) ?_
        exact jg_ri rfl rfl rfl rfl
      · refine jg_sg 2 (pc1 := 17) (lv1 := [(0, .ref 215), (1, .int p0), (2, .int p1), (3, .int p2), (4, .long p3)]) (st1 := [.int 7, .int p1]) (fun _ _ _ => rfl) ?_
        refine jg_br (fun _ _ _ _ k1 k2 => jt_icmp_gt (t := 46) rfl rfl k1 k2) (fun c4 => ?_) (fun c4 => ?_)
        · refine jg_sg 2 (pc1 := 51) (lv1 := [(0, .ref 215), (1, .int p0), (2, .int p1), (3, .int p2), (4, .long p3)]) (st1 := [.int 1]) (fun _ _ _ => rfl) ?_
          exact jg_ri rfl rfl rfl rfl
        · refine jg_sg 2 (pc1 := 22) (lv1 := [(0, .ref 215), (1, .int p0), (2, .int p1), (3, .int p2), (4, .long p3)]) (st1 := [.int (-1), .int p2]) (fun _ _ _ => rfl) ?_
          refine jg_br (fun _ _ _ _ k1 k2 => jt_icmp_lt (t := 46) rfl rfl k1 k2) (fun c5 => ?_) (fun c5 => ?_)
          · refine jg_sg 2 (pc1 := 51) (lv1 := [(0, .ref 215), (1, .int p0), (2, .int p1), (3, .int p2), (4, .long p3)]) (st1 := [.int 1]) (fun _ _ _ => rfl) ?_
            exact jg_ri rfl rfl rfl rfl
          · refine jg_sg 2 (pc1 := 27) (lv1 := [(0, .ref 215), (1, .int p0), (2, .int p1), (3, .int p2), (4, .long p3)]) (st1 := [.int 3, .int p2]) (fun _ _ _ => rfl) ?_
            refine jg_br (fun _ _ _ _ k1 k2 => jt_icmp_gt (t := 46) rfl rfl k1 k2) (fun c6 => ?_) (fun c6 => ?_)
            · refine jg_sg 2 (pc1 := 51) (lv1 := [(0, .ref 215), (1, .int p0), (2, .int p1), (3, .int p2), (4, .long p3)]) (st1 := [.int 1]) (fun _ _ _ => rfl) ?_
              exact jg_ri rfl rfl rfl rfl
            · refine jg_sg 3 (pc1 := 34) (lv1 := [(0, .ref 215), (1, .int p0), (2, .int p1), (3, .int p2), (4, .long p3)]) (st1 := [.int (lg_cmp p3 0)]) (fun _ _ _ => rfl) ?_
              refine jg_br (fun _ _ _ _ k1 k2 => jt_lif_lt (t := 46) rfl rfl k1 k2) (fun c7 => ?_) (fun c7 => ?_)
              · refine jg_sg 2 (pc1 := 51) (lv1 := [(0, .ref 215), (1, .int p0), (2, .int p1), (3, .int p2), (4, .long p3)]) (st1 := [.int 1]) (fun _ _ _ => rfl) ?_
                exact jg_ri rfl rfl rfl rfl
              · refine jg_sg 3 (pc1 := 43) (lv1 := [(0, .ref 215), (1, .int p0), (2, .int p1), (3, .int p2), (4, .long p3)]) (st1 := [.int (lg_cmp p3 10413791999999)]) (fun _ _ _ => rfl) ?_
                refine jg_br (fun _ _ _ _ k1 k2 => jt_lif_le (t := 50) rfl rfl k1 k2) (fun c8 => ?_) (fun c8 => ?_)
                · refine jg_sg 1 (pc1 := 51) (lv1 := [(0, .ref 215), (1, .int p0), (2, .int p1), (3, .int p2), (4, .long p3)]) (st1 := [.int 0]) (fun _ _ _ => rfl) ?_
                  exact jg_ri rfl rfl rfl rfl
                · refine jg_sg 2 (pc1 := 51) (lv1 := [(0, .ref 215), (1, .int p0), (2, .int p1), (3, .int p2), (4, .long p3)]) (st1 := [.int 1]) (fun _ _ _ => rfl) ?_
                  exact jg_ri rfl rfl rfl rfl
noncomputable def F_M_next (p0 : Int32) (p1 : Int32) (p2 : Int32) (p3 : Int64) (S : jS) : Option (Int64 × jS) := j_l (w_i S 215 0 0) (fun S1 => (F_M_badFire p0 p1 p2 p3 S1).bind (fun z2 => if z2 = 0 then ((F_M_nextFire p0 p1 p2 p3 S1).bind (fun z4 => some (z4.1, z4.2))) else ((F_M_fail 1 S1).bind (fun z5 => some ((z5.1 : Int32).toInt64, z5.2)))))
set_option maxRecDepth 20000 in
theorem kF_M_next {q : Nat} (p0 : Int32) (p1 : Int32) (p2 : Int32) (p3 : Int64) (S : jS) (rF rL : Nat) (hF : 6 ≤ rF) (hL : 152 ≤ rL)  : jg q jp_M_next rF rL 0 [(0, .ref 215), (1, .int p0), (2, .int p1), (3, .int p2), (4, .long p3)] [] S 0 s_L (F_M_next p0 p1 p2 p3 S) := by
  unfold F_M_next
  refine jg_sg 2 (pc1 := 2) (lv1 := [(0, .ref 215), (1, .int p0), (2, .int p1), (3, .int p2), (4, .long p3)]) (st1 := [.int 0, .ref 215]) (fun _ _ _ => rfl) ?_
  refine jg_pi rfl kc_215 rfl (Nat.le_of_ble_eq_true rfl) rfl rfl (fun S1 _ => ?_)
  refine jg_sg 5 (pc1 := 11) (lv1 := [(0, .ref 215), (1, .int p0), (2, .int p1), (3, .int p2), (4, .long p3)]) (st1 := [.long p3, .int p2, .int p1, .int p0, .ref 215]) (fun _ _ _ => rfl) ?_
  refine jg_cpI (m2 := jp_M_badFire) (As := [.ref 215, .int p0, .int p1, .int p2, .long p3]) (r := []) (mx := 6) (jh_v (a := 215) rfl rfl rfl kc_215 rfl (Nat.le_of_ble_eq_true rfl) rfl rfl rfl (by omega) (by omega) (Nat.le_of_ble_eq_true rfl)) (kF_M_badFire p0 p1 p2 p3 S1 _ _ (by omega) (by omega) ) (fun z2 => ?_)
  refine jg_br (fun _ _ _ _ k1 k2 => jt_if_eq (t := 26) rfl rfl k1 k2) (fun c3 => ?_) (fun c3 => ?_)
  · refine jg_sg 5 (pc1 := 32) (lv1 := [(0, .ref 215), (1, .int p0), (2, .int p1), (3, .int p2), (4, .long p3)]) (st1 := [.long p3, .int p2, .int p1, .int p0, .ref 215]) (fun _ _ _ => rfl) ?_
    refine jg_csL (m2 := jp_M_nextFire) (As := [.ref 215, .int p0, .int p1, .int p2, .long p3]) (r := []) (mx := 19) (jh_v (a := 215) rfl rfl rfl kc_215 rfl (Nat.le_of_ble_eq_true rfl) rfl rfl rfl (by omega) (by omega) (Nat.le_of_ble_eq_true rfl)) (kF_M_nextFire p0 p1 p2 p3 S1 _ _ (by omega) (by omega) ) (fun z4 => ?_)
    exact jg_rl rfl rfl rfl
  · refine jg_sg 2 (pc1 := 19) (lv1 := [(0, .ref 215), (1, .int p0), (2, .int p1), (3, .int p2), (4, .long p3)]) (st1 := [.int 1, .ref 215]) (fun _ _ _ => rfl) ?_
    refine jg_csI (m2 := jp_M_fail) (As := [.ref 215, .int 1]) (r := []) (mx := 2) (jh_v (a := 215) rfl rfl rfl kc_215 rfl (Nat.le_of_ble_eq_true rfl) rfl rfl rfl (by omega) (by omega) (Nat.le_of_ble_eq_true rfl)) (kF_M_fail 1 S1 _ _ (by omega) (by omega) ) (fun z5 => ?_)
    refine jg_sg 2 (pc1 := 35) (lv1 := [(0, .ref 215), (1, .int p0), (2, .int p1), (3, .int p2), (4, .long p3)]) (st1 := [.long ((z5.1 : Int32).toInt64)]) (fun _ _ _ => rfl) ?_
    exact jg_rl rfl rfl rfl
noncomputable def F_M_last (p0 : Int32) (p1 : Int32) (p2 : Int32) (p3 : Int64) (S : jS) : Option (Int64 × jS) := j_l (w_i S 215 0 0) (fun S1 => (F_M_badFire p0 p1 p2 p3 S1).bind (fun z2 => if z2 = 0 then ((F_M_lastFire p0 p1 p2 p3 S1).bind (fun z4 => some (z4.1, z4.2))) else ((F_M_fail 1 S1).bind (fun z5 => some ((z5.1 : Int32).toInt64, z5.2)))))
set_option maxRecDepth 20000 in
theorem kF_M_last {q : Nat} (p0 : Int32) (p1 : Int32) (p2 : Int32) (p3 : Int64) (S : jS) (rF rL : Nat) (hF : 6 ≤ rF) (hL : 152 ≤ rL)  : jg q jp_M_last rF rL 0 [(0, .ref 215), (1, .int p0), (2, .int p1), (3, .int p2), (4, .long p3)] [] S 0 s_L (F_M_last p0 p1 p2 p3 S) := by
  unfold F_M_last
  refine jg_sg 2 (pc1 := 2) (lv1 := [(0, .ref 215), (1, .int p0), (2, .int p1), (3, .int p2), (4, .long p3)]) (st1 := [.int 0, .ref 215]) (fun _ _ _ => rfl) ?_
  refine jg_pi rfl kc_215 rfl (Nat.le_of_ble_eq_true rfl) rfl rfl (fun S1 _ => ?_)
  refine jg_sg 5 (pc1 := 11) (lv1 := [(0, .ref 215), (1, .int p0), (2, .int p1), (3, .int p2), (4, .long p3)]) (st1 := [.long p3, .int p2, .int p1, .int p0, .ref 215]) (fun _ _ _ => rfl) ?_
  refine jg_cpI (m2 := jp_M_badFire) (As := [.ref 215, .int p0, .int p1, .int p2, .long p3]) (r := []) (mx := 6) (jh_v (a := 215) rfl rfl rfl kc_215 rfl (Nat.le_of_ble_eq_true rfl) rfl rfl rfl (by omega) (by omega) (Nat.le_of_ble_eq_true rfl)) (kF_M_badFire p0 p1 p2 p3 S1 _ _ (by omega) (by omega) ) (fun z2 => ?_)
  refine jg_br (fun _ _ _ _ k1 k2 => jt_if_eq (t := 26) rfl rfl k1 k2) (fun c3 => ?_) (fun c3 => ?_)
  · refine jg_sg 5 (pc1 := 32) (lv1 := [(0, .ref 215), (1, .int p0), (2, .int p1), (3, .int p2), (4, .long p3)]) (st1 := [.long p3, .int p2, .int p1, .int p0, .ref 215]) (fun _ _ _ => rfl) ?_
    refine jg_csL (m2 := jp_M_lastFire) (As := [.ref 215, .int p0, .int p1, .int p2, .long p3]) (r := []) (mx := 19) (jh_v (a := 215) rfl rfl rfl kc_215 rfl (Nat.le_of_ble_eq_true rfl) rfl rfl rfl (by omega) (by omega) (Nat.le_of_ble_eq_true rfl)) (kF_M_lastFire p0 p1 p2 p3 S1 _ _ (by omega) (by omega) ) (fun z4 => ?_)
    exact jg_rl rfl rfl rfl
  · refine jg_sg 2 (pc1 := 19) (lv1 := [(0, .ref 215), (1, .int p0), (2, .int p1), (3, .int p2), (4, .long p3)]) (st1 := [.int 1, .ref 215]) (fun _ _ _ => rfl) ?_
    refine jg_csI (m2 := jp_M_fail) (As := [.ref 215, .int 1]) (r := []) (mx := 2) (jh_v (a := 215) rfl rfl rfl kc_215 rfl (Nat.le_of_ble_eq_true rfl) rfl rfl rfl (by omega) (by omega) (Nat.le_of_ble_eq_true rfl)) (kF_M_fail 1 S1 _ _ (by omega) (by omega) ) (fun z5 => ?_)
    refine jg_sg 2 (pc1 := 35) (lv1 := [(0, .ref 215), (1, .int p0), (2, .int p1), (3, .int p2), (4, .long p3)]) (st1 := [.long ((z5.1 : Int32).toInt64)]) (fun _ _ _ => rfl) ?_
    exact jg_rl rfl rfl rfl
end JF14
