section JF18
noncomputable def J_M_count_14 (S : jS) : Option (Int64 × jS) := (F_M_fail 1 S).bind (fun z3 => some ((z3.1 : Int32).toInt64, z3.2))
set_option maxRecDepth 20000 in
theorem kJ_M_count_14 {q rF rL : Nat} (hF : 1 ≤ rF) (hL : 22 ≤ rL)   (S : jS) : jg q jp_M_count rF rL 14 [(0, .ref 215)] [] S 0 s_L (J_M_count_14 S) := by
  unfold J_M_count_14
  refine jg_sg 2 (pc1 := 16) (lv1 := [(0, .ref 215)]) (st1 := [.int 1, .ref 215]) (fun _ _ _ => rfl) ?_
  refine jg_csI (m2 := jp_M_fail) (As := [.ref 215, .int 1]) (r := []) (mx := 2) (jh_v (a := 215) rfl rfl rfl kc_215 rfl (Nat.le_of_ble_eq_true rfl) rfl rfl rfl (by omega) (by omega) (Nat.le_of_ble_eq_true rfl)) (kF_M_fail 1 S _ _ (by omega) (by omega) ) (fun z3 => ?_)
  refine jg_sg 1 (pc1 := 20) (lv1 := [(0, .ref 215)]) (st1 := [.long ((z3.1 : Int32).toInt64)]) (fun _ _ _ => rfl) ?_
  exact jg_rl rfl rfl rfl
noncomputable def F_M_count (p0 : Int32) (S : jS) : Option (Int64 × jS) := j_l (w_i S 215 0 0) (fun S1 => if p0 < 0 then (J_M_count_14 S1) else (if p0 ≤ 5 then (if p0 = 0 then (some (S1.2.1 215 41, S1)) else (if p0 = 1 then ((F_M_there S1).bind (fun z7 => some ((z7 : Int32).toInt64, S1))) else (if p0 = 2 then ((F_M_running S1).bind (fun z9 => some ((z9 : Int32).toInt64, S1))) else (if p0 = 3 then (some (S1.2.1 215 44, S1)) else (if p0 = 4 then (some ((S1.1 215 2 : Int32).toInt64, S1)) else (some ((S1.1 215 3 : Int32).toInt64, S1))))))) else (J_M_count_14 S1)))
set_option maxRecDepth 20000 in
theorem kF_M_count {q : Nat} (p0 : Int32) (S : jS) (rF rL : Nat) (hF : 1 ≤ rF) (hL : 22 ≤ rL)  : jg q jp_M_count rF rL 0 [(0, .ref 215), (1, .int p0)] [] S 0 s_L (F_M_count p0 S) := by
  unfold F_M_count
  refine jg_sg 2 (pc1 := 2) (lv1 := [(0, .ref 215), (1, .int p0)]) (st1 := [.int 0, .ref 215]) (fun _ _ _ => rfl) ?_
  refine jg_pi rfl kc_215 rfl (Nat.le_of_ble_eq_true rfl) rfl rfl (fun S1 _ => ?_)
  refine jg_sg 1 (pc1 := 6) (lv1 := [(0, .ref 215), (1, .int p0)]) (st1 := [.int p0]) (fun _ _ _ => rfl) ?_
  refine jg_br (fun _ _ _ _ k1 k2 => jt_if_lt (t := 14) rfl rfl k1 k2) (fun c2 => ?_) (fun c2 => ?_)
  · refine jg_lvs (lv1 := [(0, .ref 215)]) rfl rfl ⟨rfl, trivial⟩ ?_
    exact kJ_M_count_14 (by omega) (by omega) S1
  · refine jg_sg 2 (pc1 := 11) (lv1 := [(0, .ref 215), (1, .int p0)]) (st1 := [.int 5, .int p0]) (fun _ _ _ => rfl) ?_
    refine jg_br (fun _ _ _ _ k1 k2 => jt_icmp_le (t := 21) rfl rfl k1 k2) (fun c4 => ?_) (fun c4 => ?_)
    · refine jg_sg 1 (pc1 := 22) (lv1 := [(0, .ref 215), (1, .int p0)]) (st1 := [.int p0]) (fun _ _ _ => rfl) ?_
      refine jg_br (fun _ _ _ _ k1 k2 => jt_if_ne (t := 32) rfl rfl k2 k1) (fun c5 => ?_) (fun c5 => ?_)
      · refine jg_sg 1 (pc1 := 26) (lv1 := [(0, .ref 215), (1, .int p0)]) (st1 := [.ref 215]) (fun _ _ _ => rfl) ?_
        refine jg_g (v := .long (S1.2.1 215 41)) rfl kc_215 rfl rfl ?_
        refine jg_sg 1 (pc1 := 88) (lv1 := [(0, .ref 215), (1, .int p0)]) (st1 := [.long (S1.2.1 215 41)]) (fun _ _ _ => rfl) ?_
        exact jg_rl rfl rfl rfl
      · refine jg_sg 2 (pc1 := 34) (lv1 := [(0, .ref 215), (1, .int p0)]) (st1 := [.int 1, .int p0]) (fun _ _ _ => rfl) ?_
        refine jg_br (fun _ _ _ _ k1 k2 => jt_icmp_ne (t := 45) rfl rfl k2 k1) (fun c6 => ?_) (fun c6 => ?_)
        · refine jg_sg 1 (pc1 := 38) (lv1 := [(0, .ref 215), (1, .int p0)]) (st1 := [.ref 215]) (fun _ _ _ => rfl) ?_
          refine jg_cpI (m2 := jp_M_there) (As := [.ref 215]) (r := []) (mx := 3) (jh_v (a := 215) rfl rfl rfl kc_215 rfl (Nat.le_of_ble_eq_true rfl) rfl rfl rfl (by omega) (by omega) (Nat.le_of_ble_eq_true rfl)) (kF_M_there S1 _ _ (by omega) (by omega) ) (fun z7 => ?_)
          refine jg_sg 2 (pc1 := 88) (lv1 := [(0, .ref 215), (1, .int p0)]) (st1 := [.long ((z7 : Int32).toInt64)]) (fun _ _ _ => rfl) ?_
          exact jg_rl rfl rfl rfl
        · refine jg_sg 2 (pc1 := 47) (lv1 := [(0, .ref 215), (1, .int p0)]) (st1 := [.int 2, .int p0]) (fun _ _ _ => rfl) ?_
          refine jg_br (fun _ _ _ _ k1 k2 => jt_icmp_ne (t := 58) rfl rfl k2 k1) (fun c8 => ?_) (fun c8 => ?_)
          · refine jg_sg 1 (pc1 := 51) (lv1 := [(0, .ref 215), (1, .int p0)]) (st1 := [.ref 215]) (fun _ _ _ => rfl) ?_
            refine jg_cpI (m2 := jp_M_running) (As := [.ref 215]) (r := []) (mx := 3) (jh_v (a := 215) rfl rfl rfl kc_215 rfl (Nat.le_of_ble_eq_true rfl) rfl rfl rfl (by omega) (by omega) (Nat.le_of_ble_eq_true rfl)) (kF_M_running S1 _ _ (by omega) (by omega) ) (fun z9 => ?_)
            refine jg_sg 2 (pc1 := 88) (lv1 := [(0, .ref 215), (1, .int p0)]) (st1 := [.long ((z9 : Int32).toInt64)]) (fun _ _ _ => rfl) ?_
            exact jg_rl rfl rfl rfl
          · refine jg_sg 2 (pc1 := 60) (lv1 := [(0, .ref 215), (1, .int p0)]) (st1 := [.int 3, .int p0]) (fun _ _ _ => rfl) ?_
            refine jg_br (fun _ _ _ _ k1 k2 => jt_icmp_ne (t := 70) rfl rfl k2 k1) (fun c10 => ?_) (fun c10 => ?_)
            · refine jg_sg 1 (pc1 := 64) (lv1 := [(0, .ref 215), (1, .int p0)]) (st1 := [.ref 215]) (fun _ _ _ => rfl) ?_
              refine jg_g (v := .long (S1.2.1 215 44)) rfl kc_215 rfl rfl ?_
              refine jg_sg 1 (pc1 := 88) (lv1 := [(0, .ref 215), (1, .int p0)]) (st1 := [.long (S1.2.1 215 44)]) (fun _ _ _ => rfl) ?_
              exact jg_rl rfl rfl rfl
            · refine jg_sg 2 (pc1 := 72) (lv1 := [(0, .ref 215), (1, .int p0)]) (st1 := [.int 4, .int p0]) (fun _ _ _ => rfl) ?_
              refine jg_br (fun _ _ _ _ k1 k2 => jt_icmp_ne (t := 83) rfl rfl k2 k1) (fun c11 => ?_) (fun c11 => ?_)
              · refine jg_sg 1 (pc1 := 76) (lv1 := [(0, .ref 215), (1, .int p0)]) (st1 := [.ref 215]) (fun _ _ _ => rfl) ?_
                refine jg_g (v := .int (S1.1 215 2)) rfl kc_215 rfl rfl ?_
                refine jg_sg 2 (pc1 := 88) (lv1 := [(0, .ref 215), (1, .int p0)]) (st1 := [.long ((S1.1 215 2 : Int32).toInt64)]) (fun _ _ _ => rfl) ?_
                exact jg_rl rfl rfl rfl
              · refine jg_sg 1 (pc1 := 84) (lv1 := [(0, .ref 215), (1, .int p0)]) (st1 := [.ref 215]) (fun _ _ _ => rfl) ?_
                refine jg_g (v := .int (S1.1 215 3)) rfl kc_215 rfl rfl ?_
                refine jg_sg 1 (pc1 := 88) (lv1 := [(0, .ref 215), (1, .int p0)]) (st1 := [.long ((S1.1 215 3 : Int32).toInt64)]) (fun _ _ _ => rfl) ?_
                exact jg_rl rfl rfl rfl
    · refine jg_lvs (lv1 := [(0, .ref 215)]) rfl rfl ⟨rfl, trivial⟩ ?_
      exact kJ_M_count_14 (by omega) (by omega) S1
end JF18
