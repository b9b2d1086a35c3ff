def g_D_firstOfMonth (y : Int32) (mo : Int32) : Int32 :=
  let v12 : Int32 := if mo ≤ 2 then (y - 1) else y
  let v28 : Int32 := if mo ≤ 2 then (mo + 9) else (mo - 3)
  (((365 * v12) + (((v12 / 4) - (v12 / 100)) + (v12 / 400))) + (((153 * v28) + 2) / 5)) - 719468
set_option maxRecDepth 20000 in
set_option maxHeartbeats 4000000 in
theorem q_D_firstOfMonth (y : Int32) (mo : Int32) (M : jx_H)    (rF rL : Nat) (hfr : 0 ≤ rF) (hlo : 0 ≤ rL) : jt jp_D_firstOfMonth rF rL 0 [(0, .int y), (1, .int mo)] [] M 0 0 (.inl (some (.int (g_D_firstOfMonth y mo))), M, 0, 0) := by
  refine jt_sgp 2 (pc1 := 2) (lv1 := [(0, .int y), (1, .int mo)]) (st1 := [.int 2, .int mo]) rfl ?_
  have J12_2 : ∀ (v12 : Int32), v12 = (if mo ≤ 2 then (y - 1) else y : Int32) → jt jp_D_firstOfMonth rF rL 12 [(0, .int y), (1, .int mo)] [.int v12] (M) 0 0 (.inl (some (.int (g_D_firstOfMonth y mo))), M, 0, 0) := by
    intro v12 ev12
    refine jt_sgp 3 (pc1 := 15) (lv1 := [(2, .int v12), (0, .int y), (1, .int mo)]) (st1 := [.int 2, .int mo]) rfl ?_
    have J28_4 : ∀ (v28 : Int32), v28 = (if mo ≤ 2 then (mo + 9) else (mo - 3) : Int32) → jt jp_D_firstOfMonth rF rL 28 [(2, .int v12), (0, .int y), (1, .int mo)] [.int v28] (M) 0 0 (.inl (some (.int (g_D_firstOfMonth y mo))), M, 0, 0) := by
      intro v28 ev28
      refine jt_sgp 3 (pc1 := 31) (lv1 := [(3, .int v28), (2, .int v12), (0, .int y), (1, .int mo)]) (st1 := [.int 4, .int v12]) rfl ?_
      refine jt_idiv rfl (by decide +kernel) ?_
      refine jt_sgp 2 (pc1 := 35) (lv1 := [(3, .int v28), (2, .int v12), (0, .int y), (1, .int mo)]) (st1 := [.int 100, .int v12, .int (v12 / 4)]) rfl ?_
      refine jt_idiv rfl (by decide +kernel) ?_
      refine jt_sgp 3 (pc1 := 41) (lv1 := [(3, .int v28), (2, .int v12), (0, .int y), (1, .int mo)]) (st1 := [.int 400, .int v12, .int ((v12 / 4) - (v12 / 100))]) rfl ?_
      refine jt_idiv rfl (by decide +kernel) ?_
      refine jt_sgp 13 (pc1 := 61) (lv1 := [(4, .int (((v12 / 4) - (v12 / 100)) + (v12 / 400))), (3, .int v28), (2, .int v12), (0, .int y), (1, .int mo)]) (st1 := [.int 5, .int ((153 * v28) + 2), .int ((365 * v12) + (((v12 / 4) - (v12 / 100)) + (v12 / 400)))]) rfl ?_
      refine jt_idiv rfl (by decide +kernel) ?_
      refine jt_sgp 3 (pc1 := 66) (lv1 := [(4, .int (((v12 / 4) - (v12 / 100)) + (v12 / 400))), (3, .int v28), (2, .int v12), (0, .int y), (1, .int mo)]) (st1 := [.int ((((365 * v12) + (((v12 / 4) - (v12 / 100)) + (v12 / 400))) + (((153 * v28) + 2) / 5)) - 719468)]) rfl ?_
      exact jt_iret rfl rfl rfl (jx_oe (by show (some (Value.int _) : Option Value) = some (Value.int _); unfold g_D_firstOfMonth; subst ev28; subst ev12; rfl) rfl)
    refine jt_icmp_le (t := 24) rfl rfl (fun c3 => ?_) (fun c3 => ?_)
    · refine jt_sgp 3 (pc1 := 28) (lv1 := [(2, .int v12), (0, .int y), (1, .int mo)]) (st1 := [.int (mo + 9)]) rfl ?_
      exact J28_4 _ (by first | (simp only [if_pos c3, reduceIte]; done) | (with_reducible rfl))
    · refine jt_sgp 4 (pc1 := 28) (lv1 := [(2, .int v12), (0, .int y), (1, .int mo)]) (st1 := [.int (mo - 3)]) rfl ?_
      exact J28_4 _ (by first | (simp only [if_neg c3, reduceIte]; done) | (with_reducible rfl))
  refine jt_icmp_le (t := 9) rfl rfl (fun c1 => ?_) (fun c1 => ?_)
  · refine jt_sgp 3 (pc1 := 12) (lv1 := [(0, .int y), (1, .int mo)]) (st1 := [.int (y - 1)]) rfl ?_
    exact J12_2 _ (by first | (simp only [if_pos c1, reduceIte]; done) | (with_reducible rfl))
  · refine jt_sgp 2 (pc1 := 12) (lv1 := [(0, .int y), (1, .int mo)]) (st1 := [.int y]) rfl ?_
    exact J12_2 _ (by first | (simp only [if_neg c1, reduceIte]; done) | (with_reducible rfl))
def g_D_monthLength (y : Int32) (mo : Int32) : Int32 :=
  let v72 : Int32 := if mo = 4 then 1 else (if mo = 6 then 1 else (if mo = 9 then 1 else (if mo = 11 then 1 else 0)))
  let v84 : Int32 := if v72 = 0 then 31 else 30
  let v31 : Int32 := if (y - y / 4 * 4) = 0 then (if (y - y / 100 * 100) = 0 then (if (y - y / 400 * 400) = 0 then 1 else 0) else 1) else 0
  let v43 : Int32 := if v31 = 0 then 28 else 29
  if mo = 2 then v43 else v84
set_option maxRecDepth 20000 in
set_option maxHeartbeats 4000000 in
theorem q_D_monthLength (y : Int32) (mo : Int32) (M : jx_H)    (rF rL : Nat) (hfr : 0 ≤ rF) (hlo : 0 ≤ rL) : jt jp_D_monthLength rF rL 0 [(0, .int y), (1, .int mo)] [] M 0 0 (.inl (some (.int (g_D_monthLength y mo))), M, 0, 0) := by
  refine jt_sgp 2 (pc1 := 2) (lv1 := [(0, .int y), (1, .int mo)]) (st1 := [.int 2, .int mo]) rfl ?_
  refine jt_icmp_ne (t := 44) rfl rfl (fun c1 => ?_) (fun c1 => ?_)
  · refine jt_sgp 2 (pc1 := 46) (lv1 := [(0, .int y), (1, .int mo)]) (st1 := [.int 4, .int mo]) rfl ?_
    have J72_3 : ∀ (v72 : Int32), v72 = (if mo = 4 then 1 else (if mo = 6 then 1 else (if mo = 9 then 1 else (if mo = 11 then 1 else 0))) : Int32) → jt jp_D_monthLength rF rL 72 [(0, .int y), (1, .int mo)] [.int v72] (M) 0 0 (.inl (some (.int (g_D_monthLength y mo))), M, 0, 0) := by
      intro v72 ev72
      refine jt_sgp 2 (pc1 := 74) (lv1 := [(2, .int v72), (0, .int y), (1, .int mo)]) (st1 := [.int v72]) rfl ?_
      have J84_5 : ∀ (v84 : Int32), v84 = (if v72 = 0 then 31 else 30 : Int32) → jt jp_D_monthLength rF rL 84 [(2, .int v72), (0, .int y), (1, .int mo)] [.int v84] (M) 0 0 (.inl (some (.int (g_D_monthLength y mo))), M, 0, 0) := by
        intro v84 ev84
        exact jt_iret rfl rfl rfl (jx_oe (by show (some (Value.int _) : Option Value) = some (Value.int _); unfold g_D_monthLength; subst ev84; subst ev72; first | (simp only [if_neg c1, reduceIte]; done) | (simp only [if_neg c1, reduceIte]; rfl) | rfl) rfl)
      refine jt_if_eq (t := 82) rfl rfl (fun c4 => ?_) (fun c4 => ?_)
      · refine jt_sgp 1 (pc1 := 84) (lv1 := [(2, .int v72), (0, .int y), (1, .int mo)]) (st1 := [.int 31]) rfl ?_
        exact J84_5 _ (by first | (simp only [if_pos c4, reduceIte]; done) | (with_reducible rfl))
      · refine jt_sgp 2 (pc1 := 84) (lv1 := [(2, .int v72), (0, .int y), (1, .int mo)]) (st1 := [.int 30]) rfl ?_
        exact J84_5 _ (by first | (simp only [if_neg c4, reduceIte]; done) | (with_reducible rfl))
    refine jt_icmp_eq (t := 67) rfl rfl (fun c2 => ?_) (fun c2 => ?_)
    · refine jt_sgp 2 (pc1 := 72) (lv1 := [(0, .int y), (1, .int mo)]) (st1 := [.int 1]) rfl ?_
      exact J72_3 _ (by first | (simp only [if_pos c2, reduceIte]; done) | (with_reducible rfl))
    · refine jt_sgp 2 (pc1 := 52) (lv1 := [(0, .int y), (1, .int mo)]) (st1 := [.int 6, .int mo]) rfl ?_
      refine jt_icmp_eq (t := 67) rfl rfl (fun c6 => ?_) (fun c6 => ?_)
      · refine jt_sgp 2 (pc1 := 72) (lv1 := [(0, .int y), (1, .int mo)]) (st1 := [.int 1]) rfl ?_
        exact J72_3 _ (by first | (simp only [if_neg c2, if_pos c6, reduceIte]; done) | (with_reducible rfl))
      · refine jt_sgp 2 (pc1 := 58) (lv1 := [(0, .int y), (1, .int mo)]) (st1 := [.int 9, .int mo]) rfl ?_
        refine jt_icmp_eq (t := 67) rfl rfl (fun c7 => ?_) (fun c7 => ?_)
        · refine jt_sgp 2 (pc1 := 72) (lv1 := [(0, .int y), (1, .int mo)]) (st1 := [.int 1]) rfl ?_
          exact J72_3 _ (by first | (simp only [if_neg c2, if_neg c6, if_pos c7, reduceIte]; done) | (with_reducible rfl))
        · refine jt_sgp 2 (pc1 := 64) (lv1 := [(0, .int y), (1, .int mo)]) (st1 := [.int 11, .int mo]) rfl ?_
          refine jt_icmp_ne (t := 71) rfl rfl (fun c8 => ?_) (fun c8 => ?_)
          · refine jt_sgp 1 (pc1 := 72) (lv1 := [(0, .int y), (1, .int mo)]) (st1 := [.int 0]) rfl ?_
            exact J72_3 _ (by first | (simp only [if_neg c2, if_neg c6, if_neg c7, if_neg c8, reduceIte]; done) | (with_reducible rfl))
          · refine jt_sgp 2 (pc1 := 72) (lv1 := [(0, .int y), (1, .int mo)]) (st1 := [.int 1]) rfl ?_
            exact J72_3 _ (by first | (simp only [if_neg c2, if_neg c6, if_neg c7, if_pos c8, reduceIte]; done) | (with_reducible rfl))
  · refine jt_sgp 2 (pc1 := 7) (lv1 := [(0, .int y), (1, .int mo)]) (st1 := [.int 4, .int y]) rfl ?_
    refine jt_irem rfl (by decide +kernel) ?_
    have J31_10 : ∀ (v31 : Int32), v31 = (if (y - y / 4 * 4) = 0 then (if (y - y / 100 * 100) = 0 then (if (y - y / 400 * 400) = 0 then 1 else 0) else 1) else 0 : Int32) → jt jp_D_monthLength rF rL 31 [(0, .int y), (1, .int mo)] [.int v31] (M) 0 0 (.inl (some (.int (g_D_monthLength y mo))), M, 0, 0) := by
      intro v31 ev31
      refine jt_sgp 2 (pc1 := 33) (lv1 := [(2, .int v31), (0, .int y), (1, .int mo)]) (st1 := [.int v31]) rfl ?_
      have J43_12 : ∀ (v43 : Int32), v43 = (if v31 = 0 then 28 else 29 : Int32) → jt jp_D_monthLength rF rL 43 [(2, .int v31), (0, .int y), (1, .int mo)] [.int v43] (M) 0 0 (.inl (some (.int (g_D_monthLength y mo))), M, 0, 0) := by
        intro v43 ev43
        exact jt_iret rfl rfl rfl (jx_oe (by show (some (Value.int _) : Option Value) = some (Value.int _); unfold g_D_monthLength; subst ev43; subst ev31; first | (simp only [if_pos c1, reduceIte]; done) | (simp only [if_pos c1, reduceIte]; rfl) | rfl) rfl)
      refine jt_if_eq (t := 41) rfl rfl (fun c11 => ?_) (fun c11 => ?_)
      · refine jt_sgp 1 (pc1 := 43) (lv1 := [(2, .int v31), (0, .int y), (1, .int mo)]) (st1 := [.int 28]) rfl ?_
        exact J43_12 _ (by first | (simp only [if_pos c11, reduceIte]; done) | (with_reducible rfl))
      · refine jt_sgp 2 (pc1 := 43) (lv1 := [(2, .int v31), (0, .int y), (1, .int mo)]) (st1 := [.int 29]) rfl ?_
        exact J43_12 _ (by first | (simp only [if_neg c11, reduceIte]; done) | (with_reducible rfl))
    refine jt_if_ne (t := 30) rfl rfl (fun c9 => ?_) (fun c9 => ?_)
    · refine jt_sgp 1 (pc1 := 31) (lv1 := [(0, .int y), (1, .int mo)]) (st1 := [.int 0]) rfl ?_
      exact J31_10 _ (by first | (simp only [if_neg c9, reduceIte]; done) | (with_reducible rfl))
    · refine jt_sgp 2 (pc1 := 14) (lv1 := [(0, .int y), (1, .int mo)]) (st1 := [.int 100, .int y]) rfl ?_
      refine jt_irem rfl (by decide +kernel) ?_
      refine jt_if_ne (t := 26) rfl rfl (fun c13 => ?_) (fun c13 => ?_)
      · refine jt_sgp 2 (pc1 := 31) (lv1 := [(0, .int y), (1, .int mo)]) (st1 := [.int 1]) rfl ?_
        exact J31_10 _ (by first | (simp only [if_pos c9, if_neg c13, reduceIte]; done) | (with_reducible rfl))
      · refine jt_sgp 2 (pc1 := 22) (lv1 := [(0, .int y), (1, .int mo)]) (st1 := [.int 400, .int y]) rfl ?_
        refine jt_irem rfl (by decide +kernel) ?_
        refine jt_if_ne (t := 30) rfl rfl (fun c14 => ?_) (fun c14 => ?_)
        · refine jt_sgp 1 (pc1 := 31) (lv1 := [(0, .int y), (1, .int mo)]) (st1 := [.int 0]) rfl ?_
          exact J31_10 _ (by first | (simp only [if_pos c9, if_pos c13, if_neg c14, reduceIte]; done) | (with_reducible rfl))
        · refine jt_sgp 2 (pc1 := 31) (lv1 := [(0, .int y), (1, .int mo)]) (st1 := [.int 1]) rfl ?_
          exact J31_10 _ (by first | (simp only [if_pos c9, if_pos c13, if_pos c14, reduceIte]; done) | (with_reducible rfl))
def g_D_weekdayOf (day : Int32) : Int32 :=
  ((day + 4) - (day + 4) / 7 * 7) + 1
set_option maxRecDepth 20000 in
set_option maxHeartbeats 4000000 in
theorem q_D_weekdayOf (day : Int32) (M : jx_H)    (rF rL : Nat) (hfr : 0 ≤ rF) (hlo : 0 ≤ rL) : jt jp_D_weekdayOf rF rL 0 [(0, .int day)] [] M 0 0 (.inl (some (.int (g_D_weekdayOf day))), M, 0, 0) := by
  refine jt_sgp 4 (pc1 := 5) (lv1 := [(0, .int day)]) (st1 := [.int 7, .int (day + 4)]) rfl ?_
  refine jt_irem rfl (by decide +kernel) ?_
  refine jt_sgp 2 (pc1 := 8) (lv1 := [(0, .int day)]) (st1 := [.int (((day + 4) - (day + 4) / 7 * 7) + 1)]) rfl ?_
  exact jt_iret rfl rfl rfl (jx_oe (by show (some (Value.int _) : Option Value) = some (Value.int _); unfold g_D_weekdayOf; rfl) rfl)
def g_D_monthOf (day : Int32) (y : Int32) : Int32 :=
  let v37 : Int32 := if 12 ≤ (((day - (g_D_firstOfMonth y 1)) / 31) + 1) then (((day - (g_D_firstOfMonth y 1)) / 31) + 1) else (if day < (g_D_firstOfMonth y ((((day - (g_D_firstOfMonth y 1)) / 31) + 1) + 1)) then (((day - (g_D_firstOfMonth y 1)) / 31) + 1) else ((((day - (g_D_firstOfMonth y 1)) / 31) + 1) + 1))
  v37
set_option maxRecDepth 20000 in
set_option maxHeartbeats 4000000 in
theorem q_D_monthOf (day : Int32) (y : Int32) (M : jx_H)    (rF rL : Nat) (hfr : 1 ≤ rF) (hlo : 24 ≤ rL) : jt jp_D_monthOf rF rL 0 [(0, .int day), (1, .int y)] [] M 0 0 (.inl (some (.int (g_D_monthOf day y))), M, 0, 0) := by
  refine jt_sgp 3 (pc1 := 3) (lv1 := [(0, .int day), (1, .int y)]) (st1 := [.int 1, .int y, .int day]) rfl ?_
  refine jt_call (k := 120) (m2 := jp_D_firstOfMonth) (As := [.int y, .int 1]) (r := [.int day]) (mx := 5) rfl rfl rfl rfl rfl (by omega) (by omega) (Nat.le_of_ble_eq_true rfl) (q_D_firstOfMonth y 1 M   _ _ (by omega) (by omega)) ?_
  show jt jp_D_monthOf rF rL 6 [(0, .int day), (1, .int y)] [.int (g_D_firstOfMonth y 1), .int day] (M) 0 0 (.inl (some (.int (g_D_monthOf day y))), M, 0, 0)
  refine jt_sgp 2 (pc1 := 9) (lv1 := [(0, .int day), (1, .int y)]) (st1 := [.int 31, .int (day - (g_D_firstOfMonth y 1))]) rfl ?_
  refine jt_idiv rfl (by decide +kernel) ?_
  refine jt_sgp 5 (pc1 := 16) (lv1 := [(2, .int (((day - (g_D_firstOfMonth y 1)) / 31) + 1)), (0, .int day), (1, .int y)]) (st1 := [.int 12, .int (((day - (g_D_firstOfMonth y 1)) / 31) + 1)]) rfl ?_
  have J37_2 : ∀ (v37 : Int32), v37 = (if 12 ≤ (((day - (g_D_firstOfMonth y 1)) / 31) + 1) then (((day - (g_D_firstOfMonth y 1)) / 31) + 1) else (if day < (g_D_firstOfMonth y ((((day - (g_D_firstOfMonth y 1)) / 31) + 1) + 1)) then (((day - (g_D_firstOfMonth y 1)) / 31) + 1) else ((((day - (g_D_firstOfMonth y 1)) / 31) + 1) + 1)) : Int32) → jt jp_D_monthOf rF rL 37 [(2, .int (((day - (g_D_firstOfMonth y 1)) / 31) + 1)), (0, .int day), (1, .int y)] [.int v37] (M) 0 0 (.inl (some (.int (g_D_monthOf day y))), M, 0, 0) := by
    intro v37 ev37
    exact jt_iret rfl rfl rfl (jx_oe (by show (some (Value.int _) : Option Value) = some (Value.int _); unfold g_D_monthOf; subst ev37; rfl) rfl)
  refine jt_icmp_ge (t := 36) rfl rfl (fun c1 => ?_) (fun c1 => ?_)
  · refine jt_sgp 1 (pc1 := 37) (lv1 := [(2, .int (((day - (g_D_firstOfMonth y 1)) / 31) + 1)), (0, .int day), (1, .int y)]) (st1 := [.int (((day - (g_D_firstOfMonth y 1)) / 31) + 1)]) rfl ?_
    exact J37_2 _ (by first | (simp only [if_pos c1, reduceIte]; done) | (with_reducible rfl))
  · refine jt_sgp 4 (pc1 := 23) (lv1 := [(2, .int (((day - (g_D_firstOfMonth y 1)) / 31) + 1)), (0, .int day), (1, .int y)]) (st1 := [.int ((((day - (g_D_firstOfMonth y 1)) / 31) + 1) + 1), .int y]) rfl ?_
    refine jt_call (k := 120) (m2 := jp_D_firstOfMonth) (As := [.int y, .int ((((day - (g_D_firstOfMonth y 1)) / 31) + 1) + 1)]) (r := []) (mx := 5) rfl rfl rfl rfl rfl (by omega) (by omega) (Nat.le_of_ble_eq_true rfl) (q_D_firstOfMonth y ((((day - (g_D_firstOfMonth y 1)) / 31) + 1) + 1) M   _ _ (by omega) (by omega)) ?_
    show jt jp_D_monthOf rF rL 26 [(2, .int (((day - (g_D_firstOfMonth y 1)) / 31) + 1)), (0, .int day), (1, .int y)] [.int (g_D_firstOfMonth y ((((day - (g_D_firstOfMonth y 1)) / 31) + 1) + 1))] (M) 0 0 (.inl (some (.int (g_D_monthOf day y))), M, 0, 0)
    refine jt_sgp 1 (pc1 := 27) (lv1 := [(2, .int (((day - (g_D_firstOfMonth y 1)) / 31) + 1)), (0, .int day), (1, .int y)]) (st1 := [.int day, .int (g_D_firstOfMonth y ((((day - (g_D_firstOfMonth y 1)) / 31) + 1) + 1))]) rfl ?_
    refine jt_icmp_gt (t := 36) rfl rfl (fun c3 => ?_) (fun c3 => ?_)
    · refine jt_sgp 1 (pc1 := 37) (lv1 := [(2, .int (((day - (g_D_firstOfMonth y 1)) / 31) + 1)), (0, .int day), (1, .int y)]) (st1 := [.int (((day - (g_D_firstOfMonth y 1)) / 31) + 1)]) rfl ?_
      exact J37_2 _ (by first | (simp only [if_neg c1, if_pos c3, reduceIte]; done) | (with_reducible rfl))
    · refine jt_sgp 4 (pc1 := 37) (lv1 := [(2, .int (((day - (g_D_firstOfMonth y 1)) / 31) + 1)), (0, .int day), (1, .int y)]) (st1 := [.int ((((day - (g_D_firstOfMonth y 1)) / 31) + 1) + 1)]) rfl ?_
      exact J37_2 _ (by first | (simp only [if_neg c1, if_neg c3, reduceIte]; done) | (with_reducible rfl))
