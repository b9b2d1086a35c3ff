def g_D_dayOf (sec : Int64) : Int32 :=
  (g_Math_floorDiv2 sec 86400 : Int64).toInt32
set_option maxRecDepth 20000 in
set_option maxHeartbeats 4000000 in
theorem q_D_dayOf (sec : Int64) (M : jx_H)    (rF rL : Nat) (hfr : 1 ≤ rF) (hlo : 25 ≤ rL) : jt jp_D_dayOf rF rL 0 [(0, .long sec)] [] M 0 0 (.inl (some (.int (g_D_dayOf sec))), M, 0, 0) := by
  refine jt_sgp 2 (pc1 := 4) (lv1 := [(0, .long sec)]) (st1 := [.long 86400, .long sec]) rfl ?_
  refine jt_call (k := 187) (m2 := jp_Math_floorDiv2) (As := [.long sec, .long 86400]) (r := []) (mx := 6) rfl rfl rfl rfl rfl (by omega) (by omega) (Nat.le_of_ble_eq_true rfl) (q_Math_floorDiv2 sec 86400 M  (by first | with_reducible assumption | decide +kernel) _ _ (by omega) (by omega)) ?_
  show jt jp_D_dayOf rF rL 7 [(0, .long sec)] [.long (g_Math_floorDiv2 sec 86400)] (M) 0 0 (.inl (some (.int (g_D_dayOf sec))), M, 0, 0)
  refine jt_sgp 1 (pc1 := 8) (lv1 := [(0, .long sec)]) (st1 := [.int ((g_Math_floorDiv2 sec 86400 : Int64).toInt32)]) rfl ?_
  exact jt_iret rfl rfl rfl (jx_oe (by show (some (Value.int _) : Option Value) = some (Value.int _); unfold g_D_dayOf; rfl) rfl)
def g_D_yearOf (day : Int32) : Int32 :=
  let u17 : Int32 := g_D_firstOfMonth (1970 + (g_Math_floorDiv (day * 400) 146097)) 1
  let u32 : Int32 := g_D_firstOfMonth ((1970 + (g_Math_floorDiv (day * 400) 146097)) + 1) 1
  let v46 : Int32 := if day < u32 then (1970 + (g_Math_floorDiv (day * 400) 146097)) else ((1970 + (g_Math_floorDiv (day * 400) 146097)) + 1)
  if u17 ≤ day then v46 else ((1970 + (g_Math_floorDiv (day * 400) 146097)) - 1)
set_option maxRecDepth 20000 in
set_option maxHeartbeats 4000000 in
theorem q_D_yearOf (day : Int32) (M : jx_H)    (rF rL : Nat) (hfr : 1 ≤ rF) (hlo : 24 ≤ rL) : jt jp_D_yearOf rF rL 0 [(0, .int day)] [] M 0 0 (.inl (some (.int (g_D_yearOf day))), M, 0, 0) := by
  refine jt_sgp 5 (pc1 := 10) (lv1 := [(0, .int day)]) (st1 := [.int 146097, .int (day * 400), .int 1970]) rfl ?_
  refine jt_call (k := 186) (m2 := jp_Math_floorDiv) (As := [.int (day * 400), .int 146097]) (r := [.int 1970]) (mx := 3) rfl rfl rfl rfl rfl (by omega) (by omega) (Nat.le_of_ble_eq_true rfl) (q_Math_floorDiv (day * 400) 146097 M  (by first | with_reducible assumption | decide +kernel) _ _ (by omega) (by omega)) ?_
  show jt jp_D_yearOf rF rL 13 [(0, .int day)] [.int (g_Math_floorDiv (day * 400) 146097), .int 1970] (M) 0 0 (.inl (some (.int (g_D_yearOf day))), M, 0, 0)
  refine jt_sgp 4 (pc1 := 17) (lv1 := [(1, .int (1970 + (g_Math_floorDiv (day * 400) 146097))), (0, .int day)]) (st1 := [.int 1, .int (1970 + (g_Math_floorDiv (day * 400) 146097))]) rfl ?_
  refine jt_call (k := 120) (m2 := jp_D_firstOfMonth) (As := [.int (1970 + (g_Math_floorDiv (day * 400) 146097)), .int 1]) (r := []) (mx := 5) rfl rfl rfl rfl rfl (by omega) (by omega) (Nat.le_of_ble_eq_true rfl) (q_D_firstOfMonth (1970 + (g_Math_floorDiv (day * 400) 146097)) 1 M   _ _ (by omega) (by omega)) ?_
  show jt jp_D_yearOf rF rL 20 [(1, .int (1970 + (g_Math_floorDiv (day * 400) 146097))), (0, .int day)] [.int (g_D_firstOfMonth (1970 + (g_Math_floorDiv (day * 400) 146097)) 1)] (M) 0 0 (.inl (some (.int (g_D_yearOf day))), M, 0, 0)
  obtain ⟨u17, eu17⟩ : ∃ z_ : Int32, z_ = (g_D_firstOfMonth (1970 + (g_Math_floorDiv (day * 400) 146097)) 1) := ⟨_, rfl⟩
  rw [← eu17]
  refine jt_sgp 1 (pc1 := 21) (lv1 := [(1, .int (1970 + (g_Math_floorDiv (day * 400) 146097))), (0, .int day)]) (st1 := [.int day, .int u17]) rfl ?_
  refine jt_icmp_le (t := 28) rfl rfl (fun c1 => ?_) (fun c1 => ?_)
  · refine jt_sgp 4 (pc1 := 32) (lv1 := [(1, .int (1970 + (g_Math_floorDiv (day * 400) 146097))), (0, .int day)]) (st1 := [.int 1, .int ((1970 + (g_Math_floorDiv (day * 400) 146097)) + 1)]) rfl ?_
    refine jt_call (k := 120) (m2 := jp_D_firstOfMonth) (As := [.int ((1970 + (g_Math_floorDiv (day * 400) 146097)) + 1), .int 1]) (r := []) (mx := 5) rfl rfl rfl rfl rfl (by omega) (by omega) (Nat.le_of_ble_eq_true rfl) (q_D_firstOfMonth ((1970 + (g_Math_floorDiv (day * 400) 146097)) + 1) 1 M   _ _ (by omega) (by omega)) ?_
    show jt jp_D_yearOf rF rL 35 [(1, .int (1970 + (g_Math_floorDiv (day * 400) 146097))), (0, .int day)] [.int (g_D_firstOfMonth ((1970 + (g_Math_floorDiv (day * 400) 146097)) + 1) 1)] (M) 0 0 (.inl (some (.int (g_D_yearOf day))), M, 0, 0)
    obtain ⟨u32, eu32⟩ : ∃ z_ : Int32, z_ = (g_D_firstOfMonth ((1970 + (g_Math_floorDiv (day * 400) 146097)) + 1) 1) := ⟨_, rfl⟩
    rw [← eu32]
    refine jt_sgp 1 (pc1 := 36) (lv1 := [(1, .int (1970 + (g_Math_floorDiv (day * 400) 146097))), (0, .int day)]) (st1 := [.int day, .int u32]) rfl ?_
    have J46_3 : ∀ (v46 : Int32), v46 = (if day < u32 then (1970 + (g_Math_floorDiv (day * 400) 146097)) else ((1970 + (g_Math_floorDiv (day * 400) 146097)) + 1) : Int32) → jt jp_D_yearOf rF rL 46 [(1, .int (1970 + (g_Math_floorDiv (day * 400) 146097))), (0, .int day)] [.int v46] (M) 0 0 (.inl (some (.int (g_D_yearOf day))), M, 0, 0) := by
      intro v46 ev46
      exact jt_iret rfl rfl rfl (jx_oe (by show (some (Value.int _) : Option Value) = some (Value.int _); unfold g_D_yearOf; subst ev46; subst eu32; subst eu17; first | (simp only [if_pos c1, reduceIte]; done) | (simp only [if_pos c1, reduceIte]; rfl) | rfl) rfl)
    refine jt_icmp_gt (t := 45) rfl rfl (fun c2 => ?_) (fun c2 => ?_)
    · refine jt_sgp 1 (pc1 := 46) (lv1 := [(1, .int (1970 + (g_Math_floorDiv (day * 400) 146097))), (0, .int day)]) (st1 := [.int (1970 + (g_Math_floorDiv (day * 400) 146097))]) rfl ?_
      exact J46_3 _ (by first | (simp only [if_pos c2, reduceIte]; done) | (with_reducible rfl))
    · refine jt_sgp 4 (pc1 := 46) (lv1 := [(1, .int (1970 + (g_Math_floorDiv (day * 400) 146097))), (0, .int day)]) (st1 := [.int ((1970 + (g_Math_floorDiv (day * 400) 146097)) + 1)]) rfl ?_
      exact J46_3 _ (by first | (simp only [if_neg c2, reduceIte]; done) | (with_reducible rfl))
  · refine jt_sgp 3 (pc1 := 27) (lv1 := [(1, .int (1970 + (g_Math_floorDiv (day * 400) 146097))), (0, .int day)]) (st1 := [.int ((1970 + (g_Math_floorDiv (day * 400) 146097)) - 1)]) rfl ?_
    exact jt_iret rfl rfl rfl (jx_oe (by show (some (Value.int _) : Option Value) = some (Value.int _); unfold g_D_yearOf; subst eu17; first | (simp only [if_neg c1, reduceIte]; done) | (simp only [if_neg c1, reduceIte]; rfl) | rfl) rfl)
