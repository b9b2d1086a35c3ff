section JLW
def jl_out (v : Int64) : Nat × List Value := (103, jx_vl 1 (fun _ => v))
theorem jl_outs (f : Nat → Int64) (v : Int64) : ((103, jx_vl 1 (vp_updL f (0 : Int32).toNatClampNeg v)) : Nat × List Value) = jl_out v := by
  have h : (0 : Int32).toNatClampNeg = 0 := by decide
  rw [h]
  simp [jl_out, jx_vl, vp_updL]
theorem jl_thrown {N : jx_H} {k : Int32} {r : List Value} (h : N[215]? = some (9, .int k :: r)) (rF rL : Nat) : jt jp_M_thrown rF rL 0 [(0, .ref 215)] [] N 0 0 (.inl (some (.int k)), N, 0, 0) := by
  refine jt_sgp 1 (pc1 := 1) (lv1 := [(0, .ref 215)]) (st1 := [.ref 215]) rfl ?_
  refine jt_get rfl h rfl ?_
  exact jt_iret rfl rfl rfl rfl
theorem jl_W_feed_ok {N N1 : jx_H} {fs : List Value} {v : Int32} {w : Int64} {c s : Nat} (p0 : Int32) (p1 : Int32) (p2 : Int32) (p3 : Int32) (p4 : Int32) (rF rL : Nat) (hf : 1 ≤ rF) (hl : 25 ≤ rL) (h24 : N[24]? = some (0, fs)) (hc : jt jp_J_feed (rF - 1) (rL - (6 + 19)) 0 [(0, .ref 24), (1, .int p0), (2, .int p1), (3, .int p2), (4, .int p3), (5, .int p4)] [] N 0 0 (.inl (some (.int v)), N1, c, s)) (ho : N1[453]? = some (jl_out w)) : jt jp_W_feed rF rL 0 [(0, .ref 24), (1, .int p0), (2, .int p1), (3, .int p2), (4, .int p3), (5, .int p4), (6, .ref 453)] [] N 0 0 (.inl (some (.int 0)), N1.set 453 (jl_out v.toInt64), c, s) := by
  refine jt_sgp 8 (pc1 := 11) (lv1 := [(0, .ref 24), (1, .int p0), (2, .int p1), (3, .int p2), (4, .int p3), (5, .int p4), (6, .ref 453)]) (st1 := [.int p4, .int p3, .int p2, .int p1, .int p0, .ref 24, .int 0, .ref 453]) rfl ?_
  refine jt_callv (k := 1) (m2 := jp_J_feed) (As := [.int p0, .int p1, .int p2, .int p3, .int p4]) (b := 24) (r := [.int 0, .ref 453]) (mx := 6) rfl rfl rfl h24 (Nat.le_of_ble_eq_true rfl) rfl rfl rfl hf hl (Nat.le_of_ble_eq_true rfl) hc ?_
  refine jt_sgp 1 (pc1 := 15) (lv1 := [(0, .ref 24), (1, .int p0), (2, .int p1), (3, .int p2), (4, .int p3), (5, .int p4), (6, .ref 453)]) (st1 := [.long v.toInt64, .int 0, .ref 453]) rfl ?_
  refine jt_last rfl ho (by unfold vp_in; decide) (congrArg (N1.set 453) (jl_outs _ _)) ?_
  refine jt_sgp 2 (pc1 := 24) (lv1 := [(0, .ref 24), (1, .int p0), (2, .int p1), (3, .int p2), (4, .int p3), (5, .int p4), (6, .ref 453)]) (st1 := [.int 0]) rfl ?_
  exact jt_iret rfl rfl rfl (by first | rfl | rw [Nat.zero_add, Nat.zero_add])
theorem jl_W_feed_x10 {N N1 : jx_H} {fs : List Value} {a : Nat} {fx : List Value} {c s : Nat} (p0 : Int32) (p1 : Int32) (p2 : Int32) (p3 : Int32) (p4 : Int32) (rF rL : Nat) (hf : 1 ≤ rF) (hl : 25 ≤ rL) (h24 : N[24]? = some (0, fs)) (hc : jt jp_J_feed (rF - 1) (rL - (6 + 19)) 0 [(0, .ref 24), (1, .int p0), (2, .int p1), (3, .int p2), (4, .int p3), (5, .int p4)] [] N 0 0 (.inr a, N1, c, s)) (hx : N1[a]? = some (10, fx)) : jt jp_W_feed rF rL 0 [(0, .ref 24), (1, .int p0), (2, .int p1), (3, .int p2), (4, .int p3), (5, .int p4), (6, .ref 453)] [] N 0 0 (.inl (some (.int 1)), N1, c, s) := by
  refine jt_sgp 8 (pc1 := 11) (lv1 := [(0, .ref 24), (1, .int p0), (2, .int p1), (3, .int p2), (4, .int p3), (5, .int p4), (6, .ref 453)]) (st1 := [.int p4, .int p3, .int p2, .int p1, .int p0, .ref 24, .int 0, .ref 453]) rfl ?_
  refine jt_callCv (ci := 10) (t := 19) (k := 1) (m2 := jp_J_feed) (As := [.int p0, .int p1, .int p2, .int p3, .int p4]) (b := 24) (r := [.int 0, .ref 453]) (mx := 6) rfl rfl rfl h24 (Nat.le_of_ble_eq_true rfl) rfl rfl rfl hf hl (Nat.le_of_ble_eq_true rfl) hc hx rfl rfl ?_
  refine jt_sgp 2 (pc1 := 22) (lv1 := (7, .ref a) :: [(0, .ref 24), (1, .int p0), (2, .int p1), (3, .int p2), (4, .int p3), (5, .int p4), (6, .ref 453)]) (st1 := [.int 1]) rfl ?_
  exact jt_iret rfl rfl rfl (by first | rfl | rw [Nat.zero_add, Nat.zero_add])
theorem jl_W_end_ok {N N1 : jx_H} {fs : List Value} {v : Int32} {w : Int64} {c s : Nat} (p0 : Int32) (rF rL : Nat) (hf : 1 ≤ rF) (hl : 21 ≤ rL) (h24 : N[24]? = some (0, fs)) (hc : jt jp_J_end (rF - 1) (rL - (2 + 19)) 0 [(0, .ref 24), (1, .int p0)] [] N 0 0 (.inl (some (.int v)), N1, c, s)) (ho : N1[453]? = some (jl_out w)) : jt jp_W_end rF rL 0 [(0, .ref 24), (1, .int p0), (2, .ref 453)] [] N 0 0 (.inl (some (.int 0)), N1.set 453 (jl_out v.toInt64), c, s) := by
  refine jt_sgp 4 (pc1 := 4) (lv1 := [(0, .ref 24), (1, .int p0), (2, .ref 453)]) (st1 := [.int p0, .ref 24, .int 0, .ref 453]) rfl ?_
  refine jt_callv (k := 2) (m2 := jp_J_end) (As := [.int p0]) (b := 24) (r := [.int 0, .ref 453]) (mx := 2) rfl rfl rfl h24 (Nat.le_of_ble_eq_true rfl) rfl rfl rfl hf hl (Nat.le_of_ble_eq_true rfl) hc ?_
  refine jt_sgp 1 (pc1 := 8) (lv1 := [(0, .ref 24), (1, .int p0), (2, .ref 453)]) (st1 := [.long v.toInt64, .int 0, .ref 453]) rfl ?_
  refine jt_last rfl ho (by unfold vp_in; decide) (congrArg (N1.set 453) (jl_outs _ _)) ?_
  refine jt_sgp 2 (pc1 := 16) (lv1 := [(0, .ref 24), (1, .int p0), (2, .ref 453)]) (st1 := [.int 0]) rfl ?_
  exact jt_iret rfl rfl rfl (by first | rfl | rw [Nat.zero_add, Nat.zero_add])
theorem jl_W_end_x11 {N N1 : jx_H} {fs : List Value} {a : Nat} {fx : List Value} {c s : Nat} (p0 : Int32) (rF rL : Nat) (hf : 1 ≤ rF) (hl : 21 ≤ rL) (h24 : N[24]? = some (0, fs)) (hc : jt jp_J_end (rF - 1) (rL - (2 + 19)) 0 [(0, .ref 24), (1, .int p0)] [] N 0 0 (.inr a, N1, c, s)) (hx : N1[a]? = some (11, fx)) : jt jp_W_end rF rL 0 [(0, .ref 24), (1, .int p0), (2, .ref 453)] [] N 0 0 (.inl (some (.int 1)), N1, c, s) := by
  refine jt_sgp 4 (pc1 := 4) (lv1 := [(0, .ref 24), (1, .int p0), (2, .ref 453)]) (st1 := [.int p0, .ref 24, .int 0, .ref 453]) rfl ?_
  refine jt_callCv (ci := 11) (t := 12) (k := 2) (m2 := jp_J_end) (As := [.int p0]) (b := 24) (r := [.int 0, .ref 453]) (mx := 2) rfl rfl rfl h24 (Nat.le_of_ble_eq_true rfl) rfl rfl rfl hf hl (Nat.le_of_ble_eq_true rfl) hc hx rfl rfl ?_
  refine jt_sgp 2 (pc1 := 14) (lv1 := (3, .ref a) :: [(0, .ref 24), (1, .int p0), (2, .ref 453)]) (st1 := [.int 1]) rfl ?_
  exact jt_iret rfl rfl rfl (by first | rfl | rw [Nat.zero_add, Nat.zero_add])
theorem jl_W_zone_ok {N N1 : jx_H} {fs : List Value} {c s : Nat} (p0 : Int32) (rF rL : Nat) (hf : 1 ≤ rF) (hl : 22 ≤ rL) (h24 : N[24]? = some (0, fs)) (hc : jt jp_J_zone (rF - 1) (rL - (3 + 19)) 0 [(0, .ref 24), (1, .int p0)] [] N 0 0 (.inl none, N1, c, s)) : jt jp_W_zone rF rL 0 [(0, .ref 24), (1, .int p0)] [] N 0 0 (.inl (some (.int 0)), N1, c, s) := by
  refine jt_sgp 2 (pc1 := 2) (lv1 := [(0, .ref 24), (1, .int p0)]) (st1 := [.int p0, .ref 24]) rfl ?_
  refine jt_callv (k := 3) (m2 := jp_J_zone) (As := [.int p0]) (b := 24) (r := []) (mx := 3) rfl rfl rfl h24 (Nat.le_of_ble_eq_true rfl) rfl rfl rfl hf hl (Nat.le_of_ble_eq_true rfl) hc ?_
  refine jt_sgp 2 (pc1 := 15) (lv1 := [(0, .ref 24), (1, .int p0)]) (st1 := [.int 0]) rfl ?_
  exact jt_iret rfl rfl rfl (by first | rfl | rw [Nat.zero_add, Nat.zero_add])
theorem jl_W_zone_x11 {N N1 : jx_H} {fs : List Value} {a : Nat} {fx : List Value} {c s : Nat} (p0 : Int32) (rF rL : Nat) (hf : 1 ≤ rF) (hl : 22 ≤ rL) (h24 : N[24]? = some (0, fs)) (hc : jt jp_J_zone (rF - 1) (rL - (3 + 19)) 0 [(0, .ref 24), (1, .int p0)] [] N 0 0 (.inr a, N1, c, s)) (hx : N1[a]? = some (11, fx)) : jt jp_W_zone rF rL 0 [(0, .ref 24), (1, .int p0)] [] N 0 0 (.inl (some (.int 1)), N1, c, s) := by
  refine jt_sgp 2 (pc1 := 2) (lv1 := [(0, .ref 24), (1, .int p0)]) (st1 := [.int p0, .ref 24]) rfl ?_
  refine jt_callCv (ci := 11) (t := 8) (k := 3) (m2 := jp_J_zone) (As := [.int p0]) (b := 24) (r := []) (mx := 3) rfl rfl rfl h24 (Nat.le_of_ble_eq_true rfl) rfl rfl rfl hf hl (Nat.le_of_ble_eq_true rfl) hc hx rfl rfl ?_
  refine jt_sgp 2 (pc1 := 10) (lv1 := (2, .ref a) :: [(0, .ref 24), (1, .int p0)]) (st1 := [.int 1]) rfl ?_
  exact jt_iret rfl rfl rfl (by first | rfl | rw [Nat.zero_add, Nat.zero_add])
theorem jl_W_zone_x12 {N N1 : jx_H} {fs : List Value} {a : Nat} {fx : List Value} {c s : Nat} (p0 : Int32) (rF rL : Nat) (hf : 1 ≤ rF) (hl : 22 ≤ rL) (h24 : N[24]? = some (0, fs)) (hc : jt jp_J_zone (rF - 1) (rL - (3 + 19)) 0 [(0, .ref 24), (1, .int p0)] [] N 0 0 (.inr a, N1, c, s)) (hx : N1[a]? = some (12, fx)) : jt jp_W_zone rF rL 0 [(0, .ref 24), (1, .int p0)] [] N 0 0 (.inl (some (.int 2)), N1, c, s) := by
  refine jt_sgp 2 (pc1 := 2) (lv1 := [(0, .ref 24), (1, .int p0)]) (st1 := [.int p0, .ref 24]) rfl ?_
  refine jt_callCv (ci := 12) (t := 11) (k := 3) (m2 := jp_J_zone) (As := [.int p0]) (b := 24) (r := []) (mx := 3) rfl rfl rfl h24 (Nat.le_of_ble_eq_true rfl) rfl rfl rfl hf hl (Nat.le_of_ble_eq_true rfl) hc hx rfl rfl ?_
  refine jt_sgp 2 (pc1 := 13) (lv1 := (2, .ref a) :: [(0, .ref 24), (1, .int p0)]) (st1 := [.int 2]) rfl ?_
  exact jt_iret rfl rfl rfl (by first | rfl | rw [Nat.zero_add, Nat.zero_add])
theorem jl_W_cron_ok {N N1 : jx_H} {fs : List Value} {c s : Nat} (p0 : Int32) (rF rL : Nat) (hf : 1 ≤ rF) (hl : 22 ≤ rL) (h24 : N[24]? = some (0, fs)) (hc : jt jp_J_cron (rF - 1) (rL - (3 + 19)) 0 [(0, .ref 24), (1, .int p0)] [] N 0 0 (.inl none, N1, c, s)) : jt jp_W_cron rF rL 0 [(0, .ref 24), (1, .int p0)] [] N 0 0 (.inl (some (.int 0)), N1, c, s) := by
  refine jt_sgp 2 (pc1 := 2) (lv1 := [(0, .ref 24), (1, .int p0)]) (st1 := [.int p0, .ref 24]) rfl ?_
  refine jt_callv (k := 4) (m2 := jp_J_cron) (As := [.int p0]) (b := 24) (r := []) (mx := 3) rfl rfl rfl h24 (Nat.le_of_ble_eq_true rfl) rfl rfl rfl hf hl (Nat.le_of_ble_eq_true rfl) hc ?_
  refine jt_sgp 2 (pc1 := 15) (lv1 := [(0, .ref 24), (1, .int p0)]) (st1 := [.int 0]) rfl ?_
  exact jt_iret rfl rfl rfl (by first | rfl | rw [Nat.zero_add, Nat.zero_add])
theorem jl_W_cron_x11 {N N1 : jx_H} {fs : List Value} {a : Nat} {fx : List Value} {c s : Nat} (p0 : Int32) (rF rL : Nat) (hf : 1 ≤ rF) (hl : 22 ≤ rL) (h24 : N[24]? = some (0, fs)) (hc : jt jp_J_cron (rF - 1) (rL - (3 + 19)) 0 [(0, .ref 24), (1, .int p0)] [] N 0 0 (.inr a, N1, c, s)) (hx : N1[a]? = some (11, fx)) : jt jp_W_cron rF rL 0 [(0, .ref 24), (1, .int p0)] [] N 0 0 (.inl (some (.int 1)), N1, c, s) := by
  refine jt_sgp 2 (pc1 := 2) (lv1 := [(0, .ref 24), (1, .int p0)]) (st1 := [.int p0, .ref 24]) rfl ?_
  refine jt_callCv (ci := 11) (t := 8) (k := 4) (m2 := jp_J_cron) (As := [.int p0]) (b := 24) (r := []) (mx := 3) rfl rfl rfl h24 (Nat.le_of_ble_eq_true rfl) rfl rfl rfl hf hl (Nat.le_of_ble_eq_true rfl) hc hx rfl rfl ?_
  refine jt_sgp 2 (pc1 := 10) (lv1 := (2, .ref a) :: [(0, .ref 24), (1, .int p0)]) (st1 := [.int 1]) rfl ?_
  exact jt_iret rfl rfl rfl (by first | rfl | rw [Nat.zero_add, Nat.zero_add])
theorem jl_W_cron_x12 {N N1 : jx_H} {fs : List Value} {a : Nat} {fx : List Value} {c s : Nat} (p0 : Int32) (rF rL : Nat) (hf : 1 ≤ rF) (hl : 22 ≤ rL) (h24 : N[24]? = some (0, fs)) (hc : jt jp_J_cron (rF - 1) (rL - (3 + 19)) 0 [(0, .ref 24), (1, .int p0)] [] N 0 0 (.inr a, N1, c, s)) (hx : N1[a]? = some (12, fx)) : jt jp_W_cron rF rL 0 [(0, .ref 24), (1, .int p0)] [] N 0 0 (.inl (some (.int 2)), N1, c, s) := by
  refine jt_sgp 2 (pc1 := 2) (lv1 := [(0, .ref 24), (1, .int p0)]) (st1 := [.int p0, .ref 24]) rfl ?_
  refine jt_callCv (ci := 12) (t := 11) (k := 4) (m2 := jp_J_cron) (As := [.int p0]) (b := 24) (r := []) (mx := 3) rfl rfl rfl h24 (Nat.le_of_ble_eq_true rfl) rfl rfl rfl hf hl (Nat.le_of_ble_eq_true rfl) hc hx rfl rfl ?_
  refine jt_sgp 2 (pc1 := 13) (lv1 := (2, .ref a) :: [(0, .ref 24), (1, .int p0)]) (st1 := [.int 2]) rfl ?_
  exact jt_iret rfl rfl rfl (by first | rfl | rw [Nat.zero_add, Nat.zero_add])
theorem jl_W_holiday_ok {N N1 : jx_H} {fs : List Value} {v : Int32} {w : Int64} {c s : Nat} (p0 : Int32) (p1 : Int32) (p2 : Int32) (rF rL : Nat) (hf : 1 ≤ rF) (hl : 25 ≤ rL) (h24 : N[24]? = some (0, fs)) (hc : jt jp_J_holiday (rF - 1) (rL - (6 + 19)) 0 [(0, .ref 24), (1, .int p0), (2, .int p1), (3, .int p2)] [] N 0 0 (.inl (some (.int v)), N1, c, s)) (ho : N1[453]? = some (jl_out w)) : jt jp_W_holiday rF rL 0 [(0, .ref 24), (1, .int p0), (2, .int p1), (3, .int p2), (4, .ref 453)] [] N 0 0 (.inl (some (.int 0)), N1.set 453 (jl_out v.toInt64), c, s) := by
  refine jt_sgp 6 (pc1 := 7) (lv1 := [(0, .ref 24), (1, .int p0), (2, .int p1), (3, .int p2), (4, .ref 453)]) (st1 := [.int p2, .int p1, .int p0, .ref 24, .int 0, .ref 453]) rfl ?_
  refine jt_callv (k := 5) (m2 := jp_J_holiday) (As := [.int p0, .int p1, .int p2]) (b := 24) (r := [.int 0, .ref 453]) (mx := 6) rfl rfl rfl h24 (Nat.le_of_ble_eq_true rfl) rfl rfl rfl hf hl (Nat.le_of_ble_eq_true rfl) hc ?_
  refine jt_sgp 1 (pc1 := 11) (lv1 := [(0, .ref 24), (1, .int p0), (2, .int p1), (3, .int p2), (4, .ref 453)]) (st1 := [.long v.toInt64, .int 0, .ref 453]) rfl ?_
  refine jt_last rfl ho (by unfold vp_in; decide) (congrArg (N1.set 453) (jl_outs _ _)) ?_
  refine jt_sgp 2 (pc1 := 24) (lv1 := [(0, .ref 24), (1, .int p0), (2, .int p1), (3, .int p2), (4, .ref 453)]) (st1 := [.int 0]) rfl ?_
  exact jt_iret rfl rfl rfl (by first | rfl | rw [Nat.zero_add, Nat.zero_add])
theorem jl_W_holiday_x11 {N N1 : jx_H} {fs : List Value} {a : Nat} {fx : List Value} {c s : Nat} (p0 : Int32) (p1 : Int32) (p2 : Int32) (rF rL : Nat) (hf : 1 ≤ rF) (hl : 25 ≤ rL) (h24 : N[24]? = some (0, fs)) (hc : jt jp_J_holiday (rF - 1) (rL - (6 + 19)) 0 [(0, .ref 24), (1, .int p0), (2, .int p1), (3, .int p2)] [] N 0 0 (.inr a, N1, c, s)) (hx : N1[a]? = some (11, fx)) : jt jp_W_holiday rF rL 0 [(0, .ref 24), (1, .int p0), (2, .int p1), (3, .int p2), (4, .ref 453)] [] N 0 0 (.inl (some (.int 1)), N1, c, s) := by
  refine jt_sgp 6 (pc1 := 7) (lv1 := [(0, .ref 24), (1, .int p0), (2, .int p1), (3, .int p2), (4, .ref 453)]) (st1 := [.int p2, .int p1, .int p0, .ref 24, .int 0, .ref 453]) rfl ?_
  refine jt_callCv (ci := 11) (t := 15) (k := 5) (m2 := jp_J_holiday) (As := [.int p0, .int p1, .int p2]) (b := 24) (r := [.int 0, .ref 453]) (mx := 6) rfl rfl rfl h24 (Nat.le_of_ble_eq_true rfl) rfl rfl rfl hf hl (Nat.le_of_ble_eq_true rfl) hc hx rfl rfl ?_
  refine jt_sgp 2 (pc1 := 18) (lv1 := (5, .ref a) :: [(0, .ref 24), (1, .int p0), (2, .int p1), (3, .int p2), (4, .ref 453)]) (st1 := [.int 1]) rfl ?_
  exact jt_iret rfl rfl rfl (by first | rfl | rw [Nat.zero_add, Nat.zero_add])
theorem jl_W_holiday_x10 {N N1 : jx_H} {fs : List Value} {a : Nat} {fx : List Value} {c s : Nat} (p0 : Int32) (p1 : Int32) (p2 : Int32) (rF rL : Nat) (hf : 1 ≤ rF) (hl : 25 ≤ rL) (h24 : N[24]? = some (0, fs)) (hc : jt jp_J_holiday (rF - 1) (rL - (6 + 19)) 0 [(0, .ref 24), (1, .int p0), (2, .int p1), (3, .int p2)] [] N 0 0 (.inr a, N1, c, s)) (hx : N1[a]? = some (10, fx)) : jt jp_W_holiday rF rL 0 [(0, .ref 24), (1, .int p0), (2, .int p1), (3, .int p2), (4, .ref 453)] [] N 0 0 (.inl (some (.int 2)), N1, c, s) := by
  refine jt_sgp 6 (pc1 := 7) (lv1 := [(0, .ref 24), (1, .int p0), (2, .int p1), (3, .int p2), (4, .ref 453)]) (st1 := [.int p2, .int p1, .int p0, .ref 24, .int 0, .ref 453]) rfl ?_
  refine jt_callCv (ci := 10) (t := 19) (k := 5) (m2 := jp_J_holiday) (As := [.int p0, .int p1, .int p2]) (b := 24) (r := [.int 0, .ref 453]) (mx := 6) rfl rfl rfl h24 (Nat.le_of_ble_eq_true rfl) rfl rfl rfl hf hl (Nat.le_of_ble_eq_true rfl) hc hx rfl rfl ?_
  refine jt_sgp 2 (pc1 := 22) (lv1 := (5, .ref a) :: [(0, .ref 24), (1, .int p0), (2, .int p1), (3, .int p2), (4, .ref 453)]) (st1 := [.int 2]) rfl ?_
  exact jt_iret rfl rfl rfl (by first | rfl | rw [Nat.zero_add, Nat.zero_add])
theorem jl_W_next_ok {N N1 : jx_H} {fs : List Value} {v : Int64} {w : Int64} {c s : Nat} (p0 : Int32) (p1 : Int32) (p2 : Int32) (p3 : Int64) (rF rL : Nat) (hf : 1 ≤ rF) (hl : 25 ≤ rL) (h24 : N[24]? = some (0, fs)) (hc : jt jp_J_next (rF - 1) (rL - (6 + 19)) 0 [(0, .ref 24), (1, .int p0), (2, .int p1), (3, .int p2), (4, .long p3)] [] N 0 0 (.inl (some (.long v)), N1, c, s)) (ho : N1[453]? = some (jl_out w)) : jt jp_W_next rF rL 0 [(0, .ref 24), (1, .int p0), (2, .int p1), (3, .int p2), (4, .long p3), (6, .ref 453)] [] N 0 0 (.inl (some (.int 0)), N1.set 453 (jl_out v), c, s) := by
  refine jt_sgp 7 (pc1 := 9) (lv1 := [(0, .ref 24), (1, .int p0), (2, .int p1), (3, .int p2), (4, .long p3), (6, .ref 453)]) (st1 := [.long p3, .int p2, .int p1, .int p0, .ref 24, .int 0, .ref 453]) rfl ?_
  refine jt_callv (k := 6) (m2 := jp_J_next) (As := [.int p0, .int p1, .int p2, .long p3]) (b := 24) (r := [.int 0, .ref 453]) (mx := 6) rfl rfl rfl h24 (Nat.le_of_ble_eq_true rfl) rfl rfl rfl hf hl (Nat.le_of_ble_eq_true rfl) hc ?_
  refine jt_last rfl ho (by unfold vp_in; decide) (congrArg (N1.set 453) (jl_outs _ _)) ?_
  refine jt_sgp 2 (pc1 := 21) (lv1 := [(0, .ref 24), (1, .int p0), (2, .int p1), (3, .int p2), (4, .long p3), (6, .ref 453)]) (st1 := [.int 0]) rfl ?_
  exact jt_iret rfl rfl rfl (by first | rfl | rw [Nat.zero_add, Nat.zero_add])
theorem jl_W_next_x11 {N N1 : jx_H} {fs : List Value} {a : Nat} {fx : List Value} {c s : Nat} (p0 : Int32) (p1 : Int32) (p2 : Int32) (p3 : Int64) (rF rL : Nat) (hf : 1 ≤ rF) (hl : 25 ≤ rL) (h24 : N[24]? = some (0, fs)) (hc : jt jp_J_next (rF - 1) (rL - (6 + 19)) 0 [(0, .ref 24), (1, .int p0), (2, .int p1), (3, .int p2), (4, .long p3)] [] N 0 0 (.inr a, N1, c, s)) (hx : N1[a]? = some (11, fx)) : jt jp_W_next rF rL 0 [(0, .ref 24), (1, .int p0), (2, .int p1), (3, .int p2), (4, .long p3), (6, .ref 453)] [] N 0 0 (.inl (some (.int 1)), N1, c, s) := by
  refine jt_sgp 7 (pc1 := 9) (lv1 := [(0, .ref 24), (1, .int p0), (2, .int p1), (3, .int p2), (4, .long p3), (6, .ref 453)]) (st1 := [.long p3, .int p2, .int p1, .int p0, .ref 24, .int 0, .ref 453]) rfl ?_
  refine jt_callCv (ci := 11) (t := 16) (k := 6) (m2 := jp_J_next) (As := [.int p0, .int p1, .int p2, .long p3]) (b := 24) (r := [.int 0, .ref 453]) (mx := 6) rfl rfl rfl h24 (Nat.le_of_ble_eq_true rfl) rfl rfl rfl hf hl (Nat.le_of_ble_eq_true rfl) hc hx rfl rfl ?_
  refine jt_sgp 2 (pc1 := 19) (lv1 := (7, .ref a) :: [(0, .ref 24), (1, .int p0), (2, .int p1), (3, .int p2), (4, .long p3), (6, .ref 453)]) (st1 := [.int 1]) rfl ?_
  exact jt_iret rfl rfl rfl (by first | rfl | rw [Nat.zero_add, Nat.zero_add])
theorem jl_W_last_ok {N N1 : jx_H} {fs : List Value} {v : Int64} {w : Int64} {c s : Nat} (p0 : Int32) (p1 : Int32) (p2 : Int32) (p3 : Int64) (rF rL : Nat) (hf : 1 ≤ rF) (hl : 25 ≤ rL) (h24 : N[24]? = some (0, fs)) (hc : jt jp_J_last (rF - 1) (rL - (6 + 19)) 0 [(0, .ref 24), (1, .int p0), (2, .int p1), (3, .int p2), (4, .long p3)] [] N 0 0 (.inl (some (.long v)), N1, c, s)) (ho : N1[453]? = some (jl_out w)) : jt jp_W_last rF rL 0 [(0, .ref 24), (1, .int p0), (2, .int p1), (3, .int p2), (4, .long p3), (6, .ref 453)] [] N 0 0 (.inl (some (.int 0)), N1.set 453 (jl_out v), c, s) := by
  refine jt_sgp 7 (pc1 := 9) (lv1 := [(0, .ref 24), (1, .int p0), (2, .int p1), (3, .int p2), (4, .long p3), (6, .ref 453)]) (st1 := [.long p3, .int p2, .int p1, .int p0, .ref 24, .int 0, .ref 453]) rfl ?_
  refine jt_callv (k := 7) (m2 := jp_J_last) (As := [.int p0, .int p1, .int p2, .long p3]) (b := 24) (r := [.int 0, .ref 453]) (mx := 6) rfl rfl rfl h24 (Nat.le_of_ble_eq_true rfl) rfl rfl rfl hf hl (Nat.le_of_ble_eq_true rfl) hc ?_
  refine jt_last rfl ho (by unfold vp_in; decide) (congrArg (N1.set 453) (jl_outs _ _)) ?_
  refine jt_sgp 2 (pc1 := 21) (lv1 := [(0, .ref 24), (1, .int p0), (2, .int p1), (3, .int p2), (4, .long p3), (6, .ref 453)]) (st1 := [.int 0]) rfl ?_
  exact jt_iret rfl rfl rfl (by first | rfl | rw [Nat.zero_add, Nat.zero_add])
theorem jl_W_last_x11 {N N1 : jx_H} {fs : List Value} {a : Nat} {fx : List Value} {c s : Nat} (p0 : Int32) (p1 : Int32) (p2 : Int32) (p3 : Int64) (rF rL : Nat) (hf : 1 ≤ rF) (hl : 25 ≤ rL) (h24 : N[24]? = some (0, fs)) (hc : jt jp_J_last (rF - 1) (rL - (6 + 19)) 0 [(0, .ref 24), (1, .int p0), (2, .int p1), (3, .int p2), (4, .long p3)] [] N 0 0 (.inr a, N1, c, s)) (hx : N1[a]? = some (11, fx)) : jt jp_W_last rF rL 0 [(0, .ref 24), (1, .int p0), (2, .int p1), (3, .int p2), (4, .long p3), (6, .ref 453)] [] N 0 0 (.inl (some (.int 1)), N1, c, s) := by
  refine jt_sgp 7 (pc1 := 9) (lv1 := [(0, .ref 24), (1, .int p0), (2, .int p1), (3, .int p2), (4, .long p3), (6, .ref 453)]) (st1 := [.long p3, .int p2, .int p1, .int p0, .ref 24, .int 0, .ref 453]) rfl ?_
  refine jt_callCv (ci := 11) (t := 16) (k := 7) (m2 := jp_J_last) (As := [.int p0, .int p1, .int p2, .long p3]) (b := 24) (r := [.int 0, .ref 453]) (mx := 6) rfl rfl rfl h24 (Nat.le_of_ble_eq_true rfl) rfl rfl rfl hf hl (Nat.le_of_ble_eq_true rfl) hc hx rfl rfl ?_
  refine jt_sgp 2 (pc1 := 19) (lv1 := (7, .ref a) :: [(0, .ref 24), (1, .int p0), (2, .int p1), (3, .int p2), (4, .long p3), (6, .ref 453)]) (st1 := [.int 1]) rfl ?_
  exact jt_iret rfl rfl rfl (by first | rfl | rw [Nat.zero_add, Nat.zero_add])
theorem jl_W_local_ok {N N1 : jx_H} {fs : List Value} {v : Int32} {w : Int64} {c s : Nat} (p0 : Int32) (p1 : Int64) (p2 : Int32) (rF rL : Nat) (hf : 1 ≤ rF) (hl : 31 ≤ rL) (h24 : N[24]? = some (0, fs)) (hc : jt jp_J_local (rF - 1) (rL - (12 + 19)) 0 [(0, .ref 24), (1, .int p0), (2, .long p1), (4, .int p2)] [] N 0 0 (.inl (some (.int v)), N1, c, s)) (ho : N1[453]? = some (jl_out w)) : jt jp_W_local rF rL 0 [(0, .ref 24), (1, .int p0), (2, .long p1), (4, .int p2), (5, .ref 453)] [] N 0 0 (.inl (some (.int 0)), N1.set 453 (jl_out v.toInt64), c, s) := by
  refine jt_sgp 6 (pc1 := 8) (lv1 := [(0, .ref 24), (1, .int p0), (2, .long p1), (4, .int p2), (5, .ref 453)]) (st1 := [.int p2, .long p1, .int p0, .ref 24, .int 0, .ref 453]) rfl ?_
  refine jt_callv (k := 8) (m2 := jp_J_local) (As := [.int p0, .long p1, .int p2]) (b := 24) (r := [.int 0, .ref 453]) (mx := 12) rfl rfl rfl h24 (Nat.le_of_ble_eq_true rfl) rfl rfl rfl hf hl (Nat.le_of_ble_eq_true rfl) hc ?_
  refine jt_sgp 1 (pc1 := 12) (lv1 := [(0, .ref 24), (1, .int p0), (2, .long p1), (4, .int p2), (5, .ref 453)]) (st1 := [.long v.toInt64, .int 0, .ref 453]) rfl ?_
  refine jt_last rfl ho (by unfold vp_in; decide) (congrArg (N1.set 453) (jl_outs _ _)) ?_
  refine jt_sgp 2 (pc1 := 21) (lv1 := [(0, .ref 24), (1, .int p0), (2, .long p1), (4, .int p2), (5, .ref 453)]) (st1 := [.int 0]) rfl ?_
  exact jt_iret rfl rfl rfl (by first | rfl | rw [Nat.zero_add, Nat.zero_add])
theorem jl_W_local_x11 {N N1 : jx_H} {fs : List Value} {a : Nat} {fx : List Value} {c s : Nat} (p0 : Int32) (p1 : Int64) (p2 : Int32) (rF rL : Nat) (hf : 1 ≤ rF) (hl : 31 ≤ rL) (h24 : N[24]? = some (0, fs)) (hc : jt jp_J_local (rF - 1) (rL - (12 + 19)) 0 [(0, .ref 24), (1, .int p0), (2, .long p1), (4, .int p2)] [] N 0 0 (.inr a, N1, c, s)) (hx : N1[a]? = some (11, fx)) : jt jp_W_local rF rL 0 [(0, .ref 24), (1, .int p0), (2, .long p1), (4, .int p2), (5, .ref 453)] [] N 0 0 (.inl (some (.int 1)), N1, c, s) := by
  refine jt_sgp 6 (pc1 := 8) (lv1 := [(0, .ref 24), (1, .int p0), (2, .long p1), (4, .int p2), (5, .ref 453)]) (st1 := [.int p2, .long p1, .int p0, .ref 24, .int 0, .ref 453]) rfl ?_
  refine jt_callCv (ci := 11) (t := 16) (k := 8) (m2 := jp_J_local) (As := [.int p0, .long p1, .int p2]) (b := 24) (r := [.int 0, .ref 453]) (mx := 12) rfl rfl rfl h24 (Nat.le_of_ble_eq_true rfl) rfl rfl rfl hf hl (Nat.le_of_ble_eq_true rfl) hc hx rfl rfl ?_
  refine jt_sgp 2 (pc1 := 19) (lv1 := (6, .ref a) :: [(0, .ref 24), (1, .int p0), (2, .long p1), (4, .int p2), (5, .ref 453)]) (st1 := [.int 1]) rfl ?_
  exact jt_iret rfl rfl rfl (by first | rfl | rw [Nat.zero_add, Nat.zero_add])
theorem jl_W_make_ok {N N1 : jx_H} {fs : List Value} {v : Int32} {w : Int64} {c s : Nat} (p0 : Int32) (p1 : Int64) (p2 : Int64) (p3 : Int64) (p4 : Int32) (p5 : Int32) (p6 : Int32) (rF rL : Nat) (hf : 1 ≤ rF) (hl : 32 ≤ rL) (h24 : N[24]? = some (0, fs)) (hc : jt jp_J_make (rF - 1) (rL - (13 + 19)) 0 [(0, .ref 24), (1, .int p0), (2, .long p1), (4, .long p2), (6, .long p3), (8, .int p4), (9, .int p5), (10, .int p6)] [] N 0 0 (.inl (some (.int v)), N1, c, s)) (ho : N1[453]? = some (jl_out w)) : jt jp_W_make rF rL 0 [(0, .ref 24), (1, .int p0), (2, .long p1), (4, .long p2), (6, .long p3), (8, .int p4), (9, .int p5), (10, .int p6), (11, .ref 453)] [] N 0 0 (.inl (some (.int 0)), N1.set 453 (jl_out v.toInt64), c, s) := by
  refine jt_sgp 10 (pc1 := 16) (lv1 := [(0, .ref 24), (1, .int p0), (2, .long p1), (4, .long p2), (6, .long p3), (8, .int p4), (9, .int p5), (10, .int p6), (11, .ref 453)]) (st1 := [.int p6, .int p5, .int p4, .long p3, .long p2, .long p1, .int p0, .ref 24, .int 0, .ref 453]) rfl ?_
  refine jt_callv (k := 9) (m2 := jp_J_make) (As := [.int p0, .long p1, .long p2, .long p3, .int p4, .int p5, .int p6]) (b := 24) (r := [.int 0, .ref 453]) (mx := 13) rfl rfl rfl h24 (Nat.le_of_ble_eq_true rfl) rfl rfl rfl hf hl (Nat.le_of_ble_eq_true rfl) hc ?_
  refine jt_sgp 1 (pc1 := 20) (lv1 := [(0, .ref 24), (1, .int p0), (2, .long p1), (4, .long p2), (6, .long p3), (8, .int p4), (9, .int p5), (10, .int p6), (11, .ref 453)]) (st1 := [.long v.toInt64, .int 0, .ref 453]) rfl ?_
  refine jt_last rfl ho (by unfold vp_in; decide) (congrArg (N1.set 453) (jl_outs _ _)) ?_
  refine jt_sgp 2 (pc1 := 37) (lv1 := [(0, .ref 24), (1, .int p0), (2, .long p1), (4, .long p2), (6, .long p3), (8, .int p4), (9, .int p5), (10, .int p6), (11, .ref 453)]) (st1 := [.int 0]) rfl ?_
  exact jt_iret rfl rfl rfl (by first | rfl | rw [Nat.zero_add, Nat.zero_add])
theorem jl_W_make_x11 {N N1 : jx_H} {fs : List Value} {a : Nat} {fx : List Value} {c s : Nat} (p0 : Int32) (p1 : Int64) (p2 : Int64) (p3 : Int64) (p4 : Int32) (p5 : Int32) (p6 : Int32) (rF rL : Nat) (hf : 1 ≤ rF) (hl : 32 ≤ rL) (h24 : N[24]? = some (0, fs)) (hc : jt jp_J_make (rF - 1) (rL - (13 + 19)) 0 [(0, .ref 24), (1, .int p0), (2, .long p1), (4, .long p2), (6, .long p3), (8, .int p4), (9, .int p5), (10, .int p6)] [] N 0 0 (.inr a, N1, c, s)) (hx : N1[a]? = some (11, fx)) : jt jp_W_make rF rL 0 [(0, .ref 24), (1, .int p0), (2, .long p1), (4, .long p2), (6, .long p3), (8, .int p4), (9, .int p5), (10, .int p6), (11, .ref 453)] [] N 0 0 (.inl (some (.int 1)), N1, c, s) := by
  refine jt_sgp 10 (pc1 := 16) (lv1 := [(0, .ref 24), (1, .int p0), (2, .long p1), (4, .long p2), (6, .long p3), (8, .int p4), (9, .int p5), (10, .int p6), (11, .ref 453)]) (st1 := [.int p6, .int p5, .int p4, .long p3, .long p2, .long p1, .int p0, .ref 24, .int 0, .ref 453]) rfl ?_
  refine jt_callCv (ci := 11) (t := 24) (k := 9) (m2 := jp_J_make) (As := [.int p0, .long p1, .long p2, .long p3, .int p4, .int p5, .int p6]) (b := 24) (r := [.int 0, .ref 453]) (mx := 13) rfl rfl rfl h24 (Nat.le_of_ble_eq_true rfl) rfl rfl rfl hf hl (Nat.le_of_ble_eq_true rfl) hc hx rfl rfl ?_
  refine jt_sgp 2 (pc1 := 27) (lv1 := (12, .ref a) :: [(0, .ref 24), (1, .int p0), (2, .long p1), (4, .long p2), (6, .long p3), (8, .int p4), (9, .int p5), (10, .int p6), (11, .ref 453)]) (st1 := [.int 1]) rfl ?_
  exact jt_iret rfl rfl rfl (by first | rfl | rw [Nat.zero_add, Nat.zero_add])
theorem jl_W_make_x13 {N N1 : jx_H} {fs : List Value} {a : Nat} {fx : List Value} {c s : Nat} (p0 : Int32) (p1 : Int64) (p2 : Int64) (p3 : Int64) (p4 : Int32) (p5 : Int32) (p6 : Int32) (rF rL : Nat) (hf : 1 ≤ rF) (hl : 32 ≤ rL) (h24 : N[24]? = some (0, fs)) (hc : jt jp_J_make (rF - 1) (rL - (13 + 19)) 0 [(0, .ref 24), (1, .int p0), (2, .long p1), (4, .long p2), (6, .long p3), (8, .int p4), (9, .int p5), (10, .int p6)] [] N 0 0 (.inr a, N1, c, s)) (hx : N1[a]? = some (13, fx)) : jt jp_W_make rF rL 0 [(0, .ref 24), (1, .int p0), (2, .long p1), (4, .long p2), (6, .long p3), (8, .int p4), (9, .int p5), (10, .int p6), (11, .ref 453)] [] N 0 0 (.inl (some (.int 2)), N1, c, s) := by
  refine jt_sgp 10 (pc1 := 16) (lv1 := [(0, .ref 24), (1, .int p0), (2, .long p1), (4, .long p2), (6, .long p3), (8, .int p4), (9, .int p5), (10, .int p6), (11, .ref 453)]) (st1 := [.int p6, .int p5, .int p4, .long p3, .long p2, .long p1, .int p0, .ref 24, .int 0, .ref 453]) rfl ?_
  refine jt_callCv (ci := 13) (t := 28) (k := 9) (m2 := jp_J_make) (As := [.int p0, .long p1, .long p2, .long p3, .int p4, .int p5, .int p6]) (b := 24) (r := [.int 0, .ref 453]) (mx := 13) rfl rfl rfl h24 (Nat.le_of_ble_eq_true rfl) rfl rfl rfl hf hl (Nat.le_of_ble_eq_true rfl) hc hx rfl rfl ?_
  refine jt_sgp 2 (pc1 := 31) (lv1 := (12, .ref a) :: [(0, .ref 24), (1, .int p0), (2, .long p1), (4, .long p2), (6, .long p3), (8, .int p4), (9, .int p5), (10, .int p6), (11, .ref 453)]) (st1 := [.int 2]) rfl ?_
  exact jt_iret rfl rfl rfl (by first | rfl | rw [Nat.zero_add, Nat.zero_add])
theorem jl_W_make_x10 {N N1 : jx_H} {fs : List Value} {a : Nat} {fx : List Value} {c s : Nat} (p0 : Int32) (p1 : Int64) (p2 : Int64) (p3 : Int64) (p4 : Int32) (p5 : Int32) (p6 : Int32) (rF rL : Nat) (hf : 1 ≤ rF) (hl : 32 ≤ rL) (h24 : N[24]? = some (0, fs)) (hc : jt jp_J_make (rF - 1) (rL - (13 + 19)) 0 [(0, .ref 24), (1, .int p0), (2, .long p1), (4, .long p2), (6, .long p3), (8, .int p4), (9, .int p5), (10, .int p6)] [] N 0 0 (.inr a, N1, c, s)) (hx : N1[a]? = some (10, fx)) : jt jp_W_make rF rL 0 [(0, .ref 24), (1, .int p0), (2, .long p1), (4, .long p2), (6, .long p3), (8, .int p4), (9, .int p5), (10, .int p6), (11, .ref 453)] [] N 0 0 (.inl (some (.int 3)), N1, c, s) := by
  refine jt_sgp 10 (pc1 := 16) (lv1 := [(0, .ref 24), (1, .int p0), (2, .long p1), (4, .long p2), (6, .long p3), (8, .int p4), (9, .int p5), (10, .int p6), (11, .ref 453)]) (st1 := [.int p6, .int p5, .int p4, .long p3, .long p2, .long p1, .int p0, .ref 24, .int 0, .ref 453]) rfl ?_
  refine jt_callCv (ci := 10) (t := 32) (k := 9) (m2 := jp_J_make) (As := [.int p0, .long p1, .long p2, .long p3, .int p4, .int p5, .int p6]) (b := 24) (r := [.int 0, .ref 453]) (mx := 13) rfl rfl rfl h24 (Nat.le_of_ble_eq_true rfl) rfl rfl rfl hf hl (Nat.le_of_ble_eq_true rfl) hc hx rfl rfl ?_
  refine jt_sgp 2 (pc1 := 35) (lv1 := (12, .ref a) :: [(0, .ref 24), (1, .int p0), (2, .long p1), (4, .long p2), (6, .long p3), (8, .int p4), (9, .int p5), (10, .int p6), (11, .ref 453)]) (st1 := [.int 3]) rfl ?_
  exact jt_iret rfl rfl rfl (by first | rfl | rw [Nat.zero_add, Nat.zero_add])
theorem jl_W_makeCron_ok {N N1 : jx_H} {fs : List Value} {v : Int32} {w : Int64} {c s : Nat} (p0 : Int32) (p1 : Int32) (p2 : Int32) (p3 : Int64) (p4 : Int32) (p5 : Int32) (p6 : Int32) (rF rL : Nat) (hf : 1 ≤ rF) (hl : 32 ≤ rL) (h24 : N[24]? = some (0, fs)) (hc : jt jp_J_makeCron (rF - 1) (rL - (13 + 19)) 0 [(0, .ref 24), (1, .int p0), (2, .int p1), (3, .int p2), (4, .long p3), (6, .int p4), (7, .int p5), (8, .int p6)] [] N 0 0 (.inl (some (.int v)), N1, c, s)) (ho : N1[453]? = some (jl_out w)) : jt jp_W_makeCron rF rL 0 [(0, .ref 24), (1, .int p0), (2, .int p1), (3, .int p2), (4, .long p3), (6, .int p4), (7, .int p5), (8, .int p6), (9, .ref 453)] [] N 0 0 (.inl (some (.int 0)), N1.set 453 (jl_out v.toInt64), c, s) := by
  refine jt_sgp 10 (pc1 := 15) (lv1 := [(0, .ref 24), (1, .int p0), (2, .int p1), (3, .int p2), (4, .long p3), (6, .int p4), (7, .int p5), (8, .int p6), (9, .ref 453)]) (st1 := [.int p6, .int p5, .int p4, .long p3, .int p2, .int p1, .int p0, .ref 24, .int 0, .ref 453]) rfl ?_
  refine jt_callv (k := 10) (m2 := jp_J_makeCron) (As := [.int p0, .int p1, .int p2, .long p3, .int p4, .int p5, .int p6]) (b := 24) (r := [.int 0, .ref 453]) (mx := 13) rfl rfl rfl h24 (Nat.le_of_ble_eq_true rfl) rfl rfl rfl hf hl (Nat.le_of_ble_eq_true rfl) hc ?_
  refine jt_sgp 1 (pc1 := 19) (lv1 := [(0, .ref 24), (1, .int p0), (2, .int p1), (3, .int p2), (4, .long p3), (6, .int p4), (7, .int p5), (8, .int p6), (9, .ref 453)]) (st1 := [.long v.toInt64, .int 0, .ref 453]) rfl ?_
  refine jt_last rfl ho (by unfold vp_in; decide) (congrArg (N1.set 453) (jl_outs _ _)) ?_
  refine jt_sgp 2 (pc1 := 40) (lv1 := [(0, .ref 24), (1, .int p0), (2, .int p1), (3, .int p2), (4, .long p3), (6, .int p4), (7, .int p5), (8, .int p6), (9, .ref 453)]) (st1 := [.int 0]) rfl ?_
  exact jt_iret rfl rfl rfl (by first | rfl | rw [Nat.zero_add, Nat.zero_add])
theorem jl_W_makeCron_x11 {N N1 : jx_H} {fs : List Value} {a : Nat} {fx : List Value} {c s : Nat} (p0 : Int32) (p1 : Int32) (p2 : Int32) (p3 : Int64) (p4 : Int32) (p5 : Int32) (p6 : Int32) (rF rL : Nat) (hf : 1 ≤ rF) (hl : 32 ≤ rL) (h24 : N[24]? = some (0, fs)) (hc : jt jp_J_makeCron (rF - 1) (rL - (13 + 19)) 0 [(0, .ref 24), (1, .int p0), (2, .int p1), (3, .int p2), (4, .long p3), (6, .int p4), (7, .int p5), (8, .int p6)] [] N 0 0 (.inr a, N1, c, s)) (hx : N1[a]? = some (11, fx)) : jt jp_W_makeCron rF rL 0 [(0, .ref 24), (1, .int p0), (2, .int p1), (3, .int p2), (4, .long p3), (6, .int p4), (7, .int p5), (8, .int p6), (9, .ref 453)] [] N 0 0 (.inl (some (.int 1)), N1, c, s) := by
  refine jt_sgp 10 (pc1 := 15) (lv1 := [(0, .ref 24), (1, .int p0), (2, .int p1), (3, .int p2), (4, .long p3), (6, .int p4), (7, .int p5), (8, .int p6), (9, .ref 453)]) (st1 := [.int p6, .int p5, .int p4, .long p3, .int p2, .int p1, .int p0, .ref 24, .int 0, .ref 453]) rfl ?_
  refine jt_callCv (ci := 11) (t := 23) (k := 10) (m2 := jp_J_makeCron) (As := [.int p0, .int p1, .int p2, .long p3, .int p4, .int p5, .int p6]) (b := 24) (r := [.int 0, .ref 453]) (mx := 13) rfl rfl rfl h24 (Nat.le_of_ble_eq_true rfl) rfl rfl rfl hf hl (Nat.le_of_ble_eq_true rfl) hc hx rfl rfl ?_
  refine jt_sgp 2 (pc1 := 26) (lv1 := (10, .ref a) :: [(0, .ref 24), (1, .int p0), (2, .int p1), (3, .int p2), (4, .long p3), (6, .int p4), (7, .int p5), (8, .int p6), (9, .ref 453)]) (st1 := [.int 1]) rfl ?_
  exact jt_iret rfl rfl rfl (by first | rfl | rw [Nat.zero_add, Nat.zero_add])
theorem jl_W_makeCron_x13 {N N1 : jx_H} {fs : List Value} {a : Nat} {fx : List Value} {c s : Nat} (p0 : Int32) (p1 : Int32) (p2 : Int32) (p3 : Int64) (p4 : Int32) (p5 : Int32) (p6 : Int32) (rF rL : Nat) (hf : 1 ≤ rF) (hl : 32 ≤ rL) (h24 : N[24]? = some (0, fs)) (hc : jt jp_J_makeCron (rF - 1) (rL - (13 + 19)) 0 [(0, .ref 24), (1, .int p0), (2, .int p1), (3, .int p2), (4, .long p3), (6, .int p4), (7, .int p5), (8, .int p6)] [] N 0 0 (.inr a, N1, c, s)) (hx : N1[a]? = some (13, fx)) : jt jp_W_makeCron rF rL 0 [(0, .ref 24), (1, .int p0), (2, .int p1), (3, .int p2), (4, .long p3), (6, .int p4), (7, .int p5), (8, .int p6), (9, .ref 453)] [] N 0 0 (.inl (some (.int 2)), N1, c, s) := by
  refine jt_sgp 10 (pc1 := 15) (lv1 := [(0, .ref 24), (1, .int p0), (2, .int p1), (3, .int p2), (4, .long p3), (6, .int p4), (7, .int p5), (8, .int p6), (9, .ref 453)]) (st1 := [.int p6, .int p5, .int p4, .long p3, .int p2, .int p1, .int p0, .ref 24, .int 0, .ref 453]) rfl ?_
  refine jt_callCv (ci := 13) (t := 27) (k := 10) (m2 := jp_J_makeCron) (As := [.int p0, .int p1, .int p2, .long p3, .int p4, .int p5, .int p6]) (b := 24) (r := [.int 0, .ref 453]) (mx := 13) rfl rfl rfl h24 (Nat.le_of_ble_eq_true rfl) rfl rfl rfl hf hl (Nat.le_of_ble_eq_true rfl) hc hx rfl rfl ?_
  refine jt_sgp 2 (pc1 := 30) (lv1 := (10, .ref a) :: [(0, .ref 24), (1, .int p0), (2, .int p1), (3, .int p2), (4, .long p3), (6, .int p4), (7, .int p5), (8, .int p6), (9, .ref 453)]) (st1 := [.int 2]) rfl ?_
  exact jt_iret rfl rfl rfl (by first | rfl | rw [Nat.zero_add, Nat.zero_add])
theorem jl_W_makeCron_x12 {N N1 : jx_H} {fs : List Value} {a : Nat} {fx : List Value} {c s : Nat} (p0 : Int32) (p1 : Int32) (p2 : Int32) (p3 : Int64) (p4 : Int32) (p5 : Int32) (p6 : Int32) (rF rL : Nat) (hf : 1 ≤ rF) (hl : 32 ≤ rL) (h24 : N[24]? = some (0, fs)) (hc : jt jp_J_makeCron (rF - 1) (rL - (13 + 19)) 0 [(0, .ref 24), (1, .int p0), (2, .int p1), (3, .int p2), (4, .long p3), (6, .int p4), (7, .int p5), (8, .int p6)] [] N 0 0 (.inr a, N1, c, s)) (hx : N1[a]? = some (12, fx)) : jt jp_W_makeCron rF rL 0 [(0, .ref 24), (1, .int p0), (2, .int p1), (3, .int p2), (4, .long p3), (6, .int p4), (7, .int p5), (8, .int p6), (9, .ref 453)] [] N 0 0 (.inl (some (.int 3)), N1, c, s) := by
  refine jt_sgp 10 (pc1 := 15) (lv1 := [(0, .ref 24), (1, .int p0), (2, .int p1), (3, .int p2), (4, .long p3), (6, .int p4), (7, .int p5), (8, .int p6), (9, .ref 453)]) (st1 := [.int p6, .int p5, .int p4, .long p3, .int p2, .int p1, .int p0, .ref 24, .int 0, .ref 453]) rfl ?_
  refine jt_callCv (ci := 12) (t := 31) (k := 10) (m2 := jp_J_makeCron) (As := [.int p0, .int p1, .int p2, .long p3, .int p4, .int p5, .int p6]) (b := 24) (r := [.int 0, .ref 453]) (mx := 13) rfl rfl rfl h24 (Nat.le_of_ble_eq_true rfl) rfl rfl rfl hf hl (Nat.le_of_ble_eq_true rfl) hc hx rfl rfl ?_
  refine jt_sgp 2 (pc1 := 34) (lv1 := (10, .ref a) :: [(0, .ref 24), (1, .int p0), (2, .int p1), (3, .int p2), (4, .long p3), (6, .int p4), (7, .int p5), (8, .int p6), (9, .ref 453)]) (st1 := [.int 3]) rfl ?_
  exact jt_iret rfl rfl rfl (by first | rfl | rw [Nat.zero_add, Nat.zero_add])
theorem jl_W_makeCron_x10 {N N1 : jx_H} {fs : List Value} {a : Nat} {fx : List Value} {c s : Nat} (p0 : Int32) (p1 : Int32) (p2 : Int32) (p3 : Int64) (p4 : Int32) (p5 : Int32) (p6 : Int32) (rF rL : Nat) (hf : 1 ≤ rF) (hl : 32 ≤ rL) (h24 : N[24]? = some (0, fs)) (hc : jt jp_J_makeCron (rF - 1) (rL - (13 + 19)) 0 [(0, .ref 24), (1, .int p0), (2, .int p1), (3, .int p2), (4, .long p3), (6, .int p4), (7, .int p5), (8, .int p6)] [] N 0 0 (.inr a, N1, c, s)) (hx : N1[a]? = some (10, fx)) : jt jp_W_makeCron rF rL 0 [(0, .ref 24), (1, .int p0), (2, .int p1), (3, .int p2), (4, .long p3), (6, .int p4), (7, .int p5), (8, .int p6), (9, .ref 453)] [] N 0 0 (.inl (some (.int 4)), N1, c, s) := by
  refine jt_sgp 10 (pc1 := 15) (lv1 := [(0, .ref 24), (1, .int p0), (2, .int p1), (3, .int p2), (4, .long p3), (6, .int p4), (7, .int p5), (8, .int p6), (9, .ref 453)]) (st1 := [.int p6, .int p5, .int p4, .long p3, .int p2, .int p1, .int p0, .ref 24, .int 0, .ref 453]) rfl ?_
  refine jt_callCv (ci := 10) (t := 35) (k := 10) (m2 := jp_J_makeCron) (As := [.int p0, .int p1, .int p2, .long p3, .int p4, .int p5, .int p6]) (b := 24) (r := [.int 0, .ref 453]) (mx := 13) rfl rfl rfl h24 (Nat.le_of_ble_eq_true rfl) rfl rfl rfl hf hl (Nat.le_of_ble_eq_true rfl) hc hx rfl rfl ?_
  refine jt_sgp 2 (pc1 := 38) (lv1 := (10, .ref a) :: [(0, .ref 24), (1, .int p0), (2, .int p1), (3, .int p2), (4, .long p3), (6, .int p4), (7, .int p5), (8, .int p6), (9, .ref 453)]) (st1 := [.int 4]) rfl ?_
  exact jt_iret rfl rfl rfl (by first | rfl | rw [Nat.zero_add, Nat.zero_add])
theorem jl_W_cancel_ok {N N1 : jx_H} {fs : List Value} {v : Int32} {w : Int64} {c s : Nat} (p0 : Int32) (rF rL : Nat) (hf : 1 ≤ rF) (hl : 22 ≤ rL) (h24 : N[24]? = some (0, fs)) (hc : jt jp_J_cancel (rF - 1) (rL - (3 + 19)) 0 [(0, .ref 24), (1, .int p0)] [] N 0 0 (.inl (some (.int v)), N1, c, s)) (ho : N1[453]? = some (jl_out w)) : jt jp_W_cancel rF rL 0 [(0, .ref 24), (1, .int p0), (2, .ref 453)] [] N 0 0 (.inl (some (.int 0)), N1.set 453 (jl_out v.toInt64), c, s) := by
  refine jt_sgp 4 (pc1 := 4) (lv1 := [(0, .ref 24), (1, .int p0), (2, .ref 453)]) (st1 := [.int p0, .ref 24, .int 0, .ref 453]) rfl ?_
  refine jt_callv (k := 11) (m2 := jp_J_cancel) (As := [.int p0]) (b := 24) (r := [.int 0, .ref 453]) (mx := 3) rfl rfl rfl h24 (Nat.le_of_ble_eq_true rfl) rfl rfl rfl hf hl (Nat.le_of_ble_eq_true rfl) hc ?_
  refine jt_sgp 1 (pc1 := 8) (lv1 := [(0, .ref 24), (1, .int p0), (2, .ref 453)]) (st1 := [.long v.toInt64, .int 0, .ref 453]) rfl ?_
  refine jt_last rfl ho (by unfold vp_in; decide) (congrArg (N1.set 453) (jl_outs _ _)) ?_
  refine jt_sgp 2 (pc1 := 16) (lv1 := [(0, .ref 24), (1, .int p0), (2, .ref 453)]) (st1 := [.int 0]) rfl ?_
  exact jt_iret rfl rfl rfl (by first | rfl | rw [Nat.zero_add, Nat.zero_add])
theorem jl_W_cancel_x14 {N N1 : jx_H} {fs : List Value} {a : Nat} {fx : List Value} {c s : Nat} (p0 : Int32) (rF rL : Nat) (hf : 1 ≤ rF) (hl : 22 ≤ rL) (h24 : N[24]? = some (0, fs)) (hc : jt jp_J_cancel (rF - 1) (rL - (3 + 19)) 0 [(0, .ref 24), (1, .int p0)] [] N 0 0 (.inr a, N1, c, s)) (hx : N1[a]? = some (14, fx)) : jt jp_W_cancel rF rL 0 [(0, .ref 24), (1, .int p0), (2, .ref 453)] [] N 0 0 (.inl (some (.int 1)), N1, c, s) := by
  refine jt_sgp 4 (pc1 := 4) (lv1 := [(0, .ref 24), (1, .int p0), (2, .ref 453)]) (st1 := [.int p0, .ref 24, .int 0, .ref 453]) rfl ?_
  refine jt_callCv (ci := 14) (t := 12) (k := 11) (m2 := jp_J_cancel) (As := [.int p0]) (b := 24) (r := [.int 0, .ref 453]) (mx := 3) rfl rfl rfl h24 (Nat.le_of_ble_eq_true rfl) rfl rfl rfl hf hl (Nat.le_of_ble_eq_true rfl) hc hx rfl rfl ?_
  refine jt_sgp 2 (pc1 := 14) (lv1 := (3, .ref a) :: [(0, .ref 24), (1, .int p0), (2, .ref 453)]) (st1 := [.int 1]) rfl ?_
  exact jt_iret rfl rfl rfl (by first | rfl | rw [Nat.zero_add, Nat.zero_add])
theorem jl_W_workers_ok {N N1 : jx_H} {fs : List Value} {v : Int32} {w : Int64} {c s : Nat} (p0 : Int32) (rF rL : Nat) (hf : 1 ≤ rF) (hl : 22 ≤ rL) (h24 : N[24]? = some (0, fs)) (hc : jt jp_J_workers (rF - 1) (rL - (3 + 19)) 0 [(0, .ref 24), (1, .int p0)] [] N 0 0 (.inl (some (.int v)), N1, c, s)) (ho : N1[453]? = some (jl_out w)) : jt jp_W_workers rF rL 0 [(0, .ref 24), (1, .int p0), (2, .ref 453)] [] N 0 0 (.inl (some (.int 0)), N1.set 453 (jl_out v.toInt64), c, s) := by
  refine jt_sgp 4 (pc1 := 4) (lv1 := [(0, .ref 24), (1, .int p0), (2, .ref 453)]) (st1 := [.int p0, .ref 24, .int 0, .ref 453]) rfl ?_
  refine jt_callv (k := 12) (m2 := jp_J_workers) (As := [.int p0]) (b := 24) (r := [.int 0, .ref 453]) (mx := 3) rfl rfl rfl h24 (Nat.le_of_ble_eq_true rfl) rfl rfl rfl hf hl (Nat.le_of_ble_eq_true rfl) hc ?_
  refine jt_sgp 1 (pc1 := 8) (lv1 := [(0, .ref 24), (1, .int p0), (2, .ref 453)]) (st1 := [.long v.toInt64, .int 0, .ref 453]) rfl ?_
  refine jt_last rfl ho (by unfold vp_in; decide) (congrArg (N1.set 453) (jl_outs _ _)) ?_
  refine jt_sgp 2 (pc1 := 16) (lv1 := [(0, .ref 24), (1, .int p0), (2, .ref 453)]) (st1 := [.int 0]) rfl ?_
  exact jt_iret rfl rfl rfl (by first | rfl | rw [Nat.zero_add, Nat.zero_add])
theorem jl_W_workers_x11 {N N1 : jx_H} {fs : List Value} {a : Nat} {fx : List Value} {c s : Nat} (p0 : Int32) (rF rL : Nat) (hf : 1 ≤ rF) (hl : 22 ≤ rL) (h24 : N[24]? = some (0, fs)) (hc : jt jp_J_workers (rF - 1) (rL - (3 + 19)) 0 [(0, .ref 24), (1, .int p0)] [] N 0 0 (.inr a, N1, c, s)) (hx : N1[a]? = some (11, fx)) : jt jp_W_workers rF rL 0 [(0, .ref 24), (1, .int p0), (2, .ref 453)] [] N 0 0 (.inl (some (.int 1)), N1, c, s) := by
  refine jt_sgp 4 (pc1 := 4) (lv1 := [(0, .ref 24), (1, .int p0), (2, .ref 453)]) (st1 := [.int p0, .ref 24, .int 0, .ref 453]) rfl ?_
  refine jt_callCv (ci := 11) (t := 12) (k := 12) (m2 := jp_J_workers) (As := [.int p0]) (b := 24) (r := [.int 0, .ref 453]) (mx := 3) rfl rfl rfl h24 (Nat.le_of_ble_eq_true rfl) rfl rfl rfl hf hl (Nat.le_of_ble_eq_true rfl) hc hx rfl rfl ?_
  refine jt_sgp 2 (pc1 := 14) (lv1 := (3, .ref a) :: [(0, .ref 24), (1, .int p0), (2, .ref 453)]) (st1 := [.int 1]) rfl ?_
  exact jt_iret rfl rfl rfl (by first | rfl | rw [Nat.zero_add, Nat.zero_add])
theorem jl_W_advance_ok {N N1 : jx_H} {fs : List Value} {v : Int32} {w : Int64} {c s : Nat} (p0 : Int64) (rF rL : Nat) (hf : 1 ≤ rF) (hl : 29 ≤ rL) (h24 : N[24]? = some (0, fs)) (hc : jt jp_J_advance (rF - 1) (rL - (10 + 19)) 0 [(0, .ref 24), (1, .long p0)] [] N 0 0 (.inl (some (.int v)), N1, c, s)) (ho : N1[453]? = some (jl_out w)) : jt jp_W_advance rF rL 0 [(0, .ref 24), (1, .long p0), (3, .ref 453)] [] N 0 0 (.inl (some (.int 0)), N1.set 453 (jl_out v.toInt64), c, s) := by
  refine jt_sgp 4 (pc1 := 4) (lv1 := [(0, .ref 24), (1, .long p0), (3, .ref 453)]) (st1 := [.long p0, .ref 24, .int 0, .ref 453]) rfl ?_
  refine jt_callv (k := 13) (m2 := jp_J_advance) (As := [.long p0]) (b := 24) (r := [.int 0, .ref 453]) (mx := 10) rfl rfl rfl h24 (Nat.le_of_ble_eq_true rfl) rfl rfl rfl hf hl (Nat.le_of_ble_eq_true rfl) hc ?_
  refine jt_sgp 1 (pc1 := 8) (lv1 := [(0, .ref 24), (1, .long p0), (3, .ref 453)]) (st1 := [.long v.toInt64, .int 0, .ref 453]) rfl ?_
  refine jt_last rfl ho (by unfold vp_in; decide) (congrArg (N1.set 453) (jl_outs _ _)) ?_
  refine jt_sgp 2 (pc1 := 17) (lv1 := [(0, .ref 24), (1, .long p0), (3, .ref 453)]) (st1 := [.int 0]) rfl ?_
  exact jt_iret rfl rfl rfl (by first | rfl | rw [Nat.zero_add, Nat.zero_add])
theorem jl_W_advance_x11 {N N1 : jx_H} {fs : List Value} {a : Nat} {fx : List Value} {c s : Nat} (p0 : Int64) (rF rL : Nat) (hf : 1 ≤ rF) (hl : 29 ≤ rL) (h24 : N[24]? = some (0, fs)) (hc : jt jp_J_advance (rF - 1) (rL - (10 + 19)) 0 [(0, .ref 24), (1, .long p0)] [] N 0 0 (.inr a, N1, c, s)) (hx : N1[a]? = some (11, fx)) : jt jp_W_advance rF rL 0 [(0, .ref 24), (1, .long p0), (3, .ref 453)] [] N 0 0 (.inl (some (.int 1)), N1, c, s) := by
  refine jt_sgp 4 (pc1 := 4) (lv1 := [(0, .ref 24), (1, .long p0), (3, .ref 453)]) (st1 := [.long p0, .ref 24, .int 0, .ref 453]) rfl ?_
  refine jt_callCv (ci := 11) (t := 12) (k := 13) (m2 := jp_J_advance) (As := [.long p0]) (b := 24) (r := [.int 0, .ref 453]) (mx := 10) rfl rfl rfl h24 (Nat.le_of_ble_eq_true rfl) rfl rfl rfl hf hl (Nat.le_of_ble_eq_true rfl) hc hx rfl rfl ?_
  refine jt_sgp 2 (pc1 := 15) (lv1 := (4, .ref a) :: [(0, .ref 24), (1, .long p0), (3, .ref 453)]) (st1 := [.int 1]) rfl ?_
  exact jt_iret rfl rfl rfl (by first | rfl | rw [Nat.zero_add, Nat.zero_add])
theorem jl_W_stall_ok {N N1 : jx_H} {fs : List Value} {c s : Nat} (p0 : Int64) (rF rL : Nat) (hf : 1 ≤ rF) (hl : 22 ≤ rL) (h24 : N[24]? = some (0, fs)) (hc : jt jp_J_stall (rF - 1) (rL - (3 + 19)) 0 [(0, .ref 24), (1, .long p0)] [] N 0 0 (.inl none, N1, c, s)) : jt jp_W_stall rF rL 0 [(0, .ref 24), (1, .long p0)] [] N 0 0 (.inl (some (.int 0)), N1, c, s) := by
  refine jt_sgp 2 (pc1 := 2) (lv1 := [(0, .ref 24), (1, .long p0)]) (st1 := [.long p0, .ref 24]) rfl ?_
  refine jt_callv (k := 14) (m2 := jp_J_stall) (As := [.long p0]) (b := 24) (r := []) (mx := 3) rfl rfl rfl h24 (Nat.le_of_ble_eq_true rfl) rfl rfl rfl hf hl (Nat.le_of_ble_eq_true rfl) hc ?_
  refine jt_sgp 2 (pc1 := 12) (lv1 := [(0, .ref 24), (1, .long p0)]) (st1 := [.int 0]) rfl ?_
  exact jt_iret rfl rfl rfl (by first | rfl | rw [Nat.zero_add, Nat.zero_add])
theorem jl_W_stall_x11 {N N1 : jx_H} {fs : List Value} {a : Nat} {fx : List Value} {c s : Nat} (p0 : Int64) (rF rL : Nat) (hf : 1 ≤ rF) (hl : 22 ≤ rL) (h24 : N[24]? = some (0, fs)) (hc : jt jp_J_stall (rF - 1) (rL - (3 + 19)) 0 [(0, .ref 24), (1, .long p0)] [] N 0 0 (.inr a, N1, c, s)) (hx : N1[a]? = some (11, fx)) : jt jp_W_stall rF rL 0 [(0, .ref 24), (1, .long p0)] [] N 0 0 (.inl (some (.int 1)), N1, c, s) := by
  refine jt_sgp 2 (pc1 := 2) (lv1 := [(0, .ref 24), (1, .long p0)]) (st1 := [.long p0, .ref 24]) rfl ?_
  refine jt_callCv (ci := 11) (t := 8) (k := 14) (m2 := jp_J_stall) (As := [.long p0]) (b := 24) (r := []) (mx := 3) rfl rfl rfl h24 (Nat.le_of_ble_eq_true rfl) rfl rfl rfl hf hl (Nat.le_of_ble_eq_true rfl) hc hx rfl rfl ?_
  refine jt_sgp 2 (pc1 := 10) (lv1 := (3, .ref a) :: [(0, .ref 24), (1, .long p0)]) (st1 := [.int 1]) rfl ?_
  exact jt_iret rfl rfl rfl (by first | rfl | rw [Nat.zero_add, Nat.zero_add])
theorem jl_W_close_ok {N N1 : jx_H} {fs : List Value} {v : Int32} {w : Int64} {c s : Nat} (p0 : Int32) (p1 : Int32) (rF rL : Nat) (hf : 1 ≤ rF) (hl : 25 ≤ rL) (h24 : N[24]? = some (0, fs)) (hc : jt jp_J_close (rF - 1) (rL - (6 + 19)) 0 [(0, .ref 24), (1, .int p0), (2, .int p1)] [] N 0 0 (.inl (some (.int v)), N1, c, s)) (ho : N1[453]? = some (jl_out w)) : jt jp_W_close rF rL 0 [(0, .ref 24), (1, .int p0), (2, .int p1), (3, .ref 453)] [] N 0 0 (.inl (some (.int 0)), N1.set 453 (jl_out v.toInt64), c, s) := by
  refine jt_sgp 5 (pc1 := 5) (lv1 := [(0, .ref 24), (1, .int p0), (2, .int p1), (3, .ref 453)]) (st1 := [.int p1, .int p0, .ref 24, .int 0, .ref 453]) rfl ?_
  refine jt_callv (k := 15) (m2 := jp_J_close) (As := [.int p0, .int p1]) (b := 24) (r := [.int 0, .ref 453]) (mx := 6) rfl rfl rfl h24 (Nat.le_of_ble_eq_true rfl) rfl rfl rfl hf hl (Nat.le_of_ble_eq_true rfl) hc ?_
  refine jt_sgp 1 (pc1 := 9) (lv1 := [(0, .ref 24), (1, .int p0), (2, .int p1), (3, .ref 453)]) (st1 := [.long v.toInt64, .int 0, .ref 453]) rfl ?_
  refine jt_last rfl ho (by unfold vp_in; decide) (congrArg (N1.set 453) (jl_outs _ _)) ?_
  refine jt_sgp 2 (pc1 := 18) (lv1 := [(0, .ref 24), (1, .int p0), (2, .int p1), (3, .ref 453)]) (st1 := [.int 0]) rfl ?_
  exact jt_iret rfl rfl rfl (by first | rfl | rw [Nat.zero_add, Nat.zero_add])
theorem jl_W_close_x13 {N N1 : jx_H} {fs : List Value} {a : Nat} {fx : List Value} {c s : Nat} (p0 : Int32) (p1 : Int32) (rF rL : Nat) (hf : 1 ≤ rF) (hl : 25 ≤ rL) (h24 : N[24]? = some (0, fs)) (hc : jt jp_J_close (rF - 1) (rL - (6 + 19)) 0 [(0, .ref 24), (1, .int p0), (2, .int p1)] [] N 0 0 (.inr a, N1, c, s)) (hx : N1[a]? = some (13, fx)) : jt jp_W_close rF rL 0 [(0, .ref 24), (1, .int p0), (2, .int p1), (3, .ref 453)] [] N 0 0 (.inl (some (.int 1)), N1, c, s) := by
  refine jt_sgp 5 (pc1 := 5) (lv1 := [(0, .ref 24), (1, .int p0), (2, .int p1), (3, .ref 453)]) (st1 := [.int p1, .int p0, .ref 24, .int 0, .ref 453]) rfl ?_
  refine jt_callCv (ci := 13) (t := 13) (k := 15) (m2 := jp_J_close) (As := [.int p0, .int p1]) (b := 24) (r := [.int 0, .ref 453]) (mx := 6) rfl rfl rfl h24 (Nat.le_of_ble_eq_true rfl) rfl rfl rfl hf hl (Nat.le_of_ble_eq_true rfl) hc hx rfl rfl ?_
  refine jt_sgp 2 (pc1 := 16) (lv1 := (4, .ref a) :: [(0, .ref 24), (1, .int p0), (2, .int p1), (3, .ref 453)]) (st1 := [.int 1]) rfl ?_
  exact jt_iret rfl rfl rfl (by first | rfl | rw [Nat.zero_add, Nat.zero_add])
theorem jl_W_job_ok {N N1 : jx_H} {fs : List Value} {v : Int64} {w : Int64} {c s : Nat} (p0 : Int32) (p1 : Int32) (rF rL : Nat) (hf : 1 ≤ rF) (hl : 23 ≤ rL) (h24 : N[24]? = some (0, fs)) (hc : jt jp_J_job (rF - 1) (rL - (4 + 19)) 0 [(0, .ref 24), (1, .int p0), (2, .int p1)] [] N 0 0 (.inl (some (.long v)), N1, c, s)) (ho : N1[453]? = some (jl_out w)) : jt jp_W_job rF rL 0 [(0, .ref 24), (1, .int p0), (2, .int p1), (3, .ref 453)] [] N 0 0 (.inl (some (.int 0)), N1.set 453 (jl_out v), c, s) := by
  refine jt_sgp 5 (pc1 := 5) (lv1 := [(0, .ref 24), (1, .int p0), (2, .int p1), (3, .ref 453)]) (st1 := [.int p1, .int p0, .ref 24, .int 0, .ref 453]) rfl ?_
  refine jt_callv (k := 16) (m2 := jp_J_job) (As := [.int p0, .int p1]) (b := 24) (r := [.int 0, .ref 453]) (mx := 4) rfl rfl rfl h24 (Nat.le_of_ble_eq_true rfl) rfl rfl rfl hf hl (Nat.le_of_ble_eq_true rfl) hc ?_
  refine jt_last rfl ho (by unfold vp_in; decide) (congrArg (N1.set 453) (jl_outs _ _)) ?_
  refine jt_sgp 2 (pc1 := 21) (lv1 := [(0, .ref 24), (1, .int p0), (2, .int p1), (3, .ref 453)]) (st1 := [.int 0]) rfl ?_
  exact jt_iret rfl rfl rfl (by first | rfl | rw [Nat.zero_add, Nat.zero_add])
theorem jl_W_job_x11 {N N1 : jx_H} {fs : List Value} {a : Nat} {fx : List Value} {c s : Nat} (p0 : Int32) (p1 : Int32) (rF rL : Nat) (hf : 1 ≤ rF) (hl : 23 ≤ rL) (h24 : N[24]? = some (0, fs)) (hc : jt jp_J_job (rF - 1) (rL - (4 + 19)) 0 [(0, .ref 24), (1, .int p0), (2, .int p1)] [] N 0 0 (.inr a, N1, c, s)) (hx : N1[a]? = some (11, fx)) : jt jp_W_job rF rL 0 [(0, .ref 24), (1, .int p0), (2, .int p1), (3, .ref 453)] [] N 0 0 (.inl (some (.int 1)), N1, c, s) := by
  refine jt_sgp 5 (pc1 := 5) (lv1 := [(0, .ref 24), (1, .int p0), (2, .int p1), (3, .ref 453)]) (st1 := [.int p1, .int p0, .ref 24, .int 0, .ref 453]) rfl ?_
  refine jt_callCv (ci := 11) (t := 12) (k := 16) (m2 := jp_J_job) (As := [.int p0, .int p1]) (b := 24) (r := [.int 0, .ref 453]) (mx := 4) rfl rfl rfl h24 (Nat.le_of_ble_eq_true rfl) rfl rfl rfl hf hl (Nat.le_of_ble_eq_true rfl) hc hx rfl rfl ?_
  refine jt_sgp 2 (pc1 := 15) (lv1 := (4, .ref a) :: [(0, .ref 24), (1, .int p0), (2, .int p1), (3, .ref 453)]) (st1 := [.int 1]) rfl ?_
  exact jt_iret rfl rfl rfl (by first | rfl | rw [Nat.zero_add, Nat.zero_add])
theorem jl_W_job_x14 {N N1 : jx_H} {fs : List Value} {a : Nat} {fx : List Value} {c s : Nat} (p0 : Int32) (p1 : Int32) (rF rL : Nat) (hf : 1 ≤ rF) (hl : 23 ≤ rL) (h24 : N[24]? = some (0, fs)) (hc : jt jp_J_job (rF - 1) (rL - (4 + 19)) 0 [(0, .ref 24), (1, .int p0), (2, .int p1)] [] N 0 0 (.inr a, N1, c, s)) (hx : N1[a]? = some (14, fx)) : jt jp_W_job rF rL 0 [(0, .ref 24), (1, .int p0), (2, .int p1), (3, .ref 453)] [] N 0 0 (.inl (some (.int 2)), N1, c, s) := by
  refine jt_sgp 5 (pc1 := 5) (lv1 := [(0, .ref 24), (1, .int p0), (2, .int p1), (3, .ref 453)]) (st1 := [.int p1, .int p0, .ref 24, .int 0, .ref 453]) rfl ?_
  refine jt_callCv (ci := 14) (t := 16) (k := 16) (m2 := jp_J_job) (As := [.int p0, .int p1]) (b := 24) (r := [.int 0, .ref 453]) (mx := 4) rfl rfl rfl h24 (Nat.le_of_ble_eq_true rfl) rfl rfl rfl hf hl (Nat.le_of_ble_eq_true rfl) hc hx rfl rfl ?_
  refine jt_sgp 2 (pc1 := 19) (lv1 := (4, .ref a) :: [(0, .ref 24), (1, .int p0), (2, .int p1), (3, .ref 453)]) (st1 := [.int 2]) rfl ?_
  exact jt_iret rfl rfl rfl (by first | rfl | rw [Nat.zero_add, Nat.zero_add])
theorem jl_W_start_ok {N N1 : jx_H} {fs : List Value} {v : Int64} {w : Int64} {c s : Nat} (p0 : Int32) (p1 : Int32) (rF rL : Nat) (hf : 1 ≤ rF) (hl : 22 ≤ rL) (h24 : N[24]? = some (0, fs)) (hc : jt jp_J_start (rF - 1) (rL - (3 + 19)) 0 [(0, .ref 24), (1, .int p0), (2, .int p1)] [] N 0 0 (.inl (some (.long v)), N1, c, s)) (ho : N1[453]? = some (jl_out w)) : jt jp_W_start rF rL 0 [(0, .ref 24), (1, .int p0), (2, .int p1), (3, .ref 453)] [] N 0 0 (.inl (some (.int 0)), N1.set 453 (jl_out v), c, s) := by
  refine jt_sgp 5 (pc1 := 5) (lv1 := [(0, .ref 24), (1, .int p0), (2, .int p1), (3, .ref 453)]) (st1 := [.int p1, .int p0, .ref 24, .int 0, .ref 453]) rfl ?_
  refine jt_callv (k := 17) (m2 := jp_J_start) (As := [.int p0, .int p1]) (b := 24) (r := [.int 0, .ref 453]) (mx := 3) rfl rfl rfl h24 (Nat.le_of_ble_eq_true rfl) rfl rfl rfl hf hl (Nat.le_of_ble_eq_true rfl) hc ?_
  refine jt_last rfl ho (by unfold vp_in; decide) (congrArg (N1.set 453) (jl_outs _ _)) ?_
  refine jt_sgp 2 (pc1 := 21) (lv1 := [(0, .ref 24), (1, .int p0), (2, .int p1), (3, .ref 453)]) (st1 := [.int 0]) rfl ?_
  exact jt_iret rfl rfl rfl (by first | rfl | rw [Nat.zero_add, Nat.zero_add])
theorem jl_W_start_x11 {N N1 : jx_H} {fs : List Value} {a : Nat} {fx : List Value} {c s : Nat} (p0 : Int32) (p1 : Int32) (rF rL : Nat) (hf : 1 ≤ rF) (hl : 22 ≤ rL) (h24 : N[24]? = some (0, fs)) (hc : jt jp_J_start (rF - 1) (rL - (3 + 19)) 0 [(0, .ref 24), (1, .int p0), (2, .int p1)] [] N 0 0 (.inr a, N1, c, s)) (hx : N1[a]? = some (11, fx)) : jt jp_W_start rF rL 0 [(0, .ref 24), (1, .int p0), (2, .int p1), (3, .ref 453)] [] N 0 0 (.inl (some (.int 1)), N1, c, s) := by
  refine jt_sgp 5 (pc1 := 5) (lv1 := [(0, .ref 24), (1, .int p0), (2, .int p1), (3, .ref 453)]) (st1 := [.int p1, .int p0, .ref 24, .int 0, .ref 453]) rfl ?_
  refine jt_callCv (ci := 11) (t := 12) (k := 17) (m2 := jp_J_start) (As := [.int p0, .int p1]) (b := 24) (r := [.int 0, .ref 453]) (mx := 3) rfl rfl rfl h24 (Nat.le_of_ble_eq_true rfl) rfl rfl rfl hf hl (Nat.le_of_ble_eq_true rfl) hc hx rfl rfl ?_
  refine jt_sgp 2 (pc1 := 15) (lv1 := (4, .ref a) :: [(0, .ref 24), (1, .int p0), (2, .int p1), (3, .ref 453)]) (st1 := [.int 1]) rfl ?_
  exact jt_iret rfl rfl rfl (by first | rfl | rw [Nat.zero_add, Nat.zero_add])
theorem jl_W_start_x14 {N N1 : jx_H} {fs : List Value} {a : Nat} {fx : List Value} {c s : Nat} (p0 : Int32) (p1 : Int32) (rF rL : Nat) (hf : 1 ≤ rF) (hl : 22 ≤ rL) (h24 : N[24]? = some (0, fs)) (hc : jt jp_J_start (rF - 1) (rL - (3 + 19)) 0 [(0, .ref 24), (1, .int p0), (2, .int p1)] [] N 0 0 (.inr a, N1, c, s)) (hx : N1[a]? = some (14, fx)) : jt jp_W_start rF rL 0 [(0, .ref 24), (1, .int p0), (2, .int p1), (3, .ref 453)] [] N 0 0 (.inl (some (.int 2)), N1, c, s) := by
  refine jt_sgp 5 (pc1 := 5) (lv1 := [(0, .ref 24), (1, .int p0), (2, .int p1), (3, .ref 453)]) (st1 := [.int p1, .int p0, .ref 24, .int 0, .ref 453]) rfl ?_
  refine jt_callCv (ci := 14) (t := 16) (k := 17) (m2 := jp_J_start) (As := [.int p0, .int p1]) (b := 24) (r := [.int 0, .ref 453]) (mx := 3) rfl rfl rfl h24 (Nat.le_of_ble_eq_true rfl) rfl rfl rfl hf hl (Nat.le_of_ble_eq_true rfl) hc hx rfl rfl ?_
  refine jt_sgp 2 (pc1 := 19) (lv1 := (4, .ref a) :: [(0, .ref 24), (1, .int p0), (2, .int p1), (3, .ref 453)]) (st1 := [.int 2]) rfl ?_
  exact jt_iret rfl rfl rfl (by first | rfl | rw [Nat.zero_add, Nat.zero_add])
theorem jl_W_count_ok {N N1 : jx_H} {fs : List Value} {v : Int64} {w : Int64} {c s : Nat} (p0 : Int32) (rF rL : Nat) (hf : 1 ≤ rF) (hl : 21 ≤ rL) (h24 : N[24]? = some (0, fs)) (hc : jt jp_J_count (rF - 1) (rL - (2 + 19)) 0 [(0, .ref 24), (1, .int p0)] [] N 0 0 (.inl (some (.long v)), N1, c, s)) (ho : N1[453]? = some (jl_out w)) : jt jp_W_count rF rL 0 [(0, .ref 24), (1, .int p0), (2, .ref 453)] [] N 0 0 (.inl (some (.int 0)), N1.set 453 (jl_out v), c, s) := by
  refine jt_sgp 4 (pc1 := 4) (lv1 := [(0, .ref 24), (1, .int p0), (2, .ref 453)]) (st1 := [.int p0, .ref 24, .int 0, .ref 453]) rfl ?_
  refine jt_callv (k := 18) (m2 := jp_J_count) (As := [.int p0]) (b := 24) (r := [.int 0, .ref 453]) (mx := 2) rfl rfl rfl h24 (Nat.le_of_ble_eq_true rfl) rfl rfl rfl hf hl (Nat.le_of_ble_eq_true rfl) hc ?_
  refine jt_last rfl ho (by unfold vp_in; decide) (congrArg (N1.set 453) (jl_outs _ _)) ?_
  refine jt_sgp 2 (pc1 := 15) (lv1 := [(0, .ref 24), (1, .int p0), (2, .ref 453)]) (st1 := [.int 0]) rfl ?_
  exact jt_iret rfl rfl rfl (by first | rfl | rw [Nat.zero_add, Nat.zero_add])
theorem jl_W_count_x11 {N N1 : jx_H} {fs : List Value} {a : Nat} {fx : List Value} {c s : Nat} (p0 : Int32) (rF rL : Nat) (hf : 1 ≤ rF) (hl : 21 ≤ rL) (h24 : N[24]? = some (0, fs)) (hc : jt jp_J_count (rF - 1) (rL - (2 + 19)) 0 [(0, .ref 24), (1, .int p0)] [] N 0 0 (.inr a, N1, c, s)) (hx : N1[a]? = some (11, fx)) : jt jp_W_count rF rL 0 [(0, .ref 24), (1, .int p0), (2, .ref 453)] [] N 0 0 (.inl (some (.int 1)), N1, c, s) := by
  refine jt_sgp 4 (pc1 := 4) (lv1 := [(0, .ref 24), (1, .int p0), (2, .ref 453)]) (st1 := [.int p0, .ref 24, .int 0, .ref 453]) rfl ?_
  refine jt_callCv (ci := 11) (t := 11) (k := 18) (m2 := jp_J_count) (As := [.int p0]) (b := 24) (r := [.int 0, .ref 453]) (mx := 2) rfl rfl rfl h24 (Nat.le_of_ble_eq_true rfl) rfl rfl rfl hf hl (Nat.le_of_ble_eq_true rfl) hc hx rfl rfl ?_
  refine jt_sgp 2 (pc1 := 13) (lv1 := (3, .ref a) :: [(0, .ref 24), (1, .int p0), (2, .ref 453)]) (st1 := [.int 1]) rfl ?_
  exact jt_iret rfl rfl rfl (by first | rfl | rw [Nat.zero_add, Nat.zero_add])
set_option maxRecDepth 20000 in
theorem jl_case_feed {N N1 N2 : jx_H} {L : Nat} {xs : Nat → Int32} {i k : Int32} {fs1 r2 : List Value} {b : Int32} {v : Int64} {c1 s1 c2 s2 dc ds : Nat} {o : jx_O} (hs : N[0]? = some (200, jx_vi L xs)) (hs1 : N1[0]? = some (200, jx_vi L xs)) (v0 : vp_in (i + 1) L) (v1 : vp_in (i + 2) L) (v2 : vp_in (i + 3) L) (v3 : vp_in (i + 4) L) (v4 : vp_in (i + 5) L) (hc : jt jp_W_feed 14 565 0 [(0, .ref 24), (1, .int (xs (i + 1 : Int32).toNatClampNeg)), (2, .int (xs (i + 2 : Int32).toNatClampNeg)), (3, .int (xs (i + 3 : Int32).toNatClampNeg)), (4, .int (xs (i + 4 : Int32).toNatClampNeg)), (5, .int (xs (i + 5 : Int32).toNatClampNeg)), (6, .ref 453)] [] N 0 0 (.inl (some (.int k)), N1, c1, s1)) (h1 : N1[215]? = some (9, fs1)) (hm : jt jp_M_feed 14 565 0 [(0, .ref 215), (1, .int (xs (i + 1 : Int32).toNatClampNeg)), (2, .int (xs (i + 2 : Int32).toNatClampNeg)), (3, .int (xs (i + 3 : Int32).toNatClampNeg)), (4, .int (xs (i + 4 : Int32).toNatClampNeg)), (5, .int (xs (i + 5 : Int32).toNatClampNeg))] [] N1 0 0 (.inl (some (.int b)), N2, c2, s2)) (h2 : N2[215]? = some (9, .int k :: r2)) (ho : N2[453]? = some (jl_out v)) (hq : k = 0 → v = b.toInt64) (kk : jt jp_W_law 15 592 1771 [(0, .ref 0), (1, .ref 24), (2, .ref 215), (3, .ref 453), (4, .int i)] [] N2 (dc + c1 + c2) (ds + s1 + s2) o) : jt jp_W_law 15 592 128 [(0, .ref 0), (1, .ref 24), (2, .ref 215), (3, .ref 453), (4, .int i)] [] N dc ds o := by
  refine jt_sgp 5 (pc1 := 134) (lv1 := [(0, .ref 0), (1, .ref 24), (2, .ref 215), (3, .ref 453), (4, .int i)]) (st1 := [.int (i + 1), .ref 0, .ref 24]) rfl ?_
  refine jt_iaK rfl hs v0 ?_
  refine jt_sgp 4 (pc1 := 140) (lv1 := [(0, .ref 0), (1, .ref 24), (2, .ref 215), (3, .ref 453), (4, .int i)]) (st1 := [.int (i + 2), .ref 0, .int (xs (i + 1 : Int32).toNatClampNeg), .ref 24]) rfl ?_
  refine jt_iaK rfl hs v1 ?_
  refine jt_sgp 4 (pc1 := 146) (lv1 := [(0, .ref 0), (1, .ref 24), (2, .ref 215), (3, .ref 453), (4, .int i)]) (st1 := [.int (i + 3), .ref 0, .int (xs (i + 2 : Int32).toNatClampNeg), .int (xs (i + 1 : Int32).toNatClampNeg), .ref 24]) rfl ?_
  refine jt_iaK rfl hs v2 ?_
  refine jt_sgp 4 (pc1 := 152) (lv1 := [(0, .ref 0), (1, .ref 24), (2, .ref 215), (3, .ref 453), (4, .int i)]) (st1 := [.int (i + 4), .ref 0, .int (xs (i + 3 : Int32).toNatClampNeg), .int (xs (i + 2 : Int32).toNatClampNeg), .int (xs (i + 1 : Int32).toNatClampNeg), .ref 24]) rfl ?_
  refine jt_iaK rfl hs v3 ?_
  refine jt_sgp 4 (pc1 := 158) (lv1 := [(0, .ref 0), (1, .ref 24), (2, .ref 215), (3, .ref 453), (4, .int i)]) (st1 := [.int (i + 5), .ref 0, .int (xs (i + 4 : Int32).toNatClampNeg), .int (xs (i + 3 : Int32).toNatClampNeg), .int (xs (i + 2 : Int32).toNatClampNeg), .int (xs (i + 1 : Int32).toNatClampNeg), .ref 24]) rfl ?_
  refine jt_iaK rfl hs v4 ?_
  refine jt_sgp 1 (pc1 := 160) (lv1 := [(0, .ref 0), (1, .ref 24), (2, .ref 215), (3, .ref 453), (4, .int i)]) (st1 := [.ref 453, .int (xs (i + 5 : Int32).toNatClampNeg), .int (xs (i + 4 : Int32).toNatClampNeg), .int (xs (i + 3 : Int32).toNatClampNeg), .int (xs (i + 2 : Int32).toNatClampNeg), .int (xs (i + 1 : Int32).toNatClampNeg), .ref 24]) rfl ?_
  refine jt_call (k := 167) (m2 := jp_W_feed) (As := [.ref 24, .int (xs (i + 1 : Int32).toNatClampNeg), .int (xs (i + 2 : Int32).toNatClampNeg), .int (xs (i + 3 : Int32).toNatClampNeg), .int (xs (i + 4 : Int32).toNatClampNeg), .int (xs (i + 5 : Int32).toNatClampNeg), .ref 453]) (r := []) (mx := 8) rfl rfl rfl rfl rfl (by decide) (by decide) (Nat.le_of_ble_eq_true rfl) hc ?_
  show jt jp_W_law 15 592 163 [(0, .ref 0), (1, .ref 24), (2, .ref 215), (3, .ref 453), (4, .int i)] [.int k] N1 (dc + c1) (ds + s1) o
  refine jt_sgp 6 (pc1 := 171) (lv1 := [(5, .int k), (0, .ref 0), (1, .ref 24), (2, .ref 215), (3, .ref 453), (4, .int i)]) (st1 := [.int (i + 1), .ref 0, .ref 215]) rfl ?_
  refine jt_iaK rfl hs1 v0 ?_
  refine jt_sgp 4 (pc1 := 177) (lv1 := [(5, .int k), (0, .ref 0), (1, .ref 24), (2, .ref 215), (3, .ref 453), (4, .int i)]) (st1 := [.int (i + 2), .ref 0, .int (xs (i + 1 : Int32).toNatClampNeg), .ref 215]) rfl ?_
  refine jt_iaK rfl hs1 v1 ?_
  refine jt_sgp 4 (pc1 := 183) (lv1 := [(5, .int k), (0, .ref 0), (1, .ref 24), (2, .ref 215), (3, .ref 453), (4, .int i)]) (st1 := [.int (i + 3), .ref 0, .int (xs (i + 2 : Int32).toNatClampNeg), .int (xs (i + 1 : Int32).toNatClampNeg), .ref 215]) rfl ?_
  refine jt_iaK rfl hs1 v2 ?_
  refine jt_sgp 4 (pc1 := 189) (lv1 := [(5, .int k), (0, .ref 0), (1, .ref 24), (2, .ref 215), (3, .ref 453), (4, .int i)]) (st1 := [.int (i + 4), .ref 0, .int (xs (i + 3 : Int32).toNatClampNeg), .int (xs (i + 2 : Int32).toNatClampNeg), .int (xs (i + 1 : Int32).toNatClampNeg), .ref 215]) rfl ?_
  refine jt_iaK rfl hs1 v3 ?_
  refine jt_sgp 4 (pc1 := 195) (lv1 := [(5, .int k), (0, .ref 0), (1, .ref 24), (2, .ref 215), (3, .ref 453), (4, .int i)]) (st1 := [.int (i + 5), .ref 0, .int (xs (i + 4 : Int32).toNatClampNeg), .int (xs (i + 3 : Int32).toNatClampNeg), .int (xs (i + 2 : Int32).toNatClampNeg), .int (xs (i + 1 : Int32).toNatClampNeg), .ref 215]) rfl ?_
  refine jt_iaK rfl hs1 v4 ?_
  refine jt_callv (k := 92) (m2 := jp_M_feed) (As := [.int (xs (i + 1 : Int32).toNatClampNeg), .int (xs (i + 2 : Int32).toNatClampNeg), .int (xs (i + 3 : Int32).toNatClampNeg), .int (xs (i + 4 : Int32).toNatClampNeg), .int (xs (i + 5 : Int32).toNatClampNeg)]) (b := 215) (r := []) (mx := 8) rfl rfl rfl h1 (Nat.le_of_ble_eq_true rfl) rfl rfl rfl (by decide) (by decide) (Nat.le_of_ble_eq_true rfl) hm ?_
  show jt jp_W_law 15 592 199 [(5, .int k), (0, .ref 0), (1, .ref 24), (2, .ref 215), (3, .ref 453), (4, .int i)] [.int b] N2 (dc + c1 + c2) (ds + s1 + s2) o
  refine jt_sgp 2 (pc1 := 202) (lv1 := [(6, .int b), (5, .int k), (0, .ref 0), (1, .ref 24), (2, .ref 215), (3, .ref 453), (4, .int i)]) (st1 := [.ref 215]) rfl ?_
  refine jt_callv (k := 37) (m2 := jp_M_thrown) (As := []) (b := 215) (r := []) (mx := 1) rfl rfl rfl h2 (Nat.le_of_ble_eq_true rfl) rfl rfl rfl (by decide) (by decide) (Nat.le_of_ble_eq_true rfl) (jl_thrown h2 _ _) ?_
  show jt jp_W_law 15 592 205 [(6, .int b), (5, .int k), (0, .ref 0), (1, .ref 24), (2, .ref 215), (3, .ref 453), (4, .int i)] [.int k] N2 (dc + c1 + c2) (ds + s1 + s2) o
  refine jt_sgp 1 (pc1 := 207) (lv1 := [(6, .int b), (5, .int k), (0, .ref 0), (1, .ref 24), (2, .ref 215), (3, .ref 453), (4, .int i)]) (st1 := [.int k, .int k]) rfl ?_
  refine jt_icmp_eq (t := 212) rfl rfl (fun _ => ?_) (fun q_ => absurd rfl q_)
  refine jt_sgp 1 (pc1 := 214) (lv1 := [(6, .int b), (5, .int k), (0, .ref 0), (1, .ref 24), (2, .ref 215), (3, .ref 453), (4, .int i)]) (st1 := [.int k]) rfl ?_
  refine jt_if_ne (t := 229) rfl rfl (fun _ => ?_) (fun z_ => ?_)
  · refine jt_sgp 1 (pc1 := 1771) (lv1 := [(6, .int b), (5, .int k), (0, .ref 0), (1, .ref 24), (2, .ref 215), (3, .ref 453), (4, .int i)]) (st1 := []) rfl ?_
    refine jt_lvs (l1 := [(0, .ref 0), (1, .ref 24), (2, .ref 215), (3, .ref 453), (4, .int i)]) rfl rfl ⟨rfl, rfl, rfl, rfl, rfl, trivial⟩ ?_
    exact kk
  · refine jt_sgp 2 (pc1 := 219) (lv1 := [(6, .int b), (5, .int k), (0, .ref 0), (1, .ref 24), (2, .ref 215), (3, .ref 453), (4, .int i)]) (st1 := [.int 0, .ref 453]) rfl ?_
    refine jt_lald rfl ho (by unfold vp_in; decide) ?_
    show jt jp_W_law 15 592 220 [(6, .int b), (5, .int k), (0, .ref 0), (1, .ref 24), (2, .ref 215), (3, .ref 453), (4, .int i)] [.long v] N2 (dc + c1 + c2) (ds + s1 + s2) o
    refine jt_sgp 3 (pc1 := 224) (lv1 := [(6, .int b), (5, .int k), (0, .ref 0), (1, .ref 24), (2, .ref 215), (3, .ref 453), (4, .int i)]) (st1 := [.int (lg_cmp v ((b : Int32).toInt64))]) rfl ?_
    refine jt_lif_eq (t := 229) rfl rfl (fun _ => ?_) (fun q_ => absurd (hq z_) q_)
    refine jt_sgp 1 (pc1 := 1771) (lv1 := [(6, .int b), (5, .int k), (0, .ref 0), (1, .ref 24), (2, .ref 215), (3, .ref 453), (4, .int i)]) (st1 := []) rfl ?_
    refine jt_lvs (l1 := [(0, .ref 0), (1, .ref 24), (2, .ref 215), (3, .ref 453), (4, .int i)]) rfl rfl ⟨rfl, rfl, rfl, rfl, rfl, trivial⟩ ?_
    exact kk
set_option maxRecDepth 20000 in
theorem jl_case_end {N N1 N2 : jx_H} {L : Nat} {xs : Nat → Int32} {i k : Int32} {fs1 r2 : List Value} {b : Int32} {v : Int64} {c1 s1 c2 s2 dc ds : Nat} {o : jx_O} (hs : N[0]? = some (200, jx_vi L xs)) (hs1 : N1[0]? = some (200, jx_vi L xs)) (v0 : vp_in (i + 1) L) (hc : jt jp_W_end 14 569 0 [(0, .ref 24), (1, .int (xs (i + 1 : Int32).toNatClampNeg)), (2, .ref 453)] [] N 0 0 (.inl (some (.int k)), N1, c1, s1)) (h1 : N1[215]? = some (9, fs1)) (hm : jt jp_M_end 14 571 0 [(0, .ref 215), (1, .int (xs (i + 1 : Int32).toNatClampNeg))] [] N1 0 0 (.inl (some (.int b)), N2, c2, s2)) (h2 : N2[215]? = some (9, .int k :: r2)) (ho : N2[453]? = some (jl_out v)) (hq : k = 0 → v = b.toInt64) (kk : jt jp_W_law 15 592 1771 [(0, .ref 0), (1, .ref 24), (2, .ref 215), (3, .ref 453), (4, .int i)] [] N2 (dc + c1 + c2) (ds + s1 + s2) o) : jt jp_W_law 15 592 232 [(0, .ref 0), (1, .ref 24), (2, .ref 215), (3, .ref 453), (4, .int i)] [] N dc ds o := by
  refine jt_sgp 5 (pc1 := 238) (lv1 := [(0, .ref 0), (1, .ref 24), (2, .ref 215), (3, .ref 453), (4, .int i)]) (st1 := [.int (i + 1), .ref 0, .ref 24]) rfl ?_
  refine jt_iaK rfl hs v0 ?_
  refine jt_sgp 1 (pc1 := 240) (lv1 := [(0, .ref 0), (1, .ref 24), (2, .ref 215), (3, .ref 453), (4, .int i)]) (st1 := [.ref 453, .int (xs (i + 1 : Int32).toNatClampNeg), .ref 24]) rfl ?_
  refine jt_call (k := 168) (m2 := jp_W_end) (As := [.ref 24, .int (xs (i + 1 : Int32).toNatClampNeg), .ref 453]) (r := []) (mx := 4) rfl rfl rfl rfl rfl (by decide) (by decide) (Nat.le_of_ble_eq_true rfl) hc ?_
  show jt jp_W_law 15 592 243 [(0, .ref 0), (1, .ref 24), (2, .ref 215), (3, .ref 453), (4, .int i)] [.int k] N1 (dc + c1) (ds + s1) o
  refine jt_sgp 6 (pc1 := 251) (lv1 := [(5, .int k), (0, .ref 0), (1, .ref 24), (2, .ref 215), (3, .ref 453), (4, .int i)]) (st1 := [.int (i + 1), .ref 0, .ref 215]) rfl ?_
  refine jt_iaK rfl hs1 v0 ?_
  refine jt_callv (k := 93) (m2 := jp_M_end) (As := [.int (xs (i + 1 : Int32).toNatClampNeg)]) (b := 215) (r := []) (mx := 2) rfl rfl rfl h1 (Nat.le_of_ble_eq_true rfl) rfl rfl rfl (by decide) (by decide) (Nat.le_of_ble_eq_true rfl) hm ?_
  show jt jp_W_law 15 592 255 [(5, .int k), (0, .ref 0), (1, .ref 24), (2, .ref 215), (3, .ref 453), (4, .int i)] [.int b] N2 (dc + c1 + c2) (ds + s1 + s2) o
  refine jt_sgp 2 (pc1 := 258) (lv1 := [(6, .int b), (5, .int k), (0, .ref 0), (1, .ref 24), (2, .ref 215), (3, .ref 453), (4, .int i)]) (st1 := [.ref 215]) rfl ?_
  refine jt_callv (k := 37) (m2 := jp_M_thrown) (As := []) (b := 215) (r := []) (mx := 1) rfl rfl rfl h2 (Nat.le_of_ble_eq_true rfl) rfl rfl rfl (by decide) (by decide) (Nat.le_of_ble_eq_true rfl) (jl_thrown h2 _ _) ?_
  show jt jp_W_law 15 592 261 [(6, .int b), (5, .int k), (0, .ref 0), (1, .ref 24), (2, .ref 215), (3, .ref 453), (4, .int i)] [.int k] N2 (dc + c1 + c2) (ds + s1 + s2) o
  refine jt_sgp 1 (pc1 := 263) (lv1 := [(6, .int b), (5, .int k), (0, .ref 0), (1, .ref 24), (2, .ref 215), (3, .ref 453), (4, .int i)]) (st1 := [.int k, .int k]) rfl ?_
  refine jt_icmp_eq (t := 268) rfl rfl (fun _ => ?_) (fun q_ => absurd rfl q_)
  refine jt_sgp 1 (pc1 := 270) (lv1 := [(6, .int b), (5, .int k), (0, .ref 0), (1, .ref 24), (2, .ref 215), (3, .ref 453), (4, .int i)]) (st1 := [.int k]) rfl ?_
  refine jt_if_ne (t := 285) rfl rfl (fun _ => ?_) (fun z_ => ?_)
  · refine jt_sgp 1 (pc1 := 1771) (lv1 := [(6, .int b), (5, .int k), (0, .ref 0), (1, .ref 24), (2, .ref 215), (3, .ref 453), (4, .int i)]) (st1 := []) rfl ?_
    refine jt_lvs (l1 := [(0, .ref 0), (1, .ref 24), (2, .ref 215), (3, .ref 453), (4, .int i)]) rfl rfl ⟨rfl, rfl, rfl, rfl, rfl, trivial⟩ ?_
    exact kk
  · refine jt_sgp 2 (pc1 := 275) (lv1 := [(6, .int b), (5, .int k), (0, .ref 0), (1, .ref 24), (2, .ref 215), (3, .ref 453), (4, .int i)]) (st1 := [.int 0, .ref 453]) rfl ?_
    refine jt_lald rfl ho (by unfold vp_in; decide) ?_
    show jt jp_W_law 15 592 276 [(6, .int b), (5, .int k), (0, .ref 0), (1, .ref 24), (2, .ref 215), (3, .ref 453), (4, .int i)] [.long v] N2 (dc + c1 + c2) (ds + s1 + s2) o
    refine jt_sgp 3 (pc1 := 280) (lv1 := [(6, .int b), (5, .int k), (0, .ref 0), (1, .ref 24), (2, .ref 215), (3, .ref 453), (4, .int i)]) (st1 := [.int (lg_cmp v ((b : Int32).toInt64))]) rfl ?_
    refine jt_lif_eq (t := 285) rfl rfl (fun _ => ?_) (fun q_ => absurd (hq z_) q_)
    refine jt_sgp 1 (pc1 := 1771) (lv1 := [(6, .int b), (5, .int k), (0, .ref 0), (1, .ref 24), (2, .ref 215), (3, .ref 453), (4, .int i)]) (st1 := []) rfl ?_
    refine jt_lvs (l1 := [(0, .ref 0), (1, .ref 24), (2, .ref 215), (3, .ref 453), (4, .int i)]) rfl rfl ⟨rfl, rfl, rfl, rfl, rfl, trivial⟩ ?_
    exact kk
set_option maxRecDepth 20000 in
theorem jl_case_zone {N N1 N2 : jx_H} {L : Nat} {xs : Nat → Int32} {i k : Int32} {fs1 r2 : List Value} {c1 s1 c2 s2 dc ds : Nat} {o : jx_O} (hs : N[0]? = some (200, jx_vi L xs)) (hs1 : N1[0]? = some (200, jx_vi L xs)) (v0 : vp_in (i + 1) L) (hc : jt jp_W_zone 14 570 0 [(0, .ref 24), (1, .int (xs (i + 1 : Int32).toNatClampNeg))] [] N 0 0 (.inl (some (.int k)), N1, c1, s1)) (h1 : N1[215]? = some (9, fs1)) (hm : jt jp_M_zone 14 570 0 [(0, .ref 215), (1, .int (xs (i + 1 : Int32).toNatClampNeg))] [] N1 0 0 (.inl none, N2, c2, s2)) (h2 : N2[215]? = some (9, .int k :: r2)) (kk : jt jp_W_law 15 592 1771 [(0, .ref 0), (1, .ref 24), (2, .ref 215), (3, .ref 453), (4, .int i)] [] N2 (dc + c1 + c2) (ds + s1 + s2) o) : jt jp_W_law 15 592 288 [(0, .ref 0), (1, .ref 24), (2, .ref 215), (3, .ref 453), (4, .int i)] [] N dc ds o := by
  refine jt_sgp 5 (pc1 := 294) (lv1 := [(0, .ref 0), (1, .ref 24), (2, .ref 215), (3, .ref 453), (4, .int i)]) (st1 := [.int (i + 1), .ref 0, .ref 24]) rfl ?_
  refine jt_iaK rfl hs v0 ?_
  refine jt_call (k := 169) (m2 := jp_W_zone) (As := [.ref 24, .int (xs (i + 1 : Int32).toNatClampNeg)]) (r := []) (mx := 3) rfl rfl rfl rfl rfl (by decide) (by decide) (Nat.le_of_ble_eq_true rfl) hc ?_
  show jt jp_W_law 15 592 298 [(0, .ref 0), (1, .ref 24), (2, .ref 215), (3, .ref 453), (4, .int i)] [.int k] N1 (dc + c1) (ds + s1) o
  refine jt_sgp 6 (pc1 := 306) (lv1 := [(5, .int k), (0, .ref 0), (1, .ref 24), (2, .ref 215), (3, .ref 453), (4, .int i)]) (st1 := [.int (i + 1), .ref 0, .ref 215]) rfl ?_
  refine jt_iaK rfl hs1 v0 ?_
  refine jt_callv (k := 53) (m2 := jp_M_zone) (As := [.int (xs (i + 1 : Int32).toNatClampNeg)]) (b := 215) (r := []) (mx := 3) rfl rfl rfl h1 (Nat.le_of_ble_eq_true rfl) rfl rfl rfl (by decide) (by decide) (Nat.le_of_ble_eq_true rfl) hm ?_
  show jt jp_W_law 15 592 310 [(5, .int k), (0, .ref 0), (1, .ref 24), (2, .ref 215), (3, .ref 453), (4, .int i)] [] N2 (dc + c1 + c2) (ds + s1 + s2) o
  refine jt_sgp 1 (pc1 := 311) (lv1 := [(5, .int k), (0, .ref 0), (1, .ref 24), (2, .ref 215), (3, .ref 453), (4, .int i)]) (st1 := [.ref 215]) rfl ?_
  refine jt_callv (k := 37) (m2 := jp_M_thrown) (As := []) (b := 215) (r := []) (mx := 1) rfl rfl rfl h2 (Nat.le_of_ble_eq_true rfl) rfl rfl rfl (by decide) (by decide) (Nat.le_of_ble_eq_true rfl) (jl_thrown h2 _ _) ?_
  show jt jp_W_law 15 592 314 [(5, .int k), (0, .ref 0), (1, .ref 24), (2, .ref 215), (3, .ref 453), (4, .int i)] [.int k] N2 (dc + c1 + c2) (ds + s1 + s2) o
  refine jt_sgp 1 (pc1 := 316) (lv1 := [(5, .int k), (0, .ref 0), (1, .ref 24), (2, .ref 215), (3, .ref 453), (4, .int i)]) (st1 := [.int k, .int k]) rfl ?_
  refine jt_icmp_eq (t := 321) rfl rfl (fun _ => ?_) (fun q_ => absurd rfl q_)
  refine jt_sgp 1 (pc1 := 1771) (lv1 := [(5, .int k), (0, .ref 0), (1, .ref 24), (2, .ref 215), (3, .ref 453), (4, .int i)]) (st1 := []) rfl ?_
  refine jt_lvs (l1 := [(0, .ref 0), (1, .ref 24), (2, .ref 215), (3, .ref 453), (4, .int i)]) rfl rfl ⟨rfl, rfl, rfl, rfl, rfl, trivial⟩ ?_
  exact kk
set_option maxRecDepth 20000 in
theorem jl_case_cron {N N1 N2 : jx_H} {L : Nat} {xs : Nat → Int32} {i k : Int32} {fs1 r2 : List Value} {c1 s1 c2 s2 dc ds : Nat} {o : jx_O} (hs : N[0]? = some (200, jx_vi L xs)) (hs1 : N1[0]? = some (200, jx_vi L xs)) (v0 : vp_in (i + 1) L) (hc : jt jp_W_cron 14 570 0 [(0, .ref 24), (1, .int (xs (i + 1 : Int32).toNatClampNeg))] [] N 0 0 (.inl (some (.int k)), N1, c1, s1)) (h1 : N1[215]? = some (9, fs1)) (hm : jt jp_M_cron 14 570 0 [(0, .ref 215), (1, .int (xs (i + 1 : Int32).toNatClampNeg))] [] N1 0 0 (.inl none, N2, c2, s2)) (h2 : N2[215]? = some (9, .int k :: r2)) (kk : jt jp_W_law 15 592 1771 [(0, .ref 0), (1, .ref 24), (2, .ref 215), (3, .ref 453), (4, .int i)] [] N2 (dc + c1 + c2) (ds + s1 + s2) o) : jt jp_W_law 15 592 324 [(0, .ref 0), (1, .ref 24), (2, .ref 215), (3, .ref 453), (4, .int i)] [] N dc ds o := by
  refine jt_sgp 5 (pc1 := 330) (lv1 := [(0, .ref 0), (1, .ref 24), (2, .ref 215), (3, .ref 453), (4, .int i)]) (st1 := [.int (i + 1), .ref 0, .ref 24]) rfl ?_
  refine jt_iaK rfl hs v0 ?_
  refine jt_call (k := 170) (m2 := jp_W_cron) (As := [.ref 24, .int (xs (i + 1 : Int32).toNatClampNeg)]) (r := []) (mx := 3) rfl rfl rfl rfl rfl (by decide) (by decide) (Nat.le_of_ble_eq_true rfl) hc ?_
  show jt jp_W_law 15 592 334 [(0, .ref 0), (1, .ref 24), (2, .ref 215), (3, .ref 453), (4, .int i)] [.int k] N1 (dc + c1) (ds + s1) o
  refine jt_sgp 6 (pc1 := 342) (lv1 := [(5, .int k), (0, .ref 0), (1, .ref 24), (2, .ref 215), (3, .ref 453), (4, .int i)]) (st1 := [.int (i + 1), .ref 0, .ref 215]) rfl ?_
  refine jt_iaK rfl hs1 v0 ?_
  refine jt_callv (k := 63) (m2 := jp_M_cron) (As := [.int (xs (i + 1 : Int32).toNatClampNeg)]) (b := 215) (r := []) (mx := 3) rfl rfl rfl h1 (Nat.le_of_ble_eq_true rfl) rfl rfl rfl (by decide) (by decide) (Nat.le_of_ble_eq_true rfl) hm ?_
  show jt jp_W_law 15 592 346 [(5, .int k), (0, .ref 0), (1, .ref 24), (2, .ref 215), (3, .ref 453), (4, .int i)] [] N2 (dc + c1 + c2) (ds + s1 + s2) o
  refine jt_sgp 1 (pc1 := 347) (lv1 := [(5, .int k), (0, .ref 0), (1, .ref 24), (2, .ref 215), (3, .ref 453), (4, .int i)]) (st1 := [.ref 215]) rfl ?_
  refine jt_callv (k := 37) (m2 := jp_M_thrown) (As := []) (b := 215) (r := []) (mx := 1) rfl rfl rfl h2 (Nat.le_of_ble_eq_true rfl) rfl rfl rfl (by decide) (by decide) (Nat.le_of_ble_eq_true rfl) (jl_thrown h2 _ _) ?_
  show jt jp_W_law 15 592 350 [(5, .int k), (0, .ref 0), (1, .ref 24), (2, .ref 215), (3, .ref 453), (4, .int i)] [.int k] N2 (dc + c1 + c2) (ds + s1 + s2) o
  refine jt_sgp 1 (pc1 := 352) (lv1 := [(5, .int k), (0, .ref 0), (1, .ref 24), (2, .ref 215), (3, .ref 453), (4, .int i)]) (st1 := [.int k, .int k]) rfl ?_
  refine jt_icmp_eq (t := 357) rfl rfl (fun _ => ?_) (fun q_ => absurd rfl q_)
  refine jt_sgp 1 (pc1 := 1771) (lv1 := [(5, .int k), (0, .ref 0), (1, .ref 24), (2, .ref 215), (3, .ref 453), (4, .int i)]) (st1 := []) rfl ?_
  refine jt_lvs (l1 := [(0, .ref 0), (1, .ref 24), (2, .ref 215), (3, .ref 453), (4, .int i)]) rfl rfl ⟨rfl, rfl, rfl, rfl, rfl, trivial⟩ ?_
  exact kk
set_option maxRecDepth 20000 in
theorem jl_case_holiday_0 {N N1 N2 : jx_H} {L : Nat} {xs : Nat → Int32} {i k : Int32} {fs1 r2 : List Value} {b : Int32} {v : Int64} {c1 s1 c2 s2 dc ds : Nat} {o : jx_O} (hs : N[0]? = some (200, jx_vi L xs)) (hs1 : N1[0]? = some (200, jx_vi L xs)) (v0 : vp_in (i + 1) L) (v1 : vp_in (i + 2) L) (v2 : vp_in (i + 3) L) (b3 : (xs (i + 3 : Int32).toNatClampNeg) = 0) (hc : jt jp_W_holiday 14 567 0 [(0, .ref 24), (1, .int (xs (i + 1 : Int32).toNatClampNeg)), (2, .int (xs (i + 2 : Int32).toNatClampNeg)), (3, .int 0), (4, .ref 453)] [] N 0 0 (.inl (some (.int k)), N1, c1, s1)) (h1 : N1[215]? = some (9, fs1)) (hm : jt jp_M_holiday 14 569 0 [(0, .ref 215), (1, .int (xs (i + 1 : Int32).toNatClampNeg)), (2, .int (xs (i + 2 : Int32).toNatClampNeg)), (3, .int 0)] [] N1 0 0 (.inl (some (.int b)), N2, c2, s2)) (h2 : N2[215]? = some (9, .int k :: r2)) (ho : N2[453]? = some (jl_out v)) (hq : k = 0 → v = b.toInt64) (kk : jt jp_W_law 15 592 1771 [(0, .ref 0), (1, .ref 24), (2, .ref 215), (3, .ref 453), (4, .int i)] [] N2 (dc + c1 + c2) (ds + s1 + s2) o) : jt jp_W_law 15 592 360 [(0, .ref 0), (1, .ref 24), (2, .ref 215), (3, .ref 453), (4, .int i)] [] N dc ds o := by
  refine jt_sgp 5 (pc1 := 366) (lv1 := [(0, .ref 0), (1, .ref 24), (2, .ref 215), (3, .ref 453), (4, .int i)]) (st1 := [.int (i + 1), .ref 0, .ref 24]) rfl ?_
  refine jt_iaK rfl hs v0 ?_
  refine jt_sgp 4 (pc1 := 372) (lv1 := [(0, .ref 0), (1, .ref 24), (2, .ref 215), (3, .ref 453), (4, .int i)]) (st1 := [.int (i + 2), .ref 0, .int (xs (i + 1 : Int32).toNatClampNeg), .ref 24]) rfl ?_
  refine jt_iaK rfl hs v1 ?_
  refine jt_sgp 4 (pc1 := 378) (lv1 := [(0, .ref 0), (1, .ref 24), (2, .ref 215), (3, .ref 453), (4, .int i)]) (st1 := [.int (i + 3), .ref 0, .int (xs (i + 2 : Int32).toNatClampNeg), .int (xs (i + 1 : Int32).toNatClampNeg), .ref 24]) rfl ?_
  refine jt_iaK rfl hs v2 ?_
  refine jt_if_eq (t := 386) rfl rfl (fun _ => ?_) (fun q_ => absurd b3 q_)
  refine jt_sgp 2 (pc1 := 388) (lv1 := [(0, .ref 0), (1, .ref 24), (2, .ref 215), (3, .ref 453), (4, .int i)]) (st1 := [.ref 453, .int 0, .int (xs (i + 2 : Int32).toNatClampNeg), .int (xs (i + 1 : Int32).toNatClampNeg), .ref 24]) rfl ?_
  refine jt_call (k := 171) (m2 := jp_W_holiday) (As := [.ref 24, .int (xs (i + 1 : Int32).toNatClampNeg), .int (xs (i + 2 : Int32).toNatClampNeg), .int 0, .ref 453]) (r := []) (mx := 6) rfl rfl rfl rfl rfl (by decide) (by decide) (Nat.le_of_ble_eq_true rfl) hc ?_
  show jt jp_W_law 15 592 391 [(0, .ref 0), (1, .ref 24), (2, .ref 215), (3, .ref 453), (4, .int i)] [.int k] N1 (dc + c1) (ds + s1) o
  refine jt_sgp 6 (pc1 := 399) (lv1 := [(5, .int k), (0, .ref 0), (1, .ref 24), (2, .ref 215), (3, .ref 453), (4, .int i)]) (st1 := [.int (i + 1), .ref 0, .ref 215]) rfl ?_
  refine jt_iaK rfl hs1 v0 ?_
  refine jt_sgp 4 (pc1 := 405) (lv1 := [(5, .int k), (0, .ref 0), (1, .ref 24), (2, .ref 215), (3, .ref 453), (4, .int i)]) (st1 := [.int (i + 2), .ref 0, .int (xs (i + 1 : Int32).toNatClampNeg), .ref 215]) rfl ?_
  refine jt_iaK rfl hs1 v1 ?_
  refine jt_sgp 4 (pc1 := 411) (lv1 := [(5, .int k), (0, .ref 0), (1, .ref 24), (2, .ref 215), (3, .ref 453), (4, .int i)]) (st1 := [.int (i + 3), .ref 0, .int (xs (i + 2 : Int32).toNatClampNeg), .int (xs (i + 1 : Int32).toNatClampNeg), .ref 215]) rfl ?_
  refine jt_iaK rfl hs1 v2 ?_
  refine jt_if_eq (t := 419) rfl rfl (fun _ => ?_) (fun q_ => absurd b3 q_)
  refine jt_sgp 1 (pc1 := 420) (lv1 := [(5, .int k), (0, .ref 0), (1, .ref 24), (2, .ref 215), (3, .ref 453), (4, .int i)]) (st1 := [.int 0, .int (xs (i + 2 : Int32).toNatClampNeg), .int (xs (i + 1 : Int32).toNatClampNeg), .ref 215]) rfl ?_
  refine jt_callv (k := 64) (m2 := jp_M_holiday) (As := [.int (xs (i + 1 : Int32).toNatClampNeg), .int (xs (i + 2 : Int32).toNatClampNeg), .int 0]) (b := 215) (r := []) (mx := 4) rfl rfl rfl h1 (Nat.le_of_ble_eq_true rfl) rfl rfl rfl (by decide) (by decide) (Nat.le_of_ble_eq_true rfl) hm ?_
  show jt jp_W_law 15 592 423 [(5, .int k), (0, .ref 0), (1, .ref 24), (2, .ref 215), (3, .ref 453), (4, .int i)] [.int b] N2 (dc + c1 + c2) (ds + s1 + s2) o
  refine jt_sgp 2 (pc1 := 426) (lv1 := [(6, .int b), (5, .int k), (0, .ref 0), (1, .ref 24), (2, .ref 215), (3, .ref 453), (4, .int i)]) (st1 := [.ref 215]) rfl ?_
  refine jt_callv (k := 37) (m2 := jp_M_thrown) (As := []) (b := 215) (r := []) (mx := 1) rfl rfl rfl h2 (Nat.le_of_ble_eq_true rfl) rfl rfl rfl (by decide) (by decide) (Nat.le_of_ble_eq_true rfl) (jl_thrown h2 _ _) ?_
  show jt jp_W_law 15 592 429 [(6, .int b), (5, .int k), (0, .ref 0), (1, .ref 24), (2, .ref 215), (3, .ref 453), (4, .int i)] [.int k] N2 (dc + c1 + c2) (ds + s1 + s2) o
  refine jt_sgp 1 (pc1 := 431) (lv1 := [(6, .int b), (5, .int k), (0, .ref 0), (1, .ref 24), (2, .ref 215), (3, .ref 453), (4, .int i)]) (st1 := [.int k, .int k]) rfl ?_
  refine jt_icmp_eq (t := 436) rfl rfl (fun _ => ?_) (fun q_ => absurd rfl q_)
  refine jt_sgp 1 (pc1 := 438) (lv1 := [(6, .int b), (5, .int k), (0, .ref 0), (1, .ref 24), (2, .ref 215), (3, .ref 453), (4, .int i)]) (st1 := [.int k]) rfl ?_
  refine jt_if_ne (t := 453) rfl rfl (fun _ => ?_) (fun z_ => ?_)
  · refine jt_sgp 1 (pc1 := 1771) (lv1 := [(6, .int b), (5, .int k), (0, .ref 0), (1, .ref 24), (2, .ref 215), (3, .ref 453), (4, .int i)]) (st1 := []) rfl ?_
    refine jt_lvs (l1 := [(0, .ref 0), (1, .ref 24), (2, .ref 215), (3, .ref 453), (4, .int i)]) rfl rfl ⟨rfl, rfl, rfl, rfl, rfl, trivial⟩ ?_
    exact kk
  · refine jt_sgp 2 (pc1 := 443) (lv1 := [(6, .int b), (5, .int k), (0, .ref 0), (1, .ref 24), (2, .ref 215), (3, .ref 453), (4, .int i)]) (st1 := [.int 0, .ref 453]) rfl ?_
    refine jt_lald rfl ho (by unfold vp_in; decide) ?_
    show jt jp_W_law 15 592 444 [(6, .int b), (5, .int k), (0, .ref 0), (1, .ref 24), (2, .ref 215), (3, .ref 453), (4, .int i)] [.long v] N2 (dc + c1 + c2) (ds + s1 + s2) o
    refine jt_sgp 3 (pc1 := 448) (lv1 := [(6, .int b), (5, .int k), (0, .ref 0), (1, .ref 24), (2, .ref 215), (3, .ref 453), (4, .int i)]) (st1 := [.int (lg_cmp v ((b : Int32).toInt64))]) rfl ?_
    refine jt_lif_eq (t := 453) rfl rfl (fun _ => ?_) (fun q_ => absurd (hq z_) q_)
    refine jt_sgp 1 (pc1 := 1771) (lv1 := [(6, .int b), (5, .int k), (0, .ref 0), (1, .ref 24), (2, .ref 215), (3, .ref 453), (4, .int i)]) (st1 := []) rfl ?_
    refine jt_lvs (l1 := [(0, .ref 0), (1, .ref 24), (2, .ref 215), (3, .ref 453), (4, .int i)]) rfl rfl ⟨rfl, rfl, rfl, rfl, rfl, trivial⟩ ?_
    exact kk
set_option maxRecDepth 20000 in
theorem jl_case_holiday_1 {N N1 N2 : jx_H} {L : Nat} {xs : Nat → Int32} {i k : Int32} {fs1 r2 : List Value} {b : Int32} {v : Int64} {c1 s1 c2 s2 dc ds : Nat} {o : jx_O} (hs : N[0]? = some (200, jx_vi L xs)) (hs1 : N1[0]? = some (200, jx_vi L xs)) (v0 : vp_in (i + 1) L) (v1 : vp_in (i + 2) L) (v2 : vp_in (i + 3) L) (b3 : ¬ (xs (i + 3 : Int32).toNatClampNeg) = 0) (hc : jt jp_W_holiday 14 567 0 [(0, .ref 24), (1, .int (xs (i + 1 : Int32).toNatClampNeg)), (2, .int (xs (i + 2 : Int32).toNatClampNeg)), (3, .int 1), (4, .ref 453)] [] N 0 0 (.inl (some (.int k)), N1, c1, s1)) (h1 : N1[215]? = some (9, fs1)) (hm : jt jp_M_holiday 14 569 0 [(0, .ref 215), (1, .int (xs (i + 1 : Int32).toNatClampNeg)), (2, .int (xs (i + 2 : Int32).toNatClampNeg)), (3, .int 1)] [] N1 0 0 (.inl (some (.int b)), N2, c2, s2)) (h2 : N2[215]? = some (9, .int k :: r2)) (ho : N2[453]? = some (jl_out v)) (hq : k = 0 → v = b.toInt64) (kk : jt jp_W_law 15 592 1771 [(0, .ref 0), (1, .ref 24), (2, .ref 215), (3, .ref 453), (4, .int i)] [] N2 (dc + c1 + c2) (ds + s1 + s2) o) : jt jp_W_law 15 592 360 [(0, .ref 0), (1, .ref 24), (2, .ref 215), (3, .ref 453), (4, .int i)] [] N dc ds o := by
  refine jt_sgp 5 (pc1 := 366) (lv1 := [(0, .ref 0), (1, .ref 24), (2, .ref 215), (3, .ref 453), (4, .int i)]) (st1 := [.int (i + 1), .ref 0, .ref 24]) rfl ?_
  refine jt_iaK rfl hs v0 ?_
  refine jt_sgp 4 (pc1 := 372) (lv1 := [(0, .ref 0), (1, .ref 24), (2, .ref 215), (3, .ref 453), (4, .int i)]) (st1 := [.int (i + 2), .ref 0, .int (xs (i + 1 : Int32).toNatClampNeg), .ref 24]) rfl ?_
  refine jt_iaK rfl hs v1 ?_
  refine jt_sgp 4 (pc1 := 378) (lv1 := [(0, .ref 0), (1, .ref 24), (2, .ref 215), (3, .ref 453), (4, .int i)]) (st1 := [.int (i + 3), .ref 0, .int (xs (i + 2 : Int32).toNatClampNeg), .int (xs (i + 1 : Int32).toNatClampNeg), .ref 24]) rfl ?_
  refine jt_iaK rfl hs v2 ?_
  refine jt_if_eq (t := 386) rfl rfl (fun q_ => absurd q_ b3) (fun _ => ?_)
  refine jt_sgp 3 (pc1 := 388) (lv1 := [(0, .ref 0), (1, .ref 24), (2, .ref 215), (3, .ref 453), (4, .int i)]) (st1 := [.ref 453, .int 1, .int (xs (i + 2 : Int32).toNatClampNeg), .int (xs (i + 1 : Int32).toNatClampNeg), .ref 24]) rfl ?_
  refine jt_call (k := 171) (m2 := jp_W_holiday) (As := [.ref 24, .int (xs (i + 1 : Int32).toNatClampNeg), .int (xs (i + 2 : Int32).toNatClampNeg), .int 1, .ref 453]) (r := []) (mx := 6) rfl rfl rfl rfl rfl (by decide) (by decide) (Nat.le_of_ble_eq_true rfl) hc ?_
  show jt jp_W_law 15 592 391 [(0, .ref 0), (1, .ref 24), (2, .ref 215), (3, .ref 453), (4, .int i)] [.int k] N1 (dc + c1) (ds + s1) o
  refine jt_sgp 6 (pc1 := 399) (lv1 := [(5, .int k), (0, .ref 0), (1, .ref 24), (2, .ref 215), (3, .ref 453), (4, .int i)]) (st1 := [.int (i + 1), .ref 0, .ref 215]) rfl ?_
  refine jt_iaK rfl hs1 v0 ?_
  refine jt_sgp 4 (pc1 := 405) (lv1 := [(5, .int k), (0, .ref 0), (1, .ref 24), (2, .ref 215), (3, .ref 453), (4, .int i)]) (st1 := [.int (i + 2), .ref 0, .int (xs (i + 1 : Int32).toNatClampNeg), .ref 215]) rfl ?_
  refine jt_iaK rfl hs1 v1 ?_
  refine jt_sgp 4 (pc1 := 411) (lv1 := [(5, .int k), (0, .ref 0), (1, .ref 24), (2, .ref 215), (3, .ref 453), (4, .int i)]) (st1 := [.int (i + 3), .ref 0, .int (xs (i + 2 : Int32).toNatClampNeg), .int (xs (i + 1 : Int32).toNatClampNeg), .ref 215]) rfl ?_
  refine jt_iaK rfl hs1 v2 ?_
  refine jt_if_eq (t := 419) rfl rfl (fun q_ => absurd q_ b3) (fun _ => ?_)
  refine jt_sgp 2 (pc1 := 420) (lv1 := [(5, .int k), (0, .ref 0), (1, .ref 24), (2, .ref 215), (3, .ref 453), (4, .int i)]) (st1 := [.int 1, .int (xs (i + 2 : Int32).toNatClampNeg), .int (xs (i + 1 : Int32).toNatClampNeg), .ref 215]) rfl ?_
  refine jt_callv (k := 64) (m2 := jp_M_holiday) (As := [.int (xs (i + 1 : Int32).toNatClampNeg), .int (xs (i + 2 : Int32).toNatClampNeg), .int 1]) (b := 215) (r := []) (mx := 4) rfl rfl rfl h1 (Nat.le_of_ble_eq_true rfl) rfl rfl rfl (by decide) (by decide) (Nat.le_of_ble_eq_true rfl) hm ?_
  show jt jp_W_law 15 592 423 [(5, .int k), (0, .ref 0), (1, .ref 24), (2, .ref 215), (3, .ref 453), (4, .int i)] [.int b] N2 (dc + c1 + c2) (ds + s1 + s2) o
  refine jt_sgp 2 (pc1 := 426) (lv1 := [(6, .int b), (5, .int k), (0, .ref 0), (1, .ref 24), (2, .ref 215), (3, .ref 453), (4, .int i)]) (st1 := [.ref 215]) rfl ?_
  refine jt_callv (k := 37) (m2 := jp_M_thrown) (As := []) (b := 215) (r := []) (mx := 1) rfl rfl rfl h2 (Nat.le_of_ble_eq_true rfl) rfl rfl rfl (by decide) (by decide) (Nat.le_of_ble_eq_true rfl) (jl_thrown h2 _ _) ?_
  show jt jp_W_law 15 592 429 [(6, .int b), (5, .int k), (0, .ref 0), (1, .ref 24), (2, .ref 215), (3, .ref 453), (4, .int i)] [.int k] N2 (dc + c1 + c2) (ds + s1 + s2) o
  refine jt_sgp 1 (pc1 := 431) (lv1 := [(6, .int b), (5, .int k), (0, .ref 0), (1, .ref 24), (2, .ref 215), (3, .ref 453), (4, .int i)]) (st1 := [.int k, .int k]) rfl ?_
  refine jt_icmp_eq (t := 436) rfl rfl (fun _ => ?_) (fun q_ => absurd rfl q_)
  refine jt_sgp 1 (pc1 := 438) (lv1 := [(6, .int b), (5, .int k), (0, .ref 0), (1, .ref 24), (2, .ref 215), (3, .ref 453), (4, .int i)]) (st1 := [.int k]) rfl ?_
  refine jt_if_ne (t := 453) rfl rfl (fun _ => ?_) (fun z_ => ?_)
  · refine jt_sgp 1 (pc1 := 1771) (lv1 := [(6, .int b), (5, .int k), (0, .ref 0), (1, .ref 24), (2, .ref 215), (3, .ref 453), (4, .int i)]) (st1 := []) rfl ?_
    refine jt_lvs (l1 := [(0, .ref 0), (1, .ref 24), (2, .ref 215), (3, .ref 453), (4, .int i)]) rfl rfl ⟨rfl, rfl, rfl, rfl, rfl, trivial⟩ ?_
    exact kk
  · refine jt_sgp 2 (pc1 := 443) (lv1 := [(6, .int b), (5, .int k), (0, .ref 0), (1, .ref 24), (2, .ref 215), (3, .ref 453), (4, .int i)]) (st1 := [.int 0, .ref 453]) rfl ?_
    refine jt_lald rfl ho (by unfold vp_in; decide) ?_
    show jt jp_W_law 15 592 444 [(6, .int b), (5, .int k), (0, .ref 0), (1, .ref 24), (2, .ref 215), (3, .ref 453), (4, .int i)] [.long v] N2 (dc + c1 + c2) (ds + s1 + s2) o
    refine jt_sgp 3 (pc1 := 448) (lv1 := [(6, .int b), (5, .int k), (0, .ref 0), (1, .ref 24), (2, .ref 215), (3, .ref 453), (4, .int i)]) (st1 := [.int (lg_cmp v ((b : Int32).toInt64))]) rfl ?_
    refine jt_lif_eq (t := 453) rfl rfl (fun _ => ?_) (fun q_ => absurd (hq z_) q_)
    refine jt_sgp 1 (pc1 := 1771) (lv1 := [(6, .int b), (5, .int k), (0, .ref 0), (1, .ref 24), (2, .ref 215), (3, .ref 453), (4, .int i)]) (st1 := []) rfl ?_
    refine jt_lvs (l1 := [(0, .ref 0), (1, .ref 24), (2, .ref 215), (3, .ref 453), (4, .int i)]) rfl rfl ⟨rfl, rfl, rfl, rfl, rfl, trivial⟩ ?_
    exact kk
set_option maxRecDepth 20000 in
theorem jl_case_next {N N1 N2 : jx_H} {L : Nat} {xs : Nat → Int32} {i k : Int32} {fs1 r2 : List Value} {b : Int64} {v : Int64} {c1 s1 c2 s2 dc ds : Nat} {o : jx_O} (hs : N[0]? = some (200, jx_vi L xs)) (hs1 : N1[0]? = some (200, jx_vi L xs)) (v0 : vp_in (i + 1) L) (v1 : vp_in (i + 2) L) (v2 : vp_in (i + 3) L) (v3 : vp_in (i + 4) L) (v4 : vp_in (i + 5) L) (hc : jt jp_W_next 14 565 0 [(0, .ref 24), (1, .int (xs (i + 1 : Int32).toNatClampNeg)), (2, .int (xs (i + 2 : Int32).toNatClampNeg)), (3, .int (xs (i + 3 : Int32).toNatClampNeg)), (4, .long ((((xs (i + 4 : Int32).toNatClampNeg : Int32).toInt64 : Int64) <<< ((32 : Int32).toInt64 &&& 63)) ||| (((xs (i + 5 : Int32).toNatClampNeg : Int32).toInt64) &&& 4294967295))), (6, .ref 453)] [] N 0 0 (.inl (some (.int k)), N1, c1, s1)) (h1 : N1[215]? = some (9, fs1)) (hm : jt jp_M_next 14 567 0 [(0, .ref 215), (1, .int (xs (i + 1 : Int32).toNatClampNeg)), (2, .int (xs (i + 2 : Int32).toNatClampNeg)), (3, .int (xs (i + 3 : Int32).toNatClampNeg)), (4, .long ((((xs (i + 4 : Int32).toNatClampNeg : Int32).toInt64 : Int64) <<< ((32 : Int32).toInt64 &&& 63)) ||| (((xs (i + 5 : Int32).toNatClampNeg : Int32).toInt64) &&& 4294967295)))] [] N1 0 0 (.inl (some (.long b)), N2, c2, s2)) (h2 : N2[215]? = some (9, .int k :: r2)) (ho : N2[453]? = some (jl_out v)) (hq : k = 0 → v = b) (kk : jt jp_W_law 15 592 1771 [(0, .ref 0), (1, .ref 24), (2, .ref 215), (3, .ref 453), (4, .int i)] [] N2 (dc + c1 + c2) (ds + s1 + s2) o) : jt jp_W_law 15 592 456 [(0, .ref 0), (1, .ref 24), (2, .ref 215), (3, .ref 453), (4, .int i)] [] N dc ds o := by
  refine jt_sgp 5 (pc1 := 462) (lv1 := [(0, .ref 0), (1, .ref 24), (2, .ref 215), (3, .ref 453), (4, .int i)]) (st1 := [.int (i + 1), .ref 0, .ref 24]) rfl ?_
  refine jt_iaK rfl hs v0 ?_
  refine jt_sgp 4 (pc1 := 468) (lv1 := [(0, .ref 0), (1, .ref 24), (2, .ref 215), (3, .ref 453), (4, .int i)]) (st1 := [.int (i + 2), .ref 0, .int (xs (i + 1 : Int32).toNatClampNeg), .ref 24]) rfl ?_
  refine jt_iaK rfl hs v1 ?_
  refine jt_sgp 4 (pc1 := 474) (lv1 := [(0, .ref 0), (1, .ref 24), (2, .ref 215), (3, .ref 453), (4, .int i)]) (st1 := [.int (i + 3), .ref 0, .int (xs (i + 2 : Int32).toNatClampNeg), .int (xs (i + 1 : Int32).toNatClampNeg), .ref 24]) rfl ?_
  refine jt_iaK rfl hs v2 ?_
  refine jt_sgp 4 (pc1 := 480) (lv1 := [(0, .ref 0), (1, .ref 24), (2, .ref 215), (3, .ref 453), (4, .int i)]) (st1 := [.int (i + 4), .ref 0, .int (xs (i + 3 : Int32).toNatClampNeg), .int (xs (i + 2 : Int32).toNatClampNeg), .int (xs (i + 1 : Int32).toNatClampNeg), .ref 24]) rfl ?_
  refine jt_iaK rfl hs v3 ?_
  refine jt_sgp 7 (pc1 := 490) (lv1 := [(0, .ref 0), (1, .ref 24), (2, .ref 215), (3, .ref 453), (4, .int i)]) (st1 := [.int (i + 5), .ref 0, .long (((xs (i + 4 : Int32).toNatClampNeg : Int32).toInt64 : Int64) <<< ((32 : Int32).toInt64 &&& 63)), .int (xs (i + 3 : Int32).toNatClampNeg), .int (xs (i + 2 : Int32).toNatClampNeg), .int (xs (i + 1 : Int32).toNatClampNeg), .ref 24]) rfl ?_
  refine jt_iaK rfl hs v4 ?_
  refine jt_sgp 5 (pc1 := 498) (lv1 := [(0, .ref 0), (1, .ref 24), (2, .ref 215), (3, .ref 453), (4, .int i)]) (st1 := [.ref 453, .long ((((xs (i + 4 : Int32).toNatClampNeg : Int32).toInt64 : Int64) <<< ((32 : Int32).toInt64 &&& 63)) ||| (((xs (i + 5 : Int32).toNatClampNeg : Int32).toInt64) &&& 4294967295)), .int (xs (i + 3 : Int32).toNatClampNeg), .int (xs (i + 2 : Int32).toNatClampNeg), .int (xs (i + 1 : Int32).toNatClampNeg), .ref 24]) rfl ?_
  refine jt_call (k := 172) (m2 := jp_W_next) (As := [.ref 24, .int (xs (i + 1 : Int32).toNatClampNeg), .int (xs (i + 2 : Int32).toNatClampNeg), .int (xs (i + 3 : Int32).toNatClampNeg), .long ((((xs (i + 4 : Int32).toNatClampNeg : Int32).toInt64 : Int64) <<< ((32 : Int32).toInt64 &&& 63)) ||| (((xs (i + 5 : Int32).toNatClampNeg : Int32).toInt64) &&& 4294967295)), .ref 453]) (r := []) (mx := 8) rfl rfl rfl rfl rfl (by decide) (by decide) (Nat.le_of_ble_eq_true rfl) hc ?_
  show jt jp_W_law 15 592 501 [(0, .ref 0), (1, .ref 24), (2, .ref 215), (3, .ref 453), (4, .int i)] [.int k] N1 (dc + c1) (ds + s1) o
  refine jt_sgp 6 (pc1 := 509) (lv1 := [(5, .int k), (0, .ref 0), (1, .ref 24), (2, .ref 215), (3, .ref 453), (4, .int i)]) (st1 := [.int (i + 1), .ref 0, .ref 215]) rfl ?_
  refine jt_iaK rfl hs1 v0 ?_
  refine jt_sgp 4 (pc1 := 515) (lv1 := [(5, .int k), (0, .ref 0), (1, .ref 24), (2, .ref 215), (3, .ref 453), (4, .int i)]) (st1 := [.int (i + 2), .ref 0, .int (xs (i + 1 : Int32).toNatClampNeg), .ref 215]) rfl ?_
  refine jt_iaK rfl hs1 v1 ?_
  refine jt_sgp 4 (pc1 := 521) (lv1 := [(5, .int k), (0, .ref 0), (1, .ref 24), (2, .ref 215), (3, .ref 453), (4, .int i)]) (st1 := [.int (i + 3), .ref 0, .int (xs (i + 2 : Int32).toNatClampNeg), .int (xs (i + 1 : Int32).toNatClampNeg), .ref 215]) rfl ?_
  refine jt_iaK rfl hs1 v2 ?_
  refine jt_sgp 4 (pc1 := 527) (lv1 := [(5, .int k), (0, .ref 0), (1, .ref 24), (2, .ref 215), (3, .ref 453), (4, .int i)]) (st1 := [.int (i + 4), .ref 0, .int (xs (i + 3 : Int32).toNatClampNeg), .int (xs (i + 2 : Int32).toNatClampNeg), .int (xs (i + 1 : Int32).toNatClampNeg), .ref 215]) rfl ?_
  refine jt_iaK rfl hs1 v3 ?_
  refine jt_sgp 7 (pc1 := 537) (lv1 := [(5, .int k), (0, .ref 0), (1, .ref 24), (2, .ref 215), (3, .ref 453), (4, .int i)]) (st1 := [.int (i + 5), .ref 0, .long (((xs (i + 4 : Int32).toNatClampNeg : Int32).toInt64 : Int64) <<< ((32 : Int32).toInt64 &&& 63)), .int (xs (i + 3 : Int32).toNatClampNeg), .int (xs (i + 2 : Int32).toNatClampNeg), .int (xs (i + 1 : Int32).toNatClampNeg), .ref 215]) rfl ?_
  refine jt_iaK rfl hs1 v4 ?_
  refine jt_sgp 4 (pc1 := 544) (lv1 := [(5, .int k), (0, .ref 0), (1, .ref 24), (2, .ref 215), (3, .ref 453), (4, .int i)]) (st1 := [.long ((((xs (i + 4 : Int32).toNatClampNeg : Int32).toInt64 : Int64) <<< ((32 : Int32).toInt64 &&& 63)) ||| (((xs (i + 5 : Int32).toNatClampNeg : Int32).toInt64) &&& 4294967295)), .int (xs (i + 3 : Int32).toNatClampNeg), .int (xs (i + 2 : Int32).toNatClampNeg), .int (xs (i + 1 : Int32).toNatClampNeg), .ref 215]) rfl ?_
  refine jt_callv (k := 72) (m2 := jp_M_next) (As := [.int (xs (i + 1 : Int32).toNatClampNeg), .int (xs (i + 2 : Int32).toNatClampNeg), .int (xs (i + 3 : Int32).toNatClampNeg), .long ((((xs (i + 4 : Int32).toNatClampNeg : Int32).toInt64 : Int64) <<< ((32 : Int32).toInt64 &&& 63)) ||| (((xs (i + 5 : Int32).toNatClampNeg : Int32).toInt64) &&& 4294967295))]) (b := 215) (r := []) (mx := 6) rfl rfl rfl h1 (Nat.le_of_ble_eq_true rfl) rfl rfl rfl (by decide) (by decide) (Nat.le_of_ble_eq_true rfl) hm ?_
  show jt jp_W_law 15 592 547 [(5, .int k), (0, .ref 0), (1, .ref 24), (2, .ref 215), (3, .ref 453), (4, .int i)] [.long b] N2 (dc + c1 + c2) (ds + s1 + s2) o
  refine jt_sgp 2 (pc1 := 550) (lv1 := [(6, .long b), (5, .int k), (0, .ref 0), (1, .ref 24), (2, .ref 215), (3, .ref 453), (4, .int i)]) (st1 := [.ref 215]) rfl ?_
  refine jt_callv (k := 37) (m2 := jp_M_thrown) (As := []) (b := 215) (r := []) (mx := 1) rfl rfl rfl h2 (Nat.le_of_ble_eq_true rfl) rfl rfl rfl (by decide) (by decide) (Nat.le_of_ble_eq_true rfl) (jl_thrown h2 _ _) ?_
  show jt jp_W_law 15 592 553 [(6, .long b), (5, .int k), (0, .ref 0), (1, .ref 24), (2, .ref 215), (3, .ref 453), (4, .int i)] [.int k] N2 (dc + c1 + c2) (ds + s1 + s2) o
  refine jt_sgp 1 (pc1 := 555) (lv1 := [(6, .long b), (5, .int k), (0, .ref 0), (1, .ref 24), (2, .ref 215), (3, .ref 453), (4, .int i)]) (st1 := [.int k, .int k]) rfl ?_
  refine jt_icmp_eq (t := 560) rfl rfl (fun _ => ?_) (fun q_ => absurd rfl q_)
  refine jt_sgp 1 (pc1 := 562) (lv1 := [(6, .long b), (5, .int k), (0, .ref 0), (1, .ref 24), (2, .ref 215), (3, .ref 453), (4, .int i)]) (st1 := [.int k]) rfl ?_
  refine jt_if_ne (t := 576) rfl rfl (fun _ => ?_) (fun z_ => ?_)
  · refine jt_sgp 1 (pc1 := 1771) (lv1 := [(6, .long b), (5, .int k), (0, .ref 0), (1, .ref 24), (2, .ref 215), (3, .ref 453), (4, .int i)]) (st1 := []) rfl ?_
    refine jt_lvs (l1 := [(0, .ref 0), (1, .ref 24), (2, .ref 215), (3, .ref 453), (4, .int i)]) rfl rfl ⟨rfl, rfl, rfl, rfl, rfl, trivial⟩ ?_
    exact kk
  · refine jt_sgp 2 (pc1 := 567) (lv1 := [(6, .long b), (5, .int k), (0, .ref 0), (1, .ref 24), (2, .ref 215), (3, .ref 453), (4, .int i)]) (st1 := [.int 0, .ref 453]) rfl ?_
    refine jt_lald rfl ho (by unfold vp_in; decide) ?_
    show jt jp_W_law 15 592 568 [(6, .long b), (5, .int k), (0, .ref 0), (1, .ref 24), (2, .ref 215), (3, .ref 453), (4, .int i)] [.long v] N2 (dc + c1 + c2) (ds + s1 + s2) o
    refine jt_sgp 2 (pc1 := 571) (lv1 := [(6, .long b), (5, .int k), (0, .ref 0), (1, .ref 24), (2, .ref 215), (3, .ref 453), (4, .int i)]) (st1 := [.int (lg_cmp v b)]) rfl ?_
    refine jt_lif_eq (t := 576) rfl rfl (fun _ => ?_) (fun q_ => absurd (hq z_) q_)
    refine jt_sgp 1 (pc1 := 1771) (lv1 := [(6, .long b), (5, .int k), (0, .ref 0), (1, .ref 24), (2, .ref 215), (3, .ref 453), (4, .int i)]) (st1 := []) rfl ?_
    refine jt_lvs (l1 := [(0, .ref 0), (1, .ref 24), (2, .ref 215), (3, .ref 453), (4, .int i)]) rfl rfl ⟨rfl, rfl, rfl, rfl, rfl, trivial⟩ ?_
    exact kk
set_option maxRecDepth 20000 in
theorem jl_case_last {N N1 N2 : jx_H} {L : Nat} {xs : Nat → Int32} {i k : Int32} {fs1 r2 : List Value} {b : Int64} {v : Int64} {c1 s1 c2 s2 dc ds : Nat} {o : jx_O} (hs : N[0]? = some (200, jx_vi L xs)) (hs1 : N1[0]? = some (200, jx_vi L xs)) (v0 : vp_in (i + 1) L) (v1 : vp_in (i + 2) L) (v2 : vp_in (i + 3) L) (v3 : vp_in (i + 4) L) (v4 : vp_in (i + 5) L) (hc : jt jp_W_last 14 565 0 [(0, .ref 24), (1, .int (xs (i + 1 : Int32).toNatClampNeg)), (2, .int (xs (i + 2 : Int32).toNatClampNeg)), (3, .int (xs (i + 3 : Int32).toNatClampNeg)), (4, .long ((((xs (i + 4 : Int32).toNatClampNeg : Int32).toInt64 : Int64) <<< ((32 : Int32).toInt64 &&& 63)) ||| (((xs (i + 5 : Int32).toNatClampNeg : Int32).toInt64) &&& 4294967295))), (6, .ref 453)] [] N 0 0 (.inl (some (.int k)), N1, c1, s1)) (h1 : N1[215]? = some (9, fs1)) (hm : jt jp_M_last 14 567 0 [(0, .ref 215), (1, .int (xs (i + 1 : Int32).toNatClampNeg)), (2, .int (xs (i + 2 : Int32).toNatClampNeg)), (3, .int (xs (i + 3 : Int32).toNatClampNeg)), (4, .long ((((xs (i + 4 : Int32).toNatClampNeg : Int32).toInt64 : Int64) <<< ((32 : Int32).toInt64 &&& 63)) ||| (((xs (i + 5 : Int32).toNatClampNeg : Int32).toInt64) &&& 4294967295)))] [] N1 0 0 (.inl (some (.long b)), N2, c2, s2)) (h2 : N2[215]? = some (9, .int k :: r2)) (ho : N2[453]? = some (jl_out v)) (hq : k = 0 → v = b) (kk : jt jp_W_law 15 592 1771 [(0, .ref 0), (1, .ref 24), (2, .ref 215), (3, .ref 453), (4, .int i)] [] N2 (dc + c1 + c2) (ds + s1 + s2) o) : jt jp_W_law 15 592 579 [(0, .ref 0), (1, .ref 24), (2, .ref 215), (3, .ref 453), (4, .int i)] [] N dc ds o := by
  refine jt_sgp 5 (pc1 := 585) (lv1 := [(0, .ref 0), (1, .ref 24), (2, .ref 215), (3, .ref 453), (4, .int i)]) (st1 := [.int (i + 1), .ref 0, .ref 24]) rfl ?_
  refine jt_iaK rfl hs v0 ?_
  refine jt_sgp 4 (pc1 := 591) (lv1 := [(0, .ref 0), (1, .ref 24), (2, .ref 215), (3, .ref 453), (4, .int i)]) (st1 := [.int (i + 2), .ref 0, .int (xs (i + 1 : Int32).toNatClampNeg), .ref 24]) rfl ?_
  refine jt_iaK rfl hs v1 ?_
  refine jt_sgp 4 (pc1 := 597) (lv1 := [(0, .ref 0), (1, .ref 24), (2, .ref 215), (3, .ref 453), (4, .int i)]) (st1 := [.int (i + 3), .ref 0, .int (xs (i + 2 : Int32).toNatClampNeg), .int (xs (i + 1 : Int32).toNatClampNeg), .ref 24]) rfl ?_
  refine jt_iaK rfl hs v2 ?_
  refine jt_sgp 4 (pc1 := 603) (lv1 := [(0, .ref 0), (1, .ref 24), (2, .ref 215), (3, .ref 453), (4, .int i)]) (st1 := [.int (i + 4), .ref 0, .int (xs (i + 3 : Int32).toNatClampNeg), .int (xs (i + 2 : Int32).toNatClampNeg), .int (xs (i + 1 : Int32).toNatClampNeg), .ref 24]) rfl ?_
  refine jt_iaK rfl hs v3 ?_
  refine jt_sgp 7 (pc1 := 613) (lv1 := [(0, .ref 0), (1, .ref 24), (2, .ref 215), (3, .ref 453), (4, .int i)]) (st1 := [.int (i + 5), .ref 0, .long (((xs (i + 4 : Int32).toNatClampNeg : Int32).toInt64 : Int64) <<< ((32 : Int32).toInt64 &&& 63)), .int (xs (i + 3 : Int32).toNatClampNeg), .int (xs (i + 2 : Int32).toNatClampNeg), .int (xs (i + 1 : Int32).toNatClampNeg), .ref 24]) rfl ?_
  refine jt_iaK rfl hs v4 ?_
  refine jt_sgp 5 (pc1 := 621) (lv1 := [(0, .ref 0), (1, .ref 24), (2, .ref 215), (3, .ref 453), (4, .int i)]) (st1 := [.ref 453, .long ((((xs (i + 4 : Int32).toNatClampNeg : Int32).toInt64 : Int64) <<< ((32 : Int32).toInt64 &&& 63)) ||| (((xs (i + 5 : Int32).toNatClampNeg : Int32).toInt64) &&& 4294967295)), .int (xs (i + 3 : Int32).toNatClampNeg), .int (xs (i + 2 : Int32).toNatClampNeg), .int (xs (i + 1 : Int32).toNatClampNeg), .ref 24]) rfl ?_
  refine jt_call (k := 173) (m2 := jp_W_last) (As := [.ref 24, .int (xs (i + 1 : Int32).toNatClampNeg), .int (xs (i + 2 : Int32).toNatClampNeg), .int (xs (i + 3 : Int32).toNatClampNeg), .long ((((xs (i + 4 : Int32).toNatClampNeg : Int32).toInt64 : Int64) <<< ((32 : Int32).toInt64 &&& 63)) ||| (((xs (i + 5 : Int32).toNatClampNeg : Int32).toInt64) &&& 4294967295)), .ref 453]) (r := []) (mx := 8) rfl rfl rfl rfl rfl (by decide) (by decide) (Nat.le_of_ble_eq_true rfl) hc ?_
  show jt jp_W_law 15 592 624 [(0, .ref 0), (1, .ref 24), (2, .ref 215), (3, .ref 453), (4, .int i)] [.int k] N1 (dc + c1) (ds + s1) o
  refine jt_sgp 6 (pc1 := 632) (lv1 := [(5, .int k), (0, .ref 0), (1, .ref 24), (2, .ref 215), (3, .ref 453), (4, .int i)]) (st1 := [.int (i + 1), .ref 0, .ref 215]) rfl ?_
  refine jt_iaK rfl hs1 v0 ?_
  refine jt_sgp 4 (pc1 := 638) (lv1 := [(5, .int k), (0, .ref 0), (1, .ref 24), (2, .ref 215), (3, .ref 453), (4, .int i)]) (st1 := [.int (i + 2), .ref 0, .int (xs (i + 1 : Int32).toNatClampNeg), .ref 215]) rfl ?_
  refine jt_iaK rfl hs1 v1 ?_
  refine jt_sgp 4 (pc1 := 644) (lv1 := [(5, .int k), (0, .ref 0), (1, .ref 24), (2, .ref 215), (3, .ref 453), (4, .int i)]) (st1 := [.int (i + 3), .ref 0, .int (xs (i + 2 : Int32).toNatClampNeg), .int (xs (i + 1 : Int32).toNatClampNeg), .ref 215]) rfl ?_
  refine jt_iaK rfl hs1 v2 ?_
  refine jt_sgp 4 (pc1 := 650) (lv1 := [(5, .int k), (0, .ref 0), (1, .ref 24), (2, .ref 215), (3, .ref 453), (4, .int i)]) (st1 := [.int (i + 4), .ref 0, .int (xs (i + 3 : Int32).toNatClampNeg), .int (xs (i + 2 : Int32).toNatClampNeg), .int (xs (i + 1 : Int32).toNatClampNeg), .ref 215]) rfl ?_
  refine jt_iaK rfl hs1 v3 ?_
  refine jt_sgp 7 (pc1 := 660) (lv1 := [(5, .int k), (0, .ref 0), (1, .ref 24), (2, .ref 215), (3, .ref 453), (4, .int i)]) (st1 := [.int (i + 5), .ref 0, .long (((xs (i + 4 : Int32).toNatClampNeg : Int32).toInt64 : Int64) <<< ((32 : Int32).toInt64 &&& 63)), .int (xs (i + 3 : Int32).toNatClampNeg), .int (xs (i + 2 : Int32).toNatClampNeg), .int (xs (i + 1 : Int32).toNatClampNeg), .ref 215]) rfl ?_
  refine jt_iaK rfl hs1 v4 ?_
  refine jt_sgp 4 (pc1 := 667) (lv1 := [(5, .int k), (0, .ref 0), (1, .ref 24), (2, .ref 215), (3, .ref 453), (4, .int i)]) (st1 := [.long ((((xs (i + 4 : Int32).toNatClampNeg : Int32).toInt64 : Int64) <<< ((32 : Int32).toInt64 &&& 63)) ||| (((xs (i + 5 : Int32).toNatClampNeg : Int32).toInt64) &&& 4294967295)), .int (xs (i + 3 : Int32).toNatClampNeg), .int (xs (i + 2 : Int32).toNatClampNeg), .int (xs (i + 1 : Int32).toNatClampNeg), .ref 215]) rfl ?_
  refine jt_callv (k := 73) (m2 := jp_M_last) (As := [.int (xs (i + 1 : Int32).toNatClampNeg), .int (xs (i + 2 : Int32).toNatClampNeg), .int (xs (i + 3 : Int32).toNatClampNeg), .long ((((xs (i + 4 : Int32).toNatClampNeg : Int32).toInt64 : Int64) <<< ((32 : Int32).toInt64 &&& 63)) ||| (((xs (i + 5 : Int32).toNatClampNeg : Int32).toInt64) &&& 4294967295))]) (b := 215) (r := []) (mx := 6) rfl rfl rfl h1 (Nat.le_of_ble_eq_true rfl) rfl rfl rfl (by decide) (by decide) (Nat.le_of_ble_eq_true rfl) hm ?_
  show jt jp_W_law 15 592 670 [(5, .int k), (0, .ref 0), (1, .ref 24), (2, .ref 215), (3, .ref 453), (4, .int i)] [.long b] N2 (dc + c1 + c2) (ds + s1 + s2) o
  refine jt_sgp 2 (pc1 := 673) (lv1 := [(6, .long b), (5, .int k), (0, .ref 0), (1, .ref 24), (2, .ref 215), (3, .ref 453), (4, .int i)]) (st1 := [.ref 215]) rfl ?_
  refine jt_callv (k := 37) (m2 := jp_M_thrown) (As := []) (b := 215) (r := []) (mx := 1) rfl rfl rfl h2 (Nat.le_of_ble_eq_true rfl) rfl rfl rfl (by decide) (by decide) (Nat.le_of_ble_eq_true rfl) (jl_thrown h2 _ _) ?_
  show jt jp_W_law 15 592 676 [(6, .long b), (5, .int k), (0, .ref 0), (1, .ref 24), (2, .ref 215), (3, .ref 453), (4, .int i)] [.int k] N2 (dc + c1 + c2) (ds + s1 + s2) o
  refine jt_sgp 1 (pc1 := 678) (lv1 := [(6, .long b), (5, .int k), (0, .ref 0), (1, .ref 24), (2, .ref 215), (3, .ref 453), (4, .int i)]) (st1 := [.int k, .int k]) rfl ?_
  refine jt_icmp_eq (t := 683) rfl rfl (fun _ => ?_) (fun q_ => absurd rfl q_)
  refine jt_sgp 1 (pc1 := 685) (lv1 := [(6, .long b), (5, .int k), (0, .ref 0), (1, .ref 24), (2, .ref 215), (3, .ref 453), (4, .int i)]) (st1 := [.int k]) rfl ?_
  refine jt_if_ne (t := 699) rfl rfl (fun _ => ?_) (fun z_ => ?_)
  · refine jt_sgp 1 (pc1 := 1771) (lv1 := [(6, .long b), (5, .int k), (0, .ref 0), (1, .ref 24), (2, .ref 215), (3, .ref 453), (4, .int i)]) (st1 := []) rfl ?_
    refine jt_lvs (l1 := [(0, .ref 0), (1, .ref 24), (2, .ref 215), (3, .ref 453), (4, .int i)]) rfl rfl ⟨rfl, rfl, rfl, rfl, rfl, trivial⟩ ?_
    exact kk
  · refine jt_sgp 2 (pc1 := 690) (lv1 := [(6, .long b), (5, .int k), (0, .ref 0), (1, .ref 24), (2, .ref 215), (3, .ref 453), (4, .int i)]) (st1 := [.int 0, .ref 453]) rfl ?_
    refine jt_lald rfl ho (by unfold vp_in; decide) ?_
    show jt jp_W_law 15 592 691 [(6, .long b), (5, .int k), (0, .ref 0), (1, .ref 24), (2, .ref 215), (3, .ref 453), (4, .int i)] [.long v] N2 (dc + c1 + c2) (ds + s1 + s2) o
    refine jt_sgp 2 (pc1 := 694) (lv1 := [(6, .long b), (5, .int k), (0, .ref 0), (1, .ref 24), (2, .ref 215), (3, .ref 453), (4, .int i)]) (st1 := [.int (lg_cmp v b)]) rfl ?_
    refine jt_lif_eq (t := 699) rfl rfl (fun _ => ?_) (fun q_ => absurd (hq z_) q_)
    refine jt_sgp 1 (pc1 := 1771) (lv1 := [(6, .long b), (5, .int k), (0, .ref 0), (1, .ref 24), (2, .ref 215), (3, .ref 453), (4, .int i)]) (st1 := []) rfl ?_
    refine jt_lvs (l1 := [(0, .ref 0), (1, .ref 24), (2, .ref 215), (3, .ref 453), (4, .int i)]) rfl rfl ⟨rfl, rfl, rfl, rfl, rfl, trivial⟩ ?_
    exact kk
set_option maxRecDepth 20000 in
theorem jl_case_local {N N1 N2 : jx_H} {L : Nat} {xs : Nat → Int32} {i k : Int32} {fs1 r2 : List Value} {b : Int32} {v : Int64} {c1 s1 c2 s2 dc ds : Nat} {o : jx_O} (hs : N[0]? = some (200, jx_vi L xs)) (hs1 : N1[0]? = some (200, jx_vi L xs)) (v0 : vp_in (i + 1) L) (v1 : vp_in (i + 2) L) (v2 : vp_in (i + 3) L) (v3 : vp_in (i + 4) L) (hc : jt jp_W_local 14 566 0 [(0, .ref 24), (1, .int (xs (i + 1 : Int32).toNatClampNeg)), (2, .long ((((xs (i + 2 : Int32).toNatClampNeg : Int32).toInt64 : Int64) <<< ((32 : Int32).toInt64 &&& 63)) ||| (((xs (i + 3 : Int32).toNatClampNeg : Int32).toInt64) &&& 4294967295))), (4, .int (xs (i + 4 : Int32).toNatClampNeg)), (5, .ref 453)] [] N 0 0 (.inl (some (.int k)), N1, c1, s1)) (h1 : N1[215]? = some (9, fs1)) (hm : jt jp_M_local 14 563 0 [(0, .ref 215), (1, .int (xs (i + 1 : Int32).toNatClampNeg)), (2, .long ((((xs (i + 2 : Int32).toNatClampNeg : Int32).toInt64 : Int64) <<< ((32 : Int32).toInt64 &&& 63)) ||| (((xs (i + 3 : Int32).toNatClampNeg : Int32).toInt64) &&& 4294967295))), (4, .int (xs (i + 4 : Int32).toNatClampNeg))] [] N1 0 0 (.inl (some (.int b)), N2, c2, s2)) (h2 : N2[215]? = some (9, .int k :: r2)) (ho : N2[453]? = some (jl_out v)) (hq : k = 0 → v = b.toInt64) (kk : jt jp_W_law 15 592 1771 [(0, .ref 0), (1, .ref 24), (2, .ref 215), (3, .ref 453), (4, .int i)] [] N2 (dc + c1 + c2) (ds + s1 + s2) o) : jt jp_W_law 15 592 702 [(0, .ref 0), (1, .ref 24), (2, .ref 215), (3, .ref 453), (4, .int i)] [] N dc ds o := by
  refine jt_sgp 5 (pc1 := 708) (lv1 := [(0, .ref 0), (1, .ref 24), (2, .ref 215), (3, .ref 453), (4, .int i)]) (st1 := [.int (i + 1), .ref 0, .ref 24]) rfl ?_
  refine jt_iaK rfl hs v0 ?_
  refine jt_sgp 4 (pc1 := 714) (lv1 := [(0, .ref 0), (1, .ref 24), (2, .ref 215), (3, .ref 453), (4, .int i)]) (st1 := [.int (i + 2), .ref 0, .int (xs (i + 1 : Int32).toNatClampNeg), .ref 24]) rfl ?_
  refine jt_iaK rfl hs v1 ?_
  refine jt_sgp 7 (pc1 := 724) (lv1 := [(0, .ref 0), (1, .ref 24), (2, .ref 215), (3, .ref 453), (4, .int i)]) (st1 := [.int (i + 3), .ref 0, .long (((xs (i + 2 : Int32).toNatClampNeg : Int32).toInt64 : Int64) <<< ((32 : Int32).toInt64 &&& 63)), .int (xs (i + 1 : Int32).toNatClampNeg), .ref 24]) rfl ?_
  refine jt_iaK rfl hs v2 ?_
  refine jt_sgp 8 (pc1 := 736) (lv1 := [(0, .ref 0), (1, .ref 24), (2, .ref 215), (3, .ref 453), (4, .int i)]) (st1 := [.int (i + 4), .ref 0, .long ((((xs (i + 2 : Int32).toNatClampNeg : Int32).toInt64 : Int64) <<< ((32 : Int32).toInt64 &&& 63)) ||| (((xs (i + 3 : Int32).toNatClampNeg : Int32).toInt64) &&& 4294967295)), .int (xs (i + 1 : Int32).toNatClampNeg), .ref 24]) rfl ?_
  refine jt_iaK rfl hs v3 ?_
  refine jt_sgp 1 (pc1 := 738) (lv1 := [(0, .ref 0), (1, .ref 24), (2, .ref 215), (3, .ref 453), (4, .int i)]) (st1 := [.ref 453, .int (xs (i + 4 : Int32).toNatClampNeg), .long ((((xs (i + 2 : Int32).toNatClampNeg : Int32).toInt64 : Int64) <<< ((32 : Int32).toInt64 &&& 63)) ||| (((xs (i + 3 : Int32).toNatClampNeg : Int32).toInt64) &&& 4294967295)), .int (xs (i + 1 : Int32).toNatClampNeg), .ref 24]) rfl ?_
  refine jt_call (k := 174) (m2 := jp_W_local) (As := [.ref 24, .int (xs (i + 1 : Int32).toNatClampNeg), .long ((((xs (i + 2 : Int32).toNatClampNeg : Int32).toInt64 : Int64) <<< ((32 : Int32).toInt64 &&& 63)) ||| (((xs (i + 3 : Int32).toNatClampNeg : Int32).toInt64) &&& 4294967295)), .int (xs (i + 4 : Int32).toNatClampNeg), .ref 453]) (r := []) (mx := 7) rfl rfl rfl rfl rfl (by decide) (by decide) (Nat.le_of_ble_eq_true rfl) hc ?_
  show jt jp_W_law 15 592 741 [(0, .ref 0), (1, .ref 24), (2, .ref 215), (3, .ref 453), (4, .int i)] [.int k] N1 (dc + c1) (ds + s1) o
  refine jt_sgp 6 (pc1 := 749) (lv1 := [(5, .int k), (0, .ref 0), (1, .ref 24), (2, .ref 215), (3, .ref 453), (4, .int i)]) (st1 := [.int (i + 1), .ref 0, .ref 215]) rfl ?_
  refine jt_iaK rfl hs1 v0 ?_
  refine jt_sgp 4 (pc1 := 755) (lv1 := [(5, .int k), (0, .ref 0), (1, .ref 24), (2, .ref 215), (3, .ref 453), (4, .int i)]) (st1 := [.int (i + 2), .ref 0, .int (xs (i + 1 : Int32).toNatClampNeg), .ref 215]) rfl ?_
  refine jt_iaK rfl hs1 v1 ?_
  refine jt_sgp 7 (pc1 := 765) (lv1 := [(5, .int k), (0, .ref 0), (1, .ref 24), (2, .ref 215), (3, .ref 453), (4, .int i)]) (st1 := [.int (i + 3), .ref 0, .long (((xs (i + 2 : Int32).toNatClampNeg : Int32).toInt64 : Int64) <<< ((32 : Int32).toInt64 &&& 63)), .int (xs (i + 1 : Int32).toNatClampNeg), .ref 215]) rfl ?_
  refine jt_iaK rfl hs1 v2 ?_
  refine jt_sgp 8 (pc1 := 777) (lv1 := [(5, .int k), (0, .ref 0), (1, .ref 24), (2, .ref 215), (3, .ref 453), (4, .int i)]) (st1 := [.int (i + 4), .ref 0, .long ((((xs (i + 2 : Int32).toNatClampNeg : Int32).toInt64 : Int64) <<< ((32 : Int32).toInt64 &&& 63)) ||| (((xs (i + 3 : Int32).toNatClampNeg : Int32).toInt64) &&& 4294967295)), .int (xs (i + 1 : Int32).toNatClampNeg), .ref 215]) rfl ?_
  refine jt_iaK rfl hs1 v3 ?_
  refine jt_callv (k := 74) (m2 := jp_M_local) (As := [.int (xs (i + 1 : Int32).toNatClampNeg), .long ((((xs (i + 2 : Int32).toNatClampNeg : Int32).toInt64 : Int64) <<< ((32 : Int32).toInt64 &&& 63)) ||| (((xs (i + 3 : Int32).toNatClampNeg : Int32).toInt64) &&& 4294967295)), .int (xs (i + 4 : Int32).toNatClampNeg)]) (b := 215) (r := []) (mx := 10) rfl rfl rfl h1 (Nat.le_of_ble_eq_true rfl) rfl rfl rfl (by decide) (by decide) (Nat.le_of_ble_eq_true rfl) hm ?_
  show jt jp_W_law 15 592 781 [(5, .int k), (0, .ref 0), (1, .ref 24), (2, .ref 215), (3, .ref 453), (4, .int i)] [.int b] N2 (dc + c1 + c2) (ds + s1 + s2) o
  refine jt_sgp 2 (pc1 := 784) (lv1 := [(6, .int b), (5, .int k), (0, .ref 0), (1, .ref 24), (2, .ref 215), (3, .ref 453), (4, .int i)]) (st1 := [.ref 215]) rfl ?_
  refine jt_callv (k := 37) (m2 := jp_M_thrown) (As := []) (b := 215) (r := []) (mx := 1) rfl rfl rfl h2 (Nat.le_of_ble_eq_true rfl) rfl rfl rfl (by decide) (by decide) (Nat.le_of_ble_eq_true rfl) (jl_thrown h2 _ _) ?_
  show jt jp_W_law 15 592 787 [(6, .int b), (5, .int k), (0, .ref 0), (1, .ref 24), (2, .ref 215), (3, .ref 453), (4, .int i)] [.int k] N2 (dc + c1 + c2) (ds + s1 + s2) o
  refine jt_sgp 1 (pc1 := 789) (lv1 := [(6, .int b), (5, .int k), (0, .ref 0), (1, .ref 24), (2, .ref 215), (3, .ref 453), (4, .int i)]) (st1 := [.int k, .int k]) rfl ?_
  refine jt_icmp_eq (t := 794) rfl rfl (fun _ => ?_) (fun q_ => absurd rfl q_)
  refine jt_sgp 1 (pc1 := 796) (lv1 := [(6, .int b), (5, .int k), (0, .ref 0), (1, .ref 24), (2, .ref 215), (3, .ref 453), (4, .int i)]) (st1 := [.int k]) rfl ?_
  refine jt_if_ne (t := 811) rfl rfl (fun _ => ?_) (fun z_ => ?_)
  · refine jt_sgp 1 (pc1 := 1771) (lv1 := [(6, .int b), (5, .int k), (0, .ref 0), (1, .ref 24), (2, .ref 215), (3, .ref 453), (4, .int i)]) (st1 := []) rfl ?_
    refine jt_lvs (l1 := [(0, .ref 0), (1, .ref 24), (2, .ref 215), (3, .ref 453), (4, .int i)]) rfl rfl ⟨rfl, rfl, rfl, rfl, rfl, trivial⟩ ?_
    exact kk
  · refine jt_sgp 2 (pc1 := 801) (lv1 := [(6, .int b), (5, .int k), (0, .ref 0), (1, .ref 24), (2, .ref 215), (3, .ref 453), (4, .int i)]) (st1 := [.int 0, .ref 453]) rfl ?_
    refine jt_lald rfl ho (by unfold vp_in; decide) ?_
    show jt jp_W_law 15 592 802 [(6, .int b), (5, .int k), (0, .ref 0), (1, .ref 24), (2, .ref 215), (3, .ref 453), (4, .int i)] [.long v] N2 (dc + c1 + c2) (ds + s1 + s2) o
    refine jt_sgp 3 (pc1 := 806) (lv1 := [(6, .int b), (5, .int k), (0, .ref 0), (1, .ref 24), (2, .ref 215), (3, .ref 453), (4, .int i)]) (st1 := [.int (lg_cmp v ((b : Int32).toInt64))]) rfl ?_
    refine jt_lif_eq (t := 811) rfl rfl (fun _ => ?_) (fun q_ => absurd (hq z_) q_)
    refine jt_sgp 1 (pc1 := 1771) (lv1 := [(6, .int b), (5, .int k), (0, .ref 0), (1, .ref 24), (2, .ref 215), (3, .ref 453), (4, .int i)]) (st1 := []) rfl ?_
    refine jt_lvs (l1 := [(0, .ref 0), (1, .ref 24), (2, .ref 215), (3, .ref 453), (4, .int i)]) rfl rfl ⟨rfl, rfl, rfl, rfl, rfl, trivial⟩ ?_
    exact kk
set_option maxRecDepth 20000 in
theorem jl_case_make {N N1 N2 : jx_H} {L : Nat} {xs : Nat → Int32} {i k : Int32} {fs1 r2 : List Value} {b : Int32} {v : Int64} {c1 s1 c2 s2 dc ds : Nat} {o : jx_O} (hs : N[0]? = some (200, jx_vi L xs)) (hs1 : N1[0]? = some (200, jx_vi L xs)) (v0 : vp_in (i + 1) L) (v1 : vp_in (i + 2) L) (v2 : vp_in (i + 3) L) (v3 : vp_in (i + 4) L) (v4 : vp_in (i + 5) L) (v5 : vp_in (i + 6) L) (v6 : vp_in (i + 7) L) (v7 : vp_in (i + 8) L) (v8 : vp_in (i + 9) L) (v9 : vp_in (i + 10) L) (hc : jt jp_W_make 14 560 0 [(0, .ref 24), (1, .int (xs (i + 1 : Int32).toNatClampNeg)), (2, .long ((((xs (i + 2 : Int32).toNatClampNeg : Int32).toInt64 : Int64) <<< ((32 : Int32).toInt64 &&& 63)) ||| (((xs (i + 3 : Int32).toNatClampNeg : Int32).toInt64) &&& 4294967295))), (4, .long ((((xs (i + 4 : Int32).toNatClampNeg : Int32).toInt64 : Int64) <<< ((32 : Int32).toInt64 &&& 63)) ||| (((xs (i + 5 : Int32).toNatClampNeg : Int32).toInt64) &&& 4294967295))), (6, .long ((((xs (i + 6 : Int32).toNatClampNeg : Int32).toInt64 : Int64) <<< ((32 : Int32).toInt64 &&& 63)) ||| (((xs (i + 7 : Int32).toNatClampNeg : Int32).toInt64) &&& 4294967295))), (8, .int (xs (i + 8 : Int32).toNatClampNeg)), (9, .int (xs (i + 9 : Int32).toNatClampNeg)), (10, .int (xs (i + 10 : Int32).toNatClampNeg)), (11, .ref 453)] [] N 0 0 (.inl (some (.int k)), N1, c1, s1)) (h1 : N1[215]? = some (9, fs1)) (hm : jt jp_M_make 14 561 0 [(0, .ref 215), (1, .int (xs (i + 1 : Int32).toNatClampNeg)), (2, .long ((((xs (i + 2 : Int32).toNatClampNeg : Int32).toInt64 : Int64) <<< ((32 : Int32).toInt64 &&& 63)) ||| (((xs (i + 3 : Int32).toNatClampNeg : Int32).toInt64) &&& 4294967295))), (4, .long ((((xs (i + 4 : Int32).toNatClampNeg : Int32).toInt64 : Int64) <<< ((32 : Int32).toInt64 &&& 63)) ||| (((xs (i + 5 : Int32).toNatClampNeg : Int32).toInt64) &&& 4294967295))), (6, .long ((((xs (i + 6 : Int32).toNatClampNeg : Int32).toInt64 : Int64) <<< ((32 : Int32).toInt64 &&& 63)) ||| (((xs (i + 7 : Int32).toNatClampNeg : Int32).toInt64) &&& 4294967295))), (8, .int (xs (i + 8 : Int32).toNatClampNeg)), (9, .int (xs (i + 9 : Int32).toNatClampNeg)), (10, .int (xs (i + 10 : Int32).toNatClampNeg))] [] N1 0 0 (.inl (some (.int b)), N2, c2, s2)) (h2 : N2[215]? = some (9, .int k :: r2)) (ho : N2[453]? = some (jl_out v)) (hq : k = 0 → v = b.toInt64) (kk : jt jp_W_law 15 592 1771 [(0, .ref 0), (1, .ref 24), (2, .ref 215), (3, .ref 453), (4, .int i)] [] N2 (dc + c1 + c2) (ds + s1 + s2) o) : jt jp_W_law 15 592 814 [(0, .ref 0), (1, .ref 24), (2, .ref 215), (3, .ref 453), (4, .int i)] [] N dc ds o := by
  refine jt_sgp 5 (pc1 := 820) (lv1 := [(0, .ref 0), (1, .ref 24), (2, .ref 215), (3, .ref 453), (4, .int i)]) (st1 := [.int (i + 1), .ref 0, .ref 24]) rfl ?_
  refine jt_iaK rfl hs v0 ?_
  refine jt_sgp 4 (pc1 := 826) (lv1 := [(0, .ref 0), (1, .ref 24), (2, .ref 215), (3, .ref 453), (4, .int i)]) (st1 := [.int (i + 2), .ref 0, .int (xs (i + 1 : Int32).toNatClampNeg), .ref 24]) rfl ?_
  refine jt_iaK rfl hs v1 ?_
  refine jt_sgp 7 (pc1 := 836) (lv1 := [(0, .ref 0), (1, .ref 24), (2, .ref 215), (3, .ref 453), (4, .int i)]) (st1 := [.int (i + 3), .ref 0, .long (((xs (i + 2 : Int32).toNatClampNeg : Int32).toInt64 : Int64) <<< ((32 : Int32).toInt64 &&& 63)), .int (xs (i + 1 : Int32).toNatClampNeg), .ref 24]) rfl ?_
  refine jt_iaK rfl hs v2 ?_
  refine jt_sgp 8 (pc1 := 848) (lv1 := [(0, .ref 0), (1, .ref 24), (2, .ref 215), (3, .ref 453), (4, .int i)]) (st1 := [.int (i + 4), .ref 0, .long ((((xs (i + 2 : Int32).toNatClampNeg : Int32).toInt64 : Int64) <<< ((32 : Int32).toInt64 &&& 63)) ||| (((xs (i + 3 : Int32).toNatClampNeg : Int32).toInt64) &&& 4294967295)), .int (xs (i + 1 : Int32).toNatClampNeg), .ref 24]) rfl ?_
  refine jt_iaK rfl hs v3 ?_
  refine jt_sgp 7 (pc1 := 858) (lv1 := [(0, .ref 0), (1, .ref 24), (2, .ref 215), (3, .ref 453), (4, .int i)]) (st1 := [.int (i + 5), .ref 0, .long (((xs (i + 4 : Int32).toNatClampNeg : Int32).toInt64 : Int64) <<< ((32 : Int32).toInt64 &&& 63)), .long ((((xs (i + 2 : Int32).toNatClampNeg : Int32).toInt64 : Int64) <<< ((32 : Int32).toInt64 &&& 63)) ||| (((xs (i + 3 : Int32).toNatClampNeg : Int32).toInt64) &&& 4294967295)), .int (xs (i + 1 : Int32).toNatClampNeg), .ref 24]) rfl ?_
  refine jt_iaK rfl hs v4 ?_
  refine jt_sgp 8 (pc1 := 871) (lv1 := [(0, .ref 0), (1, .ref 24), (2, .ref 215), (3, .ref 453), (4, .int i)]) (st1 := [.int (i + 6), .ref 0, .long ((((xs (i + 4 : Int32).toNatClampNeg : Int32).toInt64 : Int64) <<< ((32 : Int32).toInt64 &&& 63)) ||| (((xs (i + 5 : Int32).toNatClampNeg : Int32).toInt64) &&& 4294967295)), .long ((((xs (i + 2 : Int32).toNatClampNeg : Int32).toInt64 : Int64) <<< ((32 : Int32).toInt64 &&& 63)) ||| (((xs (i + 3 : Int32).toNatClampNeg : Int32).toInt64) &&& 4294967295)), .int (xs (i + 1 : Int32).toNatClampNeg), .ref 24]) rfl ?_
  refine jt_iaK rfl hs v5 ?_
  refine jt_sgp 7 (pc1 := 882) (lv1 := [(0, .ref 0), (1, .ref 24), (2, .ref 215), (3, .ref 453), (4, .int i)]) (st1 := [.int (i + 7), .ref 0, .long (((xs (i + 6 : Int32).toNatClampNeg : Int32).toInt64 : Int64) <<< ((32 : Int32).toInt64 &&& 63)), .long ((((xs (i + 4 : Int32).toNatClampNeg : Int32).toInt64 : Int64) <<< ((32 : Int32).toInt64 &&& 63)) ||| (((xs (i + 5 : Int32).toNatClampNeg : Int32).toInt64) &&& 4294967295)), .long ((((xs (i + 2 : Int32).toNatClampNeg : Int32).toInt64 : Int64) <<< ((32 : Int32).toInt64 &&& 63)) ||| (((xs (i + 3 : Int32).toNatClampNeg : Int32).toInt64) &&& 4294967295)), .int (xs (i + 1 : Int32).toNatClampNeg), .ref 24]) rfl ?_
  refine jt_iaK rfl hs v6 ?_
  refine jt_sgp 8 (pc1 := 895) (lv1 := [(0, .ref 0), (1, .ref 24), (2, .ref 215), (3, .ref 453), (4, .int i)]) (st1 := [.int (i + 8), .ref 0, .long ((((xs (i + 6 : Int32).toNatClampNeg : Int32).toInt64 : Int64) <<< ((32 : Int32).toInt64 &&& 63)) ||| (((xs (i + 7 : Int32).toNatClampNeg : Int32).toInt64) &&& 4294967295)), .long ((((xs (i + 4 : Int32).toNatClampNeg : Int32).toInt64 : Int64) <<< ((32 : Int32).toInt64 &&& 63)) ||| (((xs (i + 5 : Int32).toNatClampNeg : Int32).toInt64) &&& 4294967295)), .long ((((xs (i + 2 : Int32).toNatClampNeg : Int32).toInt64 : Int64) <<< ((32 : Int32).toInt64 &&& 63)) ||| (((xs (i + 3 : Int32).toNatClampNeg : Int32).toInt64) &&& 4294967295)), .int (xs (i + 1 : Int32).toNatClampNeg), .ref 24]) rfl ?_
  refine jt_iaK rfl hs v7 ?_
  refine jt_sgp 4 (pc1 := 902) (lv1 := [(0, .ref 0), (1, .ref 24), (2, .ref 215), (3, .ref 453), (4, .int i)]) (st1 := [.int (i + 9), .ref 0, .int (xs (i + 8 : Int32).toNatClampNeg), .long ((((xs (i + 6 : Int32).toNatClampNeg : Int32).toInt64 : Int64) <<< ((32 : Int32).toInt64 &&& 63)) ||| (((xs (i + 7 : Int32).toNatClampNeg : Int32).toInt64) &&& 4294967295)), .long ((((xs (i + 4 : Int32).toNatClampNeg : Int32).toInt64 : Int64) <<< ((32 : Int32).toInt64 &&& 63)) ||| (((xs (i + 5 : Int32).toNatClampNeg : Int32).toInt64) &&& 4294967295)), .long ((((xs (i + 2 : Int32).toNatClampNeg : Int32).toInt64 : Int64) <<< ((32 : Int32).toInt64 &&& 63)) ||| (((xs (i + 3 : Int32).toNatClampNeg : Int32).toInt64) &&& 4294967295)), .int (xs (i + 1 : Int32).toNatClampNeg), .ref 24]) rfl ?_
  refine jt_iaK rfl hs v8 ?_
  refine jt_sgp 4 (pc1 := 909) (lv1 := [(0, .ref 0), (1, .ref 24), (2, .ref 215), (3, .ref 453), (4, .int i)]) (st1 := [.int (i + 10), .ref 0, .int (xs (i + 9 : Int32).toNatClampNeg), .int (xs (i + 8 : Int32).toNatClampNeg), .long ((((xs (i + 6 : Int32).toNatClampNeg : Int32).toInt64 : Int64) <<< ((32 : Int32).toInt64 &&& 63)) ||| (((xs (i + 7 : Int32).toNatClampNeg : Int32).toInt64) &&& 4294967295)), .long ((((xs (i + 4 : Int32).toNatClampNeg : Int32).toInt64 : Int64) <<< ((32 : Int32).toInt64 &&& 63)) ||| (((xs (i + 5 : Int32).toNatClampNeg : Int32).toInt64) &&& 4294967295)), .long ((((xs (i + 2 : Int32).toNatClampNeg : Int32).toInt64 : Int64) <<< ((32 : Int32).toInt64 &&& 63)) ||| (((xs (i + 3 : Int32).toNatClampNeg : Int32).toInt64) &&& 4294967295)), .int (xs (i + 1 : Int32).toNatClampNeg), .ref 24]) rfl ?_
  refine jt_iaK rfl hs v9 ?_
  refine jt_sgp 1 (pc1 := 911) (lv1 := [(0, .ref 0), (1, .ref 24), (2, .ref 215), (3, .ref 453), (4, .int i)]) (st1 := [.ref 453, .int (xs (i + 10 : Int32).toNatClampNeg), .int (xs (i + 9 : Int32).toNatClampNeg), .int (xs (i + 8 : Int32).toNatClampNeg), .long ((((xs (i + 6 : Int32).toNatClampNeg : Int32).toInt64 : Int64) <<< ((32 : Int32).toInt64 &&& 63)) ||| (((xs (i + 7 : Int32).toNatClampNeg : Int32).toInt64) &&& 4294967295)), .long ((((xs (i + 4 : Int32).toNatClampNeg : Int32).toInt64 : Int64) <<< ((32 : Int32).toInt64 &&& 63)) ||| (((xs (i + 5 : Int32).toNatClampNeg : Int32).toInt64) &&& 4294967295)), .long ((((xs (i + 2 : Int32).toNatClampNeg : Int32).toInt64 : Int64) <<< ((32 : Int32).toInt64 &&& 63)) ||| (((xs (i + 3 : Int32).toNatClampNeg : Int32).toInt64) &&& 4294967295)), .int (xs (i + 1 : Int32).toNatClampNeg), .ref 24]) rfl ?_
  refine jt_call (k := 175) (m2 := jp_W_make) (As := [.ref 24, .int (xs (i + 1 : Int32).toNatClampNeg), .long ((((xs (i + 2 : Int32).toNatClampNeg : Int32).toInt64 : Int64) <<< ((32 : Int32).toInt64 &&& 63)) ||| (((xs (i + 3 : Int32).toNatClampNeg : Int32).toInt64) &&& 4294967295)), .long ((((xs (i + 4 : Int32).toNatClampNeg : Int32).toInt64 : Int64) <<< ((32 : Int32).toInt64 &&& 63)) ||| (((xs (i + 5 : Int32).toNatClampNeg : Int32).toInt64) &&& 4294967295)), .long ((((xs (i + 6 : Int32).toNatClampNeg : Int32).toInt64 : Int64) <<< ((32 : Int32).toInt64 &&& 63)) ||| (((xs (i + 7 : Int32).toNatClampNeg : Int32).toInt64) &&& 4294967295)), .int (xs (i + 8 : Int32).toNatClampNeg), .int (xs (i + 9 : Int32).toNatClampNeg), .int (xs (i + 10 : Int32).toNatClampNeg), .ref 453]) (r := []) (mx := 13) rfl rfl rfl rfl rfl (by decide) (by decide) (Nat.le_of_ble_eq_true rfl) hc ?_
  show jt jp_W_law 15 592 914 [(0, .ref 0), (1, .ref 24), (2, .ref 215), (3, .ref 453), (4, .int i)] [.int k] N1 (dc + c1) (ds + s1) o
  refine jt_sgp 6 (pc1 := 922) (lv1 := [(5, .int k), (0, .ref 0), (1, .ref 24), (2, .ref 215), (3, .ref 453), (4, .int i)]) (st1 := [.int (i + 1), .ref 0, .ref 215]) rfl ?_
  refine jt_iaK rfl hs1 v0 ?_
  refine jt_sgp 4 (pc1 := 928) (lv1 := [(5, .int k), (0, .ref 0), (1, .ref 24), (2, .ref 215), (3, .ref 453), (4, .int i)]) (st1 := [.int (i + 2), .ref 0, .int (xs (i + 1 : Int32).toNatClampNeg), .ref 215]) rfl ?_
  refine jt_iaK rfl hs1 v1 ?_
  refine jt_sgp 7 (pc1 := 938) (lv1 := [(5, .int k), (0, .ref 0), (1, .ref 24), (2, .ref 215), (3, .ref 453), (4, .int i)]) (st1 := [.int (i + 3), .ref 0, .long (((xs (i + 2 : Int32).toNatClampNeg : Int32).toInt64 : Int64) <<< ((32 : Int32).toInt64 &&& 63)), .int (xs (i + 1 : Int32).toNatClampNeg), .ref 215]) rfl ?_
  refine jt_iaK rfl hs1 v2 ?_
  refine jt_sgp 8 (pc1 := 950) (lv1 := [(5, .int k), (0, .ref 0), (1, .ref 24), (2, .ref 215), (3, .ref 453), (4, .int i)]) (st1 := [.int (i + 4), .ref 0, .long ((((xs (i + 2 : Int32).toNatClampNeg : Int32).toInt64 : Int64) <<< ((32 : Int32).toInt64 &&& 63)) ||| (((xs (i + 3 : Int32).toNatClampNeg : Int32).toInt64) &&& 4294967295)), .int (xs (i + 1 : Int32).toNatClampNeg), .ref 215]) rfl ?_
  refine jt_iaK rfl hs1 v3 ?_
  refine jt_sgp 7 (pc1 := 960) (lv1 := [(5, .int k), (0, .ref 0), (1, .ref 24), (2, .ref 215), (3, .ref 453), (4, .int i)]) (st1 := [.int (i + 5), .ref 0, .long (((xs (i + 4 : Int32).toNatClampNeg : Int32).toInt64 : Int64) <<< ((32 : Int32).toInt64 &&& 63)), .long ((((xs (i + 2 : Int32).toNatClampNeg : Int32).toInt64 : Int64) <<< ((32 : Int32).toInt64 &&& 63)) ||| (((xs (i + 3 : Int32).toNatClampNeg : Int32).toInt64) &&& 4294967295)), .int (xs (i + 1 : Int32).toNatClampNeg), .ref 215]) rfl ?_
  refine jt_iaK rfl hs1 v4 ?_
  refine jt_sgp 8 (pc1 := 973) (lv1 := [(5, .int k), (0, .ref 0), (1, .ref 24), (2, .ref 215), (3, .ref 453), (4, .int i)]) (st1 := [.int (i + 6), .ref 0, .long ((((xs (i + 4 : Int32).toNatClampNeg : Int32).toInt64 : Int64) <<< ((32 : Int32).toInt64 &&& 63)) ||| (((xs (i + 5 : Int32).toNatClampNeg : Int32).toInt64) &&& 4294967295)), .long ((((xs (i + 2 : Int32).toNatClampNeg : Int32).toInt64 : Int64) <<< ((32 : Int32).toInt64 &&& 63)) ||| (((xs (i + 3 : Int32).toNatClampNeg : Int32).toInt64) &&& 4294967295)), .int (xs (i + 1 : Int32).toNatClampNeg), .ref 215]) rfl ?_
  refine jt_iaK rfl hs1 v5 ?_
  refine jt_sgp 7 (pc1 := 984) (lv1 := [(5, .int k), (0, .ref 0), (1, .ref 24), (2, .ref 215), (3, .ref 453), (4, .int i)]) (st1 := [.int (i + 7), .ref 0, .long (((xs (i + 6 : Int32).toNatClampNeg : Int32).toInt64 : Int64) <<< ((32 : Int32).toInt64 &&& 63)), .long ((((xs (i + 4 : Int32).toNatClampNeg : Int32).toInt64 : Int64) <<< ((32 : Int32).toInt64 &&& 63)) ||| (((xs (i + 5 : Int32).toNatClampNeg : Int32).toInt64) &&& 4294967295)), .long ((((xs (i + 2 : Int32).toNatClampNeg : Int32).toInt64 : Int64) <<< ((32 : Int32).toInt64 &&& 63)) ||| (((xs (i + 3 : Int32).toNatClampNeg : Int32).toInt64) &&& 4294967295)), .int (xs (i + 1 : Int32).toNatClampNeg), .ref 215]) rfl ?_
  refine jt_iaK rfl hs1 v6 ?_
  refine jt_sgp 8 (pc1 := 997) (lv1 := [(5, .int k), (0, .ref 0), (1, .ref 24), (2, .ref 215), (3, .ref 453), (4, .int i)]) (st1 := [.int (i + 8), .ref 0, .long ((((xs (i + 6 : Int32).toNatClampNeg : Int32).toInt64 : Int64) <<< ((32 : Int32).toInt64 &&& 63)) ||| (((xs (i + 7 : Int32).toNatClampNeg : Int32).toInt64) &&& 4294967295)), .long ((((xs (i + 4 : Int32).toNatClampNeg : Int32).toInt64 : Int64) <<< ((32 : Int32).toInt64 &&& 63)) ||| (((xs (i + 5 : Int32).toNatClampNeg : Int32).toInt64) &&& 4294967295)), .long ((((xs (i + 2 : Int32).toNatClampNeg : Int32).toInt64 : Int64) <<< ((32 : Int32).toInt64 &&& 63)) ||| (((xs (i + 3 : Int32).toNatClampNeg : Int32).toInt64) &&& 4294967295)), .int (xs (i + 1 : Int32).toNatClampNeg), .ref 215]) rfl ?_
  refine jt_iaK rfl hs1 v7 ?_
  refine jt_sgp 4 (pc1 := 1004) (lv1 := [(5, .int k), (0, .ref 0), (1, .ref 24), (2, .ref 215), (3, .ref 453), (4, .int i)]) (st1 := [.int (i + 9), .ref 0, .int (xs (i + 8 : Int32).toNatClampNeg), .long ((((xs (i + 6 : Int32).toNatClampNeg : Int32).toInt64 : Int64) <<< ((32 : Int32).toInt64 &&& 63)) ||| (((xs (i + 7 : Int32).toNatClampNeg : Int32).toInt64) &&& 4294967295)), .long ((((xs (i + 4 : Int32).toNatClampNeg : Int32).toInt64 : Int64) <<< ((32 : Int32).toInt64 &&& 63)) ||| (((xs (i + 5 : Int32).toNatClampNeg : Int32).toInt64) &&& 4294967295)), .long ((((xs (i + 2 : Int32).toNatClampNeg : Int32).toInt64 : Int64) <<< ((32 : Int32).toInt64 &&& 63)) ||| (((xs (i + 3 : Int32).toNatClampNeg : Int32).toInt64) &&& 4294967295)), .int (xs (i + 1 : Int32).toNatClampNeg), .ref 215]) rfl ?_
  refine jt_iaK rfl hs1 v8 ?_
  refine jt_sgp 4 (pc1 := 1011) (lv1 := [(5, .int k), (0, .ref 0), (1, .ref 24), (2, .ref 215), (3, .ref 453), (4, .int i)]) (st1 := [.int (i + 10), .ref 0, .int (xs (i + 9 : Int32).toNatClampNeg), .int (xs (i + 8 : Int32).toNatClampNeg), .long ((((xs (i + 6 : Int32).toNatClampNeg : Int32).toInt64 : Int64) <<< ((32 : Int32).toInt64 &&& 63)) ||| (((xs (i + 7 : Int32).toNatClampNeg : Int32).toInt64) &&& 4294967295)), .long ((((xs (i + 4 : Int32).toNatClampNeg : Int32).toInt64 : Int64) <<< ((32 : Int32).toInt64 &&& 63)) ||| (((xs (i + 5 : Int32).toNatClampNeg : Int32).toInt64) &&& 4294967295)), .long ((((xs (i + 2 : Int32).toNatClampNeg : Int32).toInt64 : Int64) <<< ((32 : Int32).toInt64 &&& 63)) ||| (((xs (i + 3 : Int32).toNatClampNeg : Int32).toInt64) &&& 4294967295)), .int (xs (i + 1 : Int32).toNatClampNeg), .ref 215]) rfl ?_
  refine jt_iaK rfl hs1 v9 ?_
  refine jt_callv (k := 76) (m2 := jp_M_make) (As := [.int (xs (i + 1 : Int32).toNatClampNeg), .long ((((xs (i + 2 : Int32).toNatClampNeg : Int32).toInt64 : Int64) <<< ((32 : Int32).toInt64 &&& 63)) ||| (((xs (i + 3 : Int32).toNatClampNeg : Int32).toInt64) &&& 4294967295)), .long ((((xs (i + 4 : Int32).toNatClampNeg : Int32).toInt64 : Int64) <<< ((32 : Int32).toInt64 &&& 63)) ||| (((xs (i + 5 : Int32).toNatClampNeg : Int32).toInt64) &&& 4294967295)), .long ((((xs (i + 6 : Int32).toNatClampNeg : Int32).toInt64 : Int64) <<< ((32 : Int32).toInt64 &&& 63)) ||| (((xs (i + 7 : Int32).toNatClampNeg : Int32).toInt64) &&& 4294967295)), .int (xs (i + 8 : Int32).toNatClampNeg), .int (xs (i + 9 : Int32).toNatClampNeg), .int (xs (i + 10 : Int32).toNatClampNeg)]) (b := 215) (r := []) (mx := 12) rfl rfl rfl h1 (Nat.le_of_ble_eq_true rfl) rfl rfl rfl (by decide) (by decide) (Nat.le_of_ble_eq_true rfl) hm ?_
  show jt jp_W_law 15 592 1015 [(5, .int k), (0, .ref 0), (1, .ref 24), (2, .ref 215), (3, .ref 453), (4, .int i)] [.int b] N2 (dc + c1 + c2) (ds + s1 + s2) o
  refine jt_sgp 2 (pc1 := 1018) (lv1 := [(6, .int b), (5, .int k), (0, .ref 0), (1, .ref 24), (2, .ref 215), (3, .ref 453), (4, .int i)]) (st1 := [.ref 215]) rfl ?_
  refine jt_callv (k := 37) (m2 := jp_M_thrown) (As := []) (b := 215) (r := []) (mx := 1) rfl rfl rfl h2 (Nat.le_of_ble_eq_true rfl) rfl rfl rfl (by decide) (by decide) (Nat.le_of_ble_eq_true rfl) (jl_thrown h2 _ _) ?_
  show jt jp_W_law 15 592 1021 [(6, .int b), (5, .int k), (0, .ref 0), (1, .ref 24), (2, .ref 215), (3, .ref 453), (4, .int i)] [.int k] N2 (dc + c1 + c2) (ds + s1 + s2) o
  refine jt_sgp 1 (pc1 := 1023) (lv1 := [(6, .int b), (5, .int k), (0, .ref 0), (1, .ref 24), (2, .ref 215), (3, .ref 453), (4, .int i)]) (st1 := [.int k, .int k]) rfl ?_
  refine jt_icmp_eq (t := 1028) rfl rfl (fun _ => ?_) (fun q_ => absurd rfl q_)
  refine jt_sgp 1 (pc1 := 1030) (lv1 := [(6, .int b), (5, .int k), (0, .ref 0), (1, .ref 24), (2, .ref 215), (3, .ref 453), (4, .int i)]) (st1 := [.int k]) rfl ?_
  refine jt_if_ne (t := 1045) rfl rfl (fun _ => ?_) (fun z_ => ?_)
  · refine jt_sgp 1 (pc1 := 1771) (lv1 := [(6, .int b), (5, .int k), (0, .ref 0), (1, .ref 24), (2, .ref 215), (3, .ref 453), (4, .int i)]) (st1 := []) rfl ?_
    refine jt_lvs (l1 := [(0, .ref 0), (1, .ref 24), (2, .ref 215), (3, .ref 453), (4, .int i)]) rfl rfl ⟨rfl, rfl, rfl, rfl, rfl, trivial⟩ ?_
    exact kk
  · refine jt_sgp 2 (pc1 := 1035) (lv1 := [(6, .int b), (5, .int k), (0, .ref 0), (1, .ref 24), (2, .ref 215), (3, .ref 453), (4, .int i)]) (st1 := [.int 0, .ref 453]) rfl ?_
    refine jt_lald rfl ho (by unfold vp_in; decide) ?_
    show jt jp_W_law 15 592 1036 [(6, .int b), (5, .int k), (0, .ref 0), (1, .ref 24), (2, .ref 215), (3, .ref 453), (4, .int i)] [.long v] N2 (dc + c1 + c2) (ds + s1 + s2) o
    refine jt_sgp 3 (pc1 := 1040) (lv1 := [(6, .int b), (5, .int k), (0, .ref 0), (1, .ref 24), (2, .ref 215), (3, .ref 453), (4, .int i)]) (st1 := [.int (lg_cmp v ((b : Int32).toInt64))]) rfl ?_
    refine jt_lif_eq (t := 1045) rfl rfl (fun _ => ?_) (fun q_ => absurd (hq z_) q_)
    refine jt_sgp 1 (pc1 := 1771) (lv1 := [(6, .int b), (5, .int k), (0, .ref 0), (1, .ref 24), (2, .ref 215), (3, .ref 453), (4, .int i)]) (st1 := []) rfl ?_
    refine jt_lvs (l1 := [(0, .ref 0), (1, .ref 24), (2, .ref 215), (3, .ref 453), (4, .int i)]) rfl rfl ⟨rfl, rfl, rfl, rfl, rfl, trivial⟩ ?_
    exact kk
set_option maxRecDepth 20000 in
theorem jl_case_makeCron {N N1 N2 : jx_H} {L : Nat} {xs : Nat → Int32} {i k : Int32} {fs1 r2 : List Value} {b : Int32} {v : Int64} {c1 s1 c2 s2 dc ds : Nat} {o : jx_O} (hs : N[0]? = some (200, jx_vi L xs)) (hs1 : N1[0]? = some (200, jx_vi L xs)) (v0 : vp_in (i + 1) L) (v1 : vp_in (i + 2) L) (v2 : vp_in (i + 3) L) (v3 : vp_in (i + 4) L) (v4 : vp_in (i + 5) L) (v5 : vp_in (i + 6) L) (v6 : vp_in (i + 7) L) (v7 : vp_in (i + 8) L) (hc : jt jp_W_makeCron 14 562 0 [(0, .ref 24), (1, .int (xs (i + 1 : Int32).toNatClampNeg)), (2, .int (xs (i + 2 : Int32).toNatClampNeg)), (3, .int (xs (i + 3 : Int32).toNatClampNeg)), (4, .long ((((xs (i + 4 : Int32).toNatClampNeg : Int32).toInt64 : Int64) <<< ((32 : Int32).toInt64 &&& 63)) ||| (((xs (i + 5 : Int32).toNatClampNeg : Int32).toInt64) &&& 4294967295))), (6, .int (xs (i + 6 : Int32).toNatClampNeg)), (7, .int (xs (i + 7 : Int32).toNatClampNeg)), (8, .int (xs (i + 8 : Int32).toNatClampNeg)), (9, .ref 453)] [] N 0 0 (.inl (some (.int k)), N1, c1, s1)) (h1 : N1[215]? = some (9, fs1)) (hm : jt jp_M_makeCron 14 561 0 [(0, .ref 215), (1, .int (xs (i + 1 : Int32).toNatClampNeg)), (2, .int (xs (i + 2 : Int32).toNatClampNeg)), (3, .int (xs (i + 3 : Int32).toNatClampNeg)), (4, .long ((((xs (i + 4 : Int32).toNatClampNeg : Int32).toInt64 : Int64) <<< ((32 : Int32).toInt64 &&& 63)) ||| (((xs (i + 5 : Int32).toNatClampNeg : Int32).toInt64) &&& 4294967295))), (6, .int (xs (i + 6 : Int32).toNatClampNeg)), (7, .int (xs (i + 7 : Int32).toNatClampNeg)), (8, .int (xs (i + 8 : Int32).toNatClampNeg))] [] N1 0 0 (.inl (some (.int b)), N2, c2, s2)) (h2 : N2[215]? = some (9, .int k :: r2)) (ho : N2[453]? = some (jl_out v)) (hq : k = 0 → v = b.toInt64) (kk : jt jp_W_law 15 592 1771 [(0, .ref 0), (1, .ref 24), (2, .ref 215), (3, .ref 453), (4, .int i)] [] N2 (dc + c1 + c2) (ds + s1 + s2) o) : jt jp_W_law 15 592 1048 [(0, .ref 0), (1, .ref 24), (2, .ref 215), (3, .ref 453), (4, .int i)] [] N dc ds o := by
  refine jt_sgp 5 (pc1 := 1054) (lv1 := [(0, .ref 0), (1, .ref 24), (2, .ref 215), (3, .ref 453), (4, .int i)]) (st1 := [.int (i + 1), .ref 0, .ref 24]) rfl ?_
  refine jt_iaK rfl hs v0 ?_
  refine jt_sgp 4 (pc1 := 1060) (lv1 := [(0, .ref 0), (1, .ref 24), (2, .ref 215), (3, .ref 453), (4, .int i)]) (st1 := [.int (i + 2), .ref 0, .int (xs (i + 1 : Int32).toNatClampNeg), .ref 24]) rfl ?_
  refine jt_iaK rfl hs v1 ?_
  refine jt_sgp 4 (pc1 := 1066) (lv1 := [(0, .ref 0), (1, .ref 24), (2, .ref 215), (3, .ref 453), (4, .int i)]) (st1 := [.int (i + 3), .ref 0, .int (xs (i + 2 : Int32).toNatClampNeg), .int (xs (i + 1 : Int32).toNatClampNeg), .ref 24]) rfl ?_
  refine jt_iaK rfl hs v2 ?_
  refine jt_sgp 4 (pc1 := 1072) (lv1 := [(0, .ref 0), (1, .ref 24), (2, .ref 215), (3, .ref 453), (4, .int i)]) (st1 := [.int (i + 4), .ref 0, .int (xs (i + 3 : Int32).toNatClampNeg), .int (xs (i + 2 : Int32).toNatClampNeg), .int (xs (i + 1 : Int32).toNatClampNeg), .ref 24]) rfl ?_
  refine jt_iaK rfl hs v3 ?_
  refine jt_sgp 7 (pc1 := 1082) (lv1 := [(0, .ref 0), (1, .ref 24), (2, .ref 215), (3, .ref 453), (4, .int i)]) (st1 := [.int (i + 5), .ref 0, .long (((xs (i + 4 : Int32).toNatClampNeg : Int32).toInt64 : Int64) <<< ((32 : Int32).toInt64 &&& 63)), .int (xs (i + 3 : Int32).toNatClampNeg), .int (xs (i + 2 : Int32).toNatClampNeg), .int (xs (i + 1 : Int32).toNatClampNeg), .ref 24]) rfl ?_
  refine jt_iaK rfl hs v4 ?_
  refine jt_sgp 8 (pc1 := 1095) (lv1 := [(0, .ref 0), (1, .ref 24), (2, .ref 215), (3, .ref 453), (4, .int i)]) (st1 := [.int (i + 6), .ref 0, .long ((((xs (i + 4 : Int32).toNatClampNeg : Int32).toInt64 : Int64) <<< ((32 : Int32).toInt64 &&& 63)) ||| (((xs (i + 5 : Int32).toNatClampNeg : Int32).toInt64) &&& 4294967295)), .int (xs (i + 3 : Int32).toNatClampNeg), .int (xs (i + 2 : Int32).toNatClampNeg), .int (xs (i + 1 : Int32).toNatClampNeg), .ref 24]) rfl ?_
  refine jt_iaK rfl hs v5 ?_
  refine jt_sgp 4 (pc1 := 1102) (lv1 := [(0, .ref 0), (1, .ref 24), (2, .ref 215), (3, .ref 453), (4, .int i)]) (st1 := [.int (i + 7), .ref 0, .int (xs (i + 6 : Int32).toNatClampNeg), .long ((((xs (i + 4 : Int32).toNatClampNeg : Int32).toInt64 : Int64) <<< ((32 : Int32).toInt64 &&& 63)) ||| (((xs (i + 5 : Int32).toNatClampNeg : Int32).toInt64) &&& 4294967295)), .int (xs (i + 3 : Int32).toNatClampNeg), .int (xs (i + 2 : Int32).toNatClampNeg), .int (xs (i + 1 : Int32).toNatClampNeg), .ref 24]) rfl ?_
  refine jt_iaK rfl hs v6 ?_
  refine jt_sgp 4 (pc1 := 1109) (lv1 := [(0, .ref 0), (1, .ref 24), (2, .ref 215), (3, .ref 453), (4, .int i)]) (st1 := [.int (i + 8), .ref 0, .int (xs (i + 7 : Int32).toNatClampNeg), .int (xs (i + 6 : Int32).toNatClampNeg), .long ((((xs (i + 4 : Int32).toNatClampNeg : Int32).toInt64 : Int64) <<< ((32 : Int32).toInt64 &&& 63)) ||| (((xs (i + 5 : Int32).toNatClampNeg : Int32).toInt64) &&& 4294967295)), .int (xs (i + 3 : Int32).toNatClampNeg), .int (xs (i + 2 : Int32).toNatClampNeg), .int (xs (i + 1 : Int32).toNatClampNeg), .ref 24]) rfl ?_
  refine jt_iaK rfl hs v7 ?_
  refine jt_sgp 1 (pc1 := 1111) (lv1 := [(0, .ref 0), (1, .ref 24), (2, .ref 215), (3, .ref 453), (4, .int i)]) (st1 := [.ref 453, .int (xs (i + 8 : Int32).toNatClampNeg), .int (xs (i + 7 : Int32).toNatClampNeg), .int (xs (i + 6 : Int32).toNatClampNeg), .long ((((xs (i + 4 : Int32).toNatClampNeg : Int32).toInt64 : Int64) <<< ((32 : Int32).toInt64 &&& 63)) ||| (((xs (i + 5 : Int32).toNatClampNeg : Int32).toInt64) &&& 4294967295)), .int (xs (i + 3 : Int32).toNatClampNeg), .int (xs (i + 2 : Int32).toNatClampNeg), .int (xs (i + 1 : Int32).toNatClampNeg), .ref 24]) rfl ?_
  refine jt_call (k := 176) (m2 := jp_W_makeCron) (As := [.ref 24, .int (xs (i + 1 : Int32).toNatClampNeg), .int (xs (i + 2 : Int32).toNatClampNeg), .int (xs (i + 3 : Int32).toNatClampNeg), .long ((((xs (i + 4 : Int32).toNatClampNeg : Int32).toInt64 : Int64) <<< ((32 : Int32).toInt64 &&& 63)) ||| (((xs (i + 5 : Int32).toNatClampNeg : Int32).toInt64) &&& 4294967295)), .int (xs (i + 6 : Int32).toNatClampNeg), .int (xs (i + 7 : Int32).toNatClampNeg), .int (xs (i + 8 : Int32).toNatClampNeg), .ref 453]) (r := []) (mx := 11) rfl rfl rfl rfl rfl (by decide) (by decide) (Nat.le_of_ble_eq_true rfl) hc ?_
  show jt jp_W_law 15 592 1114 [(0, .ref 0), (1, .ref 24), (2, .ref 215), (3, .ref 453), (4, .int i)] [.int k] N1 (dc + c1) (ds + s1) o
  refine jt_sgp 6 (pc1 := 1122) (lv1 := [(5, .int k), (0, .ref 0), (1, .ref 24), (2, .ref 215), (3, .ref 453), (4, .int i)]) (st1 := [.int (i + 1), .ref 0, .ref 215]) rfl ?_
  refine jt_iaK rfl hs1 v0 ?_
  refine jt_sgp 4 (pc1 := 1128) (lv1 := [(5, .int k), (0, .ref 0), (1, .ref 24), (2, .ref 215), (3, .ref 453), (4, .int i)]) (st1 := [.int (i + 2), .ref 0, .int (xs (i + 1 : Int32).toNatClampNeg), .ref 215]) rfl ?_
  refine jt_iaK rfl hs1 v1 ?_
  refine jt_sgp 4 (pc1 := 1134) (lv1 := [(5, .int k), (0, .ref 0), (1, .ref 24), (2, .ref 215), (3, .ref 453), (4, .int i)]) (st1 := [.int (i + 3), .ref 0, .int (xs (i + 2 : Int32).toNatClampNeg), .int (xs (i + 1 : Int32).toNatClampNeg), .ref 215]) rfl ?_
  refine jt_iaK rfl hs1 v2 ?_
  refine jt_sgp 4 (pc1 := 1140) (lv1 := [(5, .int k), (0, .ref 0), (1, .ref 24), (2, .ref 215), (3, .ref 453), (4, .int i)]) (st1 := [.int (i + 4), .ref 0, .int (xs (i + 3 : Int32).toNatClampNeg), .int (xs (i + 2 : Int32).toNatClampNeg), .int (xs (i + 1 : Int32).toNatClampNeg), .ref 215]) rfl ?_
  refine jt_iaK rfl hs1 v3 ?_
  refine jt_sgp 7 (pc1 := 1150) (lv1 := [(5, .int k), (0, .ref 0), (1, .ref 24), (2, .ref 215), (3, .ref 453), (4, .int i)]) (st1 := [.int (i + 5), .ref 0, .long (((xs (i + 4 : Int32).toNatClampNeg : Int32).toInt64 : Int64) <<< ((32 : Int32).toInt64 &&& 63)), .int (xs (i + 3 : Int32).toNatClampNeg), .int (xs (i + 2 : Int32).toNatClampNeg), .int (xs (i + 1 : Int32).toNatClampNeg), .ref 215]) rfl ?_
  refine jt_iaK rfl hs1 v4 ?_
  refine jt_sgp 8 (pc1 := 1163) (lv1 := [(5, .int k), (0, .ref 0), (1, .ref 24), (2, .ref 215), (3, .ref 453), (4, .int i)]) (st1 := [.int (i + 6), .ref 0, .long ((((xs (i + 4 : Int32).toNatClampNeg : Int32).toInt64 : Int64) <<< ((32 : Int32).toInt64 &&& 63)) ||| (((xs (i + 5 : Int32).toNatClampNeg : Int32).toInt64) &&& 4294967295)), .int (xs (i + 3 : Int32).toNatClampNeg), .int (xs (i + 2 : Int32).toNatClampNeg), .int (xs (i + 1 : Int32).toNatClampNeg), .ref 215]) rfl ?_
  refine jt_iaK rfl hs1 v5 ?_
  refine jt_sgp 4 (pc1 := 1170) (lv1 := [(5, .int k), (0, .ref 0), (1, .ref 24), (2, .ref 215), (3, .ref 453), (4, .int i)]) (st1 := [.int (i + 7), .ref 0, .int (xs (i + 6 : Int32).toNatClampNeg), .long ((((xs (i + 4 : Int32).toNatClampNeg : Int32).toInt64 : Int64) <<< ((32 : Int32).toInt64 &&& 63)) ||| (((xs (i + 5 : Int32).toNatClampNeg : Int32).toInt64) &&& 4294967295)), .int (xs (i + 3 : Int32).toNatClampNeg), .int (xs (i + 2 : Int32).toNatClampNeg), .int (xs (i + 1 : Int32).toNatClampNeg), .ref 215]) rfl ?_
  refine jt_iaK rfl hs1 v6 ?_
  refine jt_sgp 4 (pc1 := 1177) (lv1 := [(5, .int k), (0, .ref 0), (1, .ref 24), (2, .ref 215), (3, .ref 453), (4, .int i)]) (st1 := [.int (i + 8), .ref 0, .int (xs (i + 7 : Int32).toNatClampNeg), .int (xs (i + 6 : Int32).toNatClampNeg), .long ((((xs (i + 4 : Int32).toNatClampNeg : Int32).toInt64 : Int64) <<< ((32 : Int32).toInt64 &&& 63)) ||| (((xs (i + 5 : Int32).toNatClampNeg : Int32).toInt64) &&& 4294967295)), .int (xs (i + 3 : Int32).toNatClampNeg), .int (xs (i + 2 : Int32).toNatClampNeg), .int (xs (i + 1 : Int32).toNatClampNeg), .ref 215]) rfl ?_
  refine jt_iaK rfl hs1 v7 ?_
  refine jt_callv (k := 77) (m2 := jp_M_makeCron) (As := [.int (xs (i + 1 : Int32).toNatClampNeg), .int (xs (i + 2 : Int32).toNatClampNeg), .int (xs (i + 3 : Int32).toNatClampNeg), .long ((((xs (i + 4 : Int32).toNatClampNeg : Int32).toInt64 : Int64) <<< ((32 : Int32).toInt64 &&& 63)) ||| (((xs (i + 5 : Int32).toNatClampNeg : Int32).toInt64) &&& 4294967295)), .int (xs (i + 6 : Int32).toNatClampNeg), .int (xs (i + 7 : Int32).toNatClampNeg), .int (xs (i + 8 : Int32).toNatClampNeg)]) (b := 215) (r := []) (mx := 12) rfl rfl rfl h1 (Nat.le_of_ble_eq_true rfl) rfl rfl rfl (by decide) (by decide) (Nat.le_of_ble_eq_true rfl) hm ?_
  show jt jp_W_law 15 592 1181 [(5, .int k), (0, .ref 0), (1, .ref 24), (2, .ref 215), (3, .ref 453), (4, .int i)] [.int b] N2 (dc + c1 + c2) (ds + s1 + s2) o
  refine jt_sgp 2 (pc1 := 1184) (lv1 := [(6, .int b), (5, .int k), (0, .ref 0), (1, .ref 24), (2, .ref 215), (3, .ref 453), (4, .int i)]) (st1 := [.ref 215]) rfl ?_
  refine jt_callv (k := 37) (m2 := jp_M_thrown) (As := []) (b := 215) (r := []) (mx := 1) rfl rfl rfl h2 (Nat.le_of_ble_eq_true rfl) rfl rfl rfl (by decide) (by decide) (Nat.le_of_ble_eq_true rfl) (jl_thrown h2 _ _) ?_
  show jt jp_W_law 15 592 1187 [(6, .int b), (5, .int k), (0, .ref 0), (1, .ref 24), (2, .ref 215), (3, .ref 453), (4, .int i)] [.int k] N2 (dc + c1 + c2) (ds + s1 + s2) o
  refine jt_sgp 1 (pc1 := 1189) (lv1 := [(6, .int b), (5, .int k), (0, .ref 0), (1, .ref 24), (2, .ref 215), (3, .ref 453), (4, .int i)]) (st1 := [.int k, .int k]) rfl ?_
  refine jt_icmp_eq (t := 1194) rfl rfl (fun _ => ?_) (fun q_ => absurd rfl q_)
  refine jt_sgp 1 (pc1 := 1196) (lv1 := [(6, .int b), (5, .int k), (0, .ref 0), (1, .ref 24), (2, .ref 215), (3, .ref 453), (4, .int i)]) (st1 := [.int k]) rfl ?_
  refine jt_if_ne (t := 1211) rfl rfl (fun _ => ?_) (fun z_ => ?_)
  · refine jt_sgp 1 (pc1 := 1771) (lv1 := [(6, .int b), (5, .int k), (0, .ref 0), (1, .ref 24), (2, .ref 215), (3, .ref 453), (4, .int i)]) (st1 := []) rfl ?_
    refine jt_lvs (l1 := [(0, .ref 0), (1, .ref 24), (2, .ref 215), (3, .ref 453), (4, .int i)]) rfl rfl ⟨rfl, rfl, rfl, rfl, rfl, trivial⟩ ?_
    exact kk
  · refine jt_sgp 2 (pc1 := 1201) (lv1 := [(6, .int b), (5, .int k), (0, .ref 0), (1, .ref 24), (2, .ref 215), (3, .ref 453), (4, .int i)]) (st1 := [.int 0, .ref 453]) rfl ?_
    refine jt_lald rfl ho (by unfold vp_in; decide) ?_
    show jt jp_W_law 15 592 1202 [(6, .int b), (5, .int k), (0, .ref 0), (1, .ref 24), (2, .ref 215), (3, .ref 453), (4, .int i)] [.long v] N2 (dc + c1 + c2) (ds + s1 + s2) o
    refine jt_sgp 3 (pc1 := 1206) (lv1 := [(6, .int b), (5, .int k), (0, .ref 0), (1, .ref 24), (2, .ref 215), (3, .ref 453), (4, .int i)]) (st1 := [.int (lg_cmp v ((b : Int32).toInt64))]) rfl ?_
    refine jt_lif_eq (t := 1211) rfl rfl (fun _ => ?_) (fun q_ => absurd (hq z_) q_)
    refine jt_sgp 1 (pc1 := 1771) (lv1 := [(6, .int b), (5, .int k), (0, .ref 0), (1, .ref 24), (2, .ref 215), (3, .ref 453), (4, .int i)]) (st1 := []) rfl ?_
    refine jt_lvs (l1 := [(0, .ref 0), (1, .ref 24), (2, .ref 215), (3, .ref 453), (4, .int i)]) rfl rfl ⟨rfl, rfl, rfl, rfl, rfl, trivial⟩ ?_
    exact kk
set_option maxRecDepth 20000 in
theorem jl_case_cancel {N N1 N2 : jx_H} {L : Nat} {xs : Nat → Int32} {i k : Int32} {fs1 r2 : List Value} {b : Int32} {v : Int64} {c1 s1 c2 s2 dc ds : Nat} {o : jx_O} (hs : N[0]? = some (200, jx_vi L xs)) (hs1 : N1[0]? = some (200, jx_vi L xs)) (v0 : vp_in (i + 1) L) (hc : jt jp_W_cancel 14 569 0 [(0, .ref 24), (1, .int (xs (i + 1 : Int32).toNatClampNeg)), (2, .ref 453)] [] N 0 0 (.inl (some (.int k)), N1, c1, s1)) (h1 : N1[215]? = some (9, fs1)) (hm : jt jp_M_cancel 14 570 0 [(0, .ref 215), (1, .int (xs (i + 1 : Int32).toNatClampNeg))] [] N1 0 0 (.inl (some (.int b)), N2, c2, s2)) (h2 : N2[215]? = some (9, .int k :: r2)) (ho : N2[453]? = some (jl_out v)) (hq : k = 0 → v = b.toInt64) (kk : jt jp_W_law 15 592 1771 [(0, .ref 0), (1, .ref 24), (2, .ref 215), (3, .ref 453), (4, .int i)] [] N2 (dc + c1 + c2) (ds + s1 + s2) o) : jt jp_W_law 15 592 1214 [(0, .ref 0), (1, .ref 24), (2, .ref 215), (3, .ref 453), (4, .int i)] [] N dc ds o := by
  refine jt_sgp 5 (pc1 := 1220) (lv1 := [(0, .ref 0), (1, .ref 24), (2, .ref 215), (3, .ref 453), (4, .int i)]) (st1 := [.int (i + 1), .ref 0, .ref 24]) rfl ?_
  refine jt_iaK rfl hs v0 ?_
  refine jt_sgp 1 (pc1 := 1222) (lv1 := [(0, .ref 0), (1, .ref 24), (2, .ref 215), (3, .ref 453), (4, .int i)]) (st1 := [.ref 453, .int (xs (i + 1 : Int32).toNatClampNeg), .ref 24]) rfl ?_
  refine jt_call (k := 177) (m2 := jp_W_cancel) (As := [.ref 24, .int (xs (i + 1 : Int32).toNatClampNeg), .ref 453]) (r := []) (mx := 4) rfl rfl rfl rfl rfl (by decide) (by decide) (Nat.le_of_ble_eq_true rfl) hc ?_
  show jt jp_W_law 15 592 1225 [(0, .ref 0), (1, .ref 24), (2, .ref 215), (3, .ref 453), (4, .int i)] [.int k] N1 (dc + c1) (ds + s1) o
  refine jt_sgp 6 (pc1 := 1233) (lv1 := [(5, .int k), (0, .ref 0), (1, .ref 24), (2, .ref 215), (3, .ref 453), (4, .int i)]) (st1 := [.int (i + 1), .ref 0, .ref 215]) rfl ?_
  refine jt_iaK rfl hs1 v0 ?_
  refine jt_callv (k := 79) (m2 := jp_M_cancel) (As := [.int (xs (i + 1 : Int32).toNatClampNeg)]) (b := 215) (r := []) (mx := 3) rfl rfl rfl h1 (Nat.le_of_ble_eq_true rfl) rfl rfl rfl (by decide) (by decide) (Nat.le_of_ble_eq_true rfl) hm ?_
  show jt jp_W_law 15 592 1237 [(5, .int k), (0, .ref 0), (1, .ref 24), (2, .ref 215), (3, .ref 453), (4, .int i)] [.int b] N2 (dc + c1 + c2) (ds + s1 + s2) o
  refine jt_sgp 2 (pc1 := 1240) (lv1 := [(6, .int b), (5, .int k), (0, .ref 0), (1, .ref 24), (2, .ref 215), (3, .ref 453), (4, .int i)]) (st1 := [.ref 215]) rfl ?_
  refine jt_callv (k := 37) (m2 := jp_M_thrown) (As := []) (b := 215) (r := []) (mx := 1) rfl rfl rfl h2 (Nat.le_of_ble_eq_true rfl) rfl rfl rfl (by decide) (by decide) (Nat.le_of_ble_eq_true rfl) (jl_thrown h2 _ _) ?_
  show jt jp_W_law 15 592 1243 [(6, .int b), (5, .int k), (0, .ref 0), (1, .ref 24), (2, .ref 215), (3, .ref 453), (4, .int i)] [.int k] N2 (dc + c1 + c2) (ds + s1 + s2) o
  refine jt_sgp 1 (pc1 := 1245) (lv1 := [(6, .int b), (5, .int k), (0, .ref 0), (1, .ref 24), (2, .ref 215), (3, .ref 453), (4, .int i)]) (st1 := [.int k, .int k]) rfl ?_
  refine jt_icmp_eq (t := 1250) rfl rfl (fun _ => ?_) (fun q_ => absurd rfl q_)
  refine jt_sgp 1 (pc1 := 1252) (lv1 := [(6, .int b), (5, .int k), (0, .ref 0), (1, .ref 24), (2, .ref 215), (3, .ref 453), (4, .int i)]) (st1 := [.int k]) rfl ?_
  refine jt_if_ne (t := 1267) rfl rfl (fun _ => ?_) (fun z_ => ?_)
  · refine jt_sgp 1 (pc1 := 1771) (lv1 := [(6, .int b), (5, .int k), (0, .ref 0), (1, .ref 24), (2, .ref 215), (3, .ref 453), (4, .int i)]) (st1 := []) rfl ?_
    refine jt_lvs (l1 := [(0, .ref 0), (1, .ref 24), (2, .ref 215), (3, .ref 453), (4, .int i)]) rfl rfl ⟨rfl, rfl, rfl, rfl, rfl, trivial⟩ ?_
    exact kk
  · refine jt_sgp 2 (pc1 := 1257) (lv1 := [(6, .int b), (5, .int k), (0, .ref 0), (1, .ref 24), (2, .ref 215), (3, .ref 453), (4, .int i)]) (st1 := [.int 0, .ref 453]) rfl ?_
    refine jt_lald rfl ho (by unfold vp_in; decide) ?_
    show jt jp_W_law 15 592 1258 [(6, .int b), (5, .int k), (0, .ref 0), (1, .ref 24), (2, .ref 215), (3, .ref 453), (4, .int i)] [.long v] N2 (dc + c1 + c2) (ds + s1 + s2) o
    refine jt_sgp 3 (pc1 := 1262) (lv1 := [(6, .int b), (5, .int k), (0, .ref 0), (1, .ref 24), (2, .ref 215), (3, .ref 453), (4, .int i)]) (st1 := [.int (lg_cmp v ((b : Int32).toInt64))]) rfl ?_
    refine jt_lif_eq (t := 1267) rfl rfl (fun _ => ?_) (fun q_ => absurd (hq z_) q_)
    refine jt_sgp 1 (pc1 := 1771) (lv1 := [(6, .int b), (5, .int k), (0, .ref 0), (1, .ref 24), (2, .ref 215), (3, .ref 453), (4, .int i)]) (st1 := []) rfl ?_
    refine jt_lvs (l1 := [(0, .ref 0), (1, .ref 24), (2, .ref 215), (3, .ref 453), (4, .int i)]) rfl rfl ⟨rfl, rfl, rfl, rfl, rfl, trivial⟩ ?_
    exact kk
set_option maxRecDepth 20000 in
theorem jl_case_workers {N N1 N2 : jx_H} {L : Nat} {xs : Nat → Int32} {i k : Int32} {fs1 r2 : List Value} {b : Int32} {v : Int64} {c1 s1 c2 s2 dc ds : Nat} {o : jx_O} (hs : N[0]? = some (200, jx_vi L xs)) (hs1 : N1[0]? = some (200, jx_vi L xs)) (v0 : vp_in (i + 1) L) (hc : jt jp_W_workers 14 569 0 [(0, .ref 24), (1, .int (xs (i + 1 : Int32).toNatClampNeg)), (2, .ref 453)] [] N 0 0 (.inl (some (.int k)), N1, c1, s1)) (h1 : N1[215]? = some (9, fs1)) (hm : jt jp_M_workers 14 570 0 [(0, .ref 215), (1, .int (xs (i + 1 : Int32).toNatClampNeg))] [] N1 0 0 (.inl (some (.int b)), N2, c2, s2)) (h2 : N2[215]? = some (9, .int k :: r2)) (ho : N2[453]? = some (jl_out v)) (hq : k = 0 → v = b.toInt64) (kk : jt jp_W_law 15 592 1771 [(0, .ref 0), (1, .ref 24), (2, .ref 215), (3, .ref 453), (4, .int i)] [] N2 (dc + c1 + c2) (ds + s1 + s2) o) : jt jp_W_law 15 592 1270 [(0, .ref 0), (1, .ref 24), (2, .ref 215), (3, .ref 453), (4, .int i)] [] N dc ds o := by
  refine jt_sgp 5 (pc1 := 1276) (lv1 := [(0, .ref 0), (1, .ref 24), (2, .ref 215), (3, .ref 453), (4, .int i)]) (st1 := [.int (i + 1), .ref 0, .ref 24]) rfl ?_
  refine jt_iaK rfl hs v0 ?_
  refine jt_sgp 1 (pc1 := 1278) (lv1 := [(0, .ref 0), (1, .ref 24), (2, .ref 215), (3, .ref 453), (4, .int i)]) (st1 := [.ref 453, .int (xs (i + 1 : Int32).toNatClampNeg), .ref 24]) rfl ?_
  refine jt_call (k := 178) (m2 := jp_W_workers) (As := [.ref 24, .int (xs (i + 1 : Int32).toNatClampNeg), .ref 453]) (r := []) (mx := 4) rfl rfl rfl rfl rfl (by decide) (by decide) (Nat.le_of_ble_eq_true rfl) hc ?_
  show jt jp_W_law 15 592 1281 [(0, .ref 0), (1, .ref 24), (2, .ref 215), (3, .ref 453), (4, .int i)] [.int k] N1 (dc + c1) (ds + s1) o
  refine jt_sgp 6 (pc1 := 1289) (lv1 := [(5, .int k), (0, .ref 0), (1, .ref 24), (2, .ref 215), (3, .ref 453), (4, .int i)]) (st1 := [.int (i + 1), .ref 0, .ref 215]) rfl ?_
  refine jt_iaK rfl hs1 v0 ?_
  refine jt_callv (k := 80) (m2 := jp_M_workers) (As := [.int (xs (i + 1 : Int32).toNatClampNeg)]) (b := 215) (r := []) (mx := 3) rfl rfl rfl h1 (Nat.le_of_ble_eq_true rfl) rfl rfl rfl (by decide) (by decide) (Nat.le_of_ble_eq_true rfl) hm ?_
  show jt jp_W_law 15 592 1293 [(5, .int k), (0, .ref 0), (1, .ref 24), (2, .ref 215), (3, .ref 453), (4, .int i)] [.int b] N2 (dc + c1 + c2) (ds + s1 + s2) o
  refine jt_sgp 2 (pc1 := 1296) (lv1 := [(6, .int b), (5, .int k), (0, .ref 0), (1, .ref 24), (2, .ref 215), (3, .ref 453), (4, .int i)]) (st1 := [.ref 215]) rfl ?_
  refine jt_callv (k := 37) (m2 := jp_M_thrown) (As := []) (b := 215) (r := []) (mx := 1) rfl rfl rfl h2 (Nat.le_of_ble_eq_true rfl) rfl rfl rfl (by decide) (by decide) (Nat.le_of_ble_eq_true rfl) (jl_thrown h2 _ _) ?_
  show jt jp_W_law 15 592 1299 [(6, .int b), (5, .int k), (0, .ref 0), (1, .ref 24), (2, .ref 215), (3, .ref 453), (4, .int i)] [.int k] N2 (dc + c1 + c2) (ds + s1 + s2) o
  refine jt_sgp 1 (pc1 := 1301) (lv1 := [(6, .int b), (5, .int k), (0, .ref 0), (1, .ref 24), (2, .ref 215), (3, .ref 453), (4, .int i)]) (st1 := [.int k, .int k]) rfl ?_
  refine jt_icmp_eq (t := 1306) rfl rfl (fun _ => ?_) (fun q_ => absurd rfl q_)
  refine jt_sgp 1 (pc1 := 1308) (lv1 := [(6, .int b), (5, .int k), (0, .ref 0), (1, .ref 24), (2, .ref 215), (3, .ref 453), (4, .int i)]) (st1 := [.int k]) rfl ?_
  refine jt_if_ne (t := 1323) rfl rfl (fun _ => ?_) (fun z_ => ?_)
  · refine jt_sgp 1 (pc1 := 1771) (lv1 := [(6, .int b), (5, .int k), (0, .ref 0), (1, .ref 24), (2, .ref 215), (3, .ref 453), (4, .int i)]) (st1 := []) rfl ?_
    refine jt_lvs (l1 := [(0, .ref 0), (1, .ref 24), (2, .ref 215), (3, .ref 453), (4, .int i)]) rfl rfl ⟨rfl, rfl, rfl, rfl, rfl, trivial⟩ ?_
    exact kk
  · refine jt_sgp 2 (pc1 := 1313) (lv1 := [(6, .int b), (5, .int k), (0, .ref 0), (1, .ref 24), (2, .ref 215), (3, .ref 453), (4, .int i)]) (st1 := [.int 0, .ref 453]) rfl ?_
    refine jt_lald rfl ho (by unfold vp_in; decide) ?_
    show jt jp_W_law 15 592 1314 [(6, .int b), (5, .int k), (0, .ref 0), (1, .ref 24), (2, .ref 215), (3, .ref 453), (4, .int i)] [.long v] N2 (dc + c1 + c2) (ds + s1 + s2) o
    refine jt_sgp 3 (pc1 := 1318) (lv1 := [(6, .int b), (5, .int k), (0, .ref 0), (1, .ref 24), (2, .ref 215), (3, .ref 453), (4, .int i)]) (st1 := [.int (lg_cmp v ((b : Int32).toInt64))]) rfl ?_
    refine jt_lif_eq (t := 1323) rfl rfl (fun _ => ?_) (fun q_ => absurd (hq z_) q_)
    refine jt_sgp 1 (pc1 := 1771) (lv1 := [(6, .int b), (5, .int k), (0, .ref 0), (1, .ref 24), (2, .ref 215), (3, .ref 453), (4, .int i)]) (st1 := []) rfl ?_
    refine jt_lvs (l1 := [(0, .ref 0), (1, .ref 24), (2, .ref 215), (3, .ref 453), (4, .int i)]) rfl rfl ⟨rfl, rfl, rfl, rfl, rfl, trivial⟩ ?_
    exact kk
set_option maxRecDepth 20000 in
theorem jl_case_advance {N N1 N2 : jx_H} {L : Nat} {xs : Nat → Int32} {i k : Int32} {fs1 r2 : List Value} {b : Int32} {v : Int64} {c1 s1 c2 s2 dc ds : Nat} {o : jx_O} (hs : N[0]? = some (200, jx_vi L xs)) (hs1 : N1[0]? = some (200, jx_vi L xs)) (v0 : vp_in (i + 1) L) (v1 : vp_in (i + 2) L) (hc : jt jp_W_advance 14 568 0 [(0, .ref 24), (1, .long ((((xs (i + 1 : Int32).toNatClampNeg : Int32).toInt64 : Int64) <<< ((32 : Int32).toInt64 &&& 63)) ||| (((xs (i + 2 : Int32).toNatClampNeg : Int32).toInt64) &&& 4294967295))), (3, .ref 453)] [] N 0 0 (.inl (some (.int k)), N1, c1, s1)) (h1 : N1[215]? = some (9, fs1)) (hm : jt jp_M_advance 14 565 0 [(0, .ref 215), (1, .long ((((xs (i + 1 : Int32).toNatClampNeg : Int32).toInt64 : Int64) <<< ((32 : Int32).toInt64 &&& 63)) ||| (((xs (i + 2 : Int32).toNatClampNeg : Int32).toInt64) &&& 4294967295)))] [] N1 0 0 (.inl (some (.int b)), N2, c2, s2)) (h2 : N2[215]? = some (9, .int k :: r2)) (ho : N2[453]? = some (jl_out v)) (hq : k = 0 → v = b.toInt64) (kk : jt jp_W_law 15 592 1771 [(0, .ref 0), (1, .ref 24), (2, .ref 215), (3, .ref 453), (4, .int i)] [] N2 (dc + c1 + c2) (ds + s1 + s2) o) : jt jp_W_law 15 592 1326 [(0, .ref 0), (1, .ref 24), (2, .ref 215), (3, .ref 453), (4, .int i)] [] N dc ds o := by
  refine jt_sgp 5 (pc1 := 1332) (lv1 := [(0, .ref 0), (1, .ref 24), (2, .ref 215), (3, .ref 453), (4, .int i)]) (st1 := [.int (i + 1), .ref 0, .ref 24]) rfl ?_
  refine jt_iaK rfl hs v0 ?_
  refine jt_sgp 7 (pc1 := 1342) (lv1 := [(0, .ref 0), (1, .ref 24), (2, .ref 215), (3, .ref 453), (4, .int i)]) (st1 := [.int (i + 2), .ref 0, .long (((xs (i + 1 : Int32).toNatClampNeg : Int32).toInt64 : Int64) <<< ((32 : Int32).toInt64 &&& 63)), .ref 24]) rfl ?_
  refine jt_iaK rfl hs v1 ?_
  refine jt_sgp 5 (pc1 := 1350) (lv1 := [(0, .ref 0), (1, .ref 24), (2, .ref 215), (3, .ref 453), (4, .int i)]) (st1 := [.ref 453, .long ((((xs (i + 1 : Int32).toNatClampNeg : Int32).toInt64 : Int64) <<< ((32 : Int32).toInt64 &&& 63)) ||| (((xs (i + 2 : Int32).toNatClampNeg : Int32).toInt64) &&& 4294967295)), .ref 24]) rfl ?_
  refine jt_call (k := 179) (m2 := jp_W_advance) (As := [.ref 24, .long ((((xs (i + 1 : Int32).toNatClampNeg : Int32).toInt64 : Int64) <<< ((32 : Int32).toInt64 &&& 63)) ||| (((xs (i + 2 : Int32).toNatClampNeg : Int32).toInt64) &&& 4294967295)), .ref 453]) (r := []) (mx := 5) rfl rfl rfl rfl rfl (by decide) (by decide) (Nat.le_of_ble_eq_true rfl) hc ?_
  show jt jp_W_law 15 592 1353 [(0, .ref 0), (1, .ref 24), (2, .ref 215), (3, .ref 453), (4, .int i)] [.int k] N1 (dc + c1) (ds + s1) o
  refine jt_sgp 6 (pc1 := 1361) (lv1 := [(5, .int k), (0, .ref 0), (1, .ref 24), (2, .ref 215), (3, .ref 453), (4, .int i)]) (st1 := [.int (i + 1), .ref 0, .ref 215]) rfl ?_
  refine jt_iaK rfl hs1 v0 ?_
  refine jt_sgp 7 (pc1 := 1371) (lv1 := [(5, .int k), (0, .ref 0), (1, .ref 24), (2, .ref 215), (3, .ref 453), (4, .int i)]) (st1 := [.int (i + 2), .ref 0, .long (((xs (i + 1 : Int32).toNatClampNeg : Int32).toInt64 : Int64) <<< ((32 : Int32).toInt64 &&& 63)), .ref 215]) rfl ?_
  refine jt_iaK rfl hs1 v1 ?_
  refine jt_sgp 4 (pc1 := 1378) (lv1 := [(5, .int k), (0, .ref 0), (1, .ref 24), (2, .ref 215), (3, .ref 453), (4, .int i)]) (st1 := [.long ((((xs (i + 1 : Int32).toNatClampNeg : Int32).toInt64 : Int64) <<< ((32 : Int32).toInt64 &&& 63)) ||| (((xs (i + 2 : Int32).toNatClampNeg : Int32).toInt64) &&& 4294967295)), .ref 215]) rfl ?_
  refine jt_callv (k := 86) (m2 := jp_M_advance) (As := [.long ((((xs (i + 1 : Int32).toNatClampNeg : Int32).toInt64 : Int64) <<< ((32 : Int32).toInt64 &&& 63)) ||| (((xs (i + 2 : Int32).toNatClampNeg : Int32).toInt64) &&& 4294967295))]) (b := 215) (r := []) (mx := 8) rfl rfl rfl h1 (Nat.le_of_ble_eq_true rfl) rfl rfl rfl (by decide) (by decide) (Nat.le_of_ble_eq_true rfl) hm ?_
  show jt jp_W_law 15 592 1381 [(5, .int k), (0, .ref 0), (1, .ref 24), (2, .ref 215), (3, .ref 453), (4, .int i)] [.int b] N2 (dc + c1 + c2) (ds + s1 + s2) o
  refine jt_sgp 2 (pc1 := 1384) (lv1 := [(6, .int b), (5, .int k), (0, .ref 0), (1, .ref 24), (2, .ref 215), (3, .ref 453), (4, .int i)]) (st1 := [.ref 215]) rfl ?_
  refine jt_callv (k := 37) (m2 := jp_M_thrown) (As := []) (b := 215) (r := []) (mx := 1) rfl rfl rfl h2 (Nat.le_of_ble_eq_true rfl) rfl rfl rfl (by decide) (by decide) (Nat.le_of_ble_eq_true rfl) (jl_thrown h2 _ _) ?_
  show jt jp_W_law 15 592 1387 [(6, .int b), (5, .int k), (0, .ref 0), (1, .ref 24), (2, .ref 215), (3, .ref 453), (4, .int i)] [.int k] N2 (dc + c1 + c2) (ds + s1 + s2) o
  refine jt_sgp 1 (pc1 := 1389) (lv1 := [(6, .int b), (5, .int k), (0, .ref 0), (1, .ref 24), (2, .ref 215), (3, .ref 453), (4, .int i)]) (st1 := [.int k, .int k]) rfl ?_
  refine jt_icmp_eq (t := 1394) rfl rfl (fun _ => ?_) (fun q_ => absurd rfl q_)
  refine jt_sgp 1 (pc1 := 1396) (lv1 := [(6, .int b), (5, .int k), (0, .ref 0), (1, .ref 24), (2, .ref 215), (3, .ref 453), (4, .int i)]) (st1 := [.int k]) rfl ?_
  refine jt_if_ne (t := 1411) rfl rfl (fun _ => ?_) (fun z_ => ?_)
  · refine jt_sgp 1 (pc1 := 1771) (lv1 := [(6, .int b), (5, .int k), (0, .ref 0), (1, .ref 24), (2, .ref 215), (3, .ref 453), (4, .int i)]) (st1 := []) rfl ?_
    refine jt_lvs (l1 := [(0, .ref 0), (1, .ref 24), (2, .ref 215), (3, .ref 453), (4, .int i)]) rfl rfl ⟨rfl, rfl, rfl, rfl, rfl, trivial⟩ ?_
    exact kk
  · refine jt_sgp 2 (pc1 := 1401) (lv1 := [(6, .int b), (5, .int k), (0, .ref 0), (1, .ref 24), (2, .ref 215), (3, .ref 453), (4, .int i)]) (st1 := [.int 0, .ref 453]) rfl ?_
    refine jt_lald rfl ho (by unfold vp_in; decide) ?_
    show jt jp_W_law 15 592 1402 [(6, .int b), (5, .int k), (0, .ref 0), (1, .ref 24), (2, .ref 215), (3, .ref 453), (4, .int i)] [.long v] N2 (dc + c1 + c2) (ds + s1 + s2) o
    refine jt_sgp 3 (pc1 := 1406) (lv1 := [(6, .int b), (5, .int k), (0, .ref 0), (1, .ref 24), (2, .ref 215), (3, .ref 453), (4, .int i)]) (st1 := [.int (lg_cmp v ((b : Int32).toInt64))]) rfl ?_
    refine jt_lif_eq (t := 1411) rfl rfl (fun _ => ?_) (fun q_ => absurd (hq z_) q_)
    refine jt_sgp 1 (pc1 := 1771) (lv1 := [(6, .int b), (5, .int k), (0, .ref 0), (1, .ref 24), (2, .ref 215), (3, .ref 453), (4, .int i)]) (st1 := []) rfl ?_
    refine jt_lvs (l1 := [(0, .ref 0), (1, .ref 24), (2, .ref 215), (3, .ref 453), (4, .int i)]) rfl rfl ⟨rfl, rfl, rfl, rfl, rfl, trivial⟩ ?_
    exact kk
set_option maxRecDepth 20000 in
theorem jl_case_stall {N N1 N2 : jx_H} {L : Nat} {xs : Nat → Int32} {i k : Int32} {fs1 r2 : List Value} {c1 s1 c2 s2 dc ds : Nat} {o : jx_O} (hs : N[0]? = some (200, jx_vi L xs)) (hs1 : N1[0]? = some (200, jx_vi L xs)) (v0 : vp_in (i + 1) L) (v1 : vp_in (i + 2) L) (hc : jt jp_W_stall 14 569 0 [(0, .ref 24), (1, .long ((((xs (i + 1 : Int32).toNatClampNeg : Int32).toInt64 : Int64) <<< ((32 : Int32).toInt64 &&& 63)) ||| (((xs (i + 2 : Int32).toNatClampNeg : Int32).toInt64) &&& 4294967295)))] [] N 0 0 (.inl (some (.int k)), N1, c1, s1)) (h1 : N1[215]? = some (9, fs1)) (hm : jt jp_M_stall 14 570 0 [(0, .ref 215), (1, .long ((((xs (i + 1 : Int32).toNatClampNeg : Int32).toInt64 : Int64) <<< ((32 : Int32).toInt64 &&& 63)) ||| (((xs (i + 2 : Int32).toNatClampNeg : Int32).toInt64) &&& 4294967295)))] [] N1 0 0 (.inl none, N2, c2, s2)) (h2 : N2[215]? = some (9, .int k :: r2)) (kk : jt jp_W_law 15 592 1771 [(0, .ref 0), (1, .ref 24), (2, .ref 215), (3, .ref 453), (4, .int i)] [] N2 (dc + c1 + c2) (ds + s1 + s2) o) : jt jp_W_law 15 592 1414 [(0, .ref 0), (1, .ref 24), (2, .ref 215), (3, .ref 453), (4, .int i)] [] N dc ds o := by
  refine jt_sgp 5 (pc1 := 1420) (lv1 := [(0, .ref 0), (1, .ref 24), (2, .ref 215), (3, .ref 453), (4, .int i)]) (st1 := [.int (i + 1), .ref 0, .ref 24]) rfl ?_
  refine jt_iaK rfl hs v0 ?_
  refine jt_sgp 7 (pc1 := 1430) (lv1 := [(0, .ref 0), (1, .ref 24), (2, .ref 215), (3, .ref 453), (4, .int i)]) (st1 := [.int (i + 2), .ref 0, .long (((xs (i + 1 : Int32).toNatClampNeg : Int32).toInt64 : Int64) <<< ((32 : Int32).toInt64 &&& 63)), .ref 24]) rfl ?_
  refine jt_iaK rfl hs v1 ?_
  refine jt_sgp 4 (pc1 := 1437) (lv1 := [(0, .ref 0), (1, .ref 24), (2, .ref 215), (3, .ref 453), (4, .int i)]) (st1 := [.long ((((xs (i + 1 : Int32).toNatClampNeg : Int32).toInt64 : Int64) <<< ((32 : Int32).toInt64 &&& 63)) ||| (((xs (i + 2 : Int32).toNatClampNeg : Int32).toInt64) &&& 4294967295)), .ref 24]) rfl ?_
  refine jt_call (k := 180) (m2 := jp_W_stall) (As := [.ref 24, .long ((((xs (i + 1 : Int32).toNatClampNeg : Int32).toInt64 : Int64) <<< ((32 : Int32).toInt64 &&& 63)) ||| (((xs (i + 2 : Int32).toNatClampNeg : Int32).toInt64) &&& 4294967295))]) (r := []) (mx := 4) rfl rfl rfl rfl rfl (by decide) (by decide) (Nat.le_of_ble_eq_true rfl) hc ?_
  show jt jp_W_law 15 592 1440 [(0, .ref 0), (1, .ref 24), (2, .ref 215), (3, .ref 453), (4, .int i)] [.int k] N1 (dc + c1) (ds + s1) o
  refine jt_sgp 6 (pc1 := 1448) (lv1 := [(5, .int k), (0, .ref 0), (1, .ref 24), (2, .ref 215), (3, .ref 453), (4, .int i)]) (st1 := [.int (i + 1), .ref 0, .ref 215]) rfl ?_
  refine jt_iaK rfl hs1 v0 ?_
  refine jt_sgp 7 (pc1 := 1458) (lv1 := [(5, .int k), (0, .ref 0), (1, .ref 24), (2, .ref 215), (3, .ref 453), (4, .int i)]) (st1 := [.int (i + 2), .ref 0, .long (((xs (i + 1 : Int32).toNatClampNeg : Int32).toInt64 : Int64) <<< ((32 : Int32).toInt64 &&& 63)), .ref 215]) rfl ?_
  refine jt_iaK rfl hs1 v1 ?_
  refine jt_sgp 4 (pc1 := 1465) (lv1 := [(5, .int k), (0, .ref 0), (1, .ref 24), (2, .ref 215), (3, .ref 453), (4, .int i)]) (st1 := [.long ((((xs (i + 1 : Int32).toNatClampNeg : Int32).toInt64 : Int64) <<< ((32 : Int32).toInt64 &&& 63)) ||| (((xs (i + 2 : Int32).toNatClampNeg : Int32).toInt64) &&& 4294967295)), .ref 215]) rfl ?_
  refine jt_callv (k := 87) (m2 := jp_M_stall) (As := [.long ((((xs (i + 1 : Int32).toNatClampNeg : Int32).toInt64 : Int64) <<< ((32 : Int32).toInt64 &&& 63)) ||| (((xs (i + 2 : Int32).toNatClampNeg : Int32).toInt64) &&& 4294967295))]) (b := 215) (r := []) (mx := 3) rfl rfl rfl h1 (Nat.le_of_ble_eq_true rfl) rfl rfl rfl (by decide) (by decide) (Nat.le_of_ble_eq_true rfl) hm ?_
  show jt jp_W_law 15 592 1468 [(5, .int k), (0, .ref 0), (1, .ref 24), (2, .ref 215), (3, .ref 453), (4, .int i)] [] N2 (dc + c1 + c2) (ds + s1 + s2) o
  refine jt_sgp 1 (pc1 := 1469) (lv1 := [(5, .int k), (0, .ref 0), (1, .ref 24), (2, .ref 215), (3, .ref 453), (4, .int i)]) (st1 := [.ref 215]) rfl ?_
  refine jt_callv (k := 37) (m2 := jp_M_thrown) (As := []) (b := 215) (r := []) (mx := 1) rfl rfl rfl h2 (Nat.le_of_ble_eq_true rfl) rfl rfl rfl (by decide) (by decide) (Nat.le_of_ble_eq_true rfl) (jl_thrown h2 _ _) ?_
  show jt jp_W_law 15 592 1472 [(5, .int k), (0, .ref 0), (1, .ref 24), (2, .ref 215), (3, .ref 453), (4, .int i)] [.int k] N2 (dc + c1 + c2) (ds + s1 + s2) o
  refine jt_sgp 1 (pc1 := 1474) (lv1 := [(5, .int k), (0, .ref 0), (1, .ref 24), (2, .ref 215), (3, .ref 453), (4, .int i)]) (st1 := [.int k, .int k]) rfl ?_
  refine jt_icmp_eq (t := 1479) rfl rfl (fun _ => ?_) (fun q_ => absurd rfl q_)
  refine jt_sgp 1 (pc1 := 1771) (lv1 := [(5, .int k), (0, .ref 0), (1, .ref 24), (2, .ref 215), (3, .ref 453), (4, .int i)]) (st1 := []) rfl ?_
  refine jt_lvs (l1 := [(0, .ref 0), (1, .ref 24), (2, .ref 215), (3, .ref 453), (4, .int i)]) rfl rfl ⟨rfl, rfl, rfl, rfl, rfl, trivial⟩ ?_
  exact kk
set_option maxRecDepth 20000 in
theorem jl_case_close_00 {N N1 N2 : jx_H} {L : Nat} {xs : Nat → Int32} {i k : Int32} {fs1 r2 : List Value} {b : Int32} {v : Int64} {c1 s1 c2 s2 dc ds : Nat} {o : jx_O} (hs : N[0]? = some (200, jx_vi L xs)) (hs1 : N1[0]? = some (200, jx_vi L xs)) (v0 : vp_in (i + 1) L) (b1 : (xs (i + 1 : Int32).toNatClampNeg) = 0) (v2 : vp_in (i + 2) L) (b3 : (xs (i + 2 : Int32).toNatClampNeg) = 0) (hc : jt jp_W_close 14 568 0 [(0, .ref 24), (1, .int 0), (2, .int 0), (3, .ref 453)] [] N 0 0 (.inl (some (.int k)), N1, c1, s1)) (h1 : N1[215]? = some (9, fs1)) (hm : jt jp_M_close 14 569 0 [(0, .ref 215), (1, .int 0), (2, .int 0)] [] N1 0 0 (.inl (some (.int b)), N2, c2, s2)) (h2 : N2[215]? = some (9, .int k :: r2)) (ho : N2[453]? = some (jl_out v)) (hq : k = 0 → v = b.toInt64) (kk : jt jp_W_law 15 592 1771 [(0, .ref 0), (1, .ref 24), (2, .ref 215), (3, .ref 453), (4, .int i)] [] N2 (dc + c1 + c2) (ds + s1 + s2) o) : jt jp_W_law 15 592 1482 [(0, .ref 0), (1, .ref 24), (2, .ref 215), (3, .ref 453), (4, .int i)] [] N dc ds o := by
  refine jt_sgp 5 (pc1 := 1488) (lv1 := [(0, .ref 0), (1, .ref 24), (2, .ref 215), (3, .ref 453), (4, .int i)]) (st1 := [.int (i + 1), .ref 0, .ref 24]) rfl ?_
  refine jt_iaK rfl hs v0 ?_
  refine jt_if_eq (t := 1496) rfl rfl (fun _ => ?_) (fun q_ => absurd b1 q_)
  refine jt_sgp 5 (pc1 := 1502) (lv1 := [(0, .ref 0), (1, .ref 24), (2, .ref 215), (3, .ref 453), (4, .int i)]) (st1 := [.int (i + 2), .ref 0, .int 0, .ref 24]) rfl ?_
  refine jt_iaK rfl hs v2 ?_
  refine jt_if_eq (t := 1510) rfl rfl (fun _ => ?_) (fun q_ => absurd b3 q_)
  refine jt_sgp 2 (pc1 := 1512) (lv1 := [(0, .ref 0), (1, .ref 24), (2, .ref 215), (3, .ref 453), (4, .int i)]) (st1 := [.ref 453, .int 0, .int 0, .ref 24]) rfl ?_
  refine jt_call (k := 181) (m2 := jp_W_close) (As := [.ref 24, .int 0, .int 0, .ref 453]) (r := []) (mx := 5) rfl rfl rfl rfl rfl (by decide) (by decide) (Nat.le_of_ble_eq_true rfl) hc ?_
  show jt jp_W_law 15 592 1515 [(0, .ref 0), (1, .ref 24), (2, .ref 215), (3, .ref 453), (4, .int i)] [.int k] N1 (dc + c1) (ds + s1) o
  refine jt_sgp 6 (pc1 := 1523) (lv1 := [(5, .int k), (0, .ref 0), (1, .ref 24), (2, .ref 215), (3, .ref 453), (4, .int i)]) (st1 := [.int (i + 1), .ref 0, .ref 215]) rfl ?_
  refine jt_iaK rfl hs1 v0 ?_
  refine jt_if_eq (t := 1531) rfl rfl (fun _ => ?_) (fun q_ => absurd b1 q_)
  refine jt_sgp 5 (pc1 := 1537) (lv1 := [(5, .int k), (0, .ref 0), (1, .ref 24), (2, .ref 215), (3, .ref 453), (4, .int i)]) (st1 := [.int (i + 2), .ref 0, .int 0, .ref 215]) rfl ?_
  refine jt_iaK rfl hs1 v2 ?_
  refine jt_if_eq (t := 1545) rfl rfl (fun _ => ?_) (fun q_ => absurd b3 q_)
  refine jt_sgp 1 (pc1 := 1546) (lv1 := [(5, .int k), (0, .ref 0), (1, .ref 24), (2, .ref 215), (3, .ref 453), (4, .int i)]) (st1 := [.int 0, .int 0, .ref 215]) rfl ?_
  refine jt_callv (k := 89) (m2 := jp_M_close) (As := [.int 0, .int 0]) (b := 215) (r := []) (mx := 4) rfl rfl rfl h1 (Nat.le_of_ble_eq_true rfl) rfl rfl rfl (by decide) (by decide) (Nat.le_of_ble_eq_true rfl) hm ?_
  show jt jp_W_law 15 592 1549 [(5, .int k), (0, .ref 0), (1, .ref 24), (2, .ref 215), (3, .ref 453), (4, .int i)] [.int b] N2 (dc + c1 + c2) (ds + s1 + s2) o
  refine jt_sgp 2 (pc1 := 1552) (lv1 := [(6, .int b), (5, .int k), (0, .ref 0), (1, .ref 24), (2, .ref 215), (3, .ref 453), (4, .int i)]) (st1 := [.ref 215]) rfl ?_
  refine jt_callv (k := 37) (m2 := jp_M_thrown) (As := []) (b := 215) (r := []) (mx := 1) rfl rfl rfl h2 (Nat.le_of_ble_eq_true rfl) rfl rfl rfl (by decide) (by decide) (Nat.le_of_ble_eq_true rfl) (jl_thrown h2 _ _) ?_
  show jt jp_W_law 15 592 1555 [(6, .int b), (5, .int k), (0, .ref 0), (1, .ref 24), (2, .ref 215), (3, .ref 453), (4, .int i)] [.int k] N2 (dc + c1 + c2) (ds + s1 + s2) o
  refine jt_sgp 1 (pc1 := 1557) (lv1 := [(6, .int b), (5, .int k), (0, .ref 0), (1, .ref 24), (2, .ref 215), (3, .ref 453), (4, .int i)]) (st1 := [.int k, .int k]) rfl ?_
  refine jt_icmp_eq (t := 1562) rfl rfl (fun _ => ?_) (fun q_ => absurd rfl q_)
  refine jt_sgp 1 (pc1 := 1564) (lv1 := [(6, .int b), (5, .int k), (0, .ref 0), (1, .ref 24), (2, .ref 215), (3, .ref 453), (4, .int i)]) (st1 := [.int k]) rfl ?_
  refine jt_if_ne (t := 1579) rfl rfl (fun _ => ?_) (fun z_ => ?_)
  · refine jt_sgp 1 (pc1 := 1771) (lv1 := [(6, .int b), (5, .int k), (0, .ref 0), (1, .ref 24), (2, .ref 215), (3, .ref 453), (4, .int i)]) (st1 := []) rfl ?_
    refine jt_lvs (l1 := [(0, .ref 0), (1, .ref 24), (2, .ref 215), (3, .ref 453), (4, .int i)]) rfl rfl ⟨rfl, rfl, rfl, rfl, rfl, trivial⟩ ?_
    exact kk
  · refine jt_sgp 2 (pc1 := 1569) (lv1 := [(6, .int b), (5, .int k), (0, .ref 0), (1, .ref 24), (2, .ref 215), (3, .ref 453), (4, .int i)]) (st1 := [.int 0, .ref 453]) rfl ?_
    refine jt_lald rfl ho (by unfold vp_in; decide) ?_
    show jt jp_W_law 15 592 1570 [(6, .int b), (5, .int k), (0, .ref 0), (1, .ref 24), (2, .ref 215), (3, .ref 453), (4, .int i)] [.long v] N2 (dc + c1 + c2) (ds + s1 + s2) o
    refine jt_sgp 3 (pc1 := 1574) (lv1 := [(6, .int b), (5, .int k), (0, .ref 0), (1, .ref 24), (2, .ref 215), (3, .ref 453), (4, .int i)]) (st1 := [.int (lg_cmp v ((b : Int32).toInt64))]) rfl ?_
    refine jt_lif_eq (t := 1579) rfl rfl (fun _ => ?_) (fun q_ => absurd (hq z_) q_)
    refine jt_sgp 1 (pc1 := 1771) (lv1 := [(6, .int b), (5, .int k), (0, .ref 0), (1, .ref 24), (2, .ref 215), (3, .ref 453), (4, .int i)]) (st1 := []) rfl ?_
    refine jt_lvs (l1 := [(0, .ref 0), (1, .ref 24), (2, .ref 215), (3, .ref 453), (4, .int i)]) rfl rfl ⟨rfl, rfl, rfl, rfl, rfl, trivial⟩ ?_
    exact kk
set_option maxRecDepth 20000 in
theorem jl_case_close_01 {N N1 N2 : jx_H} {L : Nat} {xs : Nat → Int32} {i k : Int32} {fs1 r2 : List Value} {b : Int32} {v : Int64} {c1 s1 c2 s2 dc ds : Nat} {o : jx_O} (hs : N[0]? = some (200, jx_vi L xs)) (hs1 : N1[0]? = some (200, jx_vi L xs)) (v0 : vp_in (i + 1) L) (b1 : (xs (i + 1 : Int32).toNatClampNeg) = 0) (v2 : vp_in (i + 2) L) (b3 : ¬ (xs (i + 2 : Int32).toNatClampNeg) = 0) (hc : jt jp_W_close 14 568 0 [(0, .ref 24), (1, .int 0), (2, .int 1), (3, .ref 453)] [] N 0 0 (.inl (some (.int k)), N1, c1, s1)) (h1 : N1[215]? = some (9, fs1)) (hm : jt jp_M_close 14 569 0 [(0, .ref 215), (1, .int 0), (2, .int 1)] [] N1 0 0 (.inl (some (.int b)), N2, c2, s2)) (h2 : N2[215]? = some (9, .int k :: r2)) (ho : N2[453]? = some (jl_out v)) (hq : k = 0 → v = b.toInt64) (kk : jt jp_W_law 15 592 1771 [(0, .ref 0), (1, .ref 24), (2, .ref 215), (3, .ref 453), (4, .int i)] [] N2 (dc + c1 + c2) (ds + s1 + s2) o) : jt jp_W_law 15 592 1482 [(0, .ref 0), (1, .ref 24), (2, .ref 215), (3, .ref 453), (4, .int i)] [] N dc ds o := by
  refine jt_sgp 5 (pc1 := 1488) (lv1 := [(0, .ref 0), (1, .ref 24), (2, .ref 215), (3, .ref 453), (4, .int i)]) (st1 := [.int (i + 1), .ref 0, .ref 24]) rfl ?_
  refine jt_iaK rfl hs v0 ?_
  refine jt_if_eq (t := 1496) rfl rfl (fun _ => ?_) (fun q_ => absurd b1 q_)
  refine jt_sgp 5 (pc1 := 1502) (lv1 := [(0, .ref 0), (1, .ref 24), (2, .ref 215), (3, .ref 453), (4, .int i)]) (st1 := [.int (i + 2), .ref 0, .int 0, .ref 24]) rfl ?_
  refine jt_iaK rfl hs v2 ?_
  refine jt_if_eq (t := 1510) rfl rfl (fun q_ => absurd q_ b3) (fun _ => ?_)
  refine jt_sgp 3 (pc1 := 1512) (lv1 := [(0, .ref 0), (1, .ref 24), (2, .ref 215), (3, .ref 453), (4, .int i)]) (st1 := [.ref 453, .int 1, .int 0, .ref 24]) rfl ?_
  refine jt_call (k := 181) (m2 := jp_W_close) (As := [.ref 24, .int 0, .int 1, .ref 453]) (r := []) (mx := 5) rfl rfl rfl rfl rfl (by decide) (by decide) (Nat.le_of_ble_eq_true rfl) hc ?_
  show jt jp_W_law 15 592 1515 [(0, .ref 0), (1, .ref 24), (2, .ref 215), (3, .ref 453), (4, .int i)] [.int k] N1 (dc + c1) (ds + s1) o
  refine jt_sgp 6 (pc1 := 1523) (lv1 := [(5, .int k), (0, .ref 0), (1, .ref 24), (2, .ref 215), (3, .ref 453), (4, .int i)]) (st1 := [.int (i + 1), .ref 0, .ref 215]) rfl ?_
  refine jt_iaK rfl hs1 v0 ?_
  refine jt_if_eq (t := 1531) rfl rfl (fun _ => ?_) (fun q_ => absurd b1 q_)
  refine jt_sgp 5 (pc1 := 1537) (lv1 := [(5, .int k), (0, .ref 0), (1, .ref 24), (2, .ref 215), (3, .ref 453), (4, .int i)]) (st1 := [.int (i + 2), .ref 0, .int 0, .ref 215]) rfl ?_
  refine jt_iaK rfl hs1 v2 ?_
  refine jt_if_eq (t := 1545) rfl rfl (fun q_ => absurd q_ b3) (fun _ => ?_)
  refine jt_sgp 2 (pc1 := 1546) (lv1 := [(5, .int k), (0, .ref 0), (1, .ref 24), (2, .ref 215), (3, .ref 453), (4, .int i)]) (st1 := [.int 1, .int 0, .ref 215]) rfl ?_
  refine jt_callv (k := 89) (m2 := jp_M_close) (As := [.int 0, .int 1]) (b := 215) (r := []) (mx := 4) rfl rfl rfl h1 (Nat.le_of_ble_eq_true rfl) rfl rfl rfl (by decide) (by decide) (Nat.le_of_ble_eq_true rfl) hm ?_
  show jt jp_W_law 15 592 1549 [(5, .int k), (0, .ref 0), (1, .ref 24), (2, .ref 215), (3, .ref 453), (4, .int i)] [.int b] N2 (dc + c1 + c2) (ds + s1 + s2) o
  refine jt_sgp 2 (pc1 := 1552) (lv1 := [(6, .int b), (5, .int k), (0, .ref 0), (1, .ref 24), (2, .ref 215), (3, .ref 453), (4, .int i)]) (st1 := [.ref 215]) rfl ?_
  refine jt_callv (k := 37) (m2 := jp_M_thrown) (As := []) (b := 215) (r := []) (mx := 1) rfl rfl rfl h2 (Nat.le_of_ble_eq_true rfl) rfl rfl rfl (by decide) (by decide) (Nat.le_of_ble_eq_true rfl) (jl_thrown h2 _ _) ?_
  show jt jp_W_law 15 592 1555 [(6, .int b), (5, .int k), (0, .ref 0), (1, .ref 24), (2, .ref 215), (3, .ref 453), (4, .int i)] [.int k] N2 (dc + c1 + c2) (ds + s1 + s2) o
  refine jt_sgp 1 (pc1 := 1557) (lv1 := [(6, .int b), (5, .int k), (0, .ref 0), (1, .ref 24), (2, .ref 215), (3, .ref 453), (4, .int i)]) (st1 := [.int k, .int k]) rfl ?_
  refine jt_icmp_eq (t := 1562) rfl rfl (fun _ => ?_) (fun q_ => absurd rfl q_)
  refine jt_sgp 1 (pc1 := 1564) (lv1 := [(6, .int b), (5, .int k), (0, .ref 0), (1, .ref 24), (2, .ref 215), (3, .ref 453), (4, .int i)]) (st1 := [.int k]) rfl ?_
  refine jt_if_ne (t := 1579) rfl rfl (fun _ => ?_) (fun z_ => ?_)
  · refine jt_sgp 1 (pc1 := 1771) (lv1 := [(6, .int b), (5, .int k), (0, .ref 0), (1, .ref 24), (2, .ref 215), (3, .ref 453), (4, .int i)]) (st1 := []) rfl ?_
    refine jt_lvs (l1 := [(0, .ref 0), (1, .ref 24), (2, .ref 215), (3, .ref 453), (4, .int i)]) rfl rfl ⟨rfl, rfl, rfl, rfl, rfl, trivial⟩ ?_
    exact kk
  · refine jt_sgp 2 (pc1 := 1569) (lv1 := [(6, .int b), (5, .int k), (0, .ref 0), (1, .ref 24), (2, .ref 215), (3, .ref 453), (4, .int i)]) (st1 := [.int 0, .ref 453]) rfl ?_
    refine jt_lald rfl ho (by unfold vp_in; decide) ?_
    show jt jp_W_law 15 592 1570 [(6, .int b), (5, .int k), (0, .ref 0), (1, .ref 24), (2, .ref 215), (3, .ref 453), (4, .int i)] [.long v] N2 (dc + c1 + c2) (ds + s1 + s2) o
    refine jt_sgp 3 (pc1 := 1574) (lv1 := [(6, .int b), (5, .int k), (0, .ref 0), (1, .ref 24), (2, .ref 215), (3, .ref 453), (4, .int i)]) (st1 := [.int (lg_cmp v ((b : Int32).toInt64))]) rfl ?_
    refine jt_lif_eq (t := 1579) rfl rfl (fun _ => ?_) (fun q_ => absurd (hq z_) q_)
    refine jt_sgp 1 (pc1 := 1771) (lv1 := [(6, .int b), (5, .int k), (0, .ref 0), (1, .ref 24), (2, .ref 215), (3, .ref 453), (4, .int i)]) (st1 := []) rfl ?_
    refine jt_lvs (l1 := [(0, .ref 0), (1, .ref 24), (2, .ref 215), (3, .ref 453), (4, .int i)]) rfl rfl ⟨rfl, rfl, rfl, rfl, rfl, trivial⟩ ?_
    exact kk
set_option maxRecDepth 20000 in
theorem jl_case_close_10 {N N1 N2 : jx_H} {L : Nat} {xs : Nat → Int32} {i k : Int32} {fs1 r2 : List Value} {b : Int32} {v : Int64} {c1 s1 c2 s2 dc ds : Nat} {o : jx_O} (hs : N[0]? = some (200, jx_vi L xs)) (hs1 : N1[0]? = some (200, jx_vi L xs)) (v0 : vp_in (i + 1) L) (b1 : ¬ (xs (i + 1 : Int32).toNatClampNeg) = 0) (v2 : vp_in (i + 2) L) (b3 : (xs (i + 2 : Int32).toNatClampNeg) = 0) (hc : jt jp_W_close 14 568 0 [(0, .ref 24), (1, .int 1), (2, .int 0), (3, .ref 453)] [] N 0 0 (.inl (some (.int k)), N1, c1, s1)) (h1 : N1[215]? = some (9, fs1)) (hm : jt jp_M_close 14 569 0 [(0, .ref 215), (1, .int 1), (2, .int 0)] [] N1 0 0 (.inl (some (.int b)), N2, c2, s2)) (h2 : N2[215]? = some (9, .int k :: r2)) (ho : N2[453]? = some (jl_out v)) (hq : k = 0 → v = b.toInt64) (kk : jt jp_W_law 15 592 1771 [(0, .ref 0), (1, .ref 24), (2, .ref 215), (3, .ref 453), (4, .int i)] [] N2 (dc + c1 + c2) (ds + s1 + s2) o) : jt jp_W_law 15 592 1482 [(0, .ref 0), (1, .ref 24), (2, .ref 215), (3, .ref 453), (4, .int i)] [] N dc ds o := by
  refine jt_sgp 5 (pc1 := 1488) (lv1 := [(0, .ref 0), (1, .ref 24), (2, .ref 215), (3, .ref 453), (4, .int i)]) (st1 := [.int (i + 1), .ref 0, .ref 24]) rfl ?_
  refine jt_iaK rfl hs v0 ?_
  refine jt_if_eq (t := 1496) rfl rfl (fun q_ => absurd q_ b1) (fun _ => ?_)
  refine jt_sgp 6 (pc1 := 1502) (lv1 := [(0, .ref 0), (1, .ref 24), (2, .ref 215), (3, .ref 453), (4, .int i)]) (st1 := [.int (i + 2), .ref 0, .int 1, .ref 24]) rfl ?_
  refine jt_iaK rfl hs v2 ?_
  refine jt_if_eq (t := 1510) rfl rfl (fun _ => ?_) (fun q_ => absurd b3 q_)
  refine jt_sgp 2 (pc1 := 1512) (lv1 := [(0, .ref 0), (1, .ref 24), (2, .ref 215), (3, .ref 453), (4, .int i)]) (st1 := [.ref 453, .int 0, .int 1, .ref 24]) rfl ?_
  refine jt_call (k := 181) (m2 := jp_W_close) (As := [.ref 24, .int 1, .int 0, .ref 453]) (r := []) (mx := 5) rfl rfl rfl rfl rfl (by decide) (by decide) (Nat.le_of_ble_eq_true rfl) hc ?_
  show jt jp_W_law 15 592 1515 [(0, .ref 0), (1, .ref 24), (2, .ref 215), (3, .ref 453), (4, .int i)] [.int k] N1 (dc + c1) (ds + s1) o
  refine jt_sgp 6 (pc1 := 1523) (lv1 := [(5, .int k), (0, .ref 0), (1, .ref 24), (2, .ref 215), (3, .ref 453), (4, .int i)]) (st1 := [.int (i + 1), .ref 0, .ref 215]) rfl ?_
  refine jt_iaK rfl hs1 v0 ?_
  refine jt_if_eq (t := 1531) rfl rfl (fun q_ => absurd q_ b1) (fun _ => ?_)
  refine jt_sgp 6 (pc1 := 1537) (lv1 := [(5, .int k), (0, .ref 0), (1, .ref 24), (2, .ref 215), (3, .ref 453), (4, .int i)]) (st1 := [.int (i + 2), .ref 0, .int 1, .ref 215]) rfl ?_
  refine jt_iaK rfl hs1 v2 ?_
  refine jt_if_eq (t := 1545) rfl rfl (fun _ => ?_) (fun q_ => absurd b3 q_)
  refine jt_sgp 1 (pc1 := 1546) (lv1 := [(5, .int k), (0, .ref 0), (1, .ref 24), (2, .ref 215), (3, .ref 453), (4, .int i)]) (st1 := [.int 0, .int 1, .ref 215]) rfl ?_
  refine jt_callv (k := 89) (m2 := jp_M_close) (As := [.int 1, .int 0]) (b := 215) (r := []) (mx := 4) rfl rfl rfl h1 (Nat.le_of_ble_eq_true rfl) rfl rfl rfl (by decide) (by decide) (Nat.le_of_ble_eq_true rfl) hm ?_
  show jt jp_W_law 15 592 1549 [(5, .int k), (0, .ref 0), (1, .ref 24), (2, .ref 215), (3, .ref 453), (4, .int i)] [.int b] N2 (dc + c1 + c2) (ds + s1 + s2) o
  refine jt_sgp 2 (pc1 := 1552) (lv1 := [(6, .int b), (5, .int k), (0, .ref 0), (1, .ref 24), (2, .ref 215), (3, .ref 453), (4, .int i)]) (st1 := [.ref 215]) rfl ?_
  refine jt_callv (k := 37) (m2 := jp_M_thrown) (As := []) (b := 215) (r := []) (mx := 1) rfl rfl rfl h2 (Nat.le_of_ble_eq_true rfl) rfl rfl rfl (by decide) (by decide) (Nat.le_of_ble_eq_true rfl) (jl_thrown h2 _ _) ?_
  show jt jp_W_law 15 592 1555 [(6, .int b), (5, .int k), (0, .ref 0), (1, .ref 24), (2, .ref 215), (3, .ref 453), (4, .int i)] [.int k] N2 (dc + c1 + c2) (ds + s1 + s2) o
  refine jt_sgp 1 (pc1 := 1557) (lv1 := [(6, .int b), (5, .int k), (0, .ref 0), (1, .ref 24), (2, .ref 215), (3, .ref 453), (4, .int i)]) (st1 := [.int k, .int k]) rfl ?_
  refine jt_icmp_eq (t := 1562) rfl rfl (fun _ => ?_) (fun q_ => absurd rfl q_)
  refine jt_sgp 1 (pc1 := 1564) (lv1 := [(6, .int b), (5, .int k), (0, .ref 0), (1, .ref 24), (2, .ref 215), (3, .ref 453), (4, .int i)]) (st1 := [.int k]) rfl ?_
  refine jt_if_ne (t := 1579) rfl rfl (fun _ => ?_) (fun z_ => ?_)
  · refine jt_sgp 1 (pc1 := 1771) (lv1 := [(6, .int b), (5, .int k), (0, .ref 0), (1, .ref 24), (2, .ref 215), (3, .ref 453), (4, .int i)]) (st1 := []) rfl ?_
    refine jt_lvs (l1 := [(0, .ref 0), (1, .ref 24), (2, .ref 215), (3, .ref 453), (4, .int i)]) rfl rfl ⟨rfl, rfl, rfl, rfl, rfl, trivial⟩ ?_
    exact kk
  · refine jt_sgp 2 (pc1 := 1569) (lv1 := [(6, .int b), (5, .int k), (0, .ref 0), (1, .ref 24), (2, .ref 215), (3, .ref 453), (4, .int i)]) (st1 := [.int 0, .ref 453]) rfl ?_
    refine jt_lald rfl ho (by unfold vp_in; decide) ?_
    show jt jp_W_law 15 592 1570 [(6, .int b), (5, .int k), (0, .ref 0), (1, .ref 24), (2, .ref 215), (3, .ref 453), (4, .int i)] [.long v] N2 (dc + c1 + c2) (ds + s1 + s2) o
    refine jt_sgp 3 (pc1 := 1574) (lv1 := [(6, .int b), (5, .int k), (0, .ref 0), (1, .ref 24), (2, .ref 215), (3, .ref 453), (4, .int i)]) (st1 := [.int (lg_cmp v ((b : Int32).toInt64))]) rfl ?_
    refine jt_lif_eq (t := 1579) rfl rfl (fun _ => ?_) (fun q_ => absurd (hq z_) q_)
    refine jt_sgp 1 (pc1 := 1771) (lv1 := [(6, .int b), (5, .int k), (0, .ref 0), (1, .ref 24), (2, .ref 215), (3, .ref 453), (4, .int i)]) (st1 := []) rfl ?_
    refine jt_lvs (l1 := [(0, .ref 0), (1, .ref 24), (2, .ref 215), (3, .ref 453), (4, .int i)]) rfl rfl ⟨rfl, rfl, rfl, rfl, rfl, trivial⟩ ?_
    exact kk
set_option maxRecDepth 20000 in
theorem jl_case_close_11 {N N1 N2 : jx_H} {L : Nat} {xs : Nat → Int32} {i k : Int32} {fs1 r2 : List Value} {b : Int32} {v : Int64} {c1 s1 c2 s2 dc ds : Nat} {o : jx_O} (hs : N[0]? = some (200, jx_vi L xs)) (hs1 : N1[0]? = some (200, jx_vi L xs)) (v0 : vp_in (i + 1) L) (b1 : ¬ (xs (i + 1 : Int32).toNatClampNeg) = 0) (v2 : vp_in (i + 2) L) (b3 : ¬ (xs (i + 2 : Int32).toNatClampNeg) = 0) (hc : jt jp_W_close 14 568 0 [(0, .ref 24), (1, .int 1), (2, .int 1), (3, .ref 453)] [] N 0 0 (.inl (some (.int k)), N1, c1, s1)) (h1 : N1[215]? = some (9, fs1)) (hm : jt jp_M_close 14 569 0 [(0, .ref 215), (1, .int 1), (2, .int 1)] [] N1 0 0 (.inl (some (.int b)), N2, c2, s2)) (h2 : N2[215]? = some (9, .int k :: r2)) (ho : N2[453]? = some (jl_out v)) (hq : k = 0 → v = b.toInt64) (kk : jt jp_W_law 15 592 1771 [(0, .ref 0), (1, .ref 24), (2, .ref 215), (3, .ref 453), (4, .int i)] [] N2 (dc + c1 + c2) (ds + s1 + s2) o) : jt jp_W_law 15 592 1482 [(0, .ref 0), (1, .ref 24), (2, .ref 215), (3, .ref 453), (4, .int i)] [] N dc ds o := by
  refine jt_sgp 5 (pc1 := 1488) (lv1 := [(0, .ref 0), (1, .ref 24), (2, .ref 215), (3, .ref 453), (4, .int i)]) (st1 := [.int (i + 1), .ref 0, .ref 24]) rfl ?_
  refine jt_iaK rfl hs v0 ?_
  refine jt_if_eq (t := 1496) rfl rfl (fun q_ => absurd q_ b1) (fun _ => ?_)
  refine jt_sgp 6 (pc1 := 1502) (lv1 := [(0, .ref 0), (1, .ref 24), (2, .ref 215), (3, .ref 453), (4, .int i)]) (st1 := [.int (i + 2), .ref 0, .int 1, .ref 24]) rfl ?_
  refine jt_iaK rfl hs v2 ?_
  refine jt_if_eq (t := 1510) rfl rfl (fun q_ => absurd q_ b3) (fun _ => ?_)
  refine jt_sgp 3 (pc1 := 1512) (lv1 := [(0, .ref 0), (1, .ref 24), (2, .ref 215), (3, .ref 453), (4, .int i)]) (st1 := [.ref 453, .int 1, .int 1, .ref 24]) rfl ?_
  refine jt_call (k := 181) (m2 := jp_W_close) (As := [.ref 24, .int 1, .int 1, .ref 453]) (r := []) (mx := 5) rfl rfl rfl rfl rfl (by decide) (by decide) (Nat.le_of_ble_eq_true rfl) hc ?_
  show jt jp_W_law 15 592 1515 [(0, .ref 0), (1, .ref 24), (2, .ref 215), (3, .ref 453), (4, .int i)] [.int k] N1 (dc + c1) (ds + s1) o
  refine jt_sgp 6 (pc1 := 1523) (lv1 := [(5, .int k), (0, .ref 0), (1, .ref 24), (2, .ref 215), (3, .ref 453), (4, .int i)]) (st1 := [.int (i + 1), .ref 0, .ref 215]) rfl ?_
  refine jt_iaK rfl hs1 v0 ?_
  refine jt_if_eq (t := 1531) rfl rfl (fun q_ => absurd q_ b1) (fun _ => ?_)
  refine jt_sgp 6 (pc1 := 1537) (lv1 := [(5, .int k), (0, .ref 0), (1, .ref 24), (2, .ref 215), (3, .ref 453), (4, .int i)]) (st1 := [.int (i + 2), .ref 0, .int 1, .ref 215]) rfl ?_
  refine jt_iaK rfl hs1 v2 ?_
  refine jt_if_eq (t := 1545) rfl rfl (fun q_ => absurd q_ b3) (fun _ => ?_)
  refine jt_sgp 2 (pc1 := 1546) (lv1 := [(5, .int k), (0, .ref 0), (1, .ref 24), (2, .ref 215), (3, .ref 453), (4, .int i)]) (st1 := [.int 1, .int 1, .ref 215]) rfl ?_
  refine jt_callv (k := 89) (m2 := jp_M_close) (As := [.int 1, .int 1]) (b := 215) (r := []) (mx := 4) rfl rfl rfl h1 (Nat.le_of_ble_eq_true rfl) rfl rfl rfl (by decide) (by decide) (Nat.le_of_ble_eq_true rfl) hm ?_
  show jt jp_W_law 15 592 1549 [(5, .int k), (0, .ref 0), (1, .ref 24), (2, .ref 215), (3, .ref 453), (4, .int i)] [.int b] N2 (dc + c1 + c2) (ds + s1 + s2) o
  refine jt_sgp 2 (pc1 := 1552) (lv1 := [(6, .int b), (5, .int k), (0, .ref 0), (1, .ref 24), (2, .ref 215), (3, .ref 453), (4, .int i)]) (st1 := [.ref 215]) rfl ?_
  refine jt_callv (k := 37) (m2 := jp_M_thrown) (As := []) (b := 215) (r := []) (mx := 1) rfl rfl rfl h2 (Nat.le_of_ble_eq_true rfl) rfl rfl rfl (by decide) (by decide) (Nat.le_of_ble_eq_true rfl) (jl_thrown h2 _ _) ?_
  show jt jp_W_law 15 592 1555 [(6, .int b), (5, .int k), (0, .ref 0), (1, .ref 24), (2, .ref 215), (3, .ref 453), (4, .int i)] [.int k] N2 (dc + c1 + c2) (ds + s1 + s2) o
  refine jt_sgp 1 (pc1 := 1557) (lv1 := [(6, .int b), (5, .int k), (0, .ref 0), (1, .ref 24), (2, .ref 215), (3, .ref 453), (4, .int i)]) (st1 := [.int k, .int k]) rfl ?_
  refine jt_icmp_eq (t := 1562) rfl rfl (fun _ => ?_) (fun q_ => absurd rfl q_)
  refine jt_sgp 1 (pc1 := 1564) (lv1 := [(6, .int b), (5, .int k), (0, .ref 0), (1, .ref 24), (2, .ref 215), (3, .ref 453), (4, .int i)]) (st1 := [.int k]) rfl ?_
  refine jt_if_ne (t := 1579) rfl rfl (fun _ => ?_) (fun z_ => ?_)
  · refine jt_sgp 1 (pc1 := 1771) (lv1 := [(6, .int b), (5, .int k), (0, .ref 0), (1, .ref 24), (2, .ref 215), (3, .ref 453), (4, .int i)]) (st1 := []) rfl ?_
    refine jt_lvs (l1 := [(0, .ref 0), (1, .ref 24), (2, .ref 215), (3, .ref 453), (4, .int i)]) rfl rfl ⟨rfl, rfl, rfl, rfl, rfl, trivial⟩ ?_
    exact kk
  · refine jt_sgp 2 (pc1 := 1569) (lv1 := [(6, .int b), (5, .int k), (0, .ref 0), (1, .ref 24), (2, .ref 215), (3, .ref 453), (4, .int i)]) (st1 := [.int 0, .ref 453]) rfl ?_
    refine jt_lald rfl ho (by unfold vp_in; decide) ?_
    show jt jp_W_law 15 592 1570 [(6, .int b), (5, .int k), (0, .ref 0), (1, .ref 24), (2, .ref 215), (3, .ref 453), (4, .int i)] [.long v] N2 (dc + c1 + c2) (ds + s1 + s2) o
    refine jt_sgp 3 (pc1 := 1574) (lv1 := [(6, .int b), (5, .int k), (0, .ref 0), (1, .ref 24), (2, .ref 215), (3, .ref 453), (4, .int i)]) (st1 := [.int (lg_cmp v ((b : Int32).toInt64))]) rfl ?_
    refine jt_lif_eq (t := 1579) rfl rfl (fun _ => ?_) (fun q_ => absurd (hq z_) q_)
    refine jt_sgp 1 (pc1 := 1771) (lv1 := [(6, .int b), (5, .int k), (0, .ref 0), (1, .ref 24), (2, .ref 215), (3, .ref 453), (4, .int i)]) (st1 := []) rfl ?_
    refine jt_lvs (l1 := [(0, .ref 0), (1, .ref 24), (2, .ref 215), (3, .ref 453), (4, .int i)]) rfl rfl ⟨rfl, rfl, rfl, rfl, rfl, trivial⟩ ?_
    exact kk
set_option maxRecDepth 20000 in
theorem jl_case_job {N N1 N2 : jx_H} {L : Nat} {xs : Nat → Int32} {i k : Int32} {fs1 r2 : List Value} {b : Int64} {v : Int64} {c1 s1 c2 s2 dc ds : Nat} {o : jx_O} (hs : N[0]? = some (200, jx_vi L xs)) (hs1 : N1[0]? = some (200, jx_vi L xs)) (v0 : vp_in (i + 1) L) (v1 : vp_in (i + 2) L) (hc : jt jp_W_job 14 568 0 [(0, .ref 24), (1, .int (xs (i + 1 : Int32).toNatClampNeg)), (2, .int (xs (i + 2 : Int32).toNatClampNeg)), (3, .ref 453)] [] N 0 0 (.inl (some (.int k)), N1, c1, s1)) (h1 : N1[215]? = some (9, fs1)) (hm : jt jp_M_job 14 570 0 [(0, .ref 215), (1, .int (xs (i + 1 : Int32).toNatClampNeg)), (2, .int (xs (i + 2 : Int32).toNatClampNeg))] [] N1 0 0 (.inl (some (.long b)), N2, c2, s2)) (h2 : N2[215]? = some (9, .int k :: r2)) (ho : N2[453]? = some (jl_out v)) (hq : k = 0 → v = b) (kk : jt jp_W_law 15 592 1771 [(0, .ref 0), (1, .ref 24), (2, .ref 215), (3, .ref 453), (4, .int i)] [] N2 (dc + c1 + c2) (ds + s1 + s2) o) : jt jp_W_law 15 592 1582 [(0, .ref 0), (1, .ref 24), (2, .ref 215), (3, .ref 453), (4, .int i)] [] N dc ds o := by
  refine jt_sgp 5 (pc1 := 1588) (lv1 := [(0, .ref 0), (1, .ref 24), (2, .ref 215), (3, .ref 453), (4, .int i)]) (st1 := [.int (i + 1), .ref 0, .ref 24]) rfl ?_
  refine jt_iaK rfl hs v0 ?_
  refine jt_sgp 4 (pc1 := 1594) (lv1 := [(0, .ref 0), (1, .ref 24), (2, .ref 215), (3, .ref 453), (4, .int i)]) (st1 := [.int (i + 2), .ref 0, .int (xs (i + 1 : Int32).toNatClampNeg), .ref 24]) rfl ?_
  refine jt_iaK rfl hs v1 ?_
  refine jt_sgp 1 (pc1 := 1596) (lv1 := [(0, .ref 0), (1, .ref 24), (2, .ref 215), (3, .ref 453), (4, .int i)]) (st1 := [.ref 453, .int (xs (i + 2 : Int32).toNatClampNeg), .int (xs (i + 1 : Int32).toNatClampNeg), .ref 24]) rfl ?_
  refine jt_call (k := 182) (m2 := jp_W_job) (As := [.ref 24, .int (xs (i + 1 : Int32).toNatClampNeg), .int (xs (i + 2 : Int32).toNatClampNeg), .ref 453]) (r := []) (mx := 5) rfl rfl rfl rfl rfl (by decide) (by decide) (Nat.le_of_ble_eq_true rfl) hc ?_
  show jt jp_W_law 15 592 1599 [(0, .ref 0), (1, .ref 24), (2, .ref 215), (3, .ref 453), (4, .int i)] [.int k] N1 (dc + c1) (ds + s1) o
  refine jt_sgp 6 (pc1 := 1607) (lv1 := [(5, .int k), (0, .ref 0), (1, .ref 24), (2, .ref 215), (3, .ref 453), (4, .int i)]) (st1 := [.int (i + 1), .ref 0, .ref 215]) rfl ?_
  refine jt_iaK rfl hs1 v0 ?_
  refine jt_sgp 4 (pc1 := 1613) (lv1 := [(5, .int k), (0, .ref 0), (1, .ref 24), (2, .ref 215), (3, .ref 453), (4, .int i)]) (st1 := [.int (i + 2), .ref 0, .int (xs (i + 1 : Int32).toNatClampNeg), .ref 215]) rfl ?_
  refine jt_iaK rfl hs1 v1 ?_
  refine jt_callv (k := 90) (m2 := jp_M_job) (As := [.int (xs (i + 1 : Int32).toNatClampNeg), .int (xs (i + 2 : Int32).toNatClampNeg)]) (b := 215) (r := []) (mx := 3) rfl rfl rfl h1 (Nat.le_of_ble_eq_true rfl) rfl rfl rfl (by decide) (by decide) (Nat.le_of_ble_eq_true rfl) hm ?_
  show jt jp_W_law 15 592 1617 [(5, .int k), (0, .ref 0), (1, .ref 24), (2, .ref 215), (3, .ref 453), (4, .int i)] [.long b] N2 (dc + c1 + c2) (ds + s1 + s2) o
  refine jt_sgp 2 (pc1 := 1620) (lv1 := [(6, .long b), (5, .int k), (0, .ref 0), (1, .ref 24), (2, .ref 215), (3, .ref 453), (4, .int i)]) (st1 := [.ref 215]) rfl ?_
  refine jt_callv (k := 37) (m2 := jp_M_thrown) (As := []) (b := 215) (r := []) (mx := 1) rfl rfl rfl h2 (Nat.le_of_ble_eq_true rfl) rfl rfl rfl (by decide) (by decide) (Nat.le_of_ble_eq_true rfl) (jl_thrown h2 _ _) ?_
  show jt jp_W_law 15 592 1623 [(6, .long b), (5, .int k), (0, .ref 0), (1, .ref 24), (2, .ref 215), (3, .ref 453), (4, .int i)] [.int k] N2 (dc + c1 + c2) (ds + s1 + s2) o
  refine jt_sgp 1 (pc1 := 1625) (lv1 := [(6, .long b), (5, .int k), (0, .ref 0), (1, .ref 24), (2, .ref 215), (3, .ref 453), (4, .int i)]) (st1 := [.int k, .int k]) rfl ?_
  refine jt_icmp_eq (t := 1630) rfl rfl (fun _ => ?_) (fun q_ => absurd rfl q_)
  refine jt_sgp 1 (pc1 := 1632) (lv1 := [(6, .long b), (5, .int k), (0, .ref 0), (1, .ref 24), (2, .ref 215), (3, .ref 453), (4, .int i)]) (st1 := [.int k]) rfl ?_
  refine jt_if_ne (t := 1646) rfl rfl (fun _ => ?_) (fun z_ => ?_)
  · refine jt_sgp 1 (pc1 := 1771) (lv1 := [(6, .long b), (5, .int k), (0, .ref 0), (1, .ref 24), (2, .ref 215), (3, .ref 453), (4, .int i)]) (st1 := []) rfl ?_
    refine jt_lvs (l1 := [(0, .ref 0), (1, .ref 24), (2, .ref 215), (3, .ref 453), (4, .int i)]) rfl rfl ⟨rfl, rfl, rfl, rfl, rfl, trivial⟩ ?_
    exact kk
  · refine jt_sgp 2 (pc1 := 1637) (lv1 := [(6, .long b), (5, .int k), (0, .ref 0), (1, .ref 24), (2, .ref 215), (3, .ref 453), (4, .int i)]) (st1 := [.int 0, .ref 453]) rfl ?_
    refine jt_lald rfl ho (by unfold vp_in; decide) ?_
    show jt jp_W_law 15 592 1638 [(6, .long b), (5, .int k), (0, .ref 0), (1, .ref 24), (2, .ref 215), (3, .ref 453), (4, .int i)] [.long v] N2 (dc + c1 + c2) (ds + s1 + s2) o
    refine jt_sgp 2 (pc1 := 1641) (lv1 := [(6, .long b), (5, .int k), (0, .ref 0), (1, .ref 24), (2, .ref 215), (3, .ref 453), (4, .int i)]) (st1 := [.int (lg_cmp v b)]) rfl ?_
    refine jt_lif_eq (t := 1646) rfl rfl (fun _ => ?_) (fun q_ => absurd (hq z_) q_)
    refine jt_sgp 1 (pc1 := 1771) (lv1 := [(6, .long b), (5, .int k), (0, .ref 0), (1, .ref 24), (2, .ref 215), (3, .ref 453), (4, .int i)]) (st1 := []) rfl ?_
    refine jt_lvs (l1 := [(0, .ref 0), (1, .ref 24), (2, .ref 215), (3, .ref 453), (4, .int i)]) rfl rfl ⟨rfl, rfl, rfl, rfl, rfl, trivial⟩ ?_
    exact kk
set_option maxRecDepth 20000 in
theorem jl_case_start {N N1 N2 : jx_H} {L : Nat} {xs : Nat → Int32} {i k : Int32} {fs1 r2 : List Value} {b : Int64} {v : Int64} {c1 s1 c2 s2 dc ds : Nat} {o : jx_O} (hs : N[0]? = some (200, jx_vi L xs)) (hs1 : N1[0]? = some (200, jx_vi L xs)) (v0 : vp_in (i + 1) L) (v1 : vp_in (i + 2) L) (hc : jt jp_W_start 14 568 0 [(0, .ref 24), (1, .int (xs (i + 1 : Int32).toNatClampNeg)), (2, .int (xs (i + 2 : Int32).toNatClampNeg)), (3, .ref 453)] [] N 0 0 (.inl (some (.int k)), N1, c1, s1)) (h1 : N1[215]? = some (9, fs1)) (hm : jt jp_M_start 14 570 0 [(0, .ref 215), (1, .int (xs (i + 1 : Int32).toNatClampNeg)), (2, .int (xs (i + 2 : Int32).toNatClampNeg))] [] N1 0 0 (.inl (some (.long b)), N2, c2, s2)) (h2 : N2[215]? = some (9, .int k :: r2)) (ho : N2[453]? = some (jl_out v)) (hq : k = 0 → v = b) (kk : jt jp_W_law 15 592 1771 [(0, .ref 0), (1, .ref 24), (2, .ref 215), (3, .ref 453), (4, .int i)] [] N2 (dc + c1 + c2) (ds + s1 + s2) o) : jt jp_W_law 15 592 1649 [(0, .ref 0), (1, .ref 24), (2, .ref 215), (3, .ref 453), (4, .int i)] [] N dc ds o := by
  refine jt_sgp 5 (pc1 := 1655) (lv1 := [(0, .ref 0), (1, .ref 24), (2, .ref 215), (3, .ref 453), (4, .int i)]) (st1 := [.int (i + 1), .ref 0, .ref 24]) rfl ?_
  refine jt_iaK rfl hs v0 ?_
  refine jt_sgp 4 (pc1 := 1661) (lv1 := [(0, .ref 0), (1, .ref 24), (2, .ref 215), (3, .ref 453), (4, .int i)]) (st1 := [.int (i + 2), .ref 0, .int (xs (i + 1 : Int32).toNatClampNeg), .ref 24]) rfl ?_
  refine jt_iaK rfl hs v1 ?_
  refine jt_sgp 1 (pc1 := 1663) (lv1 := [(0, .ref 0), (1, .ref 24), (2, .ref 215), (3, .ref 453), (4, .int i)]) (st1 := [.ref 453, .int (xs (i + 2 : Int32).toNatClampNeg), .int (xs (i + 1 : Int32).toNatClampNeg), .ref 24]) rfl ?_
  refine jt_call (k := 183) (m2 := jp_W_start) (As := [.ref 24, .int (xs (i + 1 : Int32).toNatClampNeg), .int (xs (i + 2 : Int32).toNatClampNeg), .ref 453]) (r := []) (mx := 5) rfl rfl rfl rfl rfl (by decide) (by decide) (Nat.le_of_ble_eq_true rfl) hc ?_
  show jt jp_W_law 15 592 1666 [(0, .ref 0), (1, .ref 24), (2, .ref 215), (3, .ref 453), (4, .int i)] [.int k] N1 (dc + c1) (ds + s1) o
  refine jt_sgp 6 (pc1 := 1674) (lv1 := [(5, .int k), (0, .ref 0), (1, .ref 24), (2, .ref 215), (3, .ref 453), (4, .int i)]) (st1 := [.int (i + 1), .ref 0, .ref 215]) rfl ?_
  refine jt_iaK rfl hs1 v0 ?_
  refine jt_sgp 4 (pc1 := 1680) (lv1 := [(5, .int k), (0, .ref 0), (1, .ref 24), (2, .ref 215), (3, .ref 453), (4, .int i)]) (st1 := [.int (i + 2), .ref 0, .int (xs (i + 1 : Int32).toNatClampNeg), .ref 215]) rfl ?_
  refine jt_iaK rfl hs1 v1 ?_
  refine jt_callv (k := 91) (m2 := jp_M_start) (As := [.int (xs (i + 1 : Int32).toNatClampNeg), .int (xs (i + 2 : Int32).toNatClampNeg)]) (b := 215) (r := []) (mx := 3) rfl rfl rfl h1 (Nat.le_of_ble_eq_true rfl) rfl rfl rfl (by decide) (by decide) (Nat.le_of_ble_eq_true rfl) hm ?_
  show jt jp_W_law 15 592 1684 [(5, .int k), (0, .ref 0), (1, .ref 24), (2, .ref 215), (3, .ref 453), (4, .int i)] [.long b] N2 (dc + c1 + c2) (ds + s1 + s2) o
  refine jt_sgp 2 (pc1 := 1687) (lv1 := [(6, .long b), (5, .int k), (0, .ref 0), (1, .ref 24), (2, .ref 215), (3, .ref 453), (4, .int i)]) (st1 := [.ref 215]) rfl ?_
  refine jt_callv (k := 37) (m2 := jp_M_thrown) (As := []) (b := 215) (r := []) (mx := 1) rfl rfl rfl h2 (Nat.le_of_ble_eq_true rfl) rfl rfl rfl (by decide) (by decide) (Nat.le_of_ble_eq_true rfl) (jl_thrown h2 _ _) ?_
  show jt jp_W_law 15 592 1690 [(6, .long b), (5, .int k), (0, .ref 0), (1, .ref 24), (2, .ref 215), (3, .ref 453), (4, .int i)] [.int k] N2 (dc + c1 + c2) (ds + s1 + s2) o
  refine jt_sgp 1 (pc1 := 1692) (lv1 := [(6, .long b), (5, .int k), (0, .ref 0), (1, .ref 24), (2, .ref 215), (3, .ref 453), (4, .int i)]) (st1 := [.int k, .int k]) rfl ?_
  refine jt_icmp_eq (t := 1697) rfl rfl (fun _ => ?_) (fun q_ => absurd rfl q_)
  refine jt_sgp 1 (pc1 := 1699) (lv1 := [(6, .long b), (5, .int k), (0, .ref 0), (1, .ref 24), (2, .ref 215), (3, .ref 453), (4, .int i)]) (st1 := [.int k]) rfl ?_
  refine jt_if_ne (t := 1713) rfl rfl (fun _ => ?_) (fun z_ => ?_)
  · refine jt_sgp 1 (pc1 := 1771) (lv1 := [(6, .long b), (5, .int k), (0, .ref 0), (1, .ref 24), (2, .ref 215), (3, .ref 453), (4, .int i)]) (st1 := []) rfl ?_
    refine jt_lvs (l1 := [(0, .ref 0), (1, .ref 24), (2, .ref 215), (3, .ref 453), (4, .int i)]) rfl rfl ⟨rfl, rfl, rfl, rfl, rfl, trivial⟩ ?_
    exact kk
  · refine jt_sgp 2 (pc1 := 1704) (lv1 := [(6, .long b), (5, .int k), (0, .ref 0), (1, .ref 24), (2, .ref 215), (3, .ref 453), (4, .int i)]) (st1 := [.int 0, .ref 453]) rfl ?_
    refine jt_lald rfl ho (by unfold vp_in; decide) ?_
    show jt jp_W_law 15 592 1705 [(6, .long b), (5, .int k), (0, .ref 0), (1, .ref 24), (2, .ref 215), (3, .ref 453), (4, .int i)] [.long v] N2 (dc + c1 + c2) (ds + s1 + s2) o
    refine jt_sgp 2 (pc1 := 1708) (lv1 := [(6, .long b), (5, .int k), (0, .ref 0), (1, .ref 24), (2, .ref 215), (3, .ref 453), (4, .int i)]) (st1 := [.int (lg_cmp v b)]) rfl ?_
    refine jt_lif_eq (t := 1713) rfl rfl (fun _ => ?_) (fun q_ => absurd (hq z_) q_)
    refine jt_sgp 1 (pc1 := 1771) (lv1 := [(6, .long b), (5, .int k), (0, .ref 0), (1, .ref 24), (2, .ref 215), (3, .ref 453), (4, .int i)]) (st1 := []) rfl ?_
    refine jt_lvs (l1 := [(0, .ref 0), (1, .ref 24), (2, .ref 215), (3, .ref 453), (4, .int i)]) rfl rfl ⟨rfl, rfl, rfl, rfl, rfl, trivial⟩ ?_
    exact kk
set_option maxRecDepth 20000 in
theorem jl_case_count {N N1 N2 : jx_H} {L : Nat} {xs : Nat → Int32} {i k : Int32} {fs1 r2 : List Value} {b : Int64} {v : Int64} {c1 s1 c2 s2 dc ds : Nat} {o : jx_O} (hs : N[0]? = some (200, jx_vi L xs)) (hs1 : N1[0]? = some (200, jx_vi L xs)) (v0 : vp_in (i + 1) L) (hc : jt jp_W_count 14 569 0 [(0, .ref 24), (1, .int (xs (i + 1 : Int32).toNatClampNeg)), (2, .ref 453)] [] N 0 0 (.inl (some (.int k)), N1, c1, s1)) (h1 : N1[215]? = some (9, fs1)) (hm : jt jp_M_count 14 571 0 [(0, .ref 215), (1, .int (xs (i + 1 : Int32).toNatClampNeg))] [] N1 0 0 (.inl (some (.long b)), N2, c2, s2)) (h2 : N2[215]? = some (9, .int k :: r2)) (ho : N2[453]? = some (jl_out v)) (hq : k = 0 → v = b) (kk : jt jp_W_law 15 592 1771 [(0, .ref 0), (1, .ref 24), (2, .ref 215), (3, .ref 453), (4, .int i)] [] N2 (dc + c1 + c2) (ds + s1 + s2) o) : jt jp_W_law 15 592 1716 [(0, .ref 0), (1, .ref 24), (2, .ref 215), (3, .ref 453), (4, .int i)] [] N dc ds o := by
  refine jt_sgp 5 (pc1 := 1722) (lv1 := [(0, .ref 0), (1, .ref 24), (2, .ref 215), (3, .ref 453), (4, .int i)]) (st1 := [.int (i + 1), .ref 0, .ref 24]) rfl ?_
  refine jt_iaK rfl hs v0 ?_
  refine jt_sgp 1 (pc1 := 1724) (lv1 := [(0, .ref 0), (1, .ref 24), (2, .ref 215), (3, .ref 453), (4, .int i)]) (st1 := [.ref 453, .int (xs (i + 1 : Int32).toNatClampNeg), .ref 24]) rfl ?_
  refine jt_call (k := 184) (m2 := jp_W_count) (As := [.ref 24, .int (xs (i + 1 : Int32).toNatClampNeg), .ref 453]) (r := []) (mx := 4) rfl rfl rfl rfl rfl (by decide) (by decide) (Nat.le_of_ble_eq_true rfl) hc ?_
  show jt jp_W_law 15 592 1727 [(0, .ref 0), (1, .ref 24), (2, .ref 215), (3, .ref 453), (4, .int i)] [.int k] N1 (dc + c1) (ds + s1) o
  refine jt_sgp 6 (pc1 := 1735) (lv1 := [(5, .int k), (0, .ref 0), (1, .ref 24), (2, .ref 215), (3, .ref 453), (4, .int i)]) (st1 := [.int (i + 1), .ref 0, .ref 215]) rfl ?_
  refine jt_iaK rfl hs1 v0 ?_
  refine jt_callv (k := 94) (m2 := jp_M_count) (As := [.int (xs (i + 1 : Int32).toNatClampNeg)]) (b := 215) (r := []) (mx := 2) rfl rfl rfl h1 (Nat.le_of_ble_eq_true rfl) rfl rfl rfl (by decide) (by decide) (Nat.le_of_ble_eq_true rfl) hm ?_
  show jt jp_W_law 15 592 1739 [(5, .int k), (0, .ref 0), (1, .ref 24), (2, .ref 215), (3, .ref 453), (4, .int i)] [.long b] N2 (dc + c1 + c2) (ds + s1 + s2) o
  refine jt_sgp 2 (pc1 := 1742) (lv1 := [(6, .long b), (5, .int k), (0, .ref 0), (1, .ref 24), (2, .ref 215), (3, .ref 453), (4, .int i)]) (st1 := [.ref 215]) rfl ?_
  refine jt_callv (k := 37) (m2 := jp_M_thrown) (As := []) (b := 215) (r := []) (mx := 1) rfl rfl rfl h2 (Nat.le_of_ble_eq_true rfl) rfl rfl rfl (by decide) (by decide) (Nat.le_of_ble_eq_true rfl) (jl_thrown h2 _ _) ?_
  show jt jp_W_law 15 592 1745 [(6, .long b), (5, .int k), (0, .ref 0), (1, .ref 24), (2, .ref 215), (3, .ref 453), (4, .int i)] [.int k] N2 (dc + c1 + c2) (ds + s1 + s2) o
  refine jt_sgp 1 (pc1 := 1747) (lv1 := [(6, .long b), (5, .int k), (0, .ref 0), (1, .ref 24), (2, .ref 215), (3, .ref 453), (4, .int i)]) (st1 := [.int k, .int k]) rfl ?_
  refine jt_icmp_eq (t := 1752) rfl rfl (fun _ => ?_) (fun q_ => absurd rfl q_)
  refine jt_sgp 1 (pc1 := 1754) (lv1 := [(6, .long b), (5, .int k), (0, .ref 0), (1, .ref 24), (2, .ref 215), (3, .ref 453), (4, .int i)]) (st1 := [.int k]) rfl ?_
  refine jt_if_ne (t := 1768) rfl rfl (fun _ => ?_) (fun z_ => ?_)
  · refine jt_sgp 1 (pc1 := 1771) (lv1 := [(6, .long b), (5, .int k), (0, .ref 0), (1, .ref 24), (2, .ref 215), (3, .ref 453), (4, .int i)]) (st1 := []) rfl ?_
    refine jt_lvs (l1 := [(0, .ref 0), (1, .ref 24), (2, .ref 215), (3, .ref 453), (4, .int i)]) rfl rfl ⟨rfl, rfl, rfl, rfl, rfl, trivial⟩ ?_
    exact kk
  · refine jt_sgp 2 (pc1 := 1759) (lv1 := [(6, .long b), (5, .int k), (0, .ref 0), (1, .ref 24), (2, .ref 215), (3, .ref 453), (4, .int i)]) (st1 := [.int 0, .ref 453]) rfl ?_
    refine jt_lald rfl ho (by unfold vp_in; decide) ?_
    show jt jp_W_law 15 592 1760 [(6, .long b), (5, .int k), (0, .ref 0), (1, .ref 24), (2, .ref 215), (3, .ref 453), (4, .int i)] [.long v] N2 (dc + c1 + c2) (ds + s1 + s2) o
    refine jt_sgp 2 (pc1 := 1763) (lv1 := [(6, .long b), (5, .int k), (0, .ref 0), (1, .ref 24), (2, .ref 215), (3, .ref 453), (4, .int i)]) (st1 := [.int (lg_cmp v b)]) rfl ?_
    refine jt_lif_eq (t := 1768) rfl rfl (fun _ => ?_) (fun q_ => absurd (hq z_) q_)
    refine jt_sgp 1 (pc1 := 1771) (lv1 := [(6, .long b), (5, .int k), (0, .ref 0), (1, .ref 24), (2, .ref 215), (3, .ref 453), (4, .int i)]) (st1 := []) rfl ?_
    refine jt_lvs (l1 := [(0, .ref 0), (1, .ref 24), (2, .ref 215), (3, .ref 453), (4, .int i)]) rfl rfl ⟨rfl, rfl, rfl, rfl, rfl, trivial⟩ ?_
    exact kk
end JLW
