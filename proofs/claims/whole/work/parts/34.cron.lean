def g_C_lowest (fi : Int32) : Int32 :=
  if fi = 3 then 1 else (if fi = 4 then 1 else (if fi = 5 then 1 else (if fi = 6 then 1970 else 0)))
set_option maxRecDepth 20000 in
set_option maxHeartbeats 4000000 in
theorem q_C_lowest (fi : Int32) (M : jx_H)    (rF rL : Nat) (hfr : 0 ≤ rF) (hlo : 0 ≤ rL) : jt jp_C_lowest rF rL 0 [(0, .int fi)] [] M 0 0 (.inl (some (.int (g_C_lowest fi))), M, 0, 0) := by
  refine jt_sgp 1 (pc1 := 1) (lv1 := [(0, .int fi)]) (st1 := [.int fi]) rfl ?_
  by_cases c1 : fi = 3
  · refine jt_tabEq (t := 32) (off := 31) rfl c1 (by decide) rfl rfl ?_
    refine jt_sgp 1 (pc1 := 33) (lv1 := [(0, .int fi)]) (st1 := [.int 1]) rfl ?_
    exact jt_iret rfl rfl rfl (jx_oe (by show (some (Value.int _) : Option Value) = some (Value.int _); unfold g_C_lowest; first | (simp only [if_pos c1, reduceIte]; done) | (simp only [if_pos c1, reduceIte]; rfl) | rfl) rfl)
  · skip
    by_cases c2 : fi = 4
    · refine jt_tabEq (t := 32) (off := 31) rfl c2 (by decide) rfl rfl ?_
      refine jt_sgp 1 (pc1 := 33) (lv1 := [(0, .int fi)]) (st1 := [.int 1]) rfl ?_
      exact jt_iret rfl rfl rfl (jx_oe (by show (some (Value.int _) : Option Value) = some (Value.int _); unfold g_C_lowest; first | (simp only [if_neg c1, if_pos c2, reduceIte]; done) | (simp only [if_neg c1, if_pos c2, reduceIte]; rfl) | rfl) rfl)
    · skip
      by_cases c3 : fi = 5
      · refine jt_tabEq (t := 32) (off := 31) rfl c3 (by decide) rfl rfl ?_
        refine jt_sgp 1 (pc1 := 33) (lv1 := [(0, .int fi)]) (st1 := [.int 1]) rfl ?_
        exact jt_iret rfl rfl rfl (jx_oe (by show (some (Value.int _) : Option Value) = some (Value.int _); unfold g_C_lowest; first | (simp only [if_neg c1, if_neg c2, if_pos c3, reduceIte]; done) | (simp only [if_neg c1, if_neg c2, if_pos c3, reduceIte]; rfl) | rfl) rfl)
      · skip
        by_cases c4 : fi = 6
        · refine jt_tabEq (t := 34) (off := 33) rfl c4 (by decide) rfl rfl ?_
          refine jt_sgp 1 (pc1 := 37) (lv1 := [(0, .int fi)]) (st1 := [.int 1970]) rfl ?_
          exact jt_iret rfl rfl rfl (jx_oe (by show (some (Value.int _) : Option Value) = some (Value.int _); unfold g_C_lowest; first | (simp only [if_neg c1, if_neg c2, if_neg c3, if_pos c4, reduceIte]; done) | (simp only [if_neg c1, if_neg c2, if_neg c3, if_pos c4, reduceIte]; rfl) | rfl) rfl)
        · skip
          refine jt_tabOut (t := 38) rfl (by have q0 := lv_neT c1 (a := 3) rfl; have q1 := lv_neT c2 (a := 4) rfl; have q2 := lv_neT c3 (a := 5) rfl; have q3 := lv_neT c4 (a := 6) rfl; omega) rfl ?_
          refine jt_sgp 1 (pc1 := 39) (lv1 := [(0, .int fi)]) (st1 := [.int 0]) rfl ?_
          exact jt_iret rfl rfl rfl (jx_oe (by show (some (Value.int _) : Option Value) = some (Value.int _); unfold g_C_lowest; first | (simp only [if_neg c1, if_neg c2, if_neg c3, if_neg c4, reduceIte]; done) | (simp only [if_neg c1, if_neg c2, if_neg c3, if_neg c4, reduceIte]; rfl) | rfl) rfl)
def g_C_highest (fi : Int32) : Int32 :=
  if fi = 2 then 23 else (if fi = 3 then 31 else (if fi = 4 then 12 else (if fi = 5 then 7 else (if fi = 6 then 2299 else 59))))
set_option maxRecDepth 20000 in
set_option maxHeartbeats 4000000 in
theorem q_C_highest (fi : Int32) (M : jx_H)    (rF rL : Nat) (hfr : 0 ≤ rF) (hlo : 0 ≤ rL) : jt jp_C_highest rF rL 0 [(0, .int fi)] [] M 0 0 (.inl (some (.int (g_C_highest fi))), M, 0, 0) := by
  refine jt_sgp 1 (pc1 := 1) (lv1 := [(0, .int fi)]) (st1 := [.int fi]) rfl ?_
  by_cases c1 : fi = 2
  · refine jt_tabEq (t := 36) (off := 35) rfl c1 (by decide) rfl rfl ?_
    refine jt_sgp 1 (pc1 := 38) (lv1 := [(0, .int fi)]) (st1 := [.int 23]) rfl ?_
    exact jt_iret rfl rfl rfl (jx_oe (by show (some (Value.int _) : Option Value) = some (Value.int _); unfold g_C_highest; first | (simp only [if_pos c1, reduceIte]; done) | (simp only [if_pos c1, reduceIte]; rfl) | rfl) rfl)
  · skip
    by_cases c2 : fi = 3
    · refine jt_tabEq (t := 39) (off := 38) rfl c2 (by decide) rfl rfl ?_
      refine jt_sgp 1 (pc1 := 41) (lv1 := [(0, .int fi)]) (st1 := [.int 31]) rfl ?_
      exact jt_iret rfl rfl rfl (jx_oe (by show (some (Value.int _) : Option Value) = some (Value.int _); unfold g_C_highest; first | (simp only [if_neg c1, if_pos c2, reduceIte]; done) | (simp only [if_neg c1, if_pos c2, reduceIte]; rfl) | rfl) rfl)
    · skip
      by_cases c3 : fi = 4
      · refine jt_tabEq (t := 42) (off := 41) rfl c3 (by decide) rfl rfl ?_
        refine jt_sgp 1 (pc1 := 44) (lv1 := [(0, .int fi)]) (st1 := [.int 12]) rfl ?_
        exact jt_iret rfl rfl rfl (jx_oe (by show (some (Value.int _) : Option Value) = some (Value.int _); unfold g_C_highest; first | (simp only [if_neg c1, if_neg c2, if_pos c3, reduceIte]; done) | (simp only [if_neg c1, if_neg c2, if_pos c3, reduceIte]; rfl) | rfl) rfl)
      · skip
        by_cases c4 : fi = 5
        · refine jt_tabEq (t := 45) (off := 44) rfl c4 (by decide) rfl rfl ?_
          refine jt_sgp 1 (pc1 := 47) (lv1 := [(0, .int fi)]) (st1 := [.int 7]) rfl ?_
          exact jt_iret rfl rfl rfl (jx_oe (by show (some (Value.int _) : Option Value) = some (Value.int _); unfold g_C_highest; first | (simp only [if_neg c1, if_neg c2, if_neg c3, if_pos c4, reduceIte]; done) | (simp only [if_neg c1, if_neg c2, if_neg c3, if_pos c4, reduceIte]; rfl) | rfl) rfl)
        · skip
          by_cases c5 : fi = 6
          · refine jt_tabEq (t := 48) (off := 47) rfl c5 (by decide) rfl rfl ?_
            refine jt_sgp 1 (pc1 := 51) (lv1 := [(0, .int fi)]) (st1 := [.int 2299]) rfl ?_
            exact jt_iret rfl rfl rfl (jx_oe (by show (some (Value.int _) : Option Value) = some (Value.int _); unfold g_C_highest; first | (simp only [if_neg c1, if_neg c2, if_neg c3, if_neg c4, if_pos c5, reduceIte]; done) | (simp only [if_neg c1, if_neg c2, if_neg c3, if_neg c4, if_pos c5, reduceIte]; rfl) | rfl) rfl)
          · skip
            refine jt_tabOut (t := 52) rfl (by have q0 := lv_neT c1 (a := 2) rfl; have q1 := lv_neT c2 (a := 3) rfl; have q2 := lv_neT c3 (a := 4) rfl; have q3 := lv_neT c4 (a := 5) rfl; have q4 := lv_neT c5 (a := 6) rfl; omega) rfl ?_
            refine jt_sgp 1 (pc1 := 54) (lv1 := [(0, .int fi)]) (st1 := [.int 59]) rfl ?_
            exact jt_iret rfl rfl rfl (jx_oe (by show (some (Value.int _) : Option Value) = some (Value.int _); unfold g_C_highest; first | (simp only [if_neg c1, if_neg c2, if_neg c3, if_neg c4, if_neg c5, reduceIte]; done) | (simp only [if_neg c1, if_neg c2, if_neg c3, if_neg c4, if_neg c5, reduceIte]; rfl) | rfl) rfl)
def g_C_bitsUpTo (hi : Int32) : Int64 :=
  ((1 : Int64) <<< ((hi + 1 : Int32).toInt64 &&& 63)) - 1
set_option maxRecDepth 20000 in
set_option maxHeartbeats 4000000 in
theorem q_C_bitsUpTo (hi : Int32) (M : jx_H)    (rF rL : Nat) (hfr : 0 ≤ rF) (hlo : 0 ≤ rL) : jt jp_C_bitsUpTo rF rL 0 [(0, .int hi)] [] M 0 0 (.inl (some (.long (g_C_bitsUpTo hi))), M, 0, 0) := by
  refine jt_sgp 7 (pc1 := 7) (lv1 := [(0, .int hi)]) (st1 := [.long (((1 : Int64) <<< ((hi + 1 : Int32).toInt64 &&& 63)) - 1)]) rfl ?_
  exact jt_lret rfl rfl (jx_oe (by show (some (Value.long _) : Option Value) = some (Value.long _); unfold g_C_bitsUpTo; rfl) rfl)
def g_C_bitOf (da : Int32) (le : Int32) : Int64 :=
  let v17 : Int64 := if da < 1 then 0 else (if da ≤ le then ((1 : Int64) <<< ((da : Int32).toInt64 &&& 63)) else 0)
  v17
set_option maxRecDepth 20000 in
set_option maxHeartbeats 4000000 in
theorem q_C_bitOf (da : Int32) (le : Int32) (M : jx_H)    (rF rL : Nat) (hfr : 0 ≤ rF) (hlo : 0 ≤ rL) : jt jp_C_bitOf rF rL 0 [(0, .int da), (1, .int le)] [] M 0 0 (.inl (some (.long (g_C_bitOf da le))), M, 0, 0) := by
  refine jt_sgp 2 (pc1 := 2) (lv1 := [(0, .int da), (1, .int le)]) (st1 := [.int 1, .int da]) rfl ?_
  have J17_2 : ∀ (v17 : Int64), v17 = (if da < 1 then 0 else (if da ≤ le then ((1 : Int64) <<< ((da : Int32).toInt64 &&& 63)) else 0) : Int64) → jt jp_C_bitOf rF rL 17 [(0, .int da), (1, .int le)] [.long v17] (M) 0 0 (.inl (some (.long (g_C_bitOf da le))), M, 0, 0) := by
    intro v17 ev17
    exact jt_lret rfl rfl (jx_oe (by show (some (Value.long _) : Option Value) = some (Value.long _); unfold g_C_bitOf; subst ev17; rfl) rfl)
  refine jt_icmp_lt (t := 10) rfl rfl (fun c1 => ?_) (fun c1 => ?_)
  · refine jt_sgp 2 (pc1 := 17) (lv1 := [(0, .int da), (1, .int le)]) (st1 := [.long 0]) rfl ?_
    exact J17_2 _ (by first | (simp only [if_pos c1, reduceIte]; done) | (with_reducible rfl))
  · refine jt_sgp 2 (pc1 := 7) (lv1 := [(0, .int da), (1, .int le)]) (st1 := [.int le, .int da]) rfl ?_
    refine jt_icmp_le (t := 14) rfl rfl (fun c3 => ?_) (fun c3 => ?_)
    · refine jt_sgp 3 (pc1 := 17) (lv1 := [(0, .int da), (1, .int le)]) (st1 := [.long ((1 : Int64) <<< ((da : Int32).toInt64 &&& 63))]) rfl ?_
      exact J17_2 _ (by first | (simp only [if_neg c1, if_pos c3, reduceIte]; done) | (with_reducible rfl))
    · refine jt_sgp 2 (pc1 := 17) (lv1 := [(0, .int da), (1, .int le)]) (st1 := [.long 0]) rfl ?_
      exact J17_2 _ (by first | (simp only [if_neg c1, if_neg c3, reduceIte]; done) | (with_reducible rfl))
def g_C_workdayNearest (da : Int32) (le : Int32) (fw : Int32) : Int64 :=
  let w10 : Int32 := (((fw + da) - 2) - ((fw + da) - 2) / 7 * 7) + 1
  let v61 : Int32 := if le ≤ da then (da - 2) else (da + 1)
  let v39 : Int32 := if da ≤ 1 then (da + 2) else (da - 1)
  if da ≤ le then (if w10 = 7 then ((1 : Int64) <<< ((v39 : Int32).toInt64 &&& 63)) else (if w10 = 1 then ((1 : Int64) <<< ((v61 : Int32).toInt64 &&& 63)) else ((1 : Int64) <<< ((da : Int32).toInt64 &&& 63)))) else 0
set_option maxRecDepth 20000 in
set_option maxHeartbeats 4000000 in
theorem q_C_workdayNearest (da : Int32) (le : Int32) (fw : Int32) (M : jx_H)    (rF rL : Nat) (hfr : 0 ≤ rF) (hlo : 0 ≤ rL) : jt jp_C_workdayNearest rF rL 0 [(0, .int da), (1, .int le), (2, .int fw)] [] M 0 0 (.inl (some (.long (g_C_workdayNearest da le fw))), M, 0, 0) := by
  refine jt_sgp 6 (pc1 := 7) (lv1 := [(0, .int da), (1, .int le), (2, .int fw)]) (st1 := [.int 7, .int ((fw + da) - 2)]) rfl ?_
  refine jt_irem rfl (by decide +kernel) ?_
  refine jt_sgp 2 (pc1 := 10) (lv1 := [(0, .int da), (1, .int le), (2, .int fw)]) (st1 := [.int ((((fw + da) - 2) - ((fw + da) - 2) / 7 * 7) + 1)]) rfl ?_
  refine jt_topi (fun w10 ew10 => ?_)
  refine jt_sgp 3 (pc1 := 13) (lv1 := [(3, .int w10), (0, .int da), (1, .int le), (2, .int fw)]) (st1 := [.int le, .int da]) rfl ?_
  refine jt_icmp_le (t := 18) rfl rfl (fun c1 => ?_) (fun c1 => ?_)
  · refine jt_sgp 2 (pc1 := 21) (lv1 := [(3, .int w10), (0, .int da), (1, .int le), (2, .int fw)]) (st1 := [.int 7, .int w10]) rfl ?_
    refine jt_icmp_ne (t := 41) rfl rfl (fun c2 => ?_) (fun c2 => ?_)
    · refine jt_sgp 2 (pc1 := 43) (lv1 := [(3, .int w10), (0, .int da), (1, .int le), (2, .int fw)]) (st1 := [.int 1, .int w10]) rfl ?_
      refine jt_icmp_ne (t := 63) rfl rfl (fun c3 => ?_) (fun c3 => ?_)
      · refine jt_sgp 3 (pc1 := 66) (lv1 := [(3, .int w10), (0, .int da), (1, .int le), (2, .int fw)]) (st1 := [.long ((1 : Int64) <<< ((da : Int32).toInt64 &&& 63))]) rfl ?_
        exact jt_lret rfl rfl (jx_oe (by show (some (Value.long _) : Option Value) = some (Value.long _); unfold g_C_workdayNearest; subst ew10; first | (simp only [if_pos c1, if_neg c2, if_neg c3, reduceIte]; done) | (simp only [if_pos c1, if_neg c2, if_neg c3, reduceIte]; rfl) | rfl) rfl)
      · refine jt_sgp 3 (pc1 := 49) (lv1 := [(3, .int w10), (0, .int da), (1, .int le), (2, .int fw)]) (st1 := [.int le, .int da, .long 1]) rfl ?_
        have J61_5 : ∀ (v61 : Int32), v61 = (if le ≤ da then (da - 2) else (da + 1) : Int32) → jt jp_C_workdayNearest rF rL 61 [(3, .int w10), (0, .int da), (1, .int le), (2, .int fw)] [.int v61, .long 1] (M) 0 0 (.inl (some (.long (g_C_workdayNearest da le fw))), M, 0, 0) := by
          intro v61 ev61
          refine jt_sgp 1 (pc1 := 62) (lv1 := [(3, .int w10), (0, .int da), (1, .int le), (2, .int fw)]) (st1 := [.long ((1 : Int64) <<< ((v61 : Int32).toInt64 &&& 63))]) rfl ?_
          exact jt_lret rfl rfl (jx_oe (by show (some (Value.long _) : Option Value) = some (Value.long _); unfold g_C_workdayNearest; subst ev61; subst ew10; first | (simp only [if_pos c1, if_neg c2, if_pos c3, reduceIte]; done) | (simp only [if_pos c1, if_neg c2, if_pos c3, reduceIte]; rfl) | rfl) rfl)
        refine jt_icmp_ge (t := 58) rfl rfl (fun c4 => ?_) (fun c4 => ?_)
        · refine jt_sgp 3 (pc1 := 61) (lv1 := [(3, .int w10), (0, .int da), (1, .int le), (2, .int fw)]) (st1 := [.int (da - 2), .long 1]) rfl ?_
          exact J61_5 _ (by first | (simp only [if_pos c4, reduceIte]; done) | (with_reducible rfl))
        · refine jt_sgp 4 (pc1 := 61) (lv1 := [(3, .int w10), (0, .int da), (1, .int le), (2, .int fw)]) (st1 := [.int (da + 1), .long 1]) rfl ?_
          exact J61_5 _ (by first | (simp only [if_neg c4, reduceIte]; done) | (with_reducible rfl))
    · refine jt_sgp 3 (pc1 := 27) (lv1 := [(3, .int w10), (0, .int da), (1, .int le), (2, .int fw)]) (st1 := [.int 1, .int da, .long 1]) rfl ?_
      have J39_7 : ∀ (v39 : Int32), v39 = (if da ≤ 1 then (da + 2) else (da - 1) : Int32) → jt jp_C_workdayNearest rF rL 39 [(3, .int w10), (0, .int da), (1, .int le), (2, .int fw)] [.int v39, .long 1] (M) 0 0 (.inl (some (.long (g_C_workdayNearest da le fw))), M, 0, 0) := by
        intro v39 ev39
        refine jt_sgp 1 (pc1 := 40) (lv1 := [(3, .int w10), (0, .int da), (1, .int le), (2, .int fw)]) (st1 := [.long ((1 : Int64) <<< ((v39 : Int32).toInt64 &&& 63))]) rfl ?_
        exact jt_lret rfl rfl (jx_oe (by show (some (Value.long _) : Option Value) = some (Value.long _); unfold g_C_workdayNearest; subst ev39; subst ew10; first | (simp only [if_pos c1, if_pos c2, reduceIte]; done) | (simp only [if_pos c1, if_pos c2, reduceIte]; rfl) | rfl) rfl)
      refine jt_icmp_le (t := 36) rfl rfl (fun c6 => ?_) (fun c6 => ?_)
      · refine jt_sgp 3 (pc1 := 39) (lv1 := [(3, .int w10), (0, .int da), (1, .int le), (2, .int fw)]) (st1 := [.int (da + 2), .long 1]) rfl ?_
        exact J39_7 _ (by first | (simp only [if_pos c6, reduceIte]; done) | (with_reducible rfl))
      · refine jt_sgp 4 (pc1 := 39) (lv1 := [(3, .int w10), (0, .int da), (1, .int le), (2, .int fw)]) (st1 := [.int (da - 1), .long 1]) rfl ?_
        exact J39_7 _ (by first | (simp only [if_neg c6, reduceIte]; done) | (with_reducible rfl))
  · refine jt_sgp 1 (pc1 := 17) (lv1 := [(3, .int w10), (0, .int da), (1, .int le), (2, .int fw)]) (st1 := [.long 0]) rfl ?_
    exact jt_lret rfl rfl (jx_oe (by show (some (Value.long _) : Option Value) = some (Value.long _); unfold g_C_workdayNearest; subst ew10; first | (simp only [if_neg c1, reduceIte]; done) | (simp only [if_neg c1, reduceIte]; rfl) | rfl) rfl)
def g_C_lowestBit (se : Int64) (lo : Int32) : Int32 :=
  let w5 : Int64 := ((se : Int64) >>> ((lo : Int32).toInt64 &&& 63) : Int64) <<< ((lo : Int32).toInt64 &&& 63)
  let v25 : Int32 := if w5 = 0 then (-1) else (g_Long_bitCount ((w5 &&& (-w5)) - 1))
  v25
set_option maxRecDepth 20000 in
set_option maxHeartbeats 4000000 in
theorem q_C_lowestBit (se : Int64) (lo : Int32) (M : jx_H)    (rF rL : Nat) (hfr : 1 ≤ rF) (hlo : 21 ≤ rL) : jt jp_C_lowestBit rF rL 0 [(0, .long se), (2, .int lo)] [] M 0 0 (.inl (some (.int (g_C_lowestBit se lo))), M, 0, 0) := by
  refine jt_sgp 5 (pc1 := 5) (lv1 := [(0, .long se), (2, .int lo)]) (st1 := [.long (((se : Int64) >>> ((lo : Int32).toInt64 &&& 63) : Int64) <<< ((lo : Int32).toInt64 &&& 63))]) rfl ?_
  refine jt_topl (fun w5 ew5 => ?_)
  refine jt_sgp 4 (pc1 := 9) (lv1 := [(3, .long w5), (0, .long se), (2, .int lo)]) (st1 := [.int (lg_cmp w5 0)]) rfl ?_
  have J25_2 : ∀ (v25 : Int32), v25 = (if w5 = 0 then (-1) else (g_Long_bitCount ((w5 &&& (-w5)) - 1)) : Int32) → jt jp_C_lowestBit rF rL 25 [(3, .long w5), (0, .long se), (2, .int lo)] [.int v25] (M) 0 0 (.inl (some (.int (g_C_lowestBit se lo))), M, 0, 0) := by
    intro v25 ev25
    exact jt_iret rfl rfl rfl (jx_oe (by show (some (Value.int _) : Option Value) = some (Value.int _); unfold g_C_lowestBit; subst ev25; subst ew5; rfl) rfl)
  refine jt_lif_ne (t := 16) rfl rfl (fun c1 => ?_) (fun c1 => ?_)
  · refine jt_sgp 6 (pc1 := 22) (lv1 := [(3, .long w5), (0, .long se), (2, .int lo)]) (st1 := [.long ((w5 &&& (-w5)) - 1)]) rfl ?_
    refine jt_call (k := 185) (m2 := jp_Long_bitCount) (As := [.long ((w5 &&& (-w5)) - 1)]) (r := []) (mx := 2) rfl rfl rfl rfl rfl (by omega) (by omega) (Nat.le_of_ble_eq_true rfl) (q_Long_bitCount ((w5 &&& (-w5)) - 1) M   _ _ (by omega) (by omega)) ?_
    show jt jp_C_lowestBit rF rL 25 [(3, .long w5), (0, .long se), (2, .int lo)] [.int (g_Long_bitCount ((w5 &&& (-w5)) - 1))] (M) 0 0 (.inl (some (.int (g_C_lowestBit se lo))), M, 0, 0)
    exact J25_2 _ (by first | (simp only [if_neg c1, reduceIte]; done) | (with_reducible rfl))
  · refine jt_sgp 2 (pc1 := 25) (lv1 := [(3, .long w5), (0, .long se), (2, .int lo)]) (st1 := [.int (-1)]) rfl ?_
    exact J25_2 _ (by first | (simp only [if_pos c1, reduceIte]; done) | (with_reducible rfl))
def g_C_highestBit (se : Int64) (hi : Int32) : Int32 :=
  let w18 : Int64 := (se &&& (g_C_bitsUpTo hi)) ||| ((se &&& (g_C_bitsUpTo hi) : Int64) >>> ((1 : Int32).toInt64 &&& 63))
  let w24 : Int64 := w18 ||| ((w18 : Int64) >>> ((2 : Int32).toInt64 &&& 63))
  let w30 : Int64 := w24 ||| ((w24 : Int64) >>> ((4 : Int32).toInt64 &&& 63))
  let w37 : Int64 := w30 ||| ((w30 : Int64) >>> ((8 : Int32).toInt64 &&& 63))
  let w44 : Int64 := w37 ||| ((w37 : Int64) >>> ((16 : Int32).toInt64 &&& 63))
  let w51 : Int64 := w44 ||| ((w44 : Int64) >>> ((32 : Int32).toInt64 &&& 63))
  if 0 ≤ hi then ((g_Long_bitCount w51) - 1) else (-1)
set_option maxRecDepth 20000 in
set_option maxHeartbeats 4000000 in
theorem q_C_highestBit (se : Int64) (hi : Int32) (M : jx_H)    (rF rL : Nat) (hfr : 1 ≤ rF) (hlo : 21 ≤ rL) : jt jp_C_highestBit rF rL 0 [(0, .long se), (2, .int hi)] [] M 0 0 (.inl (some (.int (g_C_highestBit se hi))), M, 0, 0) := by
  refine jt_sgp 1 (pc1 := 1) (lv1 := [(0, .long se), (2, .int hi)]) (st1 := [.int hi]) rfl ?_
  refine jt_if_ge (t := 6) rfl rfl (fun c1 => ?_) (fun c1 => ?_)
  · refine jt_sgp 2 (pc1 := 8) (lv1 := [(0, .long se), (2, .int hi)]) (st1 := [.int hi, .long se]) rfl ?_
    refine jt_call (k := 106) (m2 := jp_C_bitsUpTo) (As := [.int hi]) (r := [.long se]) (mx := 1) rfl rfl rfl rfl rfl (by omega) (by omega) (Nat.le_of_ble_eq_true rfl) (q_C_bitsUpTo hi M   _ _ (by omega) (by omega)) ?_
    show jt jp_C_highestBit rF rL 11 [(0, .long se), (2, .int hi)] [.long (g_C_bitsUpTo hi), .long se] (M) 0 0 (.inl (some (.int (g_C_highestBit se hi))), M, 0, 0)
    refine jt_sgp 7 (pc1 := 18) (lv1 := [(3, .long (se &&& (g_C_bitsUpTo hi))), (0, .long se), (2, .int hi)]) (st1 := [.long ((se &&& (g_C_bitsUpTo hi)) ||| ((se &&& (g_C_bitsUpTo hi) : Int64) >>> ((1 : Int32).toInt64 &&& 63)))]) rfl ?_
    refine jt_topl (fun w18 ew18 => ?_)
    refine jt_sgp 6 (pc1 := 24) (lv1 := [(3, .long w18), (0, .long se), (2, .int hi)]) (st1 := [.long (w18 ||| ((w18 : Int64) >>> ((2 : Int32).toInt64 &&& 63)))]) rfl ?_
    refine jt_topl (fun w24 ew24 => ?_)
    refine jt_sgp 6 (pc1 := 30) (lv1 := [(3, .long w24), (0, .long se), (2, .int hi)]) (st1 := [.long (w24 ||| ((w24 : Int64) >>> ((4 : Int32).toInt64 &&& 63)))]) rfl ?_
    refine jt_topl (fun w30 ew30 => ?_)
    refine jt_sgp 6 (pc1 := 37) (lv1 := [(3, .long w30), (0, .long se), (2, .int hi)]) (st1 := [.long (w30 ||| ((w30 : Int64) >>> ((8 : Int32).toInt64 &&& 63)))]) rfl ?_
    refine jt_topl (fun w37 ew37 => ?_)
    refine jt_sgp 6 (pc1 := 44) (lv1 := [(3, .long w37), (0, .long se), (2, .int hi)]) (st1 := [.long (w37 ||| ((w37 : Int64) >>> ((16 : Int32).toInt64 &&& 63)))]) rfl ?_
    refine jt_topl (fun w44 ew44 => ?_)
    refine jt_sgp 6 (pc1 := 51) (lv1 := [(3, .long w44), (0, .long se), (2, .int hi)]) (st1 := [.long (w44 ||| ((w44 : Int64) >>> ((32 : Int32).toInt64 &&& 63)))]) rfl ?_
    refine jt_topl (fun w51 ew51 => ?_)
    refine jt_sgp 2 (pc1 := 53) (lv1 := [(3, .long w51), (0, .long se), (2, .int hi)]) (st1 := [.long w51]) rfl ?_
    refine jt_call (k := 185) (m2 := jp_Long_bitCount) (As := [.long w51]) (r := []) (mx := 2) rfl rfl rfl rfl rfl (by omega) (by omega) (Nat.le_of_ble_eq_true rfl) (q_Long_bitCount w51 M   _ _ (by omega) (by omega)) ?_
    show jt jp_C_highestBit rF rL 56 [(3, .long w51), (0, .long se), (2, .int hi)] [.int (g_Long_bitCount w51)] (M) 0 0 (.inl (some (.int (g_C_highestBit se hi))), M, 0, 0)
    refine jt_sgp 2 (pc1 := 58) (lv1 := [(3, .long w51), (0, .long se), (2, .int hi)]) (st1 := [.int ((g_Long_bitCount w51) - 1)]) rfl ?_
    exact jt_iret rfl rfl rfl (jx_oe (by show (some (Value.int _) : Option Value) = some (Value.int _); unfold g_C_highestBit; subst ew51; subst ew44; subst ew37; subst ew30; subst ew24; subst ew18; first | (simp only [if_pos c1, reduceIte]; done) | (simp only [if_pos c1, reduceIte]; rfl) | rfl) rfl)
  · refine jt_sgp 1 (pc1 := 5) (lv1 := [(0, .long se), (2, .int hi)]) (st1 := [.int (-1)]) rfl ?_
    exact jt_iret rfl rfl rfl (jx_oe (by show (some (Value.int _) : Option Value) = some (Value.int _); unfold g_C_highestBit; first | (simp only [if_neg c1, reduceIte]; done) | (simp only [if_neg c1, reduceIte]; rfl) | rfl) rfl)
def g_C_weekdaysFrom (fw : Int32) (dr : Int32) (vl : Int32) (nn : Int32) (st : Nat → Int64) : Int64 :=
  let w20 : Int64 := ((st (5 : Int32).toNatClampNeg : Int64) >>> ((fw : Int32).toInt64 &&& 63)) ||| ((st (5 : Int32).toNatClampNeg : Int64) <<< ((7 - fw : Int32).toInt64 &&& 63))
  let w28 : Int64 := ((w20 : Int64) <<< ((1 : Int32).toInt64 &&& 63)) &&& 254
  (((w28 ||| ((w28 : Int64) <<< ((7 : Int32).toInt64 &&& 63))) ||| ((w28 : Int64) <<< ((14 : Int32).toInt64 &&& 63))) ||| ((w28 : Int64) <<< ((21 : Int32).toInt64 &&& 63))) ||| ((w28 : Int64) <<< ((28 : Int32).toInt64 &&& 63))
set_option maxRecDepth 20000 in
set_option maxHeartbeats 4000000 in
theorem q_C_weekdaysFrom (a : Nat) (fw : Int32) (sq : Nat) (dr : Int32) (vl : Int32) (nn : Int32) (st : Nat → Int64) (M : jx_H) (h_a : M[a]? = some (4, [.ref sq, .int dr, .int vl, .int nn])) (h_sq : M[sq]? = some (103, jx_vl 12 st)) (hnd : ([a, sq] : List Nat).Nodup)  (rF rL : Nat) (hfr : 0 ≤ rF) (hlo : 0 ≤ rL) : jt jp_C_weekdaysFrom rF rL 0 [(0, .ref a), (1, .int fw)] [] M 0 0 (.inl (some (.long (g_C_weekdaysFrom fw dr vl nn st))), M, 0, 0) := by
  have hL : ∀ zz ∈ ([(a, (4, [.ref sq, .int dr, .int vl, .int nn])), (sq, (103, jx_vl 12 st))] : List (Nat × (Nat × List Value))), M[zz.1]? = some zz.2 := List.forall_mem_cons.mpr ⟨h_a, List.forall_mem_cons.mpr ⟨h_sq, fun _ hz => absurd hz List.not_mem_nil⟩⟩
  have hlt : ∀ zz ∈ ([a, sq] : List Nat), zz < M.length := jx_lts hL
  refine jt_hq (jx_us_id hL).symm ?_
  show jt jp_C_weekdaysFrom rF rL 0 [(0, .ref a), (1, .int fw)] [] (jx_us M [(a, (4, [.ref sq, .int dr, .int vl, .int nn])), (sq, (103, jx_vl 12 st))]) 0 0 (.inl (some (.long (g_C_weekdaysFrom fw dr vl nn st))), M, 0, 0)
  refine jt_sgp 1 (pc1 := 1) (lv1 := [(0, .ref a), (1, .int fw)]) (st1 := [.ref a]) rfl ?_
  refine jt_get rfl (jx_us_get (by exact hnd) (by exact hlt) 0 rfl) rfl ?_
  refine jt_sgp 1 (pc1 := 5) (lv1 := [(0, .ref a), (1, .int fw)]) (st1 := [.int 5, .ref sq]) rfl ?_
  refine jt_lald rfl (jx_us_get (by exact hnd) (by exact hlt) 1 rfl) (by unfold vp_in; decide) ?_
  refine jt_sgp 3 (pc1 := 9) (lv1 := [(0, .ref a), (1, .int fw)]) (st1 := [.ref a, .long ((st (5 : Int32).toNatClampNeg : Int64) >>> ((fw : Int32).toInt64 &&& 63))]) rfl ?_
  refine jt_get rfl (jx_us_get (by exact hnd) (by exact hlt) 0 rfl) rfl ?_
  refine jt_sgp 1 (pc1 := 13) (lv1 := [(0, .ref a), (1, .int fw)]) (st1 := [.int 5, .ref sq, .long ((st (5 : Int32).toNatClampNeg : Int64) >>> ((fw : Int32).toInt64 &&& 63))]) rfl ?_
  refine jt_lald rfl (jx_us_get (by exact hnd) (by exact hlt) 1 rfl) (by unfold vp_in; decide) ?_
  refine jt_sgp 5 (pc1 := 20) (lv1 := [(0, .ref a), (1, .int fw)]) (st1 := [.long (((st (5 : Int32).toNatClampNeg : Int64) >>> ((fw : Int32).toInt64 &&& 63)) ||| ((st (5 : Int32).toNatClampNeg : Int64) <<< ((7 - fw : Int32).toInt64 &&& 63)))]) rfl ?_
  refine jt_topl (fun w20 ew20 => ?_)
  refine jt_sgp 6 (pc1 := 28) (lv1 := [(2, .long w20), (0, .ref a), (1, .int fw)]) (st1 := [.long (((w20 : Int64) <<< ((1 : Int32).toInt64 &&& 63)) &&& 254)]) rfl ?_
  refine jt_topl (fun w28 ew28 => ?_)
  refine jt_sgp 18 (pc1 := 50) (lv1 := [(2, .long w28), (0, .ref a), (1, .int fw)]) (st1 := [.long ((((w28 ||| ((w28 : Int64) <<< ((7 : Int32).toInt64 &&& 63))) ||| ((w28 : Int64) <<< ((14 : Int32).toInt64 &&& 63))) ||| ((w28 : Int64) <<< ((21 : Int32).toInt64 &&& 63))) ||| ((w28 : Int64) <<< ((28 : Int32).toInt64 &&& 63)))]) rfl ?_
  exact jt_lret rfl rfl (jx_oe (by show (some (Value.long _) : Option Value) = some (Value.long _); unfold g_C_weekdaysFrom; subst ew28; subst ew20; rfl) (jx_us_id hL))
def g_C_hasMonth (mo : Int32) (dr : Int32) (vl : Int32) (nn : Int32) (st : Nat → Int64) : Int32 :=
  let v20 : Int32 := if (((st (4 : Int32).toNatClampNeg : Int64) >>> ((mo : Int32).toInt64 &&& 63)) &&& 1) = 0 then 0 else 1
  v20
set_option maxRecDepth 20000 in
set_option maxHeartbeats 4000000 in
theorem q_C_hasMonth (a : Nat) (mo : Int32) (sq : Nat) (dr : Int32) (vl : Int32) (nn : Int32) (st : Nat → Int64) (M : jx_H) (h_a : M[a]? = some (4, [.ref sq, .int dr, .int vl, .int nn])) (h_sq : M[sq]? = some (103, jx_vl 12 st)) (hnd : ([a, sq] : List Nat).Nodup)  (rF rL : Nat) (hfr : 0 ≤ rF) (hlo : 0 ≤ rL) : jt jp_C_hasMonth rF rL 0 [(0, .ref a), (1, .int mo)] [] M 0 0 (.inl (some (.int (g_C_hasMonth mo dr vl nn st))), M, 0, 0) := by
  have hL : ∀ zz ∈ ([(a, (4, [.ref sq, .int dr, .int vl, .int nn])), (sq, (103, jx_vl 12 st))] : List (Nat × (Nat × List Value))), M[zz.1]? = some zz.2 := List.forall_mem_cons.mpr ⟨h_a, List.forall_mem_cons.mpr ⟨h_sq, fun _ hz => absurd hz List.not_mem_nil⟩⟩
  have hlt : ∀ zz ∈ ([a, sq] : List Nat), zz < M.length := jx_lts hL
  refine jt_hq (jx_us_id hL).symm ?_
  show jt jp_C_hasMonth rF rL 0 [(0, .ref a), (1, .int mo)] [] (jx_us M [(a, (4, [.ref sq, .int dr, .int vl, .int nn])), (sq, (103, jx_vl 12 st))]) 0 0 (.inl (some (.int (g_C_hasMonth mo dr vl nn st))), M, 0, 0)
  refine jt_sgp 1 (pc1 := 1) (lv1 := [(0, .ref a), (1, .int mo)]) (st1 := [.ref a]) rfl ?_
  refine jt_get rfl (jx_us_get (by exact hnd) (by exact hlt) 0 rfl) rfl ?_
  refine jt_sgp 1 (pc1 := 5) (lv1 := [(0, .ref a), (1, .int mo)]) (st1 := [.int 4, .ref sq]) rfl ?_
  refine jt_lald rfl (jx_us_get (by exact hnd) (by exact hlt) 1 rfl) (by unfold vp_in; decide) ?_
  refine jt_sgp 6 (pc1 := 12) (lv1 := [(0, .ref a), (1, .int mo)]) (st1 := [.int (lg_cmp (((st (4 : Int32).toNatClampNeg : Int64) >>> ((mo : Int32).toInt64 &&& 63)) &&& 1) 0)]) rfl ?_
  have J20_2 : ∀ (v20 : Int32), v20 = (if (((st (4 : Int32).toNatClampNeg : Int64) >>> ((mo : Int32).toInt64 &&& 63)) &&& 1) = 0 then 0 else 1 : Int32) → jt jp_C_hasMonth rF rL 20 [(0, .ref a), (1, .int mo)] [.int v20] (jx_us M [(a, (4, [.ref sq, .int dr, .int vl, .int nn])), (sq, (103, jx_vl 12 st))]) 0 0 (.inl (some (.int (g_C_hasMonth mo dr vl nn st))), M, 0, 0) := by
    intro v20 ev20
    exact jt_iret rfl rfl (by first | rfl | (subst ev20; (repeat' split) <;> rfl)) (jx_oe (by show (some (Value.int _) : Option Value) = some (Value.int _); unfold g_C_hasMonth; subst ev20; rfl) (jx_us_id hL))
  refine jt_lif_eq (t := 19) rfl rfl (fun c1 => ?_) (fun c1 => ?_)
  · refine jt_sgp 1 (pc1 := 20) (lv1 := [(0, .ref a), (1, .int mo)]) (st1 := [.int 0]) rfl ?_
    exact J20_2 _ (by first | (simp only [if_pos c1, reduceIte]; done) | (with_reducible rfl))
  · refine jt_sgp 2 (pc1 := 20) (lv1 := [(0, .ref a), (1, .int mo)]) (st1 := [.int 1]) rfl ?_
    exact J20_2 _ (by first | (simp only [if_neg c1, reduceIte]; done) | (with_reducible rfl))
def g_C_hasYear (ye : Int32) (dr : Int32) (vl : Int32) (nn : Int32) (st : Nat → Int64) : Int32 :=
  let v35 : Int32 := if (((st (6 + ((ye - 1970) / 64) : Int32).toNatClampNeg : Int64) >>> (((ye - 1970) - (ye - 1970) / 64 * 64 : Int32).toInt64 &&& 63)) &&& 1) = 0 then 0 else 1
  v35
set_option maxRecDepth 20000 in
set_option maxHeartbeats 4000000 in
theorem q_C_hasYear (a : Nat) (ye : Int32) (sq : Nat) (dr : Int32) (vl : Int32) (nn : Int32) (st : Nat → Int64) (M : jx_H) (h_a : M[a]? = some (4, [.ref sq, .int dr, .int vl, .int nn])) (h_sq : M[sq]? = some (103, jx_vl 12 st)) (hnd : ([a, sq] : List Nat).Nodup) (p1 : vp_in (6 + (ye - 1970) / 64) 12) (rF rL : Nat) (hfr : 0 ≤ rF) (hlo : 0 ≤ rL) : jt jp_C_hasYear rF rL 0 [(0, .ref a), (1, .int ye)] [] M 0 0 (.inl (some (.int (g_C_hasYear ye dr vl nn st))), M, 0, 0) := by
  have hL : ∀ zz ∈ ([(a, (4, [.ref sq, .int dr, .int vl, .int nn])), (sq, (103, jx_vl 12 st))] : List (Nat × (Nat × List Value))), M[zz.1]? = some zz.2 := List.forall_mem_cons.mpr ⟨h_a, List.forall_mem_cons.mpr ⟨h_sq, fun _ hz => absurd hz List.not_mem_nil⟩⟩
  have hlt : ∀ zz ∈ ([a, sq] : List Nat), zz < M.length := jx_lts hL
  refine jt_hq (jx_us_id hL).symm ?_
  show jt jp_C_hasYear rF rL 0 [(0, .ref a), (1, .int ye)] [] (jx_us M [(a, (4, [.ref sq, .int dr, .int vl, .int nn])), (sq, (103, jx_vl 12 st))]) 0 0 (.inl (some (.int (g_C_hasYear ye dr vl nn st))), M, 0, 0)
  refine jt_sgp 5 (pc1 := 7) (lv1 := [(2, .int (ye - 1970)), (0, .ref a), (1, .int ye)]) (st1 := [.ref a]) rfl ?_
  refine jt_get rfl (jx_us_get (by exact hnd) (by exact hlt) 0 rfl) rfl ?_
  refine jt_sgp 3 (pc1 := 15) (lv1 := [(2, .int (ye - 1970)), (0, .ref a), (1, .int ye)]) (st1 := [.int 64, .int (ye - 1970), .int 6, .ref sq]) rfl ?_
  refine jt_idiv rfl (by decide +kernel) ?_
  refine jt_sgp 1 (pc1 := 17) (lv1 := [(2, .int (ye - 1970)), (0, .ref a), (1, .int ye)]) (st1 := [.int (6 + ((ye - 1970) / 64)), .ref sq]) rfl ?_
  refine jt_lald rfl (jx_us_get (by exact hnd) (by exact hlt) 1 rfl) (by with_reducible assumption) ?_
  refine jt_sgp 2 (pc1 := 21) (lv1 := [(2, .int (ye - 1970)), (0, .ref a), (1, .int ye)]) (st1 := [.int 64, .int (ye - 1970), .long (st (6 + ((ye - 1970) / 64) : Int32).toNatClampNeg)]) rfl ?_
  refine jt_irem rfl (by decide +kernel) ?_
  refine jt_sgp 5 (pc1 := 27) (lv1 := [(2, .int (ye - 1970)), (0, .ref a), (1, .int ye)]) (st1 := [.int (lg_cmp (((st (6 + ((ye - 1970) / 64) : Int32).toNatClampNeg : Int64) >>> (((ye - 1970) - (ye - 1970) / 64 * 64 : Int32).toInt64 &&& 63)) &&& 1) 0)]) rfl ?_
  have J35_2 : ∀ (v35 : Int32), v35 = (if (((st (6 + ((ye - 1970) / 64) : Int32).toNatClampNeg : Int64) >>> (((ye - 1970) - (ye - 1970) / 64 * 64 : Int32).toInt64 &&& 63)) &&& 1) = 0 then 0 else 1 : Int32) → jt jp_C_hasYear rF rL 35 [(2, .int (ye - 1970)), (0, .ref a), (1, .int ye)] [.int v35] (jx_us M [(a, (4, [.ref sq, .int dr, .int vl, .int nn])), (sq, (103, jx_vl 12 st))]) 0 0 (.inl (some (.int (g_C_hasYear ye dr vl nn st))), M, 0, 0) := by
    intro v35 ev35
    exact jt_iret rfl rfl (by first | rfl | (subst ev35; (repeat' split) <;> rfl)) (jx_oe (by show (some (Value.int _) : Option Value) = some (Value.int _); unfold g_C_hasYear; subst ev35; rfl) (jx_us_id hL))
  refine jt_lif_eq (t := 34) rfl rfl (fun c1 => ?_) (fun c1 => ?_)
  · refine jt_sgp 1 (pc1 := 35) (lv1 := [(2, .int (ye - 1970)), (0, .ref a), (1, .int ye)]) (st1 := [.int 0]) rfl ?_
    exact J35_2 _ (by first | (simp only [if_pos c1, reduceIte]; done) | (with_reducible rfl))
  · refine jt_sgp 2 (pc1 := 35) (lv1 := [(2, .int (ye - 1970)), (0, .ref a), (1, .int ye)]) (st1 := [.int 1]) rfl ?_
    exact J35_2 _ (by first | (simp only [if_neg c1, reduceIte]; done) | (with_reducible rfl))
def g_C_add_sq (fi : Int32) (nu : Int32) (dr : Int32) (vl : Int32) (nn : Int32) (st : Nat → Int64) : Nat → Int64 :=
  let v48 : Nat → Int64 := if fi = 6 then (vp_updL st (6 + ((nu - 1970) / 64) : Int32).toNatClampNeg ((st (6 + ((nu - 1970) / 64) : Int32).toNatClampNeg) ||| ((1 : Int64) <<< (((nu - 1970) - (nu - 1970) / 64 * 64 : Int32).toInt64 &&& 63)))) else (vp_updL st (fi : Int32).toNatClampNeg ((st (fi : Int32).toNatClampNeg) ||| ((1 : Int64) <<< ((nu : Int32).toInt64 &&& 63))))
  v48
set_option maxRecDepth 20000 in
set_option maxHeartbeats 4000000 in
theorem q_C_add (a : Nat) (fi : Int32) (nu : Int32) (sq : Nat) (dr : Int32) (vl : Int32) (nn : Int32) (st : Nat → Int64) (M : jx_H) (h_a : M[a]? = some (4, [.ref sq, .int dr, .int vl, .int nn])) (h_sq : M[sq]? = some (103, jx_vl 12 st)) (hnd : ([a, sq] : List Nat).Nodup) (p1 : fi = 6 → vp_in (6 + (nu - 1970) / 64) 12) (p2 : ¬ fi = 6 → vp_in fi 12) (rF rL : Nat) (hfr : 0 ≤ rF) (hlo : 0 ≤ rL) : jt jp_C_add rF rL 0 [(0, .ref a), (1, .int fi), (2, .int nu)] [] M 0 0 (.inl none, (jx_us M [(a, (4, [.ref sq, .int dr, .int vl, .int nn])), (sq, (103, jx_vl 12 (g_C_add_sq fi nu dr vl nn st)))]), 0, 0) := by
  have hL : ∀ zz ∈ ([(a, (4, [.ref sq, .int dr, .int vl, .int nn])), (sq, (103, jx_vl 12 st))] : List (Nat × (Nat × List Value))), M[zz.1]? = some zz.2 := List.forall_mem_cons.mpr ⟨h_a, List.forall_mem_cons.mpr ⟨h_sq, fun _ hz => absurd hz List.not_mem_nil⟩⟩
  have hlt : ∀ zz ∈ ([a, sq] : List Nat), zz < M.length := jx_lts hL
  refine jt_hq (jx_us_id hL).symm ?_
  show jt jp_C_add rF rL 0 [(0, .ref a), (1, .int fi), (2, .int nu)] [] (jx_us M [(a, (4, [.ref sq, .int dr, .int vl, .int nn])), (sq, (103, jx_vl 12 st))]) 0 0 (.inl none, (jx_us M [(a, (4, [.ref sq, .int dr, .int vl, .int nn])), (sq, (103, jx_vl 12 (g_C_add_sq fi nu dr vl nn st)))]), 0, 0)
  refine jt_sgp 2 (pc1 := 3) (lv1 := [(0, .ref a), (1, .int fi), (2, .int nu)]) (st1 := [.int 6, .int fi]) rfl ?_
  have J48_2 : ∀ (v48 : Nat → Int64), v48 = (if fi = 6 then (vp_updL st (6 + ((nu - 1970) / 64) : Int32).toNatClampNeg ((st (6 + ((nu - 1970) / 64) : Int32).toNatClampNeg) ||| ((1 : Int64) <<< (((nu - 1970) - (nu - 1970) / 64 * 64 : Int32).toInt64 &&& 63)))) else (vp_updL st (fi : Int32).toNatClampNeg ((st (fi : Int32).toNatClampNeg) ||| ((1 : Int64) <<< ((nu : Int32).toInt64 &&& 63)))) : Nat → Int64) → jt jp_C_add rF rL 48 [(0, .ref a), (1, .int fi), (2, .int nu)] [] (jx_us M [(a, (4, [.ref sq, .int dr, .int vl, .int nn])), (sq, (103, jx_vl 12 v48))]) 0 0 (.inl none, (jx_us M [(a, (4, [.ref sq, .int dr, .int vl, .int nn])), (sq, (103, jx_vl 12 (g_C_add_sq fi nu dr vl nn st)))]), 0, 0) := by
    intro v48 ev48
    exact jt_vret rfl rfl (jx_oe rfl (by show jx_us M _ = jx_us M _; unfold g_C_add_sq; subst ev48; rfl))
  refine jt_icmp_ne (t := 36) rfl rfl (fun c1 => ?_) (fun c1 => ?_)
  · refine jt_sgp 1 (pc1 := 37) (lv1 := [(0, .ref a), (1, .int fi), (2, .int nu)]) (st1 := [.ref a]) rfl ?_
    refine jt_get rfl (jx_us_get (by exact hnd) (by exact hlt) 0 rfl) rfl ?_
    refine jt_sgp 2 (pc1 := 42) (lv1 := [(0, .ref a), (1, .int fi), (2, .int nu)]) (st1 := [.int fi, .ref sq, .int fi, .ref sq]) rfl ?_
    refine jt_lald rfl (jx_us_get (by exact hnd) (by exact hlt) 1 rfl) (p2 c1) ?_
    refine jt_sgp 4 (pc1 := 47) (lv1 := [(0, .ref a), (1, .int fi), (2, .int nu)]) (st1 := [.long ((st (fi : Int32).toNatClampNeg) ||| ((1 : Int64) <<< ((nu : Int32).toInt64 &&& 63))), .int fi, .ref sq]) rfl ?_
    refine jt_last rfl (jx_us_get (by exact hnd) (by exact hlt) 1 rfl) (p2 c1) (jx_us_set (by exact hnd) 1 rfl (L1 := [(a, (4, [.ref sq, .int dr, .int vl, .int nn])), (sq, (103, jx_vl 12 (vp_updL st (fi : Int32).toNatClampNeg ((st (fi : Int32).toNatClampNeg) ||| ((1 : Int64) <<< ((nu : Int32).toInt64 &&& 63))))))]) rfl) ?_
    refine jt_lvs (l1 := [(0, .ref a), (1, .int fi), (2, .int nu)]) rfl rfl ⟨rfl, rfl, rfl, trivial⟩ ?_
    exact J48_2 _ (by first | (simp only [if_neg c1, reduceIte]; done) | (with_reducible rfl))
  · refine jt_sgp 5 (pc1 := 13) (lv1 := [(3, .int (nu - 1970)), (0, .ref a), (1, .int fi), (2, .int nu)]) (st1 := [.ref a]) rfl ?_
    refine jt_get rfl (jx_us_get (by exact hnd) (by exact hlt) 0 rfl) rfl ?_
    refine jt_sgp 3 (pc1 := 21) (lv1 := [(3, .int (nu - 1970)), (0, .ref a), (1, .int fi), (2, .int nu)]) (st1 := [.int 64, .int (nu - 1970), .int 6, .ref sq]) rfl ?_
    refine jt_idiv rfl (by decide +kernel) ?_
    refine jt_sgp 2 (pc1 := 24) (lv1 := [(3, .int (nu - 1970)), (0, .ref a), (1, .int fi), (2, .int nu)]) (st1 := [.int (6 + ((nu - 1970) / 64)), .ref sq, .int (6 + ((nu - 1970) / 64)), .ref sq]) rfl ?_
    refine jt_lald rfl (jx_us_get (by exact hnd) (by exact hlt) 1 rfl) (p1 c1) ?_
    refine jt_sgp 3 (pc1 := 29) (lv1 := [(3, .int (nu - 1970)), (0, .ref a), (1, .int fi), (2, .int nu)]) (st1 := [.int 64, .int (nu - 1970), .long 1, .long (st (6 + ((nu - 1970) / 64) : Int32).toNatClampNeg), .int (6 + ((nu - 1970) / 64)), .ref sq]) rfl ?_
    refine jt_irem rfl (by decide +kernel) ?_
    refine jt_sgp 2 (pc1 := 32) (lv1 := [(3, .int (nu - 1970)), (0, .ref a), (1, .int fi), (2, .int nu)]) (st1 := [.long ((st (6 + ((nu - 1970) / 64) : Int32).toNatClampNeg) ||| ((1 : Int64) <<< (((nu - 1970) - (nu - 1970) / 64 * 64 : Int32).toInt64 &&& 63))), .int (6 + ((nu - 1970) / 64)), .ref sq]) rfl ?_
    refine jt_last rfl (jx_us_get (by exact hnd) (by exact hlt) 1 rfl) (p1 c1) (jx_us_set (by exact hnd) 1 rfl (L1 := [(a, (4, [.ref sq, .int dr, .int vl, .int nn])), (sq, (103, jx_vl 12 (vp_updL st (6 + ((nu - 1970) / 64) : Int32).toNatClampNeg ((st (6 + ((nu - 1970) / 64) : Int32).toNatClampNeg) ||| ((1 : Int64) <<< (((nu - 1970) - (nu - 1970) / 64 * 64 : Int32).toInt64 &&& 63))))))]) rfl) ?_
    refine jt_sgp 1 (pc1 := 48) (lv1 := [(3, .int (nu - 1970)), (0, .ref a), (1, .int fi), (2, .int nu)]) (st1 := []) rfl ?_
    refine jt_lvs (l1 := [(0, .ref a), (1, .int fi), (2, .int nu)]) rfl rfl ⟨rfl, rfl, rfl, trivial⟩ ?_
    exact J48_2 _ (by first | (simp only [if_pos c1, reduceIte]; done) | (with_reducible rfl))
def g_C_daysOf (le : Int32) (fw : Int32) (dr : Int32) (vl : Int32) (nn : Int32) (st : Nat → Int64) : Int64 :=
  let u141 : Int64 := g_C_bitOf ((1 + (g_Math_floorMod (vl - fw) 7)) + (7 * (nn - 1))) le
  let u125 : Int64 := g_C_bitOf ((1 + (g_Math_floorMod (vl - fw) 7)) + (((le - (1 + (g_Math_floorMod (vl - fw) 7))) / 7) * 7)) le
  if dr = 0 then ((st (3 : Int32).toNatClampNeg) &&& (g_C_bitsUpTo le)) else (if dr = 1 then ((g_C_weekdaysFrom fw dr vl nn st) &&& (g_C_bitsUpTo le)) else (if dr = 2 then (g_C_bitOf (le - nn) le) else (if dr = 3 then (g_C_workdayNearest le le fw) else (if dr = 4 then (g_C_workdayNearest vl le fw) else (if dr = 5 then u125 else u141)))))
set_option maxRecDepth 20000 in
set_option maxHeartbeats 4000000 in
theorem q_C_daysOf (a : Nat) (le : Int32) (fw : Int32) (sq : Nat) (dr : Int32) (vl : Int32) (nn : Int32) (st : Nat → Int64) (M : jx_H) (h_a : M[a]? = some (4, [.ref sq, .int dr, .int vl, .int nn])) (h_sq : M[sq]? = some (103, jx_vl 12 st)) (hnd : ([a, sq] : List Nat).Nodup)  (rF rL : Nat) (hfr : 1 ≤ rF) (hlo : 23 ≤ rL) : jt jp_C_daysOf rF rL 0 [(0, .ref a), (1, .int le), (2, .int fw)] [] M 0 0 (.inl (some (.long (g_C_daysOf le fw dr vl nn st))), M, 0, 0) := by
  have hL : ∀ zz ∈ ([(a, (4, [.ref sq, .int dr, .int vl, .int nn])), (sq, (103, jx_vl 12 st))] : List (Nat × (Nat × List Value))), M[zz.1]? = some zz.2 := List.forall_mem_cons.mpr ⟨h_a, List.forall_mem_cons.mpr ⟨h_sq, fun _ hz => absurd hz List.not_mem_nil⟩⟩
  have hlt : ∀ zz ∈ ([a, sq] : List Nat), zz < M.length := jx_lts hL
  refine jt_hq (jx_us_id hL).symm ?_
  show jt jp_C_daysOf rF rL 0 [(0, .ref a), (1, .int le), (2, .int fw)] [] (jx_us M [(a, (4, [.ref sq, .int dr, .int vl, .int nn])), (sq, (103, jx_vl 12 st))]) 0 0 (.inl (some (.long (g_C_daysOf le fw dr vl nn st))), M, 0, 0)
  refine jt_sgp 1 (pc1 := 1) (lv1 := [(0, .ref a), (1, .int le), (2, .int fw)]) (st1 := [.ref a]) rfl ?_
  refine jt_get rfl (jx_us_get (by exact hnd) (by exact hlt) 0 rfl) rfl ?_
  by_cases c1 : dr = 0
  · refine jt_tabEq (t := 40) (off := 36) rfl c1 (by decide) rfl rfl ?_
    refine jt_sgp 1 (pc1 := 41) (lv1 := [(0, .ref a), (1, .int le), (2, .int fw)]) (st1 := [.ref a]) rfl ?_
    refine jt_get rfl (jx_us_get (by exact hnd) (by exact hlt) 0 rfl) rfl ?_
    refine jt_sgp 1 (pc1 := 45) (lv1 := [(0, .ref a), (1, .int le), (2, .int fw)]) (st1 := [.int 3, .ref sq]) rfl ?_
    refine jt_lald rfl (jx_us_get (by exact hnd) (by exact hlt) 1 rfl) (by unfold vp_in; decide) ?_
    refine jt_sgp 1 (pc1 := 47) (lv1 := [(0, .ref a), (1, .int le), (2, .int fw)]) (st1 := [.int le, .long (st (3 : Int32).toNatClampNeg)]) rfl ?_
    refine jt_call (k := 106) (m2 := jp_C_bitsUpTo) (As := [.int le]) (r := [.long (st (3 : Int32).toNatClampNeg)]) (mx := 1) rfl rfl rfl rfl rfl (by omega) (by omega) (Nat.le_of_ble_eq_true rfl) (q_C_bitsUpTo le (jx_us M [(a, (4, [.ref sq, .int dr, .int vl, .int nn])), (sq, (103, jx_vl 12 st))])   _ _ (by omega) (by omega)) ?_
    show jt jp_C_daysOf rF rL 50 [(0, .ref a), (1, .int le), (2, .int fw)] [.long (g_C_bitsUpTo le), .long (st (3 : Int32).toNatClampNeg)] (jx_us M [(a, (4, [.ref sq, .int dr, .int vl, .int nn])), (sq, (103, jx_vl 12 st))]) 0 0 (.inl (some (.long (g_C_daysOf le fw dr vl nn st))), M, 0, 0)
    refine jt_sgp 1 (pc1 := 51) (lv1 := [(0, .ref a), (1, .int le), (2, .int fw)]) (st1 := [.long ((st (3 : Int32).toNatClampNeg) &&& (g_C_bitsUpTo le))]) rfl ?_
    exact jt_lret rfl rfl (jx_oe (by show (some (Value.long _) : Option Value) = some (Value.long _); unfold g_C_daysOf; first | (simp only [if_pos c1, reduceIte]; done) | (simp only [if_pos c1, reduceIte]; rfl) | rfl) (jx_us_id hL))
  · skip
    by_cases c2 : dr = 1
    · refine jt_tabEq (t := 52) (off := 48) rfl c2 (by decide) rfl rfl ?_
      refine jt_sgp 2 (pc1 := 54) (lv1 := [(0, .ref a), (1, .int le), (2, .int fw)]) (st1 := [.int fw, .ref a]) rfl ?_
      refine jt_callv (k := 103) (m2 := jp_C_weekdaysFrom) (As := [.int fw]) (b := a) (r := []) (mx := 4) rfl rfl rfl (jx_us_get (by exact hnd) (by exact hlt) 0 rfl) (Nat.le_of_ble_eq_true rfl) rfl rfl rfl (by omega) (by omega) (Nat.le_of_ble_eq_true rfl) (q_C_weekdaysFrom a fw sq dr vl nn st (jx_us M [(a, (4, [.ref sq, .int dr, .int vl, .int nn])), (sq, (103, jx_vl 12 st))]) (jx_us_get (by exact hnd) (by exact hlt) 0 rfl) (jx_us_get (by exact hnd) (by exact hlt) 1 rfl) (jm_pick hnd [0, 1] (by decide) rfl)  _ _ (by omega) (by omega)) ?_
      show jt jp_C_daysOf rF rL 57 [(0, .ref a), (1, .int le), (2, .int fw)] [.long (g_C_weekdaysFrom fw dr vl nn st)] (jx_us M [(a, (4, [.ref sq, .int dr, .int vl, .int nn])), (sq, (103, jx_vl 12 st))]) 0 0 (.inl (some (.long (g_C_daysOf le fw dr vl nn st))), M, 0, 0)
      refine jt_sgp 1 (pc1 := 58) (lv1 := [(0, .ref a), (1, .int le), (2, .int fw)]) (st1 := [.int le, .long (g_C_weekdaysFrom fw dr vl nn st)]) rfl ?_
      refine jt_call (k := 106) (m2 := jp_C_bitsUpTo) (As := [.int le]) (r := [.long (g_C_weekdaysFrom fw dr vl nn st)]) (mx := 1) rfl rfl rfl rfl rfl (by omega) (by omega) (Nat.le_of_ble_eq_true rfl) (q_C_bitsUpTo le (jx_us M [(a, (4, [.ref sq, .int dr, .int vl, .int nn])), (sq, (103, jx_vl 12 st))])   _ _ (by omega) (by omega)) ?_
      show jt jp_C_daysOf rF rL 61 [(0, .ref a), (1, .int le), (2, .int fw)] [.long (g_C_bitsUpTo le), .long (g_C_weekdaysFrom fw dr vl nn st)] (jx_us M [(a, (4, [.ref sq, .int dr, .int vl, .int nn])), (sq, (103, jx_vl 12 st))]) 0 0 (.inl (some (.long (g_C_daysOf le fw dr vl nn st))), M, 0, 0)
      refine jt_sgp 1 (pc1 := 62) (lv1 := [(0, .ref a), (1, .int le), (2, .int fw)]) (st1 := [.long ((g_C_weekdaysFrom fw dr vl nn st) &&& (g_C_bitsUpTo le))]) rfl ?_
      exact jt_lret rfl rfl (jx_oe (by show (some (Value.long _) : Option Value) = some (Value.long _); unfold g_C_daysOf; first | (simp only [if_neg c1, if_pos c2, reduceIte]; done) | (simp only [if_neg c1, if_pos c2, reduceIte]; rfl) | rfl) (jx_us_id hL))
    · skip
      by_cases c3 : dr = 2
      · refine jt_tabEq (t := 63) (off := 59) rfl c3 (by decide) rfl rfl ?_
        refine jt_sgp 2 (pc1 := 65) (lv1 := [(0, .ref a), (1, .int le), (2, .int fw)]) (st1 := [.ref a, .int le]) rfl ?_
        refine jt_get rfl (jx_us_get (by exact hnd) (by exact hlt) 0 rfl) rfl ?_
        refine jt_sgp 2 (pc1 := 70) (lv1 := [(0, .ref a), (1, .int le), (2, .int fw)]) (st1 := [.int le, .int (le - nn)]) rfl ?_
        refine jt_call (k := 105) (m2 := jp_C_bitOf) (As := [.int (le - nn), .int le]) (r := []) (mx := 2) rfl rfl rfl rfl rfl (by omega) (by omega) (Nat.le_of_ble_eq_true rfl) (q_C_bitOf (le - nn) le (jx_us M [(a, (4, [.ref sq, .int dr, .int vl, .int nn])), (sq, (103, jx_vl 12 st))])   _ _ (by omega) (by omega)) ?_
        show jt jp_C_daysOf rF rL 73 [(0, .ref a), (1, .int le), (2, .int fw)] [.long (g_C_bitOf (le - nn) le)] (jx_us M [(a, (4, [.ref sq, .int dr, .int vl, .int nn])), (sq, (103, jx_vl 12 st))]) 0 0 (.inl (some (.long (g_C_daysOf le fw dr vl nn st))), M, 0, 0)
        exact jt_lret rfl rfl (jx_oe (by show (some (Value.long _) : Option Value) = some (Value.long _); unfold g_C_daysOf; first | (simp only [if_neg c1, if_neg c2, if_pos c3, reduceIte]; done) | (simp only [if_neg c1, if_neg c2, if_pos c3, reduceIte]; rfl) | rfl) (jx_us_id hL))
      · skip
        by_cases c4 : dr = 3
        · refine jt_tabEq (t := 74) (off := 70) rfl c4 (by decide) rfl rfl ?_
          refine jt_sgp 3 (pc1 := 77) (lv1 := [(0, .ref a), (1, .int le), (2, .int fw)]) (st1 := [.int fw, .int le, .int le]) rfl ?_
          refine jt_call (k := 104) (m2 := jp_C_workdayNearest) (As := [.int le, .int le, .int fw]) (r := []) (mx := 4) rfl rfl rfl rfl rfl (by omega) (by omega) (Nat.le_of_ble_eq_true rfl) (q_C_workdayNearest le le fw (jx_us M [(a, (4, [.ref sq, .int dr, .int vl, .int nn])), (sq, (103, jx_vl 12 st))])   _ _ (by omega) (by omega)) ?_
          show jt jp_C_daysOf rF rL 80 [(0, .ref a), (1, .int le), (2, .int fw)] [.long (g_C_workdayNearest le le fw)] (jx_us M [(a, (4, [.ref sq, .int dr, .int vl, .int nn])), (sq, (103, jx_vl 12 st))]) 0 0 (.inl (some (.long (g_C_daysOf le fw dr vl nn st))), M, 0, 0)
          exact jt_lret rfl rfl (jx_oe (by show (some (Value.long _) : Option Value) = some (Value.long _); unfold g_C_daysOf; first | (simp only [if_neg c1, if_neg c2, if_neg c3, if_pos c4, reduceIte]; done) | (simp only [if_neg c1, if_neg c2, if_neg c3, if_pos c4, reduceIte]; rfl) | rfl) (jx_us_id hL))
        · skip
          by_cases c5 : dr = 4
          · refine jt_tabEq (t := 81) (off := 77) rfl c5 (by decide) rfl rfl ?_
            refine jt_sgp 1 (pc1 := 82) (lv1 := [(0, .ref a), (1, .int le), (2, .int fw)]) (st1 := [.ref a]) rfl ?_
            refine jt_get rfl (jx_us_get (by exact hnd) (by exact hlt) 0 rfl) rfl ?_
            refine jt_sgp 2 (pc1 := 87) (lv1 := [(0, .ref a), (1, .int le), (2, .int fw)]) (st1 := [.int fw, .int le, .int vl]) rfl ?_
            refine jt_call (k := 104) (m2 := jp_C_workdayNearest) (As := [.int vl, .int le, .int fw]) (r := []) (mx := 4) rfl rfl rfl rfl rfl (by omega) (by omega) (Nat.le_of_ble_eq_true rfl) (q_C_workdayNearest vl le fw (jx_us M [(a, (4, [.ref sq, .int dr, .int vl, .int nn])), (sq, (103, jx_vl 12 st))])   _ _ (by omega) (by omega)) ?_
            show jt jp_C_daysOf rF rL 90 [(0, .ref a), (1, .int le), (2, .int fw)] [.long (g_C_workdayNearest vl le fw)] (jx_us M [(a, (4, [.ref sq, .int dr, .int vl, .int nn])), (sq, (103, jx_vl 12 st))]) 0 0 (.inl (some (.long (g_C_daysOf le fw dr vl nn st))), M, 0, 0)
            exact jt_lret rfl rfl (jx_oe (by show (some (Value.long _) : Option Value) = some (Value.long _); unfold g_C_daysOf; first | (simp only [if_neg c1, if_neg c2, if_neg c3, if_neg c4, if_pos c5, reduceIte]; done) | (simp only [if_neg c1, if_neg c2, if_neg c3, if_neg c4, if_pos c5, reduceIte]; rfl) | rfl) (jx_us_id hL))
          · skip
            refine jt_tabOut (t := 91) rfl (by have q0 := lv_neT c1 (a := 0) rfl; have q1 := lv_neT c2 (a := 1) rfl; have q2 := lv_neT c3 (a := 2) rfl; have q3 := lv_neT c4 (a := 3) rfl; have q4 := lv_neT c5 (a := 4) rfl; omega) rfl ?_
            refine jt_sgp 2 (pc1 := 93) (lv1 := [(0, .ref a), (1, .int le), (2, .int fw)]) (st1 := [.ref a, .int 1]) rfl ?_
            refine jt_get rfl (jx_us_get (by exact hnd) (by exact hlt) 0 rfl) rfl ?_
            refine jt_sgp 3 (pc1 := 100) (lv1 := [(0, .ref a), (1, .int le), (2, .int fw)]) (st1 := [.int 7, .int (vl - fw), .int 1]) rfl ?_
            refine jt_call (k := 188) (m2 := jp_Math_floorMod) (As := [.int (vl - fw), .int 7]) (r := [.int 1]) (mx := 3) rfl rfl rfl rfl rfl (by omega) (by omega) (Nat.le_of_ble_eq_true rfl) (q_Math_floorMod (vl - fw) 7 (jx_us M [(a, (4, [.ref sq, .int dr, .int vl, .int nn])), (sq, (103, jx_vl 12 st))])  (by first | with_reducible assumption | decide +kernel) _ _ (by omega) (by omega)) ?_
            show jt jp_C_daysOf rF rL 103 [(0, .ref a), (1, .int le), (2, .int fw)] [.int (g_Math_floorMod (vl - fw) 7), .int 1] (jx_us M [(a, (4, [.ref sq, .int dr, .int vl, .int nn])), (sq, (103, jx_vl 12 st))]) 0 0 (.inl (some (.long (g_C_daysOf le fw dr vl nn st))), M, 0, 0)
            refine jt_sgp 3 (pc1 := 106) (lv1 := [(3, .int (1 + (g_Math_floorMod (vl - fw) 7))), (0, .ref a), (1, .int le), (2, .int fw)]) (st1 := [.ref a]) rfl ?_
            refine jt_get rfl (jx_us_get (by exact hnd) (by exact hlt) 0 rfl) rfl ?_
            refine jt_sgp 1 (pc1 := 110) (lv1 := [(3, .int (1 + (g_Math_floorMod (vl - fw) 7))), (0, .ref a), (1, .int le), (2, .int fw)]) (st1 := [.int 5, .int dr]) rfl ?_
            refine jt_icmp_ne (t := 129) rfl rfl (fun c6 => ?_) (fun c6 => ?_)
            · refine jt_sgp 3 (pc1 := 133) (lv1 := [(3, .int (1 + (g_Math_floorMod (vl - fw) 7))), (0, .ref a), (1, .int le), (2, .int fw)]) (st1 := [.ref a, .int 7, .int (1 + (g_Math_floorMod (vl - fw) 7))]) rfl ?_
              refine jt_get rfl (jx_us_get (by exact hnd) (by exact hlt) 0 rfl) rfl ?_
              refine jt_sgp 5 (pc1 := 141) (lv1 := [(3, .int (1 + (g_Math_floorMod (vl - fw) 7))), (0, .ref a), (1, .int le), (2, .int fw)]) (st1 := [.int le, .int ((1 + (g_Math_floorMod (vl - fw) 7)) + (7 * (nn - 1)))]) rfl ?_
              refine jt_call (k := 105) (m2 := jp_C_bitOf) (As := [.int ((1 + (g_Math_floorMod (vl - fw) 7)) + (7 * (nn - 1))), .int le]) (r := []) (mx := 2) rfl rfl rfl rfl rfl (by omega) (by omega) (Nat.le_of_ble_eq_true rfl) (q_C_bitOf ((1 + (g_Math_floorMod (vl - fw) 7)) + (7 * (nn - 1))) le (jx_us M [(a, (4, [.ref sq, .int dr, .int vl, .int nn])), (sq, (103, jx_vl 12 st))])   _ _ (by omega) (by omega)) ?_
              show jt jp_C_daysOf rF rL 144 [(3, .int (1 + (g_Math_floorMod (vl - fw) 7))), (0, .ref a), (1, .int le), (2, .int fw)] [.long (g_C_bitOf ((1 + (g_Math_floorMod (vl - fw) 7)) + (7 * (nn - 1))) le)] (jx_us M [(a, (4, [.ref sq, .int dr, .int vl, .int nn])), (sq, (103, jx_vl 12 st))]) 0 0 (.inl (some (.long (g_C_daysOf le fw dr vl nn st))), M, 0, 0)
              obtain ⟨u141, eu141⟩ : ∃ z_ : Int64, z_ = (g_C_bitOf ((1 + (g_Math_floorMod (vl - fw) 7)) + (7 * (nn - 1))) le) := ⟨_, rfl⟩
              rw [← eu141]
              exact jt_lret rfl rfl (jx_oe (by show (some (Value.long _) : Option Value) = some (Value.long _); unfold g_C_daysOf; subst eu141; first | (simp only [if_neg c1, if_neg c2, if_neg c3, if_neg c4, if_neg c5, if_neg c6, reduceIte]; done) | (simp only [if_neg c1, if_neg c2, if_neg c3, if_neg c4, if_neg c5, if_neg c6, reduceIte]; rfl) | rfl) (jx_us_id hL))
            · refine jt_sgp 5 (pc1 := 119) (lv1 := [(3, .int (1 + (g_Math_floorMod (vl - fw) 7))), (0, .ref a), (1, .int le), (2, .int fw)]) (st1 := [.int 7, .int (le - (1 + (g_Math_floorMod (vl - fw) 7))), .int (1 + (g_Math_floorMod (vl - fw) 7))]) rfl ?_
              refine jt_idiv rfl (by decide +kernel) ?_
              refine jt_sgp 4 (pc1 := 125) (lv1 := [(3, .int (1 + (g_Math_floorMod (vl - fw) 7))), (0, .ref a), (1, .int le), (2, .int fw)]) (st1 := [.int le, .int ((1 + (g_Math_floorMod (vl - fw) 7)) + (((le - (1 + (g_Math_floorMod (vl - fw) 7))) / 7) * 7))]) rfl ?_
              refine jt_call (k := 105) (m2 := jp_C_bitOf) (As := [.int ((1 + (g_Math_floorMod (vl - fw) 7)) + (((le - (1 + (g_Math_floorMod (vl - fw) 7))) / 7) * 7)), .int le]) (r := []) (mx := 2) rfl rfl rfl rfl rfl (by omega) (by omega) (Nat.le_of_ble_eq_true rfl) (q_C_bitOf ((1 + (g_Math_floorMod (vl - fw) 7)) + (((le - (1 + (g_Math_floorMod (vl - fw) 7))) / 7) * 7)) le (jx_us M [(a, (4, [.ref sq, .int dr, .int vl, .int nn])), (sq, (103, jx_vl 12 st))])   _ _ (by omega) (by omega)) ?_
              show jt jp_C_daysOf rF rL 128 [(3, .int (1 + (g_Math_floorMod (vl - fw) 7))), (0, .ref a), (1, .int le), (2, .int fw)] [.long (g_C_bitOf ((1 + (g_Math_floorMod (vl - fw) 7)) + (((le - (1 + (g_Math_floorMod (vl - fw) 7))) / 7) * 7)) le)] (jx_us M [(a, (4, [.ref sq, .int dr, .int vl, .int nn])), (sq, (103, jx_vl 12 st))]) 0 0 (.inl (some (.long (g_C_daysOf le fw dr vl nn st))), M, 0, 0)
              obtain ⟨u125, eu125⟩ : ∃ z_ : Int64, z_ = (g_C_bitOf ((1 + (g_Math_floorMod (vl - fw) 7)) + (((le - (1 + (g_Math_floorMod (vl - fw) 7))) / 7) * 7)) le) := ⟨_, rfl⟩
              rw [← eu125]
              exact jt_lret rfl rfl (jx_oe (by show (some (Value.long _) : Option Value) = some (Value.long _); unfold g_C_daysOf; subst eu125; first | (simp only [if_neg c1, if_neg c2, if_neg c3, if_neg c4, if_neg c5, if_pos c6, reduceIte]; done) | (simp only [if_neg c1, if_neg c2, if_neg c3, if_neg c4, if_neg c5, if_pos c6, reduceIte]; rfl) | rfl) (jx_us_id hL))
def g_C_timeFrom (ti : Int32) (dr : Int32) (vl : Int32) (nn : Int32) (st : Nat → Int64) : Int32 :=
  let u11 : Int32 := g_C_lowestBit (st (2 : Int32).toNatClampNeg) (ti / 3600)
  let v41 : Int32 := if u11 = (ti / 3600) then ((ti / 60) - (ti / 60) / 60 * 60) else 0
  let u41 : Int32 := g_C_lowestBit (st (1 : Int32).toNatClampNeg) v41
  let v70 : Int32 := if u11 = (ti / 3600) then (if u41 = ((ti / 60) - (ti / 60) / 60 * 60) then 1 else 0) else 0
  let v91 : Int32 := if v70 = 0 then 0 else (ti - ti / 60 * 60)
  let u91 : Int32 := g_C_lowestBit (st (0 : Int32).toNatClampNeg) v91
  let v126 : Int32 := if 0 ≤ u91 then u41 else (g_C_lowestBit (st (1 : Int32).toNatClampNeg) (u41 + 1))
  let v126_1 : Int32 := if 0 ≤ u91 then u91 else (g_C_lowestBit (st (0 : Int32).toNatClampNeg) 0)
  let v158 : Int32 := if 0 ≤ v126 then u11 else (g_C_lowestBit (st (2 : Int32).toNatClampNeg) ((ti / 3600) + 1))
  let v158_1 : Int32 := if 0 ≤ v126 then v126 else (g_C_lowestBit (st (1 : Int32).toNatClampNeg) 0)
  let v179 : Int32 := if 0 ≤ v158 then (((v158 * 3600) + (v158_1 * 60)) + v126_1) else (-1)
  v179
set_option maxRecDepth 20000 in
set_option maxHeartbeats 4000000 in
theorem q_C_timeFrom (a : Nat) (ti : Int32) (sq : Nat) (dr : Int32) (vl : Int32) (nn : Int32) (st : Nat → Int64) (M : jx_H) (h_a : M[a]? = some (4, [.ref sq, .int dr, .int vl, .int nn])) (h_sq : M[sq]? = some (103, jx_vl 12 st)) (hnd : ([a, sq] : List Nat).Nodup)  (rF rL : Nat) (hfr : 2 ≤ rF) (hlo : 45 ≤ rL) : jt jp_C_timeFrom rF rL 0 [(0, .ref a), (1, .int ti)] [] M 0 0 (.inl (some (.int (g_C_timeFrom ti dr vl nn st))), M, 0, 0) := by
  have hL : ∀ zz ∈ ([(a, (4, [.ref sq, .int dr, .int vl, .int nn])), (sq, (103, jx_vl 12 st))] : List (Nat × (Nat × List Value))), M[zz.1]? = some zz.2 := List.forall_mem_cons.mpr ⟨h_a, List.forall_mem_cons.mpr ⟨h_sq, fun _ hz => absurd hz List.not_mem_nil⟩⟩
  have hlt : ∀ zz ∈ ([a, sq] : List Nat), zz < M.length := jx_lts hL
  refine jt_hq (jx_us_id hL).symm ?_
  show jt jp_C_timeFrom rF rL 0 [(0, .ref a), (1, .int ti)] [] (jx_us M [(a, (4, [.ref sq, .int dr, .int vl, .int nn])), (sq, (103, jx_vl 12 st))]) 0 0 (.inl (some (.int (g_C_timeFrom ti dr vl nn st))), M, 0, 0)
  refine jt_sgp 1 (pc1 := 1) (lv1 := [(0, .ref a), (1, .int ti)]) (st1 := [.ref a]) rfl ?_
  refine jt_get rfl (jx_us_get (by exact hnd) (by exact hlt) 0 rfl) rfl ?_
  refine jt_sgp 1 (pc1 := 5) (lv1 := [(0, .ref a), (1, .int ti)]) (st1 := [.int 2, .ref sq]) rfl ?_
  refine jt_lald rfl (jx_us_get (by exact hnd) (by exact hlt) 1 rfl) (by unfold vp_in; decide) ?_
  refine jt_sgp 2 (pc1 := 10) (lv1 := [(0, .ref a), (1, .int ti)]) (st1 := [.int 3600, .int ti, .long (st (2 : Int32).toNatClampNeg)]) rfl ?_
  refine jt_idiv rfl (by decide +kernel) ?_
  refine jt_call (k := 109) (m2 := jp_C_lowestBit) (As := [.long (st (2 : Int32).toNatClampNeg), .int (ti / 3600)]) (r := []) (mx := 5) rfl rfl rfl rfl rfl (by omega) (by omega) (Nat.le_of_ble_eq_true rfl) (q_C_lowestBit (st (2 : Int32).toNatClampNeg) (ti / 3600) (jx_us M [(a, (4, [.ref sq, .int dr, .int vl, .int nn])), (sq, (103, jx_vl 12 st))])   _ _ (by omega) (by omega)) ?_
  show jt jp_C_timeFrom rF rL 14 [(0, .ref a), (1, .int ti)] [.int (g_C_lowestBit (st (2 : Int32).toNatClampNeg) (ti / 3600))] (jx_us M [(a, (4, [.ref sq, .int dr, .int vl, .int nn])), (sq, (103, jx_vl 12 st))]) 0 0 (.inl (some (.int (g_C_timeFrom ti dr vl nn st))), M, 0, 0)
  obtain ⟨u11, eu11⟩ : ∃ z_ : Int32, z_ = (g_C_lowestBit (st (2 : Int32).toNatClampNeg) (ti / 3600)) := ⟨_, rfl⟩
  rw [← eu11]
  refine jt_sgp 2 (pc1 := 16) (lv1 := [(2, .int u11), (0, .ref a), (1, .int ti)]) (st1 := [.ref a]) rfl ?_
  refine jt_get rfl (jx_us_get (by exact hnd) (by exact hlt) 0 rfl) rfl ?_
  refine jt_sgp 1 (pc1 := 20) (lv1 := [(2, .int u11), (0, .ref a), (1, .int ti)]) (st1 := [.int 1, .ref sq]) rfl ?_
  refine jt_lald rfl (jx_us_get (by exact hnd) (by exact hlt) 1 rfl) (by unfold vp_in; decide) ?_
  refine jt_sgp 3 (pc1 := 26) (lv1 := [(2, .int u11), (0, .ref a), (1, .int ti)]) (st1 := [.int 3600, .int ti, .int u11, .long (st (1 : Int32).toNatClampNeg)]) rfl ?_
  refine jt_idiv rfl (by decide +kernel) ?_
  have J41_2 : ∀ (v41 : Int32), v41 = (if u11 = (ti / 3600) then ((ti / 60) - (ti / 60) / 60 * 60) else 0 : Int32) → jt jp_C_timeFrom rF rL 41 [(2, .int u11), (0, .ref a), (1, .int ti)] [.int v41, .long (st (1 : Int32).toNatClampNeg)] (jx_us M [(a, (4, [.ref sq, .int dr, .int vl, .int nn])), (sq, (103, jx_vl 12 st))]) 0 0 (.inl (some (.int (g_C_timeFrom ti dr vl nn st))), M, 0, 0) := by
    intro v41 ev41
    refine jt_call (k := 109) (m2 := jp_C_lowestBit) (As := [.long (st (1 : Int32).toNatClampNeg), .int v41]) (r := []) (mx := 5) rfl rfl rfl rfl rfl (by omega) (by omega) (Nat.le_of_ble_eq_true rfl) (q_C_lowestBit (st (1 : Int32).toNatClampNeg) v41 (jx_us M [(a, (4, [.ref sq, .int dr, .int vl, .int nn])), (sq, (103, jx_vl 12 st))])   _ _ (by omega) (by omega)) ?_
    show jt jp_C_timeFrom rF rL 44 [(2, .int u11), (0, .ref a), (1, .int ti)] [.int (g_C_lowestBit (st (1 : Int32).toNatClampNeg) v41)] (jx_us M [(a, (4, [.ref sq, .int dr, .int vl, .int nn])), (sq, (103, jx_vl 12 st))]) 0 0 (.inl (some (.int (g_C_timeFrom ti dr vl nn st))), M, 0, 0)
    obtain ⟨u41, eu41⟩ : ∃ z_ : Int32, z_ = (g_C_lowestBit (st (1 : Int32).toNatClampNeg) v41) := ⟨_, rfl⟩
    rw [← eu41]
    refine jt_sgp 4 (pc1 := 50) (lv1 := [(3, .int u41), (2, .int u11), (0, .ref a), (1, .int ti)]) (st1 := [.int 3600, .int ti, .int u11]) rfl ?_
    refine jt_idiv rfl (by decide +kernel) ?_
    have J70_4 : ∀ (v70 : Int32), v70 = (if u11 = (ti / 3600) then (if u41 = ((ti / 60) - (ti / 60) / 60 * 60) then 1 else 0) else 0 : Int32) → jt jp_C_timeFrom rF rL 70 [(3, .int u41), (2, .int u11), (0, .ref a), (1, .int ti)] [.int v70] (jx_us M [(a, (4, [.ref sq, .int dr, .int vl, .int nn])), (sq, (103, jx_vl 12 st))]) 0 0 (.inl (some (.int (g_C_timeFrom ti dr vl nn st))), M, 0, 0) := by
      intro v70 ev70
      refine jt_sgp 2 (pc1 := 73) (lv1 := [(4, .int v70), (3, .int u41), (2, .int u11), (0, .ref a), (1, .int ti)]) (st1 := [.ref a]) rfl ?_
      refine jt_get rfl (jx_us_get (by exact hnd) (by exact hlt) 0 rfl) rfl ?_
      refine jt_sgp 1 (pc1 := 77) (lv1 := [(4, .int v70), (3, .int u41), (2, .int u11), (0, .ref a), (1, .int ti)]) (st1 := [.int 0, .ref sq]) rfl ?_
      refine jt_lald rfl (jx_us_get (by exact hnd) (by exact hlt) 1 rfl) (by unfold vp_in; decide) ?_
      refine jt_sgp 1 (pc1 := 80) (lv1 := [(4, .int v70), (3, .int u41), (2, .int u11), (0, .ref a), (1, .int ti)]) (st1 := [.int v70, .long (st (0 : Int32).toNatClampNeg)]) rfl ?_
      have J91_6 : ∀ (v91 : Int32), v91 = (if v70 = 0 then 0 else (ti - ti / 60 * 60) : Int32) → jt jp_C_timeFrom rF rL 91 [(4, .int v70), (3, .int u41), (2, .int u11), (0, .ref a), (1, .int ti)] [.int v91, .long (st (0 : Int32).toNatClampNeg)] (jx_us M [(a, (4, [.ref sq, .int dr, .int vl, .int nn])), (sq, (103, jx_vl 12 st))]) 0 0 (.inl (some (.int (g_C_timeFrom ti dr vl nn st))), M, 0, 0) := by
        intro v91 ev91
        refine jt_call (k := 109) (m2 := jp_C_lowestBit) (As := [.long (st (0 : Int32).toNatClampNeg), .int v91]) (r := []) (mx := 5) rfl rfl rfl rfl rfl (by omega) (by omega) (Nat.le_of_ble_eq_true rfl) (q_C_lowestBit (st (0 : Int32).toNatClampNeg) v91 (jx_us M [(a, (4, [.ref sq, .int dr, .int vl, .int nn])), (sq, (103, jx_vl 12 st))])   _ _ (by omega) (by omega)) ?_
        show jt jp_C_timeFrom rF rL 94 [(4, .int v70), (3, .int u41), (2, .int u11), (0, .ref a), (1, .int ti)] [.int (g_C_lowestBit (st (0 : Int32).toNatClampNeg) v91)] (jx_us M [(a, (4, [.ref sq, .int dr, .int vl, .int nn])), (sq, (103, jx_vl 12 st))]) 0 0 (.inl (some (.int (g_C_timeFrom ti dr vl nn st))), M, 0, 0)
        obtain ⟨u91, eu91⟩ : ∃ z_ : Int32, z_ = (g_C_lowestBit (st (0 : Int32).toNatClampNeg) v91) := ⟨_, rfl⟩
        rw [← eu91]
        refine jt_sgp 2 (pc1 := 98) (lv1 := [(5, .int u91), (4, .int v70), (3, .int u41), (2, .int u11), (0, .ref a), (1, .int ti)]) (st1 := [.int u91]) rfl ?_
        have J126_8 : ∀ (v126 : Int32) (v126_1 : Int32), v126 = (if 0 ≤ u91 then u41 else (g_C_lowestBit (st (1 : Int32).toNatClampNeg) (u41 + 1)) : Int32) → v126_1 = (if 0 ≤ u91 then u91 else (g_C_lowestBit (st (0 : Int32).toNatClampNeg) 0) : Int32) → jt jp_C_timeFrom rF rL 126 [(0, .ref a), (1, .int ti), (2, .int u11), (3, .int v126), (4, .int v70), (5, .int v126_1)] [] (jx_us M [(a, (4, [.ref sq, .int dr, .int vl, .int nn])), (sq, (103, jx_vl 12 st))]) 0 0 (.inl (some (.int (g_C_timeFrom ti dr vl nn st))), M, 0, 0) := by
          intro v126 v126_1 ev126 ev126_1
          refine jt_sgp 1 (pc1 := 127) (lv1 := [(0, .ref a), (1, .int ti), (2, .int u11), (3, .int v126), (4, .int v70), (5, .int v126_1)]) (st1 := [.int v126]) rfl ?_
          have J158_10 : ∀ (v158 : Int32) (v158_1 : Int32), v158 = (if 0 ≤ v126 then u11 else (g_C_lowestBit (st (2 : Int32).toNatClampNeg) ((ti / 3600) + 1)) : Int32) → v158_1 = (if 0 ≤ v126 then v126 else (g_C_lowestBit (st (1 : Int32).toNatClampNeg) 0) : Int32) → jt jp_C_timeFrom rF rL 158 [(0, .ref a), (1, .int ti), (2, .int v158), (3, .int v158_1), (4, .int v70), (5, .int v126_1)] [] (jx_us M [(a, (4, [.ref sq, .int dr, .int vl, .int nn])), (sq, (103, jx_vl 12 st))]) 0 0 (.inl (some (.int (g_C_timeFrom ti dr vl nn st))), M, 0, 0) := by
            intro v158 v158_1 ev158 ev158_1
            refine jt_sgp 1 (pc1 := 159) (lv1 := [(0, .ref a), (1, .int ti), (2, .int v158), (3, .int v158_1), (4, .int v70), (5, .int v126_1)]) (st1 := [.int v158]) rfl ?_
            have J179_12 : ∀ (v179 : Int32), v179 = (if 0 ≤ v158 then (((v158 * 3600) + (v158_1 * 60)) + v126_1) else (-1) : Int32) → jt jp_C_timeFrom rF rL 179 [(0, .ref a), (1, .int ti), (2, .int v158), (3, .int v158_1), (4, .int v70), (5, .int v126_1)] [.int v179] (jx_us M [(a, (4, [.ref sq, .int dr, .int vl, .int nn])), (sq, (103, jx_vl 12 st))]) 0 0 (.inl (some (.int (g_C_timeFrom ti dr vl nn st))), M, 0, 0) := by
              intro v179 ev179
              exact jt_iret rfl rfl rfl (jx_oe (by show (some (Value.int _) : Option Value) = some (Value.int _); unfold g_C_timeFrom; subst ev179; subst ev158_1; subst ev158; subst ev126_1; subst ev126; subst eu91; subst ev91; subst ev70; subst eu41; subst ev41; subst eu11; rfl) (jx_us_id hL))
            refine jt_if_ge (t := 166) rfl rfl (fun c11 => ?_) (fun c11 => ?_)
            · refine jt_sgp 9 (pc1 := 179) (lv1 := [(0, .ref a), (1, .int ti), (2, .int v158), (3, .int v158_1), (4, .int v70), (5, .int v126_1)]) (st1 := [.int (((v158 * 3600) + (v158_1 * 60)) + v126_1)]) rfl ?_
              exact J179_12 _ (by first | (simp only [if_pos c11, reduceIte]; done) | (with_reducible rfl))
            · refine jt_sgp 2 (pc1 := 179) (lv1 := [(0, .ref a), (1, .int ti), (2, .int v158), (3, .int v158_1), (4, .int v70), (5, .int v126_1)]) (st1 := [.int (-1)]) rfl ?_
              exact J179_12 _ (by first | (simp only [if_neg c11, reduceIte]; done) | (with_reducible rfl))
          refine jt_if_ge (t := 158) rfl rfl (fun c9 => ?_) (fun c9 => ?_)
          · refine jt_lvs (l1 := [(0, .ref a), (1, .int ti), (2, .int u11), (3, .int v126), (4, .int v70), (5, .int v126_1)]) rfl rfl ⟨rfl, rfl, rfl, rfl, rfl, rfl, trivial⟩ ?_
            exact J158_10 _ _ (by first | (simp only [if_pos c9, reduceIte]; done) | (with_reducible rfl)) (by first | (simp only [if_pos c9, reduceIte]; done) | (with_reducible rfl))
          · refine jt_sgp 1 (pc1 := 131) (lv1 := [(0, .ref a), (1, .int ti), (2, .int u11), (3, .int v126), (4, .int v70), (5, .int v126_1)]) (st1 := [.ref a]) rfl ?_
            refine jt_get rfl (jx_us_get (by exact hnd) (by exact hlt) 0 rfl) rfl ?_
            refine jt_sgp 1 (pc1 := 135) (lv1 := [(0, .ref a), (1, .int ti), (2, .int u11), (3, .int v126), (4, .int v70), (5, .int v126_1)]) (st1 := [.int 2, .ref sq]) rfl ?_
            refine jt_lald rfl (jx_us_get (by exact hnd) (by exact hlt) 1 rfl) (by unfold vp_in; decide) ?_
            refine jt_sgp 2 (pc1 := 140) (lv1 := [(0, .ref a), (1, .int ti), (2, .int u11), (3, .int v126), (4, .int v70), (5, .int v126_1)]) (st1 := [.int 3600, .int ti, .long (st (2 : Int32).toNatClampNeg)]) rfl ?_
            refine jt_idiv rfl (by decide +kernel) ?_
            refine jt_sgp 2 (pc1 := 143) (lv1 := [(0, .ref a), (1, .int ti), (2, .int u11), (3, .int v126), (4, .int v70), (5, .int v126_1)]) (st1 := [.int ((ti / 3600) + 1), .long (st (2 : Int32).toNatClampNeg)]) rfl ?_
            refine jt_call (k := 109) (m2 := jp_C_lowestBit) (As := [.long (st (2 : Int32).toNatClampNeg), .int ((ti / 3600) + 1)]) (r := []) (mx := 5) rfl rfl rfl rfl rfl (by omega) (by omega) (Nat.le_of_ble_eq_true rfl) (q_C_lowestBit (st (2 : Int32).toNatClampNeg) ((ti / 3600) + 1) (jx_us M [(a, (4, [.ref sq, .int dr, .int vl, .int nn])), (sq, (103, jx_vl 12 st))])   _ _ (by omega) (by omega)) ?_
            show jt jp_C_timeFrom rF rL 146 [(0, .ref a), (1, .int ti), (2, .int u11), (3, .int v126), (4, .int v70), (5, .int v126_1)] [.int (g_C_lowestBit (st (2 : Int32).toNatClampNeg) ((ti / 3600) + 1))] (jx_us M [(a, (4, [.ref sq, .int dr, .int vl, .int nn])), (sq, (103, jx_vl 12 st))]) 0 0 (.inl (some (.int (g_C_timeFrom ti dr vl nn st))), M, 0, 0)
            refine jt_sgp 2 (pc1 := 148) (lv1 := [(2, .int (g_C_lowestBit (st (2 : Int32).toNatClampNeg) ((ti / 3600) + 1))), (0, .ref a), (1, .int ti), (3, .int v126), (4, .int v70), (5, .int v126_1)]) (st1 := [.ref a]) rfl ?_
            refine jt_get rfl (jx_us_get (by exact hnd) (by exact hlt) 0 rfl) rfl ?_
            refine jt_sgp 1 (pc1 := 152) (lv1 := [(2, .int (g_C_lowestBit (st (2 : Int32).toNatClampNeg) ((ti / 3600) + 1))), (0, .ref a), (1, .int ti), (3, .int v126), (4, .int v70), (5, .int v126_1)]) (st1 := [.int 1, .ref sq]) rfl ?_
            refine jt_lald rfl (jx_us_get (by exact hnd) (by exact hlt) 1 rfl) (by unfold vp_in; decide) ?_
            refine jt_sgp 1 (pc1 := 154) (lv1 := [(2, .int (g_C_lowestBit (st (2 : Int32).toNatClampNeg) ((ti / 3600) + 1))), (0, .ref a), (1, .int ti), (3, .int v126), (4, .int v70), (5, .int v126_1)]) (st1 := [.int 0, .long (st (1 : Int32).toNatClampNeg)]) rfl ?_
            refine jt_call (k := 109) (m2 := jp_C_lowestBit) (As := [.long (st (1 : Int32).toNatClampNeg), .int 0]) (r := []) (mx := 5) rfl rfl rfl rfl rfl (by omega) (by omega) (Nat.le_of_ble_eq_true rfl) (q_C_lowestBit (st (1 : Int32).toNatClampNeg) 0 (jx_us M [(a, (4, [.ref sq, .int dr, .int vl, .int nn])), (sq, (103, jx_vl 12 st))])   _ _ (by omega) (by omega)) ?_
            show jt jp_C_timeFrom rF rL 157 [(2, .int (g_C_lowestBit (st (2 : Int32).toNatClampNeg) ((ti / 3600) + 1))), (0, .ref a), (1, .int ti), (3, .int v126), (4, .int v70), (5, .int v126_1)] [.int (g_C_lowestBit (st (1 : Int32).toNatClampNeg) 0)] (jx_us M [(a, (4, [.ref sq, .int dr, .int vl, .int nn])), (sq, (103, jx_vl 12 st))]) 0 0 (.inl (some (.int (g_C_timeFrom ti dr vl nn st))), M, 0, 0)
            refine jt_sgp 1 (pc1 := 158) (lv1 := [(3, .int (g_C_lowestBit (st (1 : Int32).toNatClampNeg) 0)), (2, .int (g_C_lowestBit (st (2 : Int32).toNatClampNeg) ((ti / 3600) + 1))), (0, .ref a), (1, .int ti), (4, .int v70), (5, .int v126_1)]) (st1 := []) rfl ?_
            refine jt_lvs (l1 := [(0, .ref a), (1, .int ti), (2, .int (g_C_lowestBit (st (2 : Int32).toNatClampNeg) ((ti / 3600) + 1))), (3, .int (g_C_lowestBit (st (1 : Int32).toNatClampNeg) 0)), (4, .int v70), (5, .int v126_1)]) rfl rfl ⟨rfl, rfl, rfl, rfl, rfl, rfl, trivial⟩ ?_
            exact J158_10 _ _ (by first | (simp only [if_neg c9, reduceIte]; done) | (with_reducible rfl)) (by first | (simp only [if_neg c9, reduceIte]; done) | (with_reducible rfl))
        refine jt_if_ge (t := 126) rfl rfl (fun c7 => ?_) (fun c7 => ?_)
        · refine jt_lvs (l1 := [(0, .ref a), (1, .int ti), (2, .int u11), (3, .int u41), (4, .int v70), (5, .int u91)]) rfl rfl ⟨rfl, rfl, rfl, rfl, rfl, rfl, trivial⟩ ?_
          exact J126_8 _ _ (by first | (simp only [if_pos c7, reduceIte]; done) | (with_reducible rfl)) (by first | (simp only [if_pos c7, reduceIte]; done) | (with_reducible rfl))
        · refine jt_sgp 1 (pc1 := 102) (lv1 := [(5, .int u91), (4, .int v70), (3, .int u41), (2, .int u11), (0, .ref a), (1, .int ti)]) (st1 := [.ref a]) rfl ?_
          refine jt_get rfl (jx_us_get (by exact hnd) (by exact hlt) 0 rfl) rfl ?_
          refine jt_sgp 1 (pc1 := 106) (lv1 := [(5, .int u91), (4, .int v70), (3, .int u41), (2, .int u11), (0, .ref a), (1, .int ti)]) (st1 := [.int 1, .ref sq]) rfl ?_
          refine jt_lald rfl (jx_us_get (by exact hnd) (by exact hlt) 1 rfl) (by unfold vp_in; decide) ?_
          refine jt_sgp 3 (pc1 := 110) (lv1 := [(5, .int u91), (4, .int v70), (3, .int u41), (2, .int u11), (0, .ref a), (1, .int ti)]) (st1 := [.int (u41 + 1), .long (st (1 : Int32).toNatClampNeg)]) rfl ?_
          refine jt_call (k := 109) (m2 := jp_C_lowestBit) (As := [.long (st (1 : Int32).toNatClampNeg), .int (u41 + 1)]) (r := []) (mx := 5) rfl rfl rfl rfl rfl (by omega) (by omega) (Nat.le_of_ble_eq_true rfl) (q_C_lowestBit (st (1 : Int32).toNatClampNeg) (u41 + 1) (jx_us M [(a, (4, [.ref sq, .int dr, .int vl, .int nn])), (sq, (103, jx_vl 12 st))])   _ _ (by omega) (by omega)) ?_
          show jt jp_C_timeFrom rF rL 113 [(5, .int u91), (4, .int v70), (3, .int u41), (2, .int u11), (0, .ref a), (1, .int ti)] [.int (g_C_lowestBit (st (1 : Int32).toNatClampNeg) (u41 + 1))] (jx_us M [(a, (4, [.ref sq, .int dr, .int vl, .int nn])), (sq, (103, jx_vl 12 st))]) 0 0 (.inl (some (.int (g_C_timeFrom ti dr vl nn st))), M, 0, 0)
          refine jt_sgp 2 (pc1 := 115) (lv1 := [(3, .int (g_C_lowestBit (st (1 : Int32).toNatClampNeg) (u41 + 1))), (5, .int u91), (4, .int v70), (2, .int u11), (0, .ref a), (1, .int ti)]) (st1 := [.ref a]) rfl ?_
          refine jt_get rfl (jx_us_get (by exact hnd) (by exact hlt) 0 rfl) rfl ?_
          refine jt_sgp 1 (pc1 := 119) (lv1 := [(3, .int (g_C_lowestBit (st (1 : Int32).toNatClampNeg) (u41 + 1))), (5, .int u91), (4, .int v70), (2, .int u11), (0, .ref a), (1, .int ti)]) (st1 := [.int 0, .ref sq]) rfl ?_
          refine jt_lald rfl (jx_us_get (by exact hnd) (by exact hlt) 1 rfl) (by unfold vp_in; decide) ?_
          refine jt_sgp 1 (pc1 := 121) (lv1 := [(3, .int (g_C_lowestBit (st (1 : Int32).toNatClampNeg) (u41 + 1))), (5, .int u91), (4, .int v70), (2, .int u11), (0, .ref a), (1, .int ti)]) (st1 := [.int 0, .long (st (0 : Int32).toNatClampNeg)]) rfl ?_
          refine jt_call (k := 109) (m2 := jp_C_lowestBit) (As := [.long (st (0 : Int32).toNatClampNeg), .int 0]) (r := []) (mx := 5) rfl rfl rfl rfl rfl (by omega) (by omega) (Nat.le_of_ble_eq_true rfl) (q_C_lowestBit (st (0 : Int32).toNatClampNeg) 0 (jx_us M [(a, (4, [.ref sq, .int dr, .int vl, .int nn])), (sq, (103, jx_vl 12 st))])   _ _ (by omega) (by omega)) ?_
          show jt jp_C_timeFrom rF rL 124 [(3, .int (g_C_lowestBit (st (1 : Int32).toNatClampNeg) (u41 + 1))), (5, .int u91), (4, .int v70), (2, .int u11), (0, .ref a), (1, .int ti)] [.int (g_C_lowestBit (st (0 : Int32).toNatClampNeg) 0)] (jx_us M [(a, (4, [.ref sq, .int dr, .int vl, .int nn])), (sq, (103, jx_vl 12 st))]) 0 0 (.inl (some (.int (g_C_timeFrom ti dr vl nn st))), M, 0, 0)
          refine jt_sgp 1 (pc1 := 126) (lv1 := [(5, .int (g_C_lowestBit (st (0 : Int32).toNatClampNeg) 0)), (3, .int (g_C_lowestBit (st (1 : Int32).toNatClampNeg) (u41 + 1))), (4, .int v70), (2, .int u11), (0, .ref a), (1, .int ti)]) (st1 := []) rfl ?_
          refine jt_lvs (l1 := [(0, .ref a), (1, .int ti), (2, .int u11), (3, .int (g_C_lowestBit (st (1 : Int32).toNatClampNeg) (u41 + 1))), (4, .int v70), (5, .int (g_C_lowestBit (st (0 : Int32).toNatClampNeg) 0))]) rfl rfl ⟨rfl, rfl, rfl, rfl, rfl, rfl, trivial⟩ ?_
          exact J126_8 _ _ (by first | (simp only [if_neg c7, reduceIte]; done) | (with_reducible rfl)) (by first | (simp only [if_neg c7, reduceIte]; done) | (with_reducible rfl))
      refine jt_if_eq (t := 90) rfl rfl (fun c5 => ?_) (fun c5 => ?_)
      · refine jt_sgp 1 (pc1 := 91) (lv1 := [(4, .int v70), (3, .int u41), (2, .int u11), (0, .ref a), (1, .int ti)]) (st1 := [.int 0, .long (st (0 : Int32).toNatClampNeg)]) rfl ?_
        exact J91_6 _ (by first | (simp only [if_pos c5, reduceIte]; done) | (with_reducible rfl))
      · refine jt_sgp 2 (pc1 := 86) (lv1 := [(4, .int v70), (3, .int u41), (2, .int u11), (0, .ref a), (1, .int ti)]) (st1 := [.int 60, .int ti, .long (st (0 : Int32).toNatClampNeg)]) rfl ?_
        refine jt_irem rfl (by decide +kernel) ?_
        refine jt_sgp 1 (pc1 := 91) (lv1 := [(4, .int v70), (3, .int u41), (2, .int u11), (0, .ref a), (1, .int ti)]) (st1 := [.int (ti - ti / 60 * 60), .long (st (0 : Int32).toNatClampNeg)]) rfl ?_
        exact J91_6 _ (by first | (simp only [if_neg c5, reduceIte]; done) | (with_reducible rfl))
    refine jt_icmp_ne (t := 69) rfl rfl (fun c3 => ?_) (fun c3 => ?_)
    · refine jt_sgp 1 (pc1 := 70) (lv1 := [(3, .int u41), (2, .int u11), (0, .ref a), (1, .int ti)]) (st1 := [.int 0]) rfl ?_
      exact J70_4 _ (by first | (simp only [if_neg c3, reduceIte]; done) | (with_reducible rfl))
    · refine jt_sgp 3 (pc1 := 58) (lv1 := [(3, .int u41), (2, .int u11), (0, .ref a), (1, .int ti)]) (st1 := [.int 60, .int ti, .int u41]) rfl ?_
      refine jt_idiv rfl (by decide +kernel) ?_
      refine jt_sgp 1 (pc1 := 61) (lv1 := [(3, .int u41), (2, .int u11), (0, .ref a), (1, .int ti)]) (st1 := [.int 60, .int (ti / 60), .int u41]) rfl ?_
      refine jt_irem rfl (by decide +kernel) ?_
      refine jt_icmp_ne (t := 69) rfl rfl (fun c13 => ?_) (fun c13 => ?_)
      · refine jt_sgp 1 (pc1 := 70) (lv1 := [(3, .int u41), (2, .int u11), (0, .ref a), (1, .int ti)]) (st1 := [.int 0]) rfl ?_
        exact J70_4 _ (by first | (simp only [if_pos c3, if_neg c13, reduceIte]; done) | (with_reducible rfl))
      · refine jt_sgp 2 (pc1 := 70) (lv1 := [(3, .int u41), (2, .int u11), (0, .ref a), (1, .int ti)]) (st1 := [.int 1]) rfl ?_
        exact J70_4 _ (by first | (simp only [if_pos c3, if_pos c13, reduceIte]; done) | (with_reducible rfl))
  refine jt_icmp_ne (t := 40) rfl rfl (fun c1 => ?_) (fun c1 => ?_)
  · refine jt_sgp 1 (pc1 := 41) (lv1 := [(2, .int u11), (0, .ref a), (1, .int ti)]) (st1 := [.int 0, .long (st (1 : Int32).toNatClampNeg)]) rfl ?_
    exact J41_2 _ (by first | (simp only [if_neg c1, reduceIte]; done) | (with_reducible rfl))
  · refine jt_sgp 2 (pc1 := 33) (lv1 := [(2, .int u11), (0, .ref a), (1, .int ti)]) (st1 := [.int 60, .int ti, .long (st (1 : Int32).toNatClampNeg)]) rfl ?_
    refine jt_idiv rfl (by decide +kernel) ?_
    refine jt_sgp 1 (pc1 := 36) (lv1 := [(2, .int u11), (0, .ref a), (1, .int ti)]) (st1 := [.int 60, .int (ti / 60), .long (st (1 : Int32).toNatClampNeg)]) rfl ?_
    refine jt_irem rfl (by decide +kernel) ?_
    refine jt_sgp 1 (pc1 := 41) (lv1 := [(2, .int u11), (0, .ref a), (1, .int ti)]) (st1 := [.int ((ti / 60) - (ti / 60) / 60 * 60), .long (st (1 : Int32).toNatClampNeg)]) rfl ?_
    exact J41_2 _ (by first | (simp only [if_pos c1, reduceIte]; done) | (with_reducible rfl))
def g_C_timeUpTo (ti : Int32) (dr : Int32) (vl : Int32) (nn : Int32) (st : Nat → Int64) : Int32 :=
  let u11 : Int32 := g_C_highestBit (st (2 : Int32).toNatClampNeg) (ti / 3600)
  let v42 : Int32 := if u11 = (ti / 3600) then ((ti / 60) - (ti / 60) / 60 * 60) else 59
  let u42 : Int32 := g_C_highestBit (st (1 : Int32).toNatClampNeg) v42
  let v71 : Int32 := if u11 = (ti / 3600) then (if u42 = ((ti / 60) - (ti / 60) / 60 * 60) then 1 else 0) else 0
  let v93 : Int32 := if v71 = 0 then 59 else (ti - ti / 60 * 60)
  let u93 : Int32 := g_C_highestBit (st (0 : Int32).toNatClampNeg) v93
  let v129 : Int32 := if 0 ≤ u93 then u42 else (g_C_highestBit (st (1 : Int32).toNatClampNeg) (u42 - 1))
  let v129_1 : Int32 := if 0 ≤ u93 then u93 else (g_C_highestBit (st (0 : Int32).toNatClampNeg) 59)
  let v162 : Int32 := if 0 ≤ v129 then u11 else (g_C_highestBit (st (2 : Int32).toNatClampNeg) ((ti / 3600) - 1))
  let v162_1 : Int32 := if 0 ≤ v129 then v129 else (g_C_highestBit (st (1 : Int32).toNatClampNeg) 59)
  let v183 : Int32 := if 0 ≤ v162 then (((v162 * 3600) + (v162_1 * 60)) + v129_1) else (-1)
  v183
set_option maxRecDepth 20000 in
set_option maxHeartbeats 4000000 in
theorem q_C_timeUpTo (a : Nat) (ti : Int32) (sq : Nat) (dr : Int32) (vl : Int32) (nn : Int32) (st : Nat → Int64) (M : jx_H) (h_a : M[a]? = some (4, [.ref sq, .int dr, .int vl, .int nn])) (h_sq : M[sq]? = some (103, jx_vl 12 st)) (hnd : ([a, sq] : List Nat).Nodup)  (rF rL : Nat) (hfr : 2 ≤ rF) (hlo : 45 ≤ rL) : jt jp_C_timeUpTo rF rL 0 [(0, .ref a), (1, .int ti)] [] M 0 0 (.inl (some (.int (g_C_timeUpTo ti dr vl nn st))), M, 0, 0) := by
  have hL : ∀ zz ∈ ([(a, (4, [.ref sq, .int dr, .int vl, .int nn])), (sq, (103, jx_vl 12 st))] : List (Nat × (Nat × List Value))), M[zz.1]? = some zz.2 := List.forall_mem_cons.mpr ⟨h_a, List.forall_mem_cons.mpr ⟨h_sq, fun _ hz => absurd hz List.not_mem_nil⟩⟩
  have hlt : ∀ zz ∈ ([a, sq] : List Nat), zz < M.length := jx_lts hL
  refine jt_hq (jx_us_id hL).symm ?_
  show jt jp_C_timeUpTo rF rL 0 [(0, .ref a), (1, .int ti)] [] (jx_us M [(a, (4, [.ref sq, .int dr, .int vl, .int nn])), (sq, (103, jx_vl 12 st))]) 0 0 (.inl (some (.int (g_C_timeUpTo ti dr vl nn st))), M, 0, 0)
  refine jt_sgp 1 (pc1 := 1) (lv1 := [(0, .ref a), (1, .int ti)]) (st1 := [.ref a]) rfl ?_
  refine jt_get rfl (jx_us_get (by exact hnd) (by exact hlt) 0 rfl) rfl ?_
  refine jt_sgp 1 (pc1 := 5) (lv1 := [(0, .ref a), (1, .int ti)]) (st1 := [.int 2, .ref sq]) rfl ?_
  refine jt_lald rfl (jx_us_get (by exact hnd) (by exact hlt) 1 rfl) (by unfold vp_in; decide) ?_
  refine jt_sgp 2 (pc1 := 10) (lv1 := [(0, .ref a), (1, .int ti)]) (st1 := [.int 3600, .int ti, .long (st (2 : Int32).toNatClampNeg)]) rfl ?_
  refine jt_idiv rfl (by decide +kernel) ?_
  refine jt_call (k := 110) (m2 := jp_C_highestBit) (As := [.long (st (2 : Int32).toNatClampNeg), .int (ti / 3600)]) (r := []) (mx := 5) rfl rfl rfl rfl rfl (by omega) (by omega) (Nat.le_of_ble_eq_true rfl) (q_C_highestBit (st (2 : Int32).toNatClampNeg) (ti / 3600) (jx_us M [(a, (4, [.ref sq, .int dr, .int vl, .int nn])), (sq, (103, jx_vl 12 st))])   _ _ (by omega) (by omega)) ?_
  show jt jp_C_timeUpTo rF rL 14 [(0, .ref a), (1, .int ti)] [.int (g_C_highestBit (st (2 : Int32).toNatClampNeg) (ti / 3600))] (jx_us M [(a, (4, [.ref sq, .int dr, .int vl, .int nn])), (sq, (103, jx_vl 12 st))]) 0 0 (.inl (some (.int (g_C_timeUpTo ti dr vl nn st))), M, 0, 0)
  obtain ⟨u11, eu11⟩ : ∃ z_ : Int32, z_ = (g_C_highestBit (st (2 : Int32).toNatClampNeg) (ti / 3600)) := ⟨_, rfl⟩
  rw [← eu11]
  refine jt_sgp 2 (pc1 := 16) (lv1 := [(2, .int u11), (0, .ref a), (1, .int ti)]) (st1 := [.ref a]) rfl ?_
  refine jt_get rfl (jx_us_get (by exact hnd) (by exact hlt) 0 rfl) rfl ?_
  refine jt_sgp 1 (pc1 := 20) (lv1 := [(2, .int u11), (0, .ref a), (1, .int ti)]) (st1 := [.int 1, .ref sq]) rfl ?_
  refine jt_lald rfl (jx_us_get (by exact hnd) (by exact hlt) 1 rfl) (by unfold vp_in; decide) ?_
  refine jt_sgp 3 (pc1 := 26) (lv1 := [(2, .int u11), (0, .ref a), (1, .int ti)]) (st1 := [.int 3600, .int ti, .int u11, .long (st (1 : Int32).toNatClampNeg)]) rfl ?_
  refine jt_idiv rfl (by decide +kernel) ?_
  have J42_2 : ∀ (v42 : Int32), v42 = (if u11 = (ti / 3600) then ((ti / 60) - (ti / 60) / 60 * 60) else 59 : Int32) → jt jp_C_timeUpTo rF rL 42 [(2, .int u11), (0, .ref a), (1, .int ti)] [.int v42, .long (st (1 : Int32).toNatClampNeg)] (jx_us M [(a, (4, [.ref sq, .int dr, .int vl, .int nn])), (sq, (103, jx_vl 12 st))]) 0 0 (.inl (some (.int (g_C_timeUpTo ti dr vl nn st))), M, 0, 0) := by
    intro v42 ev42
    refine jt_call (k := 110) (m2 := jp_C_highestBit) (As := [.long (st (1 : Int32).toNatClampNeg), .int v42]) (r := []) (mx := 5) rfl rfl rfl rfl rfl (by omega) (by omega) (Nat.le_of_ble_eq_true rfl) (q_C_highestBit (st (1 : Int32).toNatClampNeg) v42 (jx_us M [(a, (4, [.ref sq, .int dr, .int vl, .int nn])), (sq, (103, jx_vl 12 st))])   _ _ (by omega) (by omega)) ?_
    show jt jp_C_timeUpTo rF rL 45 [(2, .int u11), (0, .ref a), (1, .int ti)] [.int (g_C_highestBit (st (1 : Int32).toNatClampNeg) v42)] (jx_us M [(a, (4, [.ref sq, .int dr, .int vl, .int nn])), (sq, (103, jx_vl 12 st))]) 0 0 (.inl (some (.int (g_C_timeUpTo ti dr vl nn st))), M, 0, 0)
    obtain ⟨u42, eu42⟩ : ∃ z_ : Int32, z_ = (g_C_highestBit (st (1 : Int32).toNatClampNeg) v42) := ⟨_, rfl⟩
    rw [← eu42]
    refine jt_sgp 4 (pc1 := 51) (lv1 := [(3, .int u42), (2, .int u11), (0, .ref a), (1, .int ti)]) (st1 := [.int 3600, .int ti, .int u11]) rfl ?_
    refine jt_idiv rfl (by decide +kernel) ?_
    have J71_4 : ∀ (v71 : Int32), v71 = (if u11 = (ti / 3600) then (if u42 = ((ti / 60) - (ti / 60) / 60 * 60) then 1 else 0) else 0 : Int32) → jt jp_C_timeUpTo rF rL 71 [(3, .int u42), (2, .int u11), (0, .ref a), (1, .int ti)] [.int v71] (jx_us M [(a, (4, [.ref sq, .int dr, .int vl, .int nn])), (sq, (103, jx_vl 12 st))]) 0 0 (.inl (some (.int (g_C_timeUpTo ti dr vl nn st))), M, 0, 0) := by
      intro v71 ev71
      refine jt_sgp 2 (pc1 := 74) (lv1 := [(4, .int v71), (3, .int u42), (2, .int u11), (0, .ref a), (1, .int ti)]) (st1 := [.ref a]) rfl ?_
      refine jt_get rfl (jx_us_get (by exact hnd) (by exact hlt) 0 rfl) rfl ?_
      refine jt_sgp 1 (pc1 := 78) (lv1 := [(4, .int v71), (3, .int u42), (2, .int u11), (0, .ref a), (1, .int ti)]) (st1 := [.int 0, .ref sq]) rfl ?_
      refine jt_lald rfl (jx_us_get (by exact hnd) (by exact hlt) 1 rfl) (by unfold vp_in; decide) ?_
      refine jt_sgp 1 (pc1 := 81) (lv1 := [(4, .int v71), (3, .int u42), (2, .int u11), (0, .ref a), (1, .int ti)]) (st1 := [.int v71, .long (st (0 : Int32).toNatClampNeg)]) rfl ?_
      have J93_6 : ∀ (v93 : Int32), v93 = (if v71 = 0 then 59 else (ti - ti / 60 * 60) : Int32) → jt jp_C_timeUpTo rF rL 93 [(4, .int v71), (3, .int u42), (2, .int u11), (0, .ref a), (1, .int ti)] [.int v93, .long (st (0 : Int32).toNatClampNeg)] (jx_us M [(a, (4, [.ref sq, .int dr, .int vl, .int nn])), (sq, (103, jx_vl 12 st))]) 0 0 (.inl (some (.int (g_C_timeUpTo ti dr vl nn st))), M, 0, 0) := by
        intro v93 ev93
        refine jt_call (k := 110) (m2 := jp_C_highestBit) (As := [.long (st (0 : Int32).toNatClampNeg), .int v93]) (r := []) (mx := 5) rfl rfl rfl rfl rfl (by omega) (by omega) (Nat.le_of_ble_eq_true rfl) (q_C_highestBit (st (0 : Int32).toNatClampNeg) v93 (jx_us M [(a, (4, [.ref sq, .int dr, .int vl, .int nn])), (sq, (103, jx_vl 12 st))])   _ _ (by omega) (by omega)) ?_
        show jt jp_C_timeUpTo rF rL 96 [(4, .int v71), (3, .int u42), (2, .int u11), (0, .ref a), (1, .int ti)] [.int (g_C_highestBit (st (0 : Int32).toNatClampNeg) v93)] (jx_us M [(a, (4, [.ref sq, .int dr, .int vl, .int nn])), (sq, (103, jx_vl 12 st))]) 0 0 (.inl (some (.int (g_C_timeUpTo ti dr vl nn st))), M, 0, 0)
        obtain ⟨u93, eu93⟩ : ∃ z_ : Int32, z_ = (g_C_highestBit (st (0 : Int32).toNatClampNeg) v93) := ⟨_, rfl⟩
        rw [← eu93]
        refine jt_sgp 2 (pc1 := 100) (lv1 := [(5, .int u93), (4, .int v71), (3, .int u42), (2, .int u11), (0, .ref a), (1, .int ti)]) (st1 := [.int u93]) rfl ?_
        have J129_8 : ∀ (v129 : Int32) (v129_1 : Int32), v129 = (if 0 ≤ u93 then u42 else (g_C_highestBit (st (1 : Int32).toNatClampNeg) (u42 - 1)) : Int32) → v129_1 = (if 0 ≤ u93 then u93 else (g_C_highestBit (st (0 : Int32).toNatClampNeg) 59) : Int32) → jt jp_C_timeUpTo rF rL 129 [(0, .ref a), (1, .int ti), (2, .int u11), (3, .int v129), (4, .int v71), (5, .int v129_1)] [] (jx_us M [(a, (4, [.ref sq, .int dr, .int vl, .int nn])), (sq, (103, jx_vl 12 st))]) 0 0 (.inl (some (.int (g_C_timeUpTo ti dr vl nn st))), M, 0, 0) := by
          intro v129 v129_1 ev129 ev129_1
          refine jt_sgp 1 (pc1 := 130) (lv1 := [(0, .ref a), (1, .int ti), (2, .int u11), (3, .int v129), (4, .int v71), (5, .int v129_1)]) (st1 := [.int v129]) rfl ?_
          have J162_10 : ∀ (v162 : Int32) (v162_1 : Int32), v162 = (if 0 ≤ v129 then u11 else (g_C_highestBit (st (2 : Int32).toNatClampNeg) ((ti / 3600) - 1)) : Int32) → v162_1 = (if 0 ≤ v129 then v129 else (g_C_highestBit (st (1 : Int32).toNatClampNeg) 59) : Int32) → jt jp_C_timeUpTo rF rL 162 [(0, .ref a), (1, .int ti), (2, .int v162), (3, .int v162_1), (4, .int v71), (5, .int v129_1)] [] (jx_us M [(a, (4, [.ref sq, .int dr, .int vl, .int nn])), (sq, (103, jx_vl 12 st))]) 0 0 (.inl (some (.int (g_C_timeUpTo ti dr vl nn st))), M, 0, 0) := by
            intro v162 v162_1 ev162 ev162_1
            refine jt_sgp 1 (pc1 := 163) (lv1 := [(0, .ref a), (1, .int ti), (2, .int v162), (3, .int v162_1), (4, .int v71), (5, .int v129_1)]) (st1 := [.int v162]) rfl ?_
            have J183_12 : ∀ (v183 : Int32), v183 = (if 0 ≤ v162 then (((v162 * 3600) + (v162_1 * 60)) + v129_1) else (-1) : Int32) → jt jp_C_timeUpTo rF rL 183 [(0, .ref a), (1, .int ti), (2, .int v162), (3, .int v162_1), (4, .int v71), (5, .int v129_1)] [.int v183] (jx_us M [(a, (4, [.ref sq, .int dr, .int vl, .int nn])), (sq, (103, jx_vl 12 st))]) 0 0 (.inl (some (.int (g_C_timeUpTo ti dr vl nn st))), M, 0, 0) := by
              intro v183 ev183
              exact jt_iret rfl rfl rfl (jx_oe (by show (some (Value.int _) : Option Value) = some (Value.int _); unfold g_C_timeUpTo; subst ev183; subst ev162_1; subst ev162; subst ev129_1; subst ev129; subst eu93; subst ev93; subst ev71; subst eu42; subst ev42; subst eu11; rfl) (jx_us_id hL))
            refine jt_if_ge (t := 170) rfl rfl (fun c11 => ?_) (fun c11 => ?_)
            · refine jt_sgp 9 (pc1 := 183) (lv1 := [(0, .ref a), (1, .int ti), (2, .int v162), (3, .int v162_1), (4, .int v71), (5, .int v129_1)]) (st1 := [.int (((v162 * 3600) + (v162_1 * 60)) + v129_1)]) rfl ?_
              exact J183_12 _ (by first | (simp only [if_pos c11, reduceIte]; done) | (with_reducible rfl))
            · refine jt_sgp 2 (pc1 := 183) (lv1 := [(0, .ref a), (1, .int ti), (2, .int v162), (3, .int v162_1), (4, .int v71), (5, .int v129_1)]) (st1 := [.int (-1)]) rfl ?_
              exact J183_12 _ (by first | (simp only [if_neg c11, reduceIte]; done) | (with_reducible rfl))
          refine jt_if_ge (t := 162) rfl rfl (fun c9 => ?_) (fun c9 => ?_)
          · refine jt_lvs (l1 := [(0, .ref a), (1, .int ti), (2, .int u11), (3, .int v129), (4, .int v71), (5, .int v129_1)]) rfl rfl ⟨rfl, rfl, rfl, rfl, rfl, rfl, trivial⟩ ?_
            exact J162_10 _ _ (by first | (simp only [if_pos c9, reduceIte]; done) | (with_reducible rfl)) (by first | (simp only [if_pos c9, reduceIte]; done) | (with_reducible rfl))
          · refine jt_sgp 1 (pc1 := 134) (lv1 := [(0, .ref a), (1, .int ti), (2, .int u11), (3, .int v129), (4, .int v71), (5, .int v129_1)]) (st1 := [.ref a]) rfl ?_
            refine jt_get rfl (jx_us_get (by exact hnd) (by exact hlt) 0 rfl) rfl ?_
            refine jt_sgp 1 (pc1 := 138) (lv1 := [(0, .ref a), (1, .int ti), (2, .int u11), (3, .int v129), (4, .int v71), (5, .int v129_1)]) (st1 := [.int 2, .ref sq]) rfl ?_
            refine jt_lald rfl (jx_us_get (by exact hnd) (by exact hlt) 1 rfl) (by unfold vp_in; decide) ?_
            refine jt_sgp 2 (pc1 := 143) (lv1 := [(0, .ref a), (1, .int ti), (2, .int u11), (3, .int v129), (4, .int v71), (5, .int v129_1)]) (st1 := [.int 3600, .int ti, .long (st (2 : Int32).toNatClampNeg)]) rfl ?_
            refine jt_idiv rfl (by decide +kernel) ?_
            refine jt_sgp 2 (pc1 := 146) (lv1 := [(0, .ref a), (1, .int ti), (2, .int u11), (3, .int v129), (4, .int v71), (5, .int v129_1)]) (st1 := [.int ((ti / 3600) - 1), .long (st (2 : Int32).toNatClampNeg)]) rfl ?_
            refine jt_call (k := 110) (m2 := jp_C_highestBit) (As := [.long (st (2 : Int32).toNatClampNeg), .int ((ti / 3600) - 1)]) (r := []) (mx := 5) rfl rfl rfl rfl rfl (by omega) (by omega) (Nat.le_of_ble_eq_true rfl) (q_C_highestBit (st (2 : Int32).toNatClampNeg) ((ti / 3600) - 1) (jx_us M [(a, (4, [.ref sq, .int dr, .int vl, .int nn])), (sq, (103, jx_vl 12 st))])   _ _ (by omega) (by omega)) ?_
            show jt jp_C_timeUpTo rF rL 149 [(0, .ref a), (1, .int ti), (2, .int u11), (3, .int v129), (4, .int v71), (5, .int v129_1)] [.int (g_C_highestBit (st (2 : Int32).toNatClampNeg) ((ti / 3600) - 1))] (jx_us M [(a, (4, [.ref sq, .int dr, .int vl, .int nn])), (sq, (103, jx_vl 12 st))]) 0 0 (.inl (some (.int (g_C_timeUpTo ti dr vl nn st))), M, 0, 0)
            refine jt_sgp 2 (pc1 := 151) (lv1 := [(2, .int (g_C_highestBit (st (2 : Int32).toNatClampNeg) ((ti / 3600) - 1))), (0, .ref a), (1, .int ti), (3, .int v129), (4, .int v71), (5, .int v129_1)]) (st1 := [.ref a]) rfl ?_
            refine jt_get rfl (jx_us_get (by exact hnd) (by exact hlt) 0 rfl) rfl ?_
            refine jt_sgp 1 (pc1 := 155) (lv1 := [(2, .int (g_C_highestBit (st (2 : Int32).toNatClampNeg) ((ti / 3600) - 1))), (0, .ref a), (1, .int ti), (3, .int v129), (4, .int v71), (5, .int v129_1)]) (st1 := [.int 1, .ref sq]) rfl ?_
            refine jt_lald rfl (jx_us_get (by exact hnd) (by exact hlt) 1 rfl) (by unfold vp_in; decide) ?_
            refine jt_sgp 1 (pc1 := 158) (lv1 := [(2, .int (g_C_highestBit (st (2 : Int32).toNatClampNeg) ((ti / 3600) - 1))), (0, .ref a), (1, .int ti), (3, .int v129), (4, .int v71), (5, .int v129_1)]) (st1 := [.int 59, .long (st (1 : Int32).toNatClampNeg)]) rfl ?_
            refine jt_call (k := 110) (m2 := jp_C_highestBit) (As := [.long (st (1 : Int32).toNatClampNeg), .int 59]) (r := []) (mx := 5) rfl rfl rfl rfl rfl (by omega) (by omega) (Nat.le_of_ble_eq_true rfl) (q_C_highestBit (st (1 : Int32).toNatClampNeg) 59 (jx_us M [(a, (4, [.ref sq, .int dr, .int vl, .int nn])), (sq, (103, jx_vl 12 st))])   _ _ (by omega) (by omega)) ?_
            show jt jp_C_timeUpTo rF rL 161 [(2, .int (g_C_highestBit (st (2 : Int32).toNatClampNeg) ((ti / 3600) - 1))), (0, .ref a), (1, .int ti), (3, .int v129), (4, .int v71), (5, .int v129_1)] [.int (g_C_highestBit (st (1 : Int32).toNatClampNeg) 59)] (jx_us M [(a, (4, [.ref sq, .int dr, .int vl, .int nn])), (sq, (103, jx_vl 12 st))]) 0 0 (.inl (some (.int (g_C_timeUpTo ti dr vl nn st))), M, 0, 0)
            refine jt_sgp 1 (pc1 := 162) (lv1 := [(3, .int (g_C_highestBit (st (1 : Int32).toNatClampNeg) 59)), (2, .int (g_C_highestBit (st (2 : Int32).toNatClampNeg) ((ti / 3600) - 1))), (0, .ref a), (1, .int ti), (4, .int v71), (5, .int v129_1)]) (st1 := []) rfl ?_
            refine jt_lvs (l1 := [(0, .ref a), (1, .int ti), (2, .int (g_C_highestBit (st (2 : Int32).toNatClampNeg) ((ti / 3600) - 1))), (3, .int (g_C_highestBit (st (1 : Int32).toNatClampNeg) 59)), (4, .int v71), (5, .int v129_1)]) rfl rfl ⟨rfl, rfl, rfl, rfl, rfl, rfl, trivial⟩ ?_
            exact J162_10 _ _ (by first | (simp only [if_neg c9, reduceIte]; done) | (with_reducible rfl)) (by first | (simp only [if_neg c9, reduceIte]; done) | (with_reducible rfl))
        refine jt_if_ge (t := 129) rfl rfl (fun c7 => ?_) (fun c7 => ?_)
        · refine jt_lvs (l1 := [(0, .ref a), (1, .int ti), (2, .int u11), (3, .int u42), (4, .int v71), (5, .int u93)]) rfl rfl ⟨rfl, rfl, rfl, rfl, rfl, rfl, trivial⟩ ?_
          exact J129_8 _ _ (by first | (simp only [if_pos c7, reduceIte]; done) | (with_reducible rfl)) (by first | (simp only [if_pos c7, reduceIte]; done) | (with_reducible rfl))
        · refine jt_sgp 1 (pc1 := 104) (lv1 := [(5, .int u93), (4, .int v71), (3, .int u42), (2, .int u11), (0, .ref a), (1, .int ti)]) (st1 := [.ref a]) rfl ?_
          refine jt_get rfl (jx_us_get (by exact hnd) (by exact hlt) 0 rfl) rfl ?_
          refine jt_sgp 1 (pc1 := 108) (lv1 := [(5, .int u93), (4, .int v71), (3, .int u42), (2, .int u11), (0, .ref a), (1, .int ti)]) (st1 := [.int 1, .ref sq]) rfl ?_
          refine jt_lald rfl (jx_us_get (by exact hnd) (by exact hlt) 1 rfl) (by unfold vp_in; decide) ?_
          refine jt_sgp 3 (pc1 := 112) (lv1 := [(5, .int u93), (4, .int v71), (3, .int u42), (2, .int u11), (0, .ref a), (1, .int ti)]) (st1 := [.int (u42 - 1), .long (st (1 : Int32).toNatClampNeg)]) rfl ?_
          refine jt_call (k := 110) (m2 := jp_C_highestBit) (As := [.long (st (1 : Int32).toNatClampNeg), .int (u42 - 1)]) (r := []) (mx := 5) rfl rfl rfl rfl rfl (by omega) (by omega) (Nat.le_of_ble_eq_true rfl) (q_C_highestBit (st (1 : Int32).toNatClampNeg) (u42 - 1) (jx_us M [(a, (4, [.ref sq, .int dr, .int vl, .int nn])), (sq, (103, jx_vl 12 st))])   _ _ (by omega) (by omega)) ?_
          show jt jp_C_timeUpTo rF rL 115 [(5, .int u93), (4, .int v71), (3, .int u42), (2, .int u11), (0, .ref a), (1, .int ti)] [.int (g_C_highestBit (st (1 : Int32).toNatClampNeg) (u42 - 1))] (jx_us M [(a, (4, [.ref sq, .int dr, .int vl, .int nn])), (sq, (103, jx_vl 12 st))]) 0 0 (.inl (some (.int (g_C_timeUpTo ti dr vl nn st))), M, 0, 0)
          refine jt_sgp 2 (pc1 := 117) (lv1 := [(3, .int (g_C_highestBit (st (1 : Int32).toNatClampNeg) (u42 - 1))), (5, .int u93), (4, .int v71), (2, .int u11), (0, .ref a), (1, .int ti)]) (st1 := [.ref a]) rfl ?_
          refine jt_get rfl (jx_us_get (by exact hnd) (by exact hlt) 0 rfl) rfl ?_
          refine jt_sgp 1 (pc1 := 121) (lv1 := [(3, .int (g_C_highestBit (st (1 : Int32).toNatClampNeg) (u42 - 1))), (5, .int u93), (4, .int v71), (2, .int u11), (0, .ref a), (1, .int ti)]) (st1 := [.int 0, .ref sq]) rfl ?_
          refine jt_lald rfl (jx_us_get (by exact hnd) (by exact hlt) 1 rfl) (by unfold vp_in; decide) ?_
          refine jt_sgp 1 (pc1 := 124) (lv1 := [(3, .int (g_C_highestBit (st (1 : Int32).toNatClampNeg) (u42 - 1))), (5, .int u93), (4, .int v71), (2, .int u11), (0, .ref a), (1, .int ti)]) (st1 := [.int 59, .long (st (0 : Int32).toNatClampNeg)]) rfl ?_
          refine jt_call (k := 110) (m2 := jp_C_highestBit) (As := [.long (st (0 : Int32).toNatClampNeg), .int 59]) (r := []) (mx := 5) rfl rfl rfl rfl rfl (by omega) (by omega) (Nat.le_of_ble_eq_true rfl) (q_C_highestBit (st (0 : Int32).toNatClampNeg) 59 (jx_us M [(a, (4, [.ref sq, .int dr, .int vl, .int nn])), (sq, (103, jx_vl 12 st))])   _ _ (by omega) (by omega)) ?_
          show jt jp_C_timeUpTo rF rL 127 [(3, .int (g_C_highestBit (st (1 : Int32).toNatClampNeg) (u42 - 1))), (5, .int u93), (4, .int v71), (2, .int u11), (0, .ref a), (1, .int ti)] [.int (g_C_highestBit (st (0 : Int32).toNatClampNeg) 59)] (jx_us M [(a, (4, [.ref sq, .int dr, .int vl, .int nn])), (sq, (103, jx_vl 12 st))]) 0 0 (.inl (some (.int (g_C_timeUpTo ti dr vl nn st))), M, 0, 0)
          refine jt_sgp 1 (pc1 := 129) (lv1 := [(5, .int (g_C_highestBit (st (0 : Int32).toNatClampNeg) 59)), (3, .int (g_C_highestBit (st (1 : Int32).toNatClampNeg) (u42 - 1))), (4, .int v71), (2, .int u11), (0, .ref a), (1, .int ti)]) (st1 := []) rfl ?_
          refine jt_lvs (l1 := [(0, .ref a), (1, .int ti), (2, .int u11), (3, .int (g_C_highestBit (st (1 : Int32).toNatClampNeg) (u42 - 1))), (4, .int v71), (5, .int (g_C_highestBit (st (0 : Int32).toNatClampNeg) 59))]) rfl rfl ⟨rfl, rfl, rfl, rfl, rfl, rfl, trivial⟩ ?_
          exact J129_8 _ _ (by first | (simp only [if_neg c7, reduceIte]; done) | (with_reducible rfl)) (by first | (simp only [if_neg c7, reduceIte]; done) | (with_reducible rfl))
      refine jt_if_eq (t := 91) rfl rfl (fun c5 => ?_) (fun c5 => ?_)
      · refine jt_sgp 1 (pc1 := 93) (lv1 := [(4, .int v71), (3, .int u42), (2, .int u11), (0, .ref a), (1, .int ti)]) (st1 := [.int 59, .long (st (0 : Int32).toNatClampNeg)]) rfl ?_
        exact J93_6 _ (by first | (simp only [if_pos c5, reduceIte]; done) | (with_reducible rfl))
      · refine jt_sgp 2 (pc1 := 87) (lv1 := [(4, .int v71), (3, .int u42), (2, .int u11), (0, .ref a), (1, .int ti)]) (st1 := [.int 60, .int ti, .long (st (0 : Int32).toNatClampNeg)]) rfl ?_
        refine jt_irem rfl (by decide +kernel) ?_
        refine jt_sgp 1 (pc1 := 93) (lv1 := [(4, .int v71), (3, .int u42), (2, .int u11), (0, .ref a), (1, .int ti)]) (st1 := [.int (ti - ti / 60 * 60), .long (st (0 : Int32).toNatClampNeg)]) rfl ?_
        exact J93_6 _ (by first | (simp only [if_neg c5, reduceIte]; done) | (with_reducible rfl))
    refine jt_icmp_ne (t := 70) rfl rfl (fun c3 => ?_) (fun c3 => ?_)
    · refine jt_sgp 1 (pc1 := 71) (lv1 := [(3, .int u42), (2, .int u11), (0, .ref a), (1, .int ti)]) (st1 := [.int 0]) rfl ?_
      exact J71_4 _ (by first | (simp only [if_neg c3, reduceIte]; done) | (with_reducible rfl))
    · refine jt_sgp 3 (pc1 := 59) (lv1 := [(3, .int u42), (2, .int u11), (0, .ref a), (1, .int ti)]) (st1 := [.int 60, .int ti, .int u42]) rfl ?_
      refine jt_idiv rfl (by decide +kernel) ?_
      refine jt_sgp 1 (pc1 := 62) (lv1 := [(3, .int u42), (2, .int u11), (0, .ref a), (1, .int ti)]) (st1 := [.int 60, .int (ti / 60), .int u42]) rfl ?_
      refine jt_irem rfl (by decide +kernel) ?_
      refine jt_icmp_ne (t := 70) rfl rfl (fun c13 => ?_) (fun c13 => ?_)
      · refine jt_sgp 1 (pc1 := 71) (lv1 := [(3, .int u42), (2, .int u11), (0, .ref a), (1, .int ti)]) (st1 := [.int 0]) rfl ?_
        exact J71_4 _ (by first | (simp only [if_pos c3, if_neg c13, reduceIte]; done) | (with_reducible rfl))
      · refine jt_sgp 2 (pc1 := 71) (lv1 := [(3, .int u42), (2, .int u11), (0, .ref a), (1, .int ti)]) (st1 := [.int 1]) rfl ?_
        exact J71_4 _ (by first | (simp only [if_pos c3, if_pos c13, reduceIte]; done) | (with_reducible rfl))
  refine jt_icmp_ne (t := 40) rfl rfl (fun c1 => ?_) (fun c1 => ?_)
  · refine jt_sgp 1 (pc1 := 42) (lv1 := [(2, .int u11), (0, .ref a), (1, .int ti)]) (st1 := [.int 59, .long (st (1 : Int32).toNatClampNeg)]) rfl ?_
    exact J42_2 _ (by first | (simp only [if_neg c1, reduceIte]; done) | (with_reducible rfl))
  · refine jt_sgp 2 (pc1 := 33) (lv1 := [(2, .int u11), (0, .ref a), (1, .int ti)]) (st1 := [.int 60, .int ti, .long (st (1 : Int32).toNatClampNeg)]) rfl ?_
    refine jt_idiv rfl (by decide +kernel) ?_
    refine jt_sgp 1 (pc1 := 36) (lv1 := [(2, .int u11), (0, .ref a), (1, .int ti)]) (st1 := [.int 60, .int (ti / 60), .long (st (1 : Int32).toNatClampNeg)]) rfl ?_
    refine jt_irem rfl (by decide +kernel) ?_
    refine jt_sgp 1 (pc1 := 42) (lv1 := [(2, .int u11), (0, .ref a), (1, .int ti)]) (st1 := [.int ((ti / 60) - (ti / 60) / 60 * 60), .long (st (1 : Int32).toNatClampNeg)]) rfl ?_
    exact J42_2 _ (by first | (simp only [if_pos c1, reduceIte]; done) | (with_reducible rfl))
