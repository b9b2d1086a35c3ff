def g_Math_min (x : Int32) (y : Int32) : Int32 :=
  let v10 : Int32 := if y < x then y else x
  v10
set_option maxRecDepth 20000 in
set_option maxHeartbeats 4000000 in
theorem q_Math_min (x : Int32) (y : Int32) (M : jx_H)    (rF rL : Nat) (hfr : 0 ≤ rF) (hlo : 0 ≤ rL) : jt jp_Math_min rF rL 0 [(0, .int x), (1, .int y)] [] M 0 0 (.inl (some (.int (g_Math_min x y))), M, 0, 0) := by
  refine jt_sgp 2 (pc1 := 2) (lv1 := [(0, .int x), (1, .int y)]) (st1 := [.int y, .int x]) rfl ?_
  have J10_2 : ∀ (v10 : Int32), v10 = (if y < x then y else x : Int32) → jt jp_Math_min rF rL 10 [(0, .int x), (1, .int y)] [.int v10] (M) 0 0 (.inl (some (.int (g_Math_min x y))), M, 0, 0) := by
    intro v10 ev10
    exact jt_iret rfl rfl rfl (jx_oe (by show (some (Value.int _) : Option Value) = some (Value.int _); unfold g_Math_min; subst ev10; rfl) rfl)
  refine jt_icmp_gt (t := 9) rfl rfl (fun c1 => ?_) (fun c1 => ?_)
  · refine jt_sgp 1 (pc1 := 10) (lv1 := [(0, .int x), (1, .int y)]) (st1 := [.int y]) rfl ?_
    exact J10_2 _ (by first | (simp only [if_pos c1, reduceIte]; done) | (with_reducible rfl))
  · refine jt_sgp 2 (pc1 := 10) (lv1 := [(0, .int x), (1, .int y)]) (st1 := [.int x]) rfl ?_
    exact J10_2 _ (by first | (simp only [if_neg c1, reduceIte]; done) | (with_reducible rfl))
def g_Math_max (x : Int32) (y : Int32) : Int32 :=
  let v10 : Int32 := if x < y then y else x
  v10
set_option maxRecDepth 20000 in
set_option maxHeartbeats 4000000 in
theorem q_Math_max (x : Int32) (y : Int32) (M : jx_H)    (rF rL : Nat) (hfr : 0 ≤ rF) (hlo : 0 ≤ rL) : jt jp_Math_max rF rL 0 [(0, .int x), (1, .int y)] [] M 0 0 (.inl (some (.int (g_Math_max x y))), M, 0, 0) := by
  refine jt_sgp 2 (pc1 := 2) (lv1 := [(0, .int x), (1, .int y)]) (st1 := [.int y, .int x]) rfl ?_
  have J10_2 : ∀ (v10 : Int32), v10 = (if x < y then y else x : Int32) → jt jp_Math_max rF rL 10 [(0, .int x), (1, .int y)] [.int v10] (M) 0 0 (.inl (some (.int (g_Math_max x y))), M, 0, 0) := by
    intro v10 ev10
    exact jt_iret rfl rfl rfl (jx_oe (by show (some (Value.int _) : Option Value) = some (Value.int _); unfold g_Math_max; subst ev10; rfl) rfl)
  refine jt_icmp_lt (t := 9) rfl rfl (fun c1 => ?_) (fun c1 => ?_)
  · refine jt_sgp 1 (pc1 := 10) (lv1 := [(0, .int x), (1, .int y)]) (st1 := [.int y]) rfl ?_
    exact J10_2 _ (by first | (simp only [if_pos c1, reduceIte]; done) | (with_reducible rfl))
  · refine jt_sgp 2 (pc1 := 10) (lv1 := [(0, .int x), (1, .int y)]) (st1 := [.int x]) rfl ?_
    exact J10_2 _ (by first | (simp only [if_neg c1, reduceIte]; done) | (with_reducible rfl))
def g_Math_min2 (x : Int64) (y : Int64) : Int64 :=
  let v11 : Int64 := if y < x then y else x
  v11
set_option maxRecDepth 20000 in
set_option maxHeartbeats 4000000 in
theorem q_Math_min2 (x : Int64) (y : Int64) (M : jx_H)    (rF rL : Nat) (hfr : 0 ≤ rF) (hlo : 0 ≤ rL) : jt jp_Math_min2 rF rL 0 [(0, .long x), (2, .long y)] [] M 0 0 (.inl (some (.long (g_Math_min2 x y))), M, 0, 0) := by
  refine jt_sgp 3 (pc1 := 3) (lv1 := [(0, .long x), (2, .long y)]) (st1 := [.int (lg_cmp x y)]) rfl ?_
  have J11_2 : ∀ (v11 : Int64), v11 = (if y < x then y else x : Int64) → jt jp_Math_min2 rF rL 11 [(0, .long x), (2, .long y)] [.long v11] (M) 0 0 (.inl (some (.long (g_Math_min2 x y))), M, 0, 0) := by
    intro v11 ev11
    exact jt_lret rfl rfl (jx_oe (by show (some (Value.long _) : Option Value) = some (Value.long _); unfold g_Math_min2; subst ev11; rfl) rfl)
  refine jt_lif_gt (t := 10) rfl rfl (fun c1 => ?_) (fun c1 => ?_)
  · refine jt_sgp 1 (pc1 := 11) (lv1 := [(0, .long x), (2, .long y)]) (st1 := [.long y]) rfl ?_
    exact J11_2 _ (by first | (simp only [if_pos c1, reduceIte]; done) | (with_reducible rfl))
  · refine jt_sgp 2 (pc1 := 11) (lv1 := [(0, .long x), (2, .long y)]) (st1 := [.long x]) rfl ?_
    exact J11_2 _ (by first | (simp only [if_neg c1, reduceIte]; done) | (with_reducible rfl))
def g_Math_max2 (x : Int64) (y : Int64) : Int64 :=
  let v11 : Int64 := if x < y then y else x
  v11
set_option maxRecDepth 20000 in
set_option maxHeartbeats 4000000 in
theorem q_Math_max2 (x : Int64) (y : Int64) (M : jx_H)    (rF rL : Nat) (hfr : 0 ≤ rF) (hlo : 0 ≤ rL) : jt jp_Math_max2 rF rL 0 [(0, .long x), (2, .long y)] [] M 0 0 (.inl (some (.long (g_Math_max2 x y))), M, 0, 0) := by
  refine jt_sgp 3 (pc1 := 3) (lv1 := [(0, .long x), (2, .long y)]) (st1 := [.int (lg_cmp x y)]) rfl ?_
  have J11_2 : ∀ (v11 : Int64), v11 = (if x < y then y else x : Int64) → jt jp_Math_max2 rF rL 11 [(0, .long x), (2, .long y)] [.long v11] (M) 0 0 (.inl (some (.long (g_Math_max2 x y))), M, 0, 0) := by
    intro v11 ev11
    exact jt_lret rfl rfl (jx_oe (by show (some (Value.long _) : Option Value) = some (Value.long _); unfold g_Math_max2; subst ev11; rfl) rfl)
  refine jt_lif_lt (t := 10) rfl rfl (fun c1 => ?_) (fun c1 => ?_)
  · refine jt_sgp 1 (pc1 := 11) (lv1 := [(0, .long x), (2, .long y)]) (st1 := [.long y]) rfl ?_
    exact J11_2 _ (by first | (simp only [if_pos c1, reduceIte]; done) | (with_reducible rfl))
  · refine jt_sgp 2 (pc1 := 11) (lv1 := [(0, .long x), (2, .long y)]) (st1 := [.long x]) rfl ?_
    exact J11_2 _ (by first | (simp only [if_neg c1, reduceIte]; done) | (with_reducible rfl))
def g_Math_floorDiv (x : Int32) (y : Int32) : Int32 :=
  if 0 ≤ (x ^^^ y) then (x / y) else (if ((x / y) * y) = x then (x / y) else ((x / y) - 1))
set_option maxRecDepth 20000 in
set_option maxHeartbeats 4000000 in
theorem q_Math_floorDiv (x : Int32) (y : Int32) (M : jx_H)   (p0 : ¬ y = 0) (rF rL : Nat) (hfr : 0 ≤ rF) (hlo : 0 ≤ rL) : jt jp_Math_floorDiv rF rL 0 [(0, .int x), (1, .int y)] [] M 0 0 (.inl (some (.int (g_Math_floorDiv x y))), M, 0, 0) := by
  refine jt_sgp 2 (pc1 := 2) (lv1 := [(0, .int x), (1, .int y)]) (st1 := [.int y, .int x]) rfl ?_
  refine jt_idiv rfl (by with_reducible assumption) ?_
  refine jt_sgp 4 (pc1 := 7) (lv1 := [(2, .int (x / y)), (0, .int x), (1, .int y)]) (st1 := [.int (x ^^^ y)]) rfl ?_
  refine jt_if_ge (t := 21) rfl rfl (fun c1 => ?_) (fun c1 => ?_)
  · refine jt_sgp 1 (pc1 := 22) (lv1 := [(2, .int (x / y)), (0, .int x), (1, .int y)]) (st1 := [.int (x / y)]) rfl ?_
    exact jt_iret rfl rfl rfl (jx_oe (by show (some (Value.int _) : Option Value) = some (Value.int _); unfold g_Math_floorDiv; first | (simp only [if_pos c1, reduceIte]; done) | (simp only [if_pos c1, reduceIte]; rfl) | rfl) rfl)
  · refine jt_sgp 4 (pc1 := 14) (lv1 := [(2, .int (x / y)), (0, .int x), (1, .int y)]) (st1 := [.int x, .int ((x / y) * y)]) rfl ?_
    refine jt_icmp_eq (t := 21) rfl rfl (fun c2 => ?_) (fun c2 => ?_)
    · refine jt_sgp 1 (pc1 := 22) (lv1 := [(2, .int (x / y)), (0, .int x), (1, .int y)]) (st1 := [.int (x / y)]) rfl ?_
      exact jt_iret rfl rfl rfl (jx_oe (by show (some (Value.int _) : Option Value) = some (Value.int _); unfold g_Math_floorDiv; first | (simp only [if_neg c1, if_pos c2, reduceIte]; done) | (simp only [if_neg c1, if_pos c2, reduceIte]; rfl) | rfl) rfl)
    · refine jt_sgp 3 (pc1 := 20) (lv1 := [(2, .int (x / y)), (0, .int x), (1, .int y)]) (st1 := [.int ((x / y) - 1)]) rfl ?_
      exact jt_iret rfl rfl rfl (jx_oe (by show (some (Value.int _) : Option Value) = some (Value.int _); unfold g_Math_floorDiv; first | (simp only [if_neg c1, if_neg c2, reduceIte]; done) | (simp only [if_neg c1, if_neg c2, reduceIte]; rfl) | rfl) rfl)
def g_Math_floorMod (x : Int32) (y : Int32) : Int32 :=
  if 0 ≤ (x ^^^ y) then (x - x / y * y) else (if (x - x / y * y) = 0 then (x - x / y * y) else ((x - x / y * y) + y))
set_option maxRecDepth 20000 in
set_option maxHeartbeats 4000000 in
theorem q_Math_floorMod (x : Int32) (y : Int32) (M : jx_H)   (p0 : ¬ y = 0) (rF rL : Nat) (hfr : 0 ≤ rF) (hlo : 0 ≤ rL) : jt jp_Math_floorMod rF rL 0 [(0, .int x), (1, .int y)] [] M 0 0 (.inl (some (.int (g_Math_floorMod x y))), M, 0, 0) := by
  refine jt_sgp 2 (pc1 := 2) (lv1 := [(0, .int x), (1, .int y)]) (st1 := [.int y, .int x]) rfl ?_
  refine jt_irem rfl (by with_reducible assumption) ?_
  refine jt_sgp 4 (pc1 := 7) (lv1 := [(2, .int (x - x / y * y)), (0, .int x), (1, .int y)]) (st1 := [.int (x ^^^ y)]) rfl ?_
  refine jt_if_ge (t := 18) rfl rfl (fun c1 => ?_) (fun c1 => ?_)
  · refine jt_sgp 1 (pc1 := 19) (lv1 := [(2, .int (x - x / y * y)), (0, .int x), (1, .int y)]) (st1 := [.int (x - x / y * y)]) rfl ?_
    exact jt_iret rfl rfl rfl (jx_oe (by show (some (Value.int _) : Option Value) = some (Value.int _); unfold g_Math_floorMod; first | (simp only [if_pos c1, reduceIte]; done) | (simp only [if_pos c1, reduceIte]; rfl) | rfl) rfl)
  · refine jt_sgp 1 (pc1 := 11) (lv1 := [(2, .int (x - x / y * y)), (0, .int x), (1, .int y)]) (st1 := [.int (x - x / y * y)]) rfl ?_
    refine jt_if_eq (t := 18) rfl rfl (fun c2 => ?_) (fun c2 => ?_)
    · refine jt_sgp 1 (pc1 := 19) (lv1 := [(2, .int (x - x / y * y)), (0, .int x), (1, .int y)]) (st1 := [.int (x - x / y * y)]) rfl ?_
      exact jt_iret rfl rfl rfl (jx_oe (by show (some (Value.int _) : Option Value) = some (Value.int _); unfold g_Math_floorMod; first | (simp only [if_neg c1, if_pos c2, reduceIte]; done) | (simp only [if_neg c1, if_pos c2, reduceIte]; rfl) | rfl) rfl)
    · refine jt_sgp 3 (pc1 := 17) (lv1 := [(2, .int (x - x / y * y)), (0, .int x), (1, .int y)]) (st1 := [.int ((x - x / y * y) + y)]) rfl ?_
      exact jt_iret rfl rfl rfl (jx_oe (by show (some (Value.int _) : Option Value) = some (Value.int _); unfold g_Math_floorMod; first | (simp only [if_neg c1, if_neg c2, reduceIte]; done) | (simp only [if_neg c1, if_neg c2, reduceIte]; rfl) | rfl) rfl)
def g_Math_floorDiv2 (x : Int64) (y : Int64) : Int64 :=
  if ((0 : Int64)) ≤ (x ^^^ y) then (x / y) else (if ((x / y) * y) = x then (x / y) else ((x / y) - 1))
set_option maxRecDepth 20000 in
set_option maxHeartbeats 4000000 in
theorem q_Math_floorDiv2 (x : Int64) (y : Int64) (M : jx_H)   (p0 : ¬ y = 0) (rF rL : Nat) (hfr : 0 ≤ rF) (hlo : 0 ≤ rL) : jt jp_Math_floorDiv2 rF rL 0 [(0, .long x), (2, .long y)] [] M 0 0 (.inl (some (.long (g_Math_floorDiv2 x y))), M, 0, 0) := by
  refine jt_sgp 2 (pc1 := 2) (lv1 := [(0, .long x), (2, .long y)]) (st1 := [.long y, .long x]) rfl ?_
  refine jt_ldiv rfl (by with_reducible assumption) ?_
  refine jt_sgp 6 (pc1 := 10) (lv1 := [(4, .long (x / y)), (0, .long x), (2, .long y)]) (st1 := [.int (lg_cmp (x ^^^ y) 0)]) rfl ?_
  refine jt_lif_ge (t := 27) rfl rfl (fun c1 => ?_) (fun c1 => ?_)
  · refine jt_sgp 1 (pc1 := 29) (lv1 := [(4, .long (x / y)), (0, .long x), (2, .long y)]) (st1 := [.long (x / y)]) rfl ?_
    exact jt_lret rfl rfl (jx_oe (by show (some (Value.long _) : Option Value) = some (Value.long _); unfold g_Math_floorDiv2; first | (simp only [if_pos c1, reduceIte]; done) | (simp only [if_pos c1, reduceIte]; rfl) | rfl) rfl)
  · refine jt_sgp 5 (pc1 := 19) (lv1 := [(4, .long (x / y)), (0, .long x), (2, .long y)]) (st1 := [.int (lg_cmp ((x / y) * y) x)]) rfl ?_
    refine jt_lif_eq (t := 27) rfl rfl (fun c2 => ?_) (fun c2 => ?_)
    · refine jt_sgp 1 (pc1 := 29) (lv1 := [(4, .long (x / y)), (0, .long x), (2, .long y)]) (st1 := [.long (x / y)]) rfl ?_
      exact jt_lret rfl rfl (jx_oe (by show (some (Value.long _) : Option Value) = some (Value.long _); unfold g_Math_floorDiv2; first | (simp only [if_neg c1, if_pos c2, reduceIte]; done) | (simp only [if_neg c1, if_pos c2, reduceIte]; rfl) | rfl) rfl)
    · refine jt_sgp 3 (pc1 := 26) (lv1 := [(4, .long (x / y)), (0, .long x), (2, .long y)]) (st1 := [.long ((x / y) - 1)]) rfl ?_
      exact jt_lret rfl rfl (jx_oe (by show (some (Value.long _) : Option Value) = some (Value.long _); unfold g_Math_floorDiv2; first | (simp only [if_neg c1, if_neg c2, reduceIte]; done) | (simp only [if_neg c1, if_neg c2, reduceIte]; rfl) | rfl) rfl)
def g_Math_floorMod2 (x : Int64) (y : Int64) : Int64 :=
  if ((0 : Int64)) ≤ (x ^^^ y) then (x - x / y * y) else (if (x - x / y * y) = 0 then (x - x / y * y) else ((x - x / y * y) + y))
set_option maxRecDepth 20000 in
set_option maxHeartbeats 4000000 in
theorem q_Math_floorMod2 (x : Int64) (y : Int64) (M : jx_H)   (p0 : ¬ y = 0) (rF rL : Nat) (hfr : 0 ≤ rF) (hlo : 0 ≤ rL) : jt jp_Math_floorMod2 rF rL 0 [(0, .long x), (2, .long y)] [] M 0 0 (.inl (some (.long (g_Math_floorMod2 x y))), M, 0, 0) := by
  refine jt_sgp 2 (pc1 := 2) (lv1 := [(0, .long x), (2, .long y)]) (st1 := [.long y, .long x]) rfl ?_
  refine jt_lrem rfl (by with_reducible assumption) ?_
  refine jt_sgp 6 (pc1 := 10) (lv1 := [(4, .long (x - x / y * y)), (0, .long x), (2, .long y)]) (st1 := [.int (lg_cmp (x ^^^ y) 0)]) rfl ?_
  refine jt_lif_ge (t := 25) rfl rfl (fun c1 => ?_) (fun c1 => ?_)
  · refine jt_sgp 1 (pc1 := 27) (lv1 := [(4, .long (x - x / y * y)), (0, .long x), (2, .long y)]) (st1 := [.long (x - x / y * y)]) rfl ?_
    exact jt_lret rfl rfl (jx_oe (by show (some (Value.long _) : Option Value) = some (Value.long _); unfold g_Math_floorMod2; first | (simp only [if_pos c1, reduceIte]; done) | (simp only [if_pos c1, reduceIte]; rfl) | rfl) rfl)
  · refine jt_sgp 3 (pc1 := 17) (lv1 := [(4, .long (x - x / y * y)), (0, .long x), (2, .long y)]) (st1 := [.int (lg_cmp (x - x / y * y) 0)]) rfl ?_
    refine jt_lif_eq (t := 25) rfl rfl (fun c2 => ?_) (fun c2 => ?_)
    · refine jt_sgp 1 (pc1 := 27) (lv1 := [(4, .long (x - x / y * y)), (0, .long x), (2, .long y)]) (st1 := [.long (x - x / y * y)]) rfl ?_
      exact jt_lret rfl rfl (jx_oe (by show (some (Value.long _) : Option Value) = some (Value.long _); unfold g_Math_floorMod2; first | (simp only [if_neg c1, if_pos c2, reduceIte]; done) | (simp only [if_neg c1, if_pos c2, reduceIte]; rfl) | rfl) rfl)
    · refine jt_sgp 3 (pc1 := 24) (lv1 := [(4, .long (x - x / y * y)), (0, .long x), (2, .long y)]) (st1 := [.long ((x - x / y * y) + y)]) rfl ?_
      exact jt_lret rfl rfl (jx_oe (by show (some (Value.long _) : Option Value) = some (Value.long _); unfold g_Math_floorMod2; first | (simp only [if_neg c1, if_neg c2, reduceIte]; done) | (simp only [if_neg c1, if_neg c2, reduceIte]; rfl) | rfl) rfl)
def g_Long_bitCount (x : Int64) : Int32 :=
  let w9 : Int64 := x - ((((x : Int64).toUInt64 >>> ((1 : Int32).toInt64.toUInt64 &&& Int64.toUInt64 63)).toInt64) &&& 6148914691236517205)
  let w23 : Int64 := (w9 &&& 3689348814741910323) + ((((w9 : Int64).toUInt64 >>> ((2 : Int32).toInt64.toUInt64 &&& Int64.toUInt64 63)).toInt64) &&& 3689348814741910323)
  let w33 : Int64 := (w23 + (((w23 : Int64).toUInt64 >>> ((4 : Int32).toInt64.toUInt64 &&& Int64.toUInt64 63)).toInt64)) &&& 1085102592571150095
  let w40 : Int64 := w33 + (((w33 : Int64).toUInt64 >>> ((8 : Int32).toInt64.toUInt64 &&& Int64.toUInt64 63)).toInt64)
  let w47 : Int64 := w40 + (((w40 : Int64).toUInt64 >>> ((16 : Int32).toInt64.toUInt64 &&& Int64.toUInt64 63)).toInt64)
  let w54 : Int64 := w47 + (((w47 : Int64).toUInt64 >>> ((32 : Int32).toInt64.toUInt64 &&& Int64.toUInt64 63)).toInt64)
  ((w54 : Int64).toInt32) &&& 127
set_option maxRecDepth 20000 in
set_option maxHeartbeats 4000000 in
theorem q_Long_bitCount (x : Int64) (M : jx_H)    (rF rL : Nat) (hfr : 0 ≤ rF) (hlo : 0 ≤ rL) : jt jp_Long_bitCount rF rL 0 [(0, .long x)] [] M 0 0 (.inl (some (.int (g_Long_bitCount x))), M, 0, 0) := by
  refine jt_sgp 7 (pc1 := 9) (lv1 := [(0, .long x)]) (st1 := [.long (x - ((((x : Int64).toUInt64 >>> ((1 : Int32).toInt64.toUInt64 &&& Int64.toUInt64 63)).toInt64) &&& 6148914691236517205))]) rfl ?_
  refine jt_topl (fun w9 ew9 => ?_)
  refine jt_sgp 10 (pc1 := 23) (lv1 := [(0, .long w9)]) (st1 := [.long ((w9 &&& 3689348814741910323) + ((((w9 : Int64).toUInt64 >>> ((2 : Int32).toInt64.toUInt64 &&& Int64.toUInt64 63)).toInt64) &&& 3689348814741910323))]) rfl ?_
  refine jt_topl (fun w23 ew23 => ?_)
  refine jt_sgp 8 (pc1 := 33) (lv1 := [(0, .long w23)]) (st1 := [.long ((w23 + (((w23 : Int64).toUInt64 >>> ((4 : Int32).toInt64.toUInt64 &&& Int64.toUInt64 63)).toInt64)) &&& 1085102592571150095)]) rfl ?_
  refine jt_topl (fun w33 ew33 => ?_)
  refine jt_sgp 6 (pc1 := 40) (lv1 := [(0, .long w33)]) (st1 := [.long (w33 + (((w33 : Int64).toUInt64 >>> ((8 : Int32).toInt64.toUInt64 &&& Int64.toUInt64 63)).toInt64))]) rfl ?_
  refine jt_topl (fun w40 ew40 => ?_)
  refine jt_sgp 6 (pc1 := 47) (lv1 := [(0, .long w40)]) (st1 := [.long (w40 + (((w40 : Int64).toUInt64 >>> ((16 : Int32).toInt64.toUInt64 &&& Int64.toUInt64 63)).toInt64))]) rfl ?_
  refine jt_topl (fun w47 ew47 => ?_)
  refine jt_sgp 6 (pc1 := 54) (lv1 := [(0, .long w47)]) (st1 := [.long (w47 + (((w47 : Int64).toUInt64 >>> ((32 : Int32).toInt64.toUInt64 &&& Int64.toUInt64 63)).toInt64))]) rfl ?_
  refine jt_topl (fun w54 ew54 => ?_)
  refine jt_sgp 5 (pc1 := 60) (lv1 := [(0, .long w54)]) (st1 := [.int (((w54 : Int64).toInt32) &&& 127)]) rfl ?_
  exact jt_iret rfl rfl rfl (jx_oe (by show (some (Value.int _) : Option Value) = some (Value.int _); unfold g_Long_bitCount; subst ew54; subst ew47; subst ew40; subst ew33; subst ew23; subst ew9; rfl) rfl)
