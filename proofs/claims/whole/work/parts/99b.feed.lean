section JR_2
variable {S T : jS} {x1 x2 x3 x4 x5 : Int32} {f n : Nat}
theorem f80 {kt : Int32 → Int32 → Int32 → Int32 → Int32 → Int32 → jS → Option (Int32 × jS)} {x6 y s k' : Int32} (hs : 24 - (8 * (x6 - x6 / 4 * 4)) = s) (hk : x6 + 1 = k') (h : (S.1 215 2).toInt = n) (hn : n < 400) : J_M_feed_80 kt x1 x2 x3 x4 x5 x6 y S = kt x1 x2 x3 x4 x5 k' (ap 215 2 216 S n (byt y s)) := by
  unfold J_M_feed_80
  rw [j_qi (by omega) (by omega), jl_, jl_, clN h, hs, hk]
  rfl
theorem fs0 (h : (S.1 215 2).toInt = n) (hn : n < 400) : L_M_feed_27 (f + 1) x1 x2 x3 x4 x5 0 S = L_M_feed_27 f x1 x2 x3 x4 x5 1 (ap 215 2 216 S n (byt x1 24)) := by
  conv => lhs; unfold L_M_feed_27
  rw [if_neg (by decide), if_neg (by decide), f80 (s := 24) (k' := 1) (by decide) (by decide) h hn]
theorem fs1 (h : (S.1 215 2).toInt = n) (hn : n < 400) : L_M_feed_27 (f + 1) x1 x2 x3 x4 x5 1 S = L_M_feed_27 f x1 x2 x3 x4 x5 2 (ap 215 2 216 S n (byt x1 16)) := by
  conv => lhs; unfold L_M_feed_27
  rw [if_neg (by decide), if_neg (by decide), f80 (s := 16) (k' := 2) (by decide) (by decide) h hn]
theorem fs2 (h : (S.1 215 2).toInt = n) (hn : n < 400) : L_M_feed_27 (f + 1) x1 x2 x3 x4 x5 2 S = L_M_feed_27 f x1 x2 x3 x4 x5 3 (ap 215 2 216 S n (byt x1 8)) := by
  conv => lhs; unfold L_M_feed_27
  rw [if_neg (by decide), if_neg (by decide), f80 (s := 8) (k' := 3) (by decide) (by decide) h hn]
theorem fs3 (h : (S.1 215 2).toInt = n) (hn : n < 400) : L_M_feed_27 (f + 1) x1 x2 x3 x4 x5 3 S = L_M_feed_27 f x1 x2 x3 x4 x5 4 (ap 215 2 216 S n (byt x1 0)) := by
  conv => lhs; unfold L_M_feed_27
  rw [if_neg (by decide), if_neg (by decide), f80 (s := 0) (k' := 4) (by decide) (by decide) h hn]
theorem fw0 (h : (S.1 215 2).toInt = n) (hn : n + 4 ≤ 400) : L_M_feed_27 (f + 1 + 1 + 1 + 1) x1 x2 x3 x4 x5 0 S = L_M_feed_27 f x1 x2 x3 x4 x5 4 (apL 215 2 216 S n (w4 x1)) := by
  have e1 := ap_l (l := 215) (q := 2) (r := 216) (b := byt x1 24) (by omega) h (by omega)
  have e2 := ap_l (l := 215) (q := 2) (r := 216) (b := byt x1 16) (by omega) e1 (by omega)
  have e3 := ap_l (l := 215) (q := 2) (r := 216) (b := byt x1 8) (by omega) e2 (by omega)
  rw [fs0 h (by omega), fs1 e1 (by omega), fs2 e2 (by omega), fs3 e3 (by omega)]
  rfl
theorem fs4 (h : (S.1 215 2).toInt = n) (hn : n < 400) : L_M_feed_27 (f + 1) x1 x2 x3 x4 x5 4 S = L_M_feed_27 f x1 x2 x3 x4 x5 5 (ap 215 2 216 S n (byt x2 24)) := by
  conv => lhs; unfold L_M_feed_27
  rw [if_neg (by decide), if_pos (by decide), if_neg (by decide), f80 (s := 24) (k' := 5) (by decide) (by decide) h hn]
theorem fs5 (h : (S.1 215 2).toInt = n) (hn : n < 400) : L_M_feed_27 (f + 1) x1 x2 x3 x4 x5 5 S = L_M_feed_27 f x1 x2 x3 x4 x5 6 (ap 215 2 216 S n (byt x2 16)) := by
  conv => lhs; unfold L_M_feed_27
  rw [if_neg (by decide), if_pos (by decide), if_neg (by decide), f80 (s := 16) (k' := 6) (by decide) (by decide) h hn]
theorem fs6 (h : (S.1 215 2).toInt = n) (hn : n < 400) : L_M_feed_27 (f + 1) x1 x2 x3 x4 x5 6 S = L_M_feed_27 f x1 x2 x3 x4 x5 7 (ap 215 2 216 S n (byt x2 8)) := by
  conv => lhs; unfold L_M_feed_27
  rw [if_neg (by decide), if_pos (by decide), if_neg (by decide), f80 (s := 8) (k' := 7) (by decide) (by decide) h hn]
theorem fs7 (h : (S.1 215 2).toInt = n) (hn : n < 400) : L_M_feed_27 (f + 1) x1 x2 x3 x4 x5 7 S = L_M_feed_27 f x1 x2 x3 x4 x5 8 (ap 215 2 216 S n (byt x2 0)) := by
  conv => lhs; unfold L_M_feed_27
  rw [if_neg (by decide), if_pos (by decide), if_neg (by decide), f80 (s := 0) (k' := 8) (by decide) (by decide) h hn]
theorem fw1 (h : (S.1 215 2).toInt = n) (hn : n + 4 ≤ 400) : L_M_feed_27 (f + 1 + 1 + 1 + 1) x1 x2 x3 x4 x5 4 S = L_M_feed_27 f x1 x2 x3 x4 x5 8 (apL 215 2 216 S n (w4 x2)) := by
  have e1 := ap_l (l := 215) (q := 2) (r := 216) (b := byt x2 24) (by omega) h (by omega)
  have e2 := ap_l (l := 215) (q := 2) (r := 216) (b := byt x2 16) (by omega) e1 (by omega)
  have e3 := ap_l (l := 215) (q := 2) (r := 216) (b := byt x2 8) (by omega) e2 (by omega)
  rw [fs4 h (by omega), fs5 e1 (by omega), fs6 e2 (by omega), fs7 e3 (by omega)]
  rfl
theorem fs8 (h : (S.1 215 2).toInt = n) (hn : n < 400) : L_M_feed_27 (f + 1) x1 x2 x3 x4 x5 8 S = L_M_feed_27 f x1 x2 x3 x4 x5 9 (ap 215 2 216 S n (byt x3 24)) := by
  conv => lhs; unfold L_M_feed_27
  rw [if_neg (by decide), if_pos (by decide), if_pos (by decide), if_neg (by decide), f80 (s := 24) (k' := 9) (by decide) (by decide) h hn]
theorem fs9 (h : (S.1 215 2).toInt = n) (hn : n < 400) : L_M_feed_27 (f + 1) x1 x2 x3 x4 x5 9 S = L_M_feed_27 f x1 x2 x3 x4 x5 10 (ap 215 2 216 S n (byt x3 16)) := by
  conv => lhs; unfold L_M_feed_27
  rw [if_neg (by decide), if_pos (by decide), if_pos (by decide), if_neg (by decide), f80 (s := 16) (k' := 10) (by decide) (by decide) h hn]
theorem fs10 (h : (S.1 215 2).toInt = n) (hn : n < 400) : L_M_feed_27 (f + 1) x1 x2 x3 x4 x5 10 S = L_M_feed_27 f x1 x2 x3 x4 x5 11 (ap 215 2 216 S n (byt x3 8)) := by
  conv => lhs; unfold L_M_feed_27
  rw [if_neg (by decide), if_pos (by decide), if_pos (by decide), if_neg (by decide), f80 (s := 8) (k' := 11) (by decide) (by decide) h hn]
theorem fs11 (h : (S.1 215 2).toInt = n) (hn : n < 400) : L_M_feed_27 (f + 1) x1 x2 x3 x4 x5 11 S = L_M_feed_27 f x1 x2 x3 x4 x5 12 (ap 215 2 216 S n (byt x3 0)) := by
  conv => lhs; unfold L_M_feed_27
  rw [if_neg (by decide), if_pos (by decide), if_pos (by decide), if_neg (by decide), f80 (s := 0) (k' := 12) (by decide) (by decide) h hn]
theorem fw2 (h : (S.1 215 2).toInt = n) (hn : n + 4 ≤ 400) : L_M_feed_27 (f + 1 + 1 + 1 + 1) x1 x2 x3 x4 x5 8 S = L_M_feed_27 f x1 x2 x3 x4 x5 12 (apL 215 2 216 S n (w4 x3)) := by
  have e1 := ap_l (l := 215) (q := 2) (r := 216) (b := byt x3 24) (by omega) h (by omega)
  have e2 := ap_l (l := 215) (q := 2) (r := 216) (b := byt x3 16) (by omega) e1 (by omega)
  have e3 := ap_l (l := 215) (q := 2) (r := 216) (b := byt x3 8) (by omega) e2 (by omega)
  rw [fs8 h (by omega), fs9 e1 (by omega), fs10 e2 (by omega), fs11 e3 (by omega)]
  rfl
theorem fs12 (h : (S.1 215 2).toInt = n) (hn : n < 400) : L_M_feed_27 (f + 1) x1 x2 x3 x4 x5 12 S = L_M_feed_27 f x1 x2 x3 x4 x5 13 (ap 215 2 216 S n (byt x4 24)) := by
  conv => lhs; unfold L_M_feed_27
  rw [if_neg (by decide), if_pos (by decide), if_pos (by decide), if_pos (by decide), if_neg (by decide), f80 (s := 24) (k' := 13) (by decide) (by decide) h hn]
theorem fs13 (h : (S.1 215 2).toInt = n) (hn : n < 400) : L_M_feed_27 (f + 1) x1 x2 x3 x4 x5 13 S = L_M_feed_27 f x1 x2 x3 x4 x5 14 (ap 215 2 216 S n (byt x4 16)) := by
  conv => lhs; unfold L_M_feed_27
  rw [if_neg (by decide), if_pos (by decide), if_pos (by decide), if_pos (by decide), if_neg (by decide), f80 (s := 16) (k' := 14) (by decide) (by decide) h hn]
theorem fs14 (h : (S.1 215 2).toInt = n) (hn : n < 400) : L_M_feed_27 (f + 1) x1 x2 x3 x4 x5 14 S = L_M_feed_27 f x1 x2 x3 x4 x5 15 (ap 215 2 216 S n (byt x4 8)) := by
  conv => lhs; unfold L_M_feed_27
  rw [if_neg (by decide), if_pos (by decide), if_pos (by decide), if_pos (by decide), if_neg (by decide), f80 (s := 8) (k' := 15) (by decide) (by decide) h hn]
theorem fs15 (h : (S.1 215 2).toInt = n) (hn : n < 400) : L_M_feed_27 (f + 1) x1 x2 x3 x4 x5 15 S = L_M_feed_27 f x1 x2 x3 x4 x5 16 (ap 215 2 216 S n (byt x4 0)) := by
  conv => lhs; unfold L_M_feed_27
  rw [if_neg (by decide), if_pos (by decide), if_pos (by decide), if_pos (by decide), if_neg (by decide), f80 (s := 0) (k' := 16) (by decide) (by decide) h hn]
theorem fw3 (h : (S.1 215 2).toInt = n) (hn : n + 4 ≤ 400) : L_M_feed_27 (f + 1 + 1 + 1 + 1) x1 x2 x3 x4 x5 12 S = L_M_feed_27 f x1 x2 x3 x4 x5 16 (apL 215 2 216 S n (w4 x4)) := by
  have e1 := ap_l (l := 215) (q := 2) (r := 216) (b := byt x4 24) (by omega) h (by omega)
  have e2 := ap_l (l := 215) (q := 2) (r := 216) (b := byt x4 16) (by omega) e1 (by omega)
  have e3 := ap_l (l := 215) (q := 2) (r := 216) (b := byt x4 8) (by omega) e2 (by omega)
  rw [fs12 h (by omega), fs13 e1 (by omega), fs14 e2 (by omega), fs15 e3 (by omega)]
  rfl
theorem fs16 (h : (S.1 215 2).toInt = n) (hn : n < 400) : L_M_feed_27 (f + 1) x1 x2 x3 x4 x5 16 S = L_M_feed_27 f x1 x2 x3 x4 x5 17 (ap 215 2 216 S n (byt x5 24)) := by
  conv => lhs; unfold L_M_feed_27
  rw [if_neg (by decide), if_pos (by decide), if_pos (by decide), if_pos (by decide), if_pos (by decide), f80 (s := 24) (k' := 17) (by decide) (by decide) h hn]
theorem fs17 (h : (S.1 215 2).toInt = n) (hn : n < 400) : L_M_feed_27 (f + 1) x1 x2 x3 x4 x5 17 S = L_M_feed_27 f x1 x2 x3 x4 x5 18 (ap 215 2 216 S n (byt x5 16)) := by
  conv => lhs; unfold L_M_feed_27
  rw [if_neg (by decide), if_pos (by decide), if_pos (by decide), if_pos (by decide), if_pos (by decide), f80 (s := 16) (k' := 18) (by decide) (by decide) h hn]
theorem fs18 (h : (S.1 215 2).toInt = n) (hn : n < 400) : L_M_feed_27 (f + 1) x1 x2 x3 x4 x5 18 S = L_M_feed_27 f x1 x2 x3 x4 x5 19 (ap 215 2 216 S n (byt x5 8)) := by
  conv => lhs; unfold L_M_feed_27
  rw [if_neg (by decide), if_pos (by decide), if_pos (by decide), if_pos (by decide), if_pos (by decide), f80 (s := 8) (k' := 19) (by decide) (by decide) h hn]
theorem fs19 (h : (S.1 215 2).toInt = n) (hn : n < 400) : L_M_feed_27 (f + 1) x1 x2 x3 x4 x5 19 S = L_M_feed_27 f x1 x2 x3 x4 x5 20 (ap 215 2 216 S n (byt x5 0)) := by
  conv => lhs; unfold L_M_feed_27
  rw [if_neg (by decide), if_pos (by decide), if_pos (by decide), if_pos (by decide), if_pos (by decide), f80 (s := 0) (k' := 20) (by decide) (by decide) h hn]
theorem fw4 (h : (S.1 215 2).toInt = n) (hn : n + 4 ≤ 400) : L_M_feed_27 (f + 1 + 1 + 1 + 1) x1 x2 x3 x4 x5 16 S = L_M_feed_27 f x1 x2 x3 x4 x5 20 (apL 215 2 216 S n (w4 x5)) := by
  have e1 := ap_l (l := 215) (q := 2) (r := 216) (b := byt x5 24) (by omega) h (by omega)
  have e2 := ap_l (l := 215) (q := 2) (r := 216) (b := byt x5 16) (by omega) e1 (by omega)
  have e3 := ap_l (l := 215) (q := 2) (r := 216) (b := byt x5 8) (by omega) e2 (by omega)
  rw [fs16 h (by omega), fs17 e1 (by omega), fs18 e2 (by omega), fs19 e3 (by omega)]
  rfl
def w20 (x1 x2 x3 x4 x5 : Int32) : List Int32 := w4 x1 ++ (w4 x2 ++ (w4 x3 ++ (w4 x4 ++ w4 x5)))
theorem fM_feed (h : (S.1 215 2).toInt = n) (hn : n + 20 ≤ 400) : L_M_feed_27 ju_ x1 x2 x3 x4 x5 0 S = some ((apL 215 2 216 S n (w20 x1 x2 x3 x4 x5)).1 215 2, apL 215 2 216 S n (w20 x1 x2 x3 x4 x5)) := by
  have l4 : ∀ x, (w4 x).length = 4 := fun _ => rfl
  have ne : (216 : Nat) ≠ 215 := by omega
  have p1 := (apL_p (q := 2) ne (w4 x1) S n h (by rw [l4]; omega)).1
  have p2 := (apL_p (q := 2) ne (w4 x2) _ _ p1 (by simp only [l4]; omega)).1
  have p3 := (apL_p (q := 2) ne (w4 x3) _ _ p2 (by simp only [l4]; omega)).1
  have p4 := (apL_p (q := 2) ne (w4 x4) _ _ p3 (by simp only [l4]; omega)).1
  rw [show ju_ = 999979 + 1 + 1 + 1 + 1 + 1 + 1 + 1 + 1 + 1 + 1 + 1 + 1 + 1 + 1 + 1 + 1 + 1 + 1 + 1 + 1 + 1 from rfl, fw0 h (by omega), fw1 p1 (by rw [l4]; omega), fw2 p2 (by simp only [l4]; omega), fw3 p3 (by simp only [l4]; omega), fw4 p4 (by simp only [l4]; omega)]
  rw [apL_a, apL_a, apL_a, apL_a]
  conv => lhs; unfold L_M_feed_27
  rw [if_pos (by decide)]
  rfl
theorem fJ_feed (h : (S.1 25 1).toInt = n) (hn : n + 20 ≤ 400) : F_J_feed x1 x2 x3 x4 x5 S = some (.inl ((apL 25 1 26 S n (w20 x1 x2 x3 x4 x5)).1 25 1), apL 25 1 26 S n (w20 x1 x2 x3 x4 x5)) := by
  have l4 : ∀ x, (w4 x).length = 4 := fun _ => rfl
  have ne : (26 : Nat) ≠ 25 := by omega
  have p1 := (apL_p (q := 1) ne (w4 x1) S n h (by rw [l4]; omega)).1
  have p2 := (apL_p (q := 1) ne (w4 x2) _ _ p1 (by simp only [l4]; omega)).1
  have p3 := (apL_p (q := 1) ne (w4 x3) _ _ p2 (by simp only [l4]; omega)).1
  have p4 := (apL_p (q := 1) ne (w4 x4) _ _ p3 (by simp only [l4]; omega)).1
  unfold F_J_feed
  have e : (S.1 25 1 + 20).toInt = n + 20 := by
    rw [Int32.toInt_add, h]
    simp only [Int32.reduceToInt]
    exact bs32 (by omega) (by omega)
  rw [if_pos (by rw [leI (k := 400) (n := 400) rfl, e]; omega), aw h (by omega)]
  simp only [ob_]
  rw [aw p1 (by rw [l4]; omega)]
  simp only [ob_]
  rw [aw p2 (by simp only [l4]; omega)]
  simp only [ob_]
  rw [aw p3 (by simp only [l4]; omega)]
  simp only [ob_]
  rw [aw p4 (by simp only [l4]; omega)]
  simp only [ob_]
  rw [apL_a, apL_a, apL_a, apL_a]
  rfl
end JR_2
