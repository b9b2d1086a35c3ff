def g_M_leap (y : Int32) : Int32 :=
  let v26 : Int32 := if (y - y / 4 * 4) = 0 then (if (y - y / 100 * 100) = 0 then (if (y - y / 400 * 400) = 0 then 1 else 0) else 1) else (if (y - y / 400 * 400) = 0 then 1 else 0)
  v26
set_option maxRecDepth 20000 in
set_option maxHeartbeats 4000000 in
theorem q_M_leap (y : Int32) (M : jx_H)    (rF rL : Nat) (hfr : 0 ≤ rF) (hlo : 0 ≤ rL) : jt jp_M_leap rF rL 0 [(0, .int y)] [] M 0 0 (.inl (some (.int (g_M_leap y))), M, 0, 0) := by
  refine jt_sgp 2 (pc1 := 2) (lv1 := [(0, .int y)]) (st1 := [.int 4, .int y]) rfl ?_
  refine jt_irem rfl (by decide +kernel) ?_
  have J26_2 : ∀ (v26 : Int32), v26 = (if (y - y / 4 * 4) = 0 then (if (y - y / 100 * 100) = 0 then (if (y - y / 400 * 400) = 0 then 1 else 0) else 1) else (if (y - y / 400 * 400) = 0 then 1 else 0) : Int32) → jt jp_M_leap rF rL 26 [(0, .int y)] [.int v26] (M) 0 0 (.inl (some (.int (g_M_leap y))), M, 0, 0) := by
    intro v26 ev26
    exact jt_iret rfl rfl (by first | rfl | (subst ev26; (repeat' split) <;> rfl)) (jx_oe (by show (some (Value.int _) : Option Value) = some (Value.int _); unfold g_M_leap; subst ev26; rfl) rfl)
  refine jt_if_ne (t := 13) rfl rfl (fun c1 => ?_) (fun c1 => ?_)
  · refine jt_sgp 2 (pc1 := 17) (lv1 := [(0, .int y)]) (st1 := [.int 400, .int y]) rfl ?_
    refine jt_irem rfl (by decide +kernel) ?_
    refine jt_if_ne (t := 25) rfl rfl (fun c3 => ?_) (fun c3 => ?_)
    · refine jt_sgp 1 (pc1 := 26) (lv1 := [(0, .int y)]) (st1 := [.int 0]) rfl ?_
      exact J26_2 _ (by first | (simp only [if_neg c1, if_neg c3, reduceIte]; done) | (with_reducible rfl))
    · refine jt_sgp 2 (pc1 := 26) (lv1 := [(0, .int y)]) (st1 := [.int 1]) rfl ?_
      exact J26_2 _ (by first | (simp only [if_neg c1, if_pos c3, reduceIte]; done) | (with_reducible rfl))
  · refine jt_sgp 2 (pc1 := 9) (lv1 := [(0, .int y)]) (st1 := [.int 100, .int y]) rfl ?_
    refine jt_irem rfl (by decide +kernel) ?_
    refine jt_if_ne (t := 21) rfl rfl (fun c4 => ?_) (fun c4 => ?_)
    · refine jt_sgp 2 (pc1 := 26) (lv1 := [(0, .int y)]) (st1 := [.int 1]) rfl ?_
      exact J26_2 _ (by first | (simp only [if_pos c1, if_neg c4, reduceIte]; done) | (with_reducible rfl))
    · refine jt_sgp 2 (pc1 := 17) (lv1 := [(0, .int y)]) (st1 := [.int 400, .int y]) rfl ?_
      refine jt_irem rfl (by decide +kernel) ?_
      refine jt_if_ne (t := 25) rfl rfl (fun c5 => ?_) (fun c5 => ?_)
      · refine jt_sgp 1 (pc1 := 26) (lv1 := [(0, .int y)]) (st1 := [.int 0]) rfl ?_
        exact J26_2 _ (by first | (simp only [if_pos c1, if_pos c4, if_neg c5, reduceIte]; done) | (with_reducible rfl))
      · refine jt_sgp 2 (pc1 := 26) (lv1 := [(0, .int y)]) (st1 := [.int 1]) rfl ?_
        exact J26_2 _ (by first | (simp only [if_pos c1, if_pos c4, if_pos c5, reduceIte]; done) | (with_reducible rfl))
def g_M_length (y : Int32) (mo : Int32) : Int32 :=
  let v52 : Int32 := if mo = 2 then (if (g_M_leap y) = 0 then 28 else 29) else (if mo = 4 then 30 else (if mo = 6 then 30 else (if mo = 9 then 30 else (if mo = 11 then 30 else 31))))
  v52
set_option maxRecDepth 20000 in
set_option maxHeartbeats 4000000 in
theorem q_M_length (y : Int32) (mo : Int32) (M : jx_H)    (rF rL : Nat) (hfr : 1 ≤ rF) (hlo : 20 ≤ rL) : jt jp_M_length rF rL 0 [(0, .int y), (1, .int mo)] [] M 0 0 (.inl (some (.int (g_M_length y mo))), M, 0, 0) := by
  refine jt_sgp 2 (pc1 := 2) (lv1 := [(0, .int y), (1, .int mo)]) (st1 := [.int 2, .int mo]) rfl ?_
  have J52_2 : ∀ (v52 : Int32), v52 = (if mo = 2 then (if (g_M_leap y) = 0 then 28 else 29) else (if mo = 4 then 30 else (if mo = 6 then 30 else (if mo = 9 then 30 else (if mo = 11 then 30 else 31)))) : Int32) → jt jp_M_length rF rL 52 [(0, .int y), (1, .int mo)] [.int v52] (M) 0 0 (.inl (some (.int (g_M_length y mo))), M, 0, 0) := by
    intro v52 ev52
    exact jt_iret rfl rfl rfl (jx_oe (by show (some (Value.int _) : Option Value) = some (Value.int _); unfold g_M_length; subst ev52; rfl) rfl)
  refine jt_icmp_ne (t := 22) rfl rfl (fun c1 => ?_) (fun c1 => ?_)
  · refine jt_sgp 2 (pc1 := 24) (lv1 := [(0, .int y), (1, .int mo)]) (st1 := [.int 4, .int mo]) rfl ?_
    refine jt_icmp_eq (t := 45) rfl rfl (fun c3 => ?_) (fun c3 => ?_)
    · refine jt_sgp 2 (pc1 := 52) (lv1 := [(0, .int y), (1, .int mo)]) (st1 := [.int 30]) rfl ?_
      exact J52_2 _ (by first | (simp only [if_neg c1, if_pos c3, reduceIte]; done) | (with_reducible rfl))
    · refine jt_sgp 2 (pc1 := 30) (lv1 := [(0, .int y), (1, .int mo)]) (st1 := [.int 6, .int mo]) rfl ?_
      refine jt_icmp_eq (t := 45) rfl rfl (fun c4 => ?_) (fun c4 => ?_)
      · refine jt_sgp 2 (pc1 := 52) (lv1 := [(0, .int y), (1, .int mo)]) (st1 := [.int 30]) rfl ?_
        exact J52_2 _ (by first | (simp only [if_neg c1, if_neg c3, if_pos c4, reduceIte]; done) | (with_reducible rfl))
      · refine jt_sgp 2 (pc1 := 36) (lv1 := [(0, .int y), (1, .int mo)]) (st1 := [.int 9, .int mo]) rfl ?_
        refine jt_icmp_eq (t := 45) rfl rfl (fun c5 => ?_) (fun c5 => ?_)
        · refine jt_sgp 2 (pc1 := 52) (lv1 := [(0, .int y), (1, .int mo)]) (st1 := [.int 30]) rfl ?_
          exact J52_2 _ (by first | (simp only [if_neg c1, if_neg c3, if_neg c4, if_pos c5, reduceIte]; done) | (with_reducible rfl))
        · refine jt_sgp 2 (pc1 := 42) (lv1 := [(0, .int y), (1, .int mo)]) (st1 := [.int 11, .int mo]) rfl ?_
          refine jt_icmp_ne (t := 50) rfl rfl (fun c6 => ?_) (fun c6 => ?_)
          · refine jt_sgp 1 (pc1 := 52) (lv1 := [(0, .int y), (1, .int mo)]) (st1 := [.int 31]) rfl ?_
            exact J52_2 _ (by first | (simp only [if_neg c1, if_neg c3, if_neg c4, if_neg c5, if_neg c6, reduceIte]; done) | (with_reducible rfl))
          · refine jt_sgp 2 (pc1 := 52) (lv1 := [(0, .int y), (1, .int mo)]) (st1 := [.int 30]) rfl ?_
            exact J52_2 _ (by first | (simp only [if_neg c1, if_neg c3, if_neg c4, if_neg c5, if_pos c6, reduceIte]; done) | (with_reducible rfl))
  · refine jt_sgp 1 (pc1 := 6) (lv1 := [(0, .int y), (1, .int mo)]) (st1 := [.int y]) rfl ?_
    refine jt_call (k := 39) (m2 := jp_M_leap) (As := [.int y]) (r := []) (mx := 1) rfl rfl rfl rfl rfl (by omega) (by omega) (Nat.le_of_ble_eq_true rfl) (q_M_leap y M   _ _ (by omega) (by omega)) ?_
    show jt jp_M_length rF rL 9 [(0, .int y), (1, .int mo)] [.int (g_M_leap y)] (M) 0 0 (.inl (some (.int (g_M_length y mo))), M, 0, 0)
    refine jt_if_eq (t := 17) rfl rfl (fun c7 => ?_) (fun c7 => ?_)
    · refine jt_sgp 2 (pc1 := 52) (lv1 := [(0, .int y), (1, .int mo)]) (st1 := [.int 28]) rfl ?_
      exact J52_2 _ (by first | (simp only [if_pos c1, if_pos c7, reduceIte]; done) | (with_reducible rfl))
    · refine jt_sgp 2 (pc1 := 52) (lv1 := [(0, .int y), (1, .int mo)]) (st1 := [.int 29]) rfl ?_
      exact J52_2 _ (by first | (simp only [if_pos c1, if_neg c7, reduceIte]; done) | (with_reducible rfl))
def g_M_weekday (da : Int32) : Int32 :=
  (g_Math_floorMod (da + 4) 7) + 1
set_option maxRecDepth 20000 in
set_option maxHeartbeats 4000000 in
theorem q_M_weekday (da : Int32) (M : jx_H)    (rF rL : Nat) (hfr : 1 ≤ rF) (hlo : 22 ≤ rL) : jt jp_M_weekday rF rL 0 [(0, .int da)] [] M 0 0 (.inl (some (.int (g_M_weekday da))), M, 0, 0) := by
  refine jt_sgp 4 (pc1 := 5) (lv1 := [(0, .int da)]) (st1 := [.int 7, .int (da + 4)]) rfl ?_
  refine jt_call (k := 188) (m2 := jp_Math_floorMod) (As := [.int (da + 4), .int 7]) (r := []) (mx := 3) rfl rfl rfl rfl rfl (by omega) (by omega) (Nat.le_of_ble_eq_true rfl) (q_Math_floorMod (da + 4) 7 M  (by first | with_reducible assumption | decide +kernel) _ _ (by omega) (by omega)) ?_
  show jt jp_M_weekday rF rL 8 [(0, .int da)] [.int (g_Math_floorMod (da + 4) 7)] (M) 0 0 (.inl (some (.int (g_M_weekday da))), M, 0, 0)
  refine jt_sgp 2 (pc1 := 10) (lv1 := [(0, .int da)]) (st1 := [.int ((g_Math_floorMod (da + 4) 7) + 1)]) rfl ?_
  exact jt_iret rfl rfl rfl (jx_oe (by show (some (Value.int _) : Option Value) = some (Value.int _); unfold g_M_weekday; rfl) rfl)
def g_M_digit (c : Int32) : Int32 :=
  let v17 : Int32 := if c < 48 then 0 else (if 57 < c then 0 else 1)
  v17
set_option maxRecDepth 20000 in
set_option maxHeartbeats 4000000 in
theorem q_M_digit (c : Int32) (M : jx_H)    (rF rL : Nat) (hfr : 0 ≤ rF) (hlo : 0 ≤ rL) : jt jp_M_digit rF rL 0 [(0, .int c)] [] M 0 0 (.inl (some (.int (g_M_digit c))), M, 0, 0) := by
  refine jt_sgp 2 (pc1 := 3) (lv1 := [(0, .int c)]) (st1 := [.int 48, .int c]) rfl ?_
  have J17_2 : ∀ (v17 : Int32), v17 = (if c < 48 then 0 else (if 57 < c then 0 else 1) : Int32) → jt jp_M_digit rF rL 17 [(0, .int c)] [.int v17] (M) 0 0 (.inl (some (.int (g_M_digit c))), M, 0, 0) := by
    intro v17 ev17
    exact jt_iret rfl rfl (by first | rfl | (subst ev17; (repeat' split) <;> rfl)) (jx_oe (by show (some (Value.int _) : Option Value) = some (Value.int _); unfold g_M_digit; subst ev17; rfl) rfl)
  refine jt_icmp_lt (t := 16) rfl rfl (fun c1 => ?_) (fun c1 => ?_)
  · refine jt_sgp 1 (pc1 := 17) (lv1 := [(0, .int c)]) (st1 := [.int 0]) rfl ?_
    exact J17_2 _ (by first | (simp only [if_pos c1, reduceIte]; done) | (with_reducible rfl))
  · refine jt_sgp 2 (pc1 := 9) (lv1 := [(0, .int c)]) (st1 := [.int 57, .int c]) rfl ?_
    refine jt_icmp_gt (t := 16) rfl rfl (fun c3 => ?_) (fun c3 => ?_)
    · refine jt_sgp 1 (pc1 := 17) (lv1 := [(0, .int c)]) (st1 := [.int 0]) rfl ?_
      exact J17_2 _ (by first | (simp only [if_neg c1, if_pos c3, reduceIte]; done) | (with_reducible rfl))
    · refine jt_sgp 2 (pc1 := 17) (lv1 := [(0, .int c)]) (st1 := [.int 1]) rfl ?_
      exact J17_2 _ (by first | (simp only [if_neg c1, if_neg c3, reduceIte]; done) | (with_reducible rfl))
def g_M_letter (c : Int32) : Int32 :=
  let v17 : Int32 := if c < 65 then 0 else (if 90 < c then 0 else 1)
  v17
set_option maxRecDepth 20000 in
set_option maxHeartbeats 4000000 in
theorem q_M_letter (c : Int32) (M : jx_H)    (rF rL : Nat) (hfr : 0 ≤ rF) (hlo : 0 ≤ rL) : jt jp_M_letter rF rL 0 [(0, .int c)] [] M 0 0 (.inl (some (.int (g_M_letter c))), M, 0, 0) := by
  refine jt_sgp 2 (pc1 := 3) (lv1 := [(0, .int c)]) (st1 := [.int 65, .int c]) rfl ?_
  have J17_2 : ∀ (v17 : Int32), v17 = (if c < 65 then 0 else (if 90 < c then 0 else 1) : Int32) → jt jp_M_letter rF rL 17 [(0, .int c)] [.int v17] (M) 0 0 (.inl (some (.int (g_M_letter c))), M, 0, 0) := by
    intro v17 ev17
    exact jt_iret rfl rfl (by first | rfl | (subst ev17; (repeat' split) <;> rfl)) (jx_oe (by show (some (Value.int _) : Option Value) = some (Value.int _); unfold g_M_letter; subst ev17; rfl) rfl)
  refine jt_icmp_lt (t := 16) rfl rfl (fun c1 => ?_) (fun c1 => ?_)
  · refine jt_sgp 1 (pc1 := 17) (lv1 := [(0, .int c)]) (st1 := [.int 0]) rfl ?_
    exact J17_2 _ (by first | (simp only [if_pos c1, reduceIte]; done) | (with_reducible rfl))
  · refine jt_sgp 2 (pc1 := 9) (lv1 := [(0, .int c)]) (st1 := [.int 90, .int c]) rfl ?_
    refine jt_icmp_gt (t := 16) rfl rfl (fun c3 => ?_) (fun c3 => ?_)
    · refine jt_sgp 1 (pc1 := 17) (lv1 := [(0, .int c)]) (st1 := [.int 0]) rfl ?_
      exact J17_2 _ (by first | (simp only [if_neg c1, if_pos c3, reduceIte]; done) | (with_reducible rfl))
    · refine jt_sgp 2 (pc1 := 17) (lv1 := [(0, .int c)]) (st1 := [.int 1]) rfl ?_
      exact J17_2 _ (by first | (simp only [if_neg c1, if_neg c3, reduceIte]; done) | (with_reducible rfl))
def G_M_number_36 (y : Int32) (mo : Int32) : Nat → (Int32) → (Int32) → Int32
  | 0, _, _ => 0
  | n + 1, k, nn =>
    if mo ≤ k then nn else (G_M_number_36 y mo n (k + 1) (nn + (g_M_length y k)))
termination_by n _ _ => n
def g_M_number (y : Int32) (mo : Int32) : Int32 :=
  let w32 : Int32 := ((((365 * (y - 1970)) + ((y - 1) / 4)) - ((y - 1) / 100)) + ((y - 1) / 400)) - 477
  G_M_number_36 y mo 14 1 w32
set_option maxRecDepth 20000 in
set_option maxHeartbeats 4000000 in
theorem q_M_number (y : Int32) (mo : Int32) (M : jx_H)   (p1 : mo ≤ 13) (rF rL : Nat) (hfr : 2 ≤ rF) (hlo : 41 ≤ rL) : jt jp_M_number rF rL 0 [(0, .int y), (1, .int mo)] [] M 0 0 (.inl (some (.int (g_M_number y mo))), M, 0, 0) := by
  refine jt_sgp 11 (pc1 := 15) (lv1 := [(2, .int (y - 1)), (0, .int y), (1, .int mo)]) (st1 := [.int 4, .int (y - 1), .int (365 * (y - 1970))]) rfl ?_
  refine jt_idiv rfl (by decide +kernel) ?_
  refine jt_sgp 3 (pc1 := 20) (lv1 := [(2, .int (y - 1)), (0, .int y), (1, .int mo)]) (st1 := [.int 100, .int (y - 1), .int ((365 * (y - 1970)) + ((y - 1) / 4))]) rfl ?_
  refine jt_idiv rfl (by decide +kernel) ?_
  refine jt_sgp 3 (pc1 := 26) (lv1 := [(2, .int (y - 1)), (0, .int y), (1, .int mo)]) (st1 := [.int 400, .int (y - 1), .int (((365 * (y - 1970)) + ((y - 1) / 4)) - ((y - 1) / 100))]) rfl ?_
  refine jt_idiv rfl (by decide +kernel) ?_
  refine jt_sgp 3 (pc1 := 32) (lv1 := [(2, .int (y - 1)), (0, .int y), (1, .int mo)]) (st1 := [.int (((((365 * (y - 1970)) + ((y - 1) / 4)) - ((y - 1) / 100)) + ((y - 1) / 400)) - 477)]) rfl ?_
  refine jt_topi (fun w32 ew32 => ?_)
  refine jt_sgp 3 (pc1 := 36) (lv1 := [(4, .int 1), (3, .int w32), (2, .int (y - 1)), (0, .int y), (1, .int mo)]) (st1 := []) rfl ?_
  refine jt_lvs (l1 := [(0, .int y), (1, .int mo), (3, .int w32), (4, .int 1)]) rfl rfl ⟨rfl, rfl, rfl, rfl, trivial⟩ ?_
  obtain ⟨ro, hro⟩ : ∃ ro, ro = G_M_number_36 y mo 14 1 w32 := ⟨_, rfl⟩
  have LP36 : ∀ (n : Nat) (k : Int32) (nn : Int32), (0 ≤ k) → (mo.toInt - k.toInt).toNat < n → G_M_number_36 y mo n k nn = ro → jt jp_M_number rF rL 36 [(0, .int y), (1, .int mo), (3, .int nn), (4, .int k)] [] (M) 0 0 (.inl (some (.int (g_M_number y mo))), M, 0, 0) := by
    intro n
    induction n with
    | zero => intro k nn i1 hm _; exact absurd hm (Nat.not_lt_zero _)
    | succ n ih =>
      intro k nn i1 hm hF
      simp only [G_M_number_36] at hF
      refine jt_sgp 2 (pc1 := 39) (lv1 := [(0, .int y), (1, .int mo), (3, .int nn), (4, .int k)]) (st1 := [.int mo, .int k]) rfl ?_
      refine jt_icmp_ge (t := 57) rfl rfl (fun c1 => ?_) (fun c1 => ?_)
      · refine jt_sgp 1 (pc1 := 58) (lv1 := [(0, .int y), (1, .int mo), (3, .int nn), (4, .int k)]) (st1 := [.int nn]) rfl ?_
        exact jt_iret rfl rfl rfl (jx_oe (by show (some (Value.int _) : Option Value) = some (Value.int _); subst ew32; simp only [if_pos c1, reduceIte] at hF; unfold g_M_number; (try dsimp only); rw [← hro, ← hF]) rfl)
      · refine jt_sgp 3 (pc1 := 46) (lv1 := [(0, .int y), (1, .int mo), (3, .int nn), (4, .int k)]) (st1 := [.int k, .int y, .int nn]) rfl ?_
        refine jt_call (k := 40) (m2 := jp_M_length) (As := [.int y, .int k]) (r := [.int nn]) (mx := 2) rfl rfl rfl rfl rfl (by omega) (by omega) (Nat.le_of_ble_eq_true rfl) (q_M_length y k M   _ _ (by omega) (by omega)) ?_
        show jt jp_M_number rF rL 49 [(0, .int y), (1, .int mo), (3, .int nn), (4, .int k)] [.int (g_M_length y k), .int nn] (M) 0 0 (.inl (some (.int (g_M_number y mo))), M, 0, 0)
        refine jt_sgp 4 (pc1 := 36) (lv1 := [(4, .int (k + 1)), (3, .int (nn + (g_M_length y k))), (0, .int y), (1, .int mo)]) (st1 := []) rfl ?_
        refine jt_lvs (l1 := [(0, .int y), (1, .int mo), (3, .int (nn + (g_M_length y k))), (4, .int (k + 1))]) rfl rfl ⟨rfl, rfl, rfl, rfl, trivial⟩ ?_
        exact ih (k + 1) (nn + (g_M_length y k)) (jm_inc0 i1 (jm_nl c1)) (jm_dec (jm_nl c1) hm) (by simp only [if_neg c1, reduceIte] at hF; exact hF)
  exact LP36 14 1 w32 (by decide) (jm_m0 (by decide) p1 (by decide) (by decide)) hro.symm
def g_M_peek (mfa : Int32) (mta : Int32) (mpl : Int32) (mye : Int32) (mmo : Int32) (mda : Int32) (mat : Int32) (mwa : Int32) (mon : Int32) (mtw : Int32) (mck : Int64) (mwk : Int32) (mmd : Int64) (mas : Int64) (mcl : Int32) (msd : Int32) (mtf : Nat → Int32) : Int32 :=
  let v28 : Int32 := if mta ≤ mat then (-1) else ((mtf (mat : Int32).toNatClampNeg) &&& 255)
  v28
set_option maxRecDepth 20000 in
set_option maxHeartbeats 4000000 in
theorem q_M_peek (a : Nat) (mfa : Int32) (mtp : Nat) (mta : Int32) (mpl : Int32) (mye : Int32) (mmo : Int32) (mda : Int32) (mat : Int32) (mof : Nat) (msv : Nat) (mev : Nat) (mbg : Nat) (mec : Nat) (mru : Nat) (mst : Nat) (mtr : Nat) (mtd : Nat) (mwy : Nat) (mfi : Nat) (msc : Nat) (mwa : Int32) (mon : Int32) (mtw : Int32) (mms : Nat) (mwd : Nat) (mho : Nat) (mhc : Nat) (mss : Nat) (mki : Nat) (mnm : Nat) (men : Nat) (msr : Nat) (mor : Nat) (mpe : Nat) (mdu : Nat) (mpr : Nat) (mpo : Nat) (mfl : Nat) (mcr : Nat) (mzo : Nat) (mca : Nat) (mck : Int64) (mwk : Int32) (mmd : Int64) (mas : Int64) (mcl : Int32) (mtm : Nat) (mjb : Nat) (mno : Nat) (msd : Int32) (mtf : Nat → Int32) (M : jx_H) (h_a : M[a]? = some (9, [.int mfa, .ref mtp, .int mta, .int mpl, .int mye, .int mmo, .int mda, .int mat, .ref mof, .ref msv, .ref mev, .ref mbg, .ref mec, .ref mru, .ref mst, .ref mtr, .ref mtd, .ref mwy, .ref mfi, .ref msc, .int mwa, .int mon, .int mtw, .ref mms, .ref mwd, .ref mho, .ref mhc, .ref mss, .ref mki, .ref mnm, .ref men, .ref msr, .ref mor, .ref mpe, .ref mdu, .ref mpr, .ref mpo, .ref mfl, .ref mcr, .ref mzo, .ref mca, .long mck, .int mwk, .long mmd, .long mas, .int mcl, .ref mtm, .ref mjb, .ref mno, .int msd])) (h_mtp : M[mtp]? = some (100, jx_vi 400 mtf)) (hnd : ([a, mtp] : List Nat).Nodup) (p1 : 0 ≤ mat) (p2 : mta ≤ 400) (rF rL : Nat) (hfr : 0 ≤ rF) (hlo : 0 ≤ rL) : jt jp_M_peek rF rL 0 [(0, .ref a)] [] M 0 0 (.inl (some (.int (g_M_peek mfa mta mpl mye mmo mda mat mwa mon mtw mck mwk mmd mas mcl msd mtf))), M, 0, 0) := by
  have hL : ∀ zz ∈ ([(a, (9, [.int mfa, .ref mtp, .int mta, .int mpl, .int mye, .int mmo, .int mda, .int mat, .ref mof, .ref msv, .ref mev, .ref mbg, .ref mec, .ref mru, .ref mst, .ref mtr, .ref mtd, .ref mwy, .ref mfi, .ref msc, .int mwa, .int mon, .int mtw, .ref mms, .ref mwd, .ref mho, .ref mhc, .ref mss, .ref mki, .ref mnm, .ref men, .ref msr, .ref mor, .ref mpe, .ref mdu, .ref mpr, .ref mpo, .ref mfl, .ref mcr, .ref mzo, .ref mca, .long mck, .int mwk, .long mmd, .long mas, .int mcl, .ref mtm, .ref mjb, .ref mno, .int msd])), (mtp, (100, jx_vi 400 mtf))] : List (Nat × (Nat × List Value))), M[zz.1]? = some zz.2 := List.forall_mem_cons.mpr ⟨h_a, List.forall_mem_cons.mpr ⟨h_mtp, fun _ hz => absurd hz List.not_mem_nil⟩⟩
  have hlt : ∀ zz ∈ ([a, mtp] : List Nat), zz < M.length := jx_lts hL
  refine jt_hq (jx_us_id hL).symm ?_
  show jt jp_M_peek rF rL 0 [(0, .ref a)] [] (jx_us M [(a, (9, [.int mfa, .ref mtp, .int mta, .int mpl, .int mye, .int mmo, .int mda, .int mat, .ref mof, .ref msv, .ref mev, .ref mbg, .ref mec, .ref mru, .ref mst, .ref mtr, .ref mtd, .ref mwy, .ref mfi, .ref msc, .int mwa, .int mon, .int mtw, .ref mms, .ref mwd, .ref mho, .ref mhc, .ref mss, .ref mki, .ref mnm, .ref men, .ref msr, .ref mor, .ref mpe, .ref mdu, .ref mpr, .ref mpo, .ref mfl, .ref mcr, .ref mzo, .ref mca, .long mck, .int mwk, .long mmd, .long mas, .int mcl, .ref mtm, .ref mjb, .ref mno, .int msd])), (mtp, (100, jx_vi 400 mtf))]) 0 0 (.inl (some (.int (g_M_peek mfa mta mpl mye mmo mda mat mwa mon mtw mck mwk mmd mas mcl msd mtf))), M, 0, 0)
  refine jt_sgp 1 (pc1 := 1) (lv1 := [(0, .ref a)]) (st1 := [.ref a]) rfl ?_
  refine jt_get rfl (jx_us_get (by exact hnd) (by exact hlt) 0 rfl) rfl ?_
  refine jt_sgp 1 (pc1 := 5) (lv1 := [(0, .ref a)]) (st1 := [.ref a, .int mat]) rfl ?_
  refine jt_get rfl (jx_us_get (by exact hnd) (by exact hlt) 0 rfl) rfl ?_
  have J28_2 : ∀ (v28 : Int32), v28 = (if mta ≤ mat then (-1) else ((mtf (mat : Int32).toNatClampNeg) &&& 255) : Int32) → jt jp_M_peek rF rL 28 [(0, .ref a)] [.int v28] (jx_us M [(a, (9, [.int mfa, .ref mtp, .int mta, .int mpl, .int mye, .int mmo, .int mda, .int mat, .ref mof, .ref msv, .ref mev, .ref mbg, .ref mec, .ref mru, .ref mst, .ref mtr, .ref mtd, .ref mwy, .ref mfi, .ref msc, .int mwa, .int mon, .int mtw, .ref mms, .ref mwd, .ref mho, .ref mhc, .ref mss, .ref mki, .ref mnm, .ref men, .ref msr, .ref mor, .ref mpe, .ref mdu, .ref mpr, .ref mpo, .ref mfl, .ref mcr, .ref mzo, .ref mca, .long mck, .int mwk, .long mmd, .long mas, .int mcl, .ref mtm, .ref mjb, .ref mno, .int msd])), (mtp, (100, jx_vi 400 mtf))]) 0 0 (.inl (some (.int (g_M_peek mfa mta mpl mye mmo mda mat mwa mon mtw mck mwk mmd mas mcl msd mtf))), M, 0, 0) := by
    intro v28 ev28
    exact jt_iret rfl rfl rfl (jx_oe (by show (some (Value.int _) : Option Value) = some (Value.int _); unfold g_M_peek; subst ev28; rfl) (jx_us_id hL))
  refine jt_icmp_ge (t := 27) rfl rfl (fun c1 => ?_) (fun c1 => ?_)
  · refine jt_sgp 1 (pc1 := 28) (lv1 := [(0, .ref a)]) (st1 := [.int (-1)]) rfl ?_
    exact J28_2 _ (by first | (simp only [if_pos c1, reduceIte]; done) | (with_reducible rfl))
  · refine jt_sgp 1 (pc1 := 12) (lv1 := [(0, .ref a)]) (st1 := [.ref a]) rfl ?_
    refine jt_get rfl (jx_us_get (by exact hnd) (by exact hlt) 0 rfl) rfl ?_
    refine jt_sgp 1 (pc1 := 16) (lv1 := [(0, .ref a)]) (st1 := [.ref a, .ref mtp]) rfl ?_
    refine jt_get rfl (jx_us_get (by exact hnd) (by exact hlt) 0 rfl) rfl ?_
    refine jt_bald rfl rfl (jx_us_get (by exact hnd) (by exact hlt) 1 rfl) (by first | exact jm_in p1 c1 p2 rfl | exact jm_in p1 c2 p2 rfl | exact jm_in p1 c3 p2 rfl | exact jm_in p1 c4 p2 rfl) ?_
    refine jt_sgp 3 (pc1 := 28) (lv1 := [(0, .ref a)]) (st1 := [.int ((mtf (mat : Int32).toNatClampNeg) &&& 255)]) rfl ?_
    exact J28_2 _ (by first | (simp only [if_neg c1, reduceIte]; done) | (with_reducible rfl))
def G_M_running_4 (mfa : Int32) (mta : Int32) (mpl : Int32) (mye : Int32) (mmo : Int32) (mda : Int32) (mat : Int32) (mwa : Int32) (mon : Int32) (mtw : Int32) (mck : Int64) (mwk : Int32) (mmd : Int64) (mas : Int64) (mcl : Int32) (msd : Int32) (sf : Nat → Int32) : Nat → (Int32) → (Int32) → Int32
  | 0, _, _ => 0
  | n + 1, k, nn =>
    let v26 : Int32 := if (sf (k : Int32).toNatClampNeg) ≤ 1 then 0 else 1
    if 100 ≤ k then nn else (G_M_running_4 mfa mta mpl mye mmo mda mat mwa mon mtw mck mwk mmd mas mcl msd sf n (k + 1) (nn + v26))
termination_by n _ _ => n
def g_M_running (mfa : Int32) (mta : Int32) (mpl : Int32) (mye : Int32) (mmo : Int32) (mda : Int32) (mat : Int32) (mwa : Int32) (mon : Int32) (mtw : Int32) (mck : Int64) (mwk : Int32) (mmd : Int64) (mas : Int64) (mcl : Int32) (msd : Int32) (sf : Nat → Int32) : Int32 :=
  G_M_running_4 mfa mta mpl mye mmo mda mat mwa mon mtw mck mwk mmd mas mcl msd sf 101 0 0
set_option maxRecDepth 20000 in
set_option maxHeartbeats 4000000 in
theorem q_M_running (a : Nat) (mfa : Int32) (mtp : Nat) (mta : Int32) (mpl : Int32) (mye : Int32) (mmo : Int32) (mda : Int32) (mat : Int32) (mof : Nat) (msv : Nat) (mev : Nat) (mbg : Nat) (mec : Nat) (mru : Nat) (mst : Nat) (mtr : Nat) (mtd : Nat) (mwy : Nat) (mfi : Nat) (msc : Nat) (mwa : Int32) (mon : Int32) (mtw : Int32) (mms : Nat) (mwd : Nat) (mho : Nat) (mhc : Nat) (mss : Nat) (mki : Nat) (mnm : Nat) (men : Nat) (msr : Nat) (mor : Nat) (mpe : Nat) (mdu : Nat) (mpr : Nat) (mpo : Nat) (mfl : Nat) (mcr : Nat) (mzo : Nat) (mca : Nat) (mck : Int64) (mwk : Int32) (mmd : Int64) (mas : Int64) (mcl : Int32) (mtm : Nat) (mjb : Nat) (mno : Nat) (msd : Int32) (sf : Nat → Int32) (M : jx_H) (h_a : M[a]? = some (9, [.int mfa, .ref mtp, .int mta, .int mpl, .int mye, .int mmo, .int mda, .int mat, .ref mof, .ref msv, .ref mev, .ref mbg, .ref mec, .ref mru, .ref mst, .ref mtr, .ref mtd, .ref mwy, .ref mfi, .ref msc, .int mwa, .int mon, .int mtw, .ref mms, .ref mwd, .ref mho, .ref mhc, .ref mss, .ref mki, .ref mnm, .ref men, .ref msr, .ref mor, .ref mpe, .ref mdu, .ref mpr, .ref mpo, .ref mfl, .ref mcr, .ref mzo, .ref mca, .long mck, .int mwk, .long mmd, .long mas, .int mcl, .ref mtm, .ref mjb, .ref mno, .int msd])) (h_mss : M[mss]? = some (102, jx_vi 100 sf)) (hnd : ([a, mss] : List Nat).Nodup)  (rF rL : Nat) (hfr : 0 ≤ rF) (hlo : 0 ≤ rL) : jt jp_M_running rF rL 0 [(0, .ref a)] [] M 0 0 (.inl (some (.int (g_M_running mfa mta mpl mye mmo mda mat mwa mon mtw mck mwk mmd mas mcl msd sf))), M, 0, 0) := by
  have hL : ∀ zz ∈ ([(a, (9, [.int mfa, .ref mtp, .int mta, .int mpl, .int mye, .int mmo, .int mda, .int mat, .ref mof, .ref msv, .ref mev, .ref mbg, .ref mec, .ref mru, .ref mst, .ref mtr, .ref mtd, .ref mwy, .ref mfi, .ref msc, .int mwa, .int mon, .int mtw, .ref mms, .ref mwd, .ref mho, .ref mhc, .ref mss, .ref mki, .ref mnm, .ref men, .ref msr, .ref mor, .ref mpe, .ref mdu, .ref mpr, .ref mpo, .ref mfl, .ref mcr, .ref mzo, .ref mca, .long mck, .int mwk, .long mmd, .long mas, .int mcl, .ref mtm, .ref mjb, .ref mno, .int msd])), (mss, (102, jx_vi 100 sf))] : List (Nat × (Nat × List Value))), M[zz.1]? = some zz.2 := List.forall_mem_cons.mpr ⟨h_a, List.forall_mem_cons.mpr ⟨h_mss, fun _ hz => absurd hz List.not_mem_nil⟩⟩
  have hlt : ∀ zz ∈ ([a, mss] : List Nat), zz < M.length := jx_lts hL
  refine jt_hq (jx_us_id hL).symm ?_
  show jt jp_M_running rF rL 0 [(0, .ref a)] [] (jx_us M [(a, (9, [.int mfa, .ref mtp, .int mta, .int mpl, .int mye, .int mmo, .int mda, .int mat, .ref mof, .ref msv, .ref mev, .ref mbg, .ref mec, .ref mru, .ref mst, .ref mtr, .ref mtd, .ref mwy, .ref mfi, .ref msc, .int mwa, .int mon, .int mtw, .ref mms, .ref mwd, .ref mho, .ref mhc, .ref mss, .ref mki, .ref mnm, .ref men, .ref msr, .ref mor, .ref mpe, .ref mdu, .ref mpr, .ref mpo, .ref mfl, .ref mcr, .ref mzo, .ref mca, .long mck, .int mwk, .long mmd, .long mas, .int mcl, .ref mtm, .ref mjb, .ref mno, .int msd])), (mss, (102, jx_vi 100 sf))]) 0 0 (.inl (some (.int (g_M_running mfa mta mpl mye mmo mda mat mwa mon mtw mck mwk mmd mas mcl msd sf))), M, 0, 0)
  refine jt_sgp 4 (pc1 := 4) (lv1 := [(2, .int 0), (1, .int 0), (0, .ref a)]) (st1 := []) rfl ?_
  refine jt_lvs (l1 := [(0, .ref a), (1, .int 0), (2, .int 0)]) rfl rfl ⟨rfl, rfl, rfl, trivial⟩ ?_
  obtain ⟨ro, hro⟩ : ∃ ro, ro = G_M_running_4 mfa mta mpl mye mmo mda mat mwa mon mtw mck mwk mmd mas mcl msd sf 101 0 0 := ⟨_, rfl⟩
  have LP4 : ∀ (n : Nat) (k : Int32) (nn : Int32), (0 ≤ k) → ((100 : Int32).toInt - k.toInt).toNat < n → G_M_running_4 mfa mta mpl mye mmo mda mat mwa mon mtw mck mwk mmd mas mcl msd sf n k nn = ro → jt jp_M_running rF rL 4 [(0, .ref a), (1, .int nn), (2, .int k)] [] (jx_us M [(a, (9, [.int mfa, .ref mtp, .int mta, .int mpl, .int mye, .int mmo, .int mda, .int mat, .ref mof, .ref msv, .ref mev, .ref mbg, .ref mec, .ref mru, .ref mst, .ref mtr, .ref mtd, .ref mwy, .ref mfi, .ref msc, .int mwa, .int mon, .int mtw, .ref mms, .ref mwd, .ref mho, .ref mhc, .ref mss, .ref mki, .ref mnm, .ref men, .ref msr, .ref mor, .ref mpe, .ref mdu, .ref mpr, .ref mpo, .ref mfl, .ref mcr, .ref mzo, .ref mca, .long mck, .int mwk, .long mmd, .long mas, .int mcl, .ref mtm, .ref mjb, .ref mno, .int msd])), (mss, (102, jx_vi 100 sf))]) 0 0 (.inl (some (.int (g_M_running mfa mta mpl mye mmo mda mat mwa mon mtw mck mwk mmd mas mcl msd sf))), M, 0, 0) := by
    intro n
    induction n with
    | zero => intro k nn i1 hm _; exact absurd hm (Nat.not_lt_zero _)
    | succ n ih =>
      intro k nn i1 hm hF
      simp only [G_M_running_4] at hF
      refine jt_sgp 2 (pc1 := 7) (lv1 := [(0, .ref a), (1, .int nn), (2, .int k)]) (st1 := [.int 100, .int k]) rfl ?_
      refine jt_icmp_ge (t := 34) rfl rfl (fun c1 => ?_) (fun c1 => ?_)
      · refine jt_sgp 1 (pc1 := 35) (lv1 := [(0, .ref a), (1, .int nn), (2, .int k)]) (st1 := [.int nn]) rfl ?_
        exact jt_iret rfl rfl rfl (jx_oe (by show (some (Value.int _) : Option Value) = some (Value.int _); simp only [if_pos c1, reduceIte] at hF; unfold g_M_running; (try dsimp only); rw [← hro, ← hF]) (jx_us_id hL))
      · refine jt_sgp 2 (pc1 := 12) (lv1 := [(0, .ref a), (1, .int nn), (2, .int k)]) (st1 := [.ref a, .int nn]) rfl ?_
        refine jt_get rfl (jx_us_get (by exact hnd) (by exact hlt) 0 rfl) rfl ?_
        refine jt_sgp 1 (pc1 := 16) (lv1 := [(0, .ref a), (1, .int nn), (2, .int k)]) (st1 := [.int k, .ref mss, .int nn]) rfl ?_
        refine jt_iald rfl (jx_us_get (by exact hnd) (by exact hlt) 1 rfl) (jm_in (M := 100) i1 c1 (by decide) rfl) ?_
        refine jt_sgp 1 (pc1 := 18) (lv1 := [(0, .ref a), (1, .int nn), (2, .int k)]) (st1 := [.int 1, .int (sf (k : Int32).toNatClampNeg), .int nn]) rfl ?_
        have J26_3 : ∀ (v26 : Int32), v26 = (if (sf (k : Int32).toNatClampNeg) ≤ 1 then 0 else 1 : Int32) → jt jp_M_running rF rL 26 [(0, .ref a), (1, .int nn), (2, .int k)] [.int v26, .int nn] (jx_us M [(a, (9, [.int mfa, .ref mtp, .int mta, .int mpl, .int mye, .int mmo, .int mda, .int mat, .ref mof, .ref msv, .ref mev, .ref mbg, .ref mec, .ref mru, .ref mst, .ref mtr, .ref mtd, .ref mwy, .ref mfi, .ref msc, .int mwa, .int mon, .int mtw, .ref mms, .ref mwd, .ref mho, .ref mhc, .ref mss, .ref mki, .ref mnm, .ref men, .ref msr, .ref mor, .ref mpe, .ref mdu, .ref mpr, .ref mpo, .ref mfl, .ref mcr, .ref mzo, .ref mca, .long mck, .int mwk, .long mmd, .long mas, .int mcl, .ref mtm, .ref mjb, .ref mno, .int msd])), (mss, (102, jx_vi 100 sf))]) 0 0 (.inl (some (.int (g_M_running mfa mta mpl mye mmo mda mat mwa mon mtw mck mwk mmd mas mcl msd sf))), M, 0, 0) := by
          intro v26 ev26
          refine jt_sgp 4 (pc1 := 4) (lv1 := [(2, .int (k + 1)), (1, .int (nn + v26)), (0, .ref a)]) (st1 := []) rfl ?_
          refine jt_lvs (l1 := [(0, .ref a), (1, .int (nn + v26)), (2, .int (k + 1))]) rfl rfl ⟨rfl, rfl, rfl, trivial⟩ ?_
          exact ih (k + 1) (nn + v26) (jm_inc0 i1 (jm_nl c1)) (jm_dec (jm_nl c1) hm) (by subst ev26; simp only [if_neg c1, reduceIte] at hF; exact hF)
        refine jt_icmp_le (t := 25) rfl rfl (fun c2 => ?_) (fun c2 => ?_)
        · refine jt_sgp 1 (pc1 := 26) (lv1 := [(0, .ref a), (1, .int nn), (2, .int k)]) (st1 := [.int 0, .int nn]) rfl ?_
          exact J26_3 _ (by first | (simp only [if_pos c2, reduceIte]; done) | (with_reducible rfl))
        · refine jt_sgp 2 (pc1 := 26) (lv1 := [(0, .ref a), (1, .int nn), (2, .int k)]) (st1 := [.int 1, .int nn]) rfl ?_
          exact J26_3 _ (by first | (simp only [if_neg c2, reduceIte]; done) | (with_reducible rfl))
  exact LP4 101 0 0 (by decide) (by decide) hro.symm
def G_M_there_4 (mfa : Int32) (mta : Int32) (mpl : Int32) (mye : Int32) (mmo : Int32) (mda : Int32) (mat : Int32) (mwa : Int32) (mon : Int32) (mtw : Int32) (mck : Int64) (mwk : Int32) (mmd : Int64) (mas : Int64) (mcl : Int32) (msd : Int32) (sf : Nat → Int32) : Nat → (Int32) → (Int32) → Int32
  | 0, _, _ => 0
  | n + 1, k, nn =>
    let v25 : Int32 := if (sf (k : Int32).toNatClampNeg) ≤ 0 then 0 else 1
    if 100 ≤ k then nn else (G_M_there_4 mfa mta mpl mye mmo mda mat mwa mon mtw mck mwk mmd mas mcl msd sf n (k + 1) (nn + v25))
termination_by n _ _ => n
def g_M_there (mfa : Int32) (mta : Int32) (mpl : Int32) (mye : Int32) (mmo : Int32) (mda : Int32) (mat : Int32) (mwa : Int32) (mon : Int32) (mtw : Int32) (mck : Int64) (mwk : Int32) (mmd : Int64) (mas : Int64) (mcl : Int32) (msd : Int32) (sf : Nat → Int32) : Int32 :=
  G_M_there_4 mfa mta mpl mye mmo mda mat mwa mon mtw mck mwk mmd mas mcl msd sf 101 0 0
set_option maxRecDepth 20000 in
set_option maxHeartbeats 4000000 in
theorem q_M_there (a : Nat) (mfa : Int32) (mtp : Nat) (mta : Int32) (mpl : Int32) (mye : Int32) (mmo : Int32) (mda : Int32) (mat : Int32) (mof : Nat) (msv : Nat) (mev : Nat) (mbg : Nat) (mec : Nat) (mru : Nat) (mst : Nat) (mtr : Nat) (mtd : Nat) (mwy : Nat) (mfi : Nat) (msc : Nat) (mwa : Int32) (mon : Int32) (mtw : Int32) (mms : Nat) (mwd : Nat) (mho : Nat) (mhc : Nat) (mss : Nat) (mki : Nat) (mnm : Nat) (men : Nat) (msr : Nat) (mor : Nat) (mpe : Nat) (mdu : Nat) (mpr : Nat) (mpo : Nat) (mfl : Nat) (mcr : Nat) (mzo : Nat) (mca : Nat) (mck : Int64) (mwk : Int32) (mmd : Int64) (mas : Int64) (mcl : Int32) (mtm : Nat) (mjb : Nat) (mno : Nat) (msd : Int32) (sf : Nat → Int32) (M : jx_H) (h_a : M[a]? = some (9, [.int mfa, .ref mtp, .int mta, .int mpl, .int mye, .int mmo, .int mda, .int mat, .ref mof, .ref msv, .ref mev, .ref mbg, .ref mec, .ref mru, .ref mst, .ref mtr, .ref mtd, .ref mwy, .ref mfi, .ref msc, .int mwa, .int mon, .int mtw, .ref mms, .ref mwd, .ref mho, .ref mhc, .ref mss, .ref mki, .ref mnm, .ref men, .ref msr, .ref mor, .ref mpe, .ref mdu, .ref mpr, .ref mpo, .ref mfl, .ref mcr, .ref mzo, .ref mca, .long mck, .int mwk, .long mmd, .long mas, .int mcl, .ref mtm, .ref mjb, .ref mno, .int msd])) (h_mss : M[mss]? = some (102, jx_vi 100 sf)) (hnd : ([a, mss] : List Nat).Nodup)  (rF rL : Nat) (hfr : 0 ≤ rF) (hlo : 0 ≤ rL) : jt jp_M_there rF rL 0 [(0, .ref a)] [] M 0 0 (.inl (some (.int (g_M_there mfa mta mpl mye mmo mda mat mwa mon mtw mck mwk mmd mas mcl msd sf))), M, 0, 0) := by
  have hL : ∀ zz ∈ ([(a, (9, [.int mfa, .ref mtp, .int mta, .int mpl, .int mye, .int mmo, .int mda, .int mat, .ref mof, .ref msv, .ref mev, .ref mbg, .ref mec, .ref mru, .ref mst, .ref mtr, .ref mtd, .ref mwy, .ref mfi, .ref msc, .int mwa, .int mon, .int mtw, .ref mms, .ref mwd, .ref mho, .ref mhc, .ref mss, .ref mki, .ref mnm, .ref men, .ref msr, .ref mor, .ref mpe, .ref mdu, .ref mpr, .ref mpo, .ref mfl, .ref mcr, .ref mzo, .ref mca, .long mck, .int mwk, .long mmd, .long mas, .int mcl, .ref mtm, .ref mjb, .ref mno, .int msd])), (mss, (102, jx_vi 100 sf))] : List (Nat × (Nat × List Value))), M[zz.1]? = some zz.2 := List.forall_mem_cons.mpr ⟨h_a, List.forall_mem_cons.mpr ⟨h_mss, fun _ hz => absurd hz List.not_mem_nil⟩⟩
  have hlt : ∀ zz ∈ ([a, mss] : List Nat), zz < M.length := jx_lts hL
  refine jt_hq (jx_us_id hL).symm ?_
  show jt jp_M_there rF rL 0 [(0, .ref a)] [] (jx_us M [(a, (9, [.int mfa, .ref mtp, .int mta, .int mpl, .int mye, .int mmo, .int mda, .int mat, .ref mof, .ref msv, .ref mev, .ref mbg, .ref mec, .ref mru, .ref mst, .ref mtr, .ref mtd, .ref mwy, .ref mfi, .ref msc, .int mwa, .int mon, .int mtw, .ref mms, .ref mwd, .ref mho, .ref mhc, .ref mss, .ref mki, .ref mnm, .ref men, .ref msr, .ref mor, .ref mpe, .ref mdu, .ref mpr, .ref mpo, .ref mfl, .ref mcr, .ref mzo, .ref mca, .long mck, .int mwk, .long mmd, .long mas, .int mcl, .ref mtm, .ref mjb, .ref mno, .int msd])), (mss, (102, jx_vi 100 sf))]) 0 0 (.inl (some (.int (g_M_there mfa mta mpl mye mmo mda mat mwa mon mtw mck mwk mmd mas mcl msd sf))), M, 0, 0)
  refine jt_sgp 4 (pc1 := 4) (lv1 := [(2, .int 0), (1, .int 0), (0, .ref a)]) (st1 := []) rfl ?_
  refine jt_lvs (l1 := [(0, .ref a), (1, .int 0), (2, .int 0)]) rfl rfl ⟨rfl, rfl, rfl, trivial⟩ ?_
  obtain ⟨ro, hro⟩ : ∃ ro, ro = G_M_there_4 mfa mta mpl mye mmo mda mat mwa mon mtw mck mwk mmd mas mcl msd sf 101 0 0 := ⟨_, rfl⟩
  have LP4 : ∀ (n : Nat) (k : Int32) (nn : Int32), (0 ≤ k) → ((100 : Int32).toInt - k.toInt).toNat < n → G_M_there_4 mfa mta mpl mye mmo mda mat mwa mon mtw mck mwk mmd mas mcl msd sf n k nn = ro → jt jp_M_there rF rL 4 [(0, .ref a), (1, .int nn), (2, .int k)] [] (jx_us M [(a, (9, [.int mfa, .ref mtp, .int mta, .int mpl, .int mye, .int mmo, .int mda, .int mat, .ref mof, .ref msv, .ref mev, .ref mbg, .ref mec, .ref mru, .ref mst, .ref mtr, .ref mtd, .ref mwy, .ref mfi, .ref msc, .int mwa, .int mon, .int mtw, .ref mms, .ref mwd, .ref mho, .ref mhc, .ref mss, .ref mki, .ref mnm, .ref men, .ref msr, .ref mor, .ref mpe, .ref mdu, .ref mpr, .ref mpo, .ref mfl, .ref mcr, .ref mzo, .ref mca, .long mck, .int mwk, .long mmd, .long mas, .int mcl, .ref mtm, .ref mjb, .ref mno, .int msd])), (mss, (102, jx_vi 100 sf))]) 0 0 (.inl (some (.int (g_M_there mfa mta mpl mye mmo mda mat mwa mon mtw mck mwk mmd mas mcl msd sf))), M, 0, 0) := by
    intro n
    induction n with
    | zero => intro k nn i1 hm _; exact absurd hm (Nat.not_lt_zero _)
    | succ n ih =>
      intro k nn i1 hm hF
      simp only [G_M_there_4] at hF
      refine jt_sgp 2 (pc1 := 7) (lv1 := [(0, .ref a), (1, .int nn), (2, .int k)]) (st1 := [.int 100, .int k]) rfl ?_
      refine jt_icmp_ge (t := 33) rfl rfl (fun c1 => ?_) (fun c1 => ?_)
      · refine jt_sgp 1 (pc1 := 34) (lv1 := [(0, .ref a), (1, .int nn), (2, .int k)]) (st1 := [.int nn]) rfl ?_
        exact jt_iret rfl rfl rfl (jx_oe (by show (some (Value.int _) : Option Value) = some (Value.int _); simp only [if_pos c1, reduceIte] at hF; unfold g_M_there; (try dsimp only); rw [← hro, ← hF]) (jx_us_id hL))
      · refine jt_sgp 2 (pc1 := 12) (lv1 := [(0, .ref a), (1, .int nn), (2, .int k)]) (st1 := [.ref a, .int nn]) rfl ?_
        refine jt_get rfl (jx_us_get (by exact hnd) (by exact hlt) 0 rfl) rfl ?_
        refine jt_sgp 1 (pc1 := 16) (lv1 := [(0, .ref a), (1, .int nn), (2, .int k)]) (st1 := [.int k, .ref mss, .int nn]) rfl ?_
        refine jt_iald rfl (jx_us_get (by exact hnd) (by exact hlt) 1 rfl) (jm_in (M := 100) i1 c1 (by decide) rfl) ?_
        have J25_3 : ∀ (v25 : Int32), v25 = (if (sf (k : Int32).toNatClampNeg) ≤ 0 then 0 else 1 : Int32) → jt jp_M_there rF rL 25 [(0, .ref a), (1, .int nn), (2, .int k)] [.int v25, .int nn] (jx_us M [(a, (9, [.int mfa, .ref mtp, .int mta, .int mpl, .int mye, .int mmo, .int mda, .int mat, .ref mof, .ref msv, .ref mev, .ref mbg, .ref mec, .ref mru, .ref mst, .ref mtr, .ref mtd, .ref mwy, .ref mfi, .ref msc, .int mwa, .int mon, .int mtw, .ref mms, .ref mwd, .ref mho, .ref mhc, .ref mss, .ref mki, .ref mnm, .ref men, .ref msr, .ref mor, .ref mpe, .ref mdu, .ref mpr, .ref mpo, .ref mfl, .ref mcr, .ref mzo, .ref mca, .long mck, .int mwk, .long mmd, .long mas, .int mcl, .ref mtm, .ref mjb, .ref mno, .int msd])), (mss, (102, jx_vi 100 sf))]) 0 0 (.inl (some (.int (g_M_there mfa mta mpl mye mmo mda mat mwa mon mtw mck mwk mmd mas mcl msd sf))), M, 0, 0) := by
          intro v25 ev25
          refine jt_sgp 4 (pc1 := 4) (lv1 := [(2, .int (k + 1)), (1, .int (nn + v25)), (0, .ref a)]) (st1 := []) rfl ?_
          refine jt_lvs (l1 := [(0, .ref a), (1, .int (nn + v25)), (2, .int (k + 1))]) rfl rfl ⟨rfl, rfl, rfl, trivial⟩ ?_
          exact ih (k + 1) (nn + v25) (jm_inc0 i1 (jm_nl c1)) (jm_dec (jm_nl c1) hm) (by subst ev25; simp only [if_neg c1, reduceIte] at hF; exact hF)
        refine jt_if_le (t := 24) rfl rfl (fun c2 => ?_) (fun c2 => ?_)
        · refine jt_sgp 1 (pc1 := 25) (lv1 := [(0, .ref a), (1, .int nn), (2, .int k)]) (st1 := [.int 0, .int nn]) rfl ?_
          exact J25_3 _ (by first | (simp only [if_pos c2, reduceIte]; done) | (with_reducible rfl))
        · refine jt_sgp 2 (pc1 := 25) (lv1 := [(0, .ref a), (1, .int nn), (2, .int k)]) (st1 := [.int 1, .int nn]) rfl ?_
          exact J25_3 _ (by first | (simp only [if_neg c2, reduceIte]; done) | (with_reducible rfl))
  exact LP4 101 0 0 (by decide) (by decide) hro.symm
