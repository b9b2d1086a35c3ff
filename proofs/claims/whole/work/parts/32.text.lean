theorem jm_in {N : Nat} {i n M : Int32} (h0 : 0 ≤ i) (h1 : ¬ n ≤ i) (h2 : n ≤ M) (hM : M.toInt = N) : vp_in i N := by
  rw [vp_in_iff]
  simp only [Int32.le_iff_toInt_le] at *
  have h3 : (0 : Int32).toInt = 0 := rfl
  omega
theorem jm_inl {N : Nat} {i n M : Int32} (h0 : 0 ≤ i) (h1 : i < n) (h2 : n ≤ M) (hM : M.toInt = N) : vp_in i N := by
  rw [vp_in_iff]
  simp only [Int32.le_iff_toInt_le, Int32.lt_iff_toInt_lt] at *
  have h3 : (0 : Int32).toInt = 0 := rfl
  omega
def g_T_rewind_a_2 (len : Int32) (at_ : Int32) (br : Int32) (f : Nat → Int32) : Int32 :=
  0
def g_T_rewind_a_3 (len : Int32) (at_ : Int32) (br : Int32) (f : Nat → Int32) : Int32 :=
  -1
set_option maxRecDepth 20000 in
set_option maxHeartbeats 4000000 in
theorem q_T_rewind (a : Nat) (q : Nat) (len : Int32) (at_ : Int32) (br : Int32) (f : Nat → Int32) (M : jx_H) (h_a : M[a]? = some (1, [.ref q, .int len, .int at_, .int br])) (h_q : M[q]? = some (100, jx_vi 400 f)) (hnd : ([a, q] : List Nat).Nodup)  (rF rL : Nat) (hfr : 0 ≤ rF) (hlo : 0 ≤ rL) : jt jp_T_rewind rF rL 0 [(0, .ref a)] [] M 0 0 (.inl none, (jx_us M [(a, (1, [.ref q, .int len, .int (g_T_rewind_a_2 len at_ br f), .int (g_T_rewind_a_3 len at_ br f)])), (q, (100, jx_vi 400 f))]), 0, 0) := by
  have hL : ∀ zz ∈ ([(a, (1, [.ref q, .int len, .int at_, .int br])), (q, (100, jx_vi 400 f))] : List (Nat × (Nat × List Value))), M[zz.1]? = some zz.2 := List.forall_mem_cons.mpr ⟨h_a, List.forall_mem_cons.mpr ⟨h_q, fun _ hz => absurd hz List.not_mem_nil⟩⟩
  have hlt : ∀ zz ∈ ([a, q] : List Nat), zz < M.length := jx_lts hL
  refine jt_hq (jx_us_id hL).symm ?_
  show jt jp_T_rewind rF rL 0 [(0, .ref a)] [] (jx_us M [(a, (1, [.ref q, .int len, .int at_, .int br])), (q, (100, jx_vi 400 f))]) 0 0 (.inl none, (jx_us M [(a, (1, [.ref q, .int len, .int (g_T_rewind_a_2 len at_ br f), .int (g_T_rewind_a_3 len at_ br f)])), (q, (100, jx_vi 400 f))]), 0, 0)
  refine jt_sgp 2 (pc1 := 2) (lv1 := [(0, .ref a)]) (st1 := [.int 0, .ref a]) rfl ?_
  refine jt_put rfl (jx_us_get (by exact hnd) (by exact hlt) 0 rfl) (Nat.le_of_ble_eq_true rfl) rfl (Or.inl rfl) (jx_us_set (by exact hnd) 0 rfl (L1 := [(a, (1, [.ref q, .int len, .int 0, .int br])), (q, (100, jx_vi 400 f))]) rfl) ?_
  refine jt_sgp 2 (pc1 := 7) (lv1 := [(0, .ref a)]) (st1 := [.int (-1), .ref a]) rfl ?_
  refine jt_put rfl (jx_us_get (by exact hnd) (by exact hlt) 0 rfl) (Nat.le_of_ble_eq_true rfl) rfl (Or.inl rfl) (jx_us_set (by exact hnd) 0 rfl (L1 := [(a, (1, [.ref q, .int len, .int 0, .int (-1)])), (q, (100, jx_vi 400 f))]) rfl) ?_
  exact jt_vret rfl rfl (jx_oe rfl (by show jx_us M _ = jx_us M _; unfold g_T_rewind_a_2 g_T_rewind_a_3; rfl))
def g_T_breakAt_a_3 (w : Int32) (len : Int32) (at_ : Int32) (br : Int32) (f : Nat → Int32) : Int32 :=
  let v13 : Int32 := if br = (-1) then w else br
  v13
set_option maxRecDepth 20000 in
set_option maxHeartbeats 4000000 in
theorem q_T_breakAt (a : Nat) (w : Int32) (q : Nat) (len : Int32) (at_ : Int32) (br : Int32) (f : Nat → Int32) (M : jx_H) (h_a : M[a]? = some (1, [.ref q, .int len, .int at_, .int br])) (h_q : M[q]? = some (100, jx_vi 400 f)) (hnd : ([a, q] : List Nat).Nodup)  (rF rL : Nat) (hfr : 0 ≤ rF) (hlo : 0 ≤ rL) : jt jp_T_breakAt rF rL 0 [(0, .ref a), (1, .int w)] [] M 0 0 (.inl none, (jx_us M [(a, (1, [.ref q, .int len, .int at_, .int (g_T_breakAt_a_3 w len at_ br f)])), (q, (100, jx_vi 400 f))]), 0, 0) := by
  have hL : ∀ zz ∈ ([(a, (1, [.ref q, .int len, .int at_, .int br])), (q, (100, jx_vi 400 f))] : List (Nat × (Nat × List Value))), M[zz.1]? = some zz.2 := List.forall_mem_cons.mpr ⟨h_a, List.forall_mem_cons.mpr ⟨h_q, fun _ hz => absurd hz List.not_mem_nil⟩⟩
  have hlt : ∀ zz ∈ ([a, q] : List Nat), zz < M.length := jx_lts hL
  refine jt_hq (jx_us_id hL).symm ?_
  show jt jp_T_breakAt rF rL 0 [(0, .ref a), (1, .int w)] [] (jx_us M [(a, (1, [.ref q, .int len, .int at_, .int br])), (q, (100, jx_vi 400 f))]) 0 0 (.inl none, (jx_us M [(a, (1, [.ref q, .int len, .int at_, .int (g_T_breakAt_a_3 w len at_ br f)])), (q, (100, jx_vi 400 f))]), 0, 0)
  refine jt_sgp 1 (pc1 := 1) (lv1 := [(0, .ref a), (1, .int w)]) (st1 := [.ref a]) rfl ?_
  refine jt_get rfl (jx_us_get (by exact hnd) (by exact hlt) 0 rfl) rfl ?_
  refine jt_sgp 1 (pc1 := 5) (lv1 := [(0, .ref a), (1, .int w)]) (st1 := [.int (-1), .int br]) rfl ?_
  have J13_2 : ∀ (v13 : Int32), v13 = (if br = (-1) then w else br : Int32) → jt jp_T_breakAt rF rL 13 [(0, .ref a), (1, .int w)] [] (jx_us M [(a, (1, [.ref q, .int len, .int at_, .int v13])), (q, (100, jx_vi 400 f))]) 0 0 (.inl none, (jx_us M [(a, (1, [.ref q, .int len, .int at_, .int (g_T_breakAt_a_3 w len at_ br f)])), (q, (100, jx_vi 400 f))]), 0, 0) := by
    intro v13 ev13
    exact jt_vret rfl rfl (jx_oe rfl (by show jx_us M _ = jx_us M _; unfold g_T_breakAt_a_3; subst ev13; rfl))
  refine jt_icmp_ne (t := 13) rfl rfl (fun c1 => ?_) (fun c1 => ?_)
  · exact J13_2 _ (by first | (simp only [if_neg c1, reduceIte]; done) | (with_reducible rfl))
  · refine jt_sgp 2 (pc1 := 10) (lv1 := [(0, .ref a), (1, .int w)]) (st1 := [.int w, .ref a]) rfl ?_
    refine jt_put rfl (jx_us_get (by exact hnd) (by exact hlt) 0 rfl) (Nat.le_of_ble_eq_true rfl) rfl (Or.inl rfl) (jx_us_set (by exact hnd) 0 rfl (L1 := [(a, (1, [.ref q, .int len, .int at_, .int w])), (q, (100, jx_vi 400 f))]) rfl) ?_
    exact J13_2 _ (by first | (simp only [if_pos c1, reduceIte]; done) | (with_reducible rfl))
def g_T_isDigit (w : Int32) : Int32 :=
  let v17 : Int32 := if w < 48 then 0 else (if 57 < w then 0 else 1)
  v17
set_option maxRecDepth 20000 in
set_option maxHeartbeats 4000000 in
theorem q_T_isDigit (w : Int32) (M : jx_H)    (rF rL : Nat) (hfr : 0 ≤ rF) (hlo : 0 ≤ rL) : jt jp_T_isDigit rF rL 0 [(0, .int w)] [] M 0 0 (.inl (some (.int (g_T_isDigit w))), M, 0, 0) := by
  refine jt_sgp 2 (pc1 := 3) (lv1 := [(0, .int w)]) (st1 := [.int 48, .int w]) rfl ?_
  have J17_2 : ∀ (v17 : Int32), v17 = (if w < 48 then 0 else (if 57 < w then 0 else 1) : Int32) → jt jp_T_isDigit rF rL 17 [(0, .int w)] [.int v17] (M) 0 0 (.inl (some (.int (g_T_isDigit w))), M, 0, 0) := by
    intro v17 ev17
    exact jt_iret rfl rfl (by first | rfl | (subst ev17; (repeat' split) <;> rfl)) (jx_oe (by show (some (Value.int _) : Option Value) = some (Value.int _); unfold g_T_isDigit; subst ev17; rfl) rfl)
  refine jt_icmp_lt (t := 16) rfl rfl (fun c1 => ?_) (fun c1 => ?_)
  · refine jt_sgp 1 (pc1 := 17) (lv1 := [(0, .int w)]) (st1 := [.int 0]) rfl ?_
    exact J17_2 _ (by first | (simp only [if_pos c1, reduceIte]; done) | (with_reducible rfl))
  · refine jt_sgp 2 (pc1 := 9) (lv1 := [(0, .int w)]) (st1 := [.int 57, .int w]) rfl ?_
    refine jt_icmp_gt (t := 16) rfl rfl (fun c3 => ?_) (fun c3 => ?_)
    · refine jt_sgp 1 (pc1 := 17) (lv1 := [(0, .int w)]) (st1 := [.int 0]) rfl ?_
      exact J17_2 _ (by first | (simp only [if_neg c1, if_pos c3, reduceIte]; done) | (with_reducible rfl))
    · refine jt_sgp 2 (pc1 := 17) (lv1 := [(0, .int w)]) (st1 := [.int 1]) rfl ?_
      exact J17_2 _ (by first | (simp only [if_neg c1, if_neg c3, reduceIte]; done) | (with_reducible rfl))
def g_T_peek (len : Int32) (at_ : Int32) (br : Int32) (f : Nat → Int32) : Int32 :=
  let v36 : Int32 := if br = (-1) then (if at_ < len then ((f (at_ : Int32).toNatClampNeg) &&& 255) else (-1)) else (-1)
  v36
set_option maxRecDepth 20000 in
set_option maxHeartbeats 4000000 in
theorem q_T_peek (a : Nat) (q : Nat) (len : Int32) (at_ : Int32) (br : Int32) (f : Nat → Int32) (M : jx_H) (h_a : M[a]? = some (1, [.ref q, .int len, .int at_, .int br])) (h_q : M[q]? = some (100, jx_vi 400 f)) (hnd : ([a, q] : List Nat).Nodup) (p1 : 0 ≤ at_) (p2 : len ≤ 400) (rF rL : Nat) (hfr : 0 ≤ rF) (hlo : 0 ≤ rL) : jt jp_T_peek rF rL 0 [(0, .ref a)] [] M 0 0 (.inl (some (.int (g_T_peek len at_ br f))), M, 0, 0) := by
  have hL : ∀ zz ∈ ([(a, (1, [.ref q, .int len, .int at_, .int br])), (q, (100, jx_vi 400 f))] : List (Nat × (Nat × List Value))), M[zz.1]? = some zz.2 := List.forall_mem_cons.mpr ⟨h_a, List.forall_mem_cons.mpr ⟨h_q, fun _ hz => absurd hz List.not_mem_nil⟩⟩
  have hlt : ∀ zz ∈ ([a, q] : List Nat), zz < M.length := jx_lts hL
  refine jt_hq (jx_us_id hL).symm ?_
  show jt jp_T_peek rF rL 0 [(0, .ref a)] [] (jx_us M [(a, (1, [.ref q, .int len, .int at_, .int br])), (q, (100, jx_vi 400 f))]) 0 0 (.inl (some (.int (g_T_peek len at_ br f))), M, 0, 0)
  refine jt_sgp 1 (pc1 := 1) (lv1 := [(0, .ref a)]) (st1 := [.ref a]) rfl ?_
  refine jt_get rfl (jx_us_get (by exact hnd) (by exact hlt) 0 rfl) rfl ?_
  refine jt_sgp 1 (pc1 := 5) (lv1 := [(0, .ref a)]) (st1 := [.int (-1), .int br]) rfl ?_
  have J36_2 : ∀ (v36 : Int32), v36 = (if br = (-1) then (if at_ < len then ((f (at_ : Int32).toNatClampNeg) &&& 255) else (-1)) else (-1) : Int32) → jt jp_T_peek rF rL 36 [(0, .ref a)] [.int v36] (jx_us M [(a, (1, [.ref q, .int len, .int at_, .int br])), (q, (100, jx_vi 400 f))]) 0 0 (.inl (some (.int (g_T_peek len at_ br f))), M, 0, 0) := by
    intro v36 ev36
    exact jt_iret rfl rfl rfl (jx_oe (by show (some (Value.int _) : Option Value) = some (Value.int _); unfold g_T_peek; subst ev36; rfl) (jx_us_id hL))
  refine jt_icmp_ne (t := 19) rfl rfl (fun c1 => ?_) (fun c1 => ?_)
  · refine jt_sgp 2 (pc1 := 36) (lv1 := [(0, .ref a)]) (st1 := [.int (-1)]) rfl ?_
    exact J36_2 _ (by first | (simp only [if_neg c1, reduceIte]; done) | (with_reducible rfl))
  · refine jt_sgp 1 (pc1 := 9) (lv1 := [(0, .ref a)]) (st1 := [.ref a]) rfl ?_
    refine jt_get rfl (jx_us_get (by exact hnd) (by exact hlt) 0 rfl) rfl ?_
    refine jt_sgp 1 (pc1 := 13) (lv1 := [(0, .ref a)]) (st1 := [.ref a, .int at_]) rfl ?_
    refine jt_get rfl (jx_us_get (by exact hnd) (by exact hlt) 0 rfl) rfl ?_
    refine jt_icmp_lt (t := 23) rfl rfl (fun c3 => ?_) (fun c3 => ?_)
    · refine jt_sgp 1 (pc1 := 24) (lv1 := [(0, .ref a)]) (st1 := [.ref a]) rfl ?_
      refine jt_get rfl (jx_us_get (by exact hnd) (by exact hlt) 0 rfl) rfl ?_
      refine jt_sgp 1 (pc1 := 28) (lv1 := [(0, .ref a)]) (st1 := [.ref a, .ref q]) rfl ?_
      refine jt_get rfl (jx_us_get (by exact hnd) (by exact hlt) 0 rfl) rfl ?_
      refine jt_bald rfl rfl (jx_us_get (by exact hnd) (by exact hlt) 1 rfl) (jm_inl p1 c3 p2 rfl) ?_
      refine jt_sgp 2 (pc1 := 36) (lv1 := [(0, .ref a)]) (st1 := [.int ((f (at_ : Int32).toNatClampNeg) &&& 255)]) rfl ?_
      exact J36_2 _ (by first | (simp only [if_pos c1, if_pos c3, reduceIte]; done) | (with_reducible rfl))
    · refine jt_sgp 2 (pc1 := 36) (lv1 := [(0, .ref a)]) (st1 := [.int (-1)]) rfl ?_
      exact J36_2 _ (by first | (simp only [if_pos c1, if_neg c3, reduceIte]; done) | (with_reducible rfl))
def g_T_isDone (len : Int32) (at_ : Int32) (br : Int32) (f : Nat → Int32) : Int32 :=
  let v13 : Int32 := if (g_T_peek len at_ br f) = (-1) then 1 else 0
  v13
set_option maxRecDepth 20000 in
set_option maxHeartbeats 4000000 in
theorem q_T_isDone (a : Nat) (q : Nat) (len : Int32) (at_ : Int32) (br : Int32) (f : Nat → Int32) (M : jx_H) (h_a : M[a]? = some (1, [.ref q, .int len, .int at_, .int br])) (h_q : M[q]? = some (100, jx_vi 400 f)) (hnd : ([a, q] : List Nat).Nodup) (p1 : 0 ≤ at_) (p2 : len ≤ 400) (rF rL : Nat) (hfr : 1 ≤ rF) (hlo : 20 ≤ rL) : jt jp_T_isDone rF rL 0 [(0, .ref a)] [] M 0 0 (.inl (some (.int (g_T_isDone len at_ br f))), M, 0, 0) := by
  have hL : ∀ zz ∈ ([(a, (1, [.ref q, .int len, .int at_, .int br])), (q, (100, jx_vi 400 f))] : List (Nat × (Nat × List Value))), M[zz.1]? = some zz.2 := List.forall_mem_cons.mpr ⟨h_a, List.forall_mem_cons.mpr ⟨h_q, fun _ hz => absurd hz List.not_mem_nil⟩⟩
  have hlt : ∀ zz ∈ ([a, q] : List Nat), zz < M.length := jx_lts hL
  refine jt_hq (jx_us_id hL).symm ?_
  show jt jp_T_isDone rF rL 0 [(0, .ref a)] [] (jx_us M [(a, (1, [.ref q, .int len, .int at_, .int br])), (q, (100, jx_vi 400 f))]) 0 0 (.inl (some (.int (g_T_isDone len at_ br f))), M, 0, 0)
  refine jt_sgp 1 (pc1 := 1) (lv1 := [(0, .ref a)]) (st1 := [.ref a]) rfl ?_
  refine jt_callv (k := 150) (m2 := jp_T_peek) (As := []) (b := a) (r := []) (mx := 1) rfl rfl rfl (jx_us_get (by exact hnd) (by exact hlt) 0 rfl) (Nat.le_of_ble_eq_true rfl) rfl rfl rfl (by omega) (by omega) (Nat.le_of_ble_eq_true rfl) (q_T_peek a q len at_ br f (jx_us M [(a, (1, [.ref q, .int len, .int at_, .int br])), (q, (100, jx_vi 400 f))]) (jx_us_get (by exact hnd) (by exact hlt) 0 rfl) (jx_us_get (by exact hnd) (by exact hlt) 1 rfl) (jm_pick hnd [0, 1] (by decide) rfl) (by first | with_reducible assumption | decide +kernel) (by first | with_reducible assumption | decide +kernel) _ _ (by omega) (by omega)) ?_
  show jt jp_T_isDone rF rL 4 [(0, .ref a)] [.int (g_T_peek len at_ br f)] (jx_us M [(a, (1, [.ref q, .int len, .int at_, .int br])), (q, (100, jx_vi 400 f))]) 0 0 (.inl (some (.int (g_T_isDone len at_ br f))), M, 0, 0)
  refine jt_sgp 1 (pc1 := 5) (lv1 := [(0, .ref a)]) (st1 := [.int (-1), .int (g_T_peek len at_ br f)]) rfl ?_
  have J13_2 : ∀ (v13 : Int32), v13 = (if (g_T_peek len at_ br f) = (-1) then 1 else 0 : Int32) → jt jp_T_isDone rF rL 13 [(0, .ref a)] [.int v13] (jx_us M [(a, (1, [.ref q, .int len, .int at_, .int br])), (q, (100, jx_vi 400 f))]) 0 0 (.inl (some (.int (g_T_isDone len at_ br f))), M, 0, 0) := by
    intro v13 ev13
    exact jt_iret rfl rfl (by first | rfl | (subst ev13; (repeat' split) <;> rfl)) (jx_oe (by show (some (Value.int _) : Option Value) = some (Value.int _); unfold g_T_isDone; subst ev13; rfl) (jx_us_id hL))
  refine jt_icmp_ne (t := 12) rfl rfl (fun c1 => ?_) (fun c1 => ?_)
  · refine jt_sgp 1 (pc1 := 13) (lv1 := [(0, .ref a)]) (st1 := [.int 0]) rfl ?_
    exact J13_2 _ (by first | (simp only [if_neg c1, reduceIte]; done) | (with_reducible rfl))
  · refine jt_sgp 2 (pc1 := 13) (lv1 := [(0, .ref a)]) (st1 := [.int 1]) rfl ?_
    exact J13_2 _ (by first | (simp only [if_pos c1, reduceIte]; done) | (with_reducible rfl))
def g_T_take (w : Int32) (len : Int32) (at_ : Int32) (br : Int32) (f : Nat → Int32) : Int32 :=
  if (g_T_peek len at_ br f) = w then 1 else 0
def g_T_take_a_2 (w : Int32) (len : Int32) (at_ : Int32) (br : Int32) (f : Nat → Int32) : Int32 :=
  if (g_T_peek len at_ br f) = w then (at_ + 1) else at_
set_option maxRecDepth 20000 in
set_option maxHeartbeats 4000000 in
theorem q_T_take (a : Nat) (w : Int32) (q : Nat) (len : Int32) (at_ : Int32) (br : Int32) (f : Nat → Int32) (M : jx_H) (h_a : M[a]? = some (1, [.ref q, .int len, .int at_, .int br])) (h_q : M[q]? = some (100, jx_vi 400 f)) (hnd : ([a, q] : List Nat).Nodup) (p1 : 0 ≤ at_) (p2 : len ≤ 400) (rF rL : Nat) (hfr : 1 ≤ rF) (hlo : 20 ≤ rL) : jt jp_T_take rF rL 0 [(0, .ref a), (1, .int w)] [] M 0 0 (.inl (some (.int (g_T_take w len at_ br f))), (jx_us M [(a, (1, [.ref q, .int len, .int (g_T_take_a_2 w len at_ br f), .int br])), (q, (100, jx_vi 400 f))]), 0, 0) := by
  have hL : ∀ zz ∈ ([(a, (1, [.ref q, .int len, .int at_, .int br])), (q, (100, jx_vi 400 f))] : List (Nat × (Nat × List Value))), M[zz.1]? = some zz.2 := List.forall_mem_cons.mpr ⟨h_a, List.forall_mem_cons.mpr ⟨h_q, fun _ hz => absurd hz List.not_mem_nil⟩⟩
  have hlt : ∀ zz ∈ ([a, q] : List Nat), zz < M.length := jx_lts hL
  refine jt_hq (jx_us_id hL).symm ?_
  show jt jp_T_take rF rL 0 [(0, .ref a), (1, .int w)] [] (jx_us M [(a, (1, [.ref q, .int len, .int at_, .int br])), (q, (100, jx_vi 400 f))]) 0 0 (.inl (some (.int (g_T_take w len at_ br f))), (jx_us M [(a, (1, [.ref q, .int len, .int (g_T_take_a_2 w len at_ br f), .int br])), (q, (100, jx_vi 400 f))]), 0, 0)
  refine jt_sgp 1 (pc1 := 1) (lv1 := [(0, .ref a), (1, .int w)]) (st1 := [.ref a]) rfl ?_
  refine jt_callv (k := 150) (m2 := jp_T_peek) (As := []) (b := a) (r := []) (mx := 1) rfl rfl rfl (jx_us_get (by exact hnd) (by exact hlt) 0 rfl) (Nat.le_of_ble_eq_true rfl) rfl rfl rfl (by omega) (by omega) (Nat.le_of_ble_eq_true rfl) (q_T_peek a q len at_ br f (jx_us M [(a, (1, [.ref q, .int len, .int at_, .int br])), (q, (100, jx_vi 400 f))]) (jx_us_get (by exact hnd) (by exact hlt) 0 rfl) (jx_us_get (by exact hnd) (by exact hlt) 1 rfl) (jm_pick hnd [0, 1] (by decide) rfl) (by first | with_reducible assumption | decide +kernel) (by first | with_reducible assumption | decide +kernel) _ _ (by omega) (by omega)) ?_
  show jt jp_T_take rF rL 4 [(0, .ref a), (1, .int w)] [.int (g_T_peek len at_ br f)] (jx_us M [(a, (1, [.ref q, .int len, .int at_, .int br])), (q, (100, jx_vi 400 f))]) 0 0 (.inl (some (.int (g_T_take w len at_ br f))), (jx_us M [(a, (1, [.ref q, .int len, .int (g_T_take_a_2 w len at_ br f), .int br])), (q, (100, jx_vi 400 f))]), 0, 0)
  refine jt_sgp 1 (pc1 := 5) (lv1 := [(0, .ref a), (1, .int w)]) (st1 := [.int w, .int (g_T_peek len at_ br f)]) rfl ?_
  refine jt_icmp_eq (t := 10) rfl rfl (fun c1 => ?_) (fun c1 => ?_)
  · refine jt_sgp 2 (pc1 := 12) (lv1 := [(0, .ref a), (1, .int w)]) (st1 := [.ref a, .ref a]) rfl ?_
    refine jt_get rfl (jx_us_get (by exact hnd) (by exact hlt) 0 rfl) rfl ?_
    refine jt_sgp 2 (pc1 := 17) (lv1 := [(0, .ref a), (1, .int w)]) (st1 := [.int (at_ + 1), .ref a]) rfl ?_
    refine jt_put rfl (jx_us_get (by exact hnd) (by exact hlt) 0 rfl) (Nat.le_of_ble_eq_true rfl) rfl (Or.inl rfl) (jx_us_set (by exact hnd) 0 rfl (L1 := [(a, (1, [.ref q, .int len, .int (at_ + 1), .int br])), (q, (100, jx_vi 400 f))]) rfl) ?_
    refine jt_sgp 1 (pc1 := 21) (lv1 := [(0, .ref a), (1, .int w)]) (st1 := [.int 1]) rfl ?_
    exact jt_iret rfl rfl (by first | rfl | ((repeat' split) <;> rfl)) (jx_oe (by show (some (Value.int _) : Option Value) = some (Value.int _); unfold g_T_take; first | (simp only [if_pos c1, reduceIte]; done) | (simp only [if_pos c1, reduceIte]; rfl) | rfl) (by show jx_us M _ = jx_us M _; unfold g_T_take_a_2; first | (simp only [if_pos c1, reduceIte]; done) | (simp only [if_pos c1, reduceIte]; rfl) | rfl))
  · refine jt_sgp 1 (pc1 := 9) (lv1 := [(0, .ref a), (1, .int w)]) (st1 := [.int 0]) rfl ?_
    exact jt_iret rfl rfl (by first | rfl | ((repeat' split) <;> rfl)) (jx_oe (by show (some (Value.int _) : Option Value) = some (Value.int _); unfold g_T_take; first | (simp only [if_neg c1, reduceIte]; done) | (simp only [if_neg c1, reduceIte]; rfl) | rfl) (by show jx_us M _ = jx_us M _; unfold g_T_take_a_2; first | (simp only [if_neg c1, reduceIte]; done) | (simp only [if_neg c1, reduceIte]; rfl) | rfl))
def g_T_require_a_2 (w : Int32) (len : Int32) (at_ : Int32) (br : Int32) (f : Nat → Int32) : Int32 :=
  g_T_take_a_2 w len at_ br f
def g_T_require_a_3 (w : Int32) (len : Int32) (at_ : Int32) (br : Int32) (f : Nat → Int32) : Int32 :=
  let v16 : Int32 := if (g_T_take w len at_ br f) = 0 then (g_T_breakAt_a_3 (g_T_take_a_2 w len at_ br f) len (g_T_take_a_2 w len at_ br f) br f) else br
  v16
set_option maxRecDepth 20000 in
set_option maxHeartbeats 4000000 in
theorem q_T_require (a : Nat) (w : Int32) (q : Nat) (len : Int32) (at_ : Int32) (br : Int32) (f : Nat → Int32) (M : jx_H) (h_a : M[a]? = some (1, [.ref q, .int len, .int at_, .int br])) (h_q : M[q]? = some (100, jx_vi 400 f)) (hnd : ([a, q] : List Nat).Nodup) (p1 : 0 ≤ at_) (p2 : len ≤ 400) (rF rL : Nat) (hfr : 2 ≤ rF) (hlo : 41 ≤ rL) : jt jp_T_require rF rL 0 [(0, .ref a), (1, .int w)] [] M 0 0 (.inl none, (jx_us M [(a, (1, [.ref q, .int len, .int (g_T_require_a_2 w len at_ br f), .int (g_T_require_a_3 w len at_ br f)])), (q, (100, jx_vi 400 f))]), 0, 0) := by
  have hL : ∀ zz ∈ ([(a, (1, [.ref q, .int len, .int at_, .int br])), (q, (100, jx_vi 400 f))] : List (Nat × (Nat × List Value))), M[zz.1]? = some zz.2 := List.forall_mem_cons.mpr ⟨h_a, List.forall_mem_cons.mpr ⟨h_q, fun _ hz => absurd hz List.not_mem_nil⟩⟩
  have hlt : ∀ zz ∈ ([a, q] : List Nat), zz < M.length := jx_lts hL
  refine jt_hq (jx_us_id hL).symm ?_
  show jt jp_T_require rF rL 0 [(0, .ref a), (1, .int w)] [] (jx_us M [(a, (1, [.ref q, .int len, .int at_, .int br])), (q, (100, jx_vi 400 f))]) 0 0 (.inl none, (jx_us M [(a, (1, [.ref q, .int len, .int (g_T_require_a_2 w len at_ br f), .int (g_T_require_a_3 w len at_ br f)])), (q, (100, jx_vi 400 f))]), 0, 0)
  refine jt_sgp 2 (pc1 := 2) (lv1 := [(0, .ref a), (1, .int w)]) (st1 := [.int w, .ref a]) rfl ?_
  refine jt_callv (k := 151) (m2 := jp_T_take) (As := [.int w]) (b := a) (r := []) (mx := 2) rfl rfl rfl (jx_us_get (by exact hnd) (by exact hlt) 0 rfl) (Nat.le_of_ble_eq_true rfl) rfl rfl rfl (by omega) (by omega) (Nat.le_of_ble_eq_true rfl) (q_T_take a w q len at_ br f (jx_us M [(a, (1, [.ref q, .int len, .int at_, .int br])), (q, (100, jx_vi 400 f))]) (jx_us_get (by exact hnd) (by exact hlt) 0 rfl) (jx_us_get (by exact hnd) (by exact hlt) 1 rfl) (jm_pick hnd [0, 1] (by decide) rfl) (by first | with_reducible assumption | decide +kernel) (by first | with_reducible assumption | decide +kernel) _ _ (by omega) (by omega)) ?_
  refine jt_hq (jx_into (by exact hnd) [0, 1] rfl (L1 := [(a, (1, [.ref q, .int len, .int (g_T_take_a_2 w len at_ br f), .int br])), (q, (100, jx_vi 400 f))]) rfl) ?_
  show jt jp_T_require rF rL 5 [(0, .ref a), (1, .int w)] [.int (g_T_take w len at_ br f)] (jx_us M [(a, (1, [.ref q, .int len, .int (g_T_take_a_2 w len at_ br f), .int br])), (q, (100, jx_vi 400 f))]) 0 0 (.inl none, (jx_us M [(a, (1, [.ref q, .int len, .int (g_T_require_a_2 w len at_ br f), .int (g_T_require_a_3 w len at_ br f)])), (q, (100, jx_vi 400 f))]), 0, 0)
  have J16_2 : ∀ (v16 : Int32), v16 = (if (g_T_take w len at_ br f) = 0 then (g_T_breakAt_a_3 (g_T_take_a_2 w len at_ br f) len (g_T_take_a_2 w len at_ br f) br f) else br : Int32) → jt jp_T_require rF rL 16 [(0, .ref a), (1, .int w)] [] (jx_us M [(a, (1, [.ref q, .int len, .int (g_T_take_a_2 w len at_ br f), .int v16])), (q, (100, jx_vi 400 f))]) 0 0 (.inl none, (jx_us M [(a, (1, [.ref q, .int len, .int (g_T_require_a_2 w len at_ br f), .int (g_T_require_a_3 w len at_ br f)])), (q, (100, jx_vi 400 f))]), 0, 0) := by
    intro v16 ev16
    exact jt_vret rfl rfl (jx_oe rfl (by show jx_us M _ = jx_us M _; unfold g_T_require_a_2 g_T_require_a_3; subst ev16; rfl))
  refine jt_if_ne (t := 16) rfl rfl (fun c1 => ?_) (fun c1 => ?_)
  · exact J16_2 _ (by first | (simp only [if_neg c1, reduceIte]; done) | (with_reducible rfl))
  · refine jt_sgp 2 (pc1 := 10) (lv1 := [(0, .ref a), (1, .int w)]) (st1 := [.ref a, .ref a]) rfl ?_
    refine jt_get rfl (jx_us_get (by exact hnd) (by exact hlt) 0 rfl) rfl ?_
    refine jt_callv (k := 148) (m2 := jp_T_breakAt) (As := [.int (g_T_take_a_2 w len at_ br f)]) (b := a) (r := []) (mx := 2) rfl rfl rfl (jx_us_get (by exact hnd) (by exact hlt) 0 rfl) (Nat.le_of_ble_eq_true rfl) rfl rfl rfl (by omega) (by omega) (Nat.le_of_ble_eq_true rfl) (q_T_breakAt a (g_T_take_a_2 w len at_ br f) q len (g_T_take_a_2 w len at_ br f) br f (jx_us M [(a, (1, [.ref q, .int len, .int (g_T_take_a_2 w len at_ br f), .int br])), (q, (100, jx_vi 400 f))]) (jx_us_get (by exact hnd) (by exact hlt) 0 rfl) (jx_us_get (by exact hnd) (by exact hlt) 1 rfl) (jm_pick hnd [0, 1] (by decide) rfl)  _ _ (by omega) (by omega)) ?_
    refine jt_hq (jx_into (by exact hnd) [0, 1] rfl (L1 := [(a, (1, [.ref q, .int len, .int (g_T_take_a_2 w len at_ br f), .int (g_T_breakAt_a_3 (g_T_take_a_2 w len at_ br f) len (g_T_take_a_2 w len at_ br f) br f)])), (q, (100, jx_vi 400 f))]) rfl) ?_
    show jt jp_T_require rF rL 16 [(0, .ref a), (1, .int w)] [] (jx_us M [(a, (1, [.ref q, .int len, .int (g_T_take_a_2 w len at_ br f), .int (g_T_breakAt_a_3 (g_T_take_a_2 w len at_ br f) len (g_T_take_a_2 w len at_ br f) br f)])), (q, (100, jx_vi 400 f))]) 0 0 (.inl none, (jx_us M [(a, (1, [.ref q, .int len, .int (g_T_require_a_2 w len at_ br f), .int (g_T_require_a_3 w len at_ br f)])), (q, (100, jx_vi 400 f))]), 0, 0)
    exact J16_2 _ (by first | (simp only [if_pos c1, reduceIte]; done) | (with_reducible rfl))
def g_T_requireEnd_a_3 (len : Int32) (at_ : Int32) (br : Int32) (f : Nat → Int32) : Int32 :=
  let v15 : Int32 := if (g_T_isDone len at_ br f) = 0 then (g_T_breakAt_a_3 at_ len at_ br f) else br
  v15
set_option maxRecDepth 20000 in
set_option maxHeartbeats 4000000 in
theorem q_T_requireEnd (a : Nat) (q : Nat) (len : Int32) (at_ : Int32) (br : Int32) (f : Nat → Int32) (M : jx_H) (h_a : M[a]? = some (1, [.ref q, .int len, .int at_, .int br])) (h_q : M[q]? = some (100, jx_vi 400 f)) (hnd : ([a, q] : List Nat).Nodup) (p1 : 0 ≤ at_) (p2 : len ≤ 400) (rF rL : Nat) (hfr : 2 ≤ rF) (hlo : 40 ≤ rL) : jt jp_T_requireEnd rF rL 0 [(0, .ref a)] [] M 0 0 (.inl none, (jx_us M [(a, (1, [.ref q, .int len, .int at_, .int (g_T_requireEnd_a_3 len at_ br f)])), (q, (100, jx_vi 400 f))]), 0, 0) := by
  have hL : ∀ zz ∈ ([(a, (1, [.ref q, .int len, .int at_, .int br])), (q, (100, jx_vi 400 f))] : List (Nat × (Nat × List Value))), M[zz.1]? = some zz.2 := List.forall_mem_cons.mpr ⟨h_a, List.forall_mem_cons.mpr ⟨h_q, fun _ hz => absurd hz List.not_mem_nil⟩⟩
  have hlt : ∀ zz ∈ ([a, q] : List Nat), zz < M.length := jx_lts hL
  refine jt_hq (jx_us_id hL).symm ?_
  show jt jp_T_requireEnd rF rL 0 [(0, .ref a)] [] (jx_us M [(a, (1, [.ref q, .int len, .int at_, .int br])), (q, (100, jx_vi 400 f))]) 0 0 (.inl none, (jx_us M [(a, (1, [.ref q, .int len, .int at_, .int (g_T_requireEnd_a_3 len at_ br f)])), (q, (100, jx_vi 400 f))]), 0, 0)
  refine jt_sgp 1 (pc1 := 1) (lv1 := [(0, .ref a)]) (st1 := [.ref a]) rfl ?_
  refine jt_callv (k := 149) (m2 := jp_T_isDone) (As := []) (b := a) (r := []) (mx := 1) rfl rfl rfl (jx_us_get (by exact hnd) (by exact hlt) 0 rfl) (Nat.le_of_ble_eq_true rfl) rfl rfl rfl (by omega) (by omega) (Nat.le_of_ble_eq_true rfl) (q_T_isDone a q len at_ br f (jx_us M [(a, (1, [.ref q, .int len, .int at_, .int br])), (q, (100, jx_vi 400 f))]) (jx_us_get (by exact hnd) (by exact hlt) 0 rfl) (jx_us_get (by exact hnd) (by exact hlt) 1 rfl) (jm_pick hnd [0, 1] (by decide) rfl) (by first | with_reducible assumption | decide +kernel) (by first | with_reducible assumption | decide +kernel) _ _ (by omega) (by omega)) ?_
  show jt jp_T_requireEnd rF rL 4 [(0, .ref a)] [.int (g_T_isDone len at_ br f)] (jx_us M [(a, (1, [.ref q, .int len, .int at_, .int br])), (q, (100, jx_vi 400 f))]) 0 0 (.inl none, (jx_us M [(a, (1, [.ref q, .int len, .int at_, .int (g_T_requireEnd_a_3 len at_ br f)])), (q, (100, jx_vi 400 f))]), 0, 0)
  have J15_2 : ∀ (v15 : Int32), v15 = (if (g_T_isDone len at_ br f) = 0 then (g_T_breakAt_a_3 at_ len at_ br f) else br : Int32) → jt jp_T_requireEnd rF rL 15 [(0, .ref a)] [] (jx_us M [(a, (1, [.ref q, .int len, .int at_, .int v15])), (q, (100, jx_vi 400 f))]) 0 0 (.inl none, (jx_us M [(a, (1, [.ref q, .int len, .int at_, .int (g_T_requireEnd_a_3 len at_ br f)])), (q, (100, jx_vi 400 f))]), 0, 0) := by
    intro v15 ev15
    exact jt_vret rfl rfl (jx_oe rfl (by show jx_us M _ = jx_us M _; unfold g_T_requireEnd_a_3; subst ev15; rfl))
  refine jt_if_ne (t := 15) rfl rfl (fun c1 => ?_) (fun c1 => ?_)
  · exact J15_2 _ (by first | (simp only [if_neg c1, reduceIte]; done) | (with_reducible rfl))
  · refine jt_sgp 2 (pc1 := 9) (lv1 := [(0, .ref a)]) (st1 := [.ref a, .ref a]) rfl ?_
    refine jt_get rfl (jx_us_get (by exact hnd) (by exact hlt) 0 rfl) rfl ?_
    refine jt_callv (k := 148) (m2 := jp_T_breakAt) (As := [.int at_]) (b := a) (r := []) (mx := 2) rfl rfl rfl (jx_us_get (by exact hnd) (by exact hlt) 0 rfl) (Nat.le_of_ble_eq_true rfl) rfl rfl rfl (by omega) (by omega) (Nat.le_of_ble_eq_true rfl) (q_T_breakAt a at_ q len at_ br f (jx_us M [(a, (1, [.ref q, .int len, .int at_, .int br])), (q, (100, jx_vi 400 f))]) (jx_us_get (by exact hnd) (by exact hlt) 0 rfl) (jx_us_get (by exact hnd) (by exact hlt) 1 rfl) (jm_pick hnd [0, 1] (by decide) rfl)  _ _ (by omega) (by omega)) ?_
    refine jt_hq (jx_into (by exact hnd) [0, 1] rfl (L1 := [(a, (1, [.ref q, .int len, .int at_, .int (g_T_breakAt_a_3 at_ len at_ br f)])), (q, (100, jx_vi 400 f))]) rfl) ?_
    show jt jp_T_requireEnd rF rL 15 [(0, .ref a)] [] (jx_us M [(a, (1, [.ref q, .int len, .int at_, .int (g_T_breakAt_a_3 at_ len at_ br f)])), (q, (100, jx_vi 400 f))]) 0 0 (.inl none, (jx_us M [(a, (1, [.ref q, .int len, .int at_, .int (g_T_requireEnd_a_3 len at_ br f)])), (q, (100, jx_vi 400 f))]), 0, 0)
    exact J15_2 _ (by first | (simp only [if_pos c1, reduceIte]; done) | (with_reducible rfl))
