theorem jm_inc {x n : Int32} (h : x < n) : (x + 1).toInt = x.toInt + 1 := by
  have h1 := Int32.lt_iff_toInt_lt.mp h
  have h2 := Int32.toInt_lt n
  have h3 := Int32.le_toInt x
  rw [Int32.toInt_add, show (1 : Int32).toInt = 1 from rfl]
  simp only [Int.bmod]
  omega
theorem jm_nl {x n : Int32} (h : ¬ n ≤ x) : x < n := by
  simp only [Int32.le_iff_toInt_le, Int32.lt_iff_toInt_lt] at *
  omega
theorem jm_inc0 {x n : Int32} (h0 : 0 ≤ x) (h : x < n) : 0 ≤ x + 1 := by
  have h1 := jm_inc h
  simp only [Int32.le_iff_toInt_le] at *
  have h3 : (0 : Int32).toInt = 0 := rfl
  omega
theorem jm_dec {x n : Int32} {k : Nat} (h : x < n) (hm : (n.toInt - x.toInt).toNat < k + 1) : (n.toInt - (x + 1).toInt).toNat < k := by
  have h1 := jm_inc h
  have h2 := Int32.lt_iff_toInt_lt.mp h
  omega
theorem jm_m0 {x n M : Int32} {k : Nat} (h0 : 0 ≤ x) (h1 : n ≤ M) (hk : M.toInt < k) (hk0 : 0 < k) : (n.toInt - x.toInt).toNat < k := by
  simp only [Int32.le_iff_toInt_le] at *
  have h3 : (0 : Int32).toInt = 0 := rfl
  omega
theorem jm_peek_lt {len at_ br : Int32} {f : Nat → Int32} (h : ¬ g_T_peek len at_ br f = -1) : at_ < len := by
  unfold g_T_peek at h
  by_cases c : at_ < len
  · exact c
  · exact absurd (by simp only [if_neg c, ite_self]) h
theorem jm_take_at {w len at_ br : Int32} {f : Nat → Int32} (hw : ¬ w = -1) (p1 : 0 ≤ at_) : 0 ≤ g_T_take_a_2 w len at_ br f := by
  unfold g_T_take_a_2
  by_cases c : g_T_peek len at_ br f = w
  · simp only [if_pos c]
    exact jm_inc0 p1 (jm_peek_lt (by rw [c]; exact hw))
  · simp only [if_neg c]
    exact p1
theorem jm_req_at {w len at_ br : Int32} {f : Nat → Int32} (hw : ¬ w = -1) (p1 : 0 ≤ at_) : 0 ≤ g_T_require_a_2 w len at_ br f := by
  unfold g_T_require_a_2
  exact jm_take_at hw p1
def G_T_requireBlanks_6 (len : Int32) (at_ : Int32) (br : Int32) (f : Nat → Int32) : Nat → (Int32) → Int32 × Int32
  | 0, _ => (0, 0)
  | n + 1, x =>
    if len ≤ x then ((x, g_T_require_a_3 32 len at_ br f)) else (if (f (x : Int32).toNatClampNeg) = 32 then (G_T_requireBlanks_6 len at_ br f n (x + 1)) else ((x, g_T_require_a_3 32 len at_ br f)))
termination_by n _ => n
def g_T_requireBlanks_a_2 (len : Int32) (at_ : Int32) (br : Int32) (f : Nat → Int32) : Int32 :=
  (G_T_requireBlanks_6 len at_ br f 401 (g_T_require_a_2 32 len at_ br f)).1
def g_T_requireBlanks_a_3 (len : Int32) (at_ : Int32) (br : Int32) (f : Nat → Int32) : Int32 :=
  (G_T_requireBlanks_6 len at_ br f 401 (g_T_require_a_2 32 len at_ br f)).2
set_option maxRecDepth 20000 in
set_option maxHeartbeats 4000000 in
theorem q_T_requireBlanks (a : Nat) (q : Nat) (len : Int32) (at_ : Int32) (br : Int32) (f : Nat → Int32) (M : jx_H) (h_a : M[a]? = some (1, [.ref q, .int len, .int at_, .int br])) (h_q : M[q]? = some (100, jx_vi 400 f)) (hnd : ([a, q] : List Nat).Nodup) (p1 : 0 ≤ at_) (p2 : len ≤ 400) (rF rL : Nat) (hfr : 3 ≤ rF) (hlo : 62 ≤ rL) : jt jp_T_requireBlanks rF rL 0 [(0, .ref a)] [] M 0 0 (.inl none, (jx_us M [(a, (1, [.ref q, .int len, .int (g_T_requireBlanks_a_2 len at_ br f), .int (g_T_requireBlanks_a_3 len at_ br f)])), (q, (100, jx_vi 400 f))]), 0, 0) := by
  have hL : ∀ zz ∈ ([(a, (1, [.ref q, .int len, .int at_, .int br])), (q, (100, jx_vi 400 f))] : List (Nat × (Nat × List Value))), M[zz.1]? = some zz.2 := List.forall_mem_cons.mpr ⟨h_a, List.forall_mem_cons.mpr ⟨h_q, fun _ hz => absurd hz List.not_mem_nil⟩⟩
  have hlt : ∀ zz ∈ ([a, q] : List Nat), zz < M.length := jx_lts hL
  refine jt_hq (jx_us_id hL).symm ?_
  show jt jp_T_requireBlanks rF rL 0 [(0, .ref a)] [] (jx_us M [(a, (1, [.ref q, .int len, .int at_, .int br])), (q, (100, jx_vi 400 f))]) 0 0 (.inl none, (jx_us M [(a, (1, [.ref q, .int len, .int (g_T_requireBlanks_a_2 len at_ br f), .int (g_T_requireBlanks_a_3 len at_ br f)])), (q, (100, jx_vi 400 f))]), 0, 0)
  refine jt_sgp 2 (pc1 := 3) (lv1 := [(0, .ref a)]) (st1 := [.int 32, .ref a]) rfl ?_
  refine jt_callv (k := 152) (m2 := jp_T_require) (As := [.int 32]) (b := a) (r := []) (mx := 2) rfl rfl rfl (jx_us_get (by exact hnd) (by exact hlt) 0 rfl) (Nat.le_of_ble_eq_true rfl) rfl rfl rfl (by omega) (by omega) (Nat.le_of_ble_eq_true rfl) (q_T_require a 32 q len at_ br f (jx_us M [(a, (1, [.ref q, .int len, .int at_, .int br])), (q, (100, jx_vi 400 f))]) (jx_us_get (by exact hnd) (by exact hlt) 0 rfl) (jx_us_get (by exact hnd) (by exact hlt) 1 rfl) (jm_pick hnd [0, 1] (by decide) rfl) (by first | with_reducible assumption | decide +kernel) (by first | with_reducible assumption | decide +kernel) _ _ (by omega) (by omega)) ?_
  refine jt_hq (jx_into (by exact hnd) [0, 1] rfl (L1 := [(a, (1, [.ref q, .int len, .int (g_T_require_a_2 32 len at_ br f), .int (g_T_require_a_3 32 len at_ br f)])), (q, (100, jx_vi 400 f))]) rfl) ?_
  show jt jp_T_requireBlanks rF rL 6 [(0, .ref a)] [] (jx_us M [(a, (1, [.ref q, .int len, .int (g_T_require_a_2 32 len at_ br f), .int (g_T_require_a_3 32 len at_ br f)])), (q, (100, jx_vi 400 f))]) 0 0 (.inl none, (jx_us M [(a, (1, [.ref q, .int len, .int (g_T_requireBlanks_a_2 len at_ br f), .int (g_T_requireBlanks_a_3 len at_ br f)])), (q, (100, jx_vi 400 f))]), 0, 0)
  obtain ⟨ro, hro⟩ : ∃ ro, ro = G_T_requireBlanks_6 len at_ br f 401 (g_T_require_a_2 32 len at_ br f) := ⟨_, rfl⟩
  have LP6 : ∀ (n : Nat) (x : Int32), (0 ≤ x) → (len.toInt - x.toInt).toNat < n → G_T_requireBlanks_6 len at_ br f n x = ro → jt jp_T_requireBlanks rF rL 6 [(0, .ref a)] [] (jx_us M [(a, (1, [.ref q, .int len, .int x, .int (g_T_require_a_3 32 len at_ br f)])), (q, (100, jx_vi 400 f))]) 0 0 (.inl none, (jx_us M [(a, (1, [.ref q, .int len, .int (g_T_requireBlanks_a_2 len at_ br f), .int (g_T_requireBlanks_a_3 len at_ br f)])), (q, (100, jx_vi 400 f))]), 0, 0) := by
    intro n
    induction n with
    | zero => intro x i1 hm _; exact absurd hm (Nat.not_lt_zero _)
    | succ n ih =>
      intro x i1 hm hF
      simp only [G_T_requireBlanks_6] at hF
      refine jt_sgp 1 (pc1 := 7) (lv1 := [(0, .ref a)]) (st1 := [.ref a]) rfl ?_
      refine jt_get rfl (jx_us_get (by exact hnd) (by exact hlt) 0 rfl) rfl ?_
      refine jt_sgp 1 (pc1 := 11) (lv1 := [(0, .ref a)]) (st1 := [.ref a, .int x]) rfl ?_
      refine jt_get rfl (jx_us_get (by exact hnd) (by exact hlt) 0 rfl) rfl ?_
      refine jt_icmp_ge (t := 44) rfl rfl (fun c1 => ?_) (fun c1 => ?_)
      · exact jt_vret rfl rfl (jx_oe rfl (by show jx_us M _ = jx_us M _; simp only [if_pos c1, reduceIte] at hF; unfold g_T_requireBlanks_a_2 g_T_requireBlanks_a_3; (try dsimp only); rw [← hro, ← hF]))
      · refine jt_sgp 1 (pc1 := 18) (lv1 := [(0, .ref a)]) (st1 := [.ref a]) rfl ?_
        refine jt_get rfl (jx_us_get (by exact hnd) (by exact hlt) 0 rfl) rfl ?_
        refine jt_sgp 1 (pc1 := 22) (lv1 := [(0, .ref a)]) (st1 := [.ref a, .ref q]) rfl ?_
        refine jt_get rfl (jx_us_get (by exact hnd) (by exact hlt) 0 rfl) rfl ?_
        refine jt_bald rfl rfl (jx_us_get (by exact hnd) (by exact hlt) 1 rfl) (jm_in i1 c1 p2 rfl) ?_
        refine jt_sgp 1 (pc1 := 28) (lv1 := [(0, .ref a)]) (st1 := [.int 32, .int (f (x : Int32).toNatClampNeg)]) rfl ?_
        refine jt_icmp_ne (t := 44) rfl rfl (fun c2 => ?_) (fun c2 => ?_)
        · exact jt_vret rfl rfl (jx_oe rfl (by show jx_us M _ = jx_us M _; simp only [if_neg c1, if_neg c2, reduceIte] at hF; unfold g_T_requireBlanks_a_2 g_T_requireBlanks_a_3; (try dsimp only); rw [← hro, ← hF]))
        · refine jt_sgp 2 (pc1 := 33) (lv1 := [(0, .ref a)]) (st1 := [.ref a, .ref a]) rfl ?_
          refine jt_get rfl (jx_us_get (by exact hnd) (by exact hlt) 0 rfl) rfl ?_
          refine jt_sgp 2 (pc1 := 38) (lv1 := [(0, .ref a)]) (st1 := [.int (x + 1), .ref a]) rfl ?_
          refine jt_put rfl (jx_us_get (by exact hnd) (by exact hlt) 0 rfl) (Nat.le_of_ble_eq_true rfl) rfl (Or.inl rfl) (jx_us_set (by exact hnd) 0 rfl (L1 := [(a, (1, [.ref q, .int len, .int (x + 1), .int (g_T_require_a_3 32 len at_ br f)])), (q, (100, jx_vi 400 f))]) rfl) ?_
          refine jt_sgp 1 (pc1 := 6) (lv1 := [(0, .ref a)]) (st1 := []) rfl ?_
          exact ih (x + 1) (jm_inc0 i1 (jm_nl c1)) (jm_dec (jm_nl c1) hm) (by simp only [if_neg c1, if_pos c2, reduceIte] at hF; exact hF)
  exact LP6 401 (g_T_require_a_2 32 len at_ br f) (jm_req_at (by decide) p1) (jm_m0 (jm_req_at (by decide) p1) p2 (by decide) (by decide)) hro.symm
def G_T_number_24 (lo : Int32) (hi : Int32) (len : Int32) (at_ : Int32) (br : Int32) (f : Nat → Int32) (v22 : Int32) : Nat → (Int32) → (Int32) → Int32 × Int32 × Int32
  | 0, _, _ => (0, 0, 0)
  | n + 1, x, nu =>
    let v116 : Int32 := if x = at_ then (g_T_breakAt_a_3 at_ len x br f) else (if nu < lo then (g_T_breakAt_a_3 at_ len x br f) else (if nu ≤ hi then br else (g_T_breakAt_a_3 at_ len x br f)))
    let v130 : Int32 := if v116 = (-1) then nu else lo
    let v116x : Int32 := if x = at_ then (g_T_breakAt_a_3 at_ len x br f) else (if nu < lo then (g_T_breakAt_a_3 at_ len x br f) else (if nu ≤ hi then br else (g_T_breakAt_a_3 at_ len x br f)))
    let v130x : Int32 := if v116x = (-1) then nu else lo
    let u73 : Int32 := g_Math_min (((nu * 10) + (g_T_peek len x br f)) - 48) 1000000
    let v116xx : Int32 := if x = at_ then (g_T_breakAt_a_3 at_ len x br f) else (if nu < lo then (g_T_breakAt_a_3 at_ len x br f) else (if nu ≤ hi then br else (g_T_breakAt_a_3 at_ len x br f)))
    let v130xx : Int32 := if v116xx = (-1) then nu else lo
    let u73x : Int32 := g_Math_min (((nu * 10) + (g_T_peek len x br f)) - 48) 1000000
    if len ≤ x then ((v130, x, v116)) else (if (g_T_isDigit (g_T_peek len x br f)) = 0 then ((v130x, x, v116x)) else (if v22 = 0 then (G_T_number_24 lo hi len at_ br f v22 n (x + 1) u73) else (if at_ < x then ((v130xx, x, v116xx)) else (G_T_number_24 lo hi len at_ br f v22 n (x + 1) u73x))))
termination_by n _ _ => n
def g_T_number (lo : Int32) (hi : Int32) (len : Int32) (at_ : Int32) (br : Int32) (f : Nat → Int32) : Int32 :=
  let v22 : Int32 := if (g_T_peek len at_ br f) = 48 then 1 else 0
  (G_T_number_24 lo hi len at_ br f v22 401 at_ 0).1
def g_T_number_a_2 (lo : Int32) (hi : Int32) (len : Int32) (at_ : Int32) (br : Int32) (f : Nat → Int32) : Int32 :=
  let v22 : Int32 := if (g_T_peek len at_ br f) = 48 then 1 else 0
  (G_T_number_24 lo hi len at_ br f v22 401 at_ 0).2.1
def g_T_number_a_3 (lo : Int32) (hi : Int32) (len : Int32) (at_ : Int32) (br : Int32) (f : Nat → Int32) : Int32 :=
  let v22 : Int32 := if (g_T_peek len at_ br f) = 48 then 1 else 0
  (G_T_number_24 lo hi len at_ br f v22 401 at_ 0).2.2
set_option maxRecDepth 20000 in
set_option maxHeartbeats 4000000 in
theorem q_T_number (a : Nat) (lo : Int32) (hi : Int32) (q : Nat) (len : Int32) (at_ : Int32) (br : Int32) (f : Nat → Int32) (M : jx_H) (h_a : M[a]? = some (1, [.ref q, .int len, .int at_, .int br])) (h_q : M[q]? = some (100, jx_vi 400 f)) (hnd : ([a, q] : List Nat).Nodup) (p1 : 0 ≤ at_) (p2 : len ≤ 400) (rF rL : Nat) (hfr : 1 ≤ rF) (hlo : 21 ≤ rL) : jt jp_T_number rF rL 0 [(0, .ref a), (1, .int lo), (2, .int hi)] [] M 0 0 (.inl (some (.int (g_T_number lo hi len at_ br f))), (jx_us M [(a, (1, [.ref q, .int len, .int (g_T_number_a_2 lo hi len at_ br f), .int (g_T_number_a_3 lo hi len at_ br f)])), (q, (100, jx_vi 400 f))]), 0, 0) := by
  have hL : ∀ zz ∈ ([(a, (1, [.ref q, .int len, .int at_, .int br])), (q, (100, jx_vi 400 f))] : List (Nat × (Nat × List Value))), M[zz.1]? = some zz.2 := List.forall_mem_cons.mpr ⟨h_a, List.forall_mem_cons.mpr ⟨h_q, fun _ hz => absurd hz List.not_mem_nil⟩⟩
  have hlt : ∀ zz ∈ ([a, q] : List Nat), zz < M.length := jx_lts hL
  refine jt_hq (jx_us_id hL).symm ?_
  show jt jp_T_number rF rL 0 [(0, .ref a), (1, .int lo), (2, .int hi)] [] (jx_us M [(a, (1, [.ref q, .int len, .int at_, .int br])), (q, (100, jx_vi 400 f))]) 0 0 (.inl (some (.int (g_T_number lo hi len at_ br f))), (jx_us M [(a, (1, [.ref q, .int len, .int (g_T_number_a_2 lo hi len at_ br f), .int (g_T_number_a_3 lo hi len at_ br f)])), (q, (100, jx_vi 400 f))]), 0, 0)
  refine jt_sgp 1 (pc1 := 1) (lv1 := [(0, .ref a), (1, .int lo), (2, .int hi)]) (st1 := [.ref a]) rfl ?_
  refine jt_get rfl (jx_us_get (by exact hnd) (by exact hlt) 0 rfl) rfl ?_
  refine jt_sgp 4 (pc1 := 9) (lv1 := [(4, .int 0), (3, .int at_), (0, .ref a), (1, .int lo), (2, .int hi)]) (st1 := [.ref a]) rfl ?_
  refine jt_callv (k := 150) (m2 := jp_T_peek) (As := []) (b := a) (r := []) (mx := 1) rfl rfl rfl (jx_us_get (by exact hnd) (by exact hlt) 0 rfl) (Nat.le_of_ble_eq_true rfl) rfl rfl rfl (by omega) (by omega) (Nat.le_of_ble_eq_true rfl) (q_T_peek a q len at_ br f (jx_us M [(a, (1, [.ref q, .int len, .int at_, .int br])), (q, (100, jx_vi 400 f))]) (jx_us_get (by exact hnd) (by exact hlt) 0 rfl) (jx_us_get (by exact hnd) (by exact hlt) 1 rfl) (jm_pick hnd [0, 1] (by decide) rfl) (by first | with_reducible assumption | decide +kernel) (by first | with_reducible assumption | decide +kernel) _ _ (by omega) (by omega)) ?_
  show jt jp_T_number rF rL 12 [(4, .int 0), (3, .int at_), (0, .ref a), (1, .int lo), (2, .int hi)] [.int (g_T_peek len at_ br f)] (jx_us M [(a, (1, [.ref q, .int len, .int at_, .int br])), (q, (100, jx_vi 400 f))]) 0 0 (.inl (some (.int (g_T_number lo hi len at_ br f))), (jx_us M [(a, (1, [.ref q, .int len, .int (g_T_number_a_2 lo hi len at_ br f), .int (g_T_number_a_3 lo hi len at_ br f)])), (q, (100, jx_vi 400 f))]), 0, 0)
  refine jt_sgp 1 (pc1 := 14) (lv1 := [(4, .int 0), (3, .int at_), (0, .ref a), (1, .int lo), (2, .int hi)]) (st1 := [.int 48, .int (g_T_peek len at_ br f)]) rfl ?_
  have J22_2 : ∀ (v22 : Int32), v22 = (if (g_T_peek len at_ br f) = 48 then 1 else 0 : Int32) → jt jp_T_number rF rL 22 [(4, .int 0), (3, .int at_), (0, .ref a), (1, .int lo), (2, .int hi)] [.int v22] (jx_us M [(a, (1, [.ref q, .int len, .int at_, .int br])), (q, (100, jx_vi 400 f))]) 0 0 (.inl (some (.int (g_T_number lo hi len at_ br f))), (jx_us M [(a, (1, [.ref q, .int len, .int (g_T_number_a_2 lo hi len at_ br f), .int (g_T_number_a_3 lo hi len at_ br f)])), (q, (100, jx_vi 400 f))]), 0, 0) := by
    intro v22 ev22
    refine jt_sgp 1 (pc1 := 24) (lv1 := [(5, .int v22), (4, .int 0), (3, .int at_), (0, .ref a), (1, .int lo), (2, .int hi)]) (st1 := []) rfl ?_
    refine jt_lvs (l1 := [(0, .ref a), (1, .int lo), (2, .int hi), (3, .int at_), (4, .int 0), (5, .int v22)]) rfl rfl ⟨rfl, rfl, rfl, rfl, rfl, rfl, trivial⟩ ?_
    obtain ⟨ro, hro⟩ : ∃ ro, ro = G_T_number_24 lo hi len at_ br f v22 401 at_ 0 := ⟨_, rfl⟩
    have LP24 : ∀ (n : Nat) (x : Int32) (nu : Int32), (0 ≤ x) → (len.toInt - x.toInt).toNat < n → G_T_number_24 lo hi len at_ br f v22 n x nu = ro → jt jp_T_number rF rL 24 [(0, .ref a), (1, .int lo), (2, .int hi), (3, .int at_), (4, .int nu), (5, .int v22)] [] (jx_us M [(a, (1, [.ref q, .int len, .int x, .int br])), (q, (100, jx_vi 400 f))]) 0 0 (.inl (some (.int (g_T_number lo hi len at_ br f))), (jx_us M [(a, (1, [.ref q, .int len, .int (g_T_number_a_2 lo hi len at_ br f), .int (g_T_number_a_3 lo hi len at_ br f)])), (q, (100, jx_vi 400 f))]), 0, 0) := by
      intro n
      induction n with
      | zero => intro x nu i1 hm _; exact absurd hm (Nat.not_lt_zero _)
      | succ n ih =>
        intro x nu i1 hm hF
        simp only [G_T_number_24] at hF
        refine jt_sgp 1 (pc1 := 25) (lv1 := [(0, .ref a), (1, .int lo), (2, .int hi), (3, .int at_), (4, .int nu), (5, .int v22)]) (st1 := [.ref a]) rfl ?_
        refine jt_get rfl (jx_us_get (by exact hnd) (by exact hlt) 0 rfl) rfl ?_
        refine jt_sgp 1 (pc1 := 29) (lv1 := [(0, .ref a), (1, .int lo), (2, .int hi), (3, .int at_), (4, .int nu), (5, .int v22)]) (st1 := [.ref a, .int x]) rfl ?_
        refine jt_get rfl (jx_us_get (by exact hnd) (by exact hlt) 0 rfl) rfl ?_
        refine jt_icmp_ge (t := 91) rfl rfl (fun c3 => ?_) (fun c3 => ?_)
        · refine jt_sgp 1 (pc1 := 92) (lv1 := [(0, .ref a), (1, .int lo), (2, .int hi), (3, .int at_), (4, .int nu), (5, .int v22)]) (st1 := [.ref a]) rfl ?_
          refine jt_get rfl (jx_us_get (by exact hnd) (by exact hlt) 0 rfl) rfl ?_
          refine jt_sgp 1 (pc1 := 96) (lv1 := [(0, .ref a), (1, .int lo), (2, .int hi), (3, .int at_), (4, .int nu), (5, .int v22)]) (st1 := [.int at_, .int x]) rfl ?_
          have J116_5 : ∀ (v116 : Int32), v116 = (if x = at_ then (g_T_breakAt_a_3 at_ len x br f) else (if nu < lo then (g_T_breakAt_a_3 at_ len x br f) else (if nu ≤ hi then br else (g_T_breakAt_a_3 at_ len x br f))) : Int32) → jt jp_T_number rF rL 116 [(0, .ref a), (1, .int lo), (2, .int hi), (3, .int at_), (4, .int nu), (5, .int v22)] [] (jx_us M [(a, (1, [.ref q, .int len, .int x, .int v116])), (q, (100, jx_vi 400 f))]) 0 0 (.inl (some (.int (g_T_number lo hi len at_ br f))), (jx_us M [(a, (1, [.ref q, .int len, .int (g_T_number_a_2 lo hi len at_ br f), .int (g_T_number_a_3 lo hi len at_ br f)])), (q, (100, jx_vi 400 f))]), 0, 0) := by
            intro v116 ev116
            refine jt_sgp 1 (pc1 := 117) (lv1 := [(0, .ref a), (1, .int lo), (2, .int hi), (3, .int at_), (4, .int nu), (5, .int v22)]) (st1 := [.ref a]) rfl ?_
            refine jt_get rfl (jx_us_get (by exact hnd) (by exact hlt) 0 rfl) rfl ?_
            refine jt_sgp 1 (pc1 := 121) (lv1 := [(0, .ref a), (1, .int lo), (2, .int hi), (3, .int at_), (4, .int nu), (5, .int v22)]) (st1 := [.int (-1), .int v116]) rfl ?_
            have J130_7 : ∀ (v130 : Int32), v130 = (if v116 = (-1) then nu else lo : Int32) → jt jp_T_number rF rL 130 [(0, .ref a), (1, .int lo), (2, .int hi), (3, .int at_), (4, .int nu), (5, .int v22)] [.int v130] (jx_us M [(a, (1, [.ref q, .int len, .int x, .int v116])), (q, (100, jx_vi 400 f))]) 0 0 (.inl (some (.int (g_T_number lo hi len at_ br f))), (jx_us M [(a, (1, [.ref q, .int len, .int (g_T_number_a_2 lo hi len at_ br f), .int (g_T_number_a_3 lo hi len at_ br f)])), (q, (100, jx_vi 400 f))]), 0, 0) := by
              intro v130 ev130
              exact jt_iret rfl rfl rfl (jx_oe (by show (some (Value.int _) : Option Value) = some (Value.int _); subst ev130; subst ev116; subst ev22; simp only [if_pos c3, reduceIte] at hF; unfold g_T_number; (try dsimp only); rw [← hro, ← hF]) (by show jx_us M _ = jx_us M _; subst ev130; subst ev116; subst ev22; simp only [if_pos c3, reduceIte] at hF; unfold g_T_number_a_2 g_T_number_a_3; (try dsimp only); rw [← hro, ← hF]))
            refine jt_icmp_ne (t := 129) rfl rfl (fun c6 => ?_) (fun c6 => ?_)
            · refine jt_sgp 1 (pc1 := 130) (lv1 := [(0, .ref a), (1, .int lo), (2, .int hi), (3, .int at_), (4, .int nu), (5, .int v22)]) (st1 := [.int lo]) rfl ?_
              exact J130_7 _ (by first | (simp only [if_neg c6, reduceIte]; done) | (with_reducible rfl))
            · refine jt_sgp 2 (pc1 := 130) (lv1 := [(0, .ref a), (1, .int lo), (2, .int hi), (3, .int at_), (4, .int nu), (5, .int v22)]) (st1 := [.int nu]) rfl ?_
              exact J130_7 _ (by first | (simp only [if_pos c6, reduceIte]; done) | (with_reducible rfl))
          refine jt_icmp_eq (t := 111) rfl rfl (fun c4 => ?_) (fun c4 => ?_)
          · refine jt_sgp 2 (pc1 := 113) (lv1 := [(0, .ref a), (1, .int lo), (2, .int hi), (3, .int at_), (4, .int nu), (5, .int v22)]) (st1 := [.int at_, .ref a]) rfl ?_
            refine jt_callv (k := 148) (m2 := jp_T_breakAt) (As := [.int at_]) (b := a) (r := []) (mx := 2) rfl rfl rfl (jx_us_get (by exact hnd) (by exact hlt) 0 rfl) (Nat.le_of_ble_eq_true rfl) rfl rfl rfl (by omega) (by omega) (Nat.le_of_ble_eq_true rfl) (q_T_breakAt a at_ q len x br f (jx_us M [(a, (1, [.ref q, .int len, .int x, .int br])), (q, (100, jx_vi 400 f))]) (jx_us_get (by exact hnd) (by exact hlt) 0 rfl) (jx_us_get (by exact hnd) (by exact hlt) 1 rfl) (jm_pick hnd [0, 1] (by decide) rfl)  _ _ (by omega) (by omega)) ?_
            refine jt_hq (jx_into (by exact hnd) [0, 1] rfl (L1 := [(a, (1, [.ref q, .int len, .int x, .int (g_T_breakAt_a_3 at_ len x br f)])), (q, (100, jx_vi 400 f))]) rfl) ?_
            show jt jp_T_number rF rL 116 [(0, .ref a), (1, .int lo), (2, .int hi), (3, .int at_), (4, .int nu), (5, .int v22)] [] (jx_us M [(a, (1, [.ref q, .int len, .int x, .int (g_T_breakAt_a_3 at_ len x br f)])), (q, (100, jx_vi 400 f))]) 0 0 (.inl (some (.int (g_T_number lo hi len at_ br f))), (jx_us M [(a, (1, [.ref q, .int len, .int (g_T_number_a_2 lo hi len at_ br f), .int (g_T_number_a_3 lo hi len at_ br f)])), (q, (100, jx_vi 400 f))]), 0, 0)
            exact J116_5 _ (by first | (simp only [if_pos c4, reduceIte]; done) | (with_reducible rfl))
          · refine jt_sgp 2 (pc1 := 102) (lv1 := [(0, .ref a), (1, .int lo), (2, .int hi), (3, .int at_), (4, .int nu), (5, .int v22)]) (st1 := [.int lo, .int nu]) rfl ?_
            refine jt_icmp_lt (t := 111) rfl rfl (fun c8 => ?_) (fun c8 => ?_)
            · refine jt_sgp 2 (pc1 := 113) (lv1 := [(0, .ref a), (1, .int lo), (2, .int hi), (3, .int at_), (4, .int nu), (5, .int v22)]) (st1 := [.int at_, .ref a]) rfl ?_
              refine jt_callv (k := 148) (m2 := jp_T_breakAt) (As := [.int at_]) (b := a) (r := []) (mx := 2) rfl rfl rfl (jx_us_get (by exact hnd) (by exact hlt) 0 rfl) (Nat.le_of_ble_eq_true rfl) rfl rfl rfl (by omega) (by omega) (Nat.le_of_ble_eq_true rfl) (q_T_breakAt a at_ q len x br f (jx_us M [(a, (1, [.ref q, .int len, .int x, .int br])), (q, (100, jx_vi 400 f))]) (jx_us_get (by exact hnd) (by exact hlt) 0 rfl) (jx_us_get (by exact hnd) (by exact hlt) 1 rfl) (jm_pick hnd [0, 1] (by decide) rfl)  _ _ (by omega) (by omega)) ?_
              refine jt_hq (jx_into (by exact hnd) [0, 1] rfl (L1 := [(a, (1, [.ref q, .int len, .int x, .int (g_T_breakAt_a_3 at_ len x br f)])), (q, (100, jx_vi 400 f))]) rfl) ?_
              show jt jp_T_number rF rL 116 [(0, .ref a), (1, .int lo), (2, .int hi), (3, .int at_), (4, .int nu), (5, .int v22)] [] (jx_us M [(a, (1, [.ref q, .int len, .int x, .int (g_T_breakAt_a_3 at_ len x br f)])), (q, (100, jx_vi 400 f))]) 0 0 (.inl (some (.int (g_T_number lo hi len at_ br f))), (jx_us M [(a, (1, [.ref q, .int len, .int (g_T_number_a_2 lo hi len at_ br f), .int (g_T_number_a_3 lo hi len at_ br f)])), (q, (100, jx_vi 400 f))]), 0, 0)
              exact J116_5 _ (by first | (simp only [if_neg c4, if_pos c8, reduceIte]; done) | (with_reducible rfl))
            · refine jt_sgp 2 (pc1 := 108) (lv1 := [(0, .ref a), (1, .int lo), (2, .int hi), (3, .int at_), (4, .int nu), (5, .int v22)]) (st1 := [.int hi, .int nu]) rfl ?_
              refine jt_icmp_le (t := 116) rfl rfl (fun c9 => ?_) (fun c9 => ?_)
              · exact J116_5 _ (by first | (simp only [if_neg c4, if_neg c8, if_pos c9, reduceIte]; done) | (with_reducible rfl))
              · refine jt_sgp 2 (pc1 := 113) (lv1 := [(0, .ref a), (1, .int lo), (2, .int hi), (3, .int at_), (4, .int nu), (5, .int v22)]) (st1 := [.int at_, .ref a]) rfl ?_
                refine jt_callv (k := 148) (m2 := jp_T_breakAt) (As := [.int at_]) (b := a) (r := []) (mx := 2) rfl rfl rfl (jx_us_get (by exact hnd) (by exact hlt) 0 rfl) (Nat.le_of_ble_eq_true rfl) rfl rfl rfl (by omega) (by omega) (Nat.le_of_ble_eq_true rfl) (q_T_breakAt a at_ q len x br f (jx_us M [(a, (1, [.ref q, .int len, .int x, .int br])), (q, (100, jx_vi 400 f))]) (jx_us_get (by exact hnd) (by exact hlt) 0 rfl) (jx_us_get (by exact hnd) (by exact hlt) 1 rfl) (jm_pick hnd [0, 1] (by decide) rfl)  _ _ (by omega) (by omega)) ?_
                refine jt_hq (jx_into (by exact hnd) [0, 1] rfl (L1 := [(a, (1, [.ref q, .int len, .int x, .int (g_T_breakAt_a_3 at_ len x br f)])), (q, (100, jx_vi 400 f))]) rfl) ?_
                show jt jp_T_number rF rL 116 [(0, .ref a), (1, .int lo), (2, .int hi), (3, .int at_), (4, .int nu), (5, .int v22)] [] (jx_us M [(a, (1, [.ref q, .int len, .int x, .int (g_T_breakAt_a_3 at_ len x br f)])), (q, (100, jx_vi 400 f))]) 0 0 (.inl (some (.int (g_T_number lo hi len at_ br f))), (jx_us M [(a, (1, [.ref q, .int len, .int (g_T_number_a_2 lo hi len at_ br f), .int (g_T_number_a_3 lo hi len at_ br f)])), (q, (100, jx_vi 400 f))]), 0, 0)
                exact J116_5 _ (by first | (simp only [if_neg c4, if_neg c8, if_neg c9, reduceIte]; done) | (with_reducible rfl))
        · refine jt_sgp 1 (pc1 := 36) (lv1 := [(0, .ref a), (1, .int lo), (2, .int hi), (3, .int at_), (4, .int nu), (5, .int v22)]) (st1 := [.ref a]) rfl ?_
          refine jt_callv (k := 150) (m2 := jp_T_peek) (As := []) (b := a) (r := []) (mx := 1) rfl rfl rfl (jx_us_get (by exact hnd) (by exact hlt) 0 rfl) (Nat.le_of_ble_eq_true rfl) rfl rfl rfl (by omega) (by omega) (Nat.le_of_ble_eq_true rfl) (q_T_peek a q len x br f (jx_us M [(a, (1, [.ref q, .int len, .int x, .int br])), (q, (100, jx_vi 400 f))]) (jx_us_get (by exact hnd) (by exact hlt) 0 rfl) (jx_us_get (by exact hnd) (by exact hlt) 1 rfl) (jm_pick hnd [0, 1] (by decide) rfl) (by first | with_reducible assumption | decide +kernel) (by first | with_reducible assumption | decide +kernel) _ _ (by omega) (by omega)) ?_
          show jt jp_T_number rF rL 39 [(0, .ref a), (1, .int lo), (2, .int hi), (3, .int at_), (4, .int nu), (5, .int v22)] [.int (g_T_peek len x br f)] (jx_us M [(a, (1, [.ref q, .int len, .int x, .int br])), (q, (100, jx_vi 400 f))]) 0 0 (.inl (some (.int (g_T_number lo hi len at_ br f))), (jx_us M [(a, (1, [.ref q, .int len, .int (g_T_number_a_2 lo hi len at_ br f), .int (g_T_number_a_3 lo hi len at_ br f)])), (q, (100, jx_vi 400 f))]), 0, 0)
          refine jt_call (k := 157) (m2 := jp_T_isDigit) (As := [.int (g_T_peek len x br f)]) (r := []) (mx := 1) rfl rfl rfl rfl rfl (by omega) (by omega) (Nat.le_of_ble_eq_true rfl) (q_T_isDigit (g_T_peek len x br f) (jx_us M [(a, (1, [.ref q, .int len, .int x, .int br])), (q, (100, jx_vi 400 f))])   _ _ (by omega) (by omega)) ?_
          show jt jp_T_number rF rL 42 [(0, .ref a), (1, .int lo), (2, .int hi), (3, .int at_), (4, .int nu), (5, .int v22)] [.int (g_T_isDigit (g_T_peek len x br f))] (jx_us M [(a, (1, [.ref q, .int len, .int x, .int br])), (q, (100, jx_vi 400 f))]) 0 0 (.inl (some (.int (g_T_number lo hi len at_ br f))), (jx_us M [(a, (1, [.ref q, .int len, .int (g_T_number_a_2 lo hi len at_ br f), .int (g_T_number_a_3 lo hi len at_ br f)])), (q, (100, jx_vi 400 f))]), 0, 0)
          refine jt_if_eq (t := 91) rfl rfl (fun c10 => ?_) (fun c10 => ?_)
          · refine jt_sgp 1 (pc1 := 92) (lv1 := [(0, .ref a), (1, .int lo), (2, .int hi), (3, .int at_), (4, .int nu), (5, .int v22)]) (st1 := [.ref a]) rfl ?_
            refine jt_get rfl (jx_us_get (by exact hnd) (by exact hlt) 0 rfl) rfl ?_
            refine jt_sgp 1 (pc1 := 96) (lv1 := [(0, .ref a), (1, .int lo), (2, .int hi), (3, .int at_), (4, .int nu), (5, .int v22)]) (st1 := [.int at_, .int x]) rfl ?_
            have J116_12 : ∀ (v116x : Int32), v116x = (if x = at_ then (g_T_breakAt_a_3 at_ len x br f) else (if nu < lo then (g_T_breakAt_a_3 at_ len x br f) else (if nu ≤ hi then br else (g_T_breakAt_a_3 at_ len x br f))) : Int32) → jt jp_T_number rF rL 116 [(0, .ref a), (1, .int lo), (2, .int hi), (3, .int at_), (4, .int nu), (5, .int v22)] [] (jx_us M [(a, (1, [.ref q, .int len, .int x, .int v116x])), (q, (100, jx_vi 400 f))]) 0 0 (.inl (some (.int (g_T_number lo hi len at_ br f))), (jx_us M [(a, (1, [.ref q, .int len, .int (g_T_number_a_2 lo hi len at_ br f), .int (g_T_number_a_3 lo hi len at_ br f)])), (q, (100, jx_vi 400 f))]), 0, 0) := by
              intro v116x ev116x
              refine jt_sgp 1 (pc1 := 117) (lv1 := [(0, .ref a), (1, .int lo), (2, .int hi), (3, .int at_), (4, .int nu), (5, .int v22)]) (st1 := [.ref a]) rfl ?_
              refine jt_get rfl (jx_us_get (by exact hnd) (by exact hlt) 0 rfl) rfl ?_
              refine jt_sgp 1 (pc1 := 121) (lv1 := [(0, .ref a), (1, .int lo), (2, .int hi), (3, .int at_), (4, .int nu), (5, .int v22)]) (st1 := [.int (-1), .int v116x]) rfl ?_
              have J130_14 : ∀ (v130x : Int32), v130x = (if v116x = (-1) then nu else lo : Int32) → jt jp_T_number rF rL 130 [(0, .ref a), (1, .int lo), (2, .int hi), (3, .int at_), (4, .int nu), (5, .int v22)] [.int v130x] (jx_us M [(a, (1, [.ref q, .int len, .int x, .int v116x])), (q, (100, jx_vi 400 f))]) 0 0 (.inl (some (.int (g_T_number lo hi len at_ br f))), (jx_us M [(a, (1, [.ref q, .int len, .int (g_T_number_a_2 lo hi len at_ br f), .int (g_T_number_a_3 lo hi len at_ br f)])), (q, (100, jx_vi 400 f))]), 0, 0) := by
                intro v130x ev130x
                exact jt_iret rfl rfl rfl (jx_oe (by show (some (Value.int _) : Option Value) = some (Value.int _); subst ev130x; subst ev116x; subst ev22; simp only [if_neg c3, if_pos c10, reduceIte] at hF; unfold g_T_number; (try dsimp only); rw [← hro, ← hF]) (by show jx_us M _ = jx_us M _; subst ev130x; subst ev116x; subst ev22; simp only [if_neg c3, if_pos c10, reduceIte] at hF; unfold g_T_number_a_2 g_T_number_a_3; (try dsimp only); rw [← hro, ← hF]))
              refine jt_icmp_ne (t := 129) rfl rfl (fun c13 => ?_) (fun c13 => ?_)
              · refine jt_sgp 1 (pc1 := 130) (lv1 := [(0, .ref a), (1, .int lo), (2, .int hi), (3, .int at_), (4, .int nu), (5, .int v22)]) (st1 := [.int lo]) rfl ?_
                exact J130_14 _ (by first | (simp only [if_neg c13, reduceIte]; done) | (with_reducible rfl))
              · refine jt_sgp 2 (pc1 := 130) (lv1 := [(0, .ref a), (1, .int lo), (2, .int hi), (3, .int at_), (4, .int nu), (5, .int v22)]) (st1 := [.int nu]) rfl ?_
                exact J130_14 _ (by first | (simp only [if_pos c13, reduceIte]; done) | (with_reducible rfl))
            refine jt_icmp_eq (t := 111) rfl rfl (fun c11 => ?_) (fun c11 => ?_)
            · refine jt_sgp 2 (pc1 := 113) (lv1 := [(0, .ref a), (1, .int lo), (2, .int hi), (3, .int at_), (4, .int nu), (5, .int v22)]) (st1 := [.int at_, .ref a]) rfl ?_
              refine jt_callv (k := 148) (m2 := jp_T_breakAt) (As := [.int at_]) (b := a) (r := []) (mx := 2) rfl rfl rfl (jx_us_get (by exact hnd) (by exact hlt) 0 rfl) (Nat.le_of_ble_eq_true rfl) rfl rfl rfl (by omega) (by omega) (Nat.le_of_ble_eq_true rfl) (q_T_breakAt a at_ q len x br f (jx_us M [(a, (1, [.ref q, .int len, .int x, .int br])), (q, (100, jx_vi 400 f))]) (jx_us_get (by exact hnd) (by exact hlt) 0 rfl) (jx_us_get (by exact hnd) (by exact hlt) 1 rfl) (jm_pick hnd [0, 1] (by decide) rfl)  _ _ (by omega) (by omega)) ?_
              refine jt_hq (jx_into (by exact hnd) [0, 1] rfl (L1 := [(a, (1, [.ref q, .int len, .int x, .int (g_T_breakAt_a_3 at_ len x br f)])), (q, (100, jx_vi 400 f))]) rfl) ?_
              show jt jp_T_number rF rL 116 [(0, .ref a), (1, .int lo), (2, .int hi), (3, .int at_), (4, .int nu), (5, .int v22)] [] (jx_us M [(a, (1, [.ref q, .int len, .int x, .int (g_T_breakAt_a_3 at_ len x br f)])), (q, (100, jx_vi 400 f))]) 0 0 (.inl (some (.int (g_T_number lo hi len at_ br f))), (jx_us M [(a, (1, [.ref q, .int len, .int (g_T_number_a_2 lo hi len at_ br f), .int (g_T_number_a_3 lo hi len at_ br f)])), (q, (100, jx_vi 400 f))]), 0, 0)
              exact J116_12 _ (by first | (simp only [if_pos c11, reduceIte]; done) | (with_reducible rfl))
            · refine jt_sgp 2 (pc1 := 102) (lv1 := [(0, .ref a), (1, .int lo), (2, .int hi), (3, .int at_), (4, .int nu), (5, .int v22)]) (st1 := [.int lo, .int nu]) rfl ?_
              refine jt_icmp_lt (t := 111) rfl rfl (fun c15 => ?_) (fun c15 => ?_)
              · refine jt_sgp 2 (pc1 := 113) (lv1 := [(0, .ref a), (1, .int lo), (2, .int hi), (3, .int at_), (4, .int nu), (5, .int v22)]) (st1 := [.int at_, .ref a]) rfl ?_
                refine jt_callv (k := 148) (m2 := jp_T_breakAt) (As := [.int at_]) (b := a) (r := []) (mx := 2) rfl rfl rfl (jx_us_get (by exact hnd) (by exact hlt) 0 rfl) (Nat.le_of_ble_eq_true rfl) rfl rfl rfl (by omega) (by omega) (Nat.le_of_ble_eq_true rfl) (q_T_breakAt a at_ q len x br f (jx_us M [(a, (1, [.ref q, .int len, .int x, .int br])), (q, (100, jx_vi 400 f))]) (jx_us_get (by exact hnd) (by exact hlt) 0 rfl) (jx_us_get (by exact hnd) (by exact hlt) 1 rfl) (jm_pick hnd [0, 1] (by decide) rfl)  _ _ (by omega) (by omega)) ?_
                refine jt_hq (jx_into (by exact hnd) [0, 1] rfl (L1 := [(a, (1, [.ref q, .int len, .int x, .int (g_T_breakAt_a_3 at_ len x br f)])), (q, (100, jx_vi 400 f))]) rfl) ?_
                show jt jp_T_number rF rL 116 [(0, .ref a), (1, .int lo), (2, .int hi), (3, .int at_), (4, .int nu), (5, .int v22)] [] (jx_us M [(a, (1, [.ref q, .int len, .int x, .int (g_T_breakAt_a_3 at_ len x br f)])), (q, (100, jx_vi 400 f))]) 0 0 (.inl (some (.int (g_T_number lo hi len at_ br f))), (jx_us M [(a, (1, [.ref q, .int len, .int (g_T_number_a_2 lo hi len at_ br f), .int (g_T_number_a_3 lo hi len at_ br f)])), (q, (100, jx_vi 400 f))]), 0, 0)
                exact J116_12 _ (by first | (simp only [if_neg c11, if_pos c15, reduceIte]; done) | (with_reducible rfl))
              · refine jt_sgp 2 (pc1 := 108) (lv1 := [(0, .ref a), (1, .int lo), (2, .int hi), (3, .int at_), (4, .int nu), (5, .int v22)]) (st1 := [.int hi, .int nu]) rfl ?_
                refine jt_icmp_le (t := 116) rfl rfl (fun c16 => ?_) (fun c16 => ?_)
                · exact J116_12 _ (by first | (simp only [if_neg c11, if_neg c15, if_pos c16, reduceIte]; done) | (with_reducible rfl))
                · refine jt_sgp 2 (pc1 := 113) (lv1 := [(0, .ref a), (1, .int lo), (2, .int hi), (3, .int at_), (4, .int nu), (5, .int v22)]) (st1 := [.int at_, .ref a]) rfl ?_
                  refine jt_callv (k := 148) (m2 := jp_T_breakAt) (As := [.int at_]) (b := a) (r := []) (mx := 2) rfl rfl rfl (jx_us_get (by exact hnd) (by exact hlt) 0 rfl) (Nat.le_of_ble_eq_true rfl) rfl rfl rfl (by omega) (by omega) (Nat.le_of_ble_eq_true rfl) (q_T_breakAt a at_ q len x br f (jx_us M [(a, (1, [.ref q, .int len, .int x, .int br])), (q, (100, jx_vi 400 f))]) (jx_us_get (by exact hnd) (by exact hlt) 0 rfl) (jx_us_get (by exact hnd) (by exact hlt) 1 rfl) (jm_pick hnd [0, 1] (by decide) rfl)  _ _ (by omega) (by omega)) ?_
                  refine jt_hq (jx_into (by exact hnd) [0, 1] rfl (L1 := [(a, (1, [.ref q, .int len, .int x, .int (g_T_breakAt_a_3 at_ len x br f)])), (q, (100, jx_vi 400 f))]) rfl) ?_
                  show jt jp_T_number rF rL 116 [(0, .ref a), (1, .int lo), (2, .int hi), (3, .int at_), (4, .int nu), (5, .int v22)] [] (jx_us M [(a, (1, [.ref q, .int len, .int x, .int (g_T_breakAt_a_3 at_ len x br f)])), (q, (100, jx_vi 400 f))]) 0 0 (.inl (some (.int (g_T_number lo hi len at_ br f))), (jx_us M [(a, (1, [.ref q, .int len, .int (g_T_number_a_2 lo hi len at_ br f), .int (g_T_number_a_3 lo hi len at_ br f)])), (q, (100, jx_vi 400 f))]), 0, 0)
                  exact J116_12 _ (by first | (simp only [if_neg c11, if_neg c15, if_neg c16, reduceIte]; done) | (with_reducible rfl))
          · refine jt_sgp 1 (pc1 := 47) (lv1 := [(0, .ref a), (1, .int lo), (2, .int hi), (3, .int at_), (4, .int nu), (5, .int v22)]) (st1 := [.int v22]) rfl ?_
            refine jt_if_eq (t := 58) rfl rfl (fun c17 => ?_) (fun c17 => ?_)
            · refine jt_sgp 4 (pc1 := 64) (lv1 := [(0, .ref a), (1, .int lo), (2, .int hi), (3, .int at_), (4, .int nu), (5, .int v22)]) (st1 := [.ref a, .int (nu * 10)]) rfl ?_
              refine jt_callv (k := 150) (m2 := jp_T_peek) (As := []) (b := a) (r := [.int (nu * 10)]) (mx := 1) rfl rfl rfl (jx_us_get (by exact hnd) (by exact hlt) 0 rfl) (Nat.le_of_ble_eq_true rfl) rfl rfl rfl (by omega) (by omega) (Nat.le_of_ble_eq_true rfl) (q_T_peek a q len x br f (jx_us M [(a, (1, [.ref q, .int len, .int x, .int br])), (q, (100, jx_vi 400 f))]) (jx_us_get (by exact hnd) (by exact hlt) 0 rfl) (jx_us_get (by exact hnd) (by exact hlt) 1 rfl) (jm_pick hnd [0, 1] (by decide) rfl) (by first | with_reducible assumption | decide +kernel) (by first | with_reducible assumption | decide +kernel) _ _ (by omega) (by omega)) ?_
              show jt jp_T_number rF rL 67 [(0, .ref a), (1, .int lo), (2, .int hi), (3, .int at_), (4, .int nu), (5, .int v22)] [.int (g_T_peek len x br f), .int (nu * 10)] (jx_us M [(a, (1, [.ref q, .int len, .int x, .int br])), (q, (100, jx_vi 400 f))]) 0 0 (.inl (some (.int (g_T_number lo hi len at_ br f))), (jx_us M [(a, (1, [.ref q, .int len, .int (g_T_number_a_2 lo hi len at_ br f), .int (g_T_number_a_3 lo hi len at_ br f)])), (q, (100, jx_vi 400 f))]), 0, 0)
              refine jt_sgp 4 (pc1 := 73) (lv1 := [(0, .ref a), (1, .int lo), (2, .int hi), (3, .int at_), (4, .int nu), (5, .int v22)]) (st1 := [.int 1000000, .int (((nu * 10) + (g_T_peek len x br f)) - 48)]) rfl ?_
              refine jt_call (k := 192) (m2 := jp_Math_min) (As := [.int (((nu * 10) + (g_T_peek len x br f)) - 48), .int 1000000]) (r := []) (mx := 2) rfl rfl rfl rfl rfl (by omega) (by omega) (Nat.le_of_ble_eq_true rfl) (q_Math_min (((nu * 10) + (g_T_peek len x br f)) - 48) 1000000 (jx_us M [(a, (1, [.ref q, .int len, .int x, .int br])), (q, (100, jx_vi 400 f))])   _ _ (by omega) (by omega)) ?_
              show jt jp_T_number rF rL 76 [(0, .ref a), (1, .int lo), (2, .int hi), (3, .int at_), (4, .int nu), (5, .int v22)] [.int (g_Math_min (((nu * 10) + (g_T_peek len x br f)) - 48) 1000000)] (jx_us M [(a, (1, [.ref q, .int len, .int x, .int br])), (q, (100, jx_vi 400 f))]) 0 0 (.inl (some (.int (g_T_number lo hi len at_ br f))), (jx_us M [(a, (1, [.ref q, .int len, .int (g_T_number_a_2 lo hi len at_ br f), .int (g_T_number_a_3 lo hi len at_ br f)])), (q, (100, jx_vi 400 f))]), 0, 0)
              obtain ⟨u73, eu73⟩ : ∃ z_ : Int32, z_ = (g_Math_min (((nu * 10) + (g_T_peek len x br f)) - 48) 1000000) := ⟨_, rfl⟩
              rw [← eu73]
              refine jt_sgp 3 (pc1 := 80) (lv1 := [(4, .int u73), (0, .ref a), (1, .int lo), (2, .int hi), (3, .int at_), (5, .int v22)]) (st1 := [.ref a, .ref a]) rfl ?_
              refine jt_get rfl (jx_us_get (by exact hnd) (by exact hlt) 0 rfl) rfl ?_
              refine jt_sgp 2 (pc1 := 85) (lv1 := [(4, .int u73), (0, .ref a), (1, .int lo), (2, .int hi), (3, .int at_), (5, .int v22)]) (st1 := [.int (x + 1), .ref a]) rfl ?_
              refine jt_put rfl (jx_us_get (by exact hnd) (by exact hlt) 0 rfl) (Nat.le_of_ble_eq_true rfl) rfl (Or.inl rfl) (jx_us_set (by exact hnd) 0 rfl (L1 := [(a, (1, [.ref q, .int len, .int (x + 1), .int br])), (q, (100, jx_vi 400 f))]) rfl) ?_
              refine jt_sgp 1 (pc1 := 24) (lv1 := [(4, .int u73), (0, .ref a), (1, .int lo), (2, .int hi), (3, .int at_), (5, .int v22)]) (st1 := []) rfl ?_
              refine jt_lvs (l1 := [(0, .ref a), (1, .int lo), (2, .int hi), (3, .int at_), (4, .int u73), (5, .int v22)]) rfl rfl ⟨rfl, rfl, rfl, rfl, rfl, rfl, trivial⟩ ?_
              exact ih (x + 1) u73 (jm_inc0 i1 (jm_nl c3)) (jm_dec (jm_nl c3) hm) (by subst eu73; simp only [if_neg c3, if_neg c10, if_pos c17, reduceIte] at hF; exact hF)
            · refine jt_sgp 1 (pc1 := 51) (lv1 := [(0, .ref a), (1, .int lo), (2, .int hi), (3, .int at_), (4, .int nu), (5, .int v22)]) (st1 := [.ref a]) rfl ?_
              refine jt_get rfl (jx_us_get (by exact hnd) (by exact hlt) 0 rfl) rfl ?_
              refine jt_sgp 1 (pc1 := 55) (lv1 := [(0, .ref a), (1, .int lo), (2, .int hi), (3, .int at_), (4, .int nu), (5, .int v22)]) (st1 := [.int at_, .int x]) rfl ?_
              refine jt_icmp_gt (t := 91) rfl rfl (fun c18 => ?_) (fun c18 => ?_)
              · refine jt_sgp 1 (pc1 := 92) (lv1 := [(0, .ref a), (1, .int lo), (2, .int hi), (3, .int at_), (4, .int nu), (5, .int v22)]) (st1 := [.ref a]) rfl ?_
                refine jt_get rfl (jx_us_get (by exact hnd) (by exact hlt) 0 rfl) rfl ?_
                refine jt_sgp 1 (pc1 := 96) (lv1 := [(0, .ref a), (1, .int lo), (2, .int hi), (3, .int at_), (4, .int nu), (5, .int v22)]) (st1 := [.int at_, .int x]) rfl ?_
                have J116_20 : ∀ (v116xx : Int32), v116xx = (if x = at_ then (g_T_breakAt_a_3 at_ len x br f) else (if nu < lo then (g_T_breakAt_a_3 at_ len x br f) else (if nu ≤ hi then br else (g_T_breakAt_a_3 at_ len x br f))) : Int32) → jt jp_T_number rF rL 116 [(0, .ref a), (1, .int lo), (2, .int hi), (3, .int at_), (4, .int nu), (5, .int v22)] [] (jx_us M [(a, (1, [.ref q, .int len, .int x, .int v116xx])), (q, (100, jx_vi 400 f))]) 0 0 (.inl (some (.int (g_T_number lo hi len at_ br f))), (jx_us M [(a, (1, [.ref q, .int len, .int (g_T_number_a_2 lo hi len at_ br f), .int (g_T_number_a_3 lo hi len at_ br f)])), (q, (100, jx_vi 400 f))]), 0, 0) := by
                  intro v116xx ev116xx
                  refine jt_sgp 1 (pc1 := 117) (lv1 := [(0, .ref a), (1, .int lo), (2, .int hi), (3, .int at_), (4, .int nu), (5, .int v22)]) (st1 := [.ref a]) rfl ?_
                  refine jt_get rfl (jx_us_get (by exact hnd) (by exact hlt) 0 rfl) rfl ?_
                  refine jt_sgp 1 (pc1 := 121) (lv1 := [(0, .ref a), (1, .int lo), (2, .int hi), (3, .int at_), (4, .int nu), (5, .int v22)]) (st1 := [.int (-1), .int v116xx]) rfl ?_
                  have J130_22 : ∀ (v130xx : Int32), v130xx = (if v116xx = (-1) then nu else lo : Int32) → jt jp_T_number rF rL 130 [(0, .ref a), (1, .int lo), (2, .int hi), (3, .int at_), (4, .int nu), (5, .int v22)] [.int v130xx] (jx_us M [(a, (1, [.ref q, .int len, .int x, .int v116xx])), (q, (100, jx_vi 400 f))]) 0 0 (.inl (some (.int (g_T_number lo hi len at_ br f))), (jx_us M [(a, (1, [.ref q, .int len, .int (g_T_number_a_2 lo hi len at_ br f), .int (g_T_number_a_3 lo hi len at_ br f)])), (q, (100, jx_vi 400 f))]), 0, 0) := by
                    intro v130xx ev130xx
                    exact jt_iret rfl rfl rfl (jx_oe (by show (some (Value.int _) : Option Value) = some (Value.int _); subst ev130xx; subst ev116xx; subst ev22; simp only [if_neg c3, if_neg c10, if_neg c17, if_pos c18, reduceIte] at hF; unfold g_T_number; (try dsimp only); rw [← hro, ← hF]) (by show jx_us M _ = jx_us M _; subst ev130xx; subst ev116xx; subst ev22; simp only [if_neg c3, if_neg c10, if_neg c17, if_pos c18, reduceIte] at hF; unfold g_T_number_a_2 g_T_number_a_3; (try dsimp only); rw [← hro, ← hF]))
                  refine jt_icmp_ne (t := 129) rfl rfl (fun c21 => ?_) (fun c21 => ?_)
                  · refine jt_sgp 1 (pc1 := 130) (lv1 := [(0, .ref a), (1, .int lo), (2, .int hi), (3, .int at_), (4, .int nu), (5, .int v22)]) (st1 := [.int lo]) rfl ?_
                    exact J130_22 _ (by first | (simp only [if_neg c21, reduceIte]; done) | (with_reducible rfl))
                  · refine jt_sgp 2 (pc1 := 130) (lv1 := [(0, .ref a), (1, .int lo), (2, .int hi), (3, .int at_), (4, .int nu), (5, .int v22)]) (st1 := [.int nu]) rfl ?_
                    exact J130_22 _ (by first | (simp only [if_pos c21, reduceIte]; done) | (with_reducible rfl))
                refine jt_icmp_eq (t := 111) rfl rfl (fun c19 => ?_) (fun c19 => ?_)
                · refine jt_sgp 2 (pc1 := 113) (lv1 := [(0, .ref a), (1, .int lo), (2, .int hi), (3, .int at_), (4, .int nu), (5, .int v22)]) (st1 := [.int at_, .ref a]) rfl ?_
                  refine jt_callv (k := 148) (m2 := jp_T_breakAt) (As := [.int at_]) (b := a) (r := []) (mx := 2) rfl rfl rfl (jx_us_get (by exact hnd) (by exact hlt) 0 rfl) (Nat.le_of_ble_eq_true rfl) rfl rfl rfl (by omega) (by omega) (Nat.le_of_ble_eq_true rfl) (q_T_breakAt a at_ q len x br f (jx_us M [(a, (1, [.ref q, .int len, .int x, .int br])), (q, (100, jx_vi 400 f))]) (jx_us_get (by exact hnd) (by exact hlt) 0 rfl) (jx_us_get (by exact hnd) (by exact hlt) 1 rfl) (jm_pick hnd [0, 1] (by decide) rfl)  _ _ (by omega) (by omega)) ?_
                  refine jt_hq (jx_into (by exact hnd) [0, 1] rfl (L1 := [(a, (1, [.ref q, .int len, .int x, .int (g_T_breakAt_a_3 at_ len x br f)])), (q, (100, jx_vi 400 f))]) rfl) ?_
                  show jt jp_T_number rF rL 116 [(0, .ref a), (1, .int lo), (2, .int hi), (3, .int at_), (4, .int nu), (5, .int v22)] [] (jx_us M [(a, (1, [.ref q, .int len, .int x, .int (g_T_breakAt_a_3 at_ len x br f)])), (q, (100, jx_vi 400 f))]) 0 0 (.inl (some (.int (g_T_number lo hi len at_ br f))), (jx_us M [(a, (1, [.ref q, .int len, .int (g_T_number_a_2 lo hi len at_ br f), .int (g_T_number_a_3 lo hi len at_ br f)])), (q, (100, jx_vi 400 f))]), 0, 0)
                  exact J116_20 _ (by first | (simp only [if_pos c19, reduceIte]; done) | (with_reducible rfl))
                · refine jt_sgp 2 (pc1 := 102) (lv1 := [(0, .ref a), (1, .int lo), (2, .int hi), (3, .int at_), (4, .int nu), (5, .int v22)]) (st1 := [.int lo, .int nu]) rfl ?_
                  refine jt_icmp_lt (t := 111) rfl rfl (fun c23 => ?_) (fun c23 => ?_)
                  · refine jt_sgp 2 (pc1 := 113) (lv1 := [(0, .ref a), (1, .int lo), (2, .int hi), (3, .int at_), (4, .int nu), (5, .int v22)]) (st1 := [.int at_, .ref a]) rfl ?_
                    refine jt_callv (k := 148) (m2 := jp_T_breakAt) (As := [.int at_]) (b := a) (r := []) (mx := 2) rfl rfl rfl (jx_us_get (by exact hnd) (by exact hlt) 0 rfl) (Nat.le_of_ble_eq_true rfl) rfl rfl rfl (by omega) (by omega) (Nat.le_of_ble_eq_true rfl) (q_T_breakAt a at_ q len x br f (jx_us M [(a, (1, [.ref q, .int len, .int x, .int br])), (q, (100, jx_vi 400 f))]) (jx_us_get (by exact hnd) (by exact hlt) 0 rfl) (jx_us_get (by exact hnd) (by exact hlt) 1 rfl) (jm_pick hnd [0, 1] (by decide) rfl)  _ _ (by omega) (by omega)) ?_
                    refine jt_hq (jx_into (by exact hnd) [0, 1] rfl (L1 := [(a, (1, [.ref q, .int len, .int x, .int (g_T_breakAt_a_3 at_ len x br f)])), (q, (100, jx_vi 400 f))]) rfl) ?_
                    show jt jp_T_number rF rL 116 [(0, .ref a), (1, .int lo), (2, .int hi), (3, .int at_), (4, .int nu), (5, .int v22)] [] (jx_us M [(a, (1, [.ref q, .int len, .int x, .int (g_T_breakAt_a_3 at_ len x br f)])), (q, (100, jx_vi 400 f))]) 0 0 (.inl (some (.int (g_T_number lo hi len at_ br f))), (jx_us M [(a, (1, [.ref q, .int len, .int (g_T_number_a_2 lo hi len at_ br f), .int (g_T_number_a_3 lo hi len at_ br f)])), (q, (100, jx_vi 400 f))]), 0, 0)
                    exact J116_20 _ (by first | (simp only [if_neg c19, if_pos c23, reduceIte]; done) | (with_reducible rfl))
                  · refine jt_sgp 2 (pc1 := 108) (lv1 := [(0, .ref a), (1, .int lo), (2, .int hi), (3, .int at_), (4, .int nu), (5, .int v22)]) (st1 := [.int hi, .int nu]) rfl ?_
                    refine jt_icmp_le (t := 116) rfl rfl (fun c24 => ?_) (fun c24 => ?_)
                    · exact J116_20 _ (by first | (simp only [if_neg c19, if_neg c23, if_pos c24, reduceIte]; done) | (with_reducible rfl))
                    · refine jt_sgp 2 (pc1 := 113) (lv1 := [(0, .ref a), (1, .int lo), (2, .int hi), (3, .int at_), (4, .int nu), (5, .int v22)]) (st1 := [.int at_, .ref a]) rfl ?_
                      refine jt_callv (k := 148) (m2 := jp_T_breakAt) (As := [.int at_]) (b := a) (r := []) (mx := 2) rfl rfl rfl (jx_us_get (by exact hnd) (by exact hlt) 0 rfl) (Nat.le_of_ble_eq_true rfl) rfl rfl rfl (by omega) (by omega) (Nat.le_of_ble_eq_true rfl) (q_T_breakAt a at_ q len x br f (jx_us M [(a, (1, [.ref q, .int len, .int x, .int br])), (q, (100, jx_vi 400 f))]) (jx_us_get (by exact hnd) (by exact hlt) 0 rfl) (jx_us_get (by exact hnd) (by exact hlt) 1 rfl) (jm_pick hnd [0, 1] (by decide) rfl)  _ _ (by omega) (by omega)) ?_
                      refine jt_hq (jx_into (by exact hnd) [0, 1] rfl (L1 := [(a, (1, [.ref q, .int len, .int x, .int (g_T_breakAt_a_3 at_ len x br f)])), (q, (100, jx_vi 400 f))]) rfl) ?_
                      show jt jp_T_number rF rL 116 [(0, .ref a), (1, .int lo), (2, .int hi), (3, .int at_), (4, .int nu), (5, .int v22)] [] (jx_us M [(a, (1, [.ref q, .int len, .int x, .int (g_T_breakAt_a_3 at_ len x br f)])), (q, (100, jx_vi 400 f))]) 0 0 (.inl (some (.int (g_T_number lo hi len at_ br f))), (jx_us M [(a, (1, [.ref q, .int len, .int (g_T_number_a_2 lo hi len at_ br f), .int (g_T_number_a_3 lo hi len at_ br f)])), (q, (100, jx_vi 400 f))]), 0, 0)
                      exact J116_20 _ (by first | (simp only [if_neg c19, if_neg c23, if_neg c24, reduceIte]; done) | (with_reducible rfl))
              · refine jt_sgp 4 (pc1 := 64) (lv1 := [(0, .ref a), (1, .int lo), (2, .int hi), (3, .int at_), (4, .int nu), (5, .int v22)]) (st1 := [.ref a, .int (nu * 10)]) rfl ?_
                refine jt_callv (k := 150) (m2 := jp_T_peek) (As := []) (b := a) (r := [.int (nu * 10)]) (mx := 1) rfl rfl rfl (jx_us_get (by exact hnd) (by exact hlt) 0 rfl) (Nat.le_of_ble_eq_true rfl) rfl rfl rfl (by omega) (by omega) (Nat.le_of_ble_eq_true rfl) (q_T_peek a q len x br f (jx_us M [(a, (1, [.ref q, .int len, .int x, .int br])), (q, (100, jx_vi 400 f))]) (jx_us_get (by exact hnd) (by exact hlt) 0 rfl) (jx_us_get (by exact hnd) (by exact hlt) 1 rfl) (jm_pick hnd [0, 1] (by decide) rfl) (by first | with_reducible assumption | decide +kernel) (by first | with_reducible assumption | decide +kernel) _ _ (by omega) (by omega)) ?_
                show jt jp_T_number rF rL 67 [(0, .ref a), (1, .int lo), (2, .int hi), (3, .int at_), (4, .int nu), (5, .int v22)] [.int (g_T_peek len x br f), .int (nu * 10)] (jx_us M [(a, (1, [.ref q, .int len, .int x, .int br])), (q, (100, jx_vi 400 f))]) 0 0 (.inl (some (.int (g_T_number lo hi len at_ br f))), (jx_us M [(a, (1, [.ref q, .int len, .int (g_T_number_a_2 lo hi len at_ br f), .int (g_T_number_a_3 lo hi len at_ br f)])), (q, (100, jx_vi 400 f))]), 0, 0)
                refine jt_sgp 4 (pc1 := 73) (lv1 := [(0, .ref a), (1, .int lo), (2, .int hi), (3, .int at_), (4, .int nu), (5, .int v22)]) (st1 := [.int 1000000, .int (((nu * 10) + (g_T_peek len x br f)) - 48)]) rfl ?_
                refine jt_call (k := 192) (m2 := jp_Math_min) (As := [.int (((nu * 10) + (g_T_peek len x br f)) - 48), .int 1000000]) (r := []) (mx := 2) rfl rfl rfl rfl rfl (by omega) (by omega) (Nat.le_of_ble_eq_true rfl) (q_Math_min (((nu * 10) + (g_T_peek len x br f)) - 48) 1000000 (jx_us M [(a, (1, [.ref q, .int len, .int x, .int br])), (q, (100, jx_vi 400 f))])   _ _ (by omega) (by omega)) ?_
                show jt jp_T_number rF rL 76 [(0, .ref a), (1, .int lo), (2, .int hi), (3, .int at_), (4, .int nu), (5, .int v22)] [.int (g_Math_min (((nu * 10) + (g_T_peek len x br f)) - 48) 1000000)] (jx_us M [(a, (1, [.ref q, .int len, .int x, .int br])), (q, (100, jx_vi 400 f))]) 0 0 (.inl (some (.int (g_T_number lo hi len at_ br f))), (jx_us M [(a, (1, [.ref q, .int len, .int (g_T_number_a_2 lo hi len at_ br f), .int (g_T_number_a_3 lo hi len at_ br f)])), (q, (100, jx_vi 400 f))]), 0, 0)
                obtain ⟨u73x, eu73x⟩ : ∃ z_ : Int32, z_ = (g_Math_min (((nu * 10) + (g_T_peek len x br f)) - 48) 1000000) := ⟨_, rfl⟩
                rw [← eu73x]
                refine jt_sgp 3 (pc1 := 80) (lv1 := [(4, .int u73x), (0, .ref a), (1, .int lo), (2, .int hi), (3, .int at_), (5, .int v22)]) (st1 := [.ref a, .ref a]) rfl ?_
                refine jt_get rfl (jx_us_get (by exact hnd) (by exact hlt) 0 rfl) rfl ?_
                refine jt_sgp 2 (pc1 := 85) (lv1 := [(4, .int u73x), (0, .ref a), (1, .int lo), (2, .int hi), (3, .int at_), (5, .int v22)]) (st1 := [.int (x + 1), .ref a]) rfl ?_
                refine jt_put rfl (jx_us_get (by exact hnd) (by exact hlt) 0 rfl) (Nat.le_of_ble_eq_true rfl) rfl (Or.inl rfl) (jx_us_set (by exact hnd) 0 rfl (L1 := [(a, (1, [.ref q, .int len, .int (x + 1), .int br])), (q, (100, jx_vi 400 f))]) rfl) ?_
                refine jt_sgp 1 (pc1 := 24) (lv1 := [(4, .int u73x), (0, .ref a), (1, .int lo), (2, .int hi), (3, .int at_), (5, .int v22)]) (st1 := []) rfl ?_
                refine jt_lvs (l1 := [(0, .ref a), (1, .int lo), (2, .int hi), (3, .int at_), (4, .int u73x), (5, .int v22)]) rfl rfl ⟨rfl, rfl, rfl, rfl, rfl, rfl, trivial⟩ ?_
                exact ih (x + 1) u73x (jm_inc0 i1 (jm_nl c3)) (jm_dec (jm_nl c3) hm) (by subst eu73x; simp only [if_neg c3, if_neg c10, if_neg c17, if_neg c18, reduceIte] at hF; exact hF)
    exact LP24 401 at_ 0 p1 (jm_m0 p1 p2 (by decide) (by decide)) hro.symm
  refine jt_icmp_ne (t := 21) rfl rfl (fun c1 => ?_) (fun c1 => ?_)
  · refine jt_sgp 1 (pc1 := 22) (lv1 := [(4, .int 0), (3, .int at_), (0, .ref a), (1, .int lo), (2, .int hi)]) (st1 := [.int 0]) rfl ?_
    exact J22_2 _ (by first | (simp only [if_neg c1, reduceIte]; done) | (with_reducible rfl))
  · refine jt_sgp 2 (pc1 := 22) (lv1 := [(4, .int 0), (3, .int at_), (0, .ref a), (1, .int lo), (2, .int hi)]) (st1 := [.int 1]) rfl ?_
    exact J22_2 _ (by first | (simp only [if_pos c1, reduceIte]; done) | (with_reducible rfl))
theorem jm_s8 {x : Int32} (h0 : ¬ x < 0) (h1 : x ≤ 24) : (x + (-8)).toInt = x.toInt - 8 := by
  simp only [Int32.le_iff_toInt_le, Int32.lt_iff_toInt_lt] at *
  have h3 : (0 : Int32).toInt = 0 := rfl
  have h4 : (24 : Int32).toInt = 24 := rfl
  rw [Int32.toInt_add, show (-8 : Int32).toInt = -8 from rfl]
  simp only [Int.bmod]
  omega
theorem jm_s8a {x : Int32} (h0 : ¬ x < 0) (h1 : x ≤ 24) : x + (-8) ≤ 24 := by
  have h2 := jm_s8 h0 h1
  simp only [Int32.le_iff_toInt_le] at *
  have h4 : (24 : Int32).toInt = 24 := rfl
  omega
theorem jm_s8m {x : Int32} {k : Nat} (h0 : ¬ x < 0) (h1 : x ≤ 24) (hm : (x.toInt + 8).toNat < k + 1) : ((x + (-8)).toInt + 8).toNat < k := by
  have h2 := jm_s8 h0 h1
  simp only [Int32.le_iff_toInt_le, Int32.lt_iff_toInt_lt] at *
  have h3 : (0 : Int32).toInt = 0 := rfl
  omega
def G_T_addWord_3 (w : Int32) (len : Int32) (at_ : Int32) (br : Int32) (f : Nat → Int32) : Nat → (Int32) → (Int32) → (Nat → Int32) → Int32 × (Nat → Int32)
  | 0, _, _, _ => (0, (fun _ => 0))
  | n + 1, sh, ln, g_ =>
    if sh < 0 then ((ln, g_)) else (if 400 ≤ ln then ((ln, g_)) else (G_T_addWord_3 w len at_ br f n (sh + (-8)) (ln + 1) (upd g_ (ln : Int32).toNatClampNeg (vp_nar .byte (((w : Int32) >>> (sh &&& 31) : Int32).toInt8.toInt32)))))
termination_by n _ _ _ => n
def g_T_addWord_a_1 (w : Int32) (len : Int32) (at_ : Int32) (br : Int32) (f : Nat → Int32) : Int32 :=
  (G_T_addWord_3 w len at_ br f 33 24 len f).1
def g_T_addWord_q (w : Int32) (len : Int32) (at_ : Int32) (br : Int32) (f : Nat → Int32) : Nat → Int32 :=
  (G_T_addWord_3 w len at_ br f 33 24 len f).2
set_option maxRecDepth 20000 in
set_option maxHeartbeats 4000000 in
theorem q_T_addWord (a : Nat) (w : Int32) (q : Nat) (len : Int32) (at_ : Int32) (br : Int32) (f : Nat → Int32) (M : jx_H) (h_a : M[a]? = some (1, [.ref q, .int len, .int at_, .int br])) (h_q : M[q]? = some (100, jx_vi 400 f)) (hnd : ([a, q] : List Nat).Nodup) (p0 : 0 ≤ len) (rF rL : Nat) (hfr : 0 ≤ rF) (hlo : 0 ≤ rL) : jt jp_T_addWord rF rL 0 [(0, .ref a), (1, .int w)] [] M 0 0 (.inl none, (jx_us M [(a, (1, [.ref q, .int (g_T_addWord_a_1 w len at_ br f), .int at_, .int br])), (q, (100, jx_vi 400 (g_T_addWord_q w len at_ br f)))]), 0, 0) := by
  have hL : ∀ zz ∈ ([(a, (1, [.ref q, .int len, .int at_, .int br])), (q, (100, jx_vi 400 f))] : List (Nat × (Nat × List Value))), M[zz.1]? = some zz.2 := List.forall_mem_cons.mpr ⟨h_a, List.forall_mem_cons.mpr ⟨h_q, fun _ hz => absurd hz List.not_mem_nil⟩⟩
  have hlt : ∀ zz ∈ ([a, q] : List Nat), zz < M.length := jx_lts hL
  refine jt_hq (jx_us_id hL).symm ?_
  show jt jp_T_addWord rF rL 0 [(0, .ref a), (1, .int w)] [] (jx_us M [(a, (1, [.ref q, .int len, .int at_, .int br])), (q, (100, jx_vi 400 f))]) 0 0 (.inl none, (jx_us M [(a, (1, [.ref q, .int (g_T_addWord_a_1 w len at_ br f), .int at_, .int br])), (q, (100, jx_vi 400 (g_T_addWord_q w len at_ br f)))]), 0, 0)
  refine jt_sgp 2 (pc1 := 3) (lv1 := [(2, .int 24), (0, .ref a), (1, .int w)]) (st1 := []) rfl ?_
  refine jt_lvs (l1 := [(0, .ref a), (1, .int w), (2, .int 24)]) rfl rfl ⟨rfl, rfl, rfl, trivial⟩ ?_
  obtain ⟨ro, hro⟩ : ∃ ro, ro = G_T_addWord_3 w len at_ br f 33 24 len f := ⟨_, rfl⟩
  have LP3 : ∀ (n : Nat) (sh : Int32) (ln : Int32) (g_ : Nat → Int32), (0 ≤ ln) → (sh ≤ 24) → (sh.toInt + 8).toNat < n → G_T_addWord_3 w len at_ br f n sh ln g_ = ro → jt jp_T_addWord rF rL 3 [(0, .ref a), (1, .int w), (2, .int sh)] [] (jx_us M [(a, (1, [.ref q, .int ln, .int at_, .int br])), (q, (100, jx_vi 400 g_))]) 0 0 (.inl none, (jx_us M [(a, (1, [.ref q, .int (g_T_addWord_a_1 w len at_ br f), .int at_, .int br])), (q, (100, jx_vi 400 (g_T_addWord_q w len at_ br f)))]), 0, 0) := by
    intro n
    induction n with
    | zero => intro sh ln g_ i1 i2 hm _; exact absurd hm (Nat.not_lt_zero _)
    | succ n ih =>
      intro sh ln g_ i1 i2 hm hF
      simp only [G_T_addWord_3] at hF
      refine jt_sgp 1 (pc1 := 4) (lv1 := [(0, .ref a), (1, .int w), (2, .int sh)]) (st1 := [.int sh]) rfl ?_
      refine jt_if_lt (t := 46) rfl rfl (fun c1 => ?_) (fun c1 => ?_)
      · exact jt_vret rfl rfl (jx_oe rfl (by show jx_us M _ = jx_us M _; simp only [if_pos c1, reduceIte] at hF; unfold g_T_addWord_a_1 g_T_addWord_q; (try dsimp only); rw [← hro, ← hF]))
      · refine jt_sgp 1 (pc1 := 8) (lv1 := [(0, .ref a), (1, .int w), (2, .int sh)]) (st1 := [.ref a]) rfl ?_
        refine jt_get rfl (jx_us_get (by exact hnd) (by exact hlt) 0 rfl) rfl ?_
        refine jt_sgp 1 (pc1 := 14) (lv1 := [(0, .ref a), (1, .int w), (2, .int sh)]) (st1 := [.int 400, .int ln]) rfl ?_
        refine jt_icmp_ge (t := 46) rfl rfl (fun c2 => ?_) (fun c2 => ?_)
        · exact jt_vret rfl rfl (jx_oe rfl (by show jx_us M _ = jx_us M _; simp only [if_neg c1, if_pos c2, reduceIte] at hF; unfold g_T_addWord_a_1 g_T_addWord_q; (try dsimp only); rw [← hro, ← hF]))
        · refine jt_sgp 1 (pc1 := 18) (lv1 := [(0, .ref a), (1, .int w), (2, .int sh)]) (st1 := [.ref a]) rfl ?_
          refine jt_get rfl (jx_us_get (by exact hnd) (by exact hlt) 0 rfl) rfl ?_
          refine jt_sgp 1 (pc1 := 22) (lv1 := [(0, .ref a), (1, .int w), (2, .int sh)]) (st1 := [.ref a, .ref q]) rfl ?_
          refine jt_get rfl (jx_us_get (by exact hnd) (by exact hlt) 0 rfl) rfl ?_
          refine jt_sgp 4 (pc1 := 29) (lv1 := [(0, .ref a), (1, .int w), (2, .int sh)]) (st1 := [.int (((w : Int32) >>> (sh &&& 31) : Int32).toInt8.toInt32), .int ln, .ref q]) rfl ?_
          refine jt_bast rfl rfl (jx_us_get (by exact hnd) (by exact hlt) 1 rfl) (jm_in (M := 400) i1 c2 (by decide) rfl) rfl (jx_us_set (by exact hnd) 1 rfl (L1 := [(a, (1, [.ref q, .int ln, .int at_, .int br])), (q, (100, jx_vi 400 (upd g_ (ln : Int32).toNatClampNeg (vp_nar .byte (((w : Int32) >>> (sh &&& 31) : Int32).toInt8.toInt32)))))]) rfl) ?_
          refine jt_sgp 2 (pc1 := 32) (lv1 := [(0, .ref a), (1, .int w), (2, .int sh)]) (st1 := [.ref a, .ref a]) rfl ?_
          refine jt_get rfl (jx_us_get (by exact hnd) (by exact hlt) 0 rfl) rfl ?_
          refine jt_sgp 2 (pc1 := 37) (lv1 := [(0, .ref a), (1, .int w), (2, .int sh)]) (st1 := [.int (ln + 1), .ref a]) rfl ?_
          refine jt_put rfl (jx_us_get (by exact hnd) (by exact hlt) 0 rfl) (Nat.le_of_ble_eq_true rfl) rfl (Or.inl rfl) (jx_us_set (by exact hnd) 0 rfl (L1 := [(a, (1, [.ref q, .int (ln + 1), .int at_, .int br])), (q, (100, jx_vi 400 (upd g_ (ln : Int32).toNatClampNeg (vp_nar .byte (((w : Int32) >>> (sh &&& 31) : Int32).toInt8.toInt32)))))]) rfl) ?_
          refine jt_sgp 2 (pc1 := 3) (lv1 := [(2, .int (sh + (-8))), (0, .ref a), (1, .int w)]) (st1 := []) rfl ?_
          refine jt_lvs (l1 := [(0, .ref a), (1, .int w), (2, .int (sh + (-8)))]) rfl rfl ⟨rfl, rfl, rfl, trivial⟩ ?_
          exact ih (sh + (-8)) (ln + 1) (upd g_ (ln : Int32).toNatClampNeg (vp_nar .byte (((w : Int32) >>> (sh &&& 31) : Int32).toInt8.toInt32))) (jm_inc0 i1 (jm_nl c2)) (jm_s8a c1 i2) (jm_s8m c1 i2 hm) (by simp only [if_neg c1, if_neg c2, reduceIte] at hF; exact hF)
  exact LP3 33 24 len f p0 (by decide) (by decide) hro.symm
