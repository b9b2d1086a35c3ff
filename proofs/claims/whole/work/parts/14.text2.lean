theorem jm_inc {x n : Int32} (h : x < n) : (x + 1).toInt = x.toInt + 1 := by
  have h1 := Int32.lt_iff_toInt_lt.mp h
  have h2 := Int32.toInt_lt n
  have h3 := Int32.le_toInt x
  rw [Int32.toInt_add, show (1 : Int32).toInt = 1 from rfl]
  simp only [Int.bmod]
  omega
theorem jm_nl {x n : Int32} (h : ¬ n ≤ x) : x < n := by
  simp only [Int32.le_iff_toInt_le, Int32.lt_iff_toInt_lt] at *
  omega
theorem jm_inc0 {x n : Int32} (h0 : 0 ≤ x) (h : x < n) : 0 ≤ x + 1 := by
  have h1 := jm_inc h
  simp only [Int32.le_iff_toInt_le] at *
  have h3 : (0 : Int32).toInt = 0 := rfl
  omega
theorem jm_dec {x n : Int32} {k : Nat} (h : x < n) (hm : (n.toInt - x.toInt).toNat < k + 1) : (n.toInt - (x + 1).toInt).toNat < k := by
  have h1 := jm_inc h
  have h2 := Int32.lt_iff_toInt_lt.mp h
  omega
theorem jm_m0 {x n M : Int32} {k : Nat} (h0 : 0 ≤ x) (h1 : n ≤ M) (hk : M.toInt < k) (hk0 : 0 < k) : (n.toInt - x.toInt).toNat < k := by
  simp only [Int32.le_iff_toInt_le] at *
  have h3 : (0 : Int32).toInt = 0 := rfl
  omega
theorem jm_peek_lt {len at_ br : Int32} {f : Nat → Int32} (h : ¬ f_T_peek len at_ br f = -1) : at_ < len := by
  unfold f_T_peek at h
  by_cases c : at_ < len
  · exact c
  · exact absurd (by simp only [if_neg c, ite_self]) h
theorem jm_take_at {w len at_ br : Int32} {f : Nat → Int32} (hw : ¬ w = -1) (p1 : 0 ≤ at_) : 0 ≤ f_T_take_a_2 w len at_ br f := by
  unfold f_T_take_a_2
  by_cases c : f_T_peek len at_ br f = w
  · simp only [if_pos c]
    exact jm_inc0 p1 (jm_peek_lt (by rw [c]; exact hw))
  · simp only [if_neg c]
    exact p1
theorem jm_req_at {w len at_ br : Int32} {f : Nat → Int32} (hw : ¬ w = -1) (p1 : 0 ≤ at_) : 0 ≤ f_T_require_a_2 w len at_ br f := by
  unfold f_T_require_a_2
  exact jm_take_at hw p1
def F_T_requireBlanks_6 (len : Int32) (at_ : Int32) (br : Int32) (f : Nat → Int32) : Nat → (Int32) → Int32 × Int32
  | 0, _ => (0, 0)
  | n + 1, x =>
    if len ≤ x then ((x, f_T_require_a_3 32 len at_ br f)) else (if (f (x : Int32).toNatClampNeg) = 32 then (F_T_requireBlanks_6 len at_ br f n (x + 1)) else ((x, f_T_require_a_3 32 len at_ br f)))
termination_by n _ => n
def f_T_requireBlanks_a_2 (len : Int32) (at_ : Int32) (br : Int32) (f : Nat → Int32) : Int32 :=
  (F_T_requireBlanks_6 len at_ br f 401 (f_T_require_a_2 32 len at_ br f)).1
def f_T_requireBlanks_a_3 (len : Int32) (at_ : Int32) (br : Int32) (f : Nat → Int32) : Int32 :=
  (F_T_requireBlanks_6 len at_ br f 401 (f_T_require_a_2 32 len at_ br f)).2
set_option maxRecDepth 20000 in
set_option maxHeartbeats 4000000 in
theorem k_T_requireBlanks {l : Launch} {S : State} {D : va_G} {dA : Nat → ClassId} (E : jm_en S D jm_cl (jm_ty dA) jm_G) (a : Nat) (q : Nat) (len : Int32) (at_ : Int32) (br : Int32) (f : Nat → Int32) (h : jm_H) (h_a : h a = some (.inr (1, [.ref q, .int len, .int at_, .int br]))) (h_q : h q = some (.inl (dA 0, 400, .inl f))) (hnd : ([a, q] : List Nat).Nodup) (p1 : 0 ≤ at_) (p2 : len ≤ 400) : jm_M l S D jm_cl y_T_requireBlanks (Cond.code y_T_requireBlanks b_T_requireBlanks 1 (none)) { frames := 3, cells := 0, slots := 0, locals := 62 } [.ref a] h (jm_R none (jm_us h [(a, .inr (1, [.ref q, .int len, .int (f_T_requireBlanks_a_2 len at_ br f), .int (f_T_requireBlanks_a_3 len at_ br f)])), (q, .inl (dA 0, 400, .inl f))])) 0 0 := by
  refine jm_ofW E (by decide) (Nat.le_of_ble_eq_true rfl) (fun p e s m below meth c X hr hk hmn hout hadm => ?_)
  have X : jm_cx p s m ([.ref a] : List Value).toArray c S D jm_cl (jm_ty dA) jm_G b_T_requireBlanks 1 "JobHouse$Text" := X
  have hL : ∀ zz ∈ ([(a, .inr (1, [.ref q, .int len, .int at_, .int br])), (q, .inl (dA 0, 400, .inl f))] : List (Nat × va_E)), h zz.1 = some zz.2 := List.forall_mem_cons.mpr ⟨h_a, List.forall_mem_cons.mpr ⟨h_q, fun _ hz => absurd hz List.not_mem_nil⟩⟩
  refine jm_hq (jm_us_id hL).symm ?_
  show jm_W p l e ({ frames := 3, cells := 0, slots := 0, locals := 62 }) s m ([.ref a] : List Value).toArray below meth c S D jm_cl (jm_Q S D jm_cl below s (jm_R none (jm_us h [(a, .inr (1, [.ref q, .int len, .int (f_T_requireBlanks_a_2 len at_ br f), .int (f_T_requireBlanks_a_3 len at_ br f)])), (q, .inl (dA 0, 400, .inl f))])) 0 0) 1 0 [(0, .ref a)] [] (jm_us h [(a, .inr (1, [.ref q, .int len, .int at_, .int br])), (q, .inl (dA 0, 400, .inl f))]) 0 0
  refine jm_aload_n X d_T_requireBlanks_0 rfl 0 rfl ?_
  refine jm_bipush (v := 32) X d_T_requireBlanks_1 (by decide) ?_
  refine jm_callV (rest := []) X d_T_requireBlanks_3 (k_T_require E a 32 q len at_ br f (jm_us h [(a, .inr (1, [.ref q, .int len, .int at_, .int br])), (q, .inl (dA 0, 400, .inl f))]) (by refine jm_us_get ?_ 0 rfl; exact hnd) (by refine jm_us_get ?_ 1 rfl; exact hnd) (by exact jm_pick hnd [0, 1] (by decide) rfl) (by first | with_reducible assumption | decide +kernel) (by first | with_reducible assumption | decide +kernel)) ci_T_require (Or.inl (jm_g2 235 rfl rfl)) im_T_require se_T_require (by refine jm_us_get ?_ 0 rfl; exact hnd) rfl rfl (Nat.le_of_ble_eq_true rfl) ⟨(Nat.le_of_ble_eq_true rfl), (Nat.le_of_ble_eq_true rfl)⟩ ⟨rfl, rfl⟩ ⟨(Nat.le_of_ble_eq_true rfl), (Nat.le_of_ble_eq_true rfl)⟩ (jm_k0 (jm_hq (by refine jm_into ?_ [0, 1] rfl (L1 := [(a, .inr (1, [.ref q, .int len, .int (f_T_require_a_2 32 len at_ br f), .int (f_T_require_a_3 32 len at_ br f)])), (q, .inl (dA 0, 400, .inl f))]) rfl; exact hnd) ?_))
  obtain ⟨ro, hro⟩ : ∃ ro, ro = F_T_requireBlanks_6 len at_ br f 401 (f_T_require_a_2 32 len at_ br f) := ⟨_, rfl⟩
  have LP6 : ∀ (n : Nat) (x : Int32), (0 ≤ x) → (len.toInt - x.toInt).toNat < n → F_T_requireBlanks_6 len at_ br f n x = ro → jm_W p l e ({ frames := 3, cells := 0, slots := 0, locals := 62 }) s m ([.ref a] : List Value).toArray below meth c S D jm_cl (jm_Q S D jm_cl below s (jm_R none (jm_us h [(a, .inr (1, [.ref q, .int len, .int (f_T_requireBlanks_a_2 len at_ br f), .int (f_T_requireBlanks_a_3 len at_ br f)])), (q, .inl (dA 0, 400, .inl f))])) 0 0) 1 6 [(0, .ref a)] [] (jm_us h [(a, .inr (1, [.ref q, .int len, .int x, .int (f_T_require_a_3 32 len at_ br f)])), (q, .inl (dA 0, 400, .inl f))]) 0 0 := by
    intro n
    induction n with
    | zero => intro x i1 hm _; exact absurd hm (Nat.not_lt_zero _)
    | succ n ih =>
      intro x i1 hm hF
      simp only [F_T_requireBlanks_6] at hF
      refine jm_aload_n X d_T_requireBlanks_6 rfl 0 rfl ?_
      refine jm_get X d_T_requireBlanks_7 fs_T_22 (by refine jm_us_get ?_ 0 rfl; exact hnd) rfl ?_
      refine jm_aload_n X d_T_requireBlanks_10 rfl 0 rfl ?_
      refine jm_get X d_T_requireBlanks_11 fs_T_19 (by refine jm_us_get ?_ 0 rfl; exact hnd) rfl ?_
      refine jm_icmp_ge (tgt := 44) X d_T_requireBlanks_14 (by decide) (fun c1 => ?_) (fun c1 => ?_)
      · exact jm_vret X hr hk d_T_requireBlanks_44 ⟨rfl, (by show jm_us h _ = jm_us h _; simp only [if_pos c1, reduceIte] at hF; unfold f_T_requireBlanks_a_2 f_T_requireBlanks_a_3; (try dsimp only); rw [← hro, ← hF])⟩
      · refine jm_aload_n X d_T_requireBlanks_17 rfl 0 rfl ?_
        refine jm_get X d_T_requireBlanks_18 fs_T_9 (by refine jm_us_get ?_ 0 rfl; exact hnd) rfl ?_
        refine jm_aload_n X d_T_requireBlanks_21 rfl 0 rfl ?_
        refine jm_get X d_T_requireBlanks_22 fs_T_22 (by refine jm_us_get ?_ 0 rfl; exact hnd) rfl ?_
        refine jm_bald (t0 := 0) X d_T_requireBlanks_25 rfl (by refine jm_us_get ?_ 1 rfl; exact hnd) (jm_in i1 c1 p2 rfl) ?_
        refine jm_bipush (v := 32) X d_T_requireBlanks_26 (by decide) ?_
        refine jm_icmp_ne (tgt := 44) X d_T_requireBlanks_28 (by decide) (fun c2 => ?_) (fun c2 => ?_)
        · exact jm_vret X hr hk d_T_requireBlanks_44 ⟨rfl, (by show jm_us h _ = jm_us h _; simp only [if_neg c1, if_neg c2, reduceIte] at hF; unfold f_T_requireBlanks_a_2 f_T_requireBlanks_a_3; (try dsimp only); rw [← hro, ← hF])⟩
        · refine jm_aload_n X d_T_requireBlanks_31 rfl 0 rfl ?_
          refine jm_dup X d_T_requireBlanks_32 rfl ?_
          refine jm_get X d_T_requireBlanks_33 fs_T_22 (by refine jm_us_get ?_ 0 rfl; exact hnd) rfl ?_
          refine jm_iconst (v := 1) X d_T_requireBlanks_36 (by decide) ?_
          refine jm_iadd X d_T_requireBlanks_37 ?_
          refine jm_put X d_T_requireBlanks_38 fs_T_22 (by refine jm_us_get ?_ 0 rfl; exact hnd) rfl rfl (Nat.le_of_ble_eq_true rfl) (fs1 := [.ref q, .int len, .int (x + 1), .int (f_T_require_a_3 32 len at_ br f)]) rfl (jm_hq (by refine jm_us_set ?_ 0 (L1 := [(a, .inr (1, [.ref q, .int len, .int (x + 1), .int (f_T_require_a_3 32 len at_ br f)])), (q, .inl (dA 0, 400, .inl f))]) rfl rfl; exact hnd) ?_)
          refine jm_goto (tgt := 6) X d_T_requireBlanks_41 (by decide) ?_
          exact ih (x + 1) (jm_inc0 i1 (jm_nl c1)) (jm_dec (jm_nl c1) hm) (by simp only [if_neg c1, if_pos c2, reduceIte] at hF; exact hF)
  exact LP6 401 (f_T_require_a_2 32 len at_ br f) (jm_req_at (by decide) p1) (jm_m0 (jm_req_at (by decide) p1) p2 (by decide) (by decide)) hro.symm
def F_T_number_24 (lo : Int32) (hi : Int32) (len : Int32) (at_ : Int32) (br : Int32) (f : Nat → Int32) (v22 : Int32) : Nat → (Int32) → (Int32) → Int32 × Int32 × Int32
  | 0, _, _ => (0, 0, 0)
  | n + 1, x, nu =>
    let v116 : Int32 := if x = at_ then (f_T_breakAt_a_3 at_ len x br f) else (if nu < lo then (f_T_breakAt_a_3 at_ len x br f) else (if nu ≤ hi then br else (f_T_breakAt_a_3 at_ len x br f)))
    let v130 : Int32 := if v116 = (-1) then nu else lo
    let v116x : Int32 := if x = at_ then (f_T_breakAt_a_3 at_ len x br f) else (if nu < lo then (f_T_breakAt_a_3 at_ len x br f) else (if nu ≤ hi then br else (f_T_breakAt_a_3 at_ len x br f)))
    let v130x : Int32 := if v116x = (-1) then nu else lo
    let u73 : Int32 := f_Math_min (((nu * 10) + (f_T_peek len x br f)) - 48) 1000000
    let v116xx : Int32 := if x = at_ then (f_T_breakAt_a_3 at_ len x br f) else (if nu < lo then (f_T_breakAt_a_3 at_ len x br f) else (if nu ≤ hi then br else (f_T_breakAt_a_3 at_ len x br f)))
    let v130xx : Int32 := if v116xx = (-1) then nu else lo
    let u73x : Int32 := f_Math_min (((nu * 10) + (f_T_peek len x br f)) - 48) 1000000
    if len ≤ x then ((v130, x, v116)) else (if (f_T_isDigit (f_T_peek len x br f)) = 0 then ((v130x, x, v116x)) else (if v22 = 0 then (F_T_number_24 lo hi len at_ br f v22 n (x + 1) u73) else (if at_ < x then ((v130xx, x, v116xx)) else (F_T_number_24 lo hi len at_ br f v22 n (x + 1) u73x))))
termination_by n _ _ => n
def f_T_number (lo : Int32) (hi : Int32) (len : Int32) (at_ : Int32) (br : Int32) (f : Nat → Int32) : Int32 :=
  let v22 : Int32 := if (f_T_peek len at_ br f) = 48 then 1 else 0
  (F_T_number_24 lo hi len at_ br f v22 401 at_ 0).1
def f_T_number_a_2 (lo : Int32) (hi : Int32) (len : Int32) (at_ : Int32) (br : Int32) (f : Nat → Int32) : Int32 :=
  let v22 : Int32 := if (f_T_peek len at_ br f) = 48 then 1 else 0
  (F_T_number_24 lo hi len at_ br f v22 401 at_ 0).2.1
def f_T_number_a_3 (lo : Int32) (hi : Int32) (len : Int32) (at_ : Int32) (br : Int32) (f : Nat → Int32) : Int32 :=
  let v22 : Int32 := if (f_T_peek len at_ br f) = 48 then 1 else 0
  (F_T_number_24 lo hi len at_ br f v22 401 at_ 0).2.2
set_option maxRecDepth 20000 in
set_option maxHeartbeats 4000000 in
theorem k_T_number {l : Launch} {S : State} {D : va_G} {dA : Nat → ClassId} (E : jm_en S D jm_cl (jm_ty dA) jm_G) (a : Nat) (lo : Int32) (hi : Int32) (q : Nat) (len : Int32) (at_ : Int32) (br : Int32) (f : Nat → Int32) (h : jm_H) (h_a : h a = some (.inr (1, [.ref q, .int len, .int at_, .int br]))) (h_q : h q = some (.inl (dA 0, 400, .inl f))) (hnd : ([a, q] : List Nat).Nodup) (p1 : 0 ≤ at_) (p2 : len ≤ 400) : jm_M l S D jm_cl y_T_number (Cond.code y_T_number b_T_number 6 (some FieldType.int)) { frames := 1, cells := 0, slots := 0, locals := 21 } [.ref a, .int lo, .int hi] h (jm_R (some (.int (f_T_number lo hi len at_ br f))) (jm_us h [(a, .inr (1, [.ref q, .int len, .int (f_T_number_a_2 lo hi len at_ br f), .int (f_T_number_a_3 lo hi len at_ br f)])), (q, .inl (dA 0, 400, .inl f))])) 0 0 := by
  refine jm_ofW E (by decide) (Nat.le_of_ble_eq_true rfl) (fun p e s m below meth c X hr hk hmn hout hadm => ?_)
  have X : jm_cx p s m ([.ref a, .int lo, .int hi] : List Value).toArray c S D jm_cl (jm_ty dA) jm_G b_T_number 6 "JobHouse$Text" := X
  have hL : ∀ zz ∈ ([(a, .inr (1, [.ref q, .int len, .int at_, .int br])), (q, .inl (dA 0, 400, .inl f))] : List (Nat × va_E)), h zz.1 = some zz.2 := List.forall_mem_cons.mpr ⟨h_a, List.forall_mem_cons.mpr ⟨h_q, fun _ hz => absurd hz List.not_mem_nil⟩⟩
  refine jm_hq (jm_us_id hL).symm ?_
  show jm_W p l e ({ frames := 1, cells := 0, slots := 0, locals := 21 }) s m ([.ref a, .int lo, .int hi] : List Value).toArray below meth c S D jm_cl (jm_Q S D jm_cl below s (jm_R (some (.int (f_T_number lo hi len at_ br f))) (jm_us h [(a, .inr (1, [.ref q, .int len, .int (f_T_number_a_2 lo hi len at_ br f), .int (f_T_number_a_3 lo hi len at_ br f)])), (q, .inl (dA 0, 400, .inl f))])) 0 0) 6 0 [(0, .ref a), (1, .int lo), (2, .int hi)] [] (jm_us h [(a, .inr (1, [.ref q, .int len, .int at_, .int br])), (q, .inl (dA 0, 400, .inl f))]) 0 0
  refine jm_aload_n X d_T_number_0 rfl 0 rfl ?_
  refine jm_get X d_T_number_1 fs_T_22 (by refine jm_us_get ?_ 0 rfl; exact hnd) rfl ?_
  refine jm_istore_n X d_T_number_4 rfl (by decide) (lv1 := [(3, .int at_), (0, .ref a), (1, .int lo), (2, .int hi)]) rfl ?_
  refine jm_iconst (v := 0) X d_T_number_5 (by decide) ?_
  refine jm_istore X d_T_number_6 (by decide) (lv1 := [(4, .int 0), (3, .int at_), (0, .ref a), (1, .int lo), (2, .int hi)]) rfl ?_
  refine jm_aload_n X d_T_number_8 rfl 2 rfl ?_
  refine jm_callV (rest := []) X d_T_number_9 (k_T_peek E a q len at_ br f (jm_us h [(a, .inr (1, [.ref q, .int len, .int at_, .int br])), (q, .inl (dA 0, 400, .inl f))]) (by refine jm_us_get ?_ 0 rfl; exact hnd) (by refine jm_us_get ?_ 1 rfl; exact hnd) (by exact jm_pick hnd [0, 1] (by decide) rfl) (by first | with_reducible assumption | decide +kernel) (by first | with_reducible assumption | decide +kernel)) ci_T_peek (Or.inl (jm_g2 203 rfl rfl)) im_T_peek se_T_peek (by refine jm_us_get ?_ 0 rfl; exact hnd) rfl rfl (Nat.le_of_ble_eq_true rfl) ⟨(Nat.le_of_ble_eq_true rfl), (Nat.le_of_ble_eq_true rfl)⟩ ⟨rfl, rfl⟩ ⟨(Nat.le_of_ble_eq_true rfl), (Nat.le_of_ble_eq_true rfl)⟩ (jm_k1 ?_)
  refine jm_bipush (v := 48) X d_T_number_12 (by decide) ?_
  have J22_2 : ∀ (v22 : Int32), v22 = (if (f_T_peek len at_ br f) = 48 then 1 else 0 : Int32) → jm_W p l e ({ frames := 1, cells := 0, slots := 0, locals := 21 }) s m ([.ref a, .int lo, .int hi] : List Value).toArray below meth c S D jm_cl (jm_Q S D jm_cl below s (jm_R (some (.int (f_T_number lo hi len at_ br f))) (jm_us h [(a, .inr (1, [.ref q, .int len, .int (f_T_number_a_2 lo hi len at_ br f), .int (f_T_number_a_3 lo hi len at_ br f)])), (q, .inl (dA 0, 400, .inl f))])) 0 0) 6 22 [(4, .int 0), (3, .int at_), (0, .ref a), (1, .int lo), (2, .int hi)] [.int v22] (jm_us h [(a, .inr (1, [.ref q, .int len, .int at_, .int br])), (q, .inl (dA 0, 400, .inl f))]) 0 0 := by
    intro v22 ev22
    refine jm_istore X d_T_number_22 (by decide) (lv1 := [(5, .int v22), (4, .int 0), (3, .int at_), (0, .ref a), (1, .int lo), (2, .int hi)]) rfl ?_
    refine jm_lvs [3, 4, 5, 2, 1, 0] (lv1 := [(0, .ref a), (1, .int lo), (2, .int hi), (3, .int at_), (4, .int 0), (5, .int v22)]) rfl ?_
    obtain ⟨ro, hro⟩ : ∃ ro, ro = F_T_number_24 lo hi len at_ br f v22 401 at_ 0 := ⟨_, rfl⟩
    have LP24 : ∀ (n : Nat) (x : Int32) (nu : Int32), (0 ≤ x) → (len.toInt - x.toInt).toNat < n → F_T_number_24 lo hi len at_ br f v22 n x nu = ro → jm_W p l e ({ frames := 1, cells := 0, slots := 0, locals := 21 }) s m ([.ref a, .int lo, .int hi] : List Value).toArray below meth c S D jm_cl (jm_Q S D jm_cl below s (jm_R (some (.int (f_T_number lo hi len at_ br f))) (jm_us h [(a, .inr (1, [.ref q, .int len, .int (f_T_number_a_2 lo hi len at_ br f), .int (f_T_number_a_3 lo hi len at_ br f)])), (q, .inl (dA 0, 400, .inl f))])) 0 0) 6 24 [(0, .ref a), (1, .int lo), (2, .int hi), (3, .int at_), (4, .int nu), (5, .int v22)] [] (jm_us h [(a, .inr (1, [.ref q, .int len, .int x, .int br])), (q, .inl (dA 0, 400, .inl f))]) 0 0 := by
      intro n
      induction n with
      | zero => intro x nu i1 hm _; exact absurd hm (Nat.not_lt_zero _)
      | succ n ih =>
        intro x nu i1 hm hF
        simp only [F_T_number_24] at hF
        refine jm_aload_n X d_T_number_24 rfl 0 rfl ?_
        refine jm_get X d_T_number_25 fs_T_22 (by refine jm_us_get ?_ 0 rfl; exact hnd) rfl ?_
        refine jm_aload_n X d_T_number_28 rfl 0 rfl ?_
        refine jm_get X d_T_number_29 fs_T_19 (by refine jm_us_get ?_ 0 rfl; exact hnd) rfl ?_
        refine jm_icmp_ge (tgt := 91) X d_T_number_32 (by decide) (fun c3 => ?_) (fun c3 => ?_)
        · refine jm_aload_n X d_T_number_91 rfl 0 rfl ?_
          refine jm_get X d_T_number_92 fs_T_22 (by refine jm_us_get ?_ 0 rfl; exact hnd) rfl ?_
          refine jm_iload_n X d_T_number_95 rfl 3 rfl ?_
          have J116_5 : ∀ (v116 : Int32), v116 = (if x = at_ then (f_T_breakAt_a_3 at_ len x br f) else (if nu < lo then (f_T_breakAt_a_3 at_ len x br f) else (if nu ≤ hi then br else (f_T_breakAt_a_3 at_ len x br f))) : Int32) → jm_W p l e ({ frames := 1, cells := 0, slots := 0, locals := 21 }) s m ([.ref a, .int lo, .int hi] : List Value).toArray below meth c S D jm_cl (jm_Q S D jm_cl below s (jm_R (some (.int (f_T_number lo hi len at_ br f))) (jm_us h [(a, .inr (1, [.ref q, .int len, .int (f_T_number_a_2 lo hi len at_ br f), .int (f_T_number_a_3 lo hi len at_ br f)])), (q, .inl (dA 0, 400, .inl f))])) 0 0) 6 116 [(0, .ref a), (1, .int lo), (2, .int hi), (3, .int at_), (4, .int nu), (5, .int v22)] [] (jm_us h [(a, .inr (1, [.ref q, .int len, .int x, .int v116])), (q, .inl (dA 0, 400, .inl f))]) 0 0 := by
            intro v116 ev116
            refine jm_aload_n X d_T_number_116 rfl 0 rfl ?_
            refine jm_get X d_T_number_117 fs_T_15 (by refine jm_us_get ?_ 0 rfl; exact hnd) rfl ?_
            refine jm_iconst (v := (-1)) X d_T_number_120 (by decide) ?_
            have J130_7 : ∀ (v130 : Int32), v130 = (if v116 = (-1) then nu else lo : Int32) → jm_W p l e ({ frames := 1, cells := 0, slots := 0, locals := 21 }) s m ([.ref a, .int lo, .int hi] : List Value).toArray below meth c S D jm_cl (jm_Q S D jm_cl below s (jm_R (some (.int (f_T_number lo hi len at_ br f))) (jm_us h [(a, .inr (1, [.ref q, .int len, .int (f_T_number_a_2 lo hi len at_ br f), .int (f_T_number_a_3 lo hi len at_ br f)])), (q, .inl (dA 0, 400, .inl f))])) 0 0) 6 130 [(0, .ref a), (1, .int lo), (2, .int hi), (3, .int at_), (4, .int nu), (5, .int v22)] [.int v130] (jm_us h [(a, .inr (1, [.ref q, .int len, .int x, .int v116])), (q, .inl (dA 0, 400, .inl f))]) 0 0 := by
              intro v130 ev130
              exact jm_iret X hr hk d_T_number_130 ⟨(by show Outcome.returned _ = Outcome.returned _; subst ev130; subst ev116; subst ev22; simp only [if_pos c3, reduceIte] at hF; unfold f_T_number; (try dsimp only); rw [← hro, ← hF]), (by show jm_us h _ = jm_us h _; subst ev130; subst ev116; subst ev22; simp only [if_pos c3, reduceIte] at hF; unfold f_T_number_a_2 f_T_number_a_3; (try dsimp only); rw [← hro, ← hF])⟩
            refine jm_icmp_ne (tgt := 129) X d_T_number_121 (by decide) (fun c6 => ?_) (fun c6 => ?_)
            · refine jm_iload_n X d_T_number_129 rfl 1 rfl ?_
              exact J130_7 _ (by first | (simp only [if_neg c6, reduceIte]; done) | (with_reducible rfl))
            · refine jm_iload X d_T_number_124 4 rfl ?_
              refine jm_goto (tgt := 130) X d_T_number_126 (by decide) ?_
              exact J130_7 _ (by first | (simp only [if_pos c6, reduceIte]; done) | (with_reducible rfl))
          refine jm_icmp_eq (tgt := 111) X d_T_number_96 (by decide) (fun c4 => ?_) (fun c4 => ?_)
          · refine jm_aload_n X d_T_number_111 rfl 0 rfl ?_
            refine jm_iload_n X d_T_number_112 rfl 3 rfl ?_
            refine jm_callV (rest := []) X d_T_number_113 (k_T_breakAt E a at_ q len x br f (jm_us h [(a, .inr (1, [.ref q, .int len, .int x, .int br])), (q, .inl (dA 0, 400, .inl f))]) (by refine jm_us_get ?_ 0 rfl; exact hnd) (by refine jm_us_get ?_ 1 rfl; exact hnd) (by exact jm_pick hnd [0, 1] (by decide) rfl) ) ci_T_breakAt (Or.inl (jm_g2 212 rfl rfl)) im_T_breakAt se_T_breakAt (by refine jm_us_get ?_ 0 rfl; exact hnd) rfl rfl (Nat.le_of_ble_eq_true rfl) ⟨(Nat.le_of_ble_eq_true rfl), (Nat.le_of_ble_eq_true rfl)⟩ ⟨rfl, rfl⟩ ⟨(Nat.le_of_ble_eq_true rfl), (Nat.le_of_ble_eq_true rfl)⟩ (jm_k0 (jm_hq (by refine jm_into ?_ [0, 1] rfl (L1 := [(a, .inr (1, [.ref q, .int len, .int x, .int (f_T_breakAt_a_3 at_ len x br f)])), (q, .inl (dA 0, 400, .inl f))]) rfl; exact hnd) ?_))
            exact J116_5 _ (by first | (simp only [if_pos c4, reduceIte]; done) | (with_reducible rfl))
          · refine jm_iload X d_T_number_99 4 rfl ?_
            refine jm_iload_n X d_T_number_101 rfl 1 rfl ?_
            refine jm_icmp_lt (tgt := 111) X d_T_number_102 (by decide) (fun c8 => ?_) (fun c8 => ?_)
            · refine jm_aload_n X d_T_number_111 rfl 0 rfl ?_
              refine jm_iload_n X d_T_number_112 rfl 3 rfl ?_
              refine jm_callV (rest := []) X d_T_number_113 (k_T_breakAt E a at_ q len x br f (jm_us h [(a, .inr (1, [.ref q, .int len, .int x, .int br])), (q, .inl (dA 0, 400, .inl f))]) (by refine jm_us_get ?_ 0 rfl; exact hnd) (by refine jm_us_get ?_ 1 rfl; exact hnd) (by exact jm_pick hnd [0, 1] (by decide) rfl) ) ci_T_breakAt (Or.inl (jm_g2 212 rfl rfl)) im_T_breakAt se_T_breakAt (by refine jm_us_get ?_ 0 rfl; exact hnd) rfl rfl (Nat.le_of_ble_eq_true rfl) ⟨(Nat.le_of_ble_eq_true rfl), (Nat.le_of_ble_eq_true rfl)⟩ ⟨rfl, rfl⟩ ⟨(Nat.le_of_ble_eq_true rfl), (Nat.le_of_ble_eq_true rfl)⟩ (jm_k0 (jm_hq (by refine jm_into ?_ [0, 1] rfl (L1 := [(a, .inr (1, [.ref q, .int len, .int x, .int (f_T_breakAt_a_3 at_ len x br f)])), (q, .inl (dA 0, 400, .inl f))]) rfl; exact hnd) ?_))
              exact J116_5 _ (by first | (simp only [if_neg c4, if_pos c8, reduceIte]; done) | (with_reducible rfl))
            · refine jm_iload X d_T_number_105 4 rfl ?_
              refine jm_iload_n X d_T_number_107 rfl 2 rfl ?_
              refine jm_icmp_le (tgt := 116) X d_T_number_108 (by decide) (fun c9 => ?_) (fun c9 => ?_)
              · exact J116_5 _ (by first | (simp only [if_neg c4, if_neg c8, if_pos c9, reduceIte]; done) | (with_reducible rfl))
              · refine jm_aload_n X d_T_number_111 rfl 0 rfl ?_
                refine jm_iload_n X d_T_number_112 rfl 3 rfl ?_
                refine jm_callV (rest := []) X d_T_number_113 (k_T_breakAt E a at_ q len x br f (jm_us h [(a, .inr (1, [.ref q, .int len, .int x, .int br])), (q, .inl (dA 0, 400, .inl f))]) (by refine jm_us_get ?_ 0 rfl; exact hnd) (by refine jm_us_get ?_ 1 rfl; exact hnd) (by exact jm_pick hnd [0, 1] (by decide) rfl) ) ci_T_breakAt (Or.inl (jm_g2 212 rfl rfl)) im_T_breakAt se_T_breakAt (by refine jm_us_get ?_ 0 rfl; exact hnd) rfl rfl (Nat.le_of_ble_eq_true rfl) ⟨(Nat.le_of_ble_eq_true rfl), (Nat.le_of_ble_eq_true rfl)⟩ ⟨rfl, rfl⟩ ⟨(Nat.le_of_ble_eq_true rfl), (Nat.le_of_ble_eq_true rfl)⟩ (jm_k0 (jm_hq (by refine jm_into ?_ [0, 1] rfl (L1 := [(a, .inr (1, [.ref q, .int len, .int x, .int (f_T_breakAt_a_3 at_ len x br f)])), (q, .inl (dA 0, 400, .inl f))]) rfl; exact hnd) ?_))
                exact J116_5 _ (by first | (simp only [if_neg c4, if_neg c8, if_neg c9, reduceIte]; done) | (with_reducible rfl))
        · refine jm_aload_n X d_T_number_35 rfl 0 rfl ?_
          refine jm_callV (rest := []) X d_T_number_36 (k_T_peek E a q len x br f (jm_us h [(a, .inr (1, [.ref q, .int len, .int x, .int br])), (q, .inl (dA 0, 400, .inl f))]) (by refine jm_us_get ?_ 0 rfl; exact hnd) (by refine jm_us_get ?_ 1 rfl; exact hnd) (by exact jm_pick hnd [0, 1] (by decide) rfl) (by first | with_reducible assumption | decide +kernel) (by first | with_reducible assumption | decide +kernel)) ci_T_peek (Or.inl (jm_g2 203 rfl rfl)) im_T_peek se_T_peek (by refine jm_us_get ?_ 0 rfl; exact hnd) rfl rfl (Nat.le_of_ble_eq_true rfl) ⟨(Nat.le_of_ble_eq_true rfl), (Nat.le_of_ble_eq_true rfl)⟩ ⟨rfl, rfl⟩ ⟨(Nat.le_of_ble_eq_true rfl), (Nat.le_of_ble_eq_true rfl)⟩ (jm_k1 ?_)
          refine jm_callS (rest := []) X d_T_number_39 (k_T_isDigit E (f_T_peek len x br f) (jm_us h [(a, .inr (1, [.ref q, .int len, .int x, .int br])), (q, .inl (dA 0, 400, .inl f))])  ) ci_T_isDigit (Or.inl (jm_g2 220 rfl rfl)) st_T_isDigit rfl (Nat.le_of_ble_eq_true rfl) ⟨(Nat.le_of_ble_eq_true rfl), (Nat.le_of_ble_eq_true rfl)⟩ ⟨rfl, rfl⟩ ⟨(Nat.le_of_ble_eq_true rfl), (Nat.le_of_ble_eq_true rfl)⟩ (jm_k1 ?_)
          refine jm_if_eq (tgt := 91) X d_T_number_42 (by decide) (fun c10 => ?_) (fun c10 => ?_)
          · refine jm_aload_n X d_T_number_91 rfl 0 rfl ?_
            refine jm_get X d_T_number_92 fs_T_22 (by refine jm_us_get ?_ 0 rfl; exact hnd) rfl ?_
            refine jm_iload_n X d_T_number_95 rfl 3 rfl ?_
            have J116_12 : ∀ (v116x : Int32), v116x = (if x = at_ then (f_T_breakAt_a_3 at_ len x br f) else (if nu < lo then (f_T_breakAt_a_3 at_ len x br f) else (if nu ≤ hi then br else (f_T_breakAt_a_3 at_ len x br f))) : Int32) → jm_W p l e ({ frames := 1, cells := 0, slots := 0, locals := 21 }) s m ([.ref a, .int lo, .int hi] : List Value).toArray below meth c S D jm_cl (jm_Q S D jm_cl below s (jm_R (some (.int (f_T_number lo hi len at_ br f))) (jm_us h [(a, .inr (1, [.ref q, .int len, .int (f_T_number_a_2 lo hi len at_ br f), .int (f_T_number_a_3 lo hi len at_ br f)])), (q, .inl (dA 0, 400, .inl f))])) 0 0) 6 116 [(0, .ref a), (1, .int lo), (2, .int hi), (3, .int at_), (4, .int nu), (5, .int v22)] [] (jm_us h [(a, .inr (1, [.ref q, .int len, .int x, .int v116x])), (q, .inl (dA 0, 400, .inl f))]) 0 0 := by
              intro v116x ev116x
              refine jm_aload_n X d_T_number_116 rfl 0 rfl ?_
              refine jm_get X d_T_number_117 fs_T_15 (by refine jm_us_get ?_ 0 rfl; exact hnd) rfl ?_
              refine jm_iconst (v := (-1)) X d_T_number_120 (by decide) ?_
              have J130_14 : ∀ (v130x : Int32), v130x = (if v116x = (-1) then nu else lo : Int32) → jm_W p l e ({ frames := 1, cells := 0, slots := 0, locals := 21 }) s m ([.ref a, .int lo, .int hi] : List Value).toArray below meth c S D jm_cl (jm_Q S D jm_cl below s (jm_R (some (.int (f_T_number lo hi len at_ br f))) (jm_us h [(a, .inr (1, [.ref q, .int len, .int (f_T_number_a_2 lo hi len at_ br f), .int (f_T_number_a_3 lo hi len at_ br f)])), (q, .inl (dA 0, 400, .inl f))])) 0 0) 6 130 [(0, .ref a), (1, .int lo), (2, .int hi), (3, .int at_), (4, .int nu), (5, .int v22)] [.int v130x] (jm_us h [(a, .inr (1, [.ref q, .int len, .int x, .int v116x])), (q, .inl (dA 0, 400, .inl f))]) 0 0 := by
                intro v130x ev130x
                exact jm_iret X hr hk d_T_number_130 ⟨(by show Outcome.returned _ = Outcome.returned _; subst ev130x; subst ev116x; subst ev22; simp only [if_neg c3, if_pos c10, reduceIte] at hF; unfold f_T_number; (try dsimp only); rw [← hro, ← hF]), (by show jm_us h _ = jm_us h _; subst ev130x; subst ev116x; subst ev22; simp only [if_neg c3, if_pos c10, reduceIte] at hF; unfold f_T_number_a_2 f_T_number_a_3; (try dsimp only); rw [← hro, ← hF])⟩
              refine jm_icmp_ne (tgt := 129) X d_T_number_121 (by decide) (fun c13 => ?_) (fun c13 => ?_)
              · refine jm_iload_n X d_T_number_129 rfl 1 rfl ?_
                exact J130_14 _ (by first | (simp only [if_neg c13, reduceIte]; done) | (with_reducible rfl))
              · refine jm_iload X d_T_number_124 4 rfl ?_
                refine jm_goto (tgt := 130) X d_T_number_126 (by decide) ?_
                exact J130_14 _ (by first | (simp only [if_pos c13, reduceIte]; done) | (with_reducible rfl))
            refine jm_icmp_eq (tgt := 111) X d_T_number_96 (by decide) (fun c11 => ?_) (fun c11 => ?_)
            · refine jm_aload_n X d_T_number_111 rfl 0 rfl ?_
              refine jm_iload_n X d_T_number_112 rfl 3 rfl ?_
              refine jm_callV (rest := []) X d_T_number_113 (k_T_breakAt E a at_ q len x br f (jm_us h [(a, .inr (1, [.ref q, .int len, .int x, .int br])), (q, .inl (dA 0, 400, .inl f))]) (by refine jm_us_get ?_ 0 rfl; exact hnd) (by refine jm_us_get ?_ 1 rfl; exact hnd) (by exact jm_pick hnd [0, 1] (by decide) rfl) ) ci_T_breakAt (Or.inl (jm_g2 212 rfl rfl)) im_T_breakAt se_T_breakAt (by refine jm_us_get ?_ 0 rfl; exact hnd) rfl rfl (Nat.le_of_ble_eq_true rfl) ⟨(Nat.le_of_ble_eq_true rfl), (Nat.le_of_ble_eq_true rfl)⟩ ⟨rfl, rfl⟩ ⟨(Nat.le_of_ble_eq_true rfl), (Nat.le_of_ble_eq_true rfl)⟩ (jm_k0 (jm_hq (by refine jm_into ?_ [0, 1] rfl (L1 := [(a, .inr (1, [.ref q, .int len, .int x, .int (f_T_breakAt_a_3 at_ len x br f)])), (q, .inl (dA 0, 400, .inl f))]) rfl; exact hnd) ?_))
              exact J116_12 _ (by first | (simp only [if_pos c11, reduceIte]; done) | (with_reducible rfl))
            · refine jm_iload X d_T_number_99 4 rfl ?_
              refine jm_iload_n X d_T_number_101 rfl 1 rfl ?_
              refine jm_icmp_lt (tgt := 111) X d_T_number_102 (by decide) (fun c15 => ?_) (fun c15 => ?_)
              · refine jm_aload_n X d_T_number_111 rfl 0 rfl ?_
                refine jm_iload_n X d_T_number_112 rfl 3 rfl ?_
                refine jm_callV (rest := []) X d_T_number_113 (k_T_breakAt E a at_ q len x br f (jm_us h [(a, .inr (1, [.ref q, .int len, .int x, .int br])), (q, .inl (dA 0, 400, .inl f))]) (by refine jm_us_get ?_ 0 rfl; exact hnd) (by refine jm_us_get ?_ 1 rfl; exact hnd) (by exact jm_pick hnd [0, 1] (by decide) rfl) ) ci_T_breakAt (Or.inl (jm_g2 212 rfl rfl)) im_T_breakAt se_T_breakAt (by refine jm_us_get ?_ 0 rfl; exact hnd) rfl rfl (Nat.le_of_ble_eq_true rfl) ⟨(Nat.le_of_ble_eq_true rfl), (Nat.le_of_ble_eq_true rfl)⟩ ⟨rfl, rfl⟩ ⟨(Nat.le_of_ble_eq_true rfl), (Nat.le_of_ble_eq_true rfl)⟩ (jm_k0 (jm_hq (by refine jm_into ?_ [0, 1] rfl (L1 := [(a, .inr (1, [.ref q, .int len, .int x, .int (f_T_breakAt_a_3 at_ len x br f)])), (q, .inl (dA 0, 400, .inl f))]) rfl; exact hnd) ?_))
                exact J116_12 _ (by first | (simp only [if_neg c11, if_pos c15, reduceIte]; done) | (with_reducible rfl))
              · refine jm_iload X d_T_number_105 4 rfl ?_
                refine jm_iload_n X d_T_number_107 rfl 2 rfl ?_
                refine jm_icmp_le (tgt := 116) X d_T_number_108 (by decide) (fun c16 => ?_) (fun c16 => ?_)
                · exact J116_12 _ (by first | (simp only [if_neg c11, if_neg c15, if_pos c16, reduceIte]; done) | (with_reducible rfl))
                · refine jm_aload_n X d_T_number_111 rfl 0 rfl ?_
                  refine jm_iload_n X d_T_number_112 rfl 3 rfl ?_
                  refine jm_callV (rest := []) X d_T_number_113 (k_T_breakAt E a at_ q len x br f (jm_us h [(a, .inr (1, [.ref q, .int len, .int x, .int br])), (q, .inl (dA 0, 400, .inl f))]) (by refine jm_us_get ?_ 0 rfl; exact hnd) (by refine jm_us_get ?_ 1 rfl; exact hnd) (by exact jm_pick hnd [0, 1] (by decide) rfl) ) ci_T_breakAt (Or.inl (jm_g2 212 rfl rfl)) im_T_breakAt se_T_breakAt (by refine jm_us_get ?_ 0 rfl; exact hnd) rfl rfl (Nat.le_of_ble_eq_true rfl) ⟨(Nat.le_of_ble_eq_true rfl), (Nat.le_of_ble_eq_true rfl)⟩ ⟨rfl, rfl⟩ ⟨(Nat.le_of_ble_eq_true rfl), (Nat.le_of_ble_eq_true rfl)⟩ (jm_k0 (jm_hq (by refine jm_into ?_ [0, 1] rfl (L1 := [(a, .inr (1, [.ref q, .int len, .int x, .int (f_T_breakAt_a_3 at_ len x br f)])), (q, .inl (dA 0, 400, .inl f))]) rfl; exact hnd) ?_))
                  exact J116_12 _ (by first | (simp only [if_neg c11, if_neg c15, if_neg c16, reduceIte]; done) | (with_reducible rfl))
          · refine jm_iload X d_T_number_45 5 rfl ?_
            refine jm_if_eq (tgt := 58) X d_T_number_47 (by decide) (fun c17 => ?_) (fun c17 => ?_)
            · refine jm_iload X d_T_number_58 4 rfl ?_
              refine jm_bipush (v := 10) X d_T_number_60 (by decide) ?_
              refine jm_imul X d_T_number_62 ?_
              refine jm_aload_n X d_T_number_63 rfl 0 rfl ?_
              refine jm_callV (rest := [.int (nu * 10)]) X d_T_number_64 (k_T_peek E a q len x br f (jm_us h [(a, .inr (1, [.ref q, .int len, .int x, .int br])), (q, .inl (dA 0, 400, .inl f))]) (by refine jm_us_get ?_ 0 rfl; exact hnd) (by refine jm_us_get ?_ 1 rfl; exact hnd) (by exact jm_pick hnd [0, 1] (by decide) rfl) (by first | with_reducible assumption | decide +kernel) (by first | with_reducible assumption | decide +kernel)) ci_T_peek (Or.inl (jm_g2 203 rfl rfl)) im_T_peek se_T_peek (by refine jm_us_get ?_ 0 rfl; exact hnd) rfl rfl (Nat.le_of_ble_eq_true rfl) ⟨(Nat.le_of_ble_eq_true rfl), (Nat.le_of_ble_eq_true rfl)⟩ ⟨rfl, rfl⟩ ⟨(Nat.le_of_ble_eq_true rfl), (Nat.le_of_ble_eq_true rfl)⟩ (jm_k1 ?_)
              refine jm_iadd X d_T_number_67 ?_
              refine jm_bipush (v := 48) X d_T_number_68 (by decide) ?_
              refine jm_isub X d_T_number_70 ?_
              refine jm_ldc (v := 1000000) X d_T_number_71 (jm_g2 223 rfl rfl) ?_
              refine jm_callS (rest := []) X d_T_number_73 (k_Math_min E (((nu * 10) + (f_T_peek len x br f)) - 48) 1000000 (jm_us h [(a, .inr (1, [.ref q, .int len, .int x, .int br])), (q, .inl (dA 0, 400, .inl f))])  ) ci_Math_min (Or.inl (jm_g2 224 rfl rfl)) st_Math_min rfl (Nat.le_of_ble_eq_true rfl) ⟨(Nat.le_of_ble_eq_true rfl), (Nat.le_of_ble_eq_true rfl)⟩ ⟨rfl, rfl⟩ ⟨(Nat.le_of_ble_eq_true rfl), (Nat.le_of_ble_eq_true rfl)⟩ (jm_k1 ?_)
              obtain ⟨u73, eu73⟩ : ∃ z_ : Int32, z_ = (f_Math_min (((nu * 10) + (f_T_peek len x br f)) - 48) 1000000) := ⟨_, rfl⟩
              rw [← eu73]
              refine jm_istore X d_T_number_76 (by decide) (lv1 := [(4, .int u73), (0, .ref a), (1, .int lo), (2, .int hi), (3, .int at_), (5, .int v22)]) rfl ?_
              refine jm_aload_n X d_T_number_78 rfl 1 rfl ?_
              refine jm_dup X d_T_number_79 rfl ?_
              refine jm_get X d_T_number_80 fs_T_22 (by refine jm_us_get ?_ 0 rfl; exact hnd) rfl ?_
              refine jm_iconst (v := 1) X d_T_number_83 (by decide) ?_
              refine jm_iadd X d_T_number_84 ?_
              refine jm_put X d_T_number_85 fs_T_22 (by refine jm_us_get ?_ 0 rfl; exact hnd) rfl rfl (Nat.le_of_ble_eq_true rfl) (fs1 := [.ref q, .int len, .int (x + 1), .int br]) rfl (jm_hq (by refine jm_us_set ?_ 0 (L1 := [(a, .inr (1, [.ref q, .int len, .int (x + 1), .int br])), (q, .inl (dA 0, 400, .inl f))]) rfl rfl; exact hnd) ?_)
              refine jm_goto (tgt := 24) X d_T_number_88 (by decide) ?_
              refine jm_lvs [1, 2, 3, 4, 0, 5] (lv1 := [(0, .ref a), (1, .int lo), (2, .int hi), (3, .int at_), (4, .int u73), (5, .int v22)]) rfl ?_
              exact ih (x + 1) u73 (jm_inc0 i1 (jm_nl c3)) (jm_dec (jm_nl c3) hm) (by subst eu73; simp only [if_neg c3, if_neg c10, if_pos c17, reduceIte] at hF; exact hF)
            · refine jm_aload_n X d_T_number_50 rfl 0 rfl ?_
              refine jm_get X d_T_number_51 fs_T_22 (by refine jm_us_get ?_ 0 rfl; exact hnd) rfl ?_
              refine jm_iload_n X d_T_number_54 rfl 3 rfl ?_
              refine jm_icmp_gt (tgt := 91) X d_T_number_55 (by decide) (fun c18 => ?_) (fun c18 => ?_)
              · refine jm_aload_n X d_T_number_91 rfl 0 rfl ?_
                refine jm_get X d_T_number_92 fs_T_22 (by refine jm_us_get ?_ 0 rfl; exact hnd) rfl ?_
                refine jm_iload_n X d_T_number_95 rfl 3 rfl ?_
                have J116_20 : ∀ (v116xx : Int32), v116xx = (if x = at_ then (f_T_breakAt_a_3 at_ len x br f) else (if nu < lo then (f_T_breakAt_a_3 at_ len x br f) else (if nu ≤ hi then br else (f_T_breakAt_a_3 at_ len x br f))) : Int32) → jm_W p l e ({ frames := 1, cells := 0, slots := 0, locals := 21 }) s m ([.ref a, .int lo, .int hi] : List Value).toArray below meth c S D jm_cl (jm_Q S D jm_cl below s (jm_R (some (.int (f_T_number lo hi len at_ br f))) (jm_us h [(a, .inr (1, [.ref q, .int len, .int (f_T_number_a_2 lo hi len at_ br f), .int (f_T_number_a_3 lo hi len at_ br f)])), (q, .inl (dA 0, 400, .inl f))])) 0 0) 6 116 [(0, .ref a), (1, .int lo), (2, .int hi), (3, .int at_), (4, .int nu), (5, .int v22)] [] (jm_us h [(a, .inr (1, [.ref q, .int len, .int x, .int v116xx])), (q, .inl (dA 0, 400, .inl f))]) 0 0 := by
                  intro v116xx ev116xx
                  refine jm_aload_n X d_T_number_116 rfl 0 rfl ?_
                  refine jm_get X d_T_number_117 fs_T_15 (by refine jm_us_get ?_ 0 rfl; exact hnd) rfl ?_
                  refine jm_iconst (v := (-1)) X d_T_number_120 (by decide) ?_
                  have J130_22 : ∀ (v130xx : Int32), v130xx = (if v116xx = (-1) then nu else lo : Int32) → jm_W p l e ({ frames := 1, cells := 0, slots := 0, locals := 21 }) s m ([.ref a, .int lo, .int hi] : List Value).toArray below meth c S D jm_cl (jm_Q S D jm_cl below s (jm_R (some (.int (f_T_number lo hi len at_ br f))) (jm_us h [(a, .inr (1, [.ref q, .int len, .int (f_T_number_a_2 lo hi len at_ br f), .int (f_T_number_a_3 lo hi len at_ br f)])), (q, .inl (dA 0, 400, .inl f))])) 0 0) 6 130 [(0, .ref a), (1, .int lo), (2, .int hi), (3, .int at_), (4, .int nu), (5, .int v22)] [.int v130xx] (jm_us h [(a, .inr (1, [.ref q, .int len, .int x, .int v116xx])), (q, .inl (dA 0, 400, .inl f))]) 0 0 := by
                    intro v130xx ev130xx
                    exact jm_iret X hr hk d_T_number_130 ⟨(by show Outcome.returned _ = Outcome.returned _; subst ev130xx; subst ev116xx; subst ev22; simp only [if_neg c3, if_neg c10, if_neg c17, if_pos c18, reduceIte] at hF; unfold f_T_number; (try dsimp only); rw [← hro, ← hF]), (by show jm_us h _ = jm_us h _; subst ev130xx; subst ev116xx; subst ev22; simp only [if_neg c3, if_neg c10, if_neg c17, if_pos c18, reduceIte] at hF; unfold f_T_number_a_2 f_T_number_a_3; (try dsimp only); rw [← hro, ← hF])⟩
                  refine jm_icmp_ne (tgt := 129) X d_T_number_121 (by decide) (fun c21 => ?_) (fun c21 => ?_)
                  · refine jm_iload_n X d_T_number_129 rfl 1 rfl ?_
                    exact J130_22 _ (by first | (simp only [if_neg c21, reduceIte]; done) | (with_reducible rfl))
                  · refine jm_iload X d_T_number_124 4 rfl ?_
                    refine jm_goto (tgt := 130) X d_T_number_126 (by decide) ?_
                    exact J130_22 _ (by first | (simp only [if_pos c21, reduceIte]; done) | (with_reducible rfl))
                refine jm_icmp_eq (tgt := 111) X d_T_number_96 (by decide) (fun c19 => ?_) (fun c19 => ?_)
                · refine jm_aload_n X d_T_number_111 rfl 0 rfl ?_
                  refine jm_iload_n X d_T_number_112 rfl 3 rfl ?_
                  refine jm_callV (rest := []) X d_T_number_113 (k_T_breakAt E a at_ q len x br f (jm_us h [(a, .inr (1, [.ref q, .int len, .int x, .int br])), (q, .inl (dA 0, 400, .inl f))]) (by refine jm_us_get ?_ 0 rfl; exact hnd) (by refine jm_us_get ?_ 1 rfl; exact hnd) (by exact jm_pick hnd [0, 1] (by decide) rfl) ) ci_T_breakAt (Or.inl (jm_g2 212 rfl rfl)) im_T_breakAt se_T_breakAt (by refine jm_us_get ?_ 0 rfl; exact hnd) rfl rfl (Nat.le_of_ble_eq_true rfl) ⟨(Nat.le_of_ble_eq_true rfl), (Nat.le_of_ble_eq_true rfl)⟩ ⟨rfl, rfl⟩ ⟨(Nat.le_of_ble_eq_true rfl), (Nat.le_of_ble_eq_true rfl)⟩ (jm_k0 (jm_hq (by refine jm_into ?_ [0, 1] rfl (L1 := [(a, .inr (1, [.ref q, .int len, .int x, .int (f_T_breakAt_a_3 at_ len x br f)])), (q, .inl (dA 0, 400, .inl f))]) rfl; exact hnd) ?_))
                  exact J116_20 _ (by first | (simp only [if_pos c19, reduceIte]; done) | (with_reducible rfl))
                · refine jm_iload X d_T_number_99 4 rfl ?_
                  refine jm_iload_n X d_T_number_101 rfl 1 rfl ?_
                  refine jm_icmp_lt (tgt := 111) X d_T_number_102 (by decide) (fun c23 => ?_) (fun c23 => ?_)
                  · refine jm_aload_n X d_T_number_111 rfl 0 rfl ?_
                    refine jm_iload_n X d_T_number_112 rfl 3 rfl ?_
                    refine jm_callV (rest := []) X d_T_number_113 (k_T_breakAt E a at_ q len x br f (jm_us h [(a, .inr (1, [.ref q, .int len, .int x, .int br])), (q, .inl (dA 0, 400, .inl f))]) (by refine jm_us_get ?_ 0 rfl; exact hnd) (by refine jm_us_get ?_ 1 rfl; exact hnd) (by exact jm_pick hnd [0, 1] (by decide) rfl) ) ci_T_breakAt (Or.inl (jm_g2 212 rfl rfl)) im_T_breakAt se_T_breakAt (by refine jm_us_get ?_ 0 rfl; exact hnd) rfl rfl (Nat.le_of_ble_eq_true rfl) ⟨(Nat.le_of_ble_eq_true rfl), (Nat.le_of_ble_eq_true rfl)⟩ ⟨rfl, rfl⟩ ⟨(Nat.le_of_ble_eq_true rfl), (Nat.le_of_ble_eq_true rfl)⟩ (jm_k0 (jm_hq (by refine jm_into ?_ [0, 1] rfl (L1 := [(a, .inr (1, [.ref q, .int len, .int x, .int (f_T_breakAt_a_3 at_ len x br f)])), (q, .inl (dA 0, 400, .inl f))]) rfl; exact hnd) ?_))
                    exact J116_20 _ (by first | (simp only [if_neg c19, if_pos c23, reduceIte]; done) | (with_reducible rfl))
                  · refine jm_iload X d_T_number_105 4 rfl ?_
                    refine jm_iload_n X d_T_number_107 rfl 2 rfl ?_
                    refine jm_icmp_le (tgt := 116) X d_T_number_108 (by decide) (fun c24 => ?_) (fun c24 => ?_)
                    · exact J116_20 _ (by first | (simp only [if_neg c19, if_neg c23, if_pos c24, reduceIte]; done) | (with_reducible rfl))
                    · refine jm_aload_n X d_T_number_111 rfl 0 rfl ?_
                      refine jm_iload_n X d_T_number_112 rfl 3 rfl ?_
                      refine jm_callV (rest := []) X d_T_number_113 (k_T_breakAt E a at_ q len x br f (jm_us h [(a, .inr (1, [.ref q, .int len, .int x, .int br])), (q, .inl (dA 0, 400, .inl f))]) (by refine jm_us_get ?_ 0 rfl; exact hnd) (by refine jm_us_get ?_ 1 rfl; exact hnd) (by exact jm_pick hnd [0, 1] (by decide) rfl) ) ci_T_breakAt (Or.inl (jm_g2 212 rfl rfl)) im_T_breakAt se_T_breakAt (by refine jm_us_get ?_ 0 rfl; exact hnd) rfl rfl (Nat.le_of_ble_eq_true rfl) ⟨(Nat.le_of_ble_eq_true rfl), (Nat.le_of_ble_eq_true rfl)⟩ ⟨rfl, rfl⟩ ⟨(Nat.le_of_ble_eq_true rfl), (Nat.le_of_ble_eq_true rfl)⟩ (jm_k0 (jm_hq (by refine jm_into ?_ [0, 1] rfl (L1 := [(a, .inr (1, [.ref q, .int len, .int x, .int (f_T_breakAt_a_3 at_ len x br f)])), (q, .inl (dA 0, 400, .inl f))]) rfl; exact hnd) ?_))
                      exact J116_20 _ (by first | (simp only [if_neg c19, if_neg c23, if_neg c24, reduceIte]; done) | (with_reducible rfl))
              · refine jm_iload X d_T_number_58 4 rfl ?_
                refine jm_bipush (v := 10) X d_T_number_60 (by decide) ?_
                refine jm_imul X d_T_number_62 ?_
                refine jm_aload_n X d_T_number_63 rfl 0 rfl ?_
                refine jm_callV (rest := [.int (nu * 10)]) X d_T_number_64 (k_T_peek E a q len x br f (jm_us h [(a, .inr (1, [.ref q, .int len, .int x, .int br])), (q, .inl (dA 0, 400, .inl f))]) (by refine jm_us_get ?_ 0 rfl; exact hnd) (by refine jm_us_get ?_ 1 rfl; exact hnd) (by exact jm_pick hnd [0, 1] (by decide) rfl) (by first | with_reducible assumption | decide +kernel) (by first | with_reducible assumption | decide +kernel)) ci_T_peek (Or.inl (jm_g2 203 rfl rfl)) im_T_peek se_T_peek (by refine jm_us_get ?_ 0 rfl; exact hnd) rfl rfl (Nat.le_of_ble_eq_true rfl) ⟨(Nat.le_of_ble_eq_true rfl), (Nat.le_of_ble_eq_true rfl)⟩ ⟨rfl, rfl⟩ ⟨(Nat.le_of_ble_eq_true rfl), (Nat.le_of_ble_eq_true rfl)⟩ (jm_k1 ?_)
                refine jm_iadd X d_T_number_67 ?_
                refine jm_bipush (v := 48) X d_T_number_68 (by decide) ?_
                refine jm_isub X d_T_number_70 ?_
                refine jm_ldc (v := 1000000) X d_T_number_71 (jm_g2 223 rfl rfl) ?_
                refine jm_callS (rest := []) X d_T_number_73 (k_Math_min E (((nu * 10) + (f_T_peek len x br f)) - 48) 1000000 (jm_us h [(a, .inr (1, [.ref q, .int len, .int x, .int br])), (q, .inl (dA 0, 400, .inl f))])  ) ci_Math_min (Or.inl (jm_g2 224 rfl rfl)) st_Math_min rfl (Nat.le_of_ble_eq_true rfl) ⟨(Nat.le_of_ble_eq_true rfl), (Nat.le_of_ble_eq_true rfl)⟩ ⟨rfl, rfl⟩ ⟨(Nat.le_of_ble_eq_true rfl), (Nat.le_of_ble_eq_true rfl)⟩ (jm_k1 ?_)
                obtain ⟨u73x, eu73x⟩ : ∃ z_ : Int32, z_ = (f_Math_min (((nu * 10) + (f_T_peek len x br f)) - 48) 1000000) := ⟨_, rfl⟩
                rw [← eu73x]
                refine jm_istore X d_T_number_76 (by decide) (lv1 := [(4, .int u73x), (0, .ref a), (1, .int lo), (2, .int hi), (3, .int at_), (5, .int v22)]) rfl ?_
                refine jm_aload_n X d_T_number_78 rfl 1 rfl ?_
                refine jm_dup X d_T_number_79 rfl ?_
                refine jm_get X d_T_number_80 fs_T_22 (by refine jm_us_get ?_ 0 rfl; exact hnd) rfl ?_
                refine jm_iconst (v := 1) X d_T_number_83 (by decide) ?_
                refine jm_iadd X d_T_number_84 ?_
                refine jm_put X d_T_number_85 fs_T_22 (by refine jm_us_get ?_ 0 rfl; exact hnd) rfl rfl (Nat.le_of_ble_eq_true rfl) (fs1 := [.ref q, .int len, .int (x + 1), .int br]) rfl (jm_hq (by refine jm_us_set ?_ 0 (L1 := [(a, .inr (1, [.ref q, .int len, .int (x + 1), .int br])), (q, .inl (dA 0, 400, .inl f))]) rfl rfl; exact hnd) ?_)
                refine jm_goto (tgt := 24) X d_T_number_88 (by decide) ?_
                refine jm_lvs [1, 2, 3, 4, 0, 5] (lv1 := [(0, .ref a), (1, .int lo), (2, .int hi), (3, .int at_), (4, .int u73x), (5, .int v22)]) rfl ?_
                exact ih (x + 1) u73x (jm_inc0 i1 (jm_nl c3)) (jm_dec (jm_nl c3) hm) (by subst eu73x; simp only [if_neg c3, if_neg c10, if_neg c17, if_neg c18, reduceIte] at hF; exact hF)
    exact LP24 401 at_ 0 p1 (jm_m0 p1 p2 (by decide) (by decide)) hro.symm
  refine jm_icmp_ne (tgt := 21) X d_T_number_14 (by decide) (fun c1 => ?_) (fun c1 => ?_)
  · refine jm_iconst (v := 0) X d_T_number_21 (by decide) ?_
    exact J22_2 _ (by first | (simp only [if_neg c1, reduceIte]; done) | (with_reducible rfl))
  · refine jm_iconst (v := 1) X d_T_number_17 (by decide) ?_
    refine jm_goto (tgt := 22) X d_T_number_18 (by decide) ?_
    exact J22_2 _ (by first | (simp only [if_pos c1, reduceIte]; done) | (with_reducible rfl))
theorem jm_s8 {x : Int32} (h0 : ¬ x < 0) (h1 : x ≤ 24) : (x + (-8)).toInt = x.toInt - 8 := by
  simp only [Int32.le_iff_toInt_le, Int32.lt_iff_toInt_lt] at *
  have h3 : (0 : Int32).toInt = 0 := rfl
  have h4 : (24 : Int32).toInt = 24 := rfl
  rw [Int32.toInt_add, show (-8 : Int32).toInt = -8 from rfl]
  simp only [Int.bmod]
  omega
theorem jm_s8a {x : Int32} (h0 : ¬ x < 0) (h1 : x ≤ 24) : x + (-8) ≤ 24 := by
  have h2 := jm_s8 h0 h1
  simp only [Int32.le_iff_toInt_le] at *
  have h4 : (24 : Int32).toInt = 24 := rfl
  omega
theorem jm_s8m {x : Int32} {k : Nat} (h0 : ¬ x < 0) (h1 : x ≤ 24) (hm : (x.toInt + 8).toNat < k + 1) : ((x + (-8)).toInt + 8).toNat < k := by
  have h2 := jm_s8 h0 h1
  simp only [Int32.le_iff_toInt_le, Int32.lt_iff_toInt_lt] at *
  have h3 : (0 : Int32).toInt = 0 := rfl
  omega
def F_T_addWord_3 (w : Int32) (len : Int32) (at_ : Int32) (br : Int32) (f : Nat → Int32) : Nat → (Int32) → (Int32) → (Nat → Int32) → Int32 × (Nat → Int32)
  | 0, _, _, _ => (0, (fun _ => 0))
  | n + 1, sh, ln, g_ =>
    if sh < 0 then ((ln, g_)) else (if 400 ≤ ln then ((ln, g_)) else (F_T_addWord_3 w len at_ br f n (sh + (-8)) (ln + 1) (upd g_ (ln : Int32).toNatClampNeg (vp_nar .byte (((w : Int32) >>> (sh &&& 31) : Int32).toInt8.toInt32)))))
termination_by n _ _ _ => n
def f_T_addWord_a_1 (w : Int32) (len : Int32) (at_ : Int32) (br : Int32) (f : Nat → Int32) : Int32 :=
  (F_T_addWord_3 w len at_ br f 33 24 len f).1
def f_T_addWord_q (w : Int32) (len : Int32) (at_ : Int32) (br : Int32) (f : Nat → Int32) : Nat → Int32 :=
  (F_T_addWord_3 w len at_ br f 33 24 len f).2
set_option maxRecDepth 20000 in
set_option maxHeartbeats 4000000 in
theorem k_T_addWord {l : Launch} {S : State} {D : va_G} {dA : Nat → ClassId} (E : jm_en S D jm_cl (jm_ty dA) jm_G) (a : Nat) (w : Int32) (q : Nat) (len : Int32) (at_ : Int32) (br : Int32) (f : Nat → Int32) (h : jm_H) (h_a : h a = some (.inr (1, [.ref q, .int len, .int at_, .int br]))) (h_q : h q = some (.inl (dA 0, 400, .inl f))) (hnd : ([a, q] : List Nat).Nodup) (p0 : 0 ≤ len) : jm_M l S D jm_cl y_T_addWord (Cond.code y_T_addWord b_T_addWord 3 (none)) { frames := 0, cells := 0, slots := 0, locals := 0 } [.ref a, .int w] h (jm_R none (jm_us h [(a, .inr (1, [.ref q, .int (f_T_addWord_a_1 w len at_ br f), .int at_, .int br])), (q, .inl (dA 0, 400, .inl (f_T_addWord_q w len at_ br f)))])) 0 0 := by
  refine jm_ofW E (by decide) (Nat.le_of_ble_eq_true rfl) (fun p e s m below meth c X hr hk hmn hout hadm => ?_)
  have X : jm_cx p s m ([.ref a, .int w] : List Value).toArray c S D jm_cl (jm_ty dA) jm_G b_T_addWord 3 "JobHouse$Text" := X
  have hL : ∀ zz ∈ ([(a, .inr (1, [.ref q, .int len, .int at_, .int br])), (q, .inl (dA 0, 400, .inl f))] : List (Nat × va_E)), h zz.1 = some zz.2 := List.forall_mem_cons.mpr ⟨h_a, List.forall_mem_cons.mpr ⟨h_q, fun _ hz => absurd hz List.not_mem_nil⟩⟩
  refine jm_hq (jm_us_id hL).symm ?_
  show jm_W p l e ({ frames := 0, cells := 0, slots := 0, locals := 0 }) s m ([.ref a, .int w] : List Value).toArray below meth c S D jm_cl (jm_Q S D jm_cl below s (jm_R none (jm_us h [(a, .inr (1, [.ref q, .int (f_T_addWord_a_1 w len at_ br f), .int at_, .int br])), (q, .inl (dA 0, 400, .inl (f_T_addWord_q w len at_ br f)))])) 0 0) 3 0 [(0, .ref a), (1, .int w)] [] (jm_us h [(a, .inr (1, [.ref q, .int len, .int at_, .int br])), (q, .inl (dA 0, 400, .inl f))]) 0 0
  refine jm_bipush (v := 24) X d_T_addWord_0 (by decide) ?_
  refine jm_istore_n X d_T_addWord_2 rfl (by decide) (lv1 := [(2, .int 24), (0, .ref a), (1, .int w)]) rfl ?_
  refine jm_lvs [1, 2, 0] (lv1 := [(0, .ref a), (1, .int w), (2, .int 24)]) rfl ?_
  obtain ⟨ro, hro⟩ : ∃ ro, ro = F_T_addWord_3 w len at_ br f 33 24 len f := ⟨_, rfl⟩
  have LP3 : ∀ (n : Nat) (sh : Int32) (ln : Int32) (g_ : Nat → Int32), (0 ≤ ln) → (sh ≤ 24) → (sh.toInt + 8).toNat < n → F_T_addWord_3 w len at_ br f n sh ln g_ = ro → jm_W p l e ({ frames := 0, cells := 0, slots := 0, locals := 0 }) s m ([.ref a, .int w] : List Value).toArray below meth c S D jm_cl (jm_Q S D jm_cl below s (jm_R none (jm_us h [(a, .inr (1, [.ref q, .int (f_T_addWord_a_1 w len at_ br f), .int at_, .int br])), (q, .inl (dA 0, 400, .inl (f_T_addWord_q w len at_ br f)))])) 0 0) 3 3 [(0, .ref a), (1, .int w), (2, .int sh)] [] (jm_us h [(a, .inr (1, [.ref q, .int ln, .int at_, .int br])), (q, .inl (dA 0, 400, .inl g_))]) 0 0 := by
    intro n
    induction n with
    | zero => intro sh ln g_ i1 i2 hm _; exact absurd hm (Nat.not_lt_zero _)
    | succ n ih =>
      intro sh ln g_ i1 i2 hm hF
      simp only [F_T_addWord_3] at hF
      refine jm_iload_n X d_T_addWord_3 rfl 2 rfl ?_
      refine jm_if_lt (tgt := 46) X d_T_addWord_4 (by decide) (fun c1 => ?_) (fun c1 => ?_)
      · exact jm_vret X hr hk d_T_addWord_46 ⟨rfl, (by show jm_us h _ = jm_us h _; simp only [if_pos c1, reduceIte] at hF; unfold f_T_addWord_a_1 f_T_addWord_q; (try dsimp only); rw [← hro, ← hF])⟩
      · refine jm_aload_n X d_T_addWord_7 rfl 0 rfl ?_
        refine jm_get X d_T_addWord_8 fs_T_19 (by refine jm_us_get ?_ 0 rfl; exact hnd) rfl ?_
        refine jm_sipush (v := 400) X d_T_addWord_11 (by decide) ?_
        refine jm_icmp_ge (tgt := 46) X d_T_addWord_14 (by decide) (fun c2 => ?_) (fun c2 => ?_)
        · exact jm_vret X hr hk d_T_addWord_46 ⟨rfl, (by show jm_us h _ = jm_us h _; simp only [if_neg c1, if_pos c2, reduceIte] at hF; unfold f_T_addWord_a_1 f_T_addWord_q; (try dsimp only); rw [← hro, ← hF])⟩
        · refine jm_aload_n X d_T_addWord_17 rfl 0 rfl ?_
          refine jm_get X d_T_addWord_18 fs_T_9 (by refine jm_us_get ?_ 0 rfl; exact hnd) rfl ?_
          refine jm_aload_n X d_T_addWord_21 rfl 0 rfl ?_
          refine jm_get X d_T_addWord_22 fs_T_19 (by refine jm_us_get ?_ 0 rfl; exact hnd) rfl ?_
          refine jm_iload_n X d_T_addWord_25 rfl 1 rfl ?_
          refine jm_iload_n X d_T_addWord_26 rfl 2 rfl ?_
          refine jm_ishr X d_T_addWord_27 ?_
          refine jm_i2b X d_T_addWord_28 ?_
          refine jm_bast (t0 := 0) X d_T_addWord_29 rfl (by refine jm_us_get ?_ 1 rfl; exact hnd) (jm_in (M := 400) i1 c2 (by decide) rfl) (jm_hq (by refine jm_us_set ?_ 1 (L1 := [(a, .inr (1, [.ref q, .int ln, .int at_, .int br])), (q, .inl (dA 0, 400, .inl (upd g_ (ln : Int32).toNatClampNeg (vp_nar .byte (((w : Int32) >>> (sh &&& 31) : Int32).toInt8.toInt32)))))]) rfl rfl; exact hnd) ?_)
          refine jm_aload_n X d_T_addWord_30 rfl 0 rfl ?_
          refine jm_dup X d_T_addWord_31 rfl ?_
          refine jm_get X d_T_addWord_32 fs_T_19 (by refine jm_us_get ?_ 0 rfl; exact hnd) rfl ?_
          refine jm_iconst (v := 1) X d_T_addWord_35 (by decide) ?_
          refine jm_iadd X d_T_addWord_36 ?_
          refine jm_put X d_T_addWord_37 fs_T_19 (by refine jm_us_get ?_ 0 rfl; exact hnd) rfl rfl (Nat.le_of_ble_eq_true rfl) (fs1 := [.ref q, .int (ln + 1), .int at_, .int br]) rfl (jm_hq (by refine jm_us_set ?_ 0 (L1 := [(a, .inr (1, [.ref q, .int (ln + 1), .int at_, .int br])), (q, .inl (dA 0, 400, .inl (upd g_ (ln : Int32).toNatClampNeg (vp_nar .byte (((w : Int32) >>> (sh &&& 31) : Int32).toInt8.toInt32)))))]) rfl rfl; exact hnd) ?_)
          refine jm_iinc X d_T_addWord_40 2 rfl (v := sh + (-8)) (by rfl) (by decide) (lv1 := [(2, .int (sh + (-8))), (0, .ref a), (1, .int w)]) rfl ?_
          refine jm_goto (tgt := 3) X d_T_addWord_43 (by decide) ?_
          refine jm_lvs [1, 2, 0] (lv1 := [(0, .ref a), (1, .int w), (2, .int (sh + (-8)))]) rfl ?_
          exact ih (sh + (-8)) (ln + 1) (upd g_ (ln : Int32).toNatClampNeg (vp_nar .byte (((w : Int32) >>> (sh &&& 31) : Int32).toInt8.toInt32))) (jm_inc0 i1 (jm_nl c2)) (jm_s8a c1 i2) (jm_s8m c1 i2 hm) (by simp only [if_neg c1, if_neg c2, reduceIte] at hF; exact hF)
  exact LP3 33 24 len f p0 (by decide) (by decide) hro.symm
