theorem fs_T_22 : jm_fs jm_cl jm_G "JobHouse$Text" 22 1 2 (.int) false := ⟨_, jn_T1, 4, jn_y1, rfl, by decide, jn_i1, jn_o1, jn_n1, rfl, rfl, by decide +kernel, Or.inl (jm_g1 45 rfl rfl)⟩
theorem fs_T_15 : jm_fs jm_cl jm_G "JobHouse$Text" 15 1 3 (.int) false := ⟨_, jn_T1, 4, jn_y1, rfl, by decide, jn_i1, jn_o1, jn_n1, rfl, rfl, by decide +kernel, Or.inl (jm_g1 47 rfl rfl)⟩
theorem fs_T_19 : jm_fs jm_cl jm_G "JobHouse$Text" 19 1 1 (.int) false := ⟨_, jn_T1, 4, jn_y1, rfl, by decide, jn_i1, jn_o1, jn_n1, rfl, rfl, by decide +kernel, Or.inl (jm_g1 44 rfl rfl)⟩
theorem fs_T_9 : jm_fs jm_cl jm_G "JobHouse$Text" 9 1 0 (.array .byte) true := ⟨_, jn_T1, 4, jn_y1, rfl, by decide, jn_i1, jn_o1, jn_n1, rfl, rfl, by decide +kernel, Or.inl (jm_g1 42 rfl rfl)⟩
theorem jm_in {N : Nat} {i n M : Int32} (h0 : 0 ≤ i) (h1 : ¬ n ≤ i) (h2 : n ≤ M) (hM : M.toInt = N) : vp_in i N := by
  rw [vp_in_iff]
  simp only [Int32.le_iff_toInt_le] at *
  have h3 : (0 : Int32).toInt = 0 := rfl
  omega
theorem jm_inl {N : Nat} {i n M : Int32} (h0 : 0 ≤ i) (h1 : i < n) (h2 : n ≤ M) (hM : M.toInt = N) : vp_in i N := by
  rw [vp_in_iff]
  simp only [Int32.le_iff_toInt_le, Int32.lt_iff_toInt_lt] at *
  have h3 : (0 : Int32).toInt = 0 := rfl
  omega
def f_T_rewind_a_2 (len : Int32) (at_ : Int32) (br : Int32) (f : Nat → Int32) : Int32 :=
  0
def f_T_rewind_a_3 (len : Int32) (at_ : Int32) (br : Int32) (f : Nat → Int32) : Int32 :=
  -1
set_option maxRecDepth 20000 in
set_option maxHeartbeats 4000000 in
theorem k_T_rewind {l : Launch} {S : State} {D : va_G} {dA : Nat → ClassId} (E : jm_en S D jm_cl (jm_ty dA) jm_G) (a : Nat) (q : Nat) (len : Int32) (at_ : Int32) (br : Int32) (f : Nat → Int32) (h : jm_H) (h_a : h a = some (.inr (1, [.ref q, .int len, .int at_, .int br]))) (h_q : h q = some (.inl (dA 0, 400, .inl f))) (hnd : ([a, q] : List Nat).Nodup)  : jm_M l S D jm_cl y_T_rewind (Cond.code y_T_rewind b_T_rewind 1 (none)) { frames := 0, cells := 0, slots := 0, locals := 0 } [.ref a] h (jm_R none (jm_us h [(a, .inr (1, [.ref q, .int len, .int (f_T_rewind_a_2 len at_ br f), .int (f_T_rewind_a_3 len at_ br f)])), (q, .inl (dA 0, 400, .inl f))])) 0 0 := by
  refine jm_ofW E (by decide) (Nat.le_of_ble_eq_true rfl) (fun p e s m below meth c X hr hk hmn hout hadm => ?_)
  have X : jm_cx p s m ([.ref a] : List Value).toArray c S D jm_cl (jm_ty dA) jm_G b_T_rewind 1 "JobHouse$Text" := X
  have hL : ∀ zz ∈ ([(a, .inr (1, [.ref q, .int len, .int at_, .int br])), (q, .inl (dA 0, 400, .inl f))] : List (Nat × va_E)), h zz.1 = some zz.2 := List.forall_mem_cons.mpr ⟨h_a, List.forall_mem_cons.mpr ⟨h_q, fun _ hz => absurd hz List.not_mem_nil⟩⟩
  refine jm_hq (jm_us_id hL).symm ?_
  show jm_W p l e ({ frames := 0, cells := 0, slots := 0, locals := 0 }) s m ([.ref a] : List Value).toArray below meth c S D jm_cl (jm_Q S D jm_cl below s (jm_R none (jm_us h [(a, .inr (1, [.ref q, .int len, .int (f_T_rewind_a_2 len at_ br f), .int (f_T_rewind_a_3 len at_ br f)])), (q, .inl (dA 0, 400, .inl f))])) 0 0) 1 0 [(0, .ref a)] [] (jm_us h [(a, .inr (1, [.ref q, .int len, .int at_, .int br])), (q, .inl (dA 0, 400, .inl f))]) 0 0
  refine jm_aload_n X d_T_rewind_0 rfl 0 rfl ?_
  refine jm_iconst (v := 0) X d_T_rewind_1 (by decide) ?_
  refine jm_put X d_T_rewind_2 fs_T_22 (by refine jm_us_get ?_ 0 rfl; exact hnd) rfl rfl (Nat.le_of_ble_eq_true rfl) (fs1 := [.ref q, .int len, .int 0, .int br]) rfl (jm_hq (by refine jm_us_set ?_ 0 (L1 := [(a, .inr (1, [.ref q, .int len, .int 0, .int br])), (q, .inl (dA 0, 400, .inl f))]) rfl rfl; exact hnd) ?_)
  refine jm_aload_n X d_T_rewind_5 rfl 0 rfl ?_
  refine jm_iconst (v := (-1)) X d_T_rewind_6 (by decide) ?_
  refine jm_put X d_T_rewind_7 fs_T_15 (by refine jm_us_get ?_ 0 rfl; exact hnd) rfl rfl (Nat.le_of_ble_eq_true rfl) (fs1 := [.ref q, .int len, .int 0, .int (-1)]) rfl (jm_hq (by refine jm_us_set ?_ 0 (L1 := [(a, .inr (1, [.ref q, .int len, .int 0, .int (-1)])), (q, .inl (dA 0, 400, .inl f))]) rfl rfl; exact hnd) ?_)
  exact jm_vret X hr hk d_T_rewind_10 ⟨rfl, (by show jm_us h _ = jm_us h _; unfold f_T_rewind_a_2 f_T_rewind_a_3; rfl)⟩
def f_T_breakAt_a_3 (w : Int32) (len : Int32) (at_ : Int32) (br : Int32) (f : Nat → Int32) : Int32 :=
  let v13 : Int32 := if br = (-1) then w else br
  v13
set_option maxRecDepth 20000 in
set_option maxHeartbeats 4000000 in
theorem k_T_breakAt {l : Launch} {S : State} {D : va_G} {dA : Nat → ClassId} (E : jm_en S D jm_cl (jm_ty dA) jm_G) (a : Nat) (w : Int32) (q : Nat) (len : Int32) (at_ : Int32) (br : Int32) (f : Nat → Int32) (h : jm_H) (h_a : h a = some (.inr (1, [.ref q, .int len, .int at_, .int br]))) (h_q : h q = some (.inl (dA 0, 400, .inl f))) (hnd : ([a, q] : List Nat).Nodup)  : jm_M l S D jm_cl y_T_breakAt (Cond.code y_T_breakAt b_T_breakAt 2 (none)) { frames := 0, cells := 0, slots := 0, locals := 0 } [.ref a, .int w] h (jm_R none (jm_us h [(a, .inr (1, [.ref q, .int len, .int at_, .int (f_T_breakAt_a_3 w len at_ br f)])), (q, .inl (dA 0, 400, .inl f))])) 0 0 := by
  refine jm_ofW E (by decide) (Nat.le_of_ble_eq_true rfl) (fun p e s m below meth c X hr hk hmn hout hadm => ?_)
  have X : jm_cx p s m ([.ref a, .int w] : List Value).toArray c S D jm_cl (jm_ty dA) jm_G b_T_breakAt 2 "JobHouse$Text" := X
  have hL : ∀ zz ∈ ([(a, .inr (1, [.ref q, .int len, .int at_, .int br])), (q, .inl (dA 0, 400, .inl f))] : List (Nat × va_E)), h zz.1 = some zz.2 := List.forall_mem_cons.mpr ⟨h_a, List.forall_mem_cons.mpr ⟨h_q, fun _ hz => absurd hz List.not_mem_nil⟩⟩
  refine jm_hq (jm_us_id hL).symm ?_
  show jm_W p l e ({ frames := 0, cells := 0, slots := 0, locals := 0 }) s m ([.ref a, .int w] : List Value).toArray below meth c S D jm_cl (jm_Q S D jm_cl below s (jm_R none (jm_us h [(a, .inr (1, [.ref q, .int len, .int at_, .int (f_T_breakAt_a_3 w len at_ br f)])), (q, .inl (dA 0, 400, .inl f))])) 0 0) 2 0 [(0, .ref a), (1, .int w)] [] (jm_us h [(a, .inr (1, [.ref q, .int len, .int at_, .int br])), (q, .inl (dA 0, 400, .inl f))]) 0 0
  refine jm_aload_n X d_T_breakAt_0 rfl 0 rfl ?_
  refine jm_get X d_T_breakAt_1 fs_T_15 (by refine jm_us_get ?_ 0 rfl; exact hnd) rfl ?_
  refine jm_iconst (v := (-1)) X d_T_breakAt_4 (by decide) ?_
  have J13_2 : ∀ (v13 : Int32), v13 = (if br = (-1) then w else br : Int32) → jm_W p l e ({ frames := 0, cells := 0, slots := 0, locals := 0 }) s m ([.ref a, .int w] : List Value).toArray below meth c S D jm_cl (jm_Q S D jm_cl below s (jm_R none (jm_us h [(a, .inr (1, [.ref q, .int len, .int at_, .int (f_T_breakAt_a_3 w len at_ br f)])), (q, .inl (dA 0, 400, .inl f))])) 0 0) 2 13 [(0, .ref a), (1, .int w)] [] (jm_us h [(a, .inr (1, [.ref q, .int len, .int at_, .int v13])), (q, .inl (dA 0, 400, .inl f))]) 0 0 := by
    intro v13 ev13
    exact jm_vret X hr hk d_T_breakAt_13 ⟨rfl, (by show jm_us h _ = jm_us h _; unfold f_T_breakAt_a_3; subst ev13; rfl)⟩
  refine jm_icmp_ne (tgt := 13) X d_T_breakAt_5 (by decide) (fun c1 => ?_) (fun c1 => ?_)
  · exact J13_2 _ (by first | (simp only [if_neg c1, reduceIte]; done) | (with_reducible rfl))
  · refine jm_aload_n X d_T_breakAt_8 rfl 0 rfl ?_
    refine jm_iload_n X d_T_breakAt_9 rfl 1 rfl ?_
    refine jm_put X d_T_breakAt_10 fs_T_15 (by refine jm_us_get ?_ 0 rfl; exact hnd) rfl rfl (Nat.le_of_ble_eq_true rfl) (fs1 := [.ref q, .int len, .int at_, .int w]) rfl (jm_hq (by refine jm_us_set ?_ 0 (L1 := [(a, .inr (1, [.ref q, .int len, .int at_, .int w])), (q, .inl (dA 0, 400, .inl f))]) rfl rfl; exact hnd) ?_)
    exact J13_2 _ (by first | (simp only [if_pos c1, reduceIte]; done) | (with_reducible rfl))
def f_T_isDigit (w : Int32) : Int32 :=
  let v17 : Int32 := if w < 48 then 0 else (if 57 < w then 0 else 1)
  v17
set_option maxRecDepth 20000 in
set_option maxHeartbeats 4000000 in
theorem k_T_isDigit {l : Launch} {S : State} {D : va_G} {dA : Nat → ClassId} (E : jm_en S D jm_cl (jm_ty dA) jm_G) (w : Int32) (h : jm_H)    : jm_M l S D jm_cl y_T_isDigit (Cond.code y_T_isDigit b_T_isDigit 1 (some FieldType.boolean)) { frames := 0, cells := 0, slots := 0, locals := 0 } [.int w] h (jm_R (some (.int (f_T_isDigit w))) h) 0 0 := by
  refine jm_ofW E (by decide) (Nat.le_of_ble_eq_true rfl) (fun p e s m below meth c X hr hk hmn hout hadm => ?_)
  have X : jm_cx p s m ([.int w] : List Value).toArray c S D jm_cl (jm_ty dA) jm_G b_T_isDigit 1 "JobHouse$Text" := X
  show jm_W p l e ({ frames := 0, cells := 0, slots := 0, locals := 0 }) s m ([.int w] : List Value).toArray below meth c S D jm_cl (jm_Q S D jm_cl below s (jm_R (some (.int (f_T_isDigit w))) h) 0 0) 1 0 [(0, .int w)] [] (h) 0 0
  refine jm_iload_n X d_T_isDigit_0 rfl 0 rfl ?_
  refine jm_bipush (v := 48) X d_T_isDigit_1 (by decide) ?_
  have J17_2 : ∀ (v17 : Int32), v17 = (if w < 48 then 0 else (if 57 < w then 0 else 1) : Int32) → jm_W p l e ({ frames := 0, cells := 0, slots := 0, locals := 0 }) s m ([.int w] : List Value).toArray below meth c S D jm_cl (jm_Q S D jm_cl below s (jm_R (some (.int (f_T_isDigit w))) h) 0 0) 1 17 [(0, .int w)] [.int v17] (h) 0 0 := by
    intro v17 ev17
    exact jm_zret X hr (by first | rfl | (subst ev17; (repeat' split) <;> rfl)) hk d_T_isDigit_17 ⟨(by show Outcome.returned _ = Outcome.returned _; unfold f_T_isDigit; subst ev17; rfl), rfl⟩
  refine jm_icmp_lt (tgt := 16) X d_T_isDigit_3 (by decide) (fun c1 => ?_) (fun c1 => ?_)
  · refine jm_iconst (v := 0) X d_T_isDigit_16 (by decide) ?_
    exact J17_2 _ (by first | (simp only [if_pos c1, reduceIte]; done) | (with_reducible rfl))
  · refine jm_iload_n X d_T_isDigit_6 rfl 0 rfl ?_
    refine jm_bipush (v := 57) X d_T_isDigit_7 (by decide) ?_
    refine jm_icmp_gt (tgt := 16) X d_T_isDigit_9 (by decide) (fun c3 => ?_) (fun c3 => ?_)
    · refine jm_iconst (v := 0) X d_T_isDigit_16 (by decide) ?_
      exact J17_2 _ (by first | (simp only [if_neg c1, if_pos c3, reduceIte]; done) | (with_reducible rfl))
    · refine jm_iconst (v := 1) X d_T_isDigit_12 (by decide) ?_
      refine jm_goto (tgt := 17) X d_T_isDigit_13 (by decide) ?_
      exact J17_2 _ (by first | (simp only [if_neg c1, if_neg c3, reduceIte]; done) | (with_reducible rfl))
def f_T_peek (len : Int32) (at_ : Int32) (br : Int32) (f : Nat → Int32) : Int32 :=
  let v36 : Int32 := if br = (-1) then (if at_ < len then ((f (at_ : Int32).toNatClampNeg) &&& 255) else (-1)) else (-1)
  v36
set_option maxRecDepth 20000 in
set_option maxHeartbeats 4000000 in
theorem k_T_peek {l : Launch} {S : State} {D : va_G} {dA : Nat → ClassId} (E : jm_en S D jm_cl (jm_ty dA) jm_G) (a : Nat) (q : Nat) (len : Int32) (at_ : Int32) (br : Int32) (f : Nat → Int32) (h : jm_H) (h_a : h a = some (.inr (1, [.ref q, .int len, .int at_, .int br]))) (h_q : h q = some (.inl (dA 0, 400, .inl f))) (hnd : ([a, q] : List Nat).Nodup) (p1 : 0 ≤ at_) (p2 : len ≤ 400) : jm_M l S D jm_cl y_T_peek (Cond.code y_T_peek b_T_peek 1 (some FieldType.int)) { frames := 0, cells := 0, slots := 0, locals := 0 } [.ref a] h (jm_R (some (.int (f_T_peek len at_ br f))) h) 0 0 := by
  refine jm_ofW E (by decide) (Nat.le_of_ble_eq_true rfl) (fun p e s m below meth c X hr hk hmn hout hadm => ?_)
  have X : jm_cx p s m ([.ref a] : List Value).toArray c S D jm_cl (jm_ty dA) jm_G b_T_peek 1 "JobHouse$Text" := X
  have hL : ∀ zz ∈ ([(a, .inr (1, [.ref q, .int len, .int at_, .int br])), (q, .inl (dA 0, 400, .inl f))] : List (Nat × va_E)), h zz.1 = some zz.2 := List.forall_mem_cons.mpr ⟨h_a, List.forall_mem_cons.mpr ⟨h_q, fun _ hz => absurd hz List.not_mem_nil⟩⟩
  refine jm_hq (jm_us_id hL).symm ?_
  show jm_W p l e ({ frames := 0, cells := 0, slots := 0, locals := 0 }) s m ([.ref a] : List Value).toArray below meth c S D jm_cl (jm_Q S D jm_cl below s (jm_R (some (.int (f_T_peek len at_ br f))) h) 0 0) 1 0 [(0, .ref a)] [] (jm_us h [(a, .inr (1, [.ref q, .int len, .int at_, .int br])), (q, .inl (dA 0, 400, .inl f))]) 0 0
  refine jm_aload_n X d_T_peek_0 rfl 0 rfl ?_
  refine jm_get X d_T_peek_1 fs_T_15 (by refine jm_us_get ?_ 0 rfl; exact hnd) rfl ?_
  refine jm_iconst (v := (-1)) X d_T_peek_4 (by decide) ?_
  have J36_2 : ∀ (v36 : Int32), v36 = (if br = (-1) then (if at_ < len then ((f (at_ : Int32).toNatClampNeg) &&& 255) else (-1)) else (-1) : Int32) → jm_W p l e ({ frames := 0, cells := 0, slots := 0, locals := 0 }) s m ([.ref a] : List Value).toArray below meth c S D jm_cl (jm_Q S D jm_cl below s (jm_R (some (.int (f_T_peek len at_ br f))) h) 0 0) 1 36 [(0, .ref a)] [.int v36] (jm_us h [(a, .inr (1, [.ref q, .int len, .int at_, .int br])), (q, .inl (dA 0, 400, .inl f))]) 0 0 := by
    intro v36 ev36
    exact jm_iret X hr hk d_T_peek_36 ⟨(by show Outcome.returned _ = Outcome.returned _; unfold f_T_peek; subst ev36; rfl), (jm_us_id hL)⟩
  refine jm_icmp_ne (tgt := 19) X d_T_peek_5 (by decide) (fun c1 => ?_) (fun c1 => ?_)
  · refine jm_iconst (v := (-1)) X d_T_peek_19 (by decide) ?_
    refine jm_goto (tgt := 36) X d_T_peek_20 (by decide) ?_
    exact J36_2 _ (by first | (simp only [if_neg c1, reduceIte]; done) | (with_reducible rfl))
  · refine jm_aload_n X d_T_peek_8 rfl 0 rfl ?_
    refine jm_get X d_T_peek_9 fs_T_22 (by refine jm_us_get ?_ 0 rfl; exact hnd) rfl ?_
    refine jm_aload_n X d_T_peek_12 rfl 0 rfl ?_
    refine jm_get X d_T_peek_13 fs_T_19 (by refine jm_us_get ?_ 0 rfl; exact hnd) rfl ?_
    refine jm_icmp_lt (tgt := 23) X d_T_peek_16 (by decide) (fun c3 => ?_) (fun c3 => ?_)
    · refine jm_aload_n X d_T_peek_23 rfl 0 rfl ?_
      refine jm_get X d_T_peek_24 fs_T_9 (by refine jm_us_get ?_ 0 rfl; exact hnd) rfl ?_
      refine jm_aload_n X d_T_peek_27 rfl 0 rfl ?_
      refine jm_get X d_T_peek_28 fs_T_22 (by refine jm_us_get ?_ 0 rfl; exact hnd) rfl ?_
      refine jm_bald (t0 := 0) X d_T_peek_31 rfl (by refine jm_us_get ?_ 1 rfl; exact hnd) (jm_inl p1 c3 p2 rfl) ?_
      refine jm_sipush (v := 255) X d_T_peek_32 (by decide) ?_
      refine jm_iand X d_T_peek_35 ?_
      exact J36_2 _ (by first | (simp only [if_pos c1, if_pos c3, reduceIte]; done) | (with_reducible rfl))
    · refine jm_iconst (v := (-1)) X d_T_peek_19 (by decide) ?_
      refine jm_goto (tgt := 36) X d_T_peek_20 (by decide) ?_
      exact J36_2 _ (by first | (simp only [if_pos c1, if_neg c3, reduceIte]; done) | (with_reducible rfl))
def f_T_isDone (len : Int32) (at_ : Int32) (br : Int32) (f : Nat → Int32) : Int32 :=
  let v13 : Int32 := if (f_T_peek len at_ br f) = (-1) then 1 else 0
  v13
set_option maxRecDepth 20000 in
set_option maxHeartbeats 4000000 in
theorem k_T_isDone {l : Launch} {S : State} {D : va_G} {dA : Nat → ClassId} (E : jm_en S D jm_cl (jm_ty dA) jm_G) (a : Nat) (q : Nat) (len : Int32) (at_ : Int32) (br : Int32) (f : Nat → Int32) (h : jm_H) (h_a : h a = some (.inr (1, [.ref q, .int len, .int at_, .int br]))) (h_q : h q = some (.inl (dA 0, 400, .inl f))) (hnd : ([a, q] : List Nat).Nodup) (p1 : 0 ≤ at_) (p2 : len ≤ 400) : jm_M l S D jm_cl y_T_isDone (Cond.code y_T_isDone b_T_isDone 1 (some FieldType.boolean)) { frames := 1, cells := 0, slots := 0, locals := 20 } [.ref a] h (jm_R (some (.int (f_T_isDone len at_ br f))) h) 0 0 := by
  refine jm_ofW E (by decide) (Nat.le_of_ble_eq_true rfl) (fun p e s m below meth c X hr hk hmn hout hadm => ?_)
  have X : jm_cx p s m ([.ref a] : List Value).toArray c S D jm_cl (jm_ty dA) jm_G b_T_isDone 1 "JobHouse$Text" := X
  have hL : ∀ zz ∈ ([(a, .inr (1, [.ref q, .int len, .int at_, .int br])), (q, .inl (dA 0, 400, .inl f))] : List (Nat × va_E)), h zz.1 = some zz.2 := List.forall_mem_cons.mpr ⟨h_a, List.forall_mem_cons.mpr ⟨h_q, fun _ hz => absurd hz List.not_mem_nil⟩⟩
  refine jm_hq (jm_us_id hL).symm ?_
  show jm_W p l e ({ frames := 1, cells := 0, slots := 0, locals := 20 }) s m ([.ref a] : List Value).toArray below meth c S D jm_cl (jm_Q S D jm_cl below s (jm_R (some (.int (f_T_isDone len at_ br f))) h) 0 0) 1 0 [(0, .ref a)] [] (jm_us h [(a, .inr (1, [.ref q, .int len, .int at_, .int br])), (q, .inl (dA 0, 400, .inl f))]) 0 0
  refine jm_aload_n X d_T_isDone_0 rfl 0 rfl ?_
  refine jm_callV (rest := []) X d_T_isDone_1 (k_T_peek E a q len at_ br f (jm_us h [(a, .inr (1, [.ref q, .int len, .int at_, .int br])), (q, .inl (dA 0, 400, .inl f))]) (by refine jm_us_get ?_ 0 rfl; exact hnd) (by refine jm_us_get ?_ 1 rfl; exact hnd) (by exact jm_pick hnd [0, 1] (by decide) rfl) (by first | with_reducible assumption | decide +kernel) (by first | with_reducible assumption | decide +kernel)) ci_T_peek (Or.inl (jm_g2 203 rfl rfl)) im_T_peek se_T_peek (by refine jm_us_get ?_ 0 rfl; exact hnd) rfl rfl (Nat.le_of_ble_eq_true rfl) ⟨(Nat.le_of_ble_eq_true rfl), (Nat.le_of_ble_eq_true rfl)⟩ ⟨rfl, rfl⟩ ⟨(Nat.le_of_ble_eq_true rfl), (Nat.le_of_ble_eq_true rfl)⟩ (jm_k1 ?_)
  refine jm_iconst (v := (-1)) X d_T_isDone_4 (by decide) ?_
  have J13_2 : ∀ (v13 : Int32), v13 = (if (f_T_peek len at_ br f) = (-1) then 1 else 0 : Int32) → jm_W p l e ({ frames := 1, cells := 0, slots := 0, locals := 20 }) s m ([.ref a] : List Value).toArray below meth c S D jm_cl (jm_Q S D jm_cl below s (jm_R (some (.int (f_T_isDone len at_ br f))) h) 0 0) 1 13 [(0, .ref a)] [.int v13] (jm_us h [(a, .inr (1, [.ref q, .int len, .int at_, .int br])), (q, .inl (dA 0, 400, .inl f))]) 0 0 := by
    intro v13 ev13
    exact jm_zret X hr (by first | rfl | (subst ev13; (repeat' split) <;> rfl)) hk d_T_isDone_13 ⟨(by show Outcome.returned _ = Outcome.returned _; unfold f_T_isDone; subst ev13; rfl), (jm_us_id hL)⟩
  refine jm_icmp_ne (tgt := 12) X d_T_isDone_5 (by decide) (fun c1 => ?_) (fun c1 => ?_)
  · refine jm_iconst (v := 0) X d_T_isDone_12 (by decide) ?_
    exact J13_2 _ (by first | (simp only [if_neg c1, reduceIte]; done) | (with_reducible rfl))
  · refine jm_iconst (v := 1) X d_T_isDone_8 (by decide) ?_
    refine jm_goto (tgt := 13) X d_T_isDone_9 (by decide) ?_
    exact J13_2 _ (by first | (simp only [if_pos c1, reduceIte]; done) | (with_reducible rfl))
def f_T_take (w : Int32) (len : Int32) (at_ : Int32) (br : Int32) (f : Nat → Int32) : Int32 :=
  if (f_T_peek len at_ br f) = w then 1 else 0
def f_T_take_a_2 (w : Int32) (len : Int32) (at_ : Int32) (br : Int32) (f : Nat → Int32) : Int32 :=
  if (f_T_peek len at_ br f) = w then (at_ + 1) else at_
set_option maxRecDepth 20000 in
set_option maxHeartbeats 4000000 in
theorem k_T_take {l : Launch} {S : State} {D : va_G} {dA : Nat → ClassId} (E : jm_en S D jm_cl (jm_ty dA) jm_G) (a : Nat) (w : Int32) (q : Nat) (len : Int32) (at_ : Int32) (br : Int32) (f : Nat → Int32) (h : jm_H) (h_a : h a = some (.inr (1, [.ref q, .int len, .int at_, .int br]))) (h_q : h q = some (.inl (dA 0, 400, .inl f))) (hnd : ([a, q] : List Nat).Nodup) (p1 : 0 ≤ at_) (p2 : len ≤ 400) : jm_M l S D jm_cl y_T_take (Cond.code y_T_take b_T_take 2 (some FieldType.boolean)) { frames := 1, cells := 0, slots := 0, locals := 20 } [.ref a, .int w] h (jm_R (some (.int (f_T_take w len at_ br f))) (jm_us h [(a, .inr (1, [.ref q, .int len, .int (f_T_take_a_2 w len at_ br f), .int br])), (q, .inl (dA 0, 400, .inl f))])) 0 0 := by
  refine jm_ofW E (by decide) (Nat.le_of_ble_eq_true rfl) (fun p e s m below meth c X hr hk hmn hout hadm => ?_)
  have X : jm_cx p s m ([.ref a, .int w] : List Value).toArray c S D jm_cl (jm_ty dA) jm_G b_T_take 2 "JobHouse$Text" := X
  have hL : ∀ zz ∈ ([(a, .inr (1, [.ref q, .int len, .int at_, .int br])), (q, .inl (dA 0, 400, .inl f))] : List (Nat × va_E)), h zz.1 = some zz.2 := List.forall_mem_cons.mpr ⟨h_a, List.forall_mem_cons.mpr ⟨h_q, fun _ hz => absurd hz List.not_mem_nil⟩⟩
  refine jm_hq (jm_us_id hL).symm ?_
  show jm_W p l e ({ frames := 1, cells := 0, slots := 0, locals := 20 }) s m ([.ref a, .int w] : List Value).toArray below meth c S D jm_cl (jm_Q S D jm_cl below s (jm_R (some (.int (f_T_take w len at_ br f))) (jm_us h [(a, .inr (1, [.ref q, .int len, .int (f_T_take_a_2 w len at_ br f), .int br])), (q, .inl (dA 0, 400, .inl f))])) 0 0) 2 0 [(0, .ref a), (1, .int w)] [] (jm_us h [(a, .inr (1, [.ref q, .int len, .int at_, .int br])), (q, .inl (dA 0, 400, .inl f))]) 0 0
  refine jm_aload_n X d_T_take_0 rfl 0 rfl ?_
  refine jm_callV (rest := []) X d_T_take_1 (k_T_peek E a q len at_ br f (jm_us h [(a, .inr (1, [.ref q, .int len, .int at_, .int br])), (q, .inl (dA 0, 400, .inl f))]) (by refine jm_us_get ?_ 0 rfl; exact hnd) (by refine jm_us_get ?_ 1 rfl; exact hnd) (by exact jm_pick hnd [0, 1] (by decide) rfl) (by first | with_reducible assumption | decide +kernel) (by first | with_reducible assumption | decide +kernel)) ci_T_peek (Or.inl (jm_g2 203 rfl rfl)) im_T_peek se_T_peek (by refine jm_us_get ?_ 0 rfl; exact hnd) rfl rfl (Nat.le_of_ble_eq_true rfl) ⟨(Nat.le_of_ble_eq_true rfl), (Nat.le_of_ble_eq_true rfl)⟩ ⟨rfl, rfl⟩ ⟨(Nat.le_of_ble_eq_true rfl), (Nat.le_of_ble_eq_true rfl)⟩ (jm_k1 ?_)
  refine jm_iload_n X d_T_take_4 rfl 1 rfl ?_
  refine jm_icmp_eq (tgt := 10) X d_T_take_5 (by decide) (fun c1 => ?_) (fun c1 => ?_)
  · refine jm_aload_n X d_T_take_10 rfl 0 rfl ?_
    refine jm_dup X d_T_take_11 rfl ?_
    refine jm_get X d_T_take_12 fs_T_22 (by refine jm_us_get ?_ 0 rfl; exact hnd) rfl ?_
    refine jm_iconst (v := 1) X d_T_take_15 (by decide) ?_
    refine jm_iadd X d_T_take_16 ?_
    refine jm_put X d_T_take_17 fs_T_22 (by refine jm_us_get ?_ 0 rfl; exact hnd) rfl rfl (Nat.le_of_ble_eq_true rfl) (fs1 := [.ref q, .int len, .int (at_ + 1), .int br]) rfl (jm_hq (by refine jm_us_set ?_ 0 (L1 := [(a, .inr (1, [.ref q, .int len, .int (at_ + 1), .int br])), (q, .inl (dA 0, 400, .inl f))]) rfl rfl; exact hnd) ?_)
    refine jm_iconst (v := 1) X d_T_take_20 (by decide) ?_
    exact jm_zret X hr (by first | rfl | ((repeat' split) <;> rfl)) hk d_T_take_21 ⟨(by show Outcome.returned _ = Outcome.returned _; unfold f_T_take; first | (simp only [if_pos c1, reduceIte]; done) | (simp only [if_pos c1, reduceIte]; rfl) | rfl), (by show jm_us h _ = jm_us h _; unfold f_T_take_a_2; first | (simp only [if_pos c1, reduceIte]; done) | (simp only [if_pos c1, reduceIte]; rfl) | rfl)⟩
  · refine jm_iconst (v := 0) X d_T_take_8 (by decide) ?_
    exact jm_zret X hr (by first | rfl | ((repeat' split) <;> rfl)) hk d_T_take_9 ⟨(by show Outcome.returned _ = Outcome.returned _; unfold f_T_take; first | (simp only [if_neg c1, reduceIte]; done) | (simp only [if_neg c1, reduceIte]; rfl) | rfl), (by show jm_us h _ = jm_us h _; unfold f_T_take_a_2; first | (simp only [if_neg c1, reduceIte]; done) | (simp only [if_neg c1, reduceIte]; rfl) | rfl)⟩
def f_T_require_a_2 (w : Int32) (len : Int32) (at_ : Int32) (br : Int32) (f : Nat → Int32) : Int32 :=
  f_T_take_a_2 w len at_ br f
def f_T_require_a_3 (w : Int32) (len : Int32) (at_ : Int32) (br : Int32) (f : Nat → Int32) : Int32 :=
  let v16 : Int32 := if (f_T_take w len at_ br f) = 0 then (f_T_breakAt_a_3 (f_T_take_a_2 w len at_ br f) len (f_T_take_a_2 w len at_ br f) br f) else br
  v16
set_option maxRecDepth 20000 in
set_option maxHeartbeats 4000000 in
theorem k_T_require {l : Launch} {S : State} {D : va_G} {dA : Nat → ClassId} (E : jm_en S D jm_cl (jm_ty dA) jm_G) (a : Nat) (w : Int32) (q : Nat) (len : Int32) (at_ : Int32) (br : Int32) (f : Nat → Int32) (h : jm_H) (h_a : h a = some (.inr (1, [.ref q, .int len, .int at_, .int br]))) (h_q : h q = some (.inl (dA 0, 400, .inl f))) (hnd : ([a, q] : List Nat).Nodup) (p1 : 0 ≤ at_) (p2 : len ≤ 400) : jm_M l S D jm_cl y_T_require (Cond.code y_T_require b_T_require 2 (none)) { frames := 2, cells := 0, slots := 0, locals := 41 } [.ref a, .int w] h (jm_R none (jm_us h [(a, .inr (1, [.ref q, .int len, .int (f_T_require_a_2 w len at_ br f), .int (f_T_require_a_3 w len at_ br f)])), (q, .inl (dA 0, 400, .inl f))])) 0 0 := by
  refine jm_ofW E (by decide) (Nat.le_of_ble_eq_true rfl) (fun p e s m below meth c X hr hk hmn hout hadm => ?_)
  have X : jm_cx p s m ([.ref a, .int w] : List Value).toArray c S D jm_cl (jm_ty dA) jm_G b_T_require 2 "JobHouse$Text" := X
  have hL : ∀ zz ∈ ([(a, .inr (1, [.ref q, .int len, .int at_, .int br])), (q, .inl (dA 0, 400, .inl f))] : List (Nat × va_E)), h zz.1 = some zz.2 := List.forall_mem_cons.mpr ⟨h_a, List.forall_mem_cons.mpr ⟨h_q, fun _ hz => absurd hz List.not_mem_nil⟩⟩
  refine jm_hq (jm_us_id hL).symm ?_
  show jm_W p l e ({ frames := 2, cells := 0, slots := 0, locals := 41 }) s m ([.ref a, .int w] : List Value).toArray below meth c S D jm_cl (jm_Q S D jm_cl below s (jm_R none (jm_us h [(a, .inr (1, [.ref q, .int len, .int (f_T_require_a_2 w len at_ br f), .int (f_T_require_a_3 w len at_ br f)])), (q, .inl (dA 0, 400, .inl f))])) 0 0) 2 0 [(0, .ref a), (1, .int w)] [] (jm_us h [(a, .inr (1, [.ref q, .int len, .int at_, .int br])), (q, .inl (dA 0, 400, .inl f))]) 0 0
  refine jm_aload_n X d_T_require_0 rfl 0 rfl ?_
  refine jm_iload_n X d_T_require_1 rfl 1 rfl ?_
  refine jm_callV (rest := []) X d_T_require_2 (k_T_take E a w q len at_ br f (jm_us h [(a, .inr (1, [.ref q, .int len, .int at_, .int br])), (q, .inl (dA 0, 400, .inl f))]) (by refine jm_us_get ?_ 0 rfl; exact hnd) (by refine jm_us_get ?_ 1 rfl; exact hnd) (by exact jm_pick hnd [0, 1] (by decide) rfl) (by first | with_reducible assumption | decide +kernel) (by first | with_reducible assumption | decide +kernel)) ci_T_take (Or.inl (jm_g2 211 rfl rfl)) im_T_take se_T_take (by refine jm_us_get ?_ 0 rfl; exact hnd) rfl rfl (Nat.le_of_ble_eq_true rfl) ⟨(Nat.le_of_ble_eq_true rfl), (Nat.le_of_ble_eq_true rfl)⟩ ⟨rfl, rfl⟩ ⟨(Nat.le_of_ble_eq_true rfl), (Nat.le_of_ble_eq_true rfl)⟩ (jm_k1 (jm_hq (by refine jm_into ?_ [0, 1] rfl (L1 := [(a, .inr (1, [.ref q, .int len, .int (f_T_take_a_2 w len at_ br f), .int br])), (q, .inl (dA 0, 400, .inl f))]) rfl; exact hnd) ?_))
  have J16_2 : ∀ (v16 : Int32), v16 = (if (f_T_take w len at_ br f) = 0 then (f_T_breakAt_a_3 (f_T_take_a_2 w len at_ br f) len (f_T_take_a_2 w len at_ br f) br f) else br : Int32) → jm_W p l e ({ frames := 2, cells := 0, slots := 0, locals := 41 }) s m ([.ref a, .int w] : List Value).toArray below meth c S D jm_cl (jm_Q S D jm_cl below s (jm_R none (jm_us h [(a, .inr (1, [.ref q, .int len, .int (f_T_require_a_2 w len at_ br f), .int (f_T_require_a_3 w len at_ br f)])), (q, .inl (dA 0, 400, .inl f))])) 0 0) 2 16 [(0, .ref a), (1, .int w)] [] (jm_us h [(a, .inr (1, [.ref q, .int len, .int (f_T_take_a_2 w len at_ br f), .int v16])), (q, .inl (dA 0, 400, .inl f))]) 0 0 := by
    intro v16 ev16
    exact jm_vret X hr hk d_T_require_16 ⟨rfl, (by show jm_us h _ = jm_us h _; unfold f_T_require_a_2 f_T_require_a_3; subst ev16; rfl)⟩
  refine jm_if_ne (tgt := 16) X d_T_require_5 (by decide) (fun c1 => ?_) (fun c1 => ?_)
  · exact J16_2 _ (by first | (simp only [if_neg c1, reduceIte]; done) | (with_reducible rfl))
  · refine jm_aload_n X d_T_require_8 rfl 0 rfl ?_
    refine jm_aload_n X d_T_require_9 rfl 0 rfl ?_
    refine jm_get X d_T_require_10 fs_T_22 (by refine jm_us_get ?_ 0 rfl; exact hnd) rfl ?_
    refine jm_callV (rest := []) X d_T_require_13 (k_T_breakAt E a (f_T_take_a_2 w len at_ br f) q len (f_T_take_a_2 w len at_ br f) br f (jm_us h [(a, .inr (1, [.ref q, .int len, .int (f_T_take_a_2 w len at_ br f), .int br])), (q, .inl (dA 0, 400, .inl f))]) (by refine jm_us_get ?_ 0 rfl; exact hnd) (by refine jm_us_get ?_ 1 rfl; exact hnd) (by exact jm_pick hnd [0, 1] (by decide) rfl) ) ci_T_breakAt (Or.inl (jm_g2 212 rfl rfl)) im_T_breakAt se_T_breakAt (by refine jm_us_get ?_ 0 rfl; exact hnd) rfl rfl (Nat.le_of_ble_eq_true rfl) ⟨(Nat.le_of_ble_eq_true rfl), (Nat.le_of_ble_eq_true rfl)⟩ ⟨rfl, rfl⟩ ⟨(Nat.le_of_ble_eq_true rfl), (Nat.le_of_ble_eq_true rfl)⟩ (jm_k0 (jm_hq (by refine jm_into ?_ [0, 1] rfl (L1 := [(a, .inr (1, [.ref q, .int len, .int (f_T_take_a_2 w len at_ br f), .int (f_T_breakAt_a_3 (f_T_take_a_2 w len at_ br f) len (f_T_take_a_2 w len at_ br f) br f)])), (q, .inl (dA 0, 400, .inl f))]) rfl; exact hnd) ?_))
    exact J16_2 _ (by first | (simp only [if_pos c1, reduceIte]; done) | (with_reducible rfl))
def f_T_requireEnd_a_3 (len : Int32) (at_ : Int32) (br : Int32) (f : Nat → Int32) : Int32 :=
  let v15 : Int32 := if (f_T_isDone len at_ br f) = 0 then (f_T_breakAt_a_3 at_ len at_ br f) else br
  v15
set_option maxRecDepth 20000 in
set_option maxHeartbeats 4000000 in
theorem k_T_requireEnd {l : Launch} {S : State} {D : va_G} {dA : Nat → ClassId} (E : jm_en S D jm_cl (jm_ty dA) jm_G) (a : Nat) (q : Nat) (len : Int32) (at_ : Int32) (br : Int32) (f : Nat → Int32) (h : jm_H) (h_a : h a = some (.inr (1, [.ref q, .int len, .int at_, .int br]))) (h_q : h q = some (.inl (dA 0, 400, .inl f))) (hnd : ([a, q] : List Nat).Nodup) (p1 : 0 ≤ at_) (p2 : len ≤ 400) : jm_M l S D jm_cl y_T_requireEnd (Cond.code y_T_requireEnd b_T_requireEnd 1 (none)) { frames := 2, cells := 0, slots := 0, locals := 40 } [.ref a] h (jm_R none (jm_us h [(a, .inr (1, [.ref q, .int len, .int at_, .int (f_T_requireEnd_a_3 len at_ br f)])), (q, .inl (dA 0, 400, .inl f))])) 0 0 := by
  refine jm_ofW E (by decide) (Nat.le_of_ble_eq_true rfl) (fun p e s m below meth c X hr hk hmn hout hadm => ?_)
  have X : jm_cx p s m ([.ref a] : List Value).toArray c S D jm_cl (jm_ty dA) jm_G b_T_requireEnd 1 "JobHouse$Text" := X
  have hL : ∀ zz ∈ ([(a, .inr (1, [.ref q, .int len, .int at_, .int br])), (q, .inl (dA 0, 400, .inl f))] : List (Nat × va_E)), h zz.1 = some zz.2 := List.forall_mem_cons.mpr ⟨h_a, List.forall_mem_cons.mpr ⟨h_q, fun _ hz => absurd hz List.not_mem_nil⟩⟩
  refine jm_hq (jm_us_id hL).symm ?_
  show jm_W p l e ({ frames := 2, cells := 0, slots := 0, locals := 40 }) s m ([.ref a] : List Value).toArray below meth c S D jm_cl (jm_Q S D jm_cl below s (jm_R none (jm_us h [(a, .inr (1, [.ref q, .int len, .int at_, .int (f_T_requireEnd_a_3 len at_ br f)])), (q, .inl (dA 0, 400, .inl f))])) 0 0) 1 0 [(0, .ref a)] [] (jm_us h [(a, .inr (1, [.ref q, .int len, .int at_, .int br])), (q, .inl (dA 0, 400, .inl f))]) 0 0
  refine jm_aload_n X d_T_requireEnd_0 rfl 0 rfl ?_
  refine jm_callV (rest := []) X d_T_requireEnd_1 (k_T_isDone E a q len at_ br f (jm_us h [(a, .inr (1, [.ref q, .int len, .int at_, .int br])), (q, .inl (dA 0, 400, .inl f))]) (by refine jm_us_get ?_ 0 rfl; exact hnd) (by refine jm_us_get ?_ 1 rfl; exact hnd) (by exact jm_pick hnd [0, 1] (by decide) rfl) (by first | with_reducible assumption | decide +kernel) (by first | with_reducible assumption | decide +kernel)) ci_T_isDone (Or.inl (jm_g3 6 rfl rfl)) im_T_isDone se_T_isDone (by refine jm_us_get ?_ 0 rfl; exact hnd) rfl rfl (Nat.le_of_ble_eq_true rfl) ⟨(Nat.le_of_ble_eq_true rfl), (Nat.le_of_ble_eq_true rfl)⟩ ⟨rfl, rfl⟩ ⟨(Nat.le_of_ble_eq_true rfl), (Nat.le_of_ble_eq_true rfl)⟩ (jm_k1 ?_)
  have J15_2 : ∀ (v15 : Int32), v15 = (if (f_T_isDone len at_ br f) = 0 then (f_T_breakAt_a_3 at_ len at_ br f) else br : Int32) → jm_W p l e ({ frames := 2, cells := 0, slots := 0, locals := 40 }) s m ([.ref a] : List Value).toArray below meth c S D jm_cl (jm_Q S D jm_cl below s (jm_R none (jm_us h [(a, .inr (1, [.ref q, .int len, .int at_, .int (f_T_requireEnd_a_3 len at_ br f)])), (q, .inl (dA 0, 400, .inl f))])) 0 0) 1 15 [(0, .ref a)] [] (jm_us h [(a, .inr (1, [.ref q, .int len, .int at_, .int v15])), (q, .inl (dA 0, 400, .inl f))]) 0 0 := by
    intro v15 ev15
    exact jm_vret X hr hk d_T_requireEnd_15 ⟨rfl, (by show jm_us h _ = jm_us h _; unfold f_T_requireEnd_a_3; subst ev15; rfl)⟩
  refine jm_if_ne (tgt := 15) X d_T_requireEnd_4 (by decide) (fun c1 => ?_) (fun c1 => ?_)
  · exact J15_2 _ (by first | (simp only [if_neg c1, reduceIte]; done) | (with_reducible rfl))
  · refine jm_aload_n X d_T_requireEnd_7 rfl 0 rfl ?_
    refine jm_aload_n X d_T_requireEnd_8 rfl 0 rfl ?_
    refine jm_get X d_T_requireEnd_9 fs_T_22 (by refine jm_us_get ?_ 0 rfl; exact hnd) rfl ?_
    refine jm_callV (rest := []) X d_T_requireEnd_12 (k_T_breakAt E a at_ q len at_ br f (jm_us h [(a, .inr (1, [.ref q, .int len, .int at_, .int br])), (q, .inl (dA 0, 400, .inl f))]) (by refine jm_us_get ?_ 0 rfl; exact hnd) (by refine jm_us_get ?_ 1 rfl; exact hnd) (by exact jm_pick hnd [0, 1] (by decide) rfl) ) ci_T_breakAt (Or.inl (jm_g2 212 rfl rfl)) im_T_breakAt se_T_breakAt (by refine jm_us_get ?_ 0 rfl; exact hnd) rfl rfl (Nat.le_of_ble_eq_true rfl) ⟨(Nat.le_of_ble_eq_true rfl), (Nat.le_of_ble_eq_true rfl)⟩ ⟨rfl, rfl⟩ ⟨(Nat.le_of_ble_eq_true rfl), (Nat.le_of_ble_eq_true rfl)⟩ (jm_k0 (jm_hq (by refine jm_into ?_ [0, 1] rfl (L1 := [(a, .inr (1, [.ref q, .int len, .int at_, .int (f_T_breakAt_a_3 at_ len at_ br f)])), (q, .inl (dA 0, 400, .inl f))]) rfl; exact hnd) ?_))
    exact J15_2 _ (by first | (simp only [if_pos c1, reduceIte]; done) | (with_reducible rfl))
