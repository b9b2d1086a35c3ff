def f_D_dayOf (sec : Int64) : Int32 :=
  (f_Math_floorDiv2 sec 86400 : Int64).toInt32
set_option maxRecDepth 20000 in
set_option maxHeartbeats 4000000 in
theorem k_D_dayOf {l : Launch} {S : State} {D : va_G} {dA : Nat → ClassId} (E : jm_en S D jm_cl (jm_ty dA) jm_G) (sec : Int64) (h : jm_H)    : jm_M l S D jm_cl y_D_dayOf (Cond.code y_D_dayOf b_D_dayOf 2 (some FieldType.int)) { frames := 1, cells := 0, slots := 0, locals := 25 } [.long sec] h (jm_R (some (.int (f_D_dayOf sec))) h) 0 0 := by
  refine jm_ofW E (by decide) (Nat.le_of_ble_eq_true rfl) (fun p e s m below meth c X hr hk hmn hout hadm => ?_)
  have X : jm_cx p s m ([.long sec] : List Value).toArray c S D jm_cl (jm_ty dA) jm_G b_D_dayOf 2 "JobHouse$Dates" := X
  show jm_W p l e ({ frames := 1, cells := 0, slots := 0, locals := 25 }) s m ([.long sec] : List Value).toArray below meth c S D jm_cl (jm_Q S D jm_cl below s (jm_R (some (.int (f_D_dayOf sec))) h) 0 0) 2 0 [(0, .long sec)] [] (h) 0 0
  refine jm_lload_n X d_D_dayOf_0 rfl 0 rfl ?_
  refine jm_ldc2 (v := 86400) X d_D_dayOf_1 (jm_g3 198 rfl rfl) ?_
  refine jm_callS (rest := []) X d_D_dayOf_4 (k_Math_floorDiv2 E sec 86400 h  (by first | with_reducible assumption | decide +kernel)) ci_Math_floorDiv2 (Or.inl (jm_g3 199 rfl rfl)) st_Math_floorDiv2 rfl (Nat.le_of_ble_eq_true rfl) ⟨(Nat.le_of_ble_eq_true rfl), (Nat.le_of_ble_eq_true rfl)⟩ ⟨rfl, rfl⟩ ⟨(Nat.le_of_ble_eq_true rfl), (Nat.le_of_ble_eq_true rfl)⟩ (jm_k1 ?_)
  refine jm_l2i X d_D_dayOf_7 ?_
  exact jm_iret X hr hk d_D_dayOf_8 ⟨(by show Outcome.returned _ = Outcome.returned _; unfold f_D_dayOf; rfl), rfl⟩
def f_D_yearOf (day : Int32) : Int32 :=
  let u17 : Int32 := f_D_firstOfMonth (1970 + (f_Math_floorDiv (day * 400) 146097)) 1
  let u32 : Int32 := f_D_firstOfMonth ((1970 + (f_Math_floorDiv (day * 400) 146097)) + 1) 1
  let v46 : Int32 := if day < u32 then (1970 + (f_Math_floorDiv (day * 400) 146097)) else ((1970 + (f_Math_floorDiv (day * 400) 146097)) + 1)
  if u17 ≤ day then v46 else ((1970 + (f_Math_floorDiv (day * 400) 146097)) - 1)
set_option maxRecDepth 20000 in
set_option maxHeartbeats 4000000 in
theorem k_D_yearOf {l : Launch} {S : State} {D : va_G} {dA : Nat → ClassId} (E : jm_en S D jm_cl (jm_ty dA) jm_G) (day : Int32) (h : jm_H)    : jm_M l S D jm_cl y_D_yearOf (Cond.code y_D_yearOf b_D_yearOf 2 (some FieldType.int)) { frames := 1, cells := 0, slots := 0, locals := 24 } [.int day] h (jm_R (some (.int (f_D_yearOf day))) h) 0 0 := by
  refine jm_ofW E (by decide) (Nat.le_of_ble_eq_true rfl) (fun p e s m below meth c X hr hk hmn hout hadm => ?_)
  have X : jm_cx p s m ([.int day] : List Value).toArray c S D jm_cl (jm_ty dA) jm_G b_D_yearOf 2 "JobHouse$Dates" := X
  show jm_W p l e ({ frames := 1, cells := 0, slots := 0, locals := 24 }) s m ([.int day] : List Value).toArray below meth c S D jm_cl (jm_Q S D jm_cl below s (jm_R (some (.int (f_D_yearOf day))) h) 0 0) 2 0 [(0, .int day)] [] (h) 0 0
  refine jm_sipush (v := 1970) X d_D_yearOf_0 (by decide) ?_
  refine jm_iload_n X d_D_yearOf_3 rfl 0 rfl ?_
  refine jm_sipush (v := 400) X d_D_yearOf_4 (by decide) ?_
  refine jm_imul X d_D_yearOf_7 ?_
  refine jm_ldc (v := 146097) X d_D_yearOf_8 (jm_g3 205 rfl rfl) ?_
  refine jm_callS (rest := [.int 1970]) X d_D_yearOf_10 (k_Math_floorDiv E (day * 400) 146097 h  (by first | with_reducible assumption | decide +kernel)) ci_Math_floorDiv (Or.inl (jm_g3 206 rfl rfl)) st_Math_floorDiv rfl (Nat.le_of_ble_eq_true rfl) ⟨(Nat.le_of_ble_eq_true rfl), (Nat.le_of_ble_eq_true rfl)⟩ ⟨rfl, rfl⟩ ⟨(Nat.le_of_ble_eq_true rfl), (Nat.le_of_ble_eq_true rfl)⟩ (jm_k1 ?_)
  refine jm_iadd X d_D_yearOf_13 ?_
  refine jm_istore_n X d_D_yearOf_14 rfl (by decide) (lv1 := [(1, .int (1970 + (f_Math_floorDiv (day * 400) 146097))), (0, .int day)]) rfl ?_
  refine jm_iload_n X d_D_yearOf_15 rfl 0 rfl ?_
  refine jm_iconst (v := 1) X d_D_yearOf_16 (by decide) ?_
  refine jm_callS (rest := []) X d_D_yearOf_17 (k_D_firstOfMonth E (1970 + (f_Math_floorDiv (day * 400) 146097)) 1 h  ) ci_D_firstOfMonth (Or.inl (jm_g3 209 rfl rfl)) st_D_firstOfMonth rfl (Nat.le_of_ble_eq_true rfl) ⟨(Nat.le_of_ble_eq_true rfl), (Nat.le_of_ble_eq_true rfl)⟩ ⟨rfl, rfl⟩ ⟨(Nat.le_of_ble_eq_true rfl), (Nat.le_of_ble_eq_true rfl)⟩ (jm_k1 ?_)
  obtain ⟨u17, eu17⟩ : ∃ z_ : Int32, z_ = (f_D_firstOfMonth (1970 + (f_Math_floorDiv (day * 400) 146097)) 1) := ⟨_, rfl⟩
  rw [← eu17]
  refine jm_iload_n X d_D_yearOf_20 rfl 1 rfl ?_
  refine jm_icmp_le (tgt := 28) X d_D_yearOf_21 (by decide) (fun c1 => ?_) (fun c1 => ?_)
  · refine jm_iload_n X d_D_yearOf_28 rfl 0 rfl ?_
    refine jm_iconst (v := 1) X d_D_yearOf_29 (by decide) ?_
    refine jm_iadd X d_D_yearOf_30 ?_
    refine jm_iconst (v := 1) X d_D_yearOf_31 (by decide) ?_
    refine jm_callS (rest := []) X d_D_yearOf_32 (k_D_firstOfMonth E ((1970 + (f_Math_floorDiv (day * 400) 146097)) + 1) 1 h  ) ci_D_firstOfMonth (Or.inl (jm_g3 209 rfl rfl)) st_D_firstOfMonth rfl (Nat.le_of_ble_eq_true rfl) ⟨(Nat.le_of_ble_eq_true rfl), (Nat.le_of_ble_eq_true rfl)⟩ ⟨rfl, rfl⟩ ⟨(Nat.le_of_ble_eq_true rfl), (Nat.le_of_ble_eq_true rfl)⟩ (jm_k1 ?_)
    obtain ⟨u32, eu32⟩ : ∃ z_ : Int32, z_ = (f_D_firstOfMonth ((1970 + (f_Math_floorDiv (day * 400) 146097)) + 1) 1) := ⟨_, rfl⟩
    rw [← eu32]
    refine jm_iload_n X d_D_yearOf_35 rfl 1 rfl ?_
    have J46_3 : ∀ (v46 : Int32), v46 = (if day < u32 then (1970 + (f_Math_floorDiv (day * 400) 146097)) else ((1970 + (f_Math_floorDiv (day * 400) 146097)) + 1) : Int32) → jm_W p l e ({ frames := 1, cells := 0, slots := 0, locals := 24 }) s m ([.int day] : List Value).toArray below meth c S D jm_cl (jm_Q S D jm_cl below s (jm_R (some (.int (f_D_yearOf day))) h) 0 0) 2 46 [(1, .int (1970 + (f_Math_floorDiv (day * 400) 146097))), (0, .int day)] [.int v46] (h) 0 0 := by
      intro v46 ev46
      exact jm_iret X hr hk d_D_yearOf_46 ⟨(by show Outcome.returned _ = Outcome.returned _; unfold f_D_yearOf; subst ev46; subst eu32; subst eu17; first | (simp only [if_pos c1, reduceIte]; done) | (simp only [if_pos c1, reduceIte]; rfl) | rfl), rfl⟩
    refine jm_icmp_gt (tgt := 45) X d_D_yearOf_36 (by decide) (fun c2 => ?_) (fun c2 => ?_)
    · refine jm_iload_n X d_D_yearOf_45 rfl 0 rfl ?_
      exact J46_3 _ (by first | (simp only [if_pos c2, reduceIte]; done) | (with_reducible rfl))
    · refine jm_iload_n X d_D_yearOf_39 rfl 0 rfl ?_
      refine jm_iconst (v := 1) X d_D_yearOf_40 (by decide) ?_
      refine jm_iadd X d_D_yearOf_41 ?_
      refine jm_goto (tgt := 46) X d_D_yearOf_42 (by decide) ?_
      exact J46_3 _ (by first | (simp only [if_neg c2, reduceIte]; done) | (with_reducible rfl))
  · refine jm_iload_n X d_D_yearOf_24 rfl 0 rfl ?_
    refine jm_iconst (v := 1) X d_D_yearOf_25 (by decide) ?_
    refine jm_isub X d_D_yearOf_26 ?_
    exact jm_iret X hr hk d_D_yearOf_27 ⟨(by show Outcome.returned _ = Outcome.returned _; unfold f_D_yearOf; subst eu17; first | (simp only [if_neg c1, reduceIte]; done) | (simp only [if_neg c1, reduceIte]; rfl) | rfl), rfl⟩
