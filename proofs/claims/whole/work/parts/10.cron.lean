theorem fs_C_11 : jm_fs jm_cl jm_G "JobHouse$Cron" 11 4 0 (.array .long) true := ⟨_, jn_T4, 4, jn_y4, rfl, by decide, jn_i4, jn_o4, jn_n4, rfl, rfl, by decide +kernel, Or.inl (jm_g1 91 rfl rfl)⟩
theorem fs_C_15 : jm_fs jm_cl jm_G "JobHouse$Cron" 15 4 1 (.int) false := ⟨_, jn_T4, 4, jn_y4, rfl, by decide, jn_i4, jn_o4, jn_n4, rfl, rfl, by decide +kernel, Or.inl (jm_g1 93 rfl rfl)⟩
theorem fs_C_26 : jm_fs jm_cl jm_G "JobHouse$Cron" 26 4 3 (.int) false := ⟨_, jn_T4, 4, jn_y4, rfl, by decide, jn_i4, jn_o4, jn_n4, rfl, rfl, by decide +kernel, Or.inl (jm_g1 97 rfl rfl)⟩
theorem fs_C_37 : jm_fs jm_cl jm_G "JobHouse$Cron" 37 4 2 (.int) false := ⟨_, jn_T4, 4, jn_y4, rfl, by decide, jn_i4, jn_o4, jn_n4, rfl, rfl, by decide +kernel, Or.inl (jm_g1 94 rfl rfl)⟩
def f_C_lowest (fi : Int32) : Int32 :=
  if fi = 3 then 1 else (if fi = 4 then 1 else (if fi = 5 then 1 else (if fi = 6 then 1970 else 0)))
set_option maxRecDepth 20000 in
set_option maxHeartbeats 4000000 in
theorem k_C_lowest {l : Launch} {S : State} {D : va_G} {dA : Nat → ClassId} (E : jm_en S D jm_cl (jm_ty dA) jm_G) (fi : Int32) (h : jm_H)    : jm_M l S D jm_cl y_C_lowest (Cond.code y_C_lowest b_C_lowest 1 (some FieldType.int)) { frames := 0, cells := 0, slots := 0, locals := 0 } [.int fi] h (jm_R (some (.int (f_C_lowest fi))) h) 0 0 := by
  refine jm_ofW E (by decide) (Nat.le_of_ble_eq_true rfl) (fun p e s m below meth c X hr hk hmn hout hadm => ?_)
  have X : jm_cx p s m ([.int fi] : List Value).toArray c S D jm_cl (jm_ty dA) jm_G b_C_lowest 1 "JobHouse$Cron" := X
  show jm_W p l e ({ frames := 0, cells := 0, slots := 0, locals := 0 }) s m ([.int fi] : List Value).toArray below meth c S D jm_cl (jm_Q S D jm_cl below s (jm_R (some (.int (f_C_lowest fi))) h) 0 0) 1 0 [(0, .int fi)] [] (h) 0 0
  refine jm_iload_n X d_C_lowest_0 rfl 0 rfl ?_
  by_cases c1 : fi = 3
  · refine jm_tabEq (tgt := 32) (off := 31) X d_C_lowest_1 c1 (by decide) (by decide) (by decide) (by decide) ?_
    refine jm_iconst (v := 1) X d_C_lowest_32 (by decide) ?_
    exact jm_iret X hr hk d_C_lowest_33 ⟨(by show Outcome.returned _ = Outcome.returned _; unfold f_C_lowest; first | (simp only [if_pos c1, reduceIte]; done) | (simp only [if_pos c1, reduceIte]; rfl) | rfl), rfl⟩
  · skip
    by_cases c2 : fi = 4
    · refine jm_tabEq (tgt := 32) (off := 31) X d_C_lowest_1 c2 (by decide) (by decide) (by decide) (by decide) ?_
      refine jm_iconst (v := 1) X d_C_lowest_32 (by decide) ?_
      exact jm_iret X hr hk d_C_lowest_33 ⟨(by show Outcome.returned _ = Outcome.returned _; unfold f_C_lowest; first | (simp only [if_neg c1, if_pos c2, reduceIte]; done) | (simp only [if_neg c1, if_pos c2, reduceIte]; rfl) | rfl), rfl⟩
    · skip
      by_cases c3 : fi = 5
      · refine jm_tabEq (tgt := 32) (off := 31) X d_C_lowest_1 c3 (by decide) (by decide) (by decide) (by decide) ?_
        refine jm_iconst (v := 1) X d_C_lowest_32 (by decide) ?_
        exact jm_iret X hr hk d_C_lowest_33 ⟨(by show Outcome.returned _ = Outcome.returned _; unfold f_C_lowest; first | (simp only [if_neg c1, if_neg c2, if_pos c3, reduceIte]; done) | (simp only [if_neg c1, if_neg c2, if_pos c3, reduceIte]; rfl) | rfl), rfl⟩
      · skip
        by_cases c4 : fi = 6
        · refine jm_tabEq (tgt := 34) (off := 33) X d_C_lowest_1 c4 (by decide) (by decide) (by decide) (by decide) ?_
          refine jm_sipush (v := 1970) X d_C_lowest_34 (by decide) ?_
          exact jm_iret X hr hk d_C_lowest_37 ⟨(by show Outcome.returned _ = Outcome.returned _; unfold f_C_lowest; first | (simp only [if_neg c1, if_neg c2, if_neg c3, if_pos c4, reduceIte]; done) | (simp only [if_neg c1, if_neg c2, if_neg c3, if_pos c4, reduceIte]; rfl) | rfl), rfl⟩
        · skip
          refine jm_tabOut (tgt := 38) X d_C_lowest_1 (by have q0 := lv_neT c1 (a := 3) rfl; have q1 := lv_neT c2 (a := 4) rfl; have q2 := lv_neT c3 (a := 5) rfl; have q3 := lv_neT c4 (a := 6) rfl; omega) (by decide) ?_
          refine jm_iconst (v := 0) X d_C_lowest_38 (by decide) ?_
          exact jm_iret X hr hk d_C_lowest_39 ⟨(by show Outcome.returned _ = Outcome.returned _; unfold f_C_lowest; first | (simp only [if_neg c1, if_neg c2, if_neg c3, if_neg c4, reduceIte]; done) | (simp only [if_neg c1, if_neg c2, if_neg c3, if_neg c4, reduceIte]; rfl) | rfl), rfl⟩
def f_C_highest (fi : Int32) : Int32 :=
  if fi = 2 then 23 else (if fi = 3 then 31 else (if fi = 4 then 12 else (if fi = 5 then 7 else (if fi = 6 then 2299 else 59))))
set_option maxRecDepth 20000 in
set_option maxHeartbeats 4000000 in
theorem k_C_highest {l : Launch} {S : State} {D : va_G} {dA : Nat → ClassId} (E : jm_en S D jm_cl (jm_ty dA) jm_G) (fi : Int32) (h : jm_H)    : jm_M l S D jm_cl y_C_highest (Cond.code y_C_highest b_C_highest 1 (some FieldType.int)) { frames := 0, cells := 0, slots := 0, locals := 0 } [.int fi] h (jm_R (some (.int (f_C_highest fi))) h) 0 0 := by
  refine jm_ofW E (by decide) (Nat.le_of_ble_eq_true rfl) (fun p e s m below meth c X hr hk hmn hout hadm => ?_)
  have X : jm_cx p s m ([.int fi] : List Value).toArray c S D jm_cl (jm_ty dA) jm_G b_C_highest 1 "JobHouse$Cron" := X
  show jm_W p l e ({ frames := 0, cells := 0, slots := 0, locals := 0 }) s m ([.int fi] : List Value).toArray below meth c S D jm_cl (jm_Q S D jm_cl below s (jm_R (some (.int (f_C_highest fi))) h) 0 0) 1 0 [(0, .int fi)] [] (h) 0 0
  refine jm_iload_n X d_C_highest_0 rfl 0 rfl ?_
  by_cases c1 : fi = 2
  · refine jm_tabEq (tgt := 36) (off := 35) X d_C_highest_1 c1 (by decide) (by decide) (by decide) (by decide) ?_
    refine jm_bipush (v := 23) X d_C_highest_36 (by decide) ?_
    exact jm_iret X hr hk d_C_highest_38 ⟨(by show Outcome.returned _ = Outcome.returned _; unfold f_C_highest; first | (simp only [if_pos c1, reduceIte]; done) | (simp only [if_pos c1, reduceIte]; rfl) | rfl), rfl⟩
  · skip
    by_cases c2 : fi = 3
    · refine jm_tabEq (tgt := 39) (off := 38) X d_C_highest_1 c2 (by decide) (by decide) (by decide) (by decide) ?_
      refine jm_bipush (v := 31) X d_C_highest_39 (by decide) ?_
      exact jm_iret X hr hk d_C_highest_41 ⟨(by show Outcome.returned _ = Outcome.returned _; unfold f_C_highest; first | (simp only [if_neg c1, if_pos c2, reduceIte]; done) | (simp only [if_neg c1, if_pos c2, reduceIte]; rfl) | rfl), rfl⟩
    · skip
      by_cases c3 : fi = 4
      · refine jm_tabEq (tgt := 42) (off := 41) X d_C_highest_1 c3 (by decide) (by decide) (by decide) (by decide) ?_
        refine jm_bipush (v := 12) X d_C_highest_42 (by decide) ?_
        exact jm_iret X hr hk d_C_highest_44 ⟨(by show Outcome.returned _ = Outcome.returned _; unfold f_C_highest; first | (simp only [if_neg c1, if_neg c2, if_pos c3, reduceIte]; done) | (simp only [if_neg c1, if_neg c2, if_pos c3, reduceIte]; rfl) | rfl), rfl⟩
      · skip
        by_cases c4 : fi = 5
        · refine jm_tabEq (tgt := 45) (off := 44) X d_C_highest_1 c4 (by decide) (by decide) (by decide) (by decide) ?_
          refine jm_bipush (v := 7) X d_C_highest_45 (by decide) ?_
          exact jm_iret X hr hk d_C_highest_47 ⟨(by show Outcome.returned _ = Outcome.returned _; unfold f_C_highest; first | (simp only [if_neg c1, if_neg c2, if_neg c3, if_pos c4, reduceIte]; done) | (simp only [if_neg c1, if_neg c2, if_neg c3, if_pos c4, reduceIte]; rfl) | rfl), rfl⟩
        · skip
          by_cases c5 : fi = 6
          · refine jm_tabEq (tgt := 48) (off := 47) X d_C_highest_1 c5 (by decide) (by decide) (by decide) (by decide) ?_
            refine jm_sipush (v := 2299) X d_C_highest_48 (by decide) ?_
            exact jm_iret X hr hk d_C_highest_51 ⟨(by show Outcome.returned _ = Outcome.returned _; unfold f_C_highest; first | (simp only [if_neg c1, if_neg c2, if_neg c3, if_neg c4, if_pos c5, reduceIte]; done) | (simp only [if_neg c1, if_neg c2, if_neg c3, if_neg c4, if_pos c5, reduceIte]; rfl) | rfl), rfl⟩
          · skip
            refine jm_tabOut (tgt := 52) X d_C_highest_1 (by have q0 := lv_neT c1 (a := 2) rfl; have q1 := lv_neT c2 (a := 3) rfl; have q2 := lv_neT c3 (a := 4) rfl; have q3 := lv_neT c4 (a := 5) rfl; have q4 := lv_neT c5 (a := 6) rfl; omega) (by decide) ?_
            refine jm_bipush (v := 59) X d_C_highest_52 (by decide) ?_
            exact jm_iret X hr hk d_C_highest_54 ⟨(by show Outcome.returned _ = Outcome.returned _; unfold f_C_highest; first | (simp only [if_neg c1, if_neg c2, if_neg c3, if_neg c4, if_neg c5, reduceIte]; done) | (simp only [if_neg c1, if_neg c2, if_neg c3, if_neg c4, if_neg c5, reduceIte]; rfl) | rfl), rfl⟩
def f_C_bitsUpTo (hi : Int32) : Int64 :=
  ((1 : Int64) <<< ((hi + 1 : Int32).toInt64 &&& 63)) - 1
set_option maxRecDepth 20000 in
set_option maxHeartbeats 4000000 in
theorem k_C_bitsUpTo {l : Launch} {S : State} {D : va_G} {dA : Nat → ClassId} (E : jm_en S D jm_cl (jm_ty dA) jm_G) (hi : Int32) (h : jm_H)    : jm_M l S D jm_cl y_C_bitsUpTo (Cond.code y_C_bitsUpTo b_C_bitsUpTo 1 (some FieldType.long)) { frames := 0, cells := 0, slots := 0, locals := 0 } [.int hi] h (jm_R (some (.long (f_C_bitsUpTo hi))) h) 0 0 := by
  refine jm_ofW E (by decide) (Nat.le_of_ble_eq_true rfl) (fun p e s m below meth c X hr hk hmn hout hadm => ?_)
  have X : jm_cx p s m ([.int hi] : List Value).toArray c S D jm_cl (jm_ty dA) jm_G b_C_bitsUpTo 1 "JobHouse$Cron" := X
  show jm_W p l e ({ frames := 0, cells := 0, slots := 0, locals := 0 }) s m ([.int hi] : List Value).toArray below meth c S D jm_cl (jm_Q S D jm_cl below s (jm_R (some (.long (f_C_bitsUpTo hi))) h) 0 0) 1 0 [(0, .int hi)] [] (h) 0 0
  refine jm_lconst (v := 1) X d_C_bitsUpTo_0 (by decide) ?_
  refine jm_iload_n X d_C_bitsUpTo_1 rfl 0 rfl ?_
  refine jm_iconst (v := 1) X d_C_bitsUpTo_2 (by decide) ?_
  refine jm_iadd X d_C_bitsUpTo_3 ?_
  refine jm_lshl X d_C_bitsUpTo_4 ?_
  refine jm_lconst (v := 1) X d_C_bitsUpTo_5 (by decide) ?_
  refine jm_lsub X d_C_bitsUpTo_6 ?_
  exact jm_lret X hr hk d_C_bitsUpTo_7 ⟨(by show Outcome.returned _ = Outcome.returned _; unfold f_C_bitsUpTo; rfl), rfl⟩
def f_C_bitOf (da : Int32) (le : Int32) : Int64 :=
  let v17 : Int64 := if da < 1 then 0 else (if da ≤ le then ((1 : Int64) <<< ((da : Int32).toInt64 &&& 63)) else 0)
  v17
set_option maxRecDepth 20000 in
set_option maxHeartbeats 4000000 in
theorem k_C_bitOf {l : Launch} {S : State} {D : va_G} {dA : Nat → ClassId} (E : jm_en S D jm_cl (jm_ty dA) jm_G) (da : Int32) (le : Int32) (h : jm_H)    : jm_M l S D jm_cl y_C_bitOf (Cond.code y_C_bitOf b_C_bitOf 2 (some FieldType.long)) { frames := 0, cells := 0, slots := 0, locals := 0 } [.int da, .int le] h (jm_R (some (.long (f_C_bitOf da le))) h) 0 0 := by
  refine jm_ofW E (by decide) (Nat.le_of_ble_eq_true rfl) (fun p e s m below meth c X hr hk hmn hout hadm => ?_)
  have X : jm_cx p s m ([.int da, .int le] : List Value).toArray c S D jm_cl (jm_ty dA) jm_G b_C_bitOf 2 "JobHouse$Cron" := X
  show jm_W p l e ({ frames := 0, cells := 0, slots := 0, locals := 0 }) s m ([.int da, .int le] : List Value).toArray below meth c S D jm_cl (jm_Q S D jm_cl below s (jm_R (some (.long (f_C_bitOf da le))) h) 0 0) 2 0 [(0, .int da), (1, .int le)] [] (h) 0 0
  refine jm_iload_n X d_C_bitOf_0 rfl 0 rfl ?_
  refine jm_iconst (v := 1) X d_C_bitOf_1 (by decide) ?_
  have J17_2 : ∀ (v17 : Int64), v17 = (if da < 1 then 0 else (if da ≤ le then ((1 : Int64) <<< ((da : Int32).toInt64 &&& 63)) else 0) : Int64) → jm_W p l e ({ frames := 0, cells := 0, slots := 0, locals := 0 }) s m ([.int da, .int le] : List Value).toArray below meth c S D jm_cl (jm_Q S D jm_cl below s (jm_R (some (.long (f_C_bitOf da le))) h) 0 0) 2 17 [(0, .int da), (1, .int le)] [.long v17] (h) 0 0 := by
    intro v17 ev17
    exact jm_lret X hr hk d_C_bitOf_17 ⟨(by show Outcome.returned _ = Outcome.returned _; unfold f_C_bitOf; subst ev17; rfl), rfl⟩
  refine jm_icmp_lt (tgt := 10) X d_C_bitOf_2 (by decide) (fun c1 => ?_) (fun c1 => ?_)
  · refine jm_lconst (v := 0) X d_C_bitOf_10 (by decide) ?_
    refine jm_goto (tgt := 17) X d_C_bitOf_11 (by decide) ?_
    exact J17_2 _ (by first | (simp only [if_pos c1, reduceIte]; done) | (with_reducible rfl))
  · refine jm_iload_n X d_C_bitOf_5 rfl 0 rfl ?_
    refine jm_iload_n X d_C_bitOf_6 rfl 1 rfl ?_
    refine jm_icmp_le (tgt := 14) X d_C_bitOf_7 (by decide) (fun c3 => ?_) (fun c3 => ?_)
    · refine jm_lconst (v := 1) X d_C_bitOf_14 (by decide) ?_
      refine jm_iload_n X d_C_bitOf_15 rfl 0 rfl ?_
      refine jm_lshl X d_C_bitOf_16 ?_
      exact J17_2 _ (by first | (simp only [if_neg c1, if_pos c3, reduceIte]; done) | (with_reducible rfl))
    · refine jm_lconst (v := 0) X d_C_bitOf_10 (by decide) ?_
      refine jm_goto (tgt := 17) X d_C_bitOf_11 (by decide) ?_
      exact J17_2 _ (by first | (simp only [if_neg c1, if_neg c3, reduceIte]; done) | (with_reducible rfl))
def f_C_workdayNearest (da : Int32) (le : Int32) (fw : Int32) : Int64 :=
  let w10 : Int32 := (((fw + da) - 2) - ((fw + da) - 2) / 7 * 7) + 1
  let v61 : Int32 := if le ≤ da then (da - 2) else (da + 1)
  let v39 : Int32 := if da ≤ 1 then (da + 2) else (da - 1)
  if da ≤ le then (if w10 = 7 then ((1 : Int64) <<< ((v39 : Int32).toInt64 &&& 63)) else (if w10 = 1 then ((1 : Int64) <<< ((v61 : Int32).toInt64 &&& 63)) else ((1 : Int64) <<< ((da : Int32).toInt64 &&& 63)))) else 0
set_option maxRecDepth 20000 in
set_option maxHeartbeats 4000000 in
theorem k_C_workdayNearest {l : Launch} {S : State} {D : va_G} {dA : Nat → ClassId} (E : jm_en S D jm_cl (jm_ty dA) jm_G) (da : Int32) (le : Int32) (fw : Int32) (h : jm_H)    : jm_M l S D jm_cl y_C_workdayNearest (Cond.code y_C_workdayNearest b_C_workdayNearest 4 (some FieldType.long)) { frames := 0, cells := 0, slots := 0, locals := 0 } [.int da, .int le, .int fw] h (jm_R (some (.long (f_C_workdayNearest da le fw))) h) 0 0 := by
  refine jm_ofW E (by decide) (Nat.le_of_ble_eq_true rfl) (fun p e s m below meth c X hr hk hmn hout hadm => ?_)
  have X : jm_cx p s m ([.int da, .int le, .int fw] : List Value).toArray c S D jm_cl (jm_ty dA) jm_G b_C_workdayNearest 4 "JobHouse$Cron" := X
  show jm_W p l e ({ frames := 0, cells := 0, slots := 0, locals := 0 }) s m ([.int da, .int le, .int fw] : List Value).toArray below meth c S D jm_cl (jm_Q S D jm_cl below s (jm_R (some (.long (f_C_workdayNearest da le fw))) h) 0 0) 4 0 [(0, .int da), (1, .int le), (2, .int fw)] [] (h) 0 0
  refine jm_iload_n X d_C_workdayNearest_0 rfl 2 rfl ?_
  refine jm_iload_n X d_C_workdayNearest_1 rfl 0 rfl ?_
  refine jm_iadd X d_C_workdayNearest_2 ?_
  refine jm_iconst (v := 2) X d_C_workdayNearest_3 (by decide) ?_
  refine jm_isub X d_C_workdayNearest_4 ?_
  refine jm_bipush (v := 7) X d_C_workdayNearest_5 (by decide) ?_
  refine jm_irem X d_C_workdayNearest_7 (by decide +kernel) ?_
  refine jm_iconst (v := 1) X d_C_workdayNearest_8 (by decide) ?_
  refine jm_iadd X d_C_workdayNearest_9 ?_
  refine jm_topi (fun w10 ew10 => ?_)
  refine jm_istore_n X d_C_workdayNearest_10 rfl (by decide) (lv1 := [(3, .int w10), (0, .int da), (1, .int le), (2, .int fw)]) rfl ?_
  refine jm_iload_n X d_C_workdayNearest_11 rfl 1 rfl ?_
  refine jm_iload_n X d_C_workdayNearest_12 rfl 2 rfl ?_
  refine jm_icmp_le (tgt := 18) X d_C_workdayNearest_13 (by decide) (fun c1 => ?_) (fun c1 => ?_)
  · refine jm_iload_n X d_C_workdayNearest_18 rfl 0 rfl ?_
    refine jm_bipush (v := 7) X d_C_workdayNearest_19 (by decide) ?_
    refine jm_icmp_ne (tgt := 41) X d_C_workdayNearest_21 (by decide) (fun c2 => ?_) (fun c2 => ?_)
    · refine jm_iload_n X d_C_workdayNearest_41 rfl 0 rfl ?_
      refine jm_iconst (v := 1) X d_C_workdayNearest_42 (by decide) ?_
      refine jm_icmp_ne (tgt := 63) X d_C_workdayNearest_43 (by decide) (fun c3 => ?_) (fun c3 => ?_)
      · refine jm_lconst (v := 1) X d_C_workdayNearest_63 (by decide) ?_
        refine jm_iload_n X d_C_workdayNearest_64 rfl 1 rfl ?_
        refine jm_lshl X d_C_workdayNearest_65 ?_
        exact jm_lret X hr hk d_C_workdayNearest_66 ⟨(by show Outcome.returned _ = Outcome.returned _; unfold f_C_workdayNearest; subst ew10; first | (simp only [if_pos c1, if_neg c2, if_neg c3, reduceIte]; done) | (simp only [if_pos c1, if_neg c2, if_neg c3, reduceIte]; rfl) | rfl), rfl⟩
      · refine jm_lconst (v := 1) X d_C_workdayNearest_46 (by decide) ?_
        refine jm_iload_n X d_C_workdayNearest_47 rfl 1 rfl ?_
        refine jm_iload_n X d_C_workdayNearest_48 rfl 2 rfl ?_
        have J61_5 : ∀ (v61 : Int32), v61 = (if le ≤ da then (da - 2) else (da + 1) : Int32) → jm_W p l e ({ frames := 0, cells := 0, slots := 0, locals := 0 }) s m ([.int da, .int le, .int fw] : List Value).toArray below meth c S D jm_cl (jm_Q S D jm_cl below s (jm_R (some (.long (f_C_workdayNearest da le fw))) h) 0 0) 4 61 [(3, .int w10), (0, .int da), (1, .int le), (2, .int fw)] [.int v61, .long 1] (h) 0 0 := by
          intro v61 ev61
          refine jm_lshl X d_C_workdayNearest_61 ?_
          exact jm_lret X hr hk d_C_workdayNearest_62 ⟨(by show Outcome.returned _ = Outcome.returned _; unfold f_C_workdayNearest; subst ev61; subst ew10; first | (simp only [if_pos c1, if_neg c2, if_pos c3, reduceIte]; done) | (simp only [if_pos c1, if_neg c2, if_pos c3, reduceIte]; rfl) | rfl), rfl⟩
        refine jm_icmp_ge (tgt := 58) X d_C_workdayNearest_49 (by decide) (fun c4 => ?_) (fun c4 => ?_)
        · refine jm_iload_n X d_C_workdayNearest_58 rfl 1 rfl ?_
          refine jm_iconst (v := 2) X d_C_workdayNearest_59 (by decide) ?_
          refine jm_isub X d_C_workdayNearest_60 ?_
          exact J61_5 _ (by first | (simp only [if_pos c4, reduceIte]; done) | (with_reducible rfl))
        · refine jm_iload_n X d_C_workdayNearest_52 rfl 1 rfl ?_
          refine jm_iconst (v := 1) X d_C_workdayNearest_53 (by decide) ?_
          refine jm_iadd X d_C_workdayNearest_54 ?_
          refine jm_goto (tgt := 61) X d_C_workdayNearest_55 (by decide) ?_
          exact J61_5 _ (by first | (simp only [if_neg c4, reduceIte]; done) | (with_reducible rfl))
    · refine jm_lconst (v := 1) X d_C_workdayNearest_24 (by decide) ?_
      refine jm_iload_n X d_C_workdayNearest_25 rfl 1 rfl ?_
      refine jm_iconst (v := 1) X d_C_workdayNearest_26 (by decide) ?_
      have J39_7 : ∀ (v39 : Int32), v39 = (if da ≤ 1 then (da + 2) else (da - 1) : Int32) → jm_W p l e ({ frames := 0, cells := 0, slots := 0, locals := 0 }) s m ([.int da, .int le, .int fw] : List Value).toArray below meth c S D jm_cl (jm_Q S D jm_cl below s (jm_R (some (.long (f_C_workdayNearest da le fw))) h) 0 0) 4 39 [(3, .int w10), (0, .int da), (1, .int le), (2, .int fw)] [.int v39, .long 1] (h) 0 0 := by
        intro v39 ev39
        refine jm_lshl X d_C_workdayNearest_39 ?_
        exact jm_lret X hr hk d_C_workdayNearest_40 ⟨(by show Outcome.returned _ = Outcome.returned _; unfold f_C_workdayNearest; subst ev39; subst ew10; first | (simp only [if_pos c1, if_pos c2, reduceIte]; done) | (simp only [if_pos c1, if_pos c2, reduceIte]; rfl) | rfl), rfl⟩
      refine jm_icmp_le (tgt := 36) X d_C_workdayNearest_27 (by decide) (fun c6 => ?_) (fun c6 => ?_)
      · refine jm_iload_n X d_C_workdayNearest_36 rfl 1 rfl ?_
        refine jm_iconst (v := 2) X d_C_workdayNearest_37 (by decide) ?_
        refine jm_iadd X d_C_workdayNearest_38 ?_
        exact J39_7 _ (by first | (simp only [if_pos c6, reduceIte]; done) | (with_reducible rfl))
      · refine jm_iload_n X d_C_workdayNearest_30 rfl 1 rfl ?_
        refine jm_iconst (v := 1) X d_C_workdayNearest_31 (by decide) ?_
        refine jm_isub X d_C_workdayNearest_32 ?_
        refine jm_goto (tgt := 39) X d_C_workdayNearest_33 (by decide) ?_
        exact J39_7 _ (by first | (simp only [if_neg c6, reduceIte]; done) | (with_reducible rfl))
  · refine jm_lconst (v := 0) X d_C_workdayNearest_16 (by decide) ?_
    exact jm_lret X hr hk d_C_workdayNearest_17 ⟨(by show Outcome.returned _ = Outcome.returned _; unfold f_C_workdayNearest; subst ew10; first | (simp only [if_neg c1, reduceIte]; done) | (simp only [if_neg c1, reduceIte]; rfl) | rfl), rfl⟩
def f_C_lowestBit (se : Int64) (lo : Int32) : Int32 :=
  let w5 : Int64 := ((se : Int64) >>> ((lo : Int32).toInt64 &&& 63) : Int64) <<< ((lo : Int32).toInt64 &&& 63)
  let v25 : Int32 := if w5 = 0 then (-1) else (f_Long_bitCount ((w5 &&& (-w5)) - 1))
  v25
set_option maxRecDepth 20000 in
set_option maxHeartbeats 4000000 in
theorem k_C_lowestBit {l : Launch} {S : State} {D : va_G} {dA : Nat → ClassId} (E : jm_en S D jm_cl (jm_ty dA) jm_G) (se : Int64) (lo : Int32) (h : jm_H)    : jm_M l S D jm_cl y_C_lowestBit (Cond.code y_C_lowestBit b_C_lowestBit 5 (some FieldType.int)) { frames := 1, cells := 0, slots := 0, locals := 21 } [.long se, .int lo] h (jm_R (some (.int (f_C_lowestBit se lo))) h) 0 0 := by
  refine jm_ofW E (by decide) (Nat.le_of_ble_eq_true rfl) (fun p e s m below meth c X hr hk hmn hout hadm => ?_)
  have X : jm_cx p s m ([.long se, .int lo] : List Value).toArray c S D jm_cl (jm_ty dA) jm_G b_C_lowestBit 5 "JobHouse$Cron" := X
  show jm_W p l e ({ frames := 1, cells := 0, slots := 0, locals := 21 }) s m ([.long se, .int lo] : List Value).toArray below meth c S D jm_cl (jm_Q S D jm_cl below s (jm_R (some (.int (f_C_lowestBit se lo))) h) 0 0) 5 0 [(0, .long se), (2, .int lo)] [] (h) 0 0
  refine jm_lload_n X d_C_lowestBit_0 rfl 0 rfl ?_
  refine jm_iload_n X d_C_lowestBit_1 rfl 1 rfl ?_
  refine jm_lshr X d_C_lowestBit_2 ?_
  refine jm_iload_n X d_C_lowestBit_3 rfl 1 rfl ?_
  refine jm_lshl X d_C_lowestBit_4 ?_
  refine jm_topl (fun w5 ew5 => ?_)
  refine jm_lstore_n X d_C_lowestBit_5 rfl (by decide) (lv1 := [(3, .long w5), (0, .long se), (2, .int lo)]) rfl ?_
  refine jm_lload_n X d_C_lowestBit_6 rfl 0 rfl ?_
  refine jm_lconst (v := 0) X d_C_lowestBit_7 (by decide) ?_
  refine jm_lcmp X d_C_lowestBit_8 ?_
  have J25_2 : ∀ (v25 : Int32), v25 = (if w5 = 0 then (-1) else (f_Long_bitCount ((w5 &&& (-w5)) - 1)) : Int32) → jm_W p l e ({ frames := 1, cells := 0, slots := 0, locals := 21 }) s m ([.long se, .int lo] : List Value).toArray below meth c S D jm_cl (jm_Q S D jm_cl below s (jm_R (some (.int (f_C_lowestBit se lo))) h) 0 0) 5 25 [(3, .long w5), (0, .long se), (2, .int lo)] [.int v25] (h) 0 0 := by
    intro v25 ev25
    exact jm_iret X hr hk d_C_lowestBit_25 ⟨(by show Outcome.returned _ = Outcome.returned _; unfold f_C_lowestBit; subst ev25; subst ew5; rfl), rfl⟩
  refine jm_lif_ne (tgt := 16) X d_C_lowestBit_9 (by decide) (fun c1 => ?_) (fun c1 => ?_)
  · refine jm_lload_n X d_C_lowestBit_16 rfl 0 rfl ?_
    refine jm_lload_n X d_C_lowestBit_17 rfl 0 rfl ?_
    refine jm_lneg X d_C_lowestBit_18 ?_
    refine jm_land X d_C_lowestBit_19 ?_
    refine jm_lconst (v := 1) X d_C_lowestBit_20 (by decide) ?_
    refine jm_lsub X d_C_lowestBit_21 ?_
    refine jm_callS (rest := []) X d_C_lowestBit_22 (k_Long_bitCount E ((w5 &&& (-w5)) - 1) h  ) ci_Long_bitCount (Or.inl (jm_g4 57 rfl rfl)) st_Long_bitCount rfl (Nat.le_of_ble_eq_true rfl) ⟨(Nat.le_of_ble_eq_true rfl), (Nat.le_of_ble_eq_true rfl)⟩ ⟨rfl, rfl⟩ ⟨(Nat.le_of_ble_eq_true rfl), (Nat.le_of_ble_eq_true rfl)⟩ (jm_k1 ?_)
    exact J25_2 _ (by first | (simp only [if_neg c1, reduceIte]; done) | (with_reducible rfl))
  · refine jm_iconst (v := (-1)) X d_C_lowestBit_12 (by decide) ?_
    refine jm_goto (tgt := 25) X d_C_lowestBit_13 (by decide) ?_
    exact J25_2 _ (by first | (simp only [if_pos c1, reduceIte]; done) | (with_reducible rfl))
def f_C_highestBit (se : Int64) (hi : Int32) : Int32 :=
  let w18 : Int64 := (se &&& (f_C_bitsUpTo hi)) ||| ((se &&& (f_C_bitsUpTo hi) : Int64) >>> ((1 : Int32).toInt64 &&& 63))
  let w24 : Int64 := w18 ||| ((w18 : Int64) >>> ((2 : Int32).toInt64 &&& 63))
  let w30 : Int64 := w24 ||| ((w24 : Int64) >>> ((4 : Int32).toInt64 &&& 63))
  let w37 : Int64 := w30 ||| ((w30 : Int64) >>> ((8 : Int32).toInt64 &&& 63))
  let w44 : Int64 := w37 ||| ((w37 : Int64) >>> ((16 : Int32).toInt64 &&& 63))
  let w51 : Int64 := w44 ||| ((w44 : Int64) >>> ((32 : Int32).toInt64 &&& 63))
  if 0 ≤ hi then ((f_Long_bitCount w51) - 1) else (-1)
set_option maxRecDepth 20000 in
set_option maxHeartbeats 4000000 in
theorem k_C_highestBit {l : Launch} {S : State} {D : va_G} {dA : Nat → ClassId} (E : jm_en S D jm_cl (jm_ty dA) jm_G) (se : Int64) (hi : Int32) (h : jm_H)    : jm_M l S D jm_cl y_C_highestBit (Cond.code y_C_highestBit b_C_highestBit 5 (some FieldType.int)) { frames := 1, cells := 0, slots := 0, locals := 21 } [.long se, .int hi] h (jm_R (some (.int (f_C_highestBit se hi))) h) 0 0 := by
  refine jm_ofW E (by decide) (Nat.le_of_ble_eq_true rfl) (fun p e s m below meth c X hr hk hmn hout hadm => ?_)
  have X : jm_cx p s m ([.long se, .int hi] : List Value).toArray c S D jm_cl (jm_ty dA) jm_G b_C_highestBit 5 "JobHouse$Cron" := X
  show jm_W p l e ({ frames := 1, cells := 0, slots := 0, locals := 21 }) s m ([.long se, .int hi] : List Value).toArray below meth c S D jm_cl (jm_Q S D jm_cl below s (jm_R (some (.int (f_C_highestBit se hi))) h) 0 0) 5 0 [(0, .long se), (2, .int hi)] [] (h) 0 0
  refine jm_iload_n X d_C_highestBit_0 rfl 1 rfl ?_
  refine jm_if_ge (tgt := 6) X d_C_highestBit_1 (by decide) (fun c1 => ?_) (fun c1 => ?_)
  · refine jm_lload_n X d_C_highestBit_6 rfl 0 rfl ?_
    refine jm_iload_n X d_C_highestBit_7 rfl 1 rfl ?_
    refine jm_callS (rest := [.long se]) X d_C_highestBit_8 (k_C_bitsUpTo E hi h  ) ci_C_bitsUpTo (Or.inl (jm_g4 39 rfl rfl)) st_C_bitsUpTo rfl (Nat.le_of_ble_eq_true rfl) ⟨(Nat.le_of_ble_eq_true rfl), (Nat.le_of_ble_eq_true rfl)⟩ ⟨rfl, rfl⟩ ⟨(Nat.le_of_ble_eq_true rfl), (Nat.le_of_ble_eq_true rfl)⟩ (jm_k1 ?_)
    refine jm_land X d_C_highestBit_11 ?_
    refine jm_lstore_n X d_C_highestBit_12 rfl (by decide) (lv1 := [(3, .long (se &&& (f_C_bitsUpTo hi))), (0, .long se), (2, .int hi)]) rfl ?_
    refine jm_lload_n X d_C_highestBit_13 rfl 0 rfl ?_
    refine jm_lload_n X d_C_highestBit_14 rfl 0 rfl ?_
    refine jm_iconst (v := 1) X d_C_highestBit_15 (by decide) ?_
    refine jm_lshr X d_C_highestBit_16 ?_
    refine jm_lor X d_C_highestBit_17 ?_
    refine jm_topl (fun w18 ew18 => ?_)
    refine jm_lstore_n X d_C_highestBit_18 rfl (by decide) (lv1 := [(3, .long w18), (0, .long se), (2, .int hi)]) rfl ?_
    refine jm_lload_n X d_C_highestBit_19 rfl 0 rfl ?_
    refine jm_lload_n X d_C_highestBit_20 rfl 0 rfl ?_
    refine jm_iconst (v := 2) X d_C_highestBit_21 (by decide) ?_
    refine jm_lshr X d_C_highestBit_22 ?_
    refine jm_lor X d_C_highestBit_23 ?_
    refine jm_topl (fun w24 ew24 => ?_)
    refine jm_lstore_n X d_C_highestBit_24 rfl (by decide) (lv1 := [(3, .long w24), (0, .long se), (2, .int hi)]) rfl ?_
    refine jm_lload_n X d_C_highestBit_25 rfl 0 rfl ?_
    refine jm_lload_n X d_C_highestBit_26 rfl 0 rfl ?_
    refine jm_iconst (v := 4) X d_C_highestBit_27 (by decide) ?_
    refine jm_lshr X d_C_highestBit_28 ?_
    refine jm_lor X d_C_highestBit_29 ?_
    refine jm_topl (fun w30 ew30 => ?_)
    refine jm_lstore_n X d_C_highestBit_30 rfl (by decide) (lv1 := [(3, .long w30), (0, .long se), (2, .int hi)]) rfl ?_
    refine jm_lload_n X d_C_highestBit_31 rfl 0 rfl ?_
    refine jm_lload_n X d_C_highestBit_32 rfl 0 rfl ?_
    refine jm_bipush (v := 8) X d_C_highestBit_33 (by decide) ?_
    refine jm_lshr X d_C_highestBit_35 ?_
    refine jm_lor X d_C_highestBit_36 ?_
    refine jm_topl (fun w37 ew37 => ?_)
    refine jm_lstore_n X d_C_highestBit_37 rfl (by decide) (lv1 := [(3, .long w37), (0, .long se), (2, .int hi)]) rfl ?_
    refine jm_lload_n X d_C_highestBit_38 rfl 0 rfl ?_
    refine jm_lload_n X d_C_highestBit_39 rfl 0 rfl ?_
    refine jm_bipush (v := 16) X d_C_highestBit_40 (by decide) ?_
    refine jm_lshr X d_C_highestBit_42 ?_
    refine jm_lor X d_C_highestBit_43 ?_
    refine jm_topl (fun w44 ew44 => ?_)
    refine jm_lstore_n X d_C_highestBit_44 rfl (by decide) (lv1 := [(3, .long w44), (0, .long se), (2, .int hi)]) rfl ?_
    refine jm_lload_n X d_C_highestBit_45 rfl 0 rfl ?_
    refine jm_lload_n X d_C_highestBit_46 rfl 0 rfl ?_
    refine jm_bipush (v := 32) X d_C_highestBit_47 (by decide) ?_
    refine jm_lshr X d_C_highestBit_49 ?_
    refine jm_lor X d_C_highestBit_50 ?_
    refine jm_topl (fun w51 ew51 => ?_)
    refine jm_lstore_n X d_C_highestBit_51 rfl (by decide) (lv1 := [(3, .long w51), (0, .long se), (2, .int hi)]) rfl ?_
    refine jm_lload_n X d_C_highestBit_52 rfl 0 rfl ?_
    refine jm_callS (rest := []) X d_C_highestBit_53 (k_Long_bitCount E w51 h  ) ci_Long_bitCount (Or.inl (jm_g4 57 rfl rfl)) st_Long_bitCount rfl (Nat.le_of_ble_eq_true rfl) ⟨(Nat.le_of_ble_eq_true rfl), (Nat.le_of_ble_eq_true rfl)⟩ ⟨rfl, rfl⟩ ⟨(Nat.le_of_ble_eq_true rfl), (Nat.le_of_ble_eq_true rfl)⟩ (jm_k1 ?_)
    refine jm_iconst (v := 1) X d_C_highestBit_56 (by decide) ?_
    refine jm_isub X d_C_highestBit_57 ?_
    exact jm_iret X hr hk d_C_highestBit_58 ⟨(by show Outcome.returned _ = Outcome.returned _; unfold f_C_highestBit; subst ew51; subst ew44; subst ew37; subst ew30; subst ew24; subst ew18; first | (simp only [if_pos c1, reduceIte]; done) | (simp only [if_pos c1, reduceIte]; rfl) | rfl), rfl⟩
  · refine jm_iconst (v := (-1)) X d_C_highestBit_4 (by decide) ?_
    exact jm_iret X hr hk d_C_highestBit_5 ⟨(by show Outcome.returned _ = Outcome.returned _; unfold f_C_highestBit; first | (simp only [if_neg c1, reduceIte]; done) | (simp only [if_neg c1, reduceIte]; rfl) | rfl), rfl⟩
def f_C_weekdaysFrom (fw : Int32) (dr : Int32) (vl : Int32) (nn : Int32) (st : Nat → Int64) : Int64 :=
  let w20 : Int64 := ((st (5 : Int32).toNatClampNeg : Int64) >>> ((fw : Int32).toInt64 &&& 63)) ||| ((st (5 : Int32).toNatClampNeg : Int64) <<< ((7 - fw : Int32).toInt64 &&& 63))
  let w28 : Int64 := ((w20 : Int64) <<< ((1 : Int32).toInt64 &&& 63)) &&& 254
  (((w28 ||| ((w28 : Int64) <<< ((7 : Int32).toInt64 &&& 63))) ||| ((w28 : Int64) <<< ((14 : Int32).toInt64 &&& 63))) ||| ((w28 : Int64) <<< ((21 : Int32).toInt64 &&& 63))) ||| ((w28 : Int64) <<< ((28 : Int32).toInt64 &&& 63))
set_option maxRecDepth 20000 in
set_option maxHeartbeats 4000000 in
theorem k_C_weekdaysFrom {l : Launch} {S : State} {D : va_G} {dA : Nat → ClassId} (E : jm_en S D jm_cl (jm_ty dA) jm_G) (a : Nat) (fw : Int32) (sq : Nat) (dr : Int32) (vl : Int32) (nn : Int32) (st : Nat → Int64) (h : jm_H) (h_a : h a = some (.inr (4, [.ref sq, .int dr, .int vl, .int nn]))) (h_sq : h sq = some (.inl (dA 3, 12, .inr (.inl st)))) (hnd : ([a, sq] : List Nat).Nodup)  : jm_M l S D jm_cl y_C_weekdaysFrom (Cond.code y_C_weekdaysFrom b_C_weekdaysFrom 4 (some FieldType.long)) { frames := 0, cells := 0, slots := 0, locals := 0 } [.ref a, .int fw] h (jm_R (some (.long (f_C_weekdaysFrom fw dr vl nn st))) h) 0 0 := by
  refine jm_ofW E (by decide) (Nat.le_of_ble_eq_true rfl) (fun p e s m below meth c X hr hk hmn hout hadm => ?_)
  have X : jm_cx p s m ([.ref a, .int fw] : List Value).toArray c S D jm_cl (jm_ty dA) jm_G b_C_weekdaysFrom 4 "JobHouse$Cron" := X
  have hL : ∀ zz ∈ ([(a, .inr (4, [.ref sq, .int dr, .int vl, .int nn])), (sq, .inl (dA 3, 12, .inr (.inl st)))] : List (Nat × va_E)), h zz.1 = some zz.2 := List.forall_mem_cons.mpr ⟨h_a, List.forall_mem_cons.mpr ⟨h_sq, fun _ hz => absurd hz List.not_mem_nil⟩⟩
  refine jm_hq (jm_us_id hL).symm ?_
  show jm_W p l e ({ frames := 0, cells := 0, slots := 0, locals := 0 }) s m ([.ref a, .int fw] : List Value).toArray below meth c S D jm_cl (jm_Q S D jm_cl below s (jm_R (some (.long (f_C_weekdaysFrom fw dr vl nn st))) h) 0 0) 4 0 [(0, .ref a), (1, .int fw)] [] (jm_us h [(a, .inr (4, [.ref sq, .int dr, .int vl, .int nn])), (sq, .inl (dA 3, 12, .inr (.inl st)))]) 0 0
  refine jm_aload_n X d_C_weekdaysFrom_0 rfl 0 rfl ?_
  refine jm_get X d_C_weekdaysFrom_1 fs_C_11 (by refine jm_us_get ?_ 0 rfl; exact hnd) rfl ?_
  refine jm_iconst (v := 5) X d_C_weekdaysFrom_4 (by decide) ?_
  refine jm_lald (t0 := 3) X d_C_weekdaysFrom_5 rfl (by refine jm_us_get ?_ 1 rfl; exact hnd) (by unfold vp_in; decide) ?_
  refine jm_iload_n X d_C_weekdaysFrom_6 rfl 1 rfl ?_
  refine jm_lshr X d_C_weekdaysFrom_7 ?_
  refine jm_aload_n X d_C_weekdaysFrom_8 rfl 0 rfl ?_
  refine jm_get X d_C_weekdaysFrom_9 fs_C_11 (by refine jm_us_get ?_ 0 rfl; exact hnd) rfl ?_
  refine jm_iconst (v := 5) X d_C_weekdaysFrom_12 (by decide) ?_
  refine jm_lald (t0 := 3) X d_C_weekdaysFrom_13 rfl (by refine jm_us_get ?_ 1 rfl; exact hnd) (by unfold vp_in; decide) ?_
  refine jm_bipush (v := 7) X d_C_weekdaysFrom_14 (by decide) ?_
  refine jm_iload_n X d_C_weekdaysFrom_16 rfl 1 rfl ?_
  refine jm_isub X d_C_weekdaysFrom_17 ?_
  refine jm_lshl X d_C_weekdaysFrom_18 ?_
  refine jm_lor X d_C_weekdaysFrom_19 ?_
  refine jm_topl (fun w20 ew20 => ?_)
  refine jm_lstore_n X d_C_weekdaysFrom_20 rfl (by decide) (lv1 := [(2, .long w20), (0, .ref a), (1, .int fw)]) rfl ?_
  refine jm_lload_n X d_C_weekdaysFrom_21 rfl 0 rfl ?_
  refine jm_iconst (v := 1) X d_C_weekdaysFrom_22 (by decide) ?_
  refine jm_lshl X d_C_weekdaysFrom_23 ?_
  refine jm_ldc2 (v := 254) X d_C_weekdaysFrom_24 (jm_g4 46 rfl rfl) ?_
  refine jm_land X d_C_weekdaysFrom_27 ?_
  refine jm_topl (fun w28 ew28 => ?_)
  refine jm_lstore_n X d_C_weekdaysFrom_28 rfl (by decide) (lv1 := [(2, .long w28), (0, .ref a), (1, .int fw)]) rfl ?_
  refine jm_lload_n X d_C_weekdaysFrom_29 rfl 0 rfl ?_
  refine jm_lload_n X d_C_weekdaysFrom_30 rfl 0 rfl ?_
  refine jm_bipush (v := 7) X d_C_weekdaysFrom_31 (by decide) ?_
  refine jm_lshl X d_C_weekdaysFrom_33 ?_
  refine jm_lor X d_C_weekdaysFrom_34 ?_
  refine jm_lload_n X d_C_weekdaysFrom_35 rfl 0 rfl ?_
  refine jm_bipush (v := 14) X d_C_weekdaysFrom_36 (by decide) ?_
  refine jm_lshl X d_C_weekdaysFrom_38 ?_
  refine jm_lor X d_C_weekdaysFrom_39 ?_
  refine jm_lload_n X d_C_weekdaysFrom_40 rfl 0 rfl ?_
  refine jm_bipush (v := 21) X d_C_weekdaysFrom_41 (by decide) ?_
  refine jm_lshl X d_C_weekdaysFrom_43 ?_
  refine jm_lor X d_C_weekdaysFrom_44 ?_
  refine jm_lload_n X d_C_weekdaysFrom_45 rfl 0 rfl ?_
  refine jm_bipush (v := 28) X d_C_weekdaysFrom_46 (by decide) ?_
  refine jm_lshl X d_C_weekdaysFrom_48 ?_
  refine jm_lor X d_C_weekdaysFrom_49 ?_
  exact jm_lret X hr hk d_C_weekdaysFrom_50 ⟨(by show Outcome.returned _ = Outcome.returned _; unfold f_C_weekdaysFrom; subst ew28; subst ew20; rfl), (jm_us_id hL)⟩
def f_C_hasMonth (mo : Int32) (dr : Int32) (vl : Int32) (nn : Int32) (st : Nat → Int64) : Int32 :=
  let v20 : Int32 := if (((st (4 : Int32).toNatClampNeg : Int64) >>> ((mo : Int32).toInt64 &&& 63)) &&& 1) = 0 then 0 else 1
  v20
set_option maxRecDepth 20000 in
set_option maxHeartbeats 4000000 in
theorem k_C_hasMonth {l : Launch} {S : State} {D : va_G} {dA : Nat → ClassId} (E : jm_en S D jm_cl (jm_ty dA) jm_G) (a : Nat) (mo : Int32) (sq : Nat) (dr : Int32) (vl : Int32) (nn : Int32) (st : Nat → Int64) (h : jm_H) (h_a : h a = some (.inr (4, [.ref sq, .int dr, .int vl, .int nn]))) (h_sq : h sq = some (.inl (dA 3, 12, .inr (.inl st)))) (hnd : ([a, sq] : List Nat).Nodup)  : jm_M l S D jm_cl y_C_hasMonth (Cond.code y_C_hasMonth b_C_hasMonth 2 (some FieldType.boolean)) { frames := 0, cells := 0, slots := 0, locals := 0 } [.ref a, .int mo] h (jm_R (some (.int (f_C_hasMonth mo dr vl nn st))) h) 0 0 := by
  refine jm_ofW E (by decide) (Nat.le_of_ble_eq_true rfl) (fun p e s m below meth c X hr hk hmn hout hadm => ?_)
  have X : jm_cx p s m ([.ref a, .int mo] : List Value).toArray c S D jm_cl (jm_ty dA) jm_G b_C_hasMonth 2 "JobHouse$Cron" := X
  have hL : ∀ zz ∈ ([(a, .inr (4, [.ref sq, .int dr, .int vl, .int nn])), (sq, .inl (dA 3, 12, .inr (.inl st)))] : List (Nat × va_E)), h zz.1 = some zz.2 := List.forall_mem_cons.mpr ⟨h_a, List.forall_mem_cons.mpr ⟨h_sq, fun _ hz => absurd hz List.not_mem_nil⟩⟩
  refine jm_hq (jm_us_id hL).symm ?_
  show jm_W p l e ({ frames := 0, cells := 0, slots := 0, locals := 0 }) s m ([.ref a, .int mo] : List Value).toArray below meth c S D jm_cl (jm_Q S D jm_cl below s (jm_R (some (.int (f_C_hasMonth mo dr vl nn st))) h) 0 0) 2 0 [(0, .ref a), (1, .int mo)] [] (jm_us h [(a, .inr (4, [.ref sq, .int dr, .int vl, .int nn])), (sq, .inl (dA 3, 12, .inr (.inl st)))]) 0 0
  refine jm_aload_n X d_C_hasMonth_0 rfl 0 rfl ?_
  refine jm_get X d_C_hasMonth_1 fs_C_11 (by refine jm_us_get ?_ 0 rfl; exact hnd) rfl ?_
  refine jm_iconst (v := 4) X d_C_hasMonth_4 (by decide) ?_
  refine jm_lald (t0 := 3) X d_C_hasMonth_5 rfl (by refine jm_us_get ?_ 1 rfl; exact hnd) (by unfold vp_in; decide) ?_
  refine jm_iload_n X d_C_hasMonth_6 rfl 1 rfl ?_
  refine jm_lshr X d_C_hasMonth_7 ?_
  refine jm_lconst (v := 1) X d_C_hasMonth_8 (by decide) ?_
  refine jm_land X d_C_hasMonth_9 ?_
  refine jm_lconst (v := 0) X d_C_hasMonth_10 (by decide) ?_
  refine jm_lcmp X d_C_hasMonth_11 ?_
  have J20_2 : ∀ (v20 : Int32), v20 = (if (((st (4 : Int32).toNatClampNeg : Int64) >>> ((mo : Int32).toInt64 &&& 63)) &&& 1) = 0 then 0 else 1 : Int32) → jm_W p l e ({ frames := 0, cells := 0, slots := 0, locals := 0 }) s m ([.ref a, .int mo] : List Value).toArray below meth c S D jm_cl (jm_Q S D jm_cl below s (jm_R (some (.int (f_C_hasMonth mo dr vl nn st))) h) 0 0) 2 20 [(0, .ref a), (1, .int mo)] [.int v20] (jm_us h [(a, .inr (4, [.ref sq, .int dr, .int vl, .int nn])), (sq, .inl (dA 3, 12, .inr (.inl st)))]) 0 0 := by
    intro v20 ev20
    exact jm_zret X hr (by first | rfl | (subst ev20; (repeat' split) <;> rfl)) hk d_C_hasMonth_20 ⟨(by show Outcome.returned _ = Outcome.returned _; unfold f_C_hasMonth; subst ev20; rfl), (jm_us_id hL)⟩
  refine jm_lif_eq (tgt := 19) X d_C_hasMonth_12 (by decide) (fun c1 => ?_) (fun c1 => ?_)
  · refine jm_iconst (v := 0) X d_C_hasMonth_19 (by decide) ?_
    exact J20_2 _ (by first | (simp only [if_pos c1, reduceIte]; done) | (with_reducible rfl))
  · refine jm_iconst (v := 1) X d_C_hasMonth_15 (by decide) ?_
    refine jm_goto (tgt := 20) X d_C_hasMonth_16 (by decide) ?_
    exact J20_2 _ (by first | (simp only [if_neg c1, reduceIte]; done) | (with_reducible rfl))
def f_C_hasYear (ye : Int32) (dr : Int32) (vl : Int32) (nn : Int32) (st : Nat → Int64) : Int32 :=
  let v35 : Int32 := if (((st (6 + ((ye - 1970) / 64) : Int32).toNatClampNeg : Int64) >>> (((ye - 1970) - (ye - 1970) / 64 * 64 : Int32).toInt64 &&& 63)) &&& 1) = 0 then 0 else 1
  v35
set_option maxRecDepth 20000 in
set_option maxHeartbeats 4000000 in
theorem k_C_hasYear {l : Launch} {S : State} {D : va_G} {dA : Nat → ClassId} (E : jm_en S D jm_cl (jm_ty dA) jm_G) (a : Nat) (ye : Int32) (sq : Nat) (dr : Int32) (vl : Int32) (nn : Int32) (st : Nat → Int64) (h : jm_H) (h_a : h a = some (.inr (4, [.ref sq, .int dr, .int vl, .int nn]))) (h_sq : h sq = some (.inl (dA 3, 12, .inr (.inl st)))) (hnd : ([a, sq] : List Nat).Nodup) (p1 : vp_in (6 + (ye - 1970) / 64) 12) : jm_M l S D jm_cl y_C_hasYear (Cond.code y_C_hasYear b_C_hasYear 3 (some FieldType.boolean)) { frames := 0, cells := 0, slots := 0, locals := 0 } [.ref a, .int ye] h (jm_R (some (.int (f_C_hasYear ye dr vl nn st))) h) 0 0 := by
  refine jm_ofW E (by decide) (Nat.le_of_ble_eq_true rfl) (fun p e s m below meth c X hr hk hmn hout hadm => ?_)
  have X : jm_cx p s m ([.ref a, .int ye] : List Value).toArray c S D jm_cl (jm_ty dA) jm_G b_C_hasYear 3 "JobHouse$Cron" := X
  have hL : ∀ zz ∈ ([(a, .inr (4, [.ref sq, .int dr, .int vl, .int nn])), (sq, .inl (dA 3, 12, .inr (.inl st)))] : List (Nat × va_E)), h zz.1 = some zz.2 := List.forall_mem_cons.mpr ⟨h_a, List.forall_mem_cons.mpr ⟨h_sq, fun _ hz => absurd hz List.not_mem_nil⟩⟩
  refine jm_hq (jm_us_id hL).symm ?_
  show jm_W p l e ({ frames := 0, cells := 0, slots := 0, locals := 0 }) s m ([.ref a, .int ye] : List Value).toArray below meth c S D jm_cl (jm_Q S D jm_cl below s (jm_R (some (.int (f_C_hasYear ye dr vl nn st))) h) 0 0) 3 0 [(0, .ref a), (1, .int ye)] [] (jm_us h [(a, .inr (4, [.ref sq, .int dr, .int vl, .int nn])), (sq, .inl (dA 3, 12, .inr (.inl st)))]) 0 0
  refine jm_iload_n X d_C_hasYear_0 rfl 1 rfl ?_
  refine jm_sipush (v := 1970) X d_C_hasYear_1 (by decide) ?_
  refine jm_isub X d_C_hasYear_4 ?_
  refine jm_istore_n X d_C_hasYear_5 rfl (by decide) (lv1 := [(2, .int (ye - 1970)), (0, .ref a), (1, .int ye)]) rfl ?_
  refine jm_aload_n X d_C_hasYear_6 rfl 1 rfl ?_
  refine jm_get X d_C_hasYear_7 fs_C_11 (by refine jm_us_get ?_ 0 rfl; exact hnd) rfl ?_
  refine jm_bipush (v := 6) X d_C_hasYear_10 (by decide) ?_
  refine jm_iload_n X d_C_hasYear_12 rfl 0 rfl ?_
  refine jm_bipush (v := 64) X d_C_hasYear_13 (by decide) ?_
  refine jm_idiv X d_C_hasYear_15 (by decide +kernel) ?_
  refine jm_iadd X d_C_hasYear_16 ?_
  refine jm_lald (t0 := 3) X d_C_hasYear_17 rfl (by refine jm_us_get ?_ 1 rfl; exact hnd) (by with_reducible assumption) ?_
  refine jm_iload_n X d_C_hasYear_18 rfl 0 rfl ?_
  refine jm_bipush (v := 64) X d_C_hasYear_19 (by decide) ?_
  refine jm_irem X d_C_hasYear_21 (by decide +kernel) ?_
  refine jm_lshr X d_C_hasYear_22 ?_
  refine jm_lconst (v := 1) X d_C_hasYear_23 (by decide) ?_
  refine jm_land X d_C_hasYear_24 ?_
  refine jm_lconst (v := 0) X d_C_hasYear_25 (by decide) ?_
  refine jm_lcmp X d_C_hasYear_26 ?_
  have J35_2 : ∀ (v35 : Int32), v35 = (if (((st (6 + ((ye - 1970) / 64) : Int32).toNatClampNeg : Int64) >>> (((ye - 1970) - (ye - 1970) / 64 * 64 : Int32).toInt64 &&& 63)) &&& 1) = 0 then 0 else 1 : Int32) → jm_W p l e ({ frames := 0, cells := 0, slots := 0, locals := 0 }) s m ([.ref a, .int ye] : List Value).toArray below meth c S D jm_cl (jm_Q S D jm_cl below s (jm_R (some (.int (f_C_hasYear ye dr vl nn st))) h) 0 0) 3 35 [(2, .int (ye - 1970)), (0, .ref a), (1, .int ye)] [.int v35] (jm_us h [(a, .inr (4, [.ref sq, .int dr, .int vl, .int nn])), (sq, .inl (dA 3, 12, .inr (.inl st)))]) 0 0 := by
    intro v35 ev35
    exact jm_zret X hr (by first | rfl | (subst ev35; (repeat' split) <;> rfl)) hk d_C_hasYear_35 ⟨(by show Outcome.returned _ = Outcome.returned _; unfold f_C_hasYear; subst ev35; rfl), (jm_us_id hL)⟩
  refine jm_lif_eq (tgt := 34) X d_C_hasYear_27 (by decide) (fun c1 => ?_) (fun c1 => ?_)
  · refine jm_iconst (v := 0) X d_C_hasYear_34 (by decide) ?_
    exact J35_2 _ (by first | (simp only [if_pos c1, reduceIte]; done) | (with_reducible rfl))
  · refine jm_iconst (v := 1) X d_C_hasYear_30 (by decide) ?_
    refine jm_goto (tgt := 35) X d_C_hasYear_31 (by decide) ?_
    exact J35_2 _ (by first | (simp only [if_neg c1, reduceIte]; done) | (with_reducible rfl))
def f_C_add_sq (fi : Int32) (nu : Int32) (dr : Int32) (vl : Int32) (nn : Int32) (st : Nat → Int64) : Nat → Int64 :=
  let v48 : Nat → Int64 := if fi = 6 then (vp_updL st (6 + ((nu - 1970) / 64) : Int32).toNatClampNeg ((st (6 + ((nu - 1970) / 64) : Int32).toNatClampNeg) ||| ((1 : Int64) <<< (((nu - 1970) - (nu - 1970) / 64 * 64 : Int32).toInt64 &&& 63)))) else (vp_updL st (fi : Int32).toNatClampNeg ((st (fi : Int32).toNatClampNeg) ||| ((1 : Int64) <<< ((nu : Int32).toInt64 &&& 63))))
  v48
set_option maxRecDepth 20000 in
set_option maxHeartbeats 4000000 in
theorem k_C_add {l : Launch} {S : State} {D : va_G} {dA : Nat → ClassId} (E : jm_en S D jm_cl (jm_ty dA) jm_G) (a : Nat) (fi : Int32) (nu : Int32) (sq : Nat) (dr : Int32) (vl : Int32) (nn : Int32) (st : Nat → Int64) (h : jm_H) (h_a : h a = some (.inr (4, [.ref sq, .int dr, .int vl, .int nn]))) (h_sq : h sq = some (.inl (dA 3, 12, .inr (.inl st)))) (hnd : ([a, sq] : List Nat).Nodup) (p1 : fi = 6 → vp_in (6 + (nu - 1970) / 64) 12) (p2 : ¬ fi = 6 → vp_in fi 12) : jm_M l S D jm_cl y_C_add (Cond.code y_C_add b_C_add 4 (none)) { frames := 0, cells := 0, slots := 0, locals := 0 } [.ref a, .int fi, .int nu] h (jm_R none (jm_us h [(a, .inr (4, [.ref sq, .int dr, .int vl, .int nn])), (sq, .inl (dA 3, 12, .inr (.inl (f_C_add_sq fi nu dr vl nn st))))])) 0 0 := by
  refine jm_ofW E (by decide) (Nat.le_of_ble_eq_true rfl) (fun p e s m below meth c X hr hk hmn hout hadm => ?_)
  have X : jm_cx p s m ([.ref a, .int fi, .int nu] : List Value).toArray c S D jm_cl (jm_ty dA) jm_G b_C_add 4 "JobHouse$Cron" := X
  have hL : ∀ zz ∈ ([(a, .inr (4, [.ref sq, .int dr, .int vl, .int nn])), (sq, .inl (dA 3, 12, .inr (.inl st)))] : List (Nat × va_E)), h zz.1 = some zz.2 := List.forall_mem_cons.mpr ⟨h_a, List.forall_mem_cons.mpr ⟨h_sq, fun _ hz => absurd hz List.not_mem_nil⟩⟩
  refine jm_hq (jm_us_id hL).symm ?_
  show jm_W p l e ({ frames := 0, cells := 0, slots := 0, locals := 0 }) s m ([.ref a, .int fi, .int nu] : List Value).toArray below meth c S D jm_cl (jm_Q S D jm_cl below s (jm_R none (jm_us h [(a, .inr (4, [.ref sq, .int dr, .int vl, .int nn])), (sq, .inl (dA 3, 12, .inr (.inl (f_C_add_sq fi nu dr vl nn st))))])) 0 0) 4 0 [(0, .ref a), (1, .int fi), (2, .int nu)] [] (jm_us h [(a, .inr (4, [.ref sq, .int dr, .int vl, .int nn])), (sq, .inl (dA 3, 12, .inr (.inl st)))]) 0 0
  refine jm_iload_n X d_C_add_0 rfl 1 rfl ?_
  refine jm_bipush (v := 6) X d_C_add_1 (by decide) ?_
  have J48_2 : ∀ (v48 : Nat → Int64), v48 = (if fi = 6 then (vp_updL st (6 + ((nu - 1970) / 64) : Int32).toNatClampNeg ((st (6 + ((nu - 1970) / 64) : Int32).toNatClampNeg) ||| ((1 : Int64) <<< (((nu - 1970) - (nu - 1970) / 64 * 64 : Int32).toInt64 &&& 63)))) else (vp_updL st (fi : Int32).toNatClampNeg ((st (fi : Int32).toNatClampNeg) ||| ((1 : Int64) <<< ((nu : Int32).toInt64 &&& 63)))) : Nat → Int64) → jm_W p l e ({ frames := 0, cells := 0, slots := 0, locals := 0 }) s m ([.ref a, .int fi, .int nu] : List Value).toArray below meth c S D jm_cl (jm_Q S D jm_cl below s (jm_R none (jm_us h [(a, .inr (4, [.ref sq, .int dr, .int vl, .int nn])), (sq, .inl (dA 3, 12, .inr (.inl (f_C_add_sq fi nu dr vl nn st))))])) 0 0) 4 48 [(0, .ref a), (1, .int fi), (2, .int nu)] [] (jm_us h [(a, .inr (4, [.ref sq, .int dr, .int vl, .int nn])), (sq, .inl (dA 3, 12, .inr (.inl v48)))]) 0 0 := by
    intro v48 ev48
    exact jm_vret X hr hk d_C_add_48 ⟨rfl, (by show jm_us h _ = jm_us h _; unfold f_C_add_sq; subst ev48; rfl)⟩
  refine jm_icmp_ne (tgt := 36) X d_C_add_3 (by decide) (fun c1 => ?_) (fun c1 => ?_)
  · refine jm_aload_n X d_C_add_36 rfl 0 rfl ?_
    refine jm_get X d_C_add_37 fs_C_11 (by refine jm_us_get ?_ 0 rfl; exact hnd) rfl ?_
    refine jm_iload_n X d_C_add_40 rfl 1 rfl ?_
    refine jm_dup2_11 X d_C_add_41 rfl rfl ?_
    refine jm_lald (t0 := 3) X d_C_add_42 rfl (by refine jm_us_get ?_ 1 rfl; exact hnd) (p2 c1) ?_
    refine jm_lconst (v := 1) X d_C_add_43 (by decide) ?_
    refine jm_iload_n X d_C_add_44 rfl 2 rfl ?_
    refine jm_lshl X d_C_add_45 ?_
    refine jm_lor X d_C_add_46 ?_
    refine jm_last (t0 := 3) X d_C_add_47 rfl (by refine jm_us_get ?_ 1 rfl; exact hnd) (p2 c1) (jm_hq (by refine jm_us_set ?_ 1 (L1 := [(a, .inr (4, [.ref sq, .int dr, .int vl, .int nn])), (sq, .inl (dA 3, 12, .inr (.inl (vp_updL st (fi : Int32).toNatClampNeg ((st (fi : Int32).toNatClampNeg) ||| ((1 : Int64) <<< ((nu : Int32).toInt64 &&& 63)))))))]) rfl rfl; exact hnd) ?_)
    refine jm_lvs [0, 1, 2] (lv1 := [(0, .ref a), (1, .int fi), (2, .int nu)]) rfl ?_
    exact J48_2 _ (by first | (simp only [if_neg c1, reduceIte]; done) | (with_reducible rfl))
  · refine jm_iload_n X d_C_add_6 rfl 2 rfl ?_
    refine jm_sipush (v := 1970) X d_C_add_7 (by decide) ?_
    refine jm_isub X d_C_add_10 ?_
    refine jm_istore_n X d_C_add_11 rfl (by decide) (lv1 := [(3, .int (nu - 1970)), (0, .ref a), (1, .int fi), (2, .int nu)]) rfl ?_
    refine jm_aload_n X d_C_add_12 rfl 1 rfl ?_
    refine jm_get X d_C_add_13 fs_C_11 (by refine jm_us_get ?_ 0 rfl; exact hnd) rfl ?_
    refine jm_bipush (v := 6) X d_C_add_16 (by decide) ?_
    refine jm_iload_n X d_C_add_18 rfl 0 rfl ?_
    refine jm_bipush (v := 64) X d_C_add_19 (by decide) ?_
    refine jm_idiv X d_C_add_21 (by decide +kernel) ?_
    refine jm_iadd X d_C_add_22 ?_
    refine jm_dup2_11 X d_C_add_23 rfl rfl ?_
    refine jm_lald (t0 := 3) X d_C_add_24 rfl (by refine jm_us_get ?_ 1 rfl; exact hnd) (p1 c1) ?_
    refine jm_lconst (v := 1) X d_C_add_25 (by decide) ?_
    refine jm_iload_n X d_C_add_26 rfl 0 rfl ?_
    refine jm_bipush (v := 64) X d_C_add_27 (by decide) ?_
    refine jm_irem X d_C_add_29 (by decide +kernel) ?_
    refine jm_lshl X d_C_add_30 ?_
    refine jm_lor X d_C_add_31 ?_
    refine jm_last (t0 := 3) X d_C_add_32 rfl (by refine jm_us_get ?_ 1 rfl; exact hnd) (p1 c1) (jm_hq (by refine jm_us_set ?_ 1 (L1 := [(a, .inr (4, [.ref sq, .int dr, .int vl, .int nn])), (sq, .inl (dA 3, 12, .inr (.inl (vp_updL st (6 + ((nu - 1970) / 64) : Int32).toNatClampNeg ((st (6 + ((nu - 1970) / 64) : Int32).toNatClampNeg) ||| ((1 : Int64) <<< (((nu - 1970) - (nu - 1970) / 64 * 64 : Int32).toInt64 &&& 63)))))))]) rfl rfl; exact hnd) ?_)
    refine jm_goto (tgt := 48) X d_C_add_33 (by decide) ?_
    refine jm_lvs [1, 2, 3] (lv1 := [(0, .ref a), (1, .int fi), (2, .int nu)]) rfl ?_
    exact J48_2 _ (by first | (simp only [if_pos c1, reduceIte]; done) | (with_reducible rfl))
def f_C_daysOf (le : Int32) (fw : Int32) (dr : Int32) (vl : Int32) (nn : Int32) (st : Nat → Int64) : Int64 :=
  let u141 : Int64 := f_C_bitOf ((1 + (f_Math_floorMod (vl - fw) 7)) + (7 * (nn - 1))) le
  let u125 : Int64 := f_C_bitOf ((1 + (f_Math_floorMod (vl - fw) 7)) + (((le - (1 + (f_Math_floorMod (vl - fw) 7))) / 7) * 7)) le
  if dr = 0 then ((st (3 : Int32).toNatClampNeg) &&& (f_C_bitsUpTo le)) else (if dr = 1 then ((f_C_weekdaysFrom fw dr vl nn st) &&& (f_C_bitsUpTo le)) else (if dr = 2 then (f_C_bitOf (le - nn) le) else (if dr = 3 then (f_C_workdayNearest le le fw) else (if dr = 4 then (f_C_workdayNearest vl le fw) else (if dr = 5 then u125 else u141)))))
set_option maxRecDepth 20000 in
set_option maxHeartbeats 4000000 in
theorem k_C_daysOf {l : Launch} {S : State} {D : va_G} {dA : Nat → ClassId} (E : jm_en S D jm_cl (jm_ty dA) jm_G) (a : Nat) (le : Int32) (fw : Int32) (sq : Nat) (dr : Int32) (vl : Int32) (nn : Int32) (st : Nat → Int64) (h : jm_H) (h_a : h a = some (.inr (4, [.ref sq, .int dr, .int vl, .int nn]))) (h_sq : h sq = some (.inl (dA 3, 12, .inr (.inl st)))) (hnd : ([a, sq] : List Nat).Nodup)  : jm_M l S D jm_cl y_C_daysOf (Cond.code y_C_daysOf b_C_daysOf 4 (some FieldType.long)) { frames := 1, cells := 0, slots := 0, locals := 23 } [.ref a, .int le, .int fw] h (jm_R (some (.long (f_C_daysOf le fw dr vl nn st))) h) 0 0 := by
  refine jm_ofW E (by decide) (Nat.le_of_ble_eq_true rfl) (fun p e s m below meth c X hr hk hmn hout hadm => ?_)
  have X : jm_cx p s m ([.ref a, .int le, .int fw] : List Value).toArray c S D jm_cl (jm_ty dA) jm_G b_C_daysOf 4 "JobHouse$Cron" := X
  have hL : ∀ zz ∈ ([(a, .inr (4, [.ref sq, .int dr, .int vl, .int nn])), (sq, .inl (dA 3, 12, .inr (.inl st)))] : List (Nat × va_E)), h zz.1 = some zz.2 := List.forall_mem_cons.mpr ⟨h_a, List.forall_mem_cons.mpr ⟨h_sq, fun _ hz => absurd hz List.not_mem_nil⟩⟩
  refine jm_hq (jm_us_id hL).symm ?_
  show jm_W p l e ({ frames := 1, cells := 0, slots := 0, locals := 23 }) s m ([.ref a, .int le, .int fw] : List Value).toArray below meth c S D jm_cl (jm_Q S D jm_cl below s (jm_R (some (.long (f_C_daysOf le fw dr vl nn st))) h) 0 0) 4 0 [(0, .ref a), (1, .int le), (2, .int fw)] [] (jm_us h [(a, .inr (4, [.ref sq, .int dr, .int vl, .int nn])), (sq, .inl (dA 3, 12, .inr (.inl st)))]) 0 0
  refine jm_aload_n X d_C_daysOf_0 rfl 0 rfl ?_
  refine jm_get X d_C_daysOf_1 fs_C_15 (by refine jm_us_get ?_ 0 rfl; exact hnd) rfl ?_
  by_cases c1 : dr = 0
  · refine jm_tabEq (tgt := 40) (off := 36) X d_C_daysOf_4 c1 (by decide) (by decide) (by decide) (by decide) ?_
    refine jm_aload_n X d_C_daysOf_40 rfl 0 rfl ?_
    refine jm_get X d_C_daysOf_41 fs_C_11 (by refine jm_us_get ?_ 0 rfl; exact hnd) rfl ?_
    refine jm_iconst (v := 3) X d_C_daysOf_44 (by decide) ?_
    refine jm_lald (t0 := 3) X d_C_daysOf_45 rfl (by refine jm_us_get ?_ 1 rfl; exact hnd) (by unfold vp_in; decide) ?_
    refine jm_iload_n X d_C_daysOf_46 rfl 1 rfl ?_
    refine jm_callS (rest := [.long (st (3 : Int32).toNatClampNeg)]) X d_C_daysOf_47 (k_C_bitsUpTo E le (jm_us h [(a, .inr (4, [.ref sq, .int dr, .int vl, .int nn])), (sq, .inl (dA 3, 12, .inr (.inl st)))])  ) ci_C_bitsUpTo (Or.inl (jm_g4 39 rfl rfl)) st_C_bitsUpTo rfl (Nat.le_of_ble_eq_true rfl) ⟨(Nat.le_of_ble_eq_true rfl), (Nat.le_of_ble_eq_true rfl)⟩ ⟨rfl, rfl⟩ ⟨(Nat.le_of_ble_eq_true rfl), (Nat.le_of_ble_eq_true rfl)⟩ (jm_k1 ?_)
    refine jm_land X d_C_daysOf_50 ?_
    exact jm_lret X hr hk d_C_daysOf_51 ⟨(by show Outcome.returned _ = Outcome.returned _; unfold f_C_daysOf; first | (simp only [if_pos c1, reduceIte]; done) | (simp only [if_pos c1, reduceIte]; rfl) | rfl), (jm_us_id hL)⟩
  · skip
    by_cases c2 : dr = 1
    · refine jm_tabEq (tgt := 52) (off := 48) X d_C_daysOf_4 c2 (by decide) (by decide) (by decide) (by decide) ?_
      refine jm_aload_n X d_C_daysOf_52 rfl 0 rfl ?_
      refine jm_iload_n X d_C_daysOf_53 rfl 2 rfl ?_
      refine jm_callV (rest := []) X d_C_daysOf_54 (k_C_weekdaysFrom E a fw sq dr vl nn st (jm_us h [(a, .inr (4, [.ref sq, .int dr, .int vl, .int nn])), (sq, .inl (dA 3, 12, .inr (.inl st)))]) (by refine jm_us_get ?_ 0 rfl; exact hnd) (by refine jm_us_get ?_ 1 rfl; exact hnd) (by exact jm_pick hnd [0, 1] (by decide) rfl) ) ci_C_weekdaysFrom (Or.inl (jm_g4 42 rfl rfl)) im_C_weekdaysFrom se_C_weekdaysFrom (by refine jm_us_get ?_ 0 rfl; exact hnd) rfl rfl (Nat.le_of_ble_eq_true rfl) ⟨(Nat.le_of_ble_eq_true rfl), (Nat.le_of_ble_eq_true rfl)⟩ ⟨rfl, rfl⟩ ⟨(Nat.le_of_ble_eq_true rfl), (Nat.le_of_ble_eq_true rfl)⟩ (jm_k1 ?_)
      refine jm_iload_n X d_C_daysOf_57 rfl 1 rfl ?_
      refine jm_callS (rest := [.long (f_C_weekdaysFrom fw dr vl nn st)]) X d_C_daysOf_58 (k_C_bitsUpTo E le (jm_us h [(a, .inr (4, [.ref sq, .int dr, .int vl, .int nn])), (sq, .inl (dA 3, 12, .inr (.inl st)))])  ) ci_C_bitsUpTo (Or.inl (jm_g4 39 rfl rfl)) st_C_bitsUpTo rfl (Nat.le_of_ble_eq_true rfl) ⟨(Nat.le_of_ble_eq_true rfl), (Nat.le_of_ble_eq_true rfl)⟩ ⟨rfl, rfl⟩ ⟨(Nat.le_of_ble_eq_true rfl), (Nat.le_of_ble_eq_true rfl)⟩ (jm_k1 ?_)
      refine jm_land X d_C_daysOf_61 ?_
      exact jm_lret X hr hk d_C_daysOf_62 ⟨(by show Outcome.returned _ = Outcome.returned _; unfold f_C_daysOf; first | (simp only [if_neg c1, if_pos c2, reduceIte]; done) | (simp only [if_neg c1, if_pos c2, reduceIte]; rfl) | rfl), (jm_us_id hL)⟩
    · skip
      by_cases c3 : dr = 2
      · refine jm_tabEq (tgt := 63) (off := 59) X d_C_daysOf_4 c3 (by decide) (by decide) (by decide) (by decide) ?_
        refine jm_iload_n X d_C_daysOf_63 rfl 1 rfl ?_
        refine jm_aload_n X d_C_daysOf_64 rfl 0 rfl ?_
        refine jm_get X d_C_daysOf_65 fs_C_26 (by refine jm_us_get ?_ 0 rfl; exact hnd) rfl ?_
        refine jm_isub X d_C_daysOf_68 ?_
        refine jm_iload_n X d_C_daysOf_69 rfl 1 rfl ?_
        refine jm_callS (rest := []) X d_C_daysOf_70 (k_C_bitOf E (le - nn) le (jm_us h [(a, .inr (4, [.ref sq, .int dr, .int vl, .int nn])), (sq, .inl (dA 3, 12, .inr (.inl st)))])  ) ci_C_bitOf (Or.inl (jm_g4 47 rfl rfl)) st_C_bitOf rfl (Nat.le_of_ble_eq_true rfl) ⟨(Nat.le_of_ble_eq_true rfl), (Nat.le_of_ble_eq_true rfl)⟩ ⟨rfl, rfl⟩ ⟨(Nat.le_of_ble_eq_true rfl), (Nat.le_of_ble_eq_true rfl)⟩ (jm_k1 ?_)
        exact jm_lret X hr hk d_C_daysOf_73 ⟨(by show Outcome.returned _ = Outcome.returned _; unfold f_C_daysOf; first | (simp only [if_neg c1, if_neg c2, if_pos c3, reduceIte]; done) | (simp only [if_neg c1, if_neg c2, if_pos c3, reduceIte]; rfl) | rfl), (jm_us_id hL)⟩
      · skip
        by_cases c4 : dr = 3
        · refine jm_tabEq (tgt := 74) (off := 70) X d_C_daysOf_4 c4 (by decide) (by decide) (by decide) (by decide) ?_
          refine jm_iload_n X d_C_daysOf_74 rfl 1 rfl ?_
          refine jm_iload_n X d_C_daysOf_75 rfl 1 rfl ?_
          refine jm_iload_n X d_C_daysOf_76 rfl 2 rfl ?_
          refine jm_callS (rest := []) X d_C_daysOf_77 (k_C_workdayNearest E le le fw (jm_us h [(a, .inr (4, [.ref sq, .int dr, .int vl, .int nn])), (sq, .inl (dA 3, 12, .inr (.inl st)))])  ) ci_C_workdayNearest (Or.inl (jm_g4 50 rfl rfl)) st_C_workdayNearest rfl (Nat.le_of_ble_eq_true rfl) ⟨(Nat.le_of_ble_eq_true rfl), (Nat.le_of_ble_eq_true rfl)⟩ ⟨rfl, rfl⟩ ⟨(Nat.le_of_ble_eq_true rfl), (Nat.le_of_ble_eq_true rfl)⟩ (jm_k1 ?_)
          exact jm_lret X hr hk d_C_daysOf_80 ⟨(by show Outcome.returned _ = Outcome.returned _; unfold f_C_daysOf; first | (simp only [if_neg c1, if_neg c2, if_neg c3, if_pos c4, reduceIte]; done) | (simp only [if_neg c1, if_neg c2, if_neg c3, if_pos c4, reduceIte]; rfl) | rfl), (jm_us_id hL)⟩
        · skip
          by_cases c5 : dr = 4
          · refine jm_tabEq (tgt := 81) (off := 77) X d_C_daysOf_4 c5 (by decide) (by decide) (by decide) (by decide) ?_
            refine jm_aload_n X d_C_daysOf_81 rfl 0 rfl ?_
            refine jm_get X d_C_daysOf_82 fs_C_37 (by refine jm_us_get ?_ 0 rfl; exact hnd) rfl ?_
            refine jm_iload_n X d_C_daysOf_85 rfl 1 rfl ?_
            refine jm_iload_n X d_C_daysOf_86 rfl 2 rfl ?_
            refine jm_callS (rest := []) X d_C_daysOf_87 (k_C_workdayNearest E vl le fw (jm_us h [(a, .inr (4, [.ref sq, .int dr, .int vl, .int nn])), (sq, .inl (dA 3, 12, .inr (.inl st)))])  ) ci_C_workdayNearest (Or.inl (jm_g4 50 rfl rfl)) st_C_workdayNearest rfl (Nat.le_of_ble_eq_true rfl) ⟨(Nat.le_of_ble_eq_true rfl), (Nat.le_of_ble_eq_true rfl)⟩ ⟨rfl, rfl⟩ ⟨(Nat.le_of_ble_eq_true rfl), (Nat.le_of_ble_eq_true rfl)⟩ (jm_k1 ?_)
            exact jm_lret X hr hk d_C_daysOf_90 ⟨(by show Outcome.returned _ = Outcome.returned _; unfold f_C_daysOf; first | (simp only [if_neg c1, if_neg c2, if_neg c3, if_neg c4, if_pos c5, reduceIte]; done) | (simp only [if_neg c1, if_neg c2, if_neg c3, if_neg c4, if_pos c5, reduceIte]; rfl) | rfl), (jm_us_id hL)⟩
          · skip
            refine jm_tabOut (tgt := 91) X d_C_daysOf_4 (by have q0 := lv_neT c1 (a := 0) rfl; have q1 := lv_neT c2 (a := 1) rfl; have q2 := lv_neT c3 (a := 2) rfl; have q3 := lv_neT c4 (a := 3) rfl; have q4 := lv_neT c5 (a := 4) rfl; omega) (by decide) ?_
            refine jm_iconst (v := 1) X d_C_daysOf_91 (by decide) ?_
            refine jm_aload_n X d_C_daysOf_92 rfl 0 rfl ?_
            refine jm_get X d_C_daysOf_93 fs_C_37 (by refine jm_us_get ?_ 0 rfl; exact hnd) rfl ?_
            refine jm_iload_n X d_C_daysOf_96 rfl 2 rfl ?_
            refine jm_isub X d_C_daysOf_97 ?_
            refine jm_bipush (v := 7) X d_C_daysOf_98 (by decide) ?_
            refine jm_callS (rest := [.int 1]) X d_C_daysOf_100 (k_Math_floorMod E (vl - fw) 7 (jm_us h [(a, .inr (4, [.ref sq, .int dr, .int vl, .int nn])), (sq, .inl (dA 3, 12, .inr (.inl st)))])  (by first | with_reducible assumption | decide +kernel)) ci_Math_floorMod (Or.inl (jm_g4 53 rfl rfl)) st_Math_floorMod rfl (Nat.le_of_ble_eq_true rfl) ⟨(Nat.le_of_ble_eq_true rfl), (Nat.le_of_ble_eq_true rfl)⟩ ⟨rfl, rfl⟩ ⟨(Nat.le_of_ble_eq_true rfl), (Nat.le_of_ble_eq_true rfl)⟩ (jm_k1 ?_)
            refine jm_iadd X d_C_daysOf_103 ?_
            refine jm_istore_n X d_C_daysOf_104 rfl (by decide) (lv1 := [(3, .int (1 + (f_Math_floorMod (vl - fw) 7))), (0, .ref a), (1, .int le), (2, .int fw)]) rfl ?_
            refine jm_aload_n X d_C_daysOf_105 rfl 1 rfl ?_
            refine jm_get X d_C_daysOf_106 fs_C_15 (by refine jm_us_get ?_ 0 rfl; exact hnd) rfl ?_
            refine jm_iconst (v := 5) X d_C_daysOf_109 (by decide) ?_
            refine jm_icmp_ne (tgt := 129) X d_C_daysOf_110 (by decide) (fun c6 => ?_) (fun c6 => ?_)
            · refine jm_iload_n X d_C_daysOf_129 rfl 0 rfl ?_
              refine jm_bipush (v := 7) X d_C_daysOf_130 (by decide) ?_
              refine jm_aload_n X d_C_daysOf_132 rfl 1 rfl ?_
              refine jm_get X d_C_daysOf_133 fs_C_26 (by refine jm_us_get ?_ 0 rfl; exact hnd) rfl ?_
              refine jm_iconst (v := 1) X d_C_daysOf_136 (by decide) ?_
              refine jm_isub X d_C_daysOf_137 ?_
              refine jm_imul X d_C_daysOf_138 ?_
              refine jm_iadd X d_C_daysOf_139 ?_
              refine jm_iload_n X d_C_daysOf_140 rfl 2 rfl ?_
              refine jm_callS (rest := []) X d_C_daysOf_141 (k_C_bitOf E ((1 + (f_Math_floorMod (vl - fw) 7)) + (7 * (nn - 1))) le (jm_us h [(a, .inr (4, [.ref sq, .int dr, .int vl, .int nn])), (sq, .inl (dA 3, 12, .inr (.inl st)))])  ) ci_C_bitOf (Or.inl (jm_g4 47 rfl rfl)) st_C_bitOf rfl (Nat.le_of_ble_eq_true rfl) ⟨(Nat.le_of_ble_eq_true rfl), (Nat.le_of_ble_eq_true rfl)⟩ ⟨rfl, rfl⟩ ⟨(Nat.le_of_ble_eq_true rfl), (Nat.le_of_ble_eq_true rfl)⟩ (jm_k1 ?_)
              obtain ⟨u141, eu141⟩ : ∃ z_ : Int64, z_ = (f_C_bitOf ((1 + (f_Math_floorMod (vl - fw) 7)) + (7 * (nn - 1))) le) := ⟨_, rfl⟩
              rw [← eu141]
              exact jm_lret X hr hk d_C_daysOf_144 ⟨(by show Outcome.returned _ = Outcome.returned _; unfold f_C_daysOf; subst eu141; first | (simp only [if_neg c1, if_neg c2, if_neg c3, if_neg c4, if_neg c5, if_neg c6, reduceIte]; done) | (simp only [if_neg c1, if_neg c2, if_neg c3, if_neg c4, if_neg c5, if_neg c6, reduceIte]; rfl) | rfl), (jm_us_id hL)⟩
            · refine jm_iload_n X d_C_daysOf_113 rfl 0 rfl ?_
              refine jm_iload_n X d_C_daysOf_114 rfl 2 rfl ?_
              refine jm_iload_n X d_C_daysOf_115 rfl 0 rfl ?_
              refine jm_isub X d_C_daysOf_116 ?_
              refine jm_bipush (v := 7) X d_C_daysOf_117 (by decide) ?_
              refine jm_idiv X d_C_daysOf_119 (by decide +kernel) ?_
              refine jm_bipush (v := 7) X d_C_daysOf_120 (by decide) ?_
              refine jm_imul X d_C_daysOf_122 ?_
              refine jm_iadd X d_C_daysOf_123 ?_
              refine jm_iload_n X d_C_daysOf_124 rfl 2 rfl ?_
              refine jm_callS (rest := []) X d_C_daysOf_125 (k_C_bitOf E ((1 + (f_Math_floorMod (vl - fw) 7)) + (((le - (1 + (f_Math_floorMod (vl - fw) 7))) / 7) * 7)) le (jm_us h [(a, .inr (4, [.ref sq, .int dr, .int vl, .int nn])), (sq, .inl (dA 3, 12, .inr (.inl st)))])  ) ci_C_bitOf (Or.inl (jm_g4 47 rfl rfl)) st_C_bitOf rfl (Nat.le_of_ble_eq_true rfl) ⟨(Nat.le_of_ble_eq_true rfl), (Nat.le_of_ble_eq_true rfl)⟩ ⟨rfl, rfl⟩ ⟨(Nat.le_of_ble_eq_true rfl), (Nat.le_of_ble_eq_true rfl)⟩ (jm_k1 ?_)
              obtain ⟨u125, eu125⟩ : ∃ z_ : Int64, z_ = (f_C_bitOf ((1 + (f_Math_floorMod (vl - fw) 7)) + (((le - (1 + (f_Math_floorMod (vl - fw) 7))) / 7) * 7)) le) := ⟨_, rfl⟩
              rw [← eu125]
              exact jm_lret X hr hk d_C_daysOf_128 ⟨(by show Outcome.returned _ = Outcome.returned _; unfold f_C_daysOf; subst eu125; first | (simp only [if_neg c1, if_neg c2, if_neg c3, if_neg c4, if_neg c5, if_pos c6, reduceIte]; done) | (simp only [if_neg c1, if_neg c2, if_neg c3, if_neg c4, if_neg c5, if_pos c6, reduceIte]; rfl) | rfl), (jm_us_id hL)⟩
def f_C_timeFrom (ti : Int32) (dr : Int32) (vl : Int32) (nn : Int32) (st : Nat → Int64) : Int32 :=
  let u11 : Int32 := f_C_lowestBit (st (2 : Int32).toNatClampNeg) (ti / 3600)
  let v41 : Int32 := if u11 = (ti / 3600) then ((ti / 60) - (ti / 60) / 60 * 60) else 0
  let u41 : Int32 := f_C_lowestBit (st (1 : Int32).toNatClampNeg) v41
  let v70 : Int32 := if u11 = (ti / 3600) then (if u41 = ((ti / 60) - (ti / 60) / 60 * 60) then 1 else 0) else 0
  let v91 : Int32 := if v70 = 0 then 0 else (ti - ti / 60 * 60)
  let u91 : Int32 := f_C_lowestBit (st (0 : Int32).toNatClampNeg) v91
  let v126 : Int32 := if 0 ≤ u91 then u41 else (f_C_lowestBit (st (1 : Int32).toNatClampNeg) (u41 + 1))
  let v126_1 : Int32 := if 0 ≤ u91 then u91 else (f_C_lowestBit (st (0 : Int32).toNatClampNeg) 0)
  let v158 : Int32 := if 0 ≤ v126 then u11 else (f_C_lowestBit (st (2 : Int32).toNatClampNeg) ((ti / 3600) + 1))
  let v158_1 : Int32 := if 0 ≤ v126 then v126 else (f_C_lowestBit (st (1 : Int32).toNatClampNeg) 0)
  let v179 : Int32 := if 0 ≤ v158 then (((v158 * 3600) + (v158_1 * 60)) + v126_1) else (-1)
  v179
set_option maxRecDepth 20000 in
set_option maxHeartbeats 4000000 in
theorem k_C_timeFrom {l : Launch} {S : State} {D : va_G} {dA : Nat → ClassId} (E : jm_en S D jm_cl (jm_ty dA) jm_G) (a : Nat) (ti : Int32) (sq : Nat) (dr : Int32) (vl : Int32) (nn : Int32) (st : Nat → Int64) (h : jm_H) (h_a : h a = some (.inr (4, [.ref sq, .int dr, .int vl, .int nn]))) (h_sq : h sq = some (.inl (dA 3, 12, .inr (.inl st)))) (hnd : ([a, sq] : List Nat).Nodup)  : jm_M l S D jm_cl y_C_timeFrom (Cond.code y_C_timeFrom b_C_timeFrom 6 (some FieldType.int)) { frames := 2, cells := 0, slots := 0, locals := 45 } [.ref a, .int ti] h (jm_R (some (.int (f_C_timeFrom ti dr vl nn st))) h) 0 0 := by
  refine jm_ofW E (by decide) (Nat.le_of_ble_eq_true rfl) (fun p e s m below meth c X hr hk hmn hout hadm => ?_)
  have X : jm_cx p s m ([.ref a, .int ti] : List Value).toArray c S D jm_cl (jm_ty dA) jm_G b_C_timeFrom 6 "JobHouse$Cron" := X
  have hL : ∀ zz ∈ ([(a, .inr (4, [.ref sq, .int dr, .int vl, .int nn])), (sq, .inl (dA 3, 12, .inr (.inl st)))] : List (Nat × va_E)), h zz.1 = some zz.2 := List.forall_mem_cons.mpr ⟨h_a, List.forall_mem_cons.mpr ⟨h_sq, fun _ hz => absurd hz List.not_mem_nil⟩⟩
  refine jm_hq (jm_us_id hL).symm ?_
  show jm_W p l e ({ frames := 2, cells := 0, slots := 0, locals := 45 }) s m ([.ref a, .int ti] : List Value).toArray below meth c S D jm_cl (jm_Q S D jm_cl below s (jm_R (some (.int (f_C_timeFrom ti dr vl nn st))) h) 0 0) 6 0 [(0, .ref a), (1, .int ti)] [] (jm_us h [(a, .inr (4, [.ref sq, .int dr, .int vl, .int nn])), (sq, .inl (dA 3, 12, .inr (.inl st)))]) 0 0
  refine jm_aload_n X d_C_timeFrom_0 rfl 0 rfl ?_
  refine jm_get X d_C_timeFrom_1 fs_C_11 (by refine jm_us_get ?_ 0 rfl; exact hnd) rfl ?_
  refine jm_iconst (v := 2) X d_C_timeFrom_4 (by decide) ?_
  refine jm_lald (t0 := 3) X d_C_timeFrom_5 rfl (by refine jm_us_get ?_ 1 rfl; exact hnd) (by unfold vp_in; decide) ?_
  refine jm_iload_n X d_C_timeFrom_6 rfl 1 rfl ?_
  refine jm_sipush (v := 3600) X d_C_timeFrom_7 (by decide) ?_
  refine jm_idiv X d_C_timeFrom_10 (by decide +kernel) ?_
  refine jm_callS (rest := []) X d_C_timeFrom_11 (k_C_lowestBit E (st (2 : Int32).toNatClampNeg) (ti / 3600) (jm_us h [(a, .inr (4, [.ref sq, .int dr, .int vl, .int nn])), (sq, .inl (dA 3, 12, .inr (.inl st)))])  ) ci_C_lowestBit (Or.inl (jm_g4 69 rfl rfl)) st_C_lowestBit rfl (Nat.le_of_ble_eq_true rfl) ⟨(Nat.le_of_ble_eq_true rfl), (Nat.le_of_ble_eq_true rfl)⟩ ⟨rfl, rfl⟩ ⟨(Nat.le_of_ble_eq_true rfl), (Nat.le_of_ble_eq_true rfl)⟩ (jm_k1 ?_)
  obtain ⟨u11, eu11⟩ : ∃ z_ : Int32, z_ = (f_C_lowestBit (st (2 : Int32).toNatClampNeg) (ti / 3600)) := ⟨_, rfl⟩
  rw [← eu11]
  refine jm_istore_n X d_C_timeFrom_14 rfl (by decide) (lv1 := [(2, .int u11), (0, .ref a), (1, .int ti)]) rfl ?_
  refine jm_aload_n X d_C_timeFrom_15 rfl 1 rfl ?_
  refine jm_get X d_C_timeFrom_16 fs_C_11 (by refine jm_us_get ?_ 0 rfl; exact hnd) rfl ?_
  refine jm_iconst (v := 1) X d_C_timeFrom_19 (by decide) ?_
  refine jm_lald (t0 := 3) X d_C_timeFrom_20 rfl (by refine jm_us_get ?_ 1 rfl; exact hnd) (by unfold vp_in; decide) ?_
  refine jm_iload_n X d_C_timeFrom_21 rfl 0 rfl ?_
  refine jm_iload_n X d_C_timeFrom_22 rfl 2 rfl ?_
  refine jm_sipush (v := 3600) X d_C_timeFrom_23 (by decide) ?_
  refine jm_idiv X d_C_timeFrom_26 (by decide +kernel) ?_
  have J41_2 : ∀ (v41 : Int32), v41 = (if u11 = (ti / 3600) then ((ti / 60) - (ti / 60) / 60 * 60) else 0 : Int32) → jm_W p l e ({ frames := 2, cells := 0, slots := 0, locals := 45 }) s m ([.ref a, .int ti] : List Value).toArray below meth c S D jm_cl (jm_Q S D jm_cl below s (jm_R (some (.int (f_C_timeFrom ti dr vl nn st))) h) 0 0) 6 41 [(2, .int u11), (0, .ref a), (1, .int ti)] [.int v41, .long (st (1 : Int32).toNatClampNeg)] (jm_us h [(a, .inr (4, [.ref sq, .int dr, .int vl, .int nn])), (sq, .inl (dA 3, 12, .inr (.inl st)))]) 0 0 := by
    intro v41 ev41
    refine jm_callS (rest := []) X d_C_timeFrom_41 (k_C_lowestBit E (st (1 : Int32).toNatClampNeg) v41 (jm_us h [(a, .inr (4, [.ref sq, .int dr, .int vl, .int nn])), (sq, .inl (dA 3, 12, .inr (.inl st)))])  ) ci_C_lowestBit (Or.inl (jm_g4 69 rfl rfl)) st_C_lowestBit rfl (Nat.le_of_ble_eq_true rfl) ⟨(Nat.le_of_ble_eq_true rfl), (Nat.le_of_ble_eq_true rfl)⟩ ⟨rfl, rfl⟩ ⟨(Nat.le_of_ble_eq_true rfl), (Nat.le_of_ble_eq_true rfl)⟩ (jm_k1 ?_)
    obtain ⟨u41, eu41⟩ : ∃ z_ : Int32, z_ = (f_C_lowestBit (st (1 : Int32).toNatClampNeg) v41) := ⟨_, rfl⟩
    rw [← eu41]
    refine jm_istore_n X d_C_timeFrom_44 rfl (by decide) (lv1 := [(3, .int u41), (2, .int u11), (0, .ref a), (1, .int ti)]) rfl ?_
    refine jm_iload_n X d_C_timeFrom_45 rfl 1 rfl ?_
    refine jm_iload_n X d_C_timeFrom_46 rfl 3 rfl ?_
    refine jm_sipush (v := 3600) X d_C_timeFrom_47 (by decide) ?_
    refine jm_idiv X d_C_timeFrom_50 (by decide +kernel) ?_
    have J70_4 : ∀ (v70 : Int32), v70 = (if u11 = (ti / 3600) then (if u41 = ((ti / 60) - (ti / 60) / 60 * 60) then 1 else 0) else 0 : Int32) → jm_W p l e ({ frames := 2, cells := 0, slots := 0, locals := 45 }) s m ([.ref a, .int ti] : List Value).toArray below meth c S D jm_cl (jm_Q S D jm_cl below s (jm_R (some (.int (f_C_timeFrom ti dr vl nn st))) h) 0 0) 6 70 [(3, .int u41), (2, .int u11), (0, .ref a), (1, .int ti)] [.int v70] (jm_us h [(a, .inr (4, [.ref sq, .int dr, .int vl, .int nn])), (sq, .inl (dA 3, 12, .inr (.inl st)))]) 0 0 := by
      intro v70 ev70
      refine jm_istore X d_C_timeFrom_70 (by decide) (lv1 := [(4, .int v70), (3, .int u41), (2, .int u11), (0, .ref a), (1, .int ti)]) rfl ?_
      refine jm_aload_n X d_C_timeFrom_72 rfl 3 rfl ?_
      refine jm_get X d_C_timeFrom_73 fs_C_11 (by refine jm_us_get ?_ 0 rfl; exact hnd) rfl ?_
      refine jm_iconst (v := 0) X d_C_timeFrom_76 (by decide) ?_
      refine jm_lald (t0 := 3) X d_C_timeFrom_77 rfl (by refine jm_us_get ?_ 1 rfl; exact hnd) (by unfold vp_in; decide) ?_
      refine jm_iload X d_C_timeFrom_78 0 rfl ?_
      have J91_6 : ∀ (v91 : Int32), v91 = (if v70 = 0 then 0 else (ti - ti / 60 * 60) : Int32) → jm_W p l e ({ frames := 2, cells := 0, slots := 0, locals := 45 }) s m ([.ref a, .int ti] : List Value).toArray below meth c S D jm_cl (jm_Q S D jm_cl below s (jm_R (some (.int (f_C_timeFrom ti dr vl nn st))) h) 0 0) 6 91 [(4, .int v70), (3, .int u41), (2, .int u11), (0, .ref a), (1, .int ti)] [.int v91, .long (st (0 : Int32).toNatClampNeg)] (jm_us h [(a, .inr (4, [.ref sq, .int dr, .int vl, .int nn])), (sq, .inl (dA 3, 12, .inr (.inl st)))]) 0 0 := by
        intro v91 ev91
        refine jm_callS (rest := []) X d_C_timeFrom_91 (k_C_lowestBit E (st (0 : Int32).toNatClampNeg) v91 (jm_us h [(a, .inr (4, [.ref sq, .int dr, .int vl, .int nn])), (sq, .inl (dA 3, 12, .inr (.inl st)))])  ) ci_C_lowestBit (Or.inl (jm_g4 69 rfl rfl)) st_C_lowestBit rfl (Nat.le_of_ble_eq_true rfl) ⟨(Nat.le_of_ble_eq_true rfl), (Nat.le_of_ble_eq_true rfl)⟩ ⟨rfl, rfl⟩ ⟨(Nat.le_of_ble_eq_true rfl), (Nat.le_of_ble_eq_true rfl)⟩ (jm_k1 ?_)
        obtain ⟨u91, eu91⟩ : ∃ z_ : Int32, z_ = (f_C_lowestBit (st (0 : Int32).toNatClampNeg) v91) := ⟨_, rfl⟩
        rw [← eu91]
        refine jm_istore X d_C_timeFrom_94 (by decide) (lv1 := [(5, .int u91), (4, .int v70), (3, .int u41), (2, .int u11), (0, .ref a), (1, .int ti)]) rfl ?_
        refine jm_iload X d_C_timeFrom_96 0 rfl ?_
        have J126_8 : ∀ (v126 : Int32) (v126_1 : Int32), v126 = (if 0 ≤ u91 then u41 else (f_C_lowestBit (st (1 : Int32).toNatClampNeg) (u41 + 1)) : Int32) → v126_1 = (if 0 ≤ u91 then u91 else (f_C_lowestBit (st (0 : Int32).toNatClampNeg) 0) : Int32) → jm_W p l e ({ frames := 2, cells := 0, slots := 0, locals := 45 }) s m ([.ref a, .int ti] : List Value).toArray below meth c S D jm_cl (jm_Q S D jm_cl below s (jm_R (some (.int (f_C_timeFrom ti dr vl nn st))) h) 0 0) 6 126 [(0, .ref a), (1, .int ti), (2, .int u11), (3, .int v126), (4, .int v70), (5, .int v126_1)] [] (jm_us h [(a, .inr (4, [.ref sq, .int dr, .int vl, .int nn])), (sq, .inl (dA 3, 12, .inr (.inl st)))]) 0 0 := by
          intro v126 v126_1 ev126 ev126_1
          refine jm_iload_n X d_C_timeFrom_126 rfl 3 rfl ?_
          have J158_10 : ∀ (v158 : Int32) (v158_1 : Int32), v158 = (if 0 ≤ v126 then u11 else (f_C_lowestBit (st (2 : Int32).toNatClampNeg) ((ti / 3600) + 1)) : Int32) → v158_1 = (if 0 ≤ v126 then v126 else (f_C_lowestBit (st (1 : Int32).toNatClampNeg) 0) : Int32) → jm_W p l e ({ frames := 2, cells := 0, slots := 0, locals := 45 }) s m ([.ref a, .int ti] : List Value).toArray below meth c S D jm_cl (jm_Q S D jm_cl below s (jm_R (some (.int (f_C_timeFrom ti dr vl nn st))) h) 0 0) 6 158 [(0, .ref a), (1, .int ti), (2, .int v158), (3, .int v158_1), (4, .int v70), (5, .int v126_1)] [] (jm_us h [(a, .inr (4, [.ref sq, .int dr, .int vl, .int nn])), (sq, .inl (dA 3, 12, .inr (.inl st)))]) 0 0 := by
            intro v158 v158_1 ev158 ev158_1
            refine jm_iload_n X d_C_timeFrom_158 rfl 2 rfl ?_
            have J179_12 : ∀ (v179 : Int32), v179 = (if 0 ≤ v158 then (((v158 * 3600) + (v158_1 * 60)) + v126_1) else (-1) : Int32) → jm_W p l e ({ frames := 2, cells := 0, slots := 0, locals := 45 }) s m ([.ref a, .int ti] : List Value).toArray below meth c S D jm_cl (jm_Q S D jm_cl below s (jm_R (some (.int (f_C_timeFrom ti dr vl nn st))) h) 0 0) 6 179 [(0, .ref a), (1, .int ti), (2, .int v158), (3, .int v158_1), (4, .int v70), (5, .int v126_1)] [.int v179] (jm_us h [(a, .inr (4, [.ref sq, .int dr, .int vl, .int nn])), (sq, .inl (dA 3, 12, .inr (.inl st)))]) 0 0 := by
              intro v179 ev179
              exact jm_iret X hr hk d_C_timeFrom_179 ⟨(by show Outcome.returned _ = Outcome.returned _; unfold f_C_timeFrom; subst ev179; subst ev158_1; subst ev158; subst ev126_1; subst ev126; subst eu91; subst ev91; subst ev70; subst eu41; subst ev41; subst eu11; rfl), (jm_us_id hL)⟩
            refine jm_if_ge (tgt := 166) X d_C_timeFrom_159 (by decide) (fun c11 => ?_) (fun c11 => ?_)
            · refine jm_iload_n X d_C_timeFrom_166 rfl 2 rfl ?_
              refine jm_sipush (v := 3600) X d_C_timeFrom_167 (by decide) ?_
              refine jm_imul X d_C_timeFrom_170 ?_
              refine jm_iload_n X d_C_timeFrom_171 rfl 3 rfl ?_
              refine jm_bipush (v := 60) X d_C_timeFrom_172 (by decide) ?_
              refine jm_imul X d_C_timeFrom_174 ?_
              refine jm_iadd X d_C_timeFrom_175 ?_
              refine jm_iload X d_C_timeFrom_176 5 rfl ?_
              refine jm_iadd X d_C_timeFrom_178 ?_
              exact J179_12 _ (by first | (simp only [if_pos c11, reduceIte]; done) | (with_reducible rfl))
            · refine jm_iconst (v := (-1)) X d_C_timeFrom_162 (by decide) ?_
              refine jm_goto (tgt := 179) X d_C_timeFrom_163 (by decide) ?_
              exact J179_12 _ (by first | (simp only [if_neg c11, reduceIte]; done) | (with_reducible rfl))
          refine jm_if_ge (tgt := 158) X d_C_timeFrom_127 (by decide) (fun c9 => ?_) (fun c9 => ?_)
          · refine jm_lvs [0, 1, 2, 3, 4, 5] (lv1 := [(0, .ref a), (1, .int ti), (2, .int u11), (3, .int v126), (4, .int v70), (5, .int v126_1)]) rfl ?_
            exact J158_10 _ _ (by first | (simp only [if_pos c9, reduceIte]; done) | (with_reducible rfl)) (by first | (simp only [if_pos c9, reduceIte]; done) | (with_reducible rfl))
          · refine jm_aload_n X d_C_timeFrom_130 rfl 0 rfl ?_
            refine jm_get X d_C_timeFrom_131 fs_C_11 (by refine jm_us_get ?_ 0 rfl; exact hnd) rfl ?_
            refine jm_iconst (v := 2) X d_C_timeFrom_134 (by decide) ?_
            refine jm_lald (t0 := 3) X d_C_timeFrom_135 rfl (by refine jm_us_get ?_ 1 rfl; exact hnd) (by unfold vp_in; decide) ?_
            refine jm_iload_n X d_C_timeFrom_136 rfl 1 rfl ?_
            refine jm_sipush (v := 3600) X d_C_timeFrom_137 (by decide) ?_
            refine jm_idiv X d_C_timeFrom_140 (by decide +kernel) ?_
            refine jm_iconst (v := 1) X d_C_timeFrom_141 (by decide) ?_
            refine jm_iadd X d_C_timeFrom_142 ?_
            refine jm_callS (rest := []) X d_C_timeFrom_143 (k_C_lowestBit E (st (2 : Int32).toNatClampNeg) ((ti / 3600) + 1) (jm_us h [(a, .inr (4, [.ref sq, .int dr, .int vl, .int nn])), (sq, .inl (dA 3, 12, .inr (.inl st)))])  ) ci_C_lowestBit (Or.inl (jm_g4 69 rfl rfl)) st_C_lowestBit rfl (Nat.le_of_ble_eq_true rfl) ⟨(Nat.le_of_ble_eq_true rfl), (Nat.le_of_ble_eq_true rfl)⟩ ⟨rfl, rfl⟩ ⟨(Nat.le_of_ble_eq_true rfl), (Nat.le_of_ble_eq_true rfl)⟩ (jm_k1 ?_)
            refine jm_istore_n X d_C_timeFrom_146 rfl (by decide) (lv1 := [(2, .int (f_C_lowestBit (st (2 : Int32).toNatClampNeg) ((ti / 3600) + 1))), (0, .ref a), (1, .int ti), (3, .int v126), (4, .int v70), (5, .int v126_1)]) rfl ?_
            refine jm_aload_n X d_C_timeFrom_147 rfl 1 rfl ?_
            refine jm_get X d_C_timeFrom_148 fs_C_11 (by refine jm_us_get ?_ 0 rfl; exact hnd) rfl ?_
            refine jm_iconst (v := 1) X d_C_timeFrom_151 (by decide) ?_
            refine jm_lald (t0 := 3) X d_C_timeFrom_152 rfl (by refine jm_us_get ?_ 1 rfl; exact hnd) (by unfold vp_in; decide) ?_
            refine jm_iconst (v := 0) X d_C_timeFrom_153 (by decide) ?_
            refine jm_callS (rest := []) X d_C_timeFrom_154 (k_C_lowestBit E (st (1 : Int32).toNatClampNeg) 0 (jm_us h [(a, .inr (4, [.ref sq, .int dr, .int vl, .int nn])), (sq, .inl (dA 3, 12, .inr (.inl st)))])  ) ci_C_lowestBit (Or.inl (jm_g4 69 rfl rfl)) st_C_lowestBit rfl (Nat.le_of_ble_eq_true rfl) ⟨(Nat.le_of_ble_eq_true rfl), (Nat.le_of_ble_eq_true rfl)⟩ ⟨rfl, rfl⟩ ⟨(Nat.le_of_ble_eq_true rfl), (Nat.le_of_ble_eq_true rfl)⟩ (jm_k1 ?_)
            refine jm_istore_n X d_C_timeFrom_157 rfl (by decide) (lv1 := [(3, .int (f_C_lowestBit (st (1 : Int32).toNatClampNeg) 0)), (2, .int (f_C_lowestBit (st (2 : Int32).toNatClampNeg) ((ti / 3600) + 1))), (0, .ref a), (1, .int ti), (4, .int v70), (5, .int v126_1)]) rfl ?_
            refine jm_lvs [2, 3, 1, 0, 4, 5] (lv1 := [(0, .ref a), (1, .int ti), (2, .int (f_C_lowestBit (st (2 : Int32).toNatClampNeg) ((ti / 3600) + 1))), (3, .int (f_C_lowestBit (st (1 : Int32).toNatClampNeg) 0)), (4, .int v70), (5, .int v126_1)]) rfl ?_
            exact J158_10 _ _ (by first | (simp only [if_neg c9, reduceIte]; done) | (with_reducible rfl)) (by first | (simp only [if_neg c9, reduceIte]; done) | (with_reducible rfl))
        refine jm_if_ge (tgt := 126) X d_C_timeFrom_98 (by decide) (fun c7 => ?_) (fun c7 => ?_)
        · refine jm_lvs [4, 5, 3, 2, 1, 0] (lv1 := [(0, .ref a), (1, .int ti), (2, .int u11), (3, .int u41), (4, .int v70), (5, .int u91)]) rfl ?_
          exact J126_8 _ _ (by first | (simp only [if_pos c7, reduceIte]; done) | (with_reducible rfl)) (by first | (simp only [if_pos c7, reduceIte]; done) | (with_reducible rfl))
        · refine jm_aload_n X d_C_timeFrom_101 rfl 4 rfl ?_
          refine jm_get X d_C_timeFrom_102 fs_C_11 (by refine jm_us_get ?_ 0 rfl; exact hnd) rfl ?_
          refine jm_iconst (v := 1) X d_C_timeFrom_105 (by decide) ?_
          refine jm_lald (t0 := 3) X d_C_timeFrom_106 rfl (by refine jm_us_get ?_ 1 rfl; exact hnd) (by unfold vp_in; decide) ?_
          refine jm_iload_n X d_C_timeFrom_107 rfl 2 rfl ?_
          refine jm_iconst (v := 1) X d_C_timeFrom_108 (by decide) ?_
          refine jm_iadd X d_C_timeFrom_109 ?_
          refine jm_callS (rest := []) X d_C_timeFrom_110 (k_C_lowestBit E (st (1 : Int32).toNatClampNeg) (u41 + 1) (jm_us h [(a, .inr (4, [.ref sq, .int dr, .int vl, .int nn])), (sq, .inl (dA 3, 12, .inr (.inl st)))])  ) ci_C_lowestBit (Or.inl (jm_g4 69 rfl rfl)) st_C_lowestBit rfl (Nat.le_of_ble_eq_true rfl) ⟨(Nat.le_of_ble_eq_true rfl), (Nat.le_of_ble_eq_true rfl)⟩ ⟨rfl, rfl⟩ ⟨(Nat.le_of_ble_eq_true rfl), (Nat.le_of_ble_eq_true rfl)⟩ (jm_k1 ?_)
          refine jm_istore_n X d_C_timeFrom_113 rfl (by decide) (lv1 := [(3, .int (f_C_lowestBit (st (1 : Int32).toNatClampNeg) (u41 + 1))), (5, .int u91), (4, .int v70), (2, .int u11), (0, .ref a), (1, .int ti)]) rfl ?_
          refine jm_aload_n X d_C_timeFrom_114 rfl 4 rfl ?_
          refine jm_get X d_C_timeFrom_115 fs_C_11 (by refine jm_us_get ?_ 0 rfl; exact hnd) rfl ?_
          refine jm_iconst (v := 0) X d_C_timeFrom_118 (by decide) ?_
          refine jm_lald (t0 := 3) X d_C_timeFrom_119 rfl (by refine jm_us_get ?_ 1 rfl; exact hnd) (by unfold vp_in; decide) ?_
          refine jm_iconst (v := 0) X d_C_timeFrom_120 (by decide) ?_
          refine jm_callS (rest := []) X d_C_timeFrom_121 (k_C_lowestBit E (st (0 : Int32).toNatClampNeg) 0 (jm_us h [(a, .inr (4, [.ref sq, .int dr, .int vl, .int nn])), (sq, .inl (dA 3, 12, .inr (.inl st)))])  ) ci_C_lowestBit (Or.inl (jm_g4 69 rfl rfl)) st_C_lowestBit rfl (Nat.le_of_ble_eq_true rfl) ⟨(Nat.le_of_ble_eq_true rfl), (Nat.le_of_ble_eq_true rfl)⟩ ⟨rfl, rfl⟩ ⟨(Nat.le_of_ble_eq_true rfl), (Nat.le_of_ble_eq_true rfl)⟩ (jm_k1 ?_)
          refine jm_istore X d_C_timeFrom_124 (by decide) (lv1 := [(5, .int (f_C_lowestBit (st (0 : Int32).toNatClampNeg) 0)), (3, .int (f_C_lowestBit (st (1 : Int32).toNatClampNeg) (u41 + 1))), (4, .int v70), (2, .int u11), (0, .ref a), (1, .int ti)]) rfl ?_
          refine jm_lvs [4, 5, 3, 1, 2, 0] (lv1 := [(0, .ref a), (1, .int ti), (2, .int u11), (3, .int (f_C_lowestBit (st (1 : Int32).toNatClampNeg) (u41 + 1))), (4, .int v70), (5, .int (f_C_lowestBit (st (0 : Int32).toNatClampNeg) 0))]) rfl ?_
          exact J126_8 _ _ (by first | (simp only [if_neg c7, reduceIte]; done) | (with_reducible rfl)) (by first | (simp only [if_neg c7, reduceIte]; done) | (with_reducible rfl))
      refine jm_if_eq (tgt := 90) X d_C_timeFrom_80 (by decide) (fun c5 => ?_) (fun c5 => ?_)
      · refine jm_iconst (v := 0) X d_C_timeFrom_90 (by decide) ?_
        exact J91_6 _ (by first | (simp only [if_pos c5, reduceIte]; done) | (with_reducible rfl))
      · refine jm_iload_n X d_C_timeFrom_83 rfl 4 rfl ?_
        refine jm_bipush (v := 60) X d_C_timeFrom_84 (by decide) ?_
        refine jm_irem X d_C_timeFrom_86 (by decide +kernel) ?_
        refine jm_goto (tgt := 91) X d_C_timeFrom_87 (by decide) ?_
        exact J91_6 _ (by first | (simp only [if_neg c5, reduceIte]; done) | (with_reducible rfl))
    refine jm_icmp_ne (tgt := 69) X d_C_timeFrom_51 (by decide) (fun c3 => ?_) (fun c3 => ?_)
    · refine jm_iconst (v := 0) X d_C_timeFrom_69 (by decide) ?_
      exact J70_4 _ (by first | (simp only [if_neg c3, reduceIte]; done) | (with_reducible rfl))
    · refine jm_iload_n X d_C_timeFrom_54 rfl 0 rfl ?_
      refine jm_iload_n X d_C_timeFrom_55 rfl 3 rfl ?_
      refine jm_bipush (v := 60) X d_C_timeFrom_56 (by decide) ?_
      refine jm_idiv X d_C_timeFrom_58 (by decide +kernel) ?_
      refine jm_bipush (v := 60) X d_C_timeFrom_59 (by decide) ?_
      refine jm_irem X d_C_timeFrom_61 (by decide +kernel) ?_
      refine jm_icmp_ne (tgt := 69) X d_C_timeFrom_62 (by decide) (fun c13 => ?_) (fun c13 => ?_)
      · refine jm_iconst (v := 0) X d_C_timeFrom_69 (by decide) ?_
        exact J70_4 _ (by first | (simp only [if_pos c3, if_neg c13, reduceIte]; done) | (with_reducible rfl))
      · refine jm_iconst (v := 1) X d_C_timeFrom_65 (by decide) ?_
        refine jm_goto (tgt := 70) X d_C_timeFrom_66 (by decide) ?_
        exact J70_4 _ (by first | (simp only [if_pos c3, if_pos c13, reduceIte]; done) | (with_reducible rfl))
  refine jm_icmp_ne (tgt := 40) X d_C_timeFrom_27 (by decide) (fun c1 => ?_) (fun c1 => ?_)
  · refine jm_iconst (v := 0) X d_C_timeFrom_40 (by decide) ?_
    exact J41_2 _ (by first | (simp only [if_neg c1, reduceIte]; done) | (with_reducible rfl))
  · refine jm_iload_n X d_C_timeFrom_30 rfl 2 rfl ?_
    refine jm_bipush (v := 60) X d_C_timeFrom_31 (by decide) ?_
    refine jm_idiv X d_C_timeFrom_33 (by decide +kernel) ?_
    refine jm_bipush (v := 60) X d_C_timeFrom_34 (by decide) ?_
    refine jm_irem X d_C_timeFrom_36 (by decide +kernel) ?_
    refine jm_goto (tgt := 41) X d_C_timeFrom_37 (by decide) ?_
    exact J41_2 _ (by first | (simp only [if_pos c1, reduceIte]; done) | (with_reducible rfl))
def f_C_timeUpTo (ti : Int32) (dr : Int32) (vl : Int32) (nn : Int32) (st : Nat → Int64) : Int32 :=
  let u11 : Int32 := f_C_highestBit (st (2 : Int32).toNatClampNeg) (ti / 3600)
  let v42 : Int32 := if u11 = (ti / 3600) then ((ti / 60) - (ti / 60) / 60 * 60) else 59
  let u42 : Int32 := f_C_highestBit (st (1 : Int32).toNatClampNeg) v42
  let v71 : Int32 := if u11 = (ti / 3600) then (if u42 = ((ti / 60) - (ti / 60) / 60 * 60) then 1 else 0) else 0
  let v93 : Int32 := if v71 = 0 then 59 else (ti - ti / 60 * 60)
  let u93 : Int32 := f_C_highestBit (st (0 : Int32).toNatClampNeg) v93
  let v129 : Int32 := if 0 ≤ u93 then u42 else (f_C_highestBit (st (1 : Int32).toNatClampNeg) (u42 - 1))
  let v129_1 : Int32 := if 0 ≤ u93 then u93 else (f_C_highestBit (st (0 : Int32).toNatClampNeg) 59)
  let v162 : Int32 := if 0 ≤ v129 then u11 else (f_C_highestBit (st (2 : Int32).toNatClampNeg) ((ti / 3600) - 1))
  let v162_1 : Int32 := if 0 ≤ v129 then v129 else (f_C_highestBit (st (1 : Int32).toNatClampNeg) 59)
  let v183 : Int32 := if 0 ≤ v162 then (((v162 * 3600) + (v162_1 * 60)) + v129_1) else (-1)
  v183
set_option maxRecDepth 20000 in
set_option maxHeartbeats 4000000 in
theorem k_C_timeUpTo {l : Launch} {S : State} {D : va_G} {dA : Nat → ClassId} (E : jm_en S D jm_cl (jm_ty dA) jm_G) (a : Nat) (ti : Int32) (sq : Nat) (dr : Int32) (vl : Int32) (nn : Int32) (st : Nat → Int64) (h : jm_H) (h_a : h a = some (.inr (4, [.ref sq, .int dr, .int vl, .int nn]))) (h_sq : h sq = some (.inl (dA 3, 12, .inr (.inl st)))) (hnd : ([a, sq] : List Nat).Nodup)  : jm_M l S D jm_cl y_C_timeUpTo (Cond.code y_C_timeUpTo b_C_timeUpTo 6 (some FieldType.int)) { frames := 2, cells := 0, slots := 0, locals := 45 } [.ref a, .int ti] h (jm_R (some (.int (f_C_timeUpTo ti dr vl nn st))) h) 0 0 := by
  refine jm_ofW E (by decide) (Nat.le_of_ble_eq_true rfl) (fun p e s m below meth c X hr hk hmn hout hadm => ?_)
  have X : jm_cx p s m ([.ref a, .int ti] : List Value).toArray c S D jm_cl (jm_ty dA) jm_G b_C_timeUpTo 6 "JobHouse$Cron" := X
  have hL : ∀ zz ∈ ([(a, .inr (4, [.ref sq, .int dr, .int vl, .int nn])), (sq, .inl (dA 3, 12, .inr (.inl st)))] : List (Nat × va_E)), h zz.1 = some zz.2 := List.forall_mem_cons.mpr ⟨h_a, List.forall_mem_cons.mpr ⟨h_sq, fun _ hz => absurd hz List.not_mem_nil⟩⟩
  refine jm_hq (jm_us_id hL).symm ?_
  show jm_W p l e ({ frames := 2, cells := 0, slots := 0, locals := 45 }) s m ([.ref a, .int ti] : List Value).toArray below meth c S D jm_cl (jm_Q S D jm_cl below s (jm_R (some (.int (f_C_timeUpTo ti dr vl nn st))) h) 0 0) 6 0 [(0, .ref a), (1, .int ti)] [] (jm_us h [(a, .inr (4, [.ref sq, .int dr, .int vl, .int nn])), (sq, .inl (dA 3, 12, .inr (.inl st)))]) 0 0
  refine jm_aload_n X d_C_timeUpTo_0 rfl 0 rfl ?_
  refine jm_get X d_C_timeUpTo_1 fs_C_11 (by refine jm_us_get ?_ 0 rfl; exact hnd) rfl ?_
  refine jm_iconst (v := 2) X d_C_timeUpTo_4 (by decide) ?_
  refine jm_lald (t0 := 3) X d_C_timeUpTo_5 rfl (by refine jm_us_get ?_ 1 rfl; exact hnd) (by unfold vp_in; decide) ?_
  refine jm_iload_n X d_C_timeUpTo_6 rfl 1 rfl ?_
  refine jm_sipush (v := 3600) X d_C_timeUpTo_7 (by decide) ?_
  refine jm_idiv X d_C_timeUpTo_10 (by decide +kernel) ?_
  refine jm_callS (rest := []) X d_C_timeUpTo_11 (k_C_highestBit E (st (2 : Int32).toNatClampNeg) (ti / 3600) (jm_us h [(a, .inr (4, [.ref sq, .int dr, .int vl, .int nn])), (sq, .inl (dA 3, 12, .inr (.inl st)))])  ) ci_C_highestBit (Or.inl (jm_g4 104 rfl rfl)) st_C_highestBit rfl (Nat.le_of_ble_eq_true rfl) ⟨(Nat.le_of_ble_eq_true rfl), (Nat.le_of_ble_eq_true rfl)⟩ ⟨rfl, rfl⟩ ⟨(Nat.le_of_ble_eq_true rfl), (Nat.le_of_ble_eq_true rfl)⟩ (jm_k1 ?_)
  obtain ⟨u11, eu11⟩ : ∃ z_ : Int32, z_ = (f_C_highestBit (st (2 : Int32).toNatClampNeg) (ti / 3600)) := ⟨_, rfl⟩
  rw [← eu11]
  refine jm_istore_n X d_C_timeUpTo_14 rfl (by decide) (lv1 := [(2, .int u11), (0, .ref a), (1, .int ti)]) rfl ?_
  refine jm_aload_n X d_C_timeUpTo_15 rfl 1 rfl ?_
  refine jm_get X d_C_timeUpTo_16 fs_C_11 (by refine jm_us_get ?_ 0 rfl; exact hnd) rfl ?_
  refine jm_iconst (v := 1) X d_C_timeUpTo_19 (by decide) ?_
  refine jm_lald (t0 := 3) X d_C_timeUpTo_20 rfl (by refine jm_us_get ?_ 1 rfl; exact hnd) (by unfold vp_in; decide) ?_
  refine jm_iload_n X d_C_timeUpTo_21 rfl 0 rfl ?_
  refine jm_iload_n X d_C_timeUpTo_22 rfl 2 rfl ?_
  refine jm_sipush (v := 3600) X d_C_timeUpTo_23 (by decide) ?_
  refine jm_idiv X d_C_timeUpTo_26 (by decide +kernel) ?_
  have J42_2 : ∀ (v42 : Int32), v42 = (if u11 = (ti / 3600) then ((ti / 60) - (ti / 60) / 60 * 60) else 59 : Int32) → jm_W p l e ({ frames := 2, cells := 0, slots := 0, locals := 45 }) s m ([.ref a, .int ti] : List Value).toArray below meth c S D jm_cl (jm_Q S D jm_cl below s (jm_R (some (.int (f_C_timeUpTo ti dr vl nn st))) h) 0 0) 6 42 [(2, .int u11), (0, .ref a), (1, .int ti)] [.int v42, .long (st (1 : Int32).toNatClampNeg)] (jm_us h [(a, .inr (4, [.ref sq, .int dr, .int vl, .int nn])), (sq, .inl (dA 3, 12, .inr (.inl st)))]) 0 0 := by
    intro v42 ev42
    refine jm_callS (rest := []) X d_C_timeUpTo_42 (k_C_highestBit E (st (1 : Int32).toNatClampNeg) v42 (jm_us h [(a, .inr (4, [.ref sq, .int dr, .int vl, .int nn])), (sq, .inl (dA 3, 12, .inr (.inl st)))])  ) ci_C_highestBit (Or.inl (jm_g4 104 rfl rfl)) st_C_highestBit rfl (Nat.le_of_ble_eq_true rfl) ⟨(Nat.le_of_ble_eq_true rfl), (Nat.le_of_ble_eq_true rfl)⟩ ⟨rfl, rfl⟩ ⟨(Nat.le_of_ble_eq_true rfl), (Nat.le_of_ble_eq_true rfl)⟩ (jm_k1 ?_)
    obtain ⟨u42, eu42⟩ : ∃ z_ : Int32, z_ = (f_C_highestBit (st (1 : Int32).toNatClampNeg) v42) := ⟨_, rfl⟩
    rw [← eu42]
    refine jm_istore_n X d_C_timeUpTo_45 rfl (by decide) (lv1 := [(3, .int u42), (2, .int u11), (0, .ref a), (1, .int ti)]) rfl ?_
    refine jm_iload_n X d_C_timeUpTo_46 rfl 1 rfl ?_
    refine jm_iload_n X d_C_timeUpTo_47 rfl 3 rfl ?_
    refine jm_sipush (v := 3600) X d_C_timeUpTo_48 (by decide) ?_
    refine jm_idiv X d_C_timeUpTo_51 (by decide +kernel) ?_
    have J71_4 : ∀ (v71 : Int32), v71 = (if u11 = (ti / 3600) then (if u42 = ((ti / 60) - (ti / 60) / 60 * 60) then 1 else 0) else 0 : Int32) → jm_W p l e ({ frames := 2, cells := 0, slots := 0, locals := 45 }) s m ([.ref a, .int ti] : List Value).toArray below meth c S D jm_cl (jm_Q S D jm_cl below s (jm_R (some (.int (f_C_timeUpTo ti dr vl nn st))) h) 0 0) 6 71 [(3, .int u42), (2, .int u11), (0, .ref a), (1, .int ti)] [.int v71] (jm_us h [(a, .inr (4, [.ref sq, .int dr, .int vl, .int nn])), (sq, .inl (dA 3, 12, .inr (.inl st)))]) 0 0 := by
      intro v71 ev71
      refine jm_istore X d_C_timeUpTo_71 (by decide) (lv1 := [(4, .int v71), (3, .int u42), (2, .int u11), (0, .ref a), (1, .int ti)]) rfl ?_
      refine jm_aload_n X d_C_timeUpTo_73 rfl 3 rfl ?_
      refine jm_get X d_C_timeUpTo_74 fs_C_11 (by refine jm_us_get ?_ 0 rfl; exact hnd) rfl ?_
      refine jm_iconst (v := 0) X d_C_timeUpTo_77 (by decide) ?_
      refine jm_lald (t0 := 3) X d_C_timeUpTo_78 rfl (by refine jm_us_get ?_ 1 rfl; exact hnd) (by unfold vp_in; decide) ?_
      refine jm_iload X d_C_timeUpTo_79 0 rfl ?_
      have J93_6 : ∀ (v93 : Int32), v93 = (if v71 = 0 then 59 else (ti - ti / 60 * 60) : Int32) → jm_W p l e ({ frames := 2, cells := 0, slots := 0, locals := 45 }) s m ([.ref a, .int ti] : List Value).toArray below meth c S D jm_cl (jm_Q S D jm_cl below s (jm_R (some (.int (f_C_timeUpTo ti dr vl nn st))) h) 0 0) 6 93 [(4, .int v71), (3, .int u42), (2, .int u11), (0, .ref a), (1, .int ti)] [.int v93, .long (st (0 : Int32).toNatClampNeg)] (jm_us h [(a, .inr (4, [.ref sq, .int dr, .int vl, .int nn])), (sq, .inl (dA 3, 12, .inr (.inl st)))]) 0 0 := by
        intro v93 ev93
        refine jm_callS (rest := []) X d_C_timeUpTo_93 (k_C_highestBit E (st (0 : Int32).toNatClampNeg) v93 (jm_us h [(a, .inr (4, [.ref sq, .int dr, .int vl, .int nn])), (sq, .inl (dA 3, 12, .inr (.inl st)))])  ) ci_C_highestBit (Or.inl (jm_g4 104 rfl rfl)) st_C_highestBit rfl (Nat.le_of_ble_eq_true rfl) ⟨(Nat.le_of_ble_eq_true rfl), (Nat.le_of_ble_eq_true rfl)⟩ ⟨rfl, rfl⟩ ⟨(Nat.le_of_ble_eq_true rfl), (Nat.le_of_ble_eq_true rfl)⟩ (jm_k1 ?_)
        obtain ⟨u93, eu93⟩ : ∃ z_ : Int32, z_ = (f_C_highestBit (st (0 : Int32).toNatClampNeg) v93) := ⟨_, rfl⟩
        rw [← eu93]
        refine jm_istore X d_C_timeUpTo_96 (by decide) (lv1 := [(5, .int u93), (4, .int v71), (3, .int u42), (2, .int u11), (0, .ref a), (1, .int ti)]) rfl ?_
        refine jm_iload X d_C_timeUpTo_98 0 rfl ?_
        have J129_8 : ∀ (v129 : Int32) (v129_1 : Int32), v129 = (if 0 ≤ u93 then u42 else (f_C_highestBit (st (1 : Int32).toNatClampNeg) (u42 - 1)) : Int32) → v129_1 = (if 0 ≤ u93 then u93 else (f_C_highestBit (st (0 : Int32).toNatClampNeg) 59) : Int32) → jm_W p l e ({ frames := 2, cells := 0, slots := 0, locals := 45 }) s m ([.ref a, .int ti] : List Value).toArray below meth c S D jm_cl (jm_Q S D jm_cl below s (jm_R (some (.int (f_C_timeUpTo ti dr vl nn st))) h) 0 0) 6 129 [(0, .ref a), (1, .int ti), (2, .int u11), (3, .int v129), (4, .int v71), (5, .int v129_1)] [] (jm_us h [(a, .inr (4, [.ref sq, .int dr, .int vl, .int nn])), (sq, .inl (dA 3, 12, .inr (.inl st)))]) 0 0 := by
          intro v129 v129_1 ev129 ev129_1
          refine jm_iload_n X d_C_timeUpTo_129 rfl 3 rfl ?_
          have J162_10 : ∀ (v162 : Int32) (v162_1 : Int32), v162 = (if 0 ≤ v129 then u11 else (f_C_highestBit (st (2 : Int32).toNatClampNeg) ((ti / 3600) - 1)) : Int32) → v162_1 = (if 0 ≤ v129 then v129 else (f_C_highestBit (st (1 : Int32).toNatClampNeg) 59) : Int32) → jm_W p l e ({ frames := 2, cells := 0, slots := 0, locals := 45 }) s m ([.ref a, .int ti] : List Value).toArray below meth c S D jm_cl (jm_Q S D jm_cl below s (jm_R (some (.int (f_C_timeUpTo ti dr vl nn st))) h) 0 0) 6 162 [(0, .ref a), (1, .int ti), (2, .int v162), (3, .int v162_1), (4, .int v71), (5, .int v129_1)] [] (jm_us h [(a, .inr (4, [.ref sq, .int dr, .int vl, .int nn])), (sq, .inl (dA 3, 12, .inr (.inl st)))]) 0 0 := by
            intro v162 v162_1 ev162 ev162_1
            refine jm_iload_n X d_C_timeUpTo_162 rfl 2 rfl ?_
            have J183_12 : ∀ (v183 : Int32), v183 = (if 0 ≤ v162 then (((v162 * 3600) + (v162_1 * 60)) + v129_1) else (-1) : Int32) → jm_W p l e ({ frames := 2, cells := 0, slots := 0, locals := 45 }) s m ([.ref a, .int ti] : List Value).toArray below meth c S D jm_cl (jm_Q S D jm_cl below s (jm_R (some (.int (f_C_timeUpTo ti dr vl nn st))) h) 0 0) 6 183 [(0, .ref a), (1, .int ti), (2, .int v162), (3, .int v162_1), (4, .int v71), (5, .int v129_1)] [.int v183] (jm_us h [(a, .inr (4, [.ref sq, .int dr, .int vl, .int nn])), (sq, .inl (dA 3, 12, .inr (.inl st)))]) 0 0 := by
              intro v183 ev183
              exact jm_iret X hr hk d_C_timeUpTo_183 ⟨(by show Outcome.returned _ = Outcome.returned _; unfold f_C_timeUpTo; subst ev183; subst ev162_1; subst ev162; subst ev129_1; subst ev129; subst eu93; subst ev93; subst ev71; subst eu42; subst ev42; subst eu11; rfl), (jm_us_id hL)⟩
            refine jm_if_ge (tgt := 170) X d_C_timeUpTo_163 (by decide) (fun c11 => ?_) (fun c11 => ?_)
            · refine jm_iload_n X d_C_timeUpTo_170 rfl 2 rfl ?_
              refine jm_sipush (v := 3600) X d_C_timeUpTo_171 (by decide) ?_
              refine jm_imul X d_C_timeUpTo_174 ?_
              refine jm_iload_n X d_C_timeUpTo_175 rfl 3 rfl ?_
              refine jm_bipush (v := 60) X d_C_timeUpTo_176 (by decide) ?_
              refine jm_imul X d_C_timeUpTo_178 ?_
              refine jm_iadd X d_C_timeUpTo_179 ?_
              refine jm_iload X d_C_timeUpTo_180 5 rfl ?_
              refine jm_iadd X d_C_timeUpTo_182 ?_
              exact J183_12 _ (by first | (simp only [if_pos c11, reduceIte]; done) | (with_reducible rfl))
            · refine jm_iconst (v := (-1)) X d_C_timeUpTo_166 (by decide) ?_
              refine jm_goto (tgt := 183) X d_C_timeUpTo_167 (by decide) ?_
              exact J183_12 _ (by first | (simp only [if_neg c11, reduceIte]; done) | (with_reducible rfl))
          refine jm_if_ge (tgt := 162) X d_C_timeUpTo_130 (by decide) (fun c9 => ?_) (fun c9 => ?_)
          · refine jm_lvs [0, 1, 2, 3, 4, 5] (lv1 := [(0, .ref a), (1, .int ti), (2, .int u11), (3, .int v129), (4, .int v71), (5, .int v129_1)]) rfl ?_
            exact J162_10 _ _ (by first | (simp only [if_pos c9, reduceIte]; done) | (with_reducible rfl)) (by first | (simp only [if_pos c9, reduceIte]; done) | (with_reducible rfl))
          · refine jm_aload_n X d_C_timeUpTo_133 rfl 0 rfl ?_
            refine jm_get X d_C_timeUpTo_134 fs_C_11 (by refine jm_us_get ?_ 0 rfl; exact hnd) rfl ?_
            refine jm_iconst (v := 2) X d_C_timeUpTo_137 (by decide) ?_
            refine jm_lald (t0 := 3) X d_C_timeUpTo_138 rfl (by refine jm_us_get ?_ 1 rfl; exact hnd) (by unfold vp_in; decide) ?_
            refine jm_iload_n X d_C_timeUpTo_139 rfl 1 rfl ?_
            refine jm_sipush (v := 3600) X d_C_timeUpTo_140 (by decide) ?_
            refine jm_idiv X d_C_timeUpTo_143 (by decide +kernel) ?_
            refine jm_iconst (v := 1) X d_C_timeUpTo_144 (by decide) ?_
            refine jm_isub X d_C_timeUpTo_145 ?_
            refine jm_callS (rest := []) X d_C_timeUpTo_146 (k_C_highestBit E (st (2 : Int32).toNatClampNeg) ((ti / 3600) - 1) (jm_us h [(a, .inr (4, [.ref sq, .int dr, .int vl, .int nn])), (sq, .inl (dA 3, 12, .inr (.inl st)))])  ) ci_C_highestBit (Or.inl (jm_g4 104 rfl rfl)) st_C_highestBit rfl (Nat.le_of_ble_eq_true rfl) ⟨(Nat.le_of_ble_eq_true rfl), (Nat.le_of_ble_eq_true rfl)⟩ ⟨rfl, rfl⟩ ⟨(Nat.le_of_ble_eq_true rfl), (Nat.le_of_ble_eq_true rfl)⟩ (jm_k1 ?_)
            refine jm_istore_n X d_C_timeUpTo_149 rfl (by decide) (lv1 := [(2, .int (f_C_highestBit (st (2 : Int32).toNatClampNeg) ((ti / 3600) - 1))), (0, .ref a), (1, .int ti), (3, .int v129), (4, .int v71), (5, .int v129_1)]) rfl ?_
            refine jm_aload_n X d_C_timeUpTo_150 rfl 1 rfl ?_
            refine jm_get X d_C_timeUpTo_151 fs_C_11 (by refine jm_us_get ?_ 0 rfl; exact hnd) rfl ?_
            refine jm_iconst (v := 1) X d_C_timeUpTo_154 (by decide) ?_
            refine jm_lald (t0 := 3) X d_C_timeUpTo_155 rfl (by refine jm_us_get ?_ 1 rfl; exact hnd) (by unfold vp_in; decide) ?_
            refine jm_bipush (v := 59) X d_C_timeUpTo_156 (by decide) ?_
            refine jm_callS (rest := []) X d_C_timeUpTo_158 (k_C_highestBit E (st (1 : Int32).toNatClampNeg) 59 (jm_us h [(a, .inr (4, [.ref sq, .int dr, .int vl, .int nn])), (sq, .inl (dA 3, 12, .inr (.inl st)))])  ) ci_C_highestBit (Or.inl (jm_g4 104 rfl rfl)) st_C_highestBit rfl (Nat.le_of_ble_eq_true rfl) ⟨(Nat.le_of_ble_eq_true rfl), (Nat.le_of_ble_eq_true rfl)⟩ ⟨rfl, rfl⟩ ⟨(Nat.le_of_ble_eq_true rfl), (Nat.le_of_ble_eq_true rfl)⟩ (jm_k1 ?_)
            refine jm_istore_n X d_C_timeUpTo_161 rfl (by decide) (lv1 := [(3, .int (f_C_highestBit (st (1 : Int32).toNatClampNeg) 59)), (2, .int (f_C_highestBit (st (2 : Int32).toNatClampNeg) ((ti / 3600) - 1))), (0, .ref a), (1, .int ti), (4, .int v71), (5, .int v129_1)]) rfl ?_
            refine jm_lvs [2, 3, 1, 0, 4, 5] (lv1 := [(0, .ref a), (1, .int ti), (2, .int (f_C_highestBit (st (2 : Int32).toNatClampNeg) ((ti / 3600) - 1))), (3, .int (f_C_highestBit (st (1 : Int32).toNatClampNeg) 59)), (4, .int v71), (5, .int v129_1)]) rfl ?_
            exact J162_10 _ _ (by first | (simp only [if_neg c9, reduceIte]; done) | (with_reducible rfl)) (by first | (simp only [if_neg c9, reduceIte]; done) | (with_reducible rfl))
        refine jm_if_ge (tgt := 129) X d_C_timeUpTo_100 (by decide) (fun c7 => ?_) (fun c7 => ?_)
        · refine jm_lvs [4, 5, 3, 2, 1, 0] (lv1 := [(0, .ref a), (1, .int ti), (2, .int u11), (3, .int u42), (4, .int v71), (5, .int u93)]) rfl ?_
          exact J129_8 _ _ (by first | (simp only [if_pos c7, reduceIte]; done) | (with_reducible rfl)) (by first | (simp only [if_pos c7, reduceIte]; done) | (with_reducible rfl))
        · refine jm_aload_n X d_C_timeUpTo_103 rfl 4 rfl ?_
          refine jm_get X d_C_timeUpTo_104 fs_C_11 (by refine jm_us_get ?_ 0 rfl; exact hnd) rfl ?_
          refine jm_iconst (v := 1) X d_C_timeUpTo_107 (by decide) ?_
          refine jm_lald (t0 := 3) X d_C_timeUpTo_108 rfl (by refine jm_us_get ?_ 1 rfl; exact hnd) (by unfold vp_in; decide) ?_
          refine jm_iload_n X d_C_timeUpTo_109 rfl 2 rfl ?_
          refine jm_iconst (v := 1) X d_C_timeUpTo_110 (by decide) ?_
          refine jm_isub X d_C_timeUpTo_111 ?_
          refine jm_callS (rest := []) X d_C_timeUpTo_112 (k_C_highestBit E (st (1 : Int32).toNatClampNeg) (u42 - 1) (jm_us h [(a, .inr (4, [.ref sq, .int dr, .int vl, .int nn])), (sq, .inl (dA 3, 12, .inr (.inl st)))])  ) ci_C_highestBit (Or.inl (jm_g4 104 rfl rfl)) st_C_highestBit rfl (Nat.le_of_ble_eq_true rfl) ⟨(Nat.le_of_ble_eq_true rfl), (Nat.le_of_ble_eq_true rfl)⟩ ⟨rfl, rfl⟩ ⟨(Nat.le_of_ble_eq_true rfl), (Nat.le_of_ble_eq_true rfl)⟩ (jm_k1 ?_)
          refine jm_istore_n X d_C_timeUpTo_115 rfl (by decide) (lv1 := [(3, .int (f_C_highestBit (st (1 : Int32).toNatClampNeg) (u42 - 1))), (5, .int u93), (4, .int v71), (2, .int u11), (0, .ref a), (1, .int ti)]) rfl ?_
          refine jm_aload_n X d_C_timeUpTo_116 rfl 4 rfl ?_
          refine jm_get X d_C_timeUpTo_117 fs_C_11 (by refine jm_us_get ?_ 0 rfl; exact hnd) rfl ?_
          refine jm_iconst (v := 0) X d_C_timeUpTo_120 (by decide) ?_
          refine jm_lald (t0 := 3) X d_C_timeUpTo_121 rfl (by refine jm_us_get ?_ 1 rfl; exact hnd) (by unfold vp_in; decide) ?_
          refine jm_bipush (v := 59) X d_C_timeUpTo_122 (by decide) ?_
          refine jm_callS (rest := []) X d_C_timeUpTo_124 (k_C_highestBit E (st (0 : Int32).toNatClampNeg) 59 (jm_us h [(a, .inr (4, [.ref sq, .int dr, .int vl, .int nn])), (sq, .inl (dA 3, 12, .inr (.inl st)))])  ) ci_C_highestBit (Or.inl (jm_g4 104 rfl rfl)) st_C_highestBit rfl (Nat.le_of_ble_eq_true rfl) ⟨(Nat.le_of_ble_eq_true rfl), (Nat.le_of_ble_eq_true rfl)⟩ ⟨rfl, rfl⟩ ⟨(Nat.le_of_ble_eq_true rfl), (Nat.le_of_ble_eq_true rfl)⟩ (jm_k1 ?_)
          refine jm_istore X d_C_timeUpTo_127 (by decide) (lv1 := [(5, .int (f_C_highestBit (st (0 : Int32).toNatClampNeg) 59)), (3, .int (f_C_highestBit (st (1 : Int32).toNatClampNeg) (u42 - 1))), (4, .int v71), (2, .int u11), (0, .ref a), (1, .int ti)]) rfl ?_
          refine jm_lvs [4, 5, 3, 1, 2, 0] (lv1 := [(0, .ref a), (1, .int ti), (2, .int u11), (3, .int (f_C_highestBit (st (1 : Int32).toNatClampNeg) (u42 - 1))), (4, .int v71), (5, .int (f_C_highestBit (st (0 : Int32).toNatClampNeg) 59))]) rfl ?_
          exact J129_8 _ _ (by first | (simp only [if_neg c7, reduceIte]; done) | (with_reducible rfl)) (by first | (simp only [if_neg c7, reduceIte]; done) | (with_reducible rfl))
      refine jm_if_eq (tgt := 91) X d_C_timeUpTo_81 (by decide) (fun c5 => ?_) (fun c5 => ?_)
      · refine jm_bipush (v := 59) X d_C_timeUpTo_91 (by decide) ?_
        exact J93_6 _ (by first | (simp only [if_pos c5, reduceIte]; done) | (with_reducible rfl))
      · refine jm_iload_n X d_C_timeUpTo_84 rfl 4 rfl ?_
        refine jm_bipush (v := 60) X d_C_timeUpTo_85 (by decide) ?_
        refine jm_irem X d_C_timeUpTo_87 (by decide +kernel) ?_
        refine jm_goto (tgt := 93) X d_C_timeUpTo_88 (by decide) ?_
        exact J93_6 _ (by first | (simp only [if_neg c5, reduceIte]; done) | (with_reducible rfl))
    refine jm_icmp_ne (tgt := 70) X d_C_timeUpTo_52 (by decide) (fun c3 => ?_) (fun c3 => ?_)
    · refine jm_iconst (v := 0) X d_C_timeUpTo_70 (by decide) ?_
      exact J71_4 _ (by first | (simp only [if_neg c3, reduceIte]; done) | (with_reducible rfl))
    · refine jm_iload_n X d_C_timeUpTo_55 rfl 0 rfl ?_
      refine jm_iload_n X d_C_timeUpTo_56 rfl 3 rfl ?_
      refine jm_bipush (v := 60) X d_C_timeUpTo_57 (by decide) ?_
      refine jm_idiv X d_C_timeUpTo_59 (by decide +kernel) ?_
      refine jm_bipush (v := 60) X d_C_timeUpTo_60 (by decide) ?_
      refine jm_irem X d_C_timeUpTo_62 (by decide +kernel) ?_
      refine jm_icmp_ne (tgt := 70) X d_C_timeUpTo_63 (by decide) (fun c13 => ?_) (fun c13 => ?_)
      · refine jm_iconst (v := 0) X d_C_timeUpTo_70 (by decide) ?_
        exact J71_4 _ (by first | (simp only [if_pos c3, if_neg c13, reduceIte]; done) | (with_reducible rfl))
      · refine jm_iconst (v := 1) X d_C_timeUpTo_66 (by decide) ?_
        refine jm_goto (tgt := 71) X d_C_timeUpTo_67 (by decide) ?_
        exact J71_4 _ (by first | (simp only [if_pos c3, if_pos c13, reduceIte]; done) | (with_reducible rfl))
  refine jm_icmp_ne (tgt := 40) X d_C_timeUpTo_27 (by decide) (fun c1 => ?_) (fun c1 => ?_)
  · refine jm_bipush (v := 59) X d_C_timeUpTo_40 (by decide) ?_
    exact J42_2 _ (by first | (simp only [if_neg c1, reduceIte]; done) | (with_reducible rfl))
  · refine jm_iload_n X d_C_timeUpTo_30 rfl 2 rfl ?_
    refine jm_bipush (v := 60) X d_C_timeUpTo_31 (by decide) ?_
    refine jm_idiv X d_C_timeUpTo_33 (by decide +kernel) ?_
    refine jm_bipush (v := 60) X d_C_timeUpTo_34 (by decide) ?_
    refine jm_irem X d_C_timeUpTo_36 (by decide +kernel) ?_
    refine jm_goto (tgt := 42) X d_C_timeUpTo_37 (by decide) ?_
    exact J42_2 _ (by first | (simp only [if_pos c1, reduceIte]; done) | (with_reducible rfl))
