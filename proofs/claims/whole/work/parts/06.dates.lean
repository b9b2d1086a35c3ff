def f_D_firstOfMonth (y : Int32) (mo : Int32) : Int32 :=
  let v12 : Int32 := if mo ≤ 2 then (y - 1) else y
  let v28 : Int32 := if mo ≤ 2 then (mo + 9) else (mo - 3)
  (((365 * v12) + (((v12 / 4) - (v12 / 100)) + (v12 / 400))) + (((153 * v28) + 2) / 5)) - 719468
set_option maxRecDepth 20000 in
set_option maxHeartbeats 4000000 in
theorem k_D_firstOfMonth {l : Launch} {S : State} {D : va_G} {dA : Nat → ClassId} (E : jm_en S D jm_cl (jm_ty dA) jm_G) (y : Int32) (mo : Int32) (h : jm_H)    : jm_M l S D jm_cl y_D_firstOfMonth (Cond.code y_D_firstOfMonth b_D_firstOfMonth 5 (some FieldType.int)) { frames := 0, cells := 0, slots := 0, locals := 0 } [.int y, .int mo] h (jm_R (some (.int (f_D_firstOfMonth y mo))) h) 0 0 := by
  refine jm_ofW E (by decide) (Nat.le_of_ble_eq_true rfl) (fun p e s m below meth c X hr hk hmn hout hadm => ?_)
  have X : jm_cx p s m ([.int y, .int mo] : List Value).toArray c S D jm_cl (jm_ty dA) jm_G b_D_firstOfMonth 5 "JobHouse$Dates" := X
  show jm_W p l e ({ frames := 0, cells := 0, slots := 0, locals := 0 }) s m ([.int y, .int mo] : List Value).toArray below meth c S D jm_cl (jm_Q S D jm_cl below s (jm_R (some (.int (f_D_firstOfMonth y mo))) h) 0 0) 5 0 [(0, .int y), (1, .int mo)] [] (h) 0 0
  refine jm_iload_n X d_D_firstOfMonth_0 rfl 1 rfl ?_
  refine jm_iconst (v := 2) X d_D_firstOfMonth_1 (by decide) ?_
  have J12_2 : ∀ (v12 : Int32), v12 = (if mo ≤ 2 then (y - 1) else y : Int32) → jm_W p l e ({ frames := 0, cells := 0, slots := 0, locals := 0 }) s m ([.int y, .int mo] : List Value).toArray below meth c S D jm_cl (jm_Q S D jm_cl below s (jm_R (some (.int (f_D_firstOfMonth y mo))) h) 0 0) 5 12 [(0, .int y), (1, .int mo)] [.int v12] (h) 0 0 := by
    intro v12 ev12
    refine jm_istore_n X d_D_firstOfMonth_12 rfl (by decide) (lv1 := [(2, .int v12), (0, .int y), (1, .int mo)]) rfl ?_
    refine jm_iload_n X d_D_firstOfMonth_13 rfl 2 rfl ?_
    refine jm_iconst (v := 2) X d_D_firstOfMonth_14 (by decide) ?_
    have J28_4 : ∀ (v28 : Int32), v28 = (if mo ≤ 2 then (mo + 9) else (mo - 3) : Int32) → jm_W p l e ({ frames := 0, cells := 0, slots := 0, locals := 0 }) s m ([.int y, .int mo] : List Value).toArray below meth c S D jm_cl (jm_Q S D jm_cl below s (jm_R (some (.int (f_D_firstOfMonth y mo))) h) 0 0) 5 28 [(2, .int v12), (0, .int y), (1, .int mo)] [.int v28] (h) 0 0 := by
      intro v28 ev28
      refine jm_istore_n X d_D_firstOfMonth_28 rfl (by decide) (lv1 := [(3, .int v28), (2, .int v12), (0, .int y), (1, .int mo)]) rfl ?_
      refine jm_iload_n X d_D_firstOfMonth_29 rfl 1 rfl ?_
      refine jm_iconst (v := 4) X d_D_firstOfMonth_30 (by decide) ?_
      refine jm_idiv X d_D_firstOfMonth_31 (by decide +kernel) ?_
      refine jm_iload_n X d_D_firstOfMonth_32 rfl 1 rfl ?_
      refine jm_bipush (v := 100) X d_D_firstOfMonth_33 (by decide) ?_
      refine jm_idiv X d_D_firstOfMonth_35 (by decide +kernel) ?_
      refine jm_isub X d_D_firstOfMonth_36 ?_
      refine jm_iload_n X d_D_firstOfMonth_37 rfl 1 rfl ?_
      refine jm_sipush (v := 400) X d_D_firstOfMonth_38 (by decide) ?_
      refine jm_idiv X d_D_firstOfMonth_41 (by decide +kernel) ?_
      refine jm_iadd X d_D_firstOfMonth_42 ?_
      refine jm_istore X d_D_firstOfMonth_43 (by decide) (lv1 := [(4, .int (((v12 / 4) - (v12 / 100)) + (v12 / 400))), (3, .int v28), (2, .int v12), (0, .int y), (1, .int mo)]) rfl ?_
      refine jm_sipush (v := 365) X d_D_firstOfMonth_45 (by decide) ?_
      refine jm_iload_n X d_D_firstOfMonth_48 rfl 2 rfl ?_
      refine jm_imul X d_D_firstOfMonth_49 ?_
      refine jm_iload X d_D_firstOfMonth_50 0 rfl ?_
      refine jm_iadd X d_D_firstOfMonth_52 ?_
      refine jm_sipush (v := 153) X d_D_firstOfMonth_53 (by decide) ?_
      refine jm_iload_n X d_D_firstOfMonth_56 rfl 1 rfl ?_
      refine jm_imul X d_D_firstOfMonth_57 ?_
      refine jm_iconst (v := 2) X d_D_firstOfMonth_58 (by decide) ?_
      refine jm_iadd X d_D_firstOfMonth_59 ?_
      refine jm_iconst (v := 5) X d_D_firstOfMonth_60 (by decide) ?_
      refine jm_idiv X d_D_firstOfMonth_61 (by decide +kernel) ?_
      refine jm_iadd X d_D_firstOfMonth_62 ?_
      refine jm_ldc (v := 719468) X d_D_firstOfMonth_63 (jm_g3 212 rfl rfl) ?_
      refine jm_isub X d_D_firstOfMonth_65 ?_
      exact jm_iret X hr hk d_D_firstOfMonth_66 ⟨(by show Outcome.returned _ = Outcome.returned _; unfold f_D_firstOfMonth; subst ev28; subst ev12; rfl), rfl⟩
    refine jm_icmp_le (tgt := 24) X d_D_firstOfMonth_15 (by decide) (fun c3 => ?_) (fun c3 => ?_)
    · refine jm_iload_n X d_D_firstOfMonth_24 rfl 2 rfl ?_
      refine jm_bipush (v := 9) X d_D_firstOfMonth_25 (by decide) ?_
      refine jm_iadd X d_D_firstOfMonth_27 ?_
      exact J28_4 _ (by first | (simp only [if_pos c3, reduceIte]; done) | (with_reducible rfl))
    · refine jm_iload_n X d_D_firstOfMonth_18 rfl 2 rfl ?_
      refine jm_iconst (v := 3) X d_D_firstOfMonth_19 (by decide) ?_
      refine jm_isub X d_D_firstOfMonth_20 ?_
      refine jm_goto (tgt := 28) X d_D_firstOfMonth_21 (by decide) ?_
      exact J28_4 _ (by first | (simp only [if_neg c3, reduceIte]; done) | (with_reducible rfl))
  refine jm_icmp_le (tgt := 9) X d_D_firstOfMonth_2 (by decide) (fun c1 => ?_) (fun c1 => ?_)
  · refine jm_iload_n X d_D_firstOfMonth_9 rfl 0 rfl ?_
    refine jm_iconst (v := 1) X d_D_firstOfMonth_10 (by decide) ?_
    refine jm_isub X d_D_firstOfMonth_11 ?_
    exact J12_2 _ (by first | (simp only [if_pos c1, reduceIte]; done) | (with_reducible rfl))
  · refine jm_iload_n X d_D_firstOfMonth_5 rfl 0 rfl ?_
    refine jm_goto (tgt := 12) X d_D_firstOfMonth_6 (by decide) ?_
    exact J12_2 _ (by first | (simp only [if_neg c1, reduceIte]; done) | (with_reducible rfl))
def f_D_monthLength (y : Int32) (mo : Int32) : Int32 :=
  let v72 : Int32 := if mo = 4 then 1 else (if mo = 6 then 1 else (if mo = 9 then 1 else (if mo = 11 then 1 else 0)))
  let v84 : Int32 := if v72 = 0 then 31 else 30
  let v31 : Int32 := if (y - y / 4 * 4) = 0 then (if (y - y / 100 * 100) = 0 then (if (y - y / 400 * 400) = 0 then 1 else 0) else 1) else 0
  let v43 : Int32 := if v31 = 0 then 28 else 29
  if mo = 2 then v43 else v84
set_option maxRecDepth 20000 in
set_option maxHeartbeats 4000000 in
theorem k_D_monthLength {l : Launch} {S : State} {D : va_G} {dA : Nat → ClassId} (E : jm_en S D jm_cl (jm_ty dA) jm_G) (y : Int32) (mo : Int32) (h : jm_H)    : jm_M l S D jm_cl y_D_monthLength (Cond.code y_D_monthLength b_D_monthLength 3 (some FieldType.int)) { frames := 0, cells := 0, slots := 0, locals := 0 } [.int y, .int mo] h (jm_R (some (.int (f_D_monthLength y mo))) h) 0 0 := by
  refine jm_ofW E (by decide) (Nat.le_of_ble_eq_true rfl) (fun p e s m below meth c X hr hk hmn hout hadm => ?_)
  have X : jm_cx p s m ([.int y, .int mo] : List Value).toArray c S D jm_cl (jm_ty dA) jm_G b_D_monthLength 3 "JobHouse$Dates" := X
  show jm_W p l e ({ frames := 0, cells := 0, slots := 0, locals := 0 }) s m ([.int y, .int mo] : List Value).toArray below meth c S D jm_cl (jm_Q S D jm_cl below s (jm_R (some (.int (f_D_monthLength y mo))) h) 0 0) 3 0 [(0, .int y), (1, .int mo)] [] (h) 0 0
  refine jm_iload_n X d_D_monthLength_0 rfl 1 rfl ?_
  refine jm_iconst (v := 2) X d_D_monthLength_1 (by decide) ?_
  refine jm_icmp_ne (tgt := 44) X d_D_monthLength_2 (by decide) (fun c1 => ?_) (fun c1 => ?_)
  · refine jm_iload_n X d_D_monthLength_44 rfl 1 rfl ?_
    refine jm_iconst (v := 4) X d_D_monthLength_45 (by decide) ?_
    have J72_3 : ∀ (v72 : Int32), v72 = (if mo = 4 then 1 else (if mo = 6 then 1 else (if mo = 9 then 1 else (if mo = 11 then 1 else 0))) : Int32) → jm_W p l e ({ frames := 0, cells := 0, slots := 0, locals := 0 }) s m ([.int y, .int mo] : List Value).toArray below meth c S D jm_cl (jm_Q S D jm_cl below s (jm_R (some (.int (f_D_monthLength y mo))) h) 0 0) 3 72 [(0, .int y), (1, .int mo)] [.int v72] (h) 0 0 := by
      intro v72 ev72
      refine jm_istore_n X d_D_monthLength_72 rfl (by decide) (lv1 := [(2, .int v72), (0, .int y), (1, .int mo)]) rfl ?_
      refine jm_iload_n X d_D_monthLength_73 rfl 0 rfl ?_
      have J84_5 : ∀ (v84 : Int32), v84 = (if v72 = 0 then 31 else 30 : Int32) → jm_W p l e ({ frames := 0, cells := 0, slots := 0, locals := 0 }) s m ([.int y, .int mo] : List Value).toArray below meth c S D jm_cl (jm_Q S D jm_cl below s (jm_R (some (.int (f_D_monthLength y mo))) h) 0 0) 3 84 [(2, .int v72), (0, .int y), (1, .int mo)] [.int v84] (h) 0 0 := by
        intro v84 ev84
        exact jm_iret X hr hk d_D_monthLength_84 ⟨(by show Outcome.returned _ = Outcome.returned _; unfold f_D_monthLength; subst ev84; subst ev72; first | (simp only [if_neg c1, reduceIte]; done) | (simp only [if_neg c1, reduceIte]; rfl) | rfl), rfl⟩
      refine jm_if_eq (tgt := 82) X d_D_monthLength_74 (by decide) (fun c4 => ?_) (fun c4 => ?_)
      · refine jm_bipush (v := 31) X d_D_monthLength_82 (by decide) ?_
        exact J84_5 _ (by first | (simp only [if_pos c4, reduceIte]; done) | (with_reducible rfl))
      · refine jm_bipush (v := 30) X d_D_monthLength_77 (by decide) ?_
        refine jm_goto (tgt := 84) X d_D_monthLength_79 (by decide) ?_
        exact J84_5 _ (by first | (simp only [if_neg c4, reduceIte]; done) | (with_reducible rfl))
    refine jm_icmp_eq (tgt := 67) X d_D_monthLength_46 (by decide) (fun c2 => ?_) (fun c2 => ?_)
    · refine jm_iconst (v := 1) X d_D_monthLength_67 (by decide) ?_
      refine jm_goto (tgt := 72) X d_D_monthLength_68 (by decide) ?_
      exact J72_3 _ (by first | (simp only [if_pos c2, reduceIte]; done) | (with_reducible rfl))
    · refine jm_iload_n X d_D_monthLength_49 rfl 1 rfl ?_
      refine jm_bipush (v := 6) X d_D_monthLength_50 (by decide) ?_
      refine jm_icmp_eq (tgt := 67) X d_D_monthLength_52 (by decide) (fun c6 => ?_) (fun c6 => ?_)
      · refine jm_iconst (v := 1) X d_D_monthLength_67 (by decide) ?_
        refine jm_goto (tgt := 72) X d_D_monthLength_68 (by decide) ?_
        exact J72_3 _ (by first | (simp only [if_neg c2, if_pos c6, reduceIte]; done) | (with_reducible rfl))
      · refine jm_iload_n X d_D_monthLength_55 rfl 1 rfl ?_
        refine jm_bipush (v := 9) X d_D_monthLength_56 (by decide) ?_
        refine jm_icmp_eq (tgt := 67) X d_D_monthLength_58 (by decide) (fun c7 => ?_) (fun c7 => ?_)
        · refine jm_iconst (v := 1) X d_D_monthLength_67 (by decide) ?_
          refine jm_goto (tgt := 72) X d_D_monthLength_68 (by decide) ?_
          exact J72_3 _ (by first | (simp only [if_neg c2, if_neg c6, if_pos c7, reduceIte]; done) | (with_reducible rfl))
        · refine jm_iload_n X d_D_monthLength_61 rfl 1 rfl ?_
          refine jm_bipush (v := 11) X d_D_monthLength_62 (by decide) ?_
          refine jm_icmp_ne (tgt := 71) X d_D_monthLength_64 (by decide) (fun c8 => ?_) (fun c8 => ?_)
          · refine jm_iconst (v := 0) X d_D_monthLength_71 (by decide) ?_
            exact J72_3 _ (by first | (simp only [if_neg c2, if_neg c6, if_neg c7, if_neg c8, reduceIte]; done) | (with_reducible rfl))
          · refine jm_iconst (v := 1) X d_D_monthLength_67 (by decide) ?_
            refine jm_goto (tgt := 72) X d_D_monthLength_68 (by decide) ?_
            exact J72_3 _ (by first | (simp only [if_neg c2, if_neg c6, if_neg c7, if_pos c8, reduceIte]; done) | (with_reducible rfl))
  · refine jm_iload_n X d_D_monthLength_5 rfl 0 rfl ?_
    refine jm_iconst (v := 4) X d_D_monthLength_6 (by decide) ?_
    refine jm_irem X d_D_monthLength_7 (by decide +kernel) ?_
    have J31_10 : ∀ (v31 : Int32), v31 = (if (y - y / 4 * 4) = 0 then (if (y - y / 100 * 100) = 0 then (if (y - y / 400 * 400) = 0 then 1 else 0) else 1) else 0 : Int32) → jm_W p l e ({ frames := 0, cells := 0, slots := 0, locals := 0 }) s m ([.int y, .int mo] : List Value).toArray below meth c S D jm_cl (jm_Q S D jm_cl below s (jm_R (some (.int (f_D_monthLength y mo))) h) 0 0) 3 31 [(0, .int y), (1, .int mo)] [.int v31] (h) 0 0 := by
      intro v31 ev31
      refine jm_istore_n X d_D_monthLength_31 rfl (by decide) (lv1 := [(2, .int v31), (0, .int y), (1, .int mo)]) rfl ?_
      refine jm_iload_n X d_D_monthLength_32 rfl 0 rfl ?_
      have J43_12 : ∀ (v43 : Int32), v43 = (if v31 = 0 then 28 else 29 : Int32) → jm_W p l e ({ frames := 0, cells := 0, slots := 0, locals := 0 }) s m ([.int y, .int mo] : List Value).toArray below meth c S D jm_cl (jm_Q S D jm_cl below s (jm_R (some (.int (f_D_monthLength y mo))) h) 0 0) 3 43 [(2, .int v31), (0, .int y), (1, .int mo)] [.int v43] (h) 0 0 := by
        intro v43 ev43
        exact jm_iret X hr hk d_D_monthLength_43 ⟨(by show Outcome.returned _ = Outcome.returned _; unfold f_D_monthLength; subst ev43; subst ev31; first | (simp only [if_pos c1, reduceIte]; done) | (simp only [if_pos c1, reduceIte]; rfl) | rfl), rfl⟩
      refine jm_if_eq (tgt := 41) X d_D_monthLength_33 (by decide) (fun c11 => ?_) (fun c11 => ?_)
      · refine jm_bipush (v := 28) X d_D_monthLength_41 (by decide) ?_
        exact J43_12 _ (by first | (simp only [if_pos c11, reduceIte]; done) | (with_reducible rfl))
      · refine jm_bipush (v := 29) X d_D_monthLength_36 (by decide) ?_
        refine jm_goto (tgt := 43) X d_D_monthLength_38 (by decide) ?_
        exact J43_12 _ (by first | (simp only [if_neg c11, reduceIte]; done) | (with_reducible rfl))
    refine jm_if_ne (tgt := 30) X d_D_monthLength_8 (by decide) (fun c9 => ?_) (fun c9 => ?_)
    · refine jm_iconst (v := 0) X d_D_monthLength_30 (by decide) ?_
      exact J31_10 _ (by first | (simp only [if_neg c9, reduceIte]; done) | (with_reducible rfl))
    · refine jm_iload_n X d_D_monthLength_11 rfl 0 rfl ?_
      refine jm_bipush (v := 100) X d_D_monthLength_12 (by decide) ?_
      refine jm_irem X d_D_monthLength_14 (by decide +kernel) ?_
      refine jm_if_ne (tgt := 26) X d_D_monthLength_15 (by decide) (fun c13 => ?_) (fun c13 => ?_)
      · refine jm_iconst (v := 1) X d_D_monthLength_26 (by decide) ?_
        refine jm_goto (tgt := 31) X d_D_monthLength_27 (by decide) ?_
        exact J31_10 _ (by first | (simp only [if_pos c9, if_neg c13, reduceIte]; done) | (with_reducible rfl))
      · refine jm_iload_n X d_D_monthLength_18 rfl 0 rfl ?_
        refine jm_sipush (v := 400) X d_D_monthLength_19 (by decide) ?_
        refine jm_irem X d_D_monthLength_22 (by decide +kernel) ?_
        refine jm_if_ne (tgt := 30) X d_D_monthLength_23 (by decide) (fun c14 => ?_) (fun c14 => ?_)
        · refine jm_iconst (v := 0) X d_D_monthLength_30 (by decide) ?_
          exact J31_10 _ (by first | (simp only [if_pos c9, if_pos c13, if_neg c14, reduceIte]; done) | (with_reducible rfl))
        · refine jm_iconst (v := 1) X d_D_monthLength_26 (by decide) ?_
          refine jm_goto (tgt := 31) X d_D_monthLength_27 (by decide) ?_
          exact J31_10 _ (by first | (simp only [if_pos c9, if_pos c13, if_pos c14, reduceIte]; done) | (with_reducible rfl))
def f_D_weekdayOf (day : Int32) : Int32 :=
  ((day + 4) - (day + 4) / 7 * 7) + 1
set_option maxRecDepth 20000 in
set_option maxHeartbeats 4000000 in
theorem k_D_weekdayOf {l : Launch} {S : State} {D : va_G} {dA : Nat → ClassId} (E : jm_en S D jm_cl (jm_ty dA) jm_G) (day : Int32) (h : jm_H)    : jm_M l S D jm_cl y_D_weekdayOf (Cond.code y_D_weekdayOf b_D_weekdayOf 1 (some FieldType.int)) { frames := 0, cells := 0, slots := 0, locals := 0 } [.int day] h (jm_R (some (.int (f_D_weekdayOf day))) h) 0 0 := by
  refine jm_ofW E (by decide) (Nat.le_of_ble_eq_true rfl) (fun p e s m below meth c X hr hk hmn hout hadm => ?_)
  have X : jm_cx p s m ([.int day] : List Value).toArray c S D jm_cl (jm_ty dA) jm_G b_D_weekdayOf 1 "JobHouse$Dates" := X
  show jm_W p l e ({ frames := 0, cells := 0, slots := 0, locals := 0 }) s m ([.int day] : List Value).toArray below meth c S D jm_cl (jm_Q S D jm_cl below s (jm_R (some (.int (f_D_weekdayOf day))) h) 0 0) 1 0 [(0, .int day)] [] (h) 0 0
  refine jm_iload_n X d_D_weekdayOf_0 rfl 0 rfl ?_
  refine jm_iconst (v := 4) X d_D_weekdayOf_1 (by decide) ?_
  refine jm_iadd X d_D_weekdayOf_2 ?_
  refine jm_bipush (v := 7) X d_D_weekdayOf_3 (by decide) ?_
  refine jm_irem X d_D_weekdayOf_5 (by decide +kernel) ?_
  refine jm_iconst (v := 1) X d_D_weekdayOf_6 (by decide) ?_
  refine jm_iadd X d_D_weekdayOf_7 ?_
  exact jm_iret X hr hk d_D_weekdayOf_8 ⟨(by show Outcome.returned _ = Outcome.returned _; unfold f_D_weekdayOf; rfl), rfl⟩
def f_D_monthOf (day : Int32) (y : Int32) : Int32 :=
  let v37 : Int32 := if 12 ≤ (((day - (f_D_firstOfMonth y 1)) / 31) + 1) then (((day - (f_D_firstOfMonth y 1)) / 31) + 1) else (if day < (f_D_firstOfMonth y ((((day - (f_D_firstOfMonth y 1)) / 31) + 1) + 1)) then (((day - (f_D_firstOfMonth y 1)) / 31) + 1) else ((((day - (f_D_firstOfMonth y 1)) / 31) + 1) + 1))
  v37
set_option maxRecDepth 20000 in
set_option maxHeartbeats 4000000 in
theorem k_D_monthOf {l : Launch} {S : State} {D : va_G} {dA : Nat → ClassId} (E : jm_en S D jm_cl (jm_ty dA) jm_G) (day : Int32) (y : Int32) (h : jm_H)    : jm_M l S D jm_cl y_D_monthOf (Cond.code y_D_monthOf b_D_monthOf 3 (some FieldType.int)) { frames := 1, cells := 0, slots := 0, locals := 24 } [.int day, .int y] h (jm_R (some (.int (f_D_monthOf day y))) h) 0 0 := by
  refine jm_ofW E (by decide) (Nat.le_of_ble_eq_true rfl) (fun p e s m below meth c X hr hk hmn hout hadm => ?_)
  have X : jm_cx p s m ([.int day, .int y] : List Value).toArray c S D jm_cl (jm_ty dA) jm_G b_D_monthOf 3 "JobHouse$Dates" := X
  show jm_W p l e ({ frames := 1, cells := 0, slots := 0, locals := 24 }) s m ([.int day, .int y] : List Value).toArray below meth c S D jm_cl (jm_Q S D jm_cl below s (jm_R (some (.int (f_D_monthOf day y))) h) 0 0) 3 0 [(0, .int day), (1, .int y)] [] (h) 0 0
  refine jm_iload_n X d_D_monthOf_0 rfl 0 rfl ?_
  refine jm_iload_n X d_D_monthOf_1 rfl 1 rfl ?_
  refine jm_iconst (v := 1) X d_D_monthOf_2 (by decide) ?_
  refine jm_callS (rest := [.int day]) X d_D_monthOf_3 (k_D_firstOfMonth E y 1 h  ) ci_D_firstOfMonth (Or.inl (jm_g3 209 rfl rfl)) st_D_firstOfMonth rfl (Nat.le_of_ble_eq_true rfl) ⟨(Nat.le_of_ble_eq_true rfl), (Nat.le_of_ble_eq_true rfl)⟩ ⟨rfl, rfl⟩ ⟨(Nat.le_of_ble_eq_true rfl), (Nat.le_of_ble_eq_true rfl)⟩ (jm_k1 ?_)
  refine jm_isub X d_D_monthOf_6 ?_
  refine jm_bipush (v := 31) X d_D_monthOf_7 (by decide) ?_
  refine jm_idiv X d_D_monthOf_9 (by decide +kernel) ?_
  refine jm_iconst (v := 1) X d_D_monthOf_10 (by decide) ?_
  refine jm_iadd X d_D_monthOf_11 ?_
  refine jm_istore_n X d_D_monthOf_12 rfl (by decide) (lv1 := [(2, .int (((day - (f_D_firstOfMonth y 1)) / 31) + 1)), (0, .int day), (1, .int y)]) rfl ?_
  refine jm_iload_n X d_D_monthOf_13 rfl 0 rfl ?_
  refine jm_bipush (v := 12) X d_D_monthOf_14 (by decide) ?_
  have J37_2 : ∀ (v37 : Int32), v37 = (if 12 ≤ (((day - (f_D_firstOfMonth y 1)) / 31) + 1) then (((day - (f_D_firstOfMonth y 1)) / 31) + 1) else (if day < (f_D_firstOfMonth y ((((day - (f_D_firstOfMonth y 1)) / 31) + 1) + 1)) then (((day - (f_D_firstOfMonth y 1)) / 31) + 1) else ((((day - (f_D_firstOfMonth y 1)) / 31) + 1) + 1)) : Int32) → jm_W p l e ({ frames := 1, cells := 0, slots := 0, locals := 24 }) s m ([.int day, .int y] : List Value).toArray below meth c S D jm_cl (jm_Q S D jm_cl below s (jm_R (some (.int (f_D_monthOf day y))) h) 0 0) 3 37 [(2, .int (((day - (f_D_firstOfMonth y 1)) / 31) + 1)), (0, .int day), (1, .int y)] [.int v37] (h) 0 0 := by
    intro v37 ev37
    exact jm_iret X hr hk d_D_monthOf_37 ⟨(by show Outcome.returned _ = Outcome.returned _; unfold f_D_monthOf; subst ev37; rfl), rfl⟩
  refine jm_icmp_ge (tgt := 36) X d_D_monthOf_16 (by decide) (fun c1 => ?_) (fun c1 => ?_)
  · refine jm_iload_n X d_D_monthOf_36 rfl 0 rfl ?_
    exact J37_2 _ (by first | (simp only [if_pos c1, reduceIte]; done) | (with_reducible rfl))
  · refine jm_iload_n X d_D_monthOf_19 rfl 2 rfl ?_
    refine jm_iload_n X d_D_monthOf_20 rfl 0 rfl ?_
    refine jm_iconst (v := 1) X d_D_monthOf_21 (by decide) ?_
    refine jm_iadd X d_D_monthOf_22 ?_
    refine jm_callS (rest := []) X d_D_monthOf_23 (k_D_firstOfMonth E y ((((day - (f_D_firstOfMonth y 1)) / 31) + 1) + 1) h  ) ci_D_firstOfMonth (Or.inl (jm_g3 209 rfl rfl)) st_D_firstOfMonth rfl (Nat.le_of_ble_eq_true rfl) ⟨(Nat.le_of_ble_eq_true rfl), (Nat.le_of_ble_eq_true rfl)⟩ ⟨rfl, rfl⟩ ⟨(Nat.le_of_ble_eq_true rfl), (Nat.le_of_ble_eq_true rfl)⟩ (jm_k1 ?_)
    refine jm_iload_n X d_D_monthOf_26 rfl 1 rfl ?_
    refine jm_icmp_gt (tgt := 36) X d_D_monthOf_27 (by decide) (fun c3 => ?_) (fun c3 => ?_)
    · refine jm_iload_n X d_D_monthOf_36 rfl 0 rfl ?_
      exact J37_2 _ (by first | (simp only [if_neg c1, if_pos c3, reduceIte]; done) | (with_reducible rfl))
    · refine jm_iload_n X d_D_monthOf_30 rfl 0 rfl ?_
      refine jm_iconst (v := 1) X d_D_monthOf_31 (by decide) ?_
      refine jm_iadd X d_D_monthOf_32 ?_
      refine jm_goto (tgt := 37) X d_D_monthOf_33 (by decide) ?_
      exact J37_2 _ (by first | (simp only [if_neg c1, if_neg c3, reduceIte]; done) | (with_reducible rfl))
