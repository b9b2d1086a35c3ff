theorem fs_B_9 : jm_fs jm_cl jm_G "JobHouse$Job" 9 7 4 (.long) false := ⟨_, jn_T7, 14, jn_y7, rfl, by decide, jn_i7, jn_o7, jn_n7, rfl, rfl, by decide +kernel, Or.inl (jm_g1 220 rfl rfl)⟩
theorem fs_B_15 : jm_fs jm_cl jm_G "JobHouse$Job" 15 7 8 (.int) false := ⟨_, jn_T7, 14, jn_y7, rfl, by decide, jn_i7, jn_o7, jn_n7, rfl, rfl, by decide +kernel, Or.inl (jm_g1 226 rfl rfl)⟩
theorem fs_B_19 : jm_fs jm_cl jm_G "JobHouse$Job" 19 7 2 (.int) false := ⟨_, jn_T7, 14, jn_y7, rfl, by decide, jn_i7, jn_o7, jn_n7, rfl, rfl, by decide +kernel, Or.inl (jm_g1 216 rfl rfl)⟩
theorem fs_B_22 : jm_fs jm_cl jm_G "JobHouse$Job" 22 7 0 (.int) false := ⟨_, jn_T7, 14, jn_y7, rfl, by decide, jn_i7, jn_o7, jn_n7, rfl, rfl, by decide +kernel, Or.inl (jm_g1 212 rfl rfl)⟩
theorem fs_B_25 : jm_fs jm_cl jm_G "JobHouse$Job" 25 7 1 (.int) false := ⟨_, jn_T7, 14, jn_y7, rfl, by decide, jn_i7, jn_o7, jn_n7, rfl, rfl, by decide +kernel, Or.inl (jm_g1 214 rfl rfl)⟩
theorem fs_B_28 : jm_fs jm_cl jm_G "JobHouse$Job" 28 7 3 (.int) false := ⟨_, jn_T7, 14, jn_y7, rfl, by decide, jn_i7, jn_o7, jn_n7, rfl, rfl, by decide +kernel, Or.inl (jm_g1 218 rfl rfl)⟩
theorem fs_B_31 : jm_fs jm_cl jm_G "JobHouse$Job" 31 7 10 (.int) false := ⟨_, jn_T7, 14, jn_y7, rfl, by decide, jn_i7, jn_o7, jn_n7, rfl, rfl, by decide +kernel, Or.inl (jm_g1 230 rfl rfl)⟩
theorem fs_B_34 : jm_fs jm_cl jm_G "JobHouse$Job" 34 7 6 (.long) false := ⟨_, jn_T7, 14, jn_y7, rfl, by decide, jn_i7, jn_o7, jn_n7, rfl, rfl, by decide +kernel, Or.inl (jm_g1 223 rfl rfl)⟩
theorem fs_B_39 : jm_fs jm_cl jm_G "JobHouse$Job" 39 7 9 (.int) false := ⟨_, jn_T7, 14, jn_y7, rfl, by decide, jn_i7, jn_o7, jn_n7, rfl, rfl, by decide +kernel, Or.inl (jm_g1 228 rfl rfl)⟩
theorem fs_L_22 : jm_fs jm_cl jm_G "JobHouse$StartLog" 22 8 3 (.int) false := ⟨_, jn_T8, 5, jn_y8, rfl, by decide, jn_i8, jn_o8, jn_n8, rfl, rfl, by decide +kernel, Or.inl (jm_g1 192 rfl rfl)⟩
theorem fs_L_9 : jm_fs jm_cl jm_G "JobHouse$StartLog" 9 8 0 (.array .long) true := ⟨_, jn_T8, 5, jn_y8, rfl, by decide, jn_i8, jn_o8, jn_n8, rfl, rfl, by decide +kernel, Or.inl (jm_g1 186 rfl rfl)⟩
theorem fs_L_15 : jm_fs jm_cl jm_G "JobHouse$StartLog" 15 8 1 (.array .int) true := ⟨_, jn_T8, 5, jn_y8, rfl, by decide, jn_i8, jn_o8, jn_n8, rfl, rfl, by decide +kernel, Or.inl (jm_g1 188 rfl rfl)⟩
theorem fs_L_19 : jm_fs jm_cl jm_G "JobHouse$StartLog" 19 8 2 (.array .long) true := ⟨_, jn_T8, 5, jn_y8, rfl, by decide, jn_i8, jn_o8, jn_n8, rfl, rfl, by decide +kernel, Or.inl (jm_g1 190 rfl rfl)⟩
theorem fs_L_26 : jm_fs jm_cl jm_G "JobHouse$StartLog" 26 8 4 (.long) false := ⟨_, jn_T8, 5, jn_y8, rfl, by decide, jn_i8, jn_o8, jn_n8, rfl, rfl, by decide +kernel, Or.inl (jm_g1 194 rfl rfl)⟩
def f_B_isAheadOf (sta : Int32) (kin : Int32) (ord : Int32) (sts : Int32) (nom : Int64) (end_ : Int64) (per : Int64) (dur : Int64) (pri : Int32) (pol : Int32) (fai : Int32) (cro : Int32) (zon : Int32) (cal : Int32) (osta : Int32) (okin : Int32) (oord : Int32) (osts : Int32) (onom : Int64) (oend_ : Int64) (oper : Int64) (odur : Int64) (opri : Int32) (opol : Int32) (ofai : Int32) (ocro : Int32) (ozon : Int32) (ocal : Int32) : Int32 :=
  let v74 : Int32 := if oord ≤ ord then 0 else 1
  let v57 : Int32 := if pri ≤ opri then 0 else 1
  let v29 : Int32 := if onom ≤ nom then 0 else 1
  if nom = onom then (if pri = opri then v74 else v57) else v29
set_option maxRecDepth 20000 in
set_option maxHeartbeats 4000000 in
theorem k_B_isAheadOf {l : Launch} {S : State} {D : va_G} {dA : Nat → ClassId} (E : jm_en S D jm_cl (jm_ty dA) jm_G) (a : Nat) (b : Nat) (sta : Int32) (kin : Int32) (ord : Int32) (sts : Int32) (nom : Int64) (end_ : Int64) (per : Int64) (dur : Int64) (pri : Int32) (pol : Int32) (fai : Int32) (cro : Int32) (zon : Int32) (cal : Int32) (osta : Int32) (okin : Int32) (oord : Int32) (osts : Int32) (onom : Int64) (oend_ : Int64) (oper : Int64) (odur : Int64) (opri : Int32) (opol : Int32) (ofai : Int32) (ocro : Int32) (ozon : Int32) (ocal : Int32) (h : jm_H) (h_a : h a = some (.inr (7, [.int sta, .int kin, .int ord, .int sts, .long nom, .long end_, .long per, .long dur, .int pri, .int pol, .int fai, .int cro, .int zon, .int cal]))) (h_b : h b = some (.inr (7, [.int osta, .int okin, .int oord, .int osts, .long onom, .long oend_, .long oper, .long odur, .int opri, .int opol, .int ofai, .int ocro, .int ozon, .int ocal]))) (hnd : ([a, b] : List Nat).Nodup)  : jm_M l S D jm_cl y_B_isAheadOf (Cond.code y_B_isAheadOf b_B_isAheadOf 2 (some FieldType.boolean)) { frames := 0, cells := 0, slots := 0, locals := 0 } [.ref a, .ref b] h (jm_R (some (.int (f_B_isAheadOf sta kin ord sts nom end_ per dur pri pol fai cro zon cal osta okin oord osts onom oend_ oper odur opri opol ofai ocro ozon ocal))) h) 0 0 := by
  refine jm_ofW E (by decide) (Nat.le_of_ble_eq_true rfl) (fun p e s m below meth c X hr hk hmn hout hadm => ?_)
  have X : jm_cx p s m ([.ref a, .ref b] : List Value).toArray c S D jm_cl (jm_ty dA) jm_G b_B_isAheadOf 2 "JobHouse$Job" := X
  have hL : ∀ zz ∈ ([(a, .inr (7, [.int sta, .int kin, .int ord, .int sts, .long nom, .long end_, .long per, .long dur, .int pri, .int pol, .int fai, .int cro, .int zon, .int cal])), (b, .inr (7, [.int osta, .int okin, .int oord, .int osts, .long onom, .long oend_, .long oper, .long odur, .int opri, .int opol, .int ofai, .int ocro, .int ozon, .int ocal]))] : List (Nat × va_E)), h zz.1 = some zz.2 := List.forall_mem_cons.mpr ⟨h_a, List.forall_mem_cons.mpr ⟨h_b, fun _ hz => absurd hz List.not_mem_nil⟩⟩
  refine jm_hq (jm_us_id hL).symm ?_
  show jm_W p l e ({ frames := 0, cells := 0, slots := 0, locals := 0 }) s m ([.ref a, .ref b] : List Value).toArray below meth c S D jm_cl (jm_Q S D jm_cl below s (jm_R (some (.int (f_B_isAheadOf sta kin ord sts nom end_ per dur pri pol fai cro zon cal osta okin oord osts onom oend_ oper odur opri opol ofai ocro ozon ocal))) h) 0 0) 2 0 [(0, .ref a), (1, .ref b)] [] (jm_us h [(a, .inr (7, [.int sta, .int kin, .int ord, .int sts, .long nom, .long end_, .long per, .long dur, .int pri, .int pol, .int fai, .int cro, .int zon, .int cal])), (b, .inr (7, [.int osta, .int okin, .int oord, .int osts, .long onom, .long oend_, .long oper, .long odur, .int opri, .int opol, .int ofai, .int ocro, .int ozon, .int ocal]))]) 0 0
  refine jm_aload_n X d_B_isAheadOf_0 rfl 0 rfl ?_
  refine jm_get X d_B_isAheadOf_1 fs_B_9 (by refine jm_us_get ?_ 0 rfl; exact hnd) rfl ?_
  refine jm_aload_n X d_B_isAheadOf_4 rfl 1 rfl ?_
  refine jm_get X d_B_isAheadOf_5 fs_B_9 (by refine jm_us_get ?_ 1 rfl; exact hnd) rfl ?_
  refine jm_lcmp X d_B_isAheadOf_8 ?_
  refine jm_lif_eq (tgt := 30) X d_B_isAheadOf_9 (by decide) (fun c1 => ?_) (fun c1 => ?_)
  · refine jm_aload_n X d_B_isAheadOf_30 rfl 0 rfl ?_
    refine jm_get X d_B_isAheadOf_31 fs_B_15 (by refine jm_us_get ?_ 0 rfl; exact hnd) rfl ?_
    refine jm_aload_n X d_B_isAheadOf_34 rfl 1 rfl ?_
    refine jm_get X d_B_isAheadOf_35 fs_B_15 (by refine jm_us_get ?_ 1 rfl; exact hnd) rfl ?_
    refine jm_icmp_eq (tgt := 58) X d_B_isAheadOf_38 (by decide) (fun c2 => ?_) (fun c2 => ?_)
    · refine jm_aload_n X d_B_isAheadOf_58 rfl 0 rfl ?_
      refine jm_get X d_B_isAheadOf_59 fs_B_19 (by refine jm_us_get ?_ 0 rfl; exact hnd) rfl ?_
      refine jm_aload_n X d_B_isAheadOf_62 rfl 1 rfl ?_
      refine jm_get X d_B_isAheadOf_63 fs_B_19 (by refine jm_us_get ?_ 1 rfl; exact hnd) rfl ?_
      have J74_4 : ∀ (v74 : Int32), v74 = (if oord ≤ ord then 0 else 1 : Int32) → jm_W p l e ({ frames := 0, cells := 0, slots := 0, locals := 0 }) s m ([.ref a, .ref b] : List Value).toArray below meth c S D jm_cl (jm_Q S D jm_cl below s (jm_R (some (.int (f_B_isAheadOf sta kin ord sts nom end_ per dur pri pol fai cro zon cal osta okin oord osts onom oend_ oper odur opri opol ofai ocro ozon ocal))) h) 0 0) 2 74 [(0, .ref a), (1, .ref b)] [.int v74] (jm_us h [(a, .inr (7, [.int sta, .int kin, .int ord, .int sts, .long nom, .long end_, .long per, .long dur, .int pri, .int pol, .int fai, .int cro, .int zon, .int cal])), (b, .inr (7, [.int osta, .int okin, .int oord, .int osts, .long onom, .long oend_, .long oper, .long odur, .int opri, .int opol, .int ofai, .int ocro, .int ozon, .int ocal]))]) 0 0 := by
        intro v74 ev74
        exact jm_zret X hr (by first | rfl | (subst ev74; (repeat' split) <;> rfl)) hk d_B_isAheadOf_74 ⟨(by show Outcome.returned _ = Outcome.returned _; unfold f_B_isAheadOf; subst ev74; first | (simp only [if_pos c1, if_pos c2, reduceIte]; done) | (simp only [if_pos c1, if_pos c2, reduceIte]; rfl) | rfl), (jm_us_id hL)⟩
      refine jm_icmp_ge (tgt := 73) X d_B_isAheadOf_66 (by decide) (fun c3 => ?_) (fun c3 => ?_)
      · refine jm_iconst (v := 0) X d_B_isAheadOf_73 (by decide) ?_
        exact J74_4 _ (by first | (simp only [if_pos c3, reduceIte]; done) | (with_reducible rfl))
      · refine jm_iconst (v := 1) X d_B_isAheadOf_69 (by decide) ?_
        refine jm_goto (tgt := 74) X d_B_isAheadOf_70 (by decide) ?_
        exact J74_4 _ (by first | (simp only [if_neg c3, reduceIte]; done) | (with_reducible rfl))
    · refine jm_aload_n X d_B_isAheadOf_41 rfl 0 rfl ?_
      refine jm_get X d_B_isAheadOf_42 fs_B_15 (by refine jm_us_get ?_ 0 rfl; exact hnd) rfl ?_
      refine jm_aload_n X d_B_isAheadOf_45 rfl 1 rfl ?_
      refine jm_get X d_B_isAheadOf_46 fs_B_15 (by refine jm_us_get ?_ 1 rfl; exact hnd) rfl ?_
      have J57_6 : ∀ (v57 : Int32), v57 = (if pri ≤ opri then 0 else 1 : Int32) → jm_W p l e ({ frames := 0, cells := 0, slots := 0, locals := 0 }) s m ([.ref a, .ref b] : List Value).toArray below meth c S D jm_cl (jm_Q S D jm_cl below s (jm_R (some (.int (f_B_isAheadOf sta kin ord sts nom end_ per dur pri pol fai cro zon cal osta okin oord osts onom oend_ oper odur opri opol ofai ocro ozon ocal))) h) 0 0) 2 57 [(0, .ref a), (1, .ref b)] [.int v57] (jm_us h [(a, .inr (7, [.int sta, .int kin, .int ord, .int sts, .long nom, .long end_, .long per, .long dur, .int pri, .int pol, .int fai, .int cro, .int zon, .int cal])), (b, .inr (7, [.int osta, .int okin, .int oord, .int osts, .long onom, .long oend_, .long oper, .long odur, .int opri, .int opol, .int ofai, .int ocro, .int ozon, .int ocal]))]) 0 0 := by
        intro v57 ev57
        exact jm_zret X hr (by first | rfl | (subst ev57; (repeat' split) <;> rfl)) hk d_B_isAheadOf_57 ⟨(by show Outcome.returned _ = Outcome.returned _; unfold f_B_isAheadOf; subst ev57; first | (simp only [if_pos c1, if_neg c2, reduceIte]; done) | (simp only [if_pos c1, if_neg c2, reduceIte]; rfl) | rfl), (jm_us_id hL)⟩
      refine jm_icmp_le (tgt := 56) X d_B_isAheadOf_49 (by decide) (fun c5 => ?_) (fun c5 => ?_)
      · refine jm_iconst (v := 0) X d_B_isAheadOf_56 (by decide) ?_
        exact J57_6 _ (by first | (simp only [if_pos c5, reduceIte]; done) | (with_reducible rfl))
      · refine jm_iconst (v := 1) X d_B_isAheadOf_52 (by decide) ?_
        refine jm_goto (tgt := 57) X d_B_isAheadOf_53 (by decide) ?_
        exact J57_6 _ (by first | (simp only [if_neg c5, reduceIte]; done) | (with_reducible rfl))
  · refine jm_aload_n X d_B_isAheadOf_12 rfl 0 rfl ?_
    refine jm_get X d_B_isAheadOf_13 fs_B_9 (by refine jm_us_get ?_ 0 rfl; exact hnd) rfl ?_
    refine jm_aload_n X d_B_isAheadOf_16 rfl 1 rfl ?_
    refine jm_get X d_B_isAheadOf_17 fs_B_9 (by refine jm_us_get ?_ 1 rfl; exact hnd) rfl ?_
    refine jm_lcmp X d_B_isAheadOf_20 ?_
    have J29_8 : ∀ (v29 : Int32), v29 = (if onom ≤ nom then 0 else 1 : Int32) → jm_W p l e ({ frames := 0, cells := 0, slots := 0, locals := 0 }) s m ([.ref a, .ref b] : List Value).toArray below meth c S D jm_cl (jm_Q S D jm_cl below s (jm_R (some (.int (f_B_isAheadOf sta kin ord sts nom end_ per dur pri pol fai cro zon cal osta okin oord osts onom oend_ oper odur opri opol ofai ocro ozon ocal))) h) 0 0) 2 29 [(0, .ref a), (1, .ref b)] [.int v29] (jm_us h [(a, .inr (7, [.int sta, .int kin, .int ord, .int sts, .long nom, .long end_, .long per, .long dur, .int pri, .int pol, .int fai, .int cro, .int zon, .int cal])), (b, .inr (7, [.int osta, .int okin, .int oord, .int osts, .long onom, .long oend_, .long oper, .long odur, .int opri, .int opol, .int ofai, .int ocro, .int ozon, .int ocal]))]) 0 0 := by
      intro v29 ev29
      exact jm_zret X hr (by first | rfl | (subst ev29; (repeat' split) <;> rfl)) hk d_B_isAheadOf_29 ⟨(by show Outcome.returned _ = Outcome.returned _; unfold f_B_isAheadOf; subst ev29; first | (simp only [if_neg c1, reduceIte]; done) | (simp only [if_neg c1, reduceIte]; rfl) | rfl), (jm_us_id hL)⟩
    refine jm_lif_ge (tgt := 28) X d_B_isAheadOf_21 (by decide) (fun c7 => ?_) (fun c7 => ?_)
    · refine jm_iconst (v := 0) X d_B_isAheadOf_28 (by decide) ?_
      exact J29_8 _ (by first | (simp only [if_pos c7, reduceIte]; done) | (with_reducible rfl))
    · refine jm_iconst (v := 1) X d_B_isAheadOf_24 (by decide) ?_
      refine jm_goto (tgt := 29) X d_B_isAheadOf_25 (by decide) ?_
      exact J29_8 _ (by first | (simp only [if_neg c7, reduceIte]; done) | (with_reducible rfl))
def f_B_isOver (sta : Int32) (kin : Int32) (ord : Int32) (sts : Int32) (nom : Int64) (end_ : Int64) (per : Int64) (dur : Int64) (pri : Int32) (pol : Int32) (fai : Int32) (cro : Int32) (zon : Int32) (cal : Int32) : Int32 :=
  let v31 : Int32 := if sta = 3 then 1 else (if kin = 0 then 1 else (if sts = fai then 1 else 0))
  v31
set_option maxRecDepth 20000 in
set_option maxHeartbeats 4000000 in
theorem k_B_isOver {l : Launch} {S : State} {D : va_G} {dA : Nat → ClassId} (E : jm_en S D jm_cl (jm_ty dA) jm_G) (a : Nat) (sta : Int32) (kin : Int32) (ord : Int32) (sts : Int32) (nom : Int64) (end_ : Int64) (per : Int64) (dur : Int64) (pri : Int32) (pol : Int32) (fai : Int32) (cro : Int32) (zon : Int32) (cal : Int32) (h : jm_H) (h_a : h a = some (.inr (7, [.int sta, .int kin, .int ord, .int sts, .long nom, .long end_, .long per, .long dur, .int pri, .int pol, .int fai, .int cro, .int zon, .int cal]))) (hnd : ([a] : List Nat).Nodup)  : jm_M l S D jm_cl y_B_isOver (Cond.code y_B_isOver b_B_isOver 1 (some FieldType.boolean)) { frames := 0, cells := 0, slots := 0, locals := 0 } [.ref a] h (jm_R (some (.int (f_B_isOver sta kin ord sts nom end_ per dur pri pol fai cro zon cal))) h) 0 0 := by
  refine jm_ofW E (by decide) (Nat.le_of_ble_eq_true rfl) (fun p e s m below meth c X hr hk hmn hout hadm => ?_)
  have X : jm_cx p s m ([.ref a] : List Value).toArray c S D jm_cl (jm_ty dA) jm_G b_B_isOver 1 "JobHouse$Job" := X
  have hL : ∀ zz ∈ ([(a, .inr (7, [.int sta, .int kin, .int ord, .int sts, .long nom, .long end_, .long per, .long dur, .int pri, .int pol, .int fai, .int cro, .int zon, .int cal]))] : List (Nat × va_E)), h zz.1 = some zz.2 := List.forall_mem_cons.mpr ⟨h_a, fun _ hz => absurd hz List.not_mem_nil⟩
  refine jm_hq (jm_us_id hL).symm ?_
  show jm_W p l e ({ frames := 0, cells := 0, slots := 0, locals := 0 }) s m ([.ref a] : List Value).toArray below meth c S D jm_cl (jm_Q S D jm_cl below s (jm_R (some (.int (f_B_isOver sta kin ord sts nom end_ per dur pri pol fai cro zon cal))) h) 0 0) 1 0 [(0, .ref a)] [] (jm_us h [(a, .inr (7, [.int sta, .int kin, .int ord, .int sts, .long nom, .long end_, .long per, .long dur, .int pri, .int pol, .int fai, .int cro, .int zon, .int cal]))]) 0 0
  refine jm_aload_n X d_B_isOver_0 rfl 0 rfl ?_
  refine jm_get X d_B_isOver_1 fs_B_22 (by refine jm_us_get ?_ 0 rfl; exact hnd) rfl ?_
  refine jm_iconst (v := 3) X d_B_isOver_4 (by decide) ?_
  have J31_2 : ∀ (v31 : Int32), v31 = (if sta = 3 then 1 else (if kin = 0 then 1 else (if sts = fai then 1 else 0)) : Int32) → jm_W p l e ({ frames := 0, cells := 0, slots := 0, locals := 0 }) s m ([.ref a] : List Value).toArray below meth c S D jm_cl (jm_Q S D jm_cl below s (jm_R (some (.int (f_B_isOver sta kin ord sts nom end_ per dur pri pol fai cro zon cal))) h) 0 0) 1 31 [(0, .ref a)] [.int v31] (jm_us h [(a, .inr (7, [.int sta, .int kin, .int ord, .int sts, .long nom, .long end_, .long per, .long dur, .int pri, .int pol, .int fai, .int cro, .int zon, .int cal]))]) 0 0 := by
    intro v31 ev31
    exact jm_zret X hr (by first | rfl | (subst ev31; (repeat' split) <;> rfl)) hk d_B_isOver_31 ⟨(by show Outcome.returned _ = Outcome.returned _; unfold f_B_isOver; subst ev31; rfl), (jm_us_id hL)⟩
  refine jm_icmp_eq (tgt := 26) X d_B_isOver_5 (by decide) (fun c1 => ?_) (fun c1 => ?_)
  · refine jm_iconst (v := 1) X d_B_isOver_26 (by decide) ?_
    refine jm_goto (tgt := 31) X d_B_isOver_27 (by decide) ?_
    exact J31_2 _ (by first | (simp only [if_pos c1, reduceIte]; done) | (with_reducible rfl))
  · refine jm_aload_n X d_B_isOver_8 rfl 0 rfl ?_
    refine jm_get X d_B_isOver_9 fs_B_25 (by refine jm_us_get ?_ 0 rfl; exact hnd) rfl ?_
    refine jm_if_eq (tgt := 26) X d_B_isOver_12 (by decide) (fun c3 => ?_) (fun c3 => ?_)
    · refine jm_iconst (v := 1) X d_B_isOver_26 (by decide) ?_
      refine jm_goto (tgt := 31) X d_B_isOver_27 (by decide) ?_
      exact J31_2 _ (by first | (simp only [if_neg c1, if_pos c3, reduceIte]; done) | (with_reducible rfl))
    · refine jm_aload_n X d_B_isOver_15 rfl 0 rfl ?_
      refine jm_get X d_B_isOver_16 fs_B_28 (by refine jm_us_get ?_ 0 rfl; exact hnd) rfl ?_
      refine jm_aload_n X d_B_isOver_19 rfl 0 rfl ?_
      refine jm_get X d_B_isOver_20 fs_B_31 (by refine jm_us_get ?_ 0 rfl; exact hnd) rfl ?_
      refine jm_icmp_ne (tgt := 30) X d_B_isOver_23 (by decide) (fun c4 => ?_) (fun c4 => ?_)
      · refine jm_iconst (v := 0) X d_B_isOver_30 (by decide) ?_
        exact J31_2 _ (by first | (simp only [if_neg c1, if_neg c3, if_neg c4, reduceIte]; done) | (with_reducible rfl))
      · refine jm_iconst (v := 1) X d_B_isOver_26 (by decide) ?_
        refine jm_goto (tgt := 31) X d_B_isOver_27 (by decide) ?_
        exact J31_2 _ (by first | (simp only [if_neg c1, if_neg c3, if_pos c4, reduceIte]; done) | (with_reducible rfl))
def f_B_rateTimeBehind (ti : Int64) (sta : Int32) (kin : Int32) (ord : Int32) (sts : Int32) (nom : Int64) (end_ : Int64) (per : Int64) (dur : Int64) (pri : Int32) (pol : Int32) (fai : Int32) (cro : Int32) (zon : Int32) (cal : Int32) : Int64 :=
  if ((1 : Int64)) ≤ per then (if pol = 2 then (nom + ((((ti - nom) / per) + 1) * per)) else (if pol = 1 then (if ((ti - nom) / per) ≤ 1 then (nom + per) else (nom + (((ti - nom) / per) * per))) else (nom + per))) else (-1)
set_option maxRecDepth 20000 in
set_option maxHeartbeats 4000000 in
theorem k_B_rateTimeBehind {l : Launch} {S : State} {D : va_G} {dA : Nat → ClassId} (E : jm_en S D jm_cl (jm_ty dA) jm_G) (a : Nat) (ti : Int64) (sta : Int32) (kin : Int32) (ord : Int32) (sts : Int32) (nom : Int64) (end_ : Int64) (per : Int64) (dur : Int64) (pri : Int32) (pol : Int32) (fai : Int32) (cro : Int32) (zon : Int32) (cal : Int32) (h : jm_H) (h_a : h a = some (.inr (7, [.int sta, .int kin, .int ord, .int sts, .long nom, .long end_, .long per, .long dur, .int pri, .int pol, .int fai, .int cro, .int zon, .int cal]))) (hnd : ([a] : List Nat).Nodup)  : jm_M l S D jm_cl y_B_rateTimeBehind (Cond.code y_B_rateTimeBehind b_B_rateTimeBehind 5 (some FieldType.long)) { frames := 0, cells := 0, slots := 0, locals := 0 } [.ref a, .long ti] h (jm_R (some (.long (f_B_rateTimeBehind ti sta kin ord sts nom end_ per dur pri pol fai cro zon cal))) h) 0 0 := by
  refine jm_ofW E (by decide) (Nat.le_of_ble_eq_true rfl) (fun p e s m below meth c X hr hk hmn hout hadm => ?_)
  have X : jm_cx p s m ([.ref a, .long ti] : List Value).toArray c S D jm_cl (jm_ty dA) jm_G b_B_rateTimeBehind 5 "JobHouse$Job" := X
  have hL : ∀ zz ∈ ([(a, .inr (7, [.int sta, .int kin, .int ord, .int sts, .long nom, .long end_, .long per, .long dur, .int pri, .int pol, .int fai, .int cro, .int zon, .int cal]))] : List (Nat × va_E)), h zz.1 = some zz.2 := List.forall_mem_cons.mpr ⟨h_a, fun _ hz => absurd hz List.not_mem_nil⟩
  refine jm_hq (jm_us_id hL).symm ?_
  show jm_W p l e ({ frames := 0, cells := 0, slots := 0, locals := 0 }) s m ([.ref a, .long ti] : List Value).toArray below meth c S D jm_cl (jm_Q S D jm_cl below s (jm_R (some (.long (f_B_rateTimeBehind ti sta kin ord sts nom end_ per dur pri pol fai cro zon cal))) h) 0 0) 5 0 [(0, .ref a), (1, .long ti)] [] (jm_us h [(a, .inr (7, [.int sta, .int kin, .int ord, .int sts, .long nom, .long end_, .long per, .long dur, .int pri, .int pol, .int fai, .int cro, .int zon, .int cal]))]) 0 0
  refine jm_aload_n X d_B_rateTimeBehind_0 rfl 0 rfl ?_
  refine jm_get X d_B_rateTimeBehind_1 fs_B_34 (by refine jm_us_get ?_ 0 rfl; exact hnd) rfl ?_
  refine jm_lconst (v := 1) X d_B_rateTimeBehind_4 (by decide) ?_
  refine jm_lcmp X d_B_rateTimeBehind_5 ?_
  refine jm_lif_ge (tgt := 13) X d_B_rateTimeBehind_6 (by decide) (fun c1 => ?_) (fun c1 => ?_)
  · refine jm_lload_n X d_B_rateTimeBehind_13 rfl 1 rfl ?_
    refine jm_aload_n X d_B_rateTimeBehind_14 rfl 0 rfl ?_
    refine jm_get X d_B_rateTimeBehind_15 fs_B_9 (by refine jm_us_get ?_ 0 rfl; exact hnd) rfl ?_
    refine jm_lsub X d_B_rateTimeBehind_18 ?_
    refine jm_aload_n X d_B_rateTimeBehind_19 rfl 0 rfl ?_
    refine jm_get X d_B_rateTimeBehind_20 fs_B_34 (by refine jm_us_get ?_ 0 rfl; exact hnd) rfl ?_
    refine jm_ldiv X d_B_rateTimeBehind_23 (by intro q; rw [q] at c1; revert c1; decide) ?_
    refine jm_lstore_n X d_B_rateTimeBehind_24 rfl (by decide) (lv1 := [(3, .long ((ti - nom) / per)), (0, .ref a), (1, .long ti)]) rfl ?_
    refine jm_aload_n X d_B_rateTimeBehind_25 rfl 1 rfl ?_
    refine jm_get X d_B_rateTimeBehind_26 fs_B_39 (by refine jm_us_get ?_ 0 rfl; exact hnd) rfl ?_
    refine jm_iconst (v := 2) X d_B_rateTimeBehind_29 (by decide) ?_
    refine jm_icmp_ne (tgt := 47) X d_B_rateTimeBehind_30 (by decide) (fun c2 => ?_) (fun c2 => ?_)
    · refine jm_aload_n X d_B_rateTimeBehind_47 rfl 1 rfl ?_
      refine jm_get X d_B_rateTimeBehind_48 fs_B_39 (by refine jm_us_get ?_ 0 rfl; exact hnd) rfl ?_
      refine jm_iconst (v := 1) X d_B_rateTimeBehind_51 (by decide) ?_
      refine jm_icmp_ne (tgt := 73) X d_B_rateTimeBehind_52 (by decide) (fun c3 => ?_) (fun c3 => ?_)
      · refine jm_aload_n X d_B_rateTimeBehind_73 rfl 1 rfl ?_
        refine jm_get X d_B_rateTimeBehind_74 fs_B_9 (by refine jm_us_get ?_ 0 rfl; exact hnd) rfl ?_
        refine jm_aload_n X d_B_rateTimeBehind_77 rfl 1 rfl ?_
        refine jm_get X d_B_rateTimeBehind_78 fs_B_34 (by refine jm_us_get ?_ 0 rfl; exact hnd) rfl ?_
        refine jm_ladd X d_B_rateTimeBehind_81 ?_
        exact jm_lret X hr hk d_B_rateTimeBehind_82 ⟨(by show Outcome.returned _ = Outcome.returned _; unfold f_B_rateTimeBehind; first | (simp only [if_pos c1, if_neg c2, if_neg c3, reduceIte]; done) | (simp only [if_pos c1, if_neg c2, if_neg c3, reduceIte]; rfl) | rfl), (jm_us_id hL)⟩
      · refine jm_lload_n X d_B_rateTimeBehind_55 rfl 0 rfl ?_
        refine jm_lconst (v := 1) X d_B_rateTimeBehind_56 (by decide) ?_
        refine jm_lcmp X d_B_rateTimeBehind_57 ?_
        refine jm_lif_le (tgt := 73) X d_B_rateTimeBehind_58 (by decide) (fun c4 => ?_) (fun c4 => ?_)
        · refine jm_aload_n X d_B_rateTimeBehind_73 rfl 1 rfl ?_
          refine jm_get X d_B_rateTimeBehind_74 fs_B_9 (by refine jm_us_get ?_ 0 rfl; exact hnd) rfl ?_
          refine jm_aload_n X d_B_rateTimeBehind_77 rfl 1 rfl ?_
          refine jm_get X d_B_rateTimeBehind_78 fs_B_34 (by refine jm_us_get ?_ 0 rfl; exact hnd) rfl ?_
          refine jm_ladd X d_B_rateTimeBehind_81 ?_
          exact jm_lret X hr hk d_B_rateTimeBehind_82 ⟨(by show Outcome.returned _ = Outcome.returned _; unfold f_B_rateTimeBehind; first | (simp only [if_pos c1, if_neg c2, if_pos c3, if_pos c4, reduceIte]; done) | (simp only [if_pos c1, if_neg c2, if_pos c3, if_pos c4, reduceIte]; rfl) | rfl), (jm_us_id hL)⟩
        · refine jm_aload_n X d_B_rateTimeBehind_61 rfl 1 rfl ?_
          refine jm_get X d_B_rateTimeBehind_62 fs_B_9 (by refine jm_us_get ?_ 0 rfl; exact hnd) rfl ?_
          refine jm_lload_n X d_B_rateTimeBehind_65 rfl 0 rfl ?_
          refine jm_aload_n X d_B_rateTimeBehind_66 rfl 1 rfl ?_
          refine jm_get X d_B_rateTimeBehind_67 fs_B_34 (by refine jm_us_get ?_ 0 rfl; exact hnd) rfl ?_
          refine jm_lmul X d_B_rateTimeBehind_70 ?_
          refine jm_ladd X d_B_rateTimeBehind_71 ?_
          exact jm_lret X hr hk d_B_rateTimeBehind_72 ⟨(by show Outcome.returned _ = Outcome.returned _; unfold f_B_rateTimeBehind; first | (simp only [if_pos c1, if_neg c2, if_pos c3, if_neg c4, reduceIte]; done) | (simp only [if_pos c1, if_neg c2, if_pos c3, if_neg c4, reduceIte]; rfl) | rfl), (jm_us_id hL)⟩
    · refine jm_aload_n X d_B_rateTimeBehind_33 rfl 1 rfl ?_
      refine jm_get X d_B_rateTimeBehind_34 fs_B_9 (by refine jm_us_get ?_ 0 rfl; exact hnd) rfl ?_
      refine jm_lload_n X d_B_rateTimeBehind_37 rfl 0 rfl ?_
      refine jm_lconst (v := 1) X d_B_rateTimeBehind_38 (by decide) ?_
      refine jm_ladd X d_B_rateTimeBehind_39 ?_
      refine jm_aload_n X d_B_rateTimeBehind_40 rfl 1 rfl ?_
      refine jm_get X d_B_rateTimeBehind_41 fs_B_34 (by refine jm_us_get ?_ 0 rfl; exact hnd) rfl ?_
      refine jm_lmul X d_B_rateTimeBehind_44 ?_
      refine jm_ladd X d_B_rateTimeBehind_45 ?_
      exact jm_lret X hr hk d_B_rateTimeBehind_46 ⟨(by show Outcome.returned _ = Outcome.returned _; unfold f_B_rateTimeBehind; first | (simp only [if_pos c1, if_pos c2, reduceIte]; done) | (simp only [if_pos c1, if_pos c2, reduceIte]; rfl) | rfl), (jm_us_id hL)⟩
  · refine jm_ldc2 (v := (-1)) X d_B_rateTimeBehind_9 (jm_g5 3 rfl rfl) ?_
    exact jm_lret X hr hk d_B_rateTimeBehind_12 ⟨(by show Outcome.returned _ = Outcome.returned _; unfold f_B_rateTimeBehind; first | (simp only [if_neg c1, reduceIte]; done) | (simp only [if_neg c1, reduceIte]; rfl) | rfl), (jm_us_id hL)⟩
def f_L_add_a_3 (ti : Int64) (sl : Int32) (no : Int64) (siz : Int32) (tot : Int64) (tf : Nat → Int64) (sf : Nat → Int32) (nf : Nat → Int64) : Int32 :=
  let v61 : Int32 := if 500 ≤ siz then siz else (siz + 1)
  v61
def f_L_add_a_4 (ti : Int64) (sl : Int32) (no : Int64) (siz : Int32) (tot : Int64) (tf : Nat → Int64) (sf : Nat → Int32) (nf : Nat → Int64) : Int64 :=
  let v61_1 : Int64 := if 500 ≤ siz then tot else (tot + 1)
  v61_1
def f_L_add_tq (ti : Int64) (sl : Int32) (no : Int64) (siz : Int32) (tot : Int64) (tf : Nat → Int64) (sf : Nat → Int32) (nf : Nat → Int64) : Nat → Int64 :=
  let v61_2 : Nat → Int64 := if 500 ≤ siz then tf else (vp_updL tf (siz : Int32).toNatClampNeg ti)
  v61_2
def f_L_add_sq (ti : Int64) (sl : Int32) (no : Int64) (siz : Int32) (tot : Int64) (tf : Nat → Int64) (sf : Nat → Int32) (nf : Nat → Int64) : Nat → Int32 :=
  let v61_3 : Nat → Int32 := if 500 ≤ siz then sf else (upd sf (siz : Int32).toNatClampNeg sl)
  v61_3
def f_L_add_nq (ti : Int64) (sl : Int32) (no : Int64) (siz : Int32) (tot : Int64) (tf : Nat → Int64) (sf : Nat → Int32) (nf : Nat → Int64) : Nat → Int64 :=
  let v61_4 : Nat → Int64 := if 500 ≤ siz then nf else (vp_updL nf (siz : Int32).toNatClampNeg no)
  v61_4
set_option maxRecDepth 20000 in
set_option maxHeartbeats 4000000 in
theorem k_L_add {l : Launch} {S : State} {D : va_G} {dA : Nat → ClassId} (E : jm_en S D jm_cl (jm_ty dA) jm_G) (a : Nat) (ti : Int64) (sl : Int32) (no : Int64) (tq : Nat) (sq : Nat) (nq : Nat) (siz : Int32) (tot : Int64) (tf : Nat → Int64) (sf : Nat → Int32) (nf : Nat → Int64) (h : jm_H) (h_a : h a = some (.inr (8, [.ref tq, .ref sq, .ref nq, .int siz, .long tot]))) (h_tq : h tq = some (.inl (dA 3, 500, .inr (.inl tf)))) (h_sq : h sq = some (.inl (dA 2, 500, .inl sf))) (h_nq : h nq = some (.inl (dA 3, 500, .inr (.inl nf)))) (hnd : ([a, tq, sq, nq] : List Nat).Nodup) (p1 : 0 ≤ siz) : jm_M l S D jm_cl y_L_add (Cond.code y_L_add b_L_add 6 (none)) { frames := 0, cells := 0, slots := 0, locals := 0 } [.ref a, .long ti, .int sl, .long no] h (jm_R none (jm_us h [(a, .inr (8, [.ref tq, .ref sq, .ref nq, .int (f_L_add_a_3 ti sl no siz tot tf sf nf), .long (f_L_add_a_4 ti sl no siz tot tf sf nf)])), (tq, .inl (dA 3, 500, .inr (.inl (f_L_add_tq ti sl no siz tot tf sf nf)))), (sq, .inl (dA 2, 500, .inl (f_L_add_sq ti sl no siz tot tf sf nf))), (nq, .inl (dA 3, 500, .inr (.inl (f_L_add_nq ti sl no siz tot tf sf nf))))])) 0 0 := by
  refine jm_ofW E (by decide) (Nat.le_of_ble_eq_true rfl) (fun p e s m below meth c X hr hk hmn hout hadm => ?_)
  have X : jm_cx p s m ([.ref a, .long ti, .int sl, .long no] : List Value).toArray c S D jm_cl (jm_ty dA) jm_G b_L_add 6 "JobHouse$StartLog" := X
  have hL : ∀ zz ∈ ([(a, .inr (8, [.ref tq, .ref sq, .ref nq, .int siz, .long tot])), (tq, .inl (dA 3, 500, .inr (.inl tf))), (sq, .inl (dA 2, 500, .inl sf)), (nq, .inl (dA 3, 500, .inr (.inl nf)))] : List (Nat × va_E)), h zz.1 = some zz.2 := List.forall_mem_cons.mpr ⟨h_a, List.forall_mem_cons.mpr ⟨h_tq, List.forall_mem_cons.mpr ⟨h_sq, List.forall_mem_cons.mpr ⟨h_nq, fun _ hz => absurd hz List.not_mem_nil⟩⟩⟩⟩
  refine jm_hq (jm_us_id hL).symm ?_
  show jm_W p l e ({ frames := 0, cells := 0, slots := 0, locals := 0 }) s m ([.ref a, .long ti, .int sl, .long no] : List Value).toArray below meth c S D jm_cl (jm_Q S D jm_cl below s (jm_R none (jm_us h [(a, .inr (8, [.ref tq, .ref sq, .ref nq, .int (f_L_add_a_3 ti sl no siz tot tf sf nf), .long (f_L_add_a_4 ti sl no siz tot tf sf nf)])), (tq, .inl (dA 3, 500, .inr (.inl (f_L_add_tq ti sl no siz tot tf sf nf)))), (sq, .inl (dA 2, 500, .inl (f_L_add_sq ti sl no siz tot tf sf nf))), (nq, .inl (dA 3, 500, .inr (.inl (f_L_add_nq ti sl no siz tot tf sf nf))))])) 0 0) 6 0 [(0, .ref a), (1, .long ti), (3, .int sl), (4, .long no)] [] (jm_us h [(a, .inr (8, [.ref tq, .ref sq, .ref nq, .int siz, .long tot])), (tq, .inl (dA 3, 500, .inr (.inl tf))), (sq, .inl (dA 2, 500, .inl sf)), (nq, .inl (dA 3, 500, .inr (.inl nf)))]) 0 0
  refine jm_aload_n X d_L_add_0 rfl 0 rfl ?_
  refine jm_get X d_L_add_1 fs_L_22 (by refine jm_us_get ?_ 0 rfl; exact hnd) rfl ?_
  refine jm_sipush (v := 500) X d_L_add_4 (by decide) ?_
  have J61_2 : ∀ (v61 : Int32) (v61_1 : Int64) (v61_2 : Nat → Int64) (v61_3 : Nat → Int32) (v61_4 : Nat → Int64), v61 = (if 500 ≤ siz then siz else (siz + 1) : Int32) → v61_1 = (if 500 ≤ siz then tot else (tot + 1) : Int64) → v61_2 = (if 500 ≤ siz then tf else (vp_updL tf (siz : Int32).toNatClampNeg ti) : Nat → Int64) → v61_3 = (if 500 ≤ siz then sf else (upd sf (siz : Int32).toNatClampNeg sl) : Nat → Int32) → v61_4 = (if 500 ≤ siz then nf else (vp_updL nf (siz : Int32).toNatClampNeg no) : Nat → Int64) → jm_W p l e ({ frames := 0, cells := 0, slots := 0, locals := 0 }) s m ([.ref a, .long ti, .int sl, .long no] : List Value).toArray below meth c S D jm_cl (jm_Q S D jm_cl below s (jm_R none (jm_us h [(a, .inr (8, [.ref tq, .ref sq, .ref nq, .int (f_L_add_a_3 ti sl no siz tot tf sf nf), .long (f_L_add_a_4 ti sl no siz tot tf sf nf)])), (tq, .inl (dA 3, 500, .inr (.inl (f_L_add_tq ti sl no siz tot tf sf nf)))), (sq, .inl (dA 2, 500, .inl (f_L_add_sq ti sl no siz tot tf sf nf))), (nq, .inl (dA 3, 500, .inr (.inl (f_L_add_nq ti sl no siz tot tf sf nf))))])) 0 0) 6 61 [(0, .ref a), (1, .long ti), (3, .int sl), (4, .long no)] [] (jm_us h [(a, .inr (8, [.ref tq, .ref sq, .ref nq, .int v61, .long v61_1])), (tq, .inl (dA 3, 500, .inr (.inl v61_2))), (sq, .inl (dA 2, 500, .inl v61_3)), (nq, .inl (dA 3, 500, .inr (.inl v61_4)))]) 0 0 := by
    intro v61 v61_1 v61_2 v61_3 v61_4 ev61 ev61_1 ev61_2 ev61_3 ev61_4
    exact jm_vret X hr hk d_L_add_61 ⟨rfl, (by show jm_us h _ = jm_us h _; unfold f_L_add_a_3 f_L_add_a_4 f_L_add_tq f_L_add_sq f_L_add_nq; subst ev61_4; subst ev61_3; subst ev61_2; subst ev61_1; subst ev61; rfl)⟩
  refine jm_icmp_ge (tgt := 61) X d_L_add_7 (by decide) (fun c1 => ?_) (fun c1 => ?_)
  · exact J61_2 _ _ _ _ _ (by first | (simp only [if_pos c1, reduceIte]; done) | (with_reducible rfl)) (by first | (simp only [if_pos c1, reduceIte]; done) | (with_reducible rfl)) (by first | (simp only [if_pos c1, reduceIte]; done) | (with_reducible rfl)) (by first | (simp only [if_pos c1, reduceIte]; done) | (with_reducible rfl)) (by first | (simp only [if_pos c1, reduceIte]; done) | (with_reducible rfl))
  · refine jm_aload_n X d_L_add_10 rfl 0 rfl ?_
    refine jm_get X d_L_add_11 fs_L_9 (by refine jm_us_get ?_ 0 rfl; exact hnd) rfl ?_
    refine jm_aload_n X d_L_add_14 rfl 0 rfl ?_
    refine jm_get X d_L_add_15 fs_L_22 (by refine jm_us_get ?_ 0 rfl; exact hnd) rfl ?_
    refine jm_lload_n X d_L_add_18 rfl 1 rfl ?_
    refine jm_last (t0 := 3) X d_L_add_19 rfl (by refine jm_us_get ?_ 1 rfl; exact hnd) (jm_in (M := 500) p1 c1 (by decide) rfl) (jm_hq (by refine jm_us_set ?_ 1 (L1 := [(a, .inr (8, [.ref tq, .ref sq, .ref nq, .int siz, .long tot])), (tq, .inl (dA 3, 500, .inr (.inl (vp_updL tf (siz : Int32).toNatClampNeg ti)))), (sq, .inl (dA 2, 500, .inl sf)), (nq, .inl (dA 3, 500, .inr (.inl nf)))]) rfl rfl; exact hnd) ?_)
    refine jm_aload_n X d_L_add_20 rfl 0 rfl ?_
    refine jm_get X d_L_add_21 fs_L_15 (by refine jm_us_get ?_ 0 rfl; exact hnd) rfl ?_
    refine jm_aload_n X d_L_add_24 rfl 0 rfl ?_
    refine jm_get X d_L_add_25 fs_L_22 (by refine jm_us_get ?_ 0 rfl; exact hnd) rfl ?_
    refine jm_iload_n X d_L_add_28 rfl 2 rfl ?_
    refine jm_iast (t0 := 2) X d_L_add_29 rfl (by refine jm_us_get ?_ 2 rfl; exact hnd) (jm_in (M := 500) p1 c1 (by decide) rfl) (jm_hq (by refine jm_us_set ?_ 2 (L1 := [(a, .inr (8, [.ref tq, .ref sq, .ref nq, .int siz, .long tot])), (tq, .inl (dA 3, 500, .inr (.inl (vp_updL tf (siz : Int32).toNatClampNeg ti)))), (sq, .inl (dA 2, 500, .inl (upd sf (siz : Int32).toNatClampNeg sl))), (nq, .inl (dA 3, 500, .inr (.inl nf)))]) rfl rfl; exact hnd) ?_)
    refine jm_aload_n X d_L_add_30 rfl 0 rfl ?_
    refine jm_get X d_L_add_31 fs_L_19 (by refine jm_us_get ?_ 0 rfl; exact hnd) rfl ?_
    refine jm_aload_n X d_L_add_34 rfl 0 rfl ?_
    refine jm_get X d_L_add_35 fs_L_22 (by refine jm_us_get ?_ 0 rfl; exact hnd) rfl ?_
    refine jm_lload X d_L_add_38 3 rfl ?_
    refine jm_last (t0 := 3) X d_L_add_40 rfl (by refine jm_us_get ?_ 3 rfl; exact hnd) (jm_in (M := 500) p1 c1 (by decide) rfl) (jm_hq (by refine jm_us_set ?_ 3 (L1 := [(a, .inr (8, [.ref tq, .ref sq, .ref nq, .int siz, .long tot])), (tq, .inl (dA 3, 500, .inr (.inl (vp_updL tf (siz : Int32).toNatClampNeg ti)))), (sq, .inl (dA 2, 500, .inl (upd sf (siz : Int32).toNatClampNeg sl))), (nq, .inl (dA 3, 500, .inr (.inl (vp_updL nf (siz : Int32).toNatClampNeg no))))]) rfl rfl; exact hnd) ?_)
    refine jm_aload_n X d_L_add_41 rfl 0 rfl ?_
    refine jm_dup X d_L_add_42 rfl ?_
    refine jm_get X d_L_add_43 fs_L_22 (by refine jm_us_get ?_ 0 rfl; exact hnd) rfl ?_
    refine jm_iconst (v := 1) X d_L_add_46 (by decide) ?_
    refine jm_iadd X d_L_add_47 ?_
    refine jm_put X d_L_add_48 fs_L_22 (by refine jm_us_get ?_ 0 rfl; exact hnd) rfl rfl (Nat.le_of_ble_eq_true rfl) (fs1 := [.ref tq, .ref sq, .ref nq, .int (siz + 1), .long tot]) rfl (jm_hq (by refine jm_us_set ?_ 0 (L1 := [(a, .inr (8, [.ref tq, .ref sq, .ref nq, .int (siz + 1), .long tot])), (tq, .inl (dA 3, 500, .inr (.inl (vp_updL tf (siz : Int32).toNatClampNeg ti)))), (sq, .inl (dA 2, 500, .inl (upd sf (siz : Int32).toNatClampNeg sl))), (nq, .inl (dA 3, 500, .inr (.inl (vp_updL nf (siz : Int32).toNatClampNeg no))))]) rfl rfl; exact hnd) ?_)
    refine jm_aload_n X d_L_add_51 rfl 0 rfl ?_
    refine jm_dup X d_L_add_52 rfl ?_
    refine jm_get X d_L_add_53 fs_L_26 (by refine jm_us_get ?_ 0 rfl; exact hnd) rfl ?_
    refine jm_lconst (v := 1) X d_L_add_56 (by decide) ?_
    refine jm_ladd X d_L_add_57 ?_
    refine jm_put X d_L_add_58 fs_L_26 (by refine jm_us_get ?_ 0 rfl; exact hnd) rfl rfl (Nat.le_of_ble_eq_true rfl) (fs1 := [.ref tq, .ref sq, .ref nq, .int (siz + 1), .long (tot + 1)]) rfl (jm_hq (by refine jm_us_set ?_ 0 (L1 := [(a, .inr (8, [.ref tq, .ref sq, .ref nq, .int (siz + 1), .long (tot + 1)])), (tq, .inl (dA 3, 500, .inr (.inl (vp_updL tf (siz : Int32).toNatClampNeg ti)))), (sq, .inl (dA 2, 500, .inl (upd sf (siz : Int32).toNatClampNeg sl))), (nq, .inl (dA 3, 500, .inr (.inl (vp_updL nf (siz : Int32).toNatClampNeg no))))]) rfl rfl; exact hnd) ?_)
    exact J61_2 _ _ _ _ _ (by first | (simp only [if_neg c1, reduceIte]; done) | (with_reducible rfl)) (by first | (simp only [if_neg c1, reduceIte]; done) | (with_reducible rfl)) (by first | (simp only [if_neg c1, reduceIte]; done) | (with_reducible rfl)) (by first | (simp only [if_neg c1, reduceIte]; done) | (with_reducible rfl)) (by first | (simp only [if_neg c1, reduceIte]; done) | (with_reducible rfl))
