theorem fs_Y_19 : jm_fs jm_cl jm_G "JobHouse$YearRule" 19 3 0 (.int) false := ⟨_, jn_T3, 4, jn_y3, rfl, by decide, jn_i3, jn_o3, jn_n3, rfl, rfl, by decide +kernel, Or.inl (jm_g1 120 rfl rfl)⟩
theorem fs_Y_28 : jm_fs jm_cl jm_G "JobHouse$YearRule" 28 3 2 (.int) false := ⟨_, jn_T3, 4, jn_y3, rfl, by decide, jn_i3, jn_o3, jn_n3, rfl, rfl, by decide +kernel, Or.inl (jm_g1 122 rfl rfl)⟩
theorem fs_Y_25 : jm_fs jm_cl jm_G "JobHouse$YearRule" 25 3 1 (.int) false := ⟨_, jn_T3, 4, jn_y3, rfl, by decide, jn_i3, jn_o3, jn_n3, rfl, rfl, by decide +kernel, Or.inl (jm_g1 121 rfl rfl)⟩
theorem fs_Y_31 : jm_fs jm_cl jm_G "JobHouse$YearRule" 31 3 3 (.int) false := ⟨_, jn_T3, 4, jn_y3, rfl, by decide, jn_i3, jn_o3, jn_n3, rfl, rfl, by decide +kernel, Or.inl (jm_g1 123 rfl rfl)⟩
theorem fs_Z_27 : jm_fs jm_cl jm_G "JobHouse$Zone" 27 2 1 (.int) false := ⟨_, jn_T2, 7, jn_y2, rfl, by decide, jn_i2, jn_o2, jn_n2, rfl, rfl, by decide +kernel, Or.inl (jm_g1 136 rfl rfl)⟩
theorem fs_Z_45 : jm_fs jm_cl jm_G "JobHouse$Zone" 45 2 0 (.int) false := ⟨_, jn_T2, 7, jn_y2, rfl, by decide, jn_i2, jn_o2, jn_n2, rfl, rfl, by decide +kernel, Or.inl (jm_g1 134 rfl rfl)⟩
theorem fs_Z_12 : jm_fs jm_cl jm_G "JobHouse$Zone" 12 2 2 (.object "JobHouse$YearRule") true := ⟨_, jn_T2, 7, jn_y2, rfl, by decide, jn_i2, jn_o2, jn_n2, rfl, rfl, by decide +kernel, Or.inl (jm_g1 138 rfl rfl)⟩
theorem fs_Z_18 : jm_fs jm_cl jm_G "JobHouse$Zone" 18 2 3 (.object "JobHouse$YearRule") true := ⟨_, jn_T2, 7, jn_y2, rfl, by decide, jn_i2, jn_o2, jn_n2, rfl, rfl, by decide +kernel, Or.inl (jm_g1 139 rfl rfl)⟩
theorem fs_Z_62 : jm_fs jm_cl jm_G "JobHouse$Zone" 62 2 4 (.long) false := ⟨_, jn_T2, 7, jn_y2, rfl, by decide, jn_i2, jn_o2, jn_n2, rfl, rfl, by decide +kernel, Or.inl (jm_g1 140 rfl rfl)⟩
theorem fs_Z_23 : jm_fs jm_cl jm_G "JobHouse$Zone" 23 2 5 (.long) false := ⟨_, jn_T2, 7, jn_y2, rfl, by decide, jn_i2, jn_o2, jn_n2, rfl, rfl, by decide +kernel, Or.inl (jm_g1 142 rfl rfl)⟩
theorem fs_Z_69 : jm_fs jm_cl jm_G "JobHouse$Zone" 69 2 6 (.int) false := ⟨_, jn_T2, 7, jn_y2, rfl, by decide, jn_i2, jn_o2, jn_n2, rfl, rfl, by decide +kernel, Or.inl (jm_g1 145 rfl rfl)⟩
def f_Y_secondIn (ye : Int32) (mo : Int32) (wk : Int32) (wd : Int32) (mi : Int32) : Int64 :=
  let u22 : Int32 := f_Math_floorMod ((wd + 1) - (f_D_weekdayOf (f_D_firstOfMonth ye mo))) 7
  let v55 : Int32 := if (u22 + (7 * (wk - 1))) < (f_D_monthLength ye mo) then (u22 + (7 * (wk - 1))) else ((u22 + (7 * (wk - 1))) + (-7))
  ((((f_D_firstOfMonth ye mo) + v55 : Int32).toInt64) * 86400) + ((mi * 60 : Int32).toInt64)
set_option maxRecDepth 20000 in
set_option maxHeartbeats 4000000 in
theorem k_Y_secondIn {l : Launch} {S : State} {D : va_G} {dA : Nat → ClassId} (E : jm_en S D jm_cl (jm_ty dA) jm_G) (a : Nat) (ye : Int32) (mo : Int32) (wk : Int32) (wd : Int32) (mi : Int32) (h : jm_H) (h_a : h a = some (.inr (3, [.int mo, .int wk, .int wd, .int mi]))) (hnd : ([a] : List Nat).Nodup)  : jm_M l S D jm_cl y_Y_secondIn (Cond.code y_Y_secondIn b_Y_secondIn 5 (some FieldType.long)) { frames := 1, cells := 0, slots := 0, locals := 24 } [.ref a, .int ye] h (jm_R (some (.long (f_Y_secondIn ye mo wk wd mi))) h) 0 0 := by
  refine jm_ofW E (by decide) (Nat.le_of_ble_eq_true rfl) (fun p e s m below meth c X hr hk hmn hout hadm => ?_)
  have X : jm_cx p s m ([.ref a, .int ye] : List Value).toArray c S D jm_cl (jm_ty dA) jm_G b_Y_secondIn 5 "JobHouse$YearRule" := X
  have hL : ∀ zz ∈ ([(a, .inr (3, [.int mo, .int wk, .int wd, .int mi]))] : List (Nat × va_E)), h zz.1 = some zz.2 := List.forall_mem_cons.mpr ⟨h_a, fun _ hz => absurd hz List.not_mem_nil⟩
  refine jm_hq (jm_us_id hL).symm ?_
  show jm_W p l e ({ frames := 1, cells := 0, slots := 0, locals := 24 }) s m ([.ref a, .int ye] : List Value).toArray below meth c S D jm_cl (jm_Q S D jm_cl below s (jm_R (some (.long (f_Y_secondIn ye mo wk wd mi))) h) 0 0) 5 0 [(0, .ref a), (1, .int ye)] [] (jm_us h [(a, .inr (3, [.int mo, .int wk, .int wd, .int mi]))]) 0 0
  refine jm_iload_n X d_Y_secondIn_0 rfl 1 rfl ?_
  refine jm_aload_n X d_Y_secondIn_1 rfl 0 rfl ?_
  refine jm_get X d_Y_secondIn_2 fs_Y_19 (by refine jm_us_get ?_ 0 rfl; exact hnd) rfl ?_
  refine jm_callS (rest := []) X d_Y_secondIn_5 (k_D_firstOfMonth E ye mo (jm_us h [(a, .inr (3, [.int mo, .int wk, .int wd, .int mi]))])  ) ci_D_firstOfMonth (Or.inl (jm_g3 222 rfl rfl)) st_D_firstOfMonth rfl (Nat.le_of_ble_eq_true rfl) ⟨(Nat.le_of_ble_eq_true rfl), (Nat.le_of_ble_eq_true rfl)⟩ ⟨rfl, rfl⟩ ⟨(Nat.le_of_ble_eq_true rfl), (Nat.le_of_ble_eq_true rfl)⟩ (jm_k1 ?_)
  refine jm_istore_n X d_Y_secondIn_8 rfl (by decide) (lv1 := [(2, .int (f_D_firstOfMonth ye mo)), (0, .ref a), (1, .int ye)]) rfl ?_
  refine jm_aload_n X d_Y_secondIn_9 rfl 1 rfl ?_
  refine jm_get X d_Y_secondIn_10 fs_Y_28 (by refine jm_us_get ?_ 0 rfl; exact hnd) rfl ?_
  refine jm_iconst (v := 1) X d_Y_secondIn_13 (by decide) ?_
  refine jm_iadd X d_Y_secondIn_14 ?_
  refine jm_iload_n X d_Y_secondIn_15 rfl 0 rfl ?_
  refine jm_callS (rest := [.int (wd + 1)]) X d_Y_secondIn_16 (k_D_weekdayOf E (f_D_firstOfMonth ye mo) (jm_us h [(a, .inr (3, [.int mo, .int wk, .int wd, .int mi]))])  ) ci_D_weekdayOf (Or.inl (jm_g3 223 rfl rfl)) st_D_weekdayOf rfl (Nat.le_of_ble_eq_true rfl) ⟨(Nat.le_of_ble_eq_true rfl), (Nat.le_of_ble_eq_true rfl)⟩ ⟨rfl, rfl⟩ ⟨(Nat.le_of_ble_eq_true rfl), (Nat.le_of_ble_eq_true rfl)⟩ (jm_k1 ?_)
  refine jm_isub X d_Y_secondIn_19 ?_
  refine jm_bipush (v := 7) X d_Y_secondIn_20 (by decide) ?_
  refine jm_callS (rest := []) X d_Y_secondIn_22 (k_Math_floorMod E ((wd + 1) - (f_D_weekdayOf (f_D_firstOfMonth ye mo))) 7 (jm_us h [(a, .inr (3, [.int mo, .int wk, .int wd, .int mi]))])  (by first | with_reducible assumption | decide +kernel)) ci_Math_floorMod (Or.inl (jm_g3 226 rfl rfl)) st_Math_floorMod rfl (Nat.le_of_ble_eq_true rfl) ⟨(Nat.le_of_ble_eq_true rfl), (Nat.le_of_ble_eq_true rfl)⟩ ⟨rfl, rfl⟩ ⟨(Nat.le_of_ble_eq_true rfl), (Nat.le_of_ble_eq_true rfl)⟩ (jm_k1 ?_)
  obtain ⟨u22, eu22⟩ : ∃ z_ : Int32, z_ = (f_Math_floorMod ((wd + 1) - (f_D_weekdayOf (f_D_firstOfMonth ye mo))) 7) := ⟨_, rfl⟩
  rw [← eu22]
  refine jm_istore_n X d_Y_secondIn_25 rfl (by decide) (lv1 := [(3, .int u22), (2, .int (f_D_firstOfMonth ye mo)), (0, .ref a), (1, .int ye)]) rfl ?_
  refine jm_iload_n X d_Y_secondIn_26 rfl 0 rfl ?_
  refine jm_bipush (v := 7) X d_Y_secondIn_27 (by decide) ?_
  refine jm_aload_n X d_Y_secondIn_29 rfl 2 rfl ?_
  refine jm_get X d_Y_secondIn_30 fs_Y_25 (by refine jm_us_get ?_ 0 rfl; exact hnd) rfl ?_
  refine jm_iconst (v := 1) X d_Y_secondIn_33 (by decide) ?_
  refine jm_isub X d_Y_secondIn_34 ?_
  refine jm_imul X d_Y_secondIn_35 ?_
  refine jm_iadd X d_Y_secondIn_36 ?_
  refine jm_istore X d_Y_secondIn_37 (by decide) (lv1 := [(4, .int (u22 + (7 * (wk - 1)))), (3, .int u22), (2, .int (f_D_firstOfMonth ye mo)), (0, .ref a), (1, .int ye)]) rfl ?_
  refine jm_iload X d_Y_secondIn_39 0 rfl ?_
  refine jm_iload_n X d_Y_secondIn_41 rfl 4 rfl ?_
  refine jm_aload_n X d_Y_secondIn_42 rfl 3 rfl ?_
  refine jm_get X d_Y_secondIn_43 fs_Y_19 (by refine jm_us_get ?_ 0 rfl; exact hnd) rfl ?_
  refine jm_callS (rest := [.int (u22 + (7 * (wk - 1)))]) X d_Y_secondIn_46 (k_D_monthLength E ye mo (jm_us h [(a, .inr (3, [.int mo, .int wk, .int wd, .int mi]))])  ) ci_D_monthLength (Or.inl (jm_g3 229 rfl rfl)) st_D_monthLength rfl (Nat.le_of_ble_eq_true rfl) ⟨(Nat.le_of_ble_eq_true rfl), (Nat.le_of_ble_eq_true rfl)⟩ ⟨rfl, rfl⟩ ⟨(Nat.le_of_ble_eq_true rfl), (Nat.le_of_ble_eq_true rfl)⟩ (jm_k1 ?_)
  have J55_2 : ∀ (v55 : Int32), v55 = (if (u22 + (7 * (wk - 1))) < (f_D_monthLength ye mo) then (u22 + (7 * (wk - 1))) else ((u22 + (7 * (wk - 1))) + (-7)) : Int32) → jm_W p l e ({ frames := 1, cells := 0, slots := 0, locals := 24 }) s m ([.ref a, .int ye] : List Value).toArray below meth c S D jm_cl (jm_Q S D jm_cl below s (jm_R (some (.long (f_Y_secondIn ye mo wk wd mi))) h) 0 0) 5 55 [(0, .ref a), (1, .int ye), (2, .int (f_D_firstOfMonth ye mo)), (3, .int u22), (4, .int v55)] [] (jm_us h [(a, .inr (3, [.int mo, .int wk, .int wd, .int mi]))]) 0 0 := by
    intro v55 ev55
    refine jm_iload_n X d_Y_secondIn_55 rfl 2 rfl ?_
    refine jm_iload X d_Y_secondIn_56 4 rfl ?_
    refine jm_iadd X d_Y_secondIn_58 ?_
    refine jm_i2l X d_Y_secondIn_59 ?_
    refine jm_ldc2 (v := 86400) X d_Y_secondIn_60 (jm_g3 232 rfl rfl) ?_
    refine jm_lmul X d_Y_secondIn_63 ?_
    refine jm_aload_n X d_Y_secondIn_64 rfl 0 rfl ?_
    refine jm_get X d_Y_secondIn_65 fs_Y_31 (by refine jm_us_get ?_ 0 rfl; exact hnd) rfl ?_
    refine jm_bipush (v := 60) X d_Y_secondIn_68 (by decide) ?_
    refine jm_imul X d_Y_secondIn_70 ?_
    refine jm_i2l X d_Y_secondIn_71 ?_
    refine jm_ladd X d_Y_secondIn_72 ?_
    exact jm_lret X hr hk d_Y_secondIn_73 ⟨(by show Outcome.returned _ = Outcome.returned _; unfold f_Y_secondIn; subst ev55; subst eu22; rfl), (jm_us_id hL)⟩
  refine jm_icmp_lt (tgt := 55) X d_Y_secondIn_49 (by decide) (fun c1 => ?_) (fun c1 => ?_)
  · refine jm_lvs [3, 4, 2, 1, 0] (lv1 := [(0, .ref a), (1, .int ye), (2, .int (f_D_firstOfMonth ye mo)), (3, .int u22), (4, .int (u22 + (7 * (wk - 1))))]) rfl ?_
    exact J55_2 _ (by first | (simp only [if_pos c1, reduceIte]; done) | (with_reducible rfl))
  · refine jm_iinc X d_Y_secondIn_52 0 rfl (v := (u22 + (7 * (wk - 1))) + (-7)) (by rfl) (by decide) (lv1 := [(4, .int ((u22 + (7 * (wk - 1))) + (-7))), (3, .int u22), (2, .int (f_D_firstOfMonth ye mo)), (0, .ref a), (1, .int ye)]) rfl ?_
    refine jm_lvs [3, 4, 2, 1, 0] (lv1 := [(0, .ref a), (1, .int ye), (2, .int (f_D_firstOfMonth ye mo)), (3, .int u22), (4, .int ((u22 + (7 * (wk - 1))) + (-7)))]) rfl ?_
    exact J55_2 _ (by first | (simp only [if_neg c1, reduceIte]; done) | (with_reducible rfl))
def f_Y_latestUpTo (se : Int64) (of_ : Int32) (ly : Int32) (mo : Int32) (wk : Int32) (wd : Int32) (mi : Int32) : Int64 :=
  let v35 : Int32 := if (f_Math_min ly 2299) < 1970 then (f_Math_min ly 2299) else (if ((f_Y_secondIn (f_Math_min ly 2299) mo wk wd mi) - ((of_ : Int32).toInt64)) ≤ se then (f_Math_min ly 2299) else ((f_Math_min ly 2299) + (-1)))
  let v58 : Int64 := if 1970 ≤ v35 then ((f_Y_secondIn v35 mo wk wd mi) - ((of_ : Int32).toInt64)) else (-1152921504606846976)
  v58
set_option maxRecDepth 20000 in
set_option maxHeartbeats 4000000 in
theorem k_Y_latestUpTo {l : Launch} {S : State} {D : va_G} {dA : Nat → ClassId} (E : jm_en S D jm_cl (jm_ty dA) jm_G) (a : Nat) (se : Int64) (of_ : Int32) (ly : Int32) (mo : Int32) (wk : Int32) (wd : Int32) (mi : Int32) (h : jm_H) (h_a : h a = some (.inr (3, [.int mo, .int wk, .int wd, .int mi]))) (hnd : ([a] : List Nat).Nodup)  : jm_M l S D jm_cl y_Y_latestUpTo (Cond.code y_Y_latestUpTo b_Y_latestUpTo 6 (some FieldType.long)) { frames := 2, cells := 0, slots := 0, locals := 48 } [.ref a, .long se, .int of_, .int ly] h (jm_R (some (.long (f_Y_latestUpTo se of_ ly mo wk wd mi))) h) 0 0 := by
  refine jm_ofW E (by decide) (Nat.le_of_ble_eq_true rfl) (fun p e s m below meth c X hr hk hmn hout hadm => ?_)
  have X : jm_cx p s m ([.ref a, .long se, .int of_, .int ly] : List Value).toArray c S D jm_cl (jm_ty dA) jm_G b_Y_latestUpTo 6 "JobHouse$YearRule" := X
  have hL : ∀ zz ∈ ([(a, .inr (3, [.int mo, .int wk, .int wd, .int mi]))] : List (Nat × va_E)), h zz.1 = some zz.2 := List.forall_mem_cons.mpr ⟨h_a, fun _ hz => absurd hz List.not_mem_nil⟩
  refine jm_hq (jm_us_id hL).symm ?_
  show jm_W p l e ({ frames := 2, cells := 0, slots := 0, locals := 48 }) s m ([.ref a, .long se, .int of_, .int ly] : List Value).toArray below meth c S D jm_cl (jm_Q S D jm_cl below s (jm_R (some (.long (f_Y_latestUpTo se of_ ly mo wk wd mi))) h) 0 0) 6 0 [(0, .ref a), (1, .long se), (3, .int of_), (4, .int ly)] [] (jm_us h [(a, .inr (3, [.int mo, .int wk, .int wd, .int mi]))]) 0 0
  refine jm_iload X d_Y_latestUpTo_0 3 rfl ?_
  refine jm_sipush (v := 2299) X d_Y_latestUpTo_2 (by decide) ?_
  refine jm_callS (rest := []) X d_Y_latestUpTo_5 (k_Math_min E ly 2299 (jm_us h [(a, .inr (3, [.int mo, .int wk, .int wd, .int mi]))])  ) ci_Math_min (Or.inl (jm_g3 217 rfl rfl)) st_Math_min rfl (Nat.le_of_ble_eq_true rfl) ⟨(Nat.le_of_ble_eq_true rfl), (Nat.le_of_ble_eq_true rfl)⟩ ⟨rfl, rfl⟩ ⟨(Nat.le_of_ble_eq_true rfl), (Nat.le_of_ble_eq_true rfl)⟩ (jm_k1 ?_)
  refine jm_istore X d_Y_latestUpTo_8 (by decide) (lv1 := [(5, .int (f_Math_min ly 2299)), (0, .ref a), (1, .long se), (3, .int of_), (4, .int ly)]) rfl ?_
  refine jm_iload X d_Y_latestUpTo_10 0 rfl ?_
  refine jm_sipush (v := 1970) X d_Y_latestUpTo_12 (by decide) ?_
  have J35_2 : ∀ (v35 : Int32), v35 = (if (f_Math_min ly 2299) < 1970 then (f_Math_min ly 2299) else (if ((f_Y_secondIn (f_Math_min ly 2299) mo wk wd mi) - ((of_ : Int32).toInt64)) ≤ se then (f_Math_min ly 2299) else ((f_Math_min ly 2299) + (-1))) : Int32) → jm_W p l e ({ frames := 2, cells := 0, slots := 0, locals := 48 }) s m ([.ref a, .long se, .int of_, .int ly] : List Value).toArray below meth c S D jm_cl (jm_Q S D jm_cl below s (jm_R (some (.long (f_Y_latestUpTo se of_ ly mo wk wd mi))) h) 0 0) 6 35 [(0, .ref a), (1, .long se), (3, .int of_), (4, .int ly), (5, .int v35)] [] (jm_us h [(a, .inr (3, [.int mo, .int wk, .int wd, .int mi]))]) 0 0 := by
    intro v35 ev35
    refine jm_iload X d_Y_latestUpTo_35 4 rfl ?_
    refine jm_sipush (v := 1970) X d_Y_latestUpTo_37 (by decide) ?_
    have J58_4 : ∀ (v58 : Int64), v58 = (if 1970 ≤ v35 then ((f_Y_secondIn v35 mo wk wd mi) - ((of_ : Int32).toInt64)) else (-1152921504606846976) : Int64) → jm_W p l e ({ frames := 2, cells := 0, slots := 0, locals := 48 }) s m ([.ref a, .long se, .int of_, .int ly] : List Value).toArray below meth c S D jm_cl (jm_Q S D jm_cl below s (jm_R (some (.long (f_Y_latestUpTo se of_ ly mo wk wd mi))) h) 0 0) 6 58 [(0, .ref a), (1, .long se), (3, .int of_), (4, .int ly), (5, .int v35)] [.long v58] (jm_us h [(a, .inr (3, [.int mo, .int wk, .int wd, .int mi]))]) 0 0 := by
      intro v58 ev58
      exact jm_lret X hr hk d_Y_latestUpTo_58 ⟨(by show Outcome.returned _ = Outcome.returned _; unfold f_Y_latestUpTo; subst ev58; subst ev35; rfl), (jm_us_id hL)⟩
    refine jm_icmp_ge (tgt := 49) X d_Y_latestUpTo_40 (by decide) (fun c3 => ?_) (fun c3 => ?_)
    · refine jm_aload_n X d_Y_latestUpTo_49 rfl 0 rfl ?_
      refine jm_iload X d_Y_latestUpTo_50 4 rfl ?_
      refine jm_callV (rest := []) X d_Y_latestUpTo_52 (k_Y_secondIn E a v35 mo wk wd mi (jm_us h [(a, .inr (3, [.int mo, .int wk, .int wd, .int mi]))]) (by refine jm_us_get ?_ 0 rfl; exact hnd) (by exact jm_pick hnd [0] (by decide) rfl) ) ci_Y_secondIn (Or.inl (jm_g3 218 rfl rfl)) im_Y_secondIn se_Y_secondIn (by refine jm_us_get ?_ 0 rfl; exact hnd) rfl rfl (Nat.le_of_ble_eq_true rfl) ⟨(Nat.le_of_ble_eq_true rfl), (Nat.le_of_ble_eq_true rfl)⟩ ⟨rfl, rfl⟩ ⟨(Nat.le_of_ble_eq_true rfl), (Nat.le_of_ble_eq_true rfl)⟩ (jm_k1 ?_)
      refine jm_iload_n X d_Y_latestUpTo_55 rfl 2 rfl ?_
      refine jm_i2l X d_Y_latestUpTo_56 ?_
      refine jm_lsub X d_Y_latestUpTo_57 ?_
      exact J58_4 _ (by first | (simp only [if_pos c3, reduceIte]; done) | (with_reducible rfl))
    · refine jm_ldc2 (v := (-1152921504606846976)) X d_Y_latestUpTo_43 (jm_g3 233 rfl rfl) ?_
      refine jm_goto (tgt := 58) X d_Y_latestUpTo_46 (by decide) ?_
      exact J58_4 _ (by first | (simp only [if_neg c3, reduceIte]; done) | (with_reducible rfl))
  refine jm_icmp_lt (tgt := 35) X d_Y_latestUpTo_15 (by decide) (fun c1 => ?_) (fun c1 => ?_)
  · refine jm_lvs [1, 2, 3, 4, 0] (lv1 := [(0, .ref a), (1, .long se), (3, .int of_), (4, .int ly), (5, .int (f_Math_min ly 2299))]) rfl ?_
    exact J35_2 _ (by first | (simp only [if_pos c1, reduceIte]; done) | (with_reducible rfl))
  · refine jm_aload_n X d_Y_latestUpTo_18 rfl 1 rfl ?_
    refine jm_iload X d_Y_latestUpTo_19 0 rfl ?_
    refine jm_callV (rest := []) X d_Y_latestUpTo_21 (k_Y_secondIn E a (f_Math_min ly 2299) mo wk wd mi (jm_us h [(a, .inr (3, [.int mo, .int wk, .int wd, .int mi]))]) (by refine jm_us_get ?_ 0 rfl; exact hnd) (by exact jm_pick hnd [0] (by decide) rfl) ) ci_Y_secondIn (Or.inl (jm_g3 218 rfl rfl)) im_Y_secondIn se_Y_secondIn (by refine jm_us_get ?_ 0 rfl; exact hnd) rfl rfl (Nat.le_of_ble_eq_true rfl) ⟨(Nat.le_of_ble_eq_true rfl), (Nat.le_of_ble_eq_true rfl)⟩ ⟨rfl, rfl⟩ ⟨(Nat.le_of_ble_eq_true rfl), (Nat.le_of_ble_eq_true rfl)⟩ (jm_k1 ?_)
    refine jm_iload_n X d_Y_latestUpTo_24 rfl 3 rfl ?_
    refine jm_i2l X d_Y_latestUpTo_25 ?_
    refine jm_lsub X d_Y_latestUpTo_26 ?_
    refine jm_lload_n X d_Y_latestUpTo_27 rfl 2 rfl ?_
    refine jm_lcmp X d_Y_latestUpTo_28 ?_
    refine jm_lif_le (tgt := 35) X d_Y_latestUpTo_29 (by decide) (fun c5 => ?_) (fun c5 => ?_)
    · refine jm_lvs [1, 2, 3, 4, 0] (lv1 := [(0, .ref a), (1, .long se), (3, .int of_), (4, .int ly), (5, .int (f_Math_min ly 2299))]) rfl ?_
      exact J35_2 _ (by first | (simp only [if_neg c1, if_pos c5, reduceIte]; done) | (with_reducible rfl))
    · refine jm_iinc X d_Y_latestUpTo_32 0 rfl (v := (f_Math_min ly 2299) + (-1)) (by rfl) (by decide) (lv1 := [(5, .int ((f_Math_min ly 2299) + (-1))), (0, .ref a), (1, .long se), (3, .int of_), (4, .int ly)]) rfl ?_
      refine jm_lvs [1, 2, 3, 4, 0] (lv1 := [(0, .ref a), (1, .long se), (3, .int of_), (4, .int ly), (5, .int ((f_Math_min ly 2299) + (-1)))]) rfl ?_
      exact J35_2 _ (by first | (simp only [if_neg c1, if_neg c5, reduceIte]; done) | (with_reducible rfl))
def f_Y_firstBehind (se : Int64) (of_ : Int32) (ly : Int32) (mo : Int32) (wk : Int32) (wd : Int32) (mi : Int32) : Int64 :=
  let v35 : Int32 := if 2299 < (f_Math_max ly 1970) then (f_Math_max ly 1970) else (if se < ((f_Y_secondIn (f_Math_max ly 1970) mo wk wd mi) - ((of_ : Int32).toInt64)) then (f_Math_max ly 1970) else ((f_Math_max ly 1970) + 1))
  let v58 : Int64 := if v35 ≤ 2299 then ((f_Y_secondIn v35 mo wk wd mi) - ((of_ : Int32).toInt64)) else 1152921504606846976
  v58
set_option maxRecDepth 20000 in
set_option maxHeartbeats 4000000 in
theorem k_Y_firstBehind {l : Launch} {S : State} {D : va_G} {dA : Nat → ClassId} (E : jm_en S D jm_cl (jm_ty dA) jm_G) (a : Nat) (se : Int64) (of_ : Int32) (ly : Int32) (mo : Int32) (wk : Int32) (wd : Int32) (mi : Int32) (h : jm_H) (h_a : h a = some (.inr (3, [.int mo, .int wk, .int wd, .int mi]))) (hnd : ([a] : List Nat).Nodup)  : jm_M l S D jm_cl y_Y_firstBehind (Cond.code y_Y_firstBehind b_Y_firstBehind 6 (some FieldType.long)) { frames := 2, cells := 0, slots := 0, locals := 48 } [.ref a, .long se, .int of_, .int ly] h (jm_R (some (.long (f_Y_firstBehind se of_ ly mo wk wd mi))) h) 0 0 := by
  refine jm_ofW E (by decide) (Nat.le_of_ble_eq_true rfl) (fun p e s m below meth c X hr hk hmn hout hadm => ?_)
  have X : jm_cx p s m ([.ref a, .long se, .int of_, .int ly] : List Value).toArray c S D jm_cl (jm_ty dA) jm_G b_Y_firstBehind 6 "JobHouse$YearRule" := X
  have hL : ∀ zz ∈ ([(a, .inr (3, [.int mo, .int wk, .int wd, .int mi]))] : List (Nat × va_E)), h zz.1 = some zz.2 := List.forall_mem_cons.mpr ⟨h_a, fun _ hz => absurd hz List.not_mem_nil⟩
  refine jm_hq (jm_us_id hL).symm ?_
  show jm_W p l e ({ frames := 2, cells := 0, slots := 0, locals := 48 }) s m ([.ref a, .long se, .int of_, .int ly] : List Value).toArray below meth c S D jm_cl (jm_Q S D jm_cl below s (jm_R (some (.long (f_Y_firstBehind se of_ ly mo wk wd mi))) h) 0 0) 6 0 [(0, .ref a), (1, .long se), (3, .int of_), (4, .int ly)] [] (jm_us h [(a, .inr (3, [.int mo, .int wk, .int wd, .int mi]))]) 0 0
  refine jm_iload X d_Y_firstBehind_0 3 rfl ?_
  refine jm_sipush (v := 1970) X d_Y_firstBehind_2 (by decide) ?_
  refine jm_callS (rest := []) X d_Y_firstBehind_5 (k_Math_max E ly 1970 (jm_us h [(a, .inr (3, [.int mo, .int wk, .int wd, .int mi]))])  ) ci_Math_max (Or.inl (jm_g3 238 rfl rfl)) st_Math_max rfl (Nat.le_of_ble_eq_true rfl) ⟨(Nat.le_of_ble_eq_true rfl), (Nat.le_of_ble_eq_true rfl)⟩ ⟨rfl, rfl⟩ ⟨(Nat.le_of_ble_eq_true rfl), (Nat.le_of_ble_eq_true rfl)⟩ (jm_k1 ?_)
  refine jm_istore X d_Y_firstBehind_8 (by decide) (lv1 := [(5, .int (f_Math_max ly 1970)), (0, .ref a), (1, .long se), (3, .int of_), (4, .int ly)]) rfl ?_
  refine jm_iload X d_Y_firstBehind_10 0 rfl ?_
  refine jm_sipush (v := 2299) X d_Y_firstBehind_12 (by decide) ?_
  have J35_2 : ∀ (v35 : Int32), v35 = (if 2299 < (f_Math_max ly 1970) then (f_Math_max ly 1970) else (if se < ((f_Y_secondIn (f_Math_max ly 1970) mo wk wd mi) - ((of_ : Int32).toInt64)) then (f_Math_max ly 1970) else ((f_Math_max ly 1970) + 1)) : Int32) → jm_W p l e ({ frames := 2, cells := 0, slots := 0, locals := 48 }) s m ([.ref a, .long se, .int of_, .int ly] : List Value).toArray below meth c S D jm_cl (jm_Q S D jm_cl below s (jm_R (some (.long (f_Y_firstBehind se of_ ly mo wk wd mi))) h) 0 0) 6 35 [(0, .ref a), (1, .long se), (3, .int of_), (4, .int ly), (5, .int v35)] [] (jm_us h [(a, .inr (3, [.int mo, .int wk, .int wd, .int mi]))]) 0 0 := by
    intro v35 ev35
    refine jm_iload X d_Y_firstBehind_35 4 rfl ?_
    refine jm_sipush (v := 2299) X d_Y_firstBehind_37 (by decide) ?_
    have J58_4 : ∀ (v58 : Int64), v58 = (if v35 ≤ 2299 then ((f_Y_secondIn v35 mo wk wd mi) - ((of_ : Int32).toInt64)) else 1152921504606846976 : Int64) → jm_W p l e ({ frames := 2, cells := 0, slots := 0, locals := 48 }) s m ([.ref a, .long se, .int of_, .int ly] : List Value).toArray below meth c S D jm_cl (jm_Q S D jm_cl below s (jm_R (some (.long (f_Y_firstBehind se of_ ly mo wk wd mi))) h) 0 0) 6 58 [(0, .ref a), (1, .long se), (3, .int of_), (4, .int ly), (5, .int v35)] [.long v58] (jm_us h [(a, .inr (3, [.int mo, .int wk, .int wd, .int mi]))]) 0 0 := by
      intro v58 ev58
      exact jm_lret X hr hk d_Y_firstBehind_58 ⟨(by show Outcome.returned _ = Outcome.returned _; unfold f_Y_firstBehind; subst ev58; subst ev35; rfl), (jm_us_id hL)⟩
    refine jm_icmp_le (tgt := 49) X d_Y_firstBehind_40 (by decide) (fun c3 => ?_) (fun c3 => ?_)
    · refine jm_aload_n X d_Y_firstBehind_49 rfl 0 rfl ?_
      refine jm_iload X d_Y_firstBehind_50 4 rfl ?_
      refine jm_callV (rest := []) X d_Y_firstBehind_52 (k_Y_secondIn E a v35 mo wk wd mi (jm_us h [(a, .inr (3, [.int mo, .int wk, .int wd, .int mi]))]) (by refine jm_us_get ?_ 0 rfl; exact hnd) (by exact jm_pick hnd [0] (by decide) rfl) ) ci_Y_secondIn (Or.inl (jm_g3 218 rfl rfl)) im_Y_secondIn se_Y_secondIn (by refine jm_us_get ?_ 0 rfl; exact hnd) rfl rfl (Nat.le_of_ble_eq_true rfl) ⟨(Nat.le_of_ble_eq_true rfl), (Nat.le_of_ble_eq_true rfl)⟩ ⟨rfl, rfl⟩ ⟨(Nat.le_of_ble_eq_true rfl), (Nat.le_of_ble_eq_true rfl)⟩ (jm_k1 ?_)
      refine jm_iload_n X d_Y_firstBehind_55 rfl 2 rfl ?_
      refine jm_i2l X d_Y_firstBehind_56 ?_
      refine jm_lsub X d_Y_firstBehind_57 ?_
      exact J58_4 _ (by first | (simp only [if_pos c3, reduceIte]; done) | (with_reducible rfl))
    · refine jm_ldc2 (v := 1152921504606846976) X d_Y_firstBehind_43 (jm_g3 239 rfl rfl) ?_
      refine jm_goto (tgt := 58) X d_Y_firstBehind_46 (by decide) ?_
      exact J58_4 _ (by first | (simp only [if_neg c3, reduceIte]; done) | (with_reducible rfl))
  refine jm_icmp_gt (tgt := 35) X d_Y_firstBehind_15 (by decide) (fun c1 => ?_) (fun c1 => ?_)
  · refine jm_lvs [1, 2, 3, 4, 0] (lv1 := [(0, .ref a), (1, .long se), (3, .int of_), (4, .int ly), (5, .int (f_Math_max ly 1970))]) rfl ?_
    exact J35_2 _ (by first | (simp only [if_pos c1, reduceIte]; done) | (with_reducible rfl))
  · refine jm_aload_n X d_Y_firstBehind_18 rfl 1 rfl ?_
    refine jm_iload X d_Y_firstBehind_19 0 rfl ?_
    refine jm_callV (rest := []) X d_Y_firstBehind_21 (k_Y_secondIn E a (f_Math_max ly 1970) mo wk wd mi (jm_us h [(a, .inr (3, [.int mo, .int wk, .int wd, .int mi]))]) (by refine jm_us_get ?_ 0 rfl; exact hnd) (by exact jm_pick hnd [0] (by decide) rfl) ) ci_Y_secondIn (Or.inl (jm_g3 218 rfl rfl)) im_Y_secondIn se_Y_secondIn (by refine jm_us_get ?_ 0 rfl; exact hnd) rfl rfl (Nat.le_of_ble_eq_true rfl) ⟨(Nat.le_of_ble_eq_true rfl), (Nat.le_of_ble_eq_true rfl)⟩ ⟨rfl, rfl⟩ ⟨(Nat.le_of_ble_eq_true rfl), (Nat.le_of_ble_eq_true rfl)⟩ (jm_k1 ?_)
    refine jm_iload_n X d_Y_firstBehind_24 rfl 3 rfl ?_
    refine jm_i2l X d_Y_firstBehind_25 ?_
    refine jm_lsub X d_Y_firstBehind_26 ?_
    refine jm_lload_n X d_Y_firstBehind_27 rfl 2 rfl ?_
    refine jm_lcmp X d_Y_firstBehind_28 ?_
    refine jm_lif_gt (tgt := 35) X d_Y_firstBehind_29 (by decide) (fun c5 => ?_) (fun c5 => ?_)
    · refine jm_lvs [1, 2, 3, 4, 0] (lv1 := [(0, .ref a), (1, .long se), (3, .int of_), (4, .int ly), (5, .int (f_Math_max ly 1970))]) rfl ?_
      exact J35_2 _ (by first | (simp only [if_neg c1, if_pos c5, reduceIte]; done) | (with_reducible rfl))
    · refine jm_iinc X d_Y_firstBehind_32 0 rfl (v := (f_Math_max ly 1970) + 1) (by rfl) (by decide) (lv1 := [(5, .int ((f_Math_max ly 1970) + 1)), (0, .ref a), (1, .long se), (3, .int of_), (4, .int ly)]) rfl ?_
      refine jm_lvs [1, 2, 3, 4, 0] (lv1 := [(0, .ref a), (1, .long se), (3, .int of_), (4, .int ly), (5, .int ((f_Math_max ly 1970) + 1))]) rfl ?_
      exact J35_2 _ (by first | (simp only [if_neg c1, if_neg c5, reduceIte]; done) | (with_reducible rfl))
def f_Z_findStretch_a_4 (se : Int64) (ba : Int32) (sv : Int32) (si : Int64) (un : Int64) (of : Int32) (bmo : Int32) (bwk : Int32) (bwd : Int32) (bmi : Int32) (emo : Int32) (ewk : Int32) (ewd : Int32) (emi : Int32) : Int64 :=
  let u50 : Int32 := f_D_yearOf (f_D_dayOf (se + ((ba : Int32).toInt64)))
  let u59 : Int32 := f_D_dayOf (se + ((ba + sv : Int32).toInt64))
  let u91 : Int64 := f_Y_latestUpTo se (ba + sv) (f_D_yearOf u59) emo ewk ewd emi
  let u130 : Int64 := f_Math_max2 (f_Y_latestUpTo se ba u50 bmo bwk bwd bmi) u91
  if sv = 0 then (-1152921504606846976) else u130
def f_Z_findStretch_a_5 (se : Int64) (ba : Int32) (sv : Int32) (si : Int64) (un : Int64) (of : Int32) (bmo : Int32) (bwk : Int32) (bwd : Int32) (bmi : Int32) (emo : Int32) (ewk : Int32) (ewd : Int32) (emi : Int32) : Int64 :=
  let u50 : Int32 := f_D_yearOf (f_D_dayOf (se + ((ba : Int32).toInt64)))
  let u59 : Int32 := f_D_dayOf (se + ((ba + sv : Int32).toInt64))
  let u107 : Int64 := f_Y_firstBehind se ba u50 bmo bwk bwd bmi
  let u120 : Int64 := f_Y_firstBehind se (ba + sv) (f_D_yearOf u59) emo ewk ewd emi
  if sv = 0 then 1152921504606846976 else (f_Math_min2 u107 u120)
def f_Z_findStretch_a_6 (se : Int64) (ba : Int32) (sv : Int32) (si : Int64) (un : Int64) (of : Int32) (bmo : Int32) (bwk : Int32) (bwd : Int32) (bmi : Int32) (emo : Int32) (ewk : Int32) (ewd : Int32) (emi : Int32) : Int32 :=
  let u50 : Int32 := f_D_yearOf (f_D_dayOf (se + ((ba : Int32).toInt64)))
  let u59 : Int32 := f_D_dayOf (se + ((ba + sv : Int32).toInt64))
  let u91 : Int64 := f_Y_latestUpTo se (ba + sv) (f_D_yearOf u59) emo ewk ewd emi
  let v164 : Int32 := if (f_Y_latestUpTo se ba u50 bmo bwk bwd bmi) ≤ u91 then ba else (ba + sv)
  if sv = 0 then ba else v164
set_option maxRecDepth 20000 in
set_option maxHeartbeats 4000000 in
theorem k_Z_findStretch {l : Launch} {S : State} {D : va_G} {dA : Nat → ClassId} (E : jm_en S D jm_cl (jm_ty dA) jm_G) (a : Nat) (se : Int64) (ba : Int32) (sv : Int32) (bq : Nat) (eq : Nat) (si : Int64) (un : Int64) (of : Int32) (bmo : Int32) (bwk : Int32) (bwd : Int32) (bmi : Int32) (emo : Int32) (ewk : Int32) (ewd : Int32) (emi : Int32) (h : jm_H) (h_a : h a = some (.inr (2, [.int ba, .int sv, .ref bq, .ref eq, .long si, .long un, .int of]))) (h_bq : h bq = some (.inr (3, [.int bmo, .int bwk, .int bwd, .int bmi]))) (h_eq : h eq = some (.inr (3, [.int emo, .int ewk, .int ewd, .int emi]))) (hnd : ([a, bq, eq] : List Nat).Nodup)  : jm_M l S D jm_cl y_Z_findStretch (Cond.code y_Z_findStretch b_Z_findStretch 14 (none)) { frames := 3, cells := 0, slots := 0, locals := 73 } [.ref a, .long se] h (jm_R none (jm_us h [(a, .inr (2, [.int ba, .int sv, .ref bq, .ref eq, .long (f_Z_findStretch_a_4 se ba sv si un of bmo bwk bwd bmi emo ewk ewd emi), .long (f_Z_findStretch_a_5 se ba sv si un of bmo bwk bwd bmi emo ewk ewd emi), .int (f_Z_findStretch_a_6 se ba sv si un of bmo bwk bwd bmi emo ewk ewd emi)])), (bq, .inr (3, [.int bmo, .int bwk, .int bwd, .int bmi])), (eq, .inr (3, [.int emo, .int ewk, .int ewd, .int emi]))])) 0 0 := by
  refine jm_ofW E (by decide) (Nat.le_of_ble_eq_true rfl) (fun p e s m below meth c X hr hk hmn hout hadm => ?_)
  have X : jm_cx p s m ([.ref a, .long se] : List Value).toArray c S D jm_cl (jm_ty dA) jm_G b_Z_findStretch 14 "JobHouse$Zone" := X
  have hL : ∀ zz ∈ ([(a, .inr (2, [.int ba, .int sv, .ref bq, .ref eq, .long si, .long un, .int of])), (bq, .inr (3, [.int bmo, .int bwk, .int bwd, .int bmi])), (eq, .inr (3, [.int emo, .int ewk, .int ewd, .int emi]))] : List (Nat × va_E)), h zz.1 = some zz.2 := List.forall_mem_cons.mpr ⟨h_a, List.forall_mem_cons.mpr ⟨h_bq, List.forall_mem_cons.mpr ⟨h_eq, fun _ hz => absurd hz List.not_mem_nil⟩⟩⟩
  refine jm_hq (jm_us_id hL).symm ?_
  show jm_W p l e ({ frames := 3, cells := 0, slots := 0, locals := 73 }) s m ([.ref a, .long se] : List Value).toArray below meth c S D jm_cl (jm_Q S D jm_cl below s (jm_R none (jm_us h [(a, .inr (2, [.int ba, .int sv, .ref bq, .ref eq, .long (f_Z_findStretch_a_4 se ba sv si un of bmo bwk bwd bmi emo ewk ewd emi), .long (f_Z_findStretch_a_5 se ba sv si un of bmo bwk bwd bmi emo ewk ewd emi), .int (f_Z_findStretch_a_6 se ba sv si un of bmo bwk bwd bmi emo ewk ewd emi)])), (bq, .inr (3, [.int bmo, .int bwk, .int bwd, .int bmi])), (eq, .inr (3, [.int emo, .int ewk, .int ewd, .int emi]))])) 0 0) 14 0 [(0, .ref a), (1, .long se)] [] (jm_us h [(a, .inr (2, [.int ba, .int sv, .ref bq, .ref eq, .long si, .long un, .int of])), (bq, .inr (3, [.int bmo, .int bwk, .int bwd, .int bmi])), (eq, .inr (3, [.int emo, .int ewk, .int ewd, .int emi]))]) 0 0
  refine jm_aload_n X d_Z_findStretch_0 rfl 0 rfl ?_
  refine jm_get X d_Z_findStretch_1 fs_Z_27 (by refine jm_us_get ?_ 0 rfl; exact hnd) rfl ?_
  refine jm_if_ne (tgt := 30) X d_Z_findStretch_4 (by decide) (fun c1 => ?_) (fun c1 => ?_)
  · refine jm_aload_n X d_Z_findStretch_30 rfl 0 rfl ?_
    refine jm_get X d_Z_findStretch_31 fs_Z_45 (by refine jm_us_get ?_ 0 rfl; exact hnd) rfl ?_
    refine jm_aload_n X d_Z_findStretch_34 rfl 0 rfl ?_
    refine jm_get X d_Z_findStretch_35 fs_Z_27 (by refine jm_us_get ?_ 0 rfl; exact hnd) rfl ?_
    refine jm_iadd X d_Z_findStretch_38 ?_
    refine jm_istore_n X d_Z_findStretch_39 rfl (by decide) (lv1 := [(3, .int (ba + sv)), (0, .ref a), (1, .long se)]) rfl ?_
    refine jm_lload_n X d_Z_findStretch_40 rfl 2 rfl ?_
    refine jm_aload_n X d_Z_findStretch_41 rfl 1 rfl ?_
    refine jm_get X d_Z_findStretch_42 fs_Z_45 (by refine jm_us_get ?_ 0 rfl; exact hnd) rfl ?_
    refine jm_i2l X d_Z_findStretch_45 ?_
    refine jm_ladd X d_Z_findStretch_46 ?_
    refine jm_callS (rest := []) X d_Z_findStretch_47 (k_D_dayOf E (se + ((ba : Int32).toInt64)) (jm_us h [(a, .inr (2, [.int ba, .int sv, .ref bq, .ref eq, .long si, .long un, .int of])), (bq, .inr (3, [.int bmo, .int bwk, .int bwd, .int bmi])), (eq, .inr (3, [.int emo, .int ewk, .int ewd, .int emi]))])  ) ci_D_dayOf (Or.inl (jm_g3 195 rfl rfl)) st_D_dayOf rfl (Nat.le_of_ble_eq_true rfl) ⟨(Nat.le_of_ble_eq_true rfl), (Nat.le_of_ble_eq_true rfl)⟩ ⟨rfl, rfl⟩ ⟨(Nat.le_of_ble_eq_true rfl), (Nat.le_of_ble_eq_true rfl)⟩ (jm_k1 ?_)
    refine jm_callS (rest := []) X d_Z_findStretch_50 (k_D_yearOf E (f_D_dayOf (se + ((ba : Int32).toInt64))) (jm_us h [(a, .inr (2, [.int ba, .int sv, .ref bq, .ref eq, .long si, .long un, .int of])), (bq, .inr (3, [.int bmo, .int bwk, .int bwd, .int bmi])), (eq, .inr (3, [.int emo, .int ewk, .int ewd, .int emi]))])  ) ci_D_yearOf (Or.inl (jm_g3 202 rfl rfl)) st_D_yearOf rfl (Nat.le_of_ble_eq_true rfl) ⟨(Nat.le_of_ble_eq_true rfl), (Nat.le_of_ble_eq_true rfl)⟩ ⟨rfl, rfl⟩ ⟨(Nat.le_of_ble_eq_true rfl), (Nat.le_of_ble_eq_true rfl)⟩ (jm_k1 ?_)
    obtain ⟨u50, eu50⟩ : ∃ z_ : Int32, z_ = (f_D_yearOf (f_D_dayOf (se + ((ba : Int32).toInt64)))) := ⟨_, rfl⟩
    rw [← eu50]
    refine jm_istore X d_Z_findStretch_53 (by decide) (lv1 := [(4, .int u50), (3, .int (ba + sv)), (0, .ref a), (1, .long se)]) rfl ?_
    refine jm_lload_n X d_Z_findStretch_55 rfl 3 rfl ?_
    refine jm_iload_n X d_Z_findStretch_56 rfl 1 rfl ?_
    refine jm_i2l X d_Z_findStretch_57 ?_
    refine jm_ladd X d_Z_findStretch_58 ?_
    refine jm_callS (rest := []) X d_Z_findStretch_59 (k_D_dayOf E (se + ((ba + sv : Int32).toInt64)) (jm_us h [(a, .inr (2, [.int ba, .int sv, .ref bq, .ref eq, .long si, .long un, .int of])), (bq, .inr (3, [.int bmo, .int bwk, .int bwd, .int bmi])), (eq, .inr (3, [.int emo, .int ewk, .int ewd, .int emi]))])  ) ci_D_dayOf (Or.inl (jm_g3 195 rfl rfl)) st_D_dayOf rfl (Nat.le_of_ble_eq_true rfl) ⟨(Nat.le_of_ble_eq_true rfl), (Nat.le_of_ble_eq_true rfl)⟩ ⟨rfl, rfl⟩ ⟨(Nat.le_of_ble_eq_true rfl), (Nat.le_of_ble_eq_true rfl)⟩ (jm_k1 ?_)
    obtain ⟨u59, eu59⟩ : ∃ z_ : Int32, z_ = (f_D_dayOf (se + ((ba + sv : Int32).toInt64))) := ⟨_, rfl⟩
    rw [← eu59]
    refine jm_callS (rest := []) X d_Z_findStretch_62 (k_D_yearOf E u59 (jm_us h [(a, .inr (2, [.int ba, .int sv, .ref bq, .ref eq, .long si, .long un, .int of])), (bq, .inr (3, [.int bmo, .int bwk, .int bwd, .int bmi])), (eq, .inr (3, [.int emo, .int ewk, .int ewd, .int emi]))])  ) ci_D_yearOf (Or.inl (jm_g3 202 rfl rfl)) st_D_yearOf rfl (Nat.le_of_ble_eq_true rfl) ⟨(Nat.le_of_ble_eq_true rfl), (Nat.le_of_ble_eq_true rfl)⟩ ⟨rfl, rfl⟩ ⟨(Nat.le_of_ble_eq_true rfl), (Nat.le_of_ble_eq_true rfl)⟩ (jm_k1 ?_)
    refine jm_istore X d_Z_findStretch_65 (by decide) (lv1 := [(5, .int (f_D_yearOf u59)), (4, .int u50), (3, .int (ba + sv)), (0, .ref a), (1, .long se)]) rfl ?_
    refine jm_aload_n X d_Z_findStretch_67 rfl 3 rfl ?_
    refine jm_get X d_Z_findStretch_68 fs_Z_12 (by refine jm_us_get ?_ 0 rfl; exact hnd) rfl ?_
    refine jm_lload_n X d_Z_findStretch_71 rfl 4 rfl ?_
    refine jm_aload_n X d_Z_findStretch_72 rfl 3 rfl ?_
    refine jm_get X d_Z_findStretch_73 fs_Z_45 (by refine jm_us_get ?_ 0 rfl; exact hnd) rfl ?_
    refine jm_iload X d_Z_findStretch_76 1 rfl ?_
    refine jm_callV (rest := []) X d_Z_findStretch_78 (k_Y_latestUpTo E bq se ba u50 bmo bwk bwd bmi (jm_us h [(a, .inr (2, [.int ba, .int sv, .ref bq, .ref eq, .long si, .long un, .int of])), (bq, .inr (3, [.int bmo, .int bwk, .int bwd, .int bmi])), (eq, .inr (3, [.int emo, .int ewk, .int ewd, .int emi]))]) (by refine jm_us_get ?_ 1 rfl; exact hnd) (by exact jm_pick hnd [1] (by decide) rfl) ) ci_Y_latestUpTo (Or.inl (jm_g3 213 rfl rfl)) im_Y_latestUpTo se_Y_latestUpTo (by refine jm_us_get ?_ 1 rfl; exact hnd) rfl rfl (Nat.le_of_ble_eq_true rfl) ⟨(Nat.le_of_ble_eq_true rfl), (Nat.le_of_ble_eq_true rfl)⟩ ⟨rfl, rfl⟩ ⟨(Nat.le_of_ble_eq_true rfl), (Nat.le_of_ble_eq_true rfl)⟩ (jm_k1 ?_)
    refine jm_lstore X d_Z_findStretch_81 (by decide) (lv1 := [(6, .long (f_Y_latestUpTo se ba u50 bmo bwk bwd bmi)), (5, .int (f_D_yearOf u59)), (4, .int u50), (3, .int (ba + sv)), (0, .ref a), (1, .long se)]) rfl ?_
    refine jm_aload_n X d_Z_findStretch_83 rfl 4 rfl ?_
    refine jm_get X d_Z_findStretch_84 fs_Z_18 (by refine jm_us_get ?_ 0 rfl; exact hnd) rfl ?_
    refine jm_lload_n X d_Z_findStretch_87 rfl 5 rfl ?_
    refine jm_iload_n X d_Z_findStretch_88 rfl 3 rfl ?_
    refine jm_iload X d_Z_findStretch_89 1 rfl ?_
    refine jm_callV (rest := []) X d_Z_findStretch_91 (k_Y_latestUpTo E eq se (ba + sv) (f_D_yearOf u59) emo ewk ewd emi (jm_us h [(a, .inr (2, [.int ba, .int sv, .ref bq, .ref eq, .long si, .long un, .int of])), (bq, .inr (3, [.int bmo, .int bwk, .int bwd, .int bmi])), (eq, .inr (3, [.int emo, .int ewk, .int ewd, .int emi]))]) (by refine jm_us_get ?_ 2 rfl; exact hnd) (by exact jm_pick hnd [2] (by decide) rfl) ) ci_Y_latestUpTo (Or.inl (jm_g3 213 rfl rfl)) im_Y_latestUpTo se_Y_latestUpTo (by refine jm_us_get ?_ 2 rfl; exact hnd) rfl rfl (Nat.le_of_ble_eq_true rfl) ⟨(Nat.le_of_ble_eq_true rfl), (Nat.le_of_ble_eq_true rfl)⟩ ⟨rfl, rfl⟩ ⟨(Nat.le_of_ble_eq_true rfl), (Nat.le_of_ble_eq_true rfl)⟩ (jm_k1 ?_)
    obtain ⟨u91, eu91⟩ : ∃ z_ : Int64, z_ = (f_Y_latestUpTo se (ba + sv) (f_D_yearOf u59) emo ewk ewd emi) := ⟨_, rfl⟩
    rw [← eu91]
    refine jm_lstore X d_Z_findStretch_94 (by decide) (lv1 := [(8, .long u91), (6, .long (f_Y_latestUpTo se ba u50 bmo bwk bwd bmi)), (5, .int (f_D_yearOf u59)), (4, .int u50), (3, .int (ba + sv)), (0, .ref a), (1, .long se)]) rfl ?_
    refine jm_aload_n X d_Z_findStretch_96 rfl 5 rfl ?_
    refine jm_get X d_Z_findStretch_97 fs_Z_12 (by refine jm_us_get ?_ 0 rfl; exact hnd) rfl ?_
    refine jm_lload_n X d_Z_findStretch_100 rfl 6 rfl ?_
    refine jm_aload_n X d_Z_findStretch_101 rfl 5 rfl ?_
    refine jm_get X d_Z_findStretch_102 fs_Z_45 (by refine jm_us_get ?_ 0 rfl; exact hnd) rfl ?_
    refine jm_iload X d_Z_findStretch_105 3 rfl ?_
    refine jm_callV (rest := []) X d_Z_findStretch_107 (k_Y_firstBehind E bq se ba u50 bmo bwk bwd bmi (jm_us h [(a, .inr (2, [.int ba, .int sv, .ref bq, .ref eq, .long si, .long un, .int of])), (bq, .inr (3, [.int bmo, .int bwk, .int bwd, .int bmi])), (eq, .inr (3, [.int emo, .int ewk, .int ewd, .int emi]))]) (by refine jm_us_get ?_ 1 rfl; exact hnd) (by exact jm_pick hnd [1] (by decide) rfl) ) ci_Y_firstBehind (Or.inl (jm_g3 234 rfl rfl)) im_Y_firstBehind se_Y_firstBehind (by refine jm_us_get ?_ 1 rfl; exact hnd) rfl rfl (Nat.le_of_ble_eq_true rfl) ⟨(Nat.le_of_ble_eq_true rfl), (Nat.le_of_ble_eq_true rfl)⟩ ⟨rfl, rfl⟩ ⟨(Nat.le_of_ble_eq_true rfl), (Nat.le_of_ble_eq_true rfl)⟩ (jm_k1 ?_)
    obtain ⟨u107, eu107⟩ : ∃ z_ : Int64, z_ = (f_Y_firstBehind se ba u50 bmo bwk bwd bmi) := ⟨_, rfl⟩
    rw [← eu107]
    refine jm_lstore X d_Z_findStretch_110 (by decide) (lv1 := [(10, .long u107), (8, .long u91), (6, .long (f_Y_latestUpTo se ba u50 bmo bwk bwd bmi)), (5, .int (f_D_yearOf u59)), (4, .int u50), (3, .int (ba + sv)), (0, .ref a), (1, .long se)]) rfl ?_
    refine jm_aload_n X d_Z_findStretch_112 rfl 6 rfl ?_
    refine jm_get X d_Z_findStretch_113 fs_Z_18 (by refine jm_us_get ?_ 0 rfl; exact hnd) rfl ?_
    refine jm_lload_n X d_Z_findStretch_116 rfl 7 rfl ?_
    refine jm_iload_n X d_Z_findStretch_117 rfl 5 rfl ?_
    refine jm_iload X d_Z_findStretch_118 3 rfl ?_
    refine jm_callV (rest := []) X d_Z_findStretch_120 (k_Y_firstBehind E eq se (ba + sv) (f_D_yearOf u59) emo ewk ewd emi (jm_us h [(a, .inr (2, [.int ba, .int sv, .ref bq, .ref eq, .long si, .long un, .int of])), (bq, .inr (3, [.int bmo, .int bwk, .int bwd, .int bmi])), (eq, .inr (3, [.int emo, .int ewk, .int ewd, .int emi]))]) (by refine jm_us_get ?_ 2 rfl; exact hnd) (by exact jm_pick hnd [2] (by decide) rfl) ) ci_Y_firstBehind (Or.inl (jm_g3 234 rfl rfl)) im_Y_firstBehind se_Y_firstBehind (by refine jm_us_get ?_ 2 rfl; exact hnd) rfl rfl (Nat.le_of_ble_eq_true rfl) ⟨(Nat.le_of_ble_eq_true rfl), (Nat.le_of_ble_eq_true rfl)⟩ ⟨rfl, rfl⟩ ⟨(Nat.le_of_ble_eq_true rfl), (Nat.le_of_ble_eq_true rfl)⟩ (jm_k1 ?_)
    obtain ⟨u120, eu120⟩ : ∃ z_ : Int64, z_ = (f_Y_firstBehind se (ba + sv) (f_D_yearOf u59) emo ewk ewd emi) := ⟨_, rfl⟩
    rw [← eu120]
    refine jm_lstore X d_Z_findStretch_123 (by decide) (lv1 := [(12, .long u120), (10, .long u107), (8, .long u91), (6, .long (f_Y_latestUpTo se ba u50 bmo bwk bwd bmi)), (5, .int (f_D_yearOf u59)), (4, .int u50), (3, .int (ba + sv)), (0, .ref a), (1, .long se)]) rfl ?_
    refine jm_aload_n X d_Z_findStretch_125 rfl 7 rfl ?_
    refine jm_lload X d_Z_findStretch_126 3 rfl ?_
    refine jm_lload X d_Z_findStretch_128 2 rfl ?_
    refine jm_callS (rest := [.ref a]) X d_Z_findStretch_130 (k_Math_max2 E (f_Y_latestUpTo se ba u50 bmo bwk bwd bmi) u91 (jm_us h [(a, .inr (2, [.int ba, .int sv, .ref bq, .ref eq, .long si, .long un, .int of])), (bq, .inr (3, [.int bmo, .int bwk, .int bwd, .int bmi])), (eq, .inr (3, [.int emo, .int ewk, .int ewd, .int emi]))])  ) ci_Math_max2 (Or.inl (jm_g4 0 rfl rfl)) st_Math_max2 rfl (Nat.le_of_ble_eq_true rfl) ⟨(Nat.le_of_ble_eq_true rfl), (Nat.le_of_ble_eq_true rfl)⟩ ⟨rfl, rfl⟩ ⟨(Nat.le_of_ble_eq_true rfl), (Nat.le_of_ble_eq_true rfl)⟩ (jm_k1 ?_)
    obtain ⟨u130, eu130⟩ : ∃ z_ : Int64, z_ = (f_Math_max2 (f_Y_latestUpTo se ba u50 bmo bwk bwd bmi) u91) := ⟨_, rfl⟩
    rw [← eu130]
    refine jm_put X d_Z_findStretch_133 fs_Z_62 (by refine jm_us_get ?_ 0 rfl; exact hnd) rfl rfl (Nat.le_of_ble_eq_true rfl) (fs1 := [.int ba, .int sv, .ref bq, .ref eq, .long u130, .long un, .int of]) rfl (jm_hq (by refine jm_us_set ?_ 0 (L1 := [(a, .inr (2, [.int ba, .int sv, .ref bq, .ref eq, .long u130, .long un, .int of])), (bq, .inr (3, [.int bmo, .int bwk, .int bwd, .int bmi])), (eq, .inr (3, [.int emo, .int ewk, .int ewd, .int emi]))]) rfl rfl; exact hnd) ?_)
    refine jm_aload_n X d_Z_findStretch_136 rfl 7 rfl ?_
    refine jm_lload X d_Z_findStretch_137 1 rfl ?_
    refine jm_lload X d_Z_findStretch_139 0 rfl ?_
    refine jm_callS (rest := [.ref a]) X d_Z_findStretch_141 (k_Math_min2 E u107 u120 (jm_us h [(a, .inr (2, [.int ba, .int sv, .ref bq, .ref eq, .long u130, .long un, .int of])), (bq, .inr (3, [.int bmo, .int bwk, .int bwd, .int bmi])), (eq, .inr (3, [.int emo, .int ewk, .int ewd, .int emi]))])  ) ci_Math_min2 (Or.inl (jm_g4 3 rfl rfl)) st_Math_min2 rfl (Nat.le_of_ble_eq_true rfl) ⟨(Nat.le_of_ble_eq_true rfl), (Nat.le_of_ble_eq_true rfl)⟩ ⟨rfl, rfl⟩ ⟨(Nat.le_of_ble_eq_true rfl), (Nat.le_of_ble_eq_true rfl)⟩ (jm_k1 ?_)
    refine jm_put X d_Z_findStretch_144 fs_Z_23 (by refine jm_us_get ?_ 0 rfl; exact hnd) rfl rfl (Nat.le_of_ble_eq_true rfl) (fs1 := [.int ba, .int sv, .ref bq, .ref eq, .long u130, .long (f_Math_min2 u107 u120), .int of]) rfl (jm_hq (by refine jm_us_set ?_ 0 (L1 := [(a, .inr (2, [.int ba, .int sv, .ref bq, .ref eq, .long u130, .long (f_Math_min2 u107 u120), .int of])), (bq, .inr (3, [.int bmo, .int bwk, .int bwd, .int bmi])), (eq, .inr (3, [.int emo, .int ewk, .int ewd, .int emi]))]) rfl rfl; exact hnd) ?_)
    refine jm_aload_n X d_Z_findStretch_147 rfl 7 rfl ?_
    refine jm_lload X d_Z_findStretch_148 3 rfl ?_
    refine jm_lload X d_Z_findStretch_150 2 rfl ?_
    refine jm_lcmp X d_Z_findStretch_152 ?_
    have J164_3 : ∀ (v164 : Int32), v164 = (if (f_Y_latestUpTo se ba u50 bmo bwk bwd bmi) ≤ u91 then ba else (ba + sv) : Int32) → jm_W p l e ({ frames := 3, cells := 0, slots := 0, locals := 73 }) s m ([.ref a, .long se] : List Value).toArray below meth c S D jm_cl (jm_Q S D jm_cl below s (jm_R none (jm_us h [(a, .inr (2, [.int ba, .int sv, .ref bq, .ref eq, .long (f_Z_findStretch_a_4 se ba sv si un of bmo bwk bwd bmi emo ewk ewd emi), .long (f_Z_findStretch_a_5 se ba sv si un of bmo bwk bwd bmi emo ewk ewd emi), .int (f_Z_findStretch_a_6 se ba sv si un of bmo bwk bwd bmi emo ewk ewd emi)])), (bq, .inr (3, [.int bmo, .int bwk, .int bwd, .int bmi])), (eq, .inr (3, [.int emo, .int ewk, .int ewd, .int emi]))])) 0 0) 14 164 [(12, .long u120), (10, .long u107), (8, .long u91), (6, .long (f_Y_latestUpTo se ba u50 bmo bwk bwd bmi)), (5, .int (f_D_yearOf u59)), (4, .int u50), (3, .int (ba + sv)), (0, .ref a), (1, .long se)] [.int v164, .ref a] (jm_us h [(a, .inr (2, [.int ba, .int sv, .ref bq, .ref eq, .long u130, .long (f_Math_min2 u107 u120), .int of])), (bq, .inr (3, [.int bmo, .int bwk, .int bwd, .int bmi])), (eq, .inr (3, [.int emo, .int ewk, .int ewd, .int emi]))]) 0 0 := by
      intro v164 ev164
      refine jm_put X d_Z_findStretch_164 fs_Z_69 (by refine jm_us_get ?_ 0 rfl; exact hnd) rfl rfl (Nat.le_of_ble_eq_true rfl) (fs1 := [.int ba, .int sv, .ref bq, .ref eq, .long u130, .long (f_Math_min2 u107 u120), .int v164]) rfl (jm_hq (by refine jm_us_set ?_ 0 (L1 := [(a, .inr (2, [.int ba, .int sv, .ref bq, .ref eq, .long u130, .long (f_Math_min2 u107 u120), .int v164])), (bq, .inr (3, [.int bmo, .int bwk, .int bwd, .int bmi])), (eq, .inr (3, [.int emo, .int ewk, .int ewd, .int emi]))]) rfl rfl; exact hnd) ?_)
      exact jm_vret X hr hk d_Z_findStretch_167 ⟨rfl, (by show jm_us h _ = jm_us h _; unfold f_Z_findStretch_a_4 f_Z_findStretch_a_5 f_Z_findStretch_a_6; subst ev164; subst eu130; subst eu120; subst eu107; subst eu91; subst eu59; subst eu50; first | (simp only [if_neg c1, reduceIte]; done) | (simp only [if_neg c1, reduceIte]; rfl) | rfl)⟩
    refine jm_lif_le (tgt := 160) X d_Z_findStretch_153 (by decide) (fun c2 => ?_) (fun c2 => ?_)
    · refine jm_aload_n X d_Z_findStretch_160 rfl 7 rfl ?_
      refine jm_get X d_Z_findStretch_161 fs_Z_45 (by refine jm_us_get ?_ 0 rfl; exact hnd) rfl ?_
      exact J164_3 _ (by first | (simp only [if_pos c2, reduceIte]; done) | (with_reducible rfl))
    · refine jm_iload_n X d_Z_findStretch_156 rfl 6 rfl ?_
      refine jm_goto (tgt := 164) X d_Z_findStretch_157 (by decide) ?_
      exact J164_3 _ (by first | (simp only [if_neg c2, reduceIte]; done) | (with_reducible rfl))
  · refine jm_aload_n X d_Z_findStretch_7 rfl 0 rfl ?_
    refine jm_ldc2 (v := (-1152921504606846976)) X d_Z_findStretch_8 (jm_g1 133 rfl rfl) ?_
    refine jm_put X d_Z_findStretch_11 fs_Z_62 (by refine jm_us_get ?_ 0 rfl; exact hnd) rfl rfl (Nat.le_of_ble_eq_true rfl) (fs1 := [.int ba, .int sv, .ref bq, .ref eq, .long (-1152921504606846976), .long un, .int of]) rfl (jm_hq (by refine jm_us_set ?_ 0 (L1 := [(a, .inr (2, [.int ba, .int sv, .ref bq, .ref eq, .long (-1152921504606846976), .long un, .int of])), (bq, .inr (3, [.int bmo, .int bwk, .int bwd, .int bmi])), (eq, .inr (3, [.int emo, .int ewk, .int ewd, .int emi]))]) rfl rfl; exact hnd) ?_)
    refine jm_aload_n X d_Z_findStretch_14 rfl 0 rfl ?_
    refine jm_ldc2 (v := 1152921504606846976) X d_Z_findStretch_15 (jm_g3 194 rfl rfl) ?_
    refine jm_put X d_Z_findStretch_18 fs_Z_23 (by refine jm_us_get ?_ 0 rfl; exact hnd) rfl rfl (Nat.le_of_ble_eq_true rfl) (fs1 := [.int ba, .int sv, .ref bq, .ref eq, .long (-1152921504606846976), .long 1152921504606846976, .int of]) rfl (jm_hq (by refine jm_us_set ?_ 0 (L1 := [(a, .inr (2, [.int ba, .int sv, .ref bq, .ref eq, .long (-1152921504606846976), .long 1152921504606846976, .int of])), (bq, .inr (3, [.int bmo, .int bwk, .int bwd, .int bmi])), (eq, .inr (3, [.int emo, .int ewk, .int ewd, .int emi]))]) rfl rfl; exact hnd) ?_)
    refine jm_aload_n X d_Z_findStretch_21 rfl 0 rfl ?_
    refine jm_aload_n X d_Z_findStretch_22 rfl 0 rfl ?_
    refine jm_get X d_Z_findStretch_23 fs_Z_45 (by refine jm_us_get ?_ 0 rfl; exact hnd) rfl ?_
    refine jm_put X d_Z_findStretch_26 fs_Z_69 (by refine jm_us_get ?_ 0 rfl; exact hnd) rfl rfl (Nat.le_of_ble_eq_true rfl) (fs1 := [.int ba, .int sv, .ref bq, .ref eq, .long (-1152921504606846976), .long 1152921504606846976, .int ba]) rfl (jm_hq (by refine jm_us_set ?_ 0 (L1 := [(a, .inr (2, [.int ba, .int sv, .ref bq, .ref eq, .long (-1152921504606846976), .long 1152921504606846976, .int ba])), (bq, .inr (3, [.int bmo, .int bwk, .int bwd, .int bmi])), (eq, .inr (3, [.int emo, .int ewk, .int ewd, .int emi]))]) rfl rfl; exact hnd) ?_)
    exact jm_vret X hr hk d_Z_findStretch_29 ⟨rfl, (by show jm_us h _ = jm_us h _; unfold f_Z_findStretch_a_4 f_Z_findStretch_a_5 f_Z_findStretch_a_6; first | (simp only [if_pos c1, reduceIte]; done) | (simp only [if_pos c1, reduceIte]; rfl) | rfl)⟩
def f_Z_offsetAt (se : Int64) (ba : Int32) (sv : Int32) (si : Int64) (un : Int64) (of : Int32) (bmo : Int32) (bwk : Int32) (bwd : Int32) (bmi : Int32) (emo : Int32) (ewk : Int32) (ewd : Int32) (emi : Int32) : Int32 :=
  let v23_2 : Int32 := if se < si then (f_Z_findStretch_a_6 se ba sv si un of bmo bwk bwd bmi emo ewk ewd emi) else (if se < un then of else (f_Z_findStretch_a_6 se ba sv si un of bmo bwk bwd bmi emo ewk ewd emi))
  v23_2
def f_Z_offsetAt_a_4 (se : Int64) (ba : Int32) (sv : Int32) (si : Int64) (un : Int64) (of : Int32) (bmo : Int32) (bwk : Int32) (bwd : Int32) (bmi : Int32) (emo : Int32) (ewk : Int32) (ewd : Int32) (emi : Int32) : Int64 :=
  let v23 : Int64 := if se < si then (f_Z_findStretch_a_4 se ba sv si un of bmo bwk bwd bmi emo ewk ewd emi) else (if se < un then si else (f_Z_findStretch_a_4 se ba sv si un of bmo bwk bwd bmi emo ewk ewd emi))
  v23
def f_Z_offsetAt_a_5 (se : Int64) (ba : Int32) (sv : Int32) (si : Int64) (un : Int64) (of : Int32) (bmo : Int32) (bwk : Int32) (bwd : Int32) (bmi : Int32) (emo : Int32) (ewk : Int32) (ewd : Int32) (emi : Int32) : Int64 :=
  let v23_1 : Int64 := if se < si then (f_Z_findStretch_a_5 se ba sv si un of bmo bwk bwd bmi emo ewk ewd emi) else (if se < un then un else (f_Z_findStretch_a_5 se ba sv si un of bmo bwk bwd bmi emo ewk ewd emi))
  v23_1
def f_Z_offsetAt_a_6 (se : Int64) (ba : Int32) (sv : Int32) (si : Int64) (un : Int64) (of : Int32) (bmo : Int32) (bwk : Int32) (bwd : Int32) (bmi : Int32) (emo : Int32) (ewk : Int32) (ewd : Int32) (emi : Int32) : Int32 :=
  let v23_2 : Int32 := if se < si then (f_Z_findStretch_a_6 se ba sv si un of bmo bwk bwd bmi emo ewk ewd emi) else (if se < un then of else (f_Z_findStretch_a_6 se ba sv si un of bmo bwk bwd bmi emo ewk ewd emi))
  v23_2
set_option maxRecDepth 20000 in
set_option maxHeartbeats 4000000 in
theorem k_Z_offsetAt {l : Launch} {S : State} {D : va_G} {dA : Nat → ClassId} (E : jm_en S D jm_cl (jm_ty dA) jm_G) (a : Nat) (se : Int64) (ba : Int32) (sv : Int32) (bq : Nat) (eq : Nat) (si : Int64) (un : Int64) (of : Int32) (bmo : Int32) (bwk : Int32) (bwd : Int32) (bmi : Int32) (emo : Int32) (ewk : Int32) (ewd : Int32) (emi : Int32) (h : jm_H) (h_a : h a = some (.inr (2, [.int ba, .int sv, .ref bq, .ref eq, .long si, .long un, .int of]))) (h_bq : h bq = some (.inr (3, [.int bmo, .int bwk, .int bwd, .int bmi]))) (h_eq : h eq = some (.inr (3, [.int emo, .int ewk, .int ewd, .int emi]))) (hnd : ([a, bq, eq] : List Nat).Nodup)  : jm_M l S D jm_cl y_Z_offsetAt (Cond.code y_Z_offsetAt b_Z_offsetAt 3 (some FieldType.int)) { frames := 4, cells := 0, slots := 0, locals := 106 } [.ref a, .long se] h (jm_R (some (.int (f_Z_offsetAt se ba sv si un of bmo bwk bwd bmi emo ewk ewd emi))) (jm_us h [(a, .inr (2, [.int ba, .int sv, .ref bq, .ref eq, .long (f_Z_offsetAt_a_4 se ba sv si un of bmo bwk bwd bmi emo ewk ewd emi), .long (f_Z_offsetAt_a_5 se ba sv si un of bmo bwk bwd bmi emo ewk ewd emi), .int (f_Z_offsetAt_a_6 se ba sv si un of bmo bwk bwd bmi emo ewk ewd emi)])), (bq, .inr (3, [.int bmo, .int bwk, .int bwd, .int bmi])), (eq, .inr (3, [.int emo, .int ewk, .int ewd, .int emi]))])) 0 0 := by
  refine jm_ofW E (by decide) (Nat.le_of_ble_eq_true rfl) (fun p e s m below meth c X hr hk hmn hout hadm => ?_)
  have X : jm_cx p s m ([.ref a, .long se] : List Value).toArray c S D jm_cl (jm_ty dA) jm_G b_Z_offsetAt 3 "JobHouse$Zone" := X
  have hL : ∀ zz ∈ ([(a, .inr (2, [.int ba, .int sv, .ref bq, .ref eq, .long si, .long un, .int of])), (bq, .inr (3, [.int bmo, .int bwk, .int bwd, .int bmi])), (eq, .inr (3, [.int emo, .int ewk, .int ewd, .int emi]))] : List (Nat × va_E)), h zz.1 = some zz.2 := List.forall_mem_cons.mpr ⟨h_a, List.forall_mem_cons.mpr ⟨h_bq, List.forall_mem_cons.mpr ⟨h_eq, fun _ hz => absurd hz List.not_mem_nil⟩⟩⟩
  refine jm_hq (jm_us_id hL).symm ?_
  show jm_W p l e ({ frames := 4, cells := 0, slots := 0, locals := 106 }) s m ([.ref a, .long se] : List Value).toArray below meth c S D jm_cl (jm_Q S D jm_cl below s (jm_R (some (.int (f_Z_offsetAt se ba sv si un of bmo bwk bwd bmi emo ewk ewd emi))) (jm_us h [(a, .inr (2, [.int ba, .int sv, .ref bq, .ref eq, .long (f_Z_offsetAt_a_4 se ba sv si un of bmo bwk bwd bmi emo ewk ewd emi), .long (f_Z_offsetAt_a_5 se ba sv si un of bmo bwk bwd bmi emo ewk ewd emi), .int (f_Z_offsetAt_a_6 se ba sv si un of bmo bwk bwd bmi emo ewk ewd emi)])), (bq, .inr (3, [.int bmo, .int bwk, .int bwd, .int bmi])), (eq, .inr (3, [.int emo, .int ewk, .int ewd, .int emi]))])) 0 0) 3 0 [(0, .ref a), (1, .long se)] [] (jm_us h [(a, .inr (2, [.int ba, .int sv, .ref bq, .ref eq, .long si, .long un, .int of])), (bq, .inr (3, [.int bmo, .int bwk, .int bwd, .int bmi])), (eq, .inr (3, [.int emo, .int ewk, .int ewd, .int emi]))]) 0 0
  refine jm_lload_n X d_Z_offsetAt_0 rfl 1 rfl ?_
  refine jm_aload_n X d_Z_offsetAt_1 rfl 0 rfl ?_
  refine jm_get X d_Z_offsetAt_2 fs_Z_62 (by refine jm_us_get ?_ 0 rfl; exact hnd) rfl ?_
  refine jm_lcmp X d_Z_offsetAt_5 ?_
  have J23_2 : ∀ (v23 : Int64) (v23_1 : Int64) (v23_2 : Int32), v23 = (if se < si then (f_Z_findStretch_a_4 se ba sv si un of bmo bwk bwd bmi emo ewk ewd emi) else (if se < un then si else (f_Z_findStretch_a_4 se ba sv si un of bmo bwk bwd bmi emo ewk ewd emi)) : Int64) → v23_1 = (if se < si then (f_Z_findStretch_a_5 se ba sv si un of bmo bwk bwd bmi emo ewk ewd emi) else (if se < un then un else (f_Z_findStretch_a_5 se ba sv si un of bmo bwk bwd bmi emo ewk ewd emi)) : Int64) → v23_2 = (if se < si then (f_Z_findStretch_a_6 se ba sv si un of bmo bwk bwd bmi emo ewk ewd emi) else (if se < un then of else (f_Z_findStretch_a_6 se ba sv si un of bmo bwk bwd bmi emo ewk ewd emi)) : Int32) → jm_W p l e ({ frames := 4, cells := 0, slots := 0, locals := 106 }) s m ([.ref a, .long se] : List Value).toArray below meth c S D jm_cl (jm_Q S D jm_cl below s (jm_R (some (.int (f_Z_offsetAt se ba sv si un of bmo bwk bwd bmi emo ewk ewd emi))) (jm_us h [(a, .inr (2, [.int ba, .int sv, .ref bq, .ref eq, .long (f_Z_offsetAt_a_4 se ba sv si un of bmo bwk bwd bmi emo ewk ewd emi), .long (f_Z_offsetAt_a_5 se ba sv si un of bmo bwk bwd bmi emo ewk ewd emi), .int (f_Z_offsetAt_a_6 se ba sv si un of bmo bwk bwd bmi emo ewk ewd emi)])), (bq, .inr (3, [.int bmo, .int bwk, .int bwd, .int bmi])), (eq, .inr (3, [.int emo, .int ewk, .int ewd, .int emi]))])) 0 0) 3 23 [(0, .ref a), (1, .long se)] [] (jm_us h [(a, .inr (2, [.int ba, .int sv, .ref bq, .ref eq, .long v23, .long v23_1, .int v23_2])), (bq, .inr (3, [.int bmo, .int bwk, .int bwd, .int bmi])), (eq, .inr (3, [.int emo, .int ewk, .int ewd, .int emi]))]) 0 0 := by
    intro v23 v23_1 v23_2 ev23 ev23_1 ev23_2
    refine jm_aload_n X d_Z_offsetAt_23 rfl 0 rfl ?_
    refine jm_get X d_Z_offsetAt_24 fs_Z_69 (by refine jm_us_get ?_ 0 rfl; exact hnd) rfl ?_
    exact jm_iret X hr hk d_Z_offsetAt_27 ⟨(by show Outcome.returned _ = Outcome.returned _; unfold f_Z_offsetAt; subst ev23_2; subst ev23_1; subst ev23; rfl), (by show jm_us h _ = jm_us h _; unfold f_Z_offsetAt_a_4 f_Z_offsetAt_a_5 f_Z_offsetAt_a_6; subst ev23_2; subst ev23_1; subst ev23; rfl)⟩
  refine jm_lif_lt (tgt := 18) X d_Z_offsetAt_6 (by decide) (fun c1 => ?_) (fun c1 => ?_)
  · refine jm_aload_n X d_Z_offsetAt_18 rfl 0 rfl ?_
    refine jm_lload_n X d_Z_offsetAt_19 rfl 1 rfl ?_
    refine jm_callV (rest := []) X d_Z_offsetAt_20 (k_Z_findStretch E a se ba sv bq eq si un of bmo bwk bwd bmi emo ewk ewd emi (jm_us h [(a, .inr (2, [.int ba, .int sv, .ref bq, .ref eq, .long si, .long un, .int of])), (bq, .inr (3, [.int bmo, .int bwk, .int bwd, .int bmi])), (eq, .inr (3, [.int emo, .int ewk, .int ewd, .int emi]))]) (by refine jm_us_get ?_ 0 rfl; exact hnd) (by refine jm_us_get ?_ 1 rfl; exact hnd) (by refine jm_us_get ?_ 2 rfl; exact hnd) (by exact jm_pick hnd [0, 1, 2] (by decide) rfl) ) ci_Z_findStretch (Or.inl (jm_g3 190 rfl rfl)) im_Z_findStretch se_Z_findStretch (by refine jm_us_get ?_ 0 rfl; exact hnd) rfl rfl (Nat.le_of_ble_eq_true rfl) ⟨(Nat.le_of_ble_eq_true rfl), (Nat.le_of_ble_eq_true rfl)⟩ ⟨rfl, rfl⟩ ⟨(Nat.le_of_ble_eq_true rfl), (Nat.le_of_ble_eq_true rfl)⟩ (jm_k0 (jm_hq (by refine jm_into ?_ [0, 1, 2] rfl (L1 := [(a, .inr (2, [.int ba, .int sv, .ref bq, .ref eq, .long (f_Z_findStretch_a_4 se ba sv si un of bmo bwk bwd bmi emo ewk ewd emi), .long (f_Z_findStretch_a_5 se ba sv si un of bmo bwk bwd bmi emo ewk ewd emi), .int (f_Z_findStretch_a_6 se ba sv si un of bmo bwk bwd bmi emo ewk ewd emi)])), (bq, .inr (3, [.int bmo, .int bwk, .int bwd, .int bmi])), (eq, .inr (3, [.int emo, .int ewk, .int ewd, .int emi]))]) rfl; exact hnd) ?_))
    exact J23_2 _ _ _ (by first | (simp only [if_pos c1, reduceIte]; done) | (with_reducible rfl)) (by first | (simp only [if_pos c1, reduceIte]; done) | (with_reducible rfl)) (by first | (simp only [if_pos c1, reduceIte]; done) | (with_reducible rfl))
  · refine jm_lload_n X d_Z_offsetAt_9 rfl 1 rfl ?_
    refine jm_aload_n X d_Z_offsetAt_10 rfl 0 rfl ?_
    refine jm_get X d_Z_offsetAt_11 fs_Z_23 (by refine jm_us_get ?_ 0 rfl; exact hnd) rfl ?_
    refine jm_lcmp X d_Z_offsetAt_14 ?_
    refine jm_lif_lt (tgt := 23) X d_Z_offsetAt_15 (by decide) (fun c3 => ?_) (fun c3 => ?_)
    · exact J23_2 _ _ _ (by first | (simp only [if_neg c1, if_pos c3, reduceIte]; done) | (with_reducible rfl)) (by first | (simp only [if_neg c1, if_pos c3, reduceIte]; done) | (with_reducible rfl)) (by first | (simp only [if_neg c1, if_pos c3, reduceIte]; done) | (with_reducible rfl))
    · refine jm_aload_n X d_Z_offsetAt_18 rfl 0 rfl ?_
      refine jm_lload_n X d_Z_offsetAt_19 rfl 1 rfl ?_
      refine jm_callV (rest := []) X d_Z_offsetAt_20 (k_Z_findStretch E a se ba sv bq eq si un of bmo bwk bwd bmi emo ewk ewd emi (jm_us h [(a, .inr (2, [.int ba, .int sv, .ref bq, .ref eq, .long si, .long un, .int of])), (bq, .inr (3, [.int bmo, .int bwk, .int bwd, .int bmi])), (eq, .inr (3, [.int emo, .int ewk, .int ewd, .int emi]))]) (by refine jm_us_get ?_ 0 rfl; exact hnd) (by refine jm_us_get ?_ 1 rfl; exact hnd) (by refine jm_us_get ?_ 2 rfl; exact hnd) (by exact jm_pick hnd [0, 1, 2] (by decide) rfl) ) ci_Z_findStretch (Or.inl (jm_g3 190 rfl rfl)) im_Z_findStretch se_Z_findStretch (by refine jm_us_get ?_ 0 rfl; exact hnd) rfl rfl (Nat.le_of_ble_eq_true rfl) ⟨(Nat.le_of_ble_eq_true rfl), (Nat.le_of_ble_eq_true rfl)⟩ ⟨rfl, rfl⟩ ⟨(Nat.le_of_ble_eq_true rfl), (Nat.le_of_ble_eq_true rfl)⟩ (jm_k0 (jm_hq (by refine jm_into ?_ [0, 1, 2] rfl (L1 := [(a, .inr (2, [.int ba, .int sv, .ref bq, .ref eq, .long (f_Z_findStretch_a_4 se ba sv si un of bmo bwk bwd bmi emo ewk ewd emi), .long (f_Z_findStretch_a_5 se ba sv si un of bmo bwk bwd bmi emo ewk ewd emi), .int (f_Z_findStretch_a_6 se ba sv si un of bmo bwk bwd bmi emo ewk ewd emi)])), (bq, .inr (3, [.int bmo, .int bwk, .int bwd, .int bmi])), (eq, .inr (3, [.int emo, .int ewk, .int ewd, .int emi]))]) rfl; exact hnd) ?_))
      exact J23_2 _ _ _ (by first | (simp only [if_neg c1, if_neg c3, reduceIte]; done) | (with_reducible rfl)) (by first | (simp only [if_neg c1, if_neg c3, reduceIte]; done) | (with_reducible rfl)) (by first | (simp only [if_neg c1, if_neg c3, reduceIte]; done) | (with_reducible rfl))
