def y_D_firstOfMonth : MethodName := ⟨"JobHouse$Dates", "firstOfMonth", "(II)I"⟩
abbrev b_D_firstOfMonth : ByteArray := prog_4_method_2_code
theorem d_D_firstOfMonth_0 : decode b_D_firstOfMonth 0 = .ok (.iload_n 1, 1) := by decide +kernel
theorem d_D_firstOfMonth_1 : decode b_D_firstOfMonth 1 = .ok (.iconst 2, 1) := by decide +kernel
theorem d_D_firstOfMonth_2 : decode b_D_firstOfMonth 2 = .ok (.if_icmp .le 7, 3) := by decide +kernel
theorem d_D_firstOfMonth_5 : decode b_D_firstOfMonth 5 = .ok (.iload_n 0, 1) := by decide +kernel
theorem d_D_firstOfMonth_6 : decode b_D_firstOfMonth 6 = .ok (.goto 6, 3) := by decide +kernel
theorem d_D_firstOfMonth_9 : decode b_D_firstOfMonth 9 = .ok (.iload_n 0, 1) := by decide +kernel
theorem d_D_firstOfMonth_10 : decode b_D_firstOfMonth 10 = .ok (.iconst 1, 1) := by decide +kernel
theorem d_D_firstOfMonth_11 : decode b_D_firstOfMonth 11 = .ok (.isub, 1) := by decide +kernel
theorem d_D_firstOfMonth_12 : decode b_D_firstOfMonth 12 = .ok (.istore_n 2, 1) := by decide +kernel
theorem d_D_firstOfMonth_13 : decode b_D_firstOfMonth 13 = .ok (.iload_n 1, 1) := by decide +kernel
theorem d_D_firstOfMonth_14 : decode b_D_firstOfMonth 14 = .ok (.iconst 2, 1) := by decide +kernel
theorem d_D_firstOfMonth_15 : decode b_D_firstOfMonth 15 = .ok (.if_icmp .le 9, 3) := by decide +kernel
theorem d_D_firstOfMonth_18 : decode b_D_firstOfMonth 18 = .ok (.iload_n 1, 1) := by decide +kernel
theorem d_D_firstOfMonth_19 : decode b_D_firstOfMonth 19 = .ok (.iconst 3, 1) := by decide +kernel
theorem d_D_firstOfMonth_20 : decode b_D_firstOfMonth 20 = .ok (.isub, 1) := by decide +kernel
theorem d_D_firstOfMonth_21 : decode b_D_firstOfMonth 21 = .ok (.goto 7, 3) := by decide +kernel
theorem d_D_firstOfMonth_24 : decode b_D_firstOfMonth 24 = .ok (.iload_n 1, 1) := by decide +kernel
theorem d_D_firstOfMonth_25 : decode b_D_firstOfMonth 25 = .ok (.bipush 9, 2) := by decide +kernel
theorem d_D_firstOfMonth_27 : decode b_D_firstOfMonth 27 = .ok (.iadd, 1) := by decide +kernel
theorem d_D_firstOfMonth_28 : decode b_D_firstOfMonth 28 = .ok (.istore_n 3, 1) := by decide +kernel
theorem d_D_firstOfMonth_29 : decode b_D_firstOfMonth 29 = .ok (.iload_n 2, 1) := by decide +kernel
theorem d_D_firstOfMonth_30 : decode b_D_firstOfMonth 30 = .ok (.iconst 4, 1) := by decide +kernel
theorem d_D_firstOfMonth_31 : decode b_D_firstOfMonth 31 = .ok (.idiv, 1) := by decide +kernel
theorem d_D_firstOfMonth_32 : decode b_D_firstOfMonth 32 = .ok (.iload_n 2, 1) := by decide +kernel
theorem d_D_firstOfMonth_33 : decode b_D_firstOfMonth 33 = .ok (.bipush 100, 2) := by decide +kernel
theorem d_D_firstOfMonth_35 : decode b_D_firstOfMonth 35 = .ok (.idiv, 1) := by decide +kernel
theorem d_D_firstOfMonth_36 : decode b_D_firstOfMonth 36 = .ok (.isub, 1) := by decide +kernel
theorem d_D_firstOfMonth_37 : decode b_D_firstOfMonth 37 = .ok (.iload_n 2, 1) := by decide +kernel
theorem d_D_firstOfMonth_38 : decode b_D_firstOfMonth 38 = .ok (.sipush 400, 3) := by decide +kernel
theorem d_D_firstOfMonth_41 : decode b_D_firstOfMonth 41 = .ok (.idiv, 1) := by decide +kernel
theorem d_D_firstOfMonth_42 : decode b_D_firstOfMonth 42 = .ok (.iadd, 1) := by decide +kernel
theorem d_D_firstOfMonth_43 : decode b_D_firstOfMonth 43 = .ok (.istore 4, 2) := by decide +kernel
theorem d_D_firstOfMonth_45 : decode b_D_firstOfMonth 45 = .ok (.sipush 365, 3) := by decide +kernel
theorem d_D_firstOfMonth_48 : decode b_D_firstOfMonth 48 = .ok (.iload_n 2, 1) := by decide +kernel
theorem d_D_firstOfMonth_49 : decode b_D_firstOfMonth 49 = .ok (.imul, 1) := by decide +kernel
theorem d_D_firstOfMonth_50 : decode b_D_firstOfMonth 50 = .ok (.iload 4, 2) := by decide +kernel
theorem d_D_firstOfMonth_52 : decode b_D_firstOfMonth 52 = .ok (.iadd, 1) := by decide +kernel
theorem d_D_firstOfMonth_53 : decode b_D_firstOfMonth 53 = .ok (.sipush 153, 3) := by decide +kernel
theorem d_D_firstOfMonth_56 : decode b_D_firstOfMonth 56 = .ok (.iload_n 3, 1) := by decide +kernel
theorem d_D_firstOfMonth_57 : decode b_D_firstOfMonth 57 = .ok (.imul, 1) := by decide +kernel
theorem d_D_firstOfMonth_58 : decode b_D_firstOfMonth 58 = .ok (.iconst 2, 1) := by decide +kernel
theorem d_D_firstOfMonth_59 : decode b_D_firstOfMonth 59 = .ok (.iadd, 1) := by decide +kernel
theorem d_D_firstOfMonth_60 : decode b_D_firstOfMonth 60 = .ok (.iconst 5, 1) := by decide +kernel
theorem d_D_firstOfMonth_61 : decode b_D_firstOfMonth 61 = .ok (.idiv, 1) := by decide +kernel
theorem d_D_firstOfMonth_62 : decode b_D_firstOfMonth 62 = .ok (.iadd, 1) := by decide +kernel
theorem d_D_firstOfMonth_63 : decode b_D_firstOfMonth 63 = .ok (.ldc 9, 2) := by decide +kernel
theorem d_D_firstOfMonth_65 : decode b_D_firstOfMonth 65 = .ok (.isub, 1) := by decide +kernel
theorem d_D_firstOfMonth_66 : decode b_D_firstOfMonth 66 = .ok (.ireturn, 1) := by decide +kernel
theorem ci_D_firstOfMonth : jm_ci jm_G y_D_firstOfMonth (Cond.code y_D_firstOfMonth b_D_firstOfMonth 5 (some FieldType.int)) 5 2 := ⟨jm_g3 211 rfl rfl, Or.inl ⟨_, _, rfl⟩, jm_g1 24 rfl rfl, ⟨by decide, by decide⟩, by decide +kernel⟩
theorem st_D_firstOfMonth : Cond.static y_D_firstOfMonth ∈ jm_G := jm_g3 210 rfl rfl
def y_D_monthLength : MethodName := ⟨"JobHouse$Dates", "monthLength", "(II)I"⟩
abbrev b_D_monthLength : ByteArray := prog_4_method_3_code
theorem d_D_monthLength_0 : decode b_D_monthLength 0 = .ok (.iload_n 1, 1) := by decide +kernel
theorem d_D_monthLength_1 : decode b_D_monthLength 1 = .ok (.iconst 2, 1) := by decide +kernel
theorem d_D_monthLength_2 : decode b_D_monthLength 2 = .ok (.if_icmp .ne 42, 3) := by decide +kernel
theorem d_D_monthLength_5 : decode b_D_monthLength 5 = .ok (.iload_n 0, 1) := by decide +kernel
theorem d_D_monthLength_6 : decode b_D_monthLength 6 = .ok (.iconst 4, 1) := by decide +kernel
theorem d_D_monthLength_7 : decode b_D_monthLength 7 = .ok (.irem, 1) := by decide +kernel
theorem d_D_monthLength_8 : decode b_D_monthLength 8 = .ok (.ifCond .ne 22, 3) := by decide +kernel
theorem d_D_monthLength_11 : decode b_D_monthLength 11 = .ok (.iload_n 0, 1) := by decide +kernel
theorem d_D_monthLength_12 : decode b_D_monthLength 12 = .ok (.bipush 100, 2) := by decide +kernel
theorem d_D_monthLength_14 : decode b_D_monthLength 14 = .ok (.irem, 1) := by decide +kernel
theorem d_D_monthLength_15 : decode b_D_monthLength 15 = .ok (.ifCond .ne 11, 3) := by decide +kernel
theorem d_D_monthLength_18 : decode b_D_monthLength 18 = .ok (.iload_n 0, 1) := by decide +kernel
theorem d_D_monthLength_19 : decode b_D_monthLength 19 = .ok (.sipush 400, 3) := by decide +kernel
theorem d_D_monthLength_22 : decode b_D_monthLength 22 = .ok (.irem, 1) := by decide +kernel
theorem d_D_monthLength_23 : decode b_D_monthLength 23 = .ok (.ifCond .ne 7, 3) := by decide +kernel
theorem d_D_monthLength_26 : decode b_D_monthLength 26 = .ok (.iconst 1, 1) := by decide +kernel
theorem d_D_monthLength_27 : decode b_D_monthLength 27 = .ok (.goto 4, 3) := by decide +kernel
theorem d_D_monthLength_30 : decode b_D_monthLength 30 = .ok (.iconst 0, 1) := by decide +kernel
theorem d_D_monthLength_31 : decode b_D_monthLength 31 = .ok (.istore_n 2, 1) := by decide +kernel
theorem d_D_monthLength_32 : decode b_D_monthLength 32 = .ok (.iload_n 2, 1) := by decide +kernel
theorem d_D_monthLength_33 : decode b_D_monthLength 33 = .ok (.ifCond .eq 8, 3) := by decide +kernel
theorem d_D_monthLength_36 : decode b_D_monthLength 36 = .ok (.bipush 29, 2) := by decide +kernel
theorem d_D_monthLength_38 : decode b_D_monthLength 38 = .ok (.goto 5, 3) := by decide +kernel
theorem d_D_monthLength_41 : decode b_D_monthLength 41 = .ok (.bipush 28, 2) := by decide +kernel
theorem d_D_monthLength_43 : decode b_D_monthLength 43 = .ok (.ireturn, 1) := by decide +kernel
theorem d_D_monthLength_44 : decode b_D_monthLength 44 = .ok (.iload_n 1, 1) := by decide +kernel
theorem d_D_monthLength_45 : decode b_D_monthLength 45 = .ok (.iconst 4, 1) := by decide +kernel
theorem d_D_monthLength_46 : decode b_D_monthLength 46 = .ok (.if_icmp .eq 21, 3) := by decide +kernel
theorem d_D_monthLength_49 : decode b_D_monthLength 49 = .ok (.iload_n 1, 1) := by decide +kernel
theorem d_D_monthLength_50 : decode b_D_monthLength 50 = .ok (.bipush 6, 2) := by decide +kernel
theorem d_D_monthLength_52 : decode b_D_monthLength 52 = .ok (.if_icmp .eq 15, 3) := by decide +kernel
theorem d_D_monthLength_55 : decode b_D_monthLength 55 = .ok (.iload_n 1, 1) := by decide +kernel
theorem d_D_monthLength_56 : decode b_D_monthLength 56 = .ok (.bipush 9, 2) := by decide +kernel
theorem d_D_monthLength_58 : decode b_D_monthLength 58 = .ok (.if_icmp .eq 9, 3) := by decide +kernel
theorem d_D_monthLength_61 : decode b_D_monthLength 61 = .ok (.iload_n 1, 1) := by decide +kernel
theorem d_D_monthLength_62 : decode b_D_monthLength 62 = .ok (.bipush 11, 2) := by decide +kernel
theorem d_D_monthLength_64 : decode b_D_monthLength 64 = .ok (.if_icmp .ne 7, 3) := by decide +kernel
theorem d_D_monthLength_67 : decode b_D_monthLength 67 = .ok (.iconst 1, 1) := by decide +kernel
theorem d_D_monthLength_68 : decode b_D_monthLength 68 = .ok (.goto 4, 3) := by decide +kernel
theorem d_D_monthLength_71 : decode b_D_monthLength 71 = .ok (.iconst 0, 1) := by decide +kernel
theorem d_D_monthLength_72 : decode b_D_monthLength 72 = .ok (.istore_n 2, 1) := by decide +kernel
theorem d_D_monthLength_73 : decode b_D_monthLength 73 = .ok (.iload_n 2, 1) := by decide +kernel
theorem d_D_monthLength_74 : decode b_D_monthLength 74 = .ok (.ifCond .eq 8, 3) := by decide +kernel
theorem d_D_monthLength_77 : decode b_D_monthLength 77 = .ok (.bipush 30, 2) := by decide +kernel
theorem d_D_monthLength_79 : decode b_D_monthLength 79 = .ok (.goto 5, 3) := by decide +kernel
theorem d_D_monthLength_82 : decode b_D_monthLength 82 = .ok (.bipush 31, 2) := by decide +kernel
theorem d_D_monthLength_84 : decode b_D_monthLength 84 = .ok (.ireturn, 1) := by decide +kernel
theorem ci_D_monthLength : jm_ci jm_G y_D_monthLength (Cond.code y_D_monthLength b_D_monthLength 3 (some FieldType.int)) 3 2 := ⟨jm_g3 231 rfl rfl, Or.inl ⟨_, _, rfl⟩, jm_g1 24 rfl rfl, ⟨by decide, by decide⟩, by decide +kernel⟩
theorem st_D_monthLength : Cond.static y_D_monthLength ∈ jm_G := jm_g3 230 rfl rfl
def y_D_dayOf : MethodName := ⟨"JobHouse$Dates", "dayOf", "(J)I"⟩
abbrev b_D_dayOf : ByteArray := prog_4_method_4_code
theorem d_D_dayOf_0 : decode b_D_dayOf 0 = .ok (.lload_n 0, 1) := by decide +kernel
theorem d_D_dayOf_1 : decode b_D_dayOf 1 = .ok (.ldc2_w 10, 3) := by decide +kernel
theorem d_D_dayOf_4 : decode b_D_dayOf 4 = .ok (.invokestatic 12, 3) := by decide +kernel
theorem d_D_dayOf_7 : decode b_D_dayOf 7 = .ok (.l2i, 1) := by decide +kernel
theorem d_D_dayOf_8 : decode b_D_dayOf 8 = .ok (.ireturn, 1) := by decide +kernel
theorem ci_D_dayOf : jm_ci jm_G y_D_dayOf (Cond.code y_D_dayOf b_D_dayOf 2 (some FieldType.int)) 2 1 := ⟨jm_g3 197 rfl rfl, Or.inl ⟨_, _, rfl⟩, jm_g1 24 rfl rfl, ⟨by decide, by decide⟩, by decide +kernel⟩
theorem st_D_dayOf : Cond.static y_D_dayOf ∈ jm_G := jm_g3 196 rfl rfl
def y_D_yearOf : MethodName := ⟨"JobHouse$Dates", "yearOf", "(I)I"⟩
abbrev b_D_yearOf : ByteArray := prog_4_method_5_code
theorem d_D_yearOf_0 : decode b_D_yearOf 0 = .ok (.sipush 1970, 3) := by decide +kernel
theorem d_D_yearOf_3 : decode b_D_yearOf 3 = .ok (.iload_n 0, 1) := by decide +kernel
theorem d_D_yearOf_4 : decode b_D_yearOf 4 = .ok (.sipush 400, 3) := by decide +kernel
theorem d_D_yearOf_7 : decode b_D_yearOf 7 = .ok (.imul, 1) := by decide +kernel
theorem d_D_yearOf_8 : decode b_D_yearOf 8 = .ok (.ldc 18, 2) := by decide +kernel
theorem d_D_yearOf_10 : decode b_D_yearOf 10 = .ok (.invokestatic 19, 3) := by decide +kernel
theorem d_D_yearOf_13 : decode b_D_yearOf 13 = .ok (.iadd, 1) := by decide +kernel
theorem d_D_yearOf_14 : decode b_D_yearOf 14 = .ok (.istore_n 1, 1) := by decide +kernel
theorem d_D_yearOf_15 : decode b_D_yearOf 15 = .ok (.iload_n 1, 1) := by decide +kernel
theorem d_D_yearOf_16 : decode b_D_yearOf 16 = .ok (.iconst 1, 1) := by decide +kernel
theorem d_D_yearOf_17 : decode b_D_yearOf 17 = .ok (.invokestatic 22, 3) := by decide +kernel
theorem d_D_yearOf_20 : decode b_D_yearOf 20 = .ok (.iload_n 0, 1) := by decide +kernel
theorem d_D_yearOf_21 : decode b_D_yearOf 21 = .ok (.if_icmp .le 7, 3) := by decide +kernel
theorem d_D_yearOf_24 : decode b_D_yearOf 24 = .ok (.iload_n 1, 1) := by decide +kernel
theorem d_D_yearOf_25 : decode b_D_yearOf 25 = .ok (.iconst 1, 1) := by decide +kernel
theorem d_D_yearOf_26 : decode b_D_yearOf 26 = .ok (.isub, 1) := by decide +kernel
theorem d_D_yearOf_27 : decode b_D_yearOf 27 = .ok (.ireturn, 1) := by decide +kernel
theorem d_D_yearOf_28 : decode b_D_yearOf 28 = .ok (.iload_n 1, 1) := by decide +kernel
theorem d_D_yearOf_29 : decode b_D_yearOf 29 = .ok (.iconst 1, 1) := by decide +kernel
theorem d_D_yearOf_30 : decode b_D_yearOf 30 = .ok (.iadd, 1) := by decide +kernel
theorem d_D_yearOf_31 : decode b_D_yearOf 31 = .ok (.iconst 1, 1) := by decide +kernel
theorem d_D_yearOf_32 : decode b_D_yearOf 32 = .ok (.invokestatic 22, 3) := by decide +kernel
theorem d_D_yearOf_35 : decode b_D_yearOf 35 = .ok (.iload_n 0, 1) := by decide +kernel
theorem d_D_yearOf_36 : decode b_D_yearOf 36 = .ok (.if_icmp .gt 9, 3) := by decide +kernel
theorem d_D_yearOf_39 : decode b_D_yearOf 39 = .ok (.iload_n 1, 1) := by decide +kernel
theorem d_D_yearOf_40 : decode b_D_yearOf 40 = .ok (.iconst 1, 1) := by decide +kernel
theorem d_D_yearOf_41 : decode b_D_yearOf 41 = .ok (.iadd, 1) := by decide +kernel
theorem d_D_yearOf_42 : decode b_D_yearOf 42 = .ok (.goto 4, 3) := by decide +kernel
theorem d_D_yearOf_45 : decode b_D_yearOf 45 = .ok (.iload_n 1, 1) := by decide +kernel
theorem d_D_yearOf_46 : decode b_D_yearOf 46 = .ok (.ireturn, 1) := by decide +kernel
theorem ci_D_yearOf : jm_ci jm_G y_D_yearOf (Cond.code y_D_yearOf b_D_yearOf 2 (some FieldType.int)) 2 1 := ⟨jm_g3 204 rfl rfl, Or.inl ⟨_, _, rfl⟩, jm_g1 24 rfl rfl, ⟨by decide, by decide⟩, by decide +kernel⟩
theorem st_D_yearOf : Cond.static y_D_yearOf ∈ jm_G := jm_g3 203 rfl rfl
def y_D_monthOf : MethodName := ⟨"JobHouse$Dates", "monthOf", "(II)I"⟩
abbrev b_D_monthOf : ByteArray := prog_4_method_6_code
theorem d_D_monthOf_0 : decode b_D_monthOf 0 = .ok (.iload_n 0, 1) := by decide +kernel
theorem d_D_monthOf_1 : decode b_D_monthOf 1 = .ok (.iload_n 1, 1) := by decide +kernel
theorem d_D_monthOf_2 : decode b_D_monthOf 2 = .ok (.iconst 1, 1) := by decide +kernel
theorem d_D_monthOf_3 : decode b_D_monthOf 3 = .ok (.invokestatic 22, 3) := by decide +kernel
theorem d_D_monthOf_6 : decode b_D_monthOf 6 = .ok (.isub, 1) := by decide +kernel
theorem d_D_monthOf_7 : decode b_D_monthOf 7 = .ok (.bipush 31, 2) := by decide +kernel
theorem d_D_monthOf_9 : decode b_D_monthOf 9 = .ok (.idiv, 1) := by decide +kernel
theorem d_D_monthOf_10 : decode b_D_monthOf 10 = .ok (.iconst 1, 1) := by decide +kernel
theorem d_D_monthOf_11 : decode b_D_monthOf 11 = .ok (.iadd, 1) := by decide +kernel
theorem d_D_monthOf_12 : decode b_D_monthOf 12 = .ok (.istore_n 2, 1) := by decide +kernel
theorem d_D_monthOf_13 : decode b_D_monthOf 13 = .ok (.iload_n 2, 1) := by decide +kernel
theorem d_D_monthOf_14 : decode b_D_monthOf 14 = .ok (.bipush 12, 2) := by decide +kernel
theorem d_D_monthOf_16 : decode b_D_monthOf 16 = .ok (.if_icmp .ge 20, 3) := by decide +kernel
theorem d_D_monthOf_19 : decode b_D_monthOf 19 = .ok (.iload_n 1, 1) := by decide +kernel
theorem d_D_monthOf_20 : decode b_D_monthOf 20 = .ok (.iload_n 2, 1) := by decide +kernel
theorem d_D_monthOf_21 : decode b_D_monthOf 21 = .ok (.iconst 1, 1) := by decide +kernel
theorem d_D_monthOf_22 : decode b_D_monthOf 22 = .ok (.iadd, 1) := by decide +kernel
theorem d_D_monthOf_23 : decode b_D_monthOf 23 = .ok (.invokestatic 22, 3) := by decide +kernel
theorem d_D_monthOf_26 : decode b_D_monthOf 26 = .ok (.iload_n 0, 1) := by decide +kernel
theorem d_D_monthOf_27 : decode b_D_monthOf 27 = .ok (.if_icmp .gt 9, 3) := by decide +kernel
theorem d_D_monthOf_30 : decode b_D_monthOf 30 = .ok (.iload_n 2, 1) := by decide +kernel
theorem d_D_monthOf_31 : decode b_D_monthOf 31 = .ok (.iconst 1, 1) := by decide +kernel
theorem d_D_monthOf_32 : decode b_D_monthOf 32 = .ok (.iadd, 1) := by decide +kernel
theorem d_D_monthOf_33 : decode b_D_monthOf 33 = .ok (.goto 4, 3) := by decide +kernel
theorem d_D_monthOf_36 : decode b_D_monthOf 36 = .ok (.iload_n 2, 1) := by decide +kernel
theorem d_D_monthOf_37 : decode b_D_monthOf 37 = .ok (.ireturn, 1) := by decide +kernel
theorem ci_D_monthOf : jm_ci jm_G y_D_monthOf (Cond.code y_D_monthOf b_D_monthOf 3 (some FieldType.int)) 3 2 := ⟨jm_g4 19 rfl rfl, Or.inl ⟨_, _, rfl⟩, jm_g1 24 rfl rfl, ⟨by decide, by decide⟩, by decide +kernel⟩
theorem st_D_monthOf : Cond.static y_D_monthOf ∈ jm_G := jm_g4 18 rfl rfl
def y_D_weekdayOf : MethodName := ⟨"JobHouse$Dates", "weekdayOf", "(I)I"⟩
abbrev b_D_weekdayOf : ByteArray := prog_4_method_7_code
theorem d_D_weekdayOf_0 : decode b_D_weekdayOf 0 = .ok (.iload_n 0, 1) := by decide +kernel
theorem d_D_weekdayOf_1 : decode b_D_weekdayOf 1 = .ok (.iconst 4, 1) := by decide +kernel
theorem d_D_weekdayOf_2 : decode b_D_weekdayOf 2 = .ok (.iadd, 1) := by decide +kernel
theorem d_D_weekdayOf_3 : decode b_D_weekdayOf 3 = .ok (.bipush 7, 2) := by decide +kernel
theorem d_D_weekdayOf_5 : decode b_D_weekdayOf 5 = .ok (.irem, 1) := by decide +kernel
theorem d_D_weekdayOf_6 : decode b_D_weekdayOf 6 = .ok (.iconst 1, 1) := by decide +kernel
theorem d_D_weekdayOf_7 : decode b_D_weekdayOf 7 = .ok (.iadd, 1) := by decide +kernel
theorem d_D_weekdayOf_8 : decode b_D_weekdayOf 8 = .ok (.ireturn, 1) := by decide +kernel
theorem ci_D_weekdayOf : jm_ci jm_G y_D_weekdayOf (Cond.code y_D_weekdayOf b_D_weekdayOf 1 (some FieldType.int)) 1 1 := ⟨jm_g3 225 rfl rfl, Or.inl ⟨_, _, rfl⟩, jm_g1 24 rfl rfl, ⟨by decide, by decide⟩, by decide +kernel⟩
theorem st_D_weekdayOf : Cond.static y_D_weekdayOf ∈ jm_G := jm_g3 224 rfl rfl
