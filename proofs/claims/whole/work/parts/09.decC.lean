def y_C_init : MethodName := ⟨"JobHouse$Cron", "<init>", "()V"⟩
abbrev b_C_init : ByteArray := prog_2_method_1_code
theorem d_C_init_0 : decode b_C_init 0 = .ok (.aload_n 0, 1) := by decide +kernel
theorem d_C_init_1 : decode b_C_init 1 = .ok (.invokespecial 3, 3) := by decide +kernel
theorem d_C_init_4 : decode b_C_init 4 = .ok (.aload_n 0, 1) := by decide +kernel
theorem d_C_init_5 : decode b_C_init 5 = .ok (.bipush 12, 2) := by decide +kernel
theorem d_C_init_7 : decode b_C_init 7 = .ok (.newarray .long, 2) := by decide +kernel
theorem d_C_init_9 : decode b_C_init 9 = .ok (.putfield 11, 3) := by decide +kernel
theorem d_C_init_12 : decode b_C_init 12 = .ok (.return_, 1) := by decide +kernel
theorem ci_C_init : jm_ci jm_G y_C_init (Cond.code y_C_init b_C_init 1 (none)) 1 0 := ⟨jm_g1 89 rfl rfl, Or.inl ⟨_, _, rfl⟩, jm_g1 5 rfl rfl, ⟨by decide, by decide⟩, by decide +kernel⟩
theorem im_C_init : Cond.instanceMethod y_C_init ∈ jm_G := jm_g1 88 rfl rfl
def y_C_lowest : MethodName := ⟨"JobHouse$Cron", "lowest", "(I)I"⟩
abbrev b_C_lowest : ByteArray := prog_2_method_2_code
theorem d_C_lowest_0 : decode b_C_lowest 0 = .ok (.iload_n 0, 1) := by decide +kernel
theorem d_C_lowest_1 : decode b_C_lowest 1 = .ok (.tableswitch 37 3 6 #[31, 31, 31, 33], 31) := by decide +kernel
theorem d_C_lowest_32 : decode b_C_lowest 32 = .ok (.iconst 1, 1) := by decide +kernel
theorem d_C_lowest_33 : decode b_C_lowest 33 = .ok (.ireturn, 1) := by decide +kernel
theorem d_C_lowest_34 : decode b_C_lowest 34 = .ok (.sipush 1970, 3) := by decide +kernel
theorem d_C_lowest_37 : decode b_C_lowest 37 = .ok (.ireturn, 1) := by decide +kernel
theorem d_C_lowest_38 : decode b_C_lowest 38 = .ok (.iconst 0, 1) := by decide +kernel
theorem d_C_lowest_39 : decode b_C_lowest 39 = .ok (.ireturn, 1) := by decide +kernel
theorem ci_C_lowest : jm_ci jm_G y_C_lowest (Cond.code y_C_lowest b_C_lowest 1 (some FieldType.int)) 1 1 := ⟨jm_g3 49 rfl rfl, Or.inl ⟨_, _, rfl⟩, jm_g1 5 rfl rfl, ⟨by decide, by decide⟩, by decide +kernel⟩
theorem st_C_lowest : Cond.static y_C_lowest ∈ jm_G := jm_g3 48 rfl rfl
def y_C_highest : MethodName := ⟨"JobHouse$Cron", "highest", "(I)I"⟩
abbrev b_C_highest : ByteArray := prog_2_method_3_code
theorem d_C_highest_0 : decode b_C_highest 0 = .ok (.iload_n 0, 1) := by decide +kernel
theorem d_C_highest_1 : decode b_C_highest 1 = .ok (.tableswitch 51 2 6 #[35, 38, 41, 44, 47], 35) := by decide +kernel
theorem d_C_highest_36 : decode b_C_highest 36 = .ok (.bipush 23, 2) := by decide +kernel
theorem d_C_highest_38 : decode b_C_highest 38 = .ok (.ireturn, 1) := by decide +kernel
theorem d_C_highest_39 : decode b_C_highest 39 = .ok (.bipush 31, 2) := by decide +kernel
theorem d_C_highest_41 : decode b_C_highest 41 = .ok (.ireturn, 1) := by decide +kernel
theorem d_C_highest_42 : decode b_C_highest 42 = .ok (.bipush 12, 2) := by decide +kernel
theorem d_C_highest_44 : decode b_C_highest 44 = .ok (.ireturn, 1) := by decide +kernel
theorem d_C_highest_45 : decode b_C_highest 45 = .ok (.bipush 7, 2) := by decide +kernel
theorem d_C_highest_47 : decode b_C_highest 47 = .ok (.ireturn, 1) := by decide +kernel
theorem d_C_highest_48 : decode b_C_highest 48 = .ok (.sipush 2299, 3) := by decide +kernel
theorem d_C_highest_51 : decode b_C_highest 51 = .ok (.ireturn, 1) := by decide +kernel
theorem d_C_highest_52 : decode b_C_highest 52 = .ok (.bipush 59, 2) := by decide +kernel
theorem d_C_highest_54 : decode b_C_highest 54 = .ok (.ireturn, 1) := by decide +kernel
theorem ci_C_highest : jm_ci jm_G y_C_highest (Cond.code y_C_highest b_C_highest 1 (some FieldType.int)) 1 1 := ⟨jm_g3 52 rfl rfl, Or.inl ⟨_, _, rfl⟩, jm_g1 5 rfl rfl, ⟨by decide, by decide⟩, by decide +kernel⟩
theorem st_C_highest : Cond.static y_C_highest ∈ jm_G := jm_g3 51 rfl rfl
def y_C_clear : MethodName := ⟨"JobHouse$Cron", "clear", "()V"⟩
abbrev b_C_clear : ByteArray := prog_2_method_4_code
theorem d_C_clear_0 : decode b_C_clear 0 = .ok (.iconst 0, 1) := by decide +kernel
theorem d_C_clear_1 : decode b_C_clear 1 = .ok (.istore_n 1, 1) := by decide +kernel
theorem d_C_clear_2 : decode b_C_clear 2 = .ok (.iload_n 1, 1) := by decide +kernel
theorem d_C_clear_3 : decode b_C_clear 3 = .ok (.bipush 12, 2) := by decide +kernel
theorem d_C_clear_5 : decode b_C_clear 5 = .ok (.if_icmp .ge 16, 3) := by decide +kernel
theorem d_C_clear_8 : decode b_C_clear 8 = .ok (.aload_n 0, 1) := by decide +kernel
theorem d_C_clear_9 : decode b_C_clear 9 = .ok (.getfield 11, 3) := by decide +kernel
theorem d_C_clear_12 : decode b_C_clear 12 = .ok (.iload_n 1, 1) := by decide +kernel
theorem d_C_clear_13 : decode b_C_clear 13 = .ok (.lconst 0, 1) := by decide +kernel
theorem d_C_clear_14 : decode b_C_clear 14 = .ok (.lastore, 1) := by decide +kernel
theorem d_C_clear_15 : decode b_C_clear 15 = .ok (.iinc 1 1, 3) := by decide +kernel
theorem d_C_clear_18 : decode b_C_clear 18 = .ok (.goto (-16), 3) := by decide +kernel
theorem d_C_clear_21 : decode b_C_clear 21 = .ok (.aload_n 0, 1) := by decide +kernel
theorem d_C_clear_22 : decode b_C_clear 22 = .ok (.iconst 0, 1) := by decide +kernel
theorem d_C_clear_23 : decode b_C_clear 23 = .ok (.putfield 15, 3) := by decide +kernel
theorem d_C_clear_26 : decode b_C_clear 26 = .ok (.return_, 1) := by decide +kernel
theorem ci_C_clear : jm_ci jm_G y_C_clear (Cond.code y_C_clear b_C_clear 2 (none)) 2 0 := ⟨jm_g3 40 rfl rfl, Or.inl ⟨_, _, rfl⟩, jm_g1 5 rfl rfl, ⟨by decide, by decide⟩, by decide +kernel⟩
theorem im_C_clear : Cond.instanceMethod y_C_clear ∈ jm_G := jm_g3 38 rfl rfl
theorem se_C_clear : Cond.selects y_C_clear.cls y_C_clear y_C_clear ∈ jm_G := jm_g3 39 rfl rfl
def y_C_add : MethodName := ⟨"JobHouse$Cron", "add", "(II)V"⟩
abbrev b_C_add : ByteArray := prog_2_method_5_code
theorem d_C_add_0 : decode b_C_add 0 = .ok (.iload_n 1, 1) := by decide +kernel
theorem d_C_add_1 : decode b_C_add 1 = .ok (.bipush 6, 2) := by decide +kernel
theorem d_C_add_3 : decode b_C_add 3 = .ok (.if_icmp .ne 33, 3) := by decide +kernel
theorem d_C_add_6 : decode b_C_add 6 = .ok (.iload_n 2, 1) := by decide +kernel
theorem d_C_add_7 : decode b_C_add 7 = .ok (.sipush 1970, 3) := by decide +kernel
theorem d_C_add_10 : decode b_C_add 10 = .ok (.isub, 1) := by decide +kernel
theorem d_C_add_11 : decode b_C_add 11 = .ok (.istore_n 3, 1) := by decide +kernel
theorem d_C_add_12 : decode b_C_add 12 = .ok (.aload_n 0, 1) := by decide +kernel
theorem d_C_add_13 : decode b_C_add 13 = .ok (.getfield 11, 3) := by decide +kernel
theorem d_C_add_16 : decode b_C_add 16 = .ok (.bipush 6, 2) := by decide +kernel
theorem d_C_add_18 : decode b_C_add 18 = .ok (.iload_n 3, 1) := by decide +kernel
theorem d_C_add_19 : decode b_C_add 19 = .ok (.bipush 64, 2) := by decide +kernel
theorem d_C_add_21 : decode b_C_add 21 = .ok (.idiv, 1) := by decide +kernel
theorem d_C_add_22 : decode b_C_add 22 = .ok (.iadd, 1) := by decide +kernel
theorem d_C_add_23 : decode b_C_add 23 = .ok (.dup2, 1) := by decide +kernel
theorem d_C_add_24 : decode b_C_add 24 = .ok (.laload, 1) := by decide +kernel
theorem d_C_add_25 : decode b_C_add 25 = .ok (.lconst 1, 1) := by decide +kernel
theorem d_C_add_26 : decode b_C_add 26 = .ok (.iload_n 3, 1) := by decide +kernel
theorem d_C_add_27 : decode b_C_add 27 = .ok (.bipush 64, 2) := by decide +kernel
theorem d_C_add_29 : decode b_C_add 29 = .ok (.irem, 1) := by decide +kernel
theorem d_C_add_30 : decode b_C_add 30 = .ok (.lshl, 1) := by decide +kernel
theorem d_C_add_31 : decode b_C_add 31 = .ok (.lor, 1) := by decide +kernel
theorem d_C_add_32 : decode b_C_add 32 = .ok (.lastore, 1) := by decide +kernel
theorem d_C_add_33 : decode b_C_add 33 = .ok (.goto 15, 3) := by decide +kernel
theorem d_C_add_36 : decode b_C_add 36 = .ok (.aload_n 0, 1) := by decide +kernel
theorem d_C_add_37 : decode b_C_add 37 = .ok (.getfield 11, 3) := by decide +kernel
theorem d_C_add_40 : decode b_C_add 40 = .ok (.iload_n 1, 1) := by decide +kernel
theorem d_C_add_41 : decode b_C_add 41 = .ok (.dup2, 1) := by decide +kernel
theorem d_C_add_42 : decode b_C_add 42 = .ok (.laload, 1) := by decide +kernel
theorem d_C_add_43 : decode b_C_add 43 = .ok (.lconst 1, 1) := by decide +kernel
theorem d_C_add_44 : decode b_C_add 44 = .ok (.iload_n 2, 1) := by decide +kernel
theorem d_C_add_45 : decode b_C_add 45 = .ok (.lshl, 1) := by decide +kernel
theorem d_C_add_46 : decode b_C_add 46 = .ok (.lor, 1) := by decide +kernel
theorem d_C_add_47 : decode b_C_add 47 = .ok (.lastore, 1) := by decide +kernel
theorem d_C_add_48 : decode b_C_add 48 = .ok (.return_, 1) := by decide +kernel
theorem ci_C_add : jm_ci jm_G y_C_add (Cond.code y_C_add b_C_add 4 (none)) 4 2 := ⟨jm_g3 126 rfl rfl, Or.inl ⟨_, _, rfl⟩, jm_g1 5 rfl rfl, ⟨by decide, by decide⟩, by decide +kernel⟩
theorem im_C_add : Cond.instanceMethod y_C_add ∈ jm_G := jm_g3 124 rfl rfl
theorem se_C_add : Cond.selects y_C_add.cls y_C_add y_C_add ∈ jm_G := jm_g3 125 rfl rfl
def y_C_hasMonth : MethodName := ⟨"JobHouse$Cron", "hasMonth", "(I)Z"⟩
abbrev b_C_hasMonth : ByteArray := prog_2_method_6_code
theorem d_C_hasMonth_0 : decode b_C_hasMonth 0 = .ok (.aload_n 0, 1) := by decide +kernel
theorem d_C_hasMonth_1 : decode b_C_hasMonth 1 = .ok (.getfield 11, 3) := by decide +kernel
theorem d_C_hasMonth_4 : decode b_C_hasMonth 4 = .ok (.iconst 4, 1) := by decide +kernel
theorem d_C_hasMonth_5 : decode b_C_hasMonth 5 = .ok (.laload, 1) := by decide +kernel
theorem d_C_hasMonth_6 : decode b_C_hasMonth 6 = .ok (.iload_n 1, 1) := by decide +kernel
theorem d_C_hasMonth_7 : decode b_C_hasMonth 7 = .ok (.lshr, 1) := by decide +kernel
theorem d_C_hasMonth_8 : decode b_C_hasMonth 8 = .ok (.lconst 1, 1) := by decide +kernel
theorem d_C_hasMonth_9 : decode b_C_hasMonth 9 = .ok (.land, 1) := by decide +kernel
theorem d_C_hasMonth_10 : decode b_C_hasMonth 10 = .ok (.lconst 0, 1) := by decide +kernel
theorem d_C_hasMonth_11 : decode b_C_hasMonth 11 = .ok (.lcmp, 1) := by decide +kernel
theorem d_C_hasMonth_12 : decode b_C_hasMonth 12 = .ok (.ifCond .eq 7, 3) := by decide +kernel
theorem d_C_hasMonth_15 : decode b_C_hasMonth 15 = .ok (.iconst 1, 1) := by decide +kernel
theorem d_C_hasMonth_16 : decode b_C_hasMonth 16 = .ok (.goto 4, 3) := by decide +kernel
theorem d_C_hasMonth_19 : decode b_C_hasMonth 19 = .ok (.iconst 0, 1) := by decide +kernel
theorem d_C_hasMonth_20 : decode b_C_hasMonth 20 = .ok (.ireturn, 1) := by decide +kernel
theorem ci_C_hasMonth : jm_ci jm_G y_C_hasMonth (Cond.code y_C_hasMonth b_C_hasMonth 2 (some FieldType.boolean)) 2 1 := ⟨jm_g4 28 rfl rfl, Or.inl ⟨_, _, rfl⟩, jm_g1 5 rfl rfl, ⟨by decide, by decide⟩, by decide +kernel⟩
theorem im_C_hasMonth : Cond.instanceMethod y_C_hasMonth ∈ jm_G := jm_g4 26 rfl rfl
theorem se_C_hasMonth : Cond.selects y_C_hasMonth.cls y_C_hasMonth y_C_hasMonth ∈ jm_G := jm_g4 27 rfl rfl
def y_C_hasYear : MethodName := ⟨"JobHouse$Cron", "hasYear", "(I)Z"⟩
abbrev b_C_hasYear : ByteArray := prog_2_method_7_code
theorem d_C_hasYear_0 : decode b_C_hasYear 0 = .ok (.iload_n 1, 1) := by decide +kernel
theorem d_C_hasYear_1 : decode b_C_hasYear 1 = .ok (.sipush 1970, 3) := by decide +kernel
theorem d_C_hasYear_4 : decode b_C_hasYear 4 = .ok (.isub, 1) := by decide +kernel
theorem d_C_hasYear_5 : decode b_C_hasYear 5 = .ok (.istore_n 2, 1) := by decide +kernel
theorem d_C_hasYear_6 : decode b_C_hasYear 6 = .ok (.aload_n 0, 1) := by decide +kernel
theorem d_C_hasYear_7 : decode b_C_hasYear 7 = .ok (.getfield 11, 3) := by decide +kernel
theorem d_C_hasYear_10 : decode b_C_hasYear 10 = .ok (.bipush 6, 2) := by decide +kernel
theorem d_C_hasYear_12 : decode b_C_hasYear 12 = .ok (.iload_n 2, 1) := by decide +kernel
theorem d_C_hasYear_13 : decode b_C_hasYear 13 = .ok (.bipush 64, 2) := by decide +kernel
theorem d_C_hasYear_15 : decode b_C_hasYear 15 = .ok (.idiv, 1) := by decide +kernel
theorem d_C_hasYear_16 : decode b_C_hasYear 16 = .ok (.iadd, 1) := by decide +kernel
theorem d_C_hasYear_17 : decode b_C_hasYear 17 = .ok (.laload, 1) := by decide +kernel
theorem d_C_hasYear_18 : decode b_C_hasYear 18 = .ok (.iload_n 2, 1) := by decide +kernel
theorem d_C_hasYear_19 : decode b_C_hasYear 19 = .ok (.bipush 64, 2) := by decide +kernel
theorem d_C_hasYear_21 : decode b_C_hasYear 21 = .ok (.irem, 1) := by decide +kernel
theorem d_C_hasYear_22 : decode b_C_hasYear 22 = .ok (.lshr, 1) := by decide +kernel
theorem d_C_hasYear_23 : decode b_C_hasYear 23 = .ok (.lconst 1, 1) := by decide +kernel
theorem d_C_hasYear_24 : decode b_C_hasYear 24 = .ok (.land, 1) := by decide +kernel
theorem d_C_hasYear_25 : decode b_C_hasYear 25 = .ok (.lconst 0, 1) := by decide +kernel
theorem d_C_hasYear_26 : decode b_C_hasYear 26 = .ok (.lcmp, 1) := by decide +kernel
theorem d_C_hasYear_27 : decode b_C_hasYear 27 = .ok (.ifCond .eq 7, 3) := by decide +kernel
theorem d_C_hasYear_30 : decode b_C_hasYear 30 = .ok (.iconst 1, 1) := by decide +kernel
theorem d_C_hasYear_31 : decode b_C_hasYear 31 = .ok (.goto 4, 3) := by decide +kernel
theorem d_C_hasYear_34 : decode b_C_hasYear 34 = .ok (.iconst 0, 1) := by decide +kernel
theorem d_C_hasYear_35 : decode b_C_hasYear 35 = .ok (.ireturn, 1) := by decide +kernel
theorem ci_C_hasYear : jm_ci jm_G y_C_hasYear (Cond.code y_C_hasYear b_C_hasYear 3 (some FieldType.boolean)) 3 1 := ⟨jm_g4 24 rfl rfl, Or.inl ⟨_, _, rfl⟩, jm_g1 5 rfl rfl, ⟨by decide, by decide⟩, by decide +kernel⟩
theorem im_C_hasYear : Cond.instanceMethod y_C_hasYear ∈ jm_G := jm_g4 22 rfl rfl
theorem se_C_hasYear : Cond.selects y_C_hasYear.cls y_C_hasYear y_C_hasYear ∈ jm_G := jm_g4 23 rfl rfl
def y_C_daysOf : MethodName := ⟨"JobHouse$Cron", "daysOf", "(II)J"⟩
abbrev b_C_daysOf : ByteArray := prog_2_method_8_code
theorem d_C_daysOf_0 : decode b_C_daysOf 0 = .ok (.aload_n 0, 1) := by decide +kernel
theorem d_C_daysOf_1 : decode b_C_daysOf 1 = .ok (.getfield 15, 3) := by decide +kernel
theorem d_C_daysOf_4 : decode b_C_daysOf 4 = .ok (.tableswitch 87 0 4 #[36, 48, 59, 70, 77], 36) := by decide +kernel
theorem d_C_daysOf_40 : decode b_C_daysOf 40 = .ok (.aload_n 0, 1) := by decide +kernel
theorem d_C_daysOf_41 : decode b_C_daysOf 41 = .ok (.getfield 11, 3) := by decide +kernel
theorem d_C_daysOf_44 : decode b_C_daysOf 44 = .ok (.iconst 3, 1) := by decide +kernel
theorem d_C_daysOf_45 : decode b_C_daysOf 45 = .ok (.laload, 1) := by decide +kernel
theorem d_C_daysOf_46 : decode b_C_daysOf 46 = .ok (.iload_n 1, 1) := by decide +kernel
theorem d_C_daysOf_47 : decode b_C_daysOf 47 = .ok (.invokestatic 19, 3) := by decide +kernel
theorem d_C_daysOf_50 : decode b_C_daysOf 50 = .ok (.land, 1) := by decide +kernel
theorem d_C_daysOf_51 : decode b_C_daysOf 51 = .ok (.lreturn, 1) := by decide +kernel
theorem d_C_daysOf_52 : decode b_C_daysOf 52 = .ok (.aload_n 0, 1) := by decide +kernel
theorem d_C_daysOf_53 : decode b_C_daysOf 53 = .ok (.iload_n 2, 1) := by decide +kernel
theorem d_C_daysOf_54 : decode b_C_daysOf 54 = .ok (.invokevirtual 23, 3) := by decide +kernel
theorem d_C_daysOf_57 : decode b_C_daysOf 57 = .ok (.iload_n 1, 1) := by decide +kernel
theorem d_C_daysOf_58 : decode b_C_daysOf 58 = .ok (.invokestatic 19, 3) := by decide +kernel
theorem d_C_daysOf_61 : decode b_C_daysOf 61 = .ok (.land, 1) := by decide +kernel
theorem d_C_daysOf_62 : decode b_C_daysOf 62 = .ok (.lreturn, 1) := by decide +kernel
theorem d_C_daysOf_63 : decode b_C_daysOf 63 = .ok (.iload_n 1, 1) := by decide +kernel
theorem d_C_daysOf_64 : decode b_C_daysOf 64 = .ok (.aload_n 0, 1) := by decide +kernel
theorem d_C_daysOf_65 : decode b_C_daysOf 65 = .ok (.getfield 26, 3) := by decide +kernel
theorem d_C_daysOf_68 : decode b_C_daysOf 68 = .ok (.isub, 1) := by decide +kernel
theorem d_C_daysOf_69 : decode b_C_daysOf 69 = .ok (.iload_n 1, 1) := by decide +kernel
theorem d_C_daysOf_70 : decode b_C_daysOf 70 = .ok (.invokestatic 29, 3) := by decide +kernel
theorem d_C_daysOf_73 : decode b_C_daysOf 73 = .ok (.lreturn, 1) := by decide +kernel
theorem d_C_daysOf_74 : decode b_C_daysOf 74 = .ok (.iload_n 1, 1) := by decide +kernel
theorem d_C_daysOf_75 : decode b_C_daysOf 75 = .ok (.iload_n 1, 1) := by decide +kernel
theorem d_C_daysOf_76 : decode b_C_daysOf 76 = .ok (.iload_n 2, 1) := by decide +kernel
theorem d_C_daysOf_77 : decode b_C_daysOf 77 = .ok (.invokestatic 33, 3) := by decide +kernel
theorem d_C_daysOf_80 : decode b_C_daysOf 80 = .ok (.lreturn, 1) := by decide +kernel
theorem d_C_daysOf_81 : decode b_C_daysOf 81 = .ok (.aload_n 0, 1) := by decide +kernel
theorem d_C_daysOf_82 : decode b_C_daysOf 82 = .ok (.getfield 37, 3) := by decide +kernel
theorem d_C_daysOf_85 : decode b_C_daysOf 85 = .ok (.iload_n 1, 1) := by decide +kernel
theorem d_C_daysOf_86 : decode b_C_daysOf 86 = .ok (.iload_n 2, 1) := by decide +kernel
theorem d_C_daysOf_87 : decode b_C_daysOf 87 = .ok (.invokestatic 33, 3) := by decide +kernel
theorem d_C_daysOf_90 : decode b_C_daysOf 90 = .ok (.lreturn, 1) := by decide +kernel
theorem d_C_daysOf_91 : decode b_C_daysOf 91 = .ok (.iconst 1, 1) := by decide +kernel
theorem d_C_daysOf_92 : decode b_C_daysOf 92 = .ok (.aload_n 0, 1) := by decide +kernel
theorem d_C_daysOf_93 : decode b_C_daysOf 93 = .ok (.getfield 37, 3) := by decide +kernel
theorem d_C_daysOf_96 : decode b_C_daysOf 96 = .ok (.iload_n 2, 1) := by decide +kernel
theorem d_C_daysOf_97 : decode b_C_daysOf 97 = .ok (.isub, 1) := by decide +kernel
theorem d_C_daysOf_98 : decode b_C_daysOf 98 = .ok (.bipush 7, 2) := by decide +kernel
theorem d_C_daysOf_100 : decode b_C_daysOf 100 = .ok (.invokestatic 40, 3) := by decide +kernel
theorem d_C_daysOf_103 : decode b_C_daysOf 103 = .ok (.iadd, 1) := by decide +kernel
theorem d_C_daysOf_104 : decode b_C_daysOf 104 = .ok (.istore_n 3, 1) := by decide +kernel
theorem d_C_daysOf_105 : decode b_C_daysOf 105 = .ok (.aload_n 0, 1) := by decide +kernel
theorem d_C_daysOf_106 : decode b_C_daysOf 106 = .ok (.getfield 15, 3) := by decide +kernel
theorem d_C_daysOf_109 : decode b_C_daysOf 109 = .ok (.iconst 5, 1) := by decide +kernel
theorem d_C_daysOf_110 : decode b_C_daysOf 110 = .ok (.if_icmp .ne 19, 3) := by decide +kernel
theorem d_C_daysOf_113 : decode b_C_daysOf 113 = .ok (.iload_n 3, 1) := by decide +kernel
theorem d_C_daysOf_114 : decode b_C_daysOf 114 = .ok (.iload_n 1, 1) := by decide +kernel
theorem d_C_daysOf_115 : decode b_C_daysOf 115 = .ok (.iload_n 3, 1) := by decide +kernel
theorem d_C_daysOf_116 : decode b_C_daysOf 116 = .ok (.isub, 1) := by decide +kernel
theorem d_C_daysOf_117 : decode b_C_daysOf 117 = .ok (.bipush 7, 2) := by decide +kernel
theorem d_C_daysOf_119 : decode b_C_daysOf 119 = .ok (.idiv, 1) := by decide +kernel
theorem d_C_daysOf_120 : decode b_C_daysOf 120 = .ok (.bipush 7, 2) := by decide +kernel
theorem d_C_daysOf_122 : decode b_C_daysOf 122 = .ok (.imul, 1) := by decide +kernel
theorem d_C_daysOf_123 : decode b_C_daysOf 123 = .ok (.iadd, 1) := by decide +kernel
theorem d_C_daysOf_124 : decode b_C_daysOf 124 = .ok (.iload_n 1, 1) := by decide +kernel
theorem d_C_daysOf_125 : decode b_C_daysOf 125 = .ok (.invokestatic 29, 3) := by decide +kernel
theorem d_C_daysOf_128 : decode b_C_daysOf 128 = .ok (.lreturn, 1) := by decide +kernel
theorem d_C_daysOf_129 : decode b_C_daysOf 129 = .ok (.iload_n 3, 1) := by decide +kernel
theorem d_C_daysOf_130 : decode b_C_daysOf 130 = .ok (.bipush 7, 2) := by decide +kernel
theorem d_C_daysOf_132 : decode b_C_daysOf 132 = .ok (.aload_n 0, 1) := by decide +kernel
theorem d_C_daysOf_133 : decode b_C_daysOf 133 = .ok (.getfield 26, 3) := by decide +kernel
theorem d_C_daysOf_136 : decode b_C_daysOf 136 = .ok (.iconst 1, 1) := by decide +kernel
theorem d_C_daysOf_137 : decode b_C_daysOf 137 = .ok (.isub, 1) := by decide +kernel
theorem d_C_daysOf_138 : decode b_C_daysOf 138 = .ok (.imul, 1) := by decide +kernel
theorem d_C_daysOf_139 : decode b_C_daysOf 139 = .ok (.iadd, 1) := by decide +kernel
theorem d_C_daysOf_140 : decode b_C_daysOf 140 = .ok (.iload_n 1, 1) := by decide +kernel
theorem d_C_daysOf_141 : decode b_C_daysOf 141 = .ok (.invokestatic 29, 3) := by decide +kernel
theorem d_C_daysOf_144 : decode b_C_daysOf 144 = .ok (.lreturn, 1) := by decide +kernel
theorem ci_C_daysOf : jm_ci jm_G y_C_daysOf (Cond.code y_C_daysOf b_C_daysOf 4 (some FieldType.long)) 4 2 := ⟨jm_g4 38 rfl rfl, Or.inl ⟨_, _, rfl⟩, jm_g1 5 rfl rfl, ⟨by decide, by decide⟩, by decide +kernel⟩
theorem im_C_daysOf : Cond.instanceMethod y_C_daysOf ∈ jm_G := jm_g4 36 rfl rfl
theorem se_C_daysOf : Cond.selects y_C_daysOf.cls y_C_daysOf y_C_daysOf ∈ jm_G := jm_g4 37 rfl rfl
def y_C_weekdaysFrom : MethodName := ⟨"JobHouse$Cron", "weekdaysFrom", "(I)J"⟩
abbrev b_C_weekdaysFrom : ByteArray := prog_2_method_9_code
theorem d_C_weekdaysFrom_0 : decode b_C_weekdaysFrom 0 = .ok (.aload_n 0, 1) := by decide +kernel
theorem d_C_weekdaysFrom_1 : decode b_C_weekdaysFrom 1 = .ok (.getfield 11, 3) := by decide +kernel
theorem d_C_weekdaysFrom_4 : decode b_C_weekdaysFrom 4 = .ok (.iconst 5, 1) := by decide +kernel
theorem d_C_weekdaysFrom_5 : decode b_C_weekdaysFrom 5 = .ok (.laload, 1) := by decide +kernel
theorem d_C_weekdaysFrom_6 : decode b_C_weekdaysFrom 6 = .ok (.iload_n 1, 1) := by decide +kernel
theorem d_C_weekdaysFrom_7 : decode b_C_weekdaysFrom 7 = .ok (.lshr, 1) := by decide +kernel
theorem d_C_weekdaysFrom_8 : decode b_C_weekdaysFrom 8 = .ok (.aload_n 0, 1) := by decide +kernel
theorem d_C_weekdaysFrom_9 : decode b_C_weekdaysFrom 9 = .ok (.getfield 11, 3) := by decide +kernel
theorem d_C_weekdaysFrom_12 : decode b_C_weekdaysFrom 12 = .ok (.iconst 5, 1) := by decide +kernel
theorem d_C_weekdaysFrom_13 : decode b_C_weekdaysFrom 13 = .ok (.laload, 1) := by decide +kernel
theorem d_C_weekdaysFrom_14 : decode b_C_weekdaysFrom 14 = .ok (.bipush 7, 2) := by decide +kernel
theorem d_C_weekdaysFrom_16 : decode b_C_weekdaysFrom 16 = .ok (.iload_n 1, 1) := by decide +kernel
theorem d_C_weekdaysFrom_17 : decode b_C_weekdaysFrom 17 = .ok (.isub, 1) := by decide +kernel
theorem d_C_weekdaysFrom_18 : decode b_C_weekdaysFrom 18 = .ok (.lshl, 1) := by decide +kernel
theorem d_C_weekdaysFrom_19 : decode b_C_weekdaysFrom 19 = .ok (.lor, 1) := by decide +kernel
theorem d_C_weekdaysFrom_20 : decode b_C_weekdaysFrom 20 = .ok (.lstore_n 2, 1) := by decide +kernel
theorem d_C_weekdaysFrom_21 : decode b_C_weekdaysFrom 21 = .ok (.lload_n 2, 1) := by decide +kernel
theorem d_C_weekdaysFrom_22 : decode b_C_weekdaysFrom 22 = .ok (.iconst 1, 1) := by decide +kernel
theorem d_C_weekdaysFrom_23 : decode b_C_weekdaysFrom 23 = .ok (.lshl, 1) := by decide +kernel
theorem d_C_weekdaysFrom_24 : decode b_C_weekdaysFrom 24 = .ok (.ldc2_w 46, 3) := by decide +kernel
theorem d_C_weekdaysFrom_27 : decode b_C_weekdaysFrom 27 = .ok (.land, 1) := by decide +kernel
theorem d_C_weekdaysFrom_28 : decode b_C_weekdaysFrom 28 = .ok (.lstore_n 2, 1) := by decide +kernel
theorem d_C_weekdaysFrom_29 : decode b_C_weekdaysFrom 29 = .ok (.lload_n 2, 1) := by decide +kernel
theorem d_C_weekdaysFrom_30 : decode b_C_weekdaysFrom 30 = .ok (.lload_n 2, 1) := by decide +kernel
theorem d_C_weekdaysFrom_31 : decode b_C_weekdaysFrom 31 = .ok (.bipush 7, 2) := by decide +kernel
theorem d_C_weekdaysFrom_33 : decode b_C_weekdaysFrom 33 = .ok (.lshl, 1) := by decide +kernel
theorem d_C_weekdaysFrom_34 : decode b_C_weekdaysFrom 34 = .ok (.lor, 1) := by decide +kernel
theorem d_C_weekdaysFrom_35 : decode b_C_weekdaysFrom 35 = .ok (.lload_n 2, 1) := by decide +kernel
theorem d_C_weekdaysFrom_36 : decode b_C_weekdaysFrom 36 = .ok (.bipush 14, 2) := by decide +kernel
theorem d_C_weekdaysFrom_38 : decode b_C_weekdaysFrom 38 = .ok (.lshl, 1) := by decide +kernel
theorem d_C_weekdaysFrom_39 : decode b_C_weekdaysFrom 39 = .ok (.lor, 1) := by decide +kernel
theorem d_C_weekdaysFrom_40 : decode b_C_weekdaysFrom 40 = .ok (.lload_n 2, 1) := by decide +kernel
theorem d_C_weekdaysFrom_41 : decode b_C_weekdaysFrom 41 = .ok (.bipush 21, 2) := by decide +kernel
theorem d_C_weekdaysFrom_43 : decode b_C_weekdaysFrom 43 = .ok (.lshl, 1) := by decide +kernel
theorem d_C_weekdaysFrom_44 : decode b_C_weekdaysFrom 44 = .ok (.lor, 1) := by decide +kernel
theorem d_C_weekdaysFrom_45 : decode b_C_weekdaysFrom 45 = .ok (.lload_n 2, 1) := by decide +kernel
theorem d_C_weekdaysFrom_46 : decode b_C_weekdaysFrom 46 = .ok (.bipush 28, 2) := by decide +kernel
theorem d_C_weekdaysFrom_48 : decode b_C_weekdaysFrom 48 = .ok (.lshl, 1) := by decide +kernel
theorem d_C_weekdaysFrom_49 : decode b_C_weekdaysFrom 49 = .ok (.lor, 1) := by decide +kernel
theorem d_C_weekdaysFrom_50 : decode b_C_weekdaysFrom 50 = .ok (.lreturn, 1) := by decide +kernel
theorem ci_C_weekdaysFrom : jm_ci jm_G y_C_weekdaysFrom (Cond.code y_C_weekdaysFrom b_C_weekdaysFrom 4 (some FieldType.long)) 4 1 := ⟨jm_g4 45 rfl rfl, Or.inl ⟨_, _, rfl⟩, jm_g1 5 rfl rfl, ⟨by decide, by decide⟩, by decide +kernel⟩
theorem im_C_weekdaysFrom : Cond.instanceMethod y_C_weekdaysFrom ∈ jm_G := jm_g4 44 rfl rfl
theorem se_C_weekdaysFrom : Cond.selects y_C_weekdaysFrom.cls y_C_weekdaysFrom y_C_weekdaysFrom ∈ jm_G := jm_g0 7 rfl rfl
def y_C_workdayNearest : MethodName := ⟨"JobHouse$Cron", "workdayNearest", "(III)J"⟩
abbrev b_C_workdayNearest : ByteArray := prog_2_method_10_code
theorem d_C_workdayNearest_0 : decode b_C_workdayNearest 0 = .ok (.iload_n 2, 1) := by decide +kernel
theorem d_C_workdayNearest_1 : decode b_C_workdayNearest 1 = .ok (.iload_n 0, 1) := by decide +kernel
theorem d_C_workdayNearest_2 : decode b_C_workdayNearest 2 = .ok (.iadd, 1) := by decide +kernel
theorem d_C_workdayNearest_3 : decode b_C_workdayNearest 3 = .ok (.iconst 2, 1) := by decide +kernel
theorem d_C_workdayNearest_4 : decode b_C_workdayNearest 4 = .ok (.isub, 1) := by decide +kernel
theorem d_C_workdayNearest_5 : decode b_C_workdayNearest 5 = .ok (.bipush 7, 2) := by decide +kernel
theorem d_C_workdayNearest_7 : decode b_C_workdayNearest 7 = .ok (.irem, 1) := by decide +kernel
theorem d_C_workdayNearest_8 : decode b_C_workdayNearest 8 = .ok (.iconst 1, 1) := by decide +kernel
theorem d_C_workdayNearest_9 : decode b_C_workdayNearest 9 = .ok (.iadd, 1) := by decide +kernel
theorem d_C_workdayNearest_10 : decode b_C_workdayNearest 10 = .ok (.istore_n 3, 1) := by decide +kernel
theorem d_C_workdayNearest_11 : decode b_C_workdayNearest 11 = .ok (.iload_n 0, 1) := by decide +kernel
theorem d_C_workdayNearest_12 : decode b_C_workdayNearest 12 = .ok (.iload_n 1, 1) := by decide +kernel
theorem d_C_workdayNearest_13 : decode b_C_workdayNearest 13 = .ok (.if_icmp .le 5, 3) := by decide +kernel
theorem d_C_workdayNearest_16 : decode b_C_workdayNearest 16 = .ok (.lconst 0, 1) := by decide +kernel
theorem d_C_workdayNearest_17 : decode b_C_workdayNearest 17 = .ok (.lreturn, 1) := by decide +kernel
theorem d_C_workdayNearest_18 : decode b_C_workdayNearest 18 = .ok (.iload_n 3, 1) := by decide +kernel
theorem d_C_workdayNearest_19 : decode b_C_workdayNearest 19 = .ok (.bipush 7, 2) := by decide +kernel
theorem d_C_workdayNearest_21 : decode b_C_workdayNearest 21 = .ok (.if_icmp .ne 20, 3) := by decide +kernel
theorem d_C_workdayNearest_24 : decode b_C_workdayNearest 24 = .ok (.lconst 1, 1) := by decide +kernel
theorem d_C_workdayNearest_25 : decode b_C_workdayNearest 25 = .ok (.iload_n 0, 1) := by decide +kernel
theorem d_C_workdayNearest_26 : decode b_C_workdayNearest 26 = .ok (.iconst 1, 1) := by decide +kernel
theorem d_C_workdayNearest_27 : decode b_C_workdayNearest 27 = .ok (.if_icmp .le 9, 3) := by decide +kernel
theorem d_C_workdayNearest_30 : decode b_C_workdayNearest 30 = .ok (.iload_n 0, 1) := by decide +kernel
theorem d_C_workdayNearest_31 : decode b_C_workdayNearest 31 = .ok (.iconst 1, 1) := by decide +kernel
theorem d_C_workdayNearest_32 : decode b_C_workdayNearest 32 = .ok (.isub, 1) := by decide +kernel
theorem d_C_workdayNearest_33 : decode b_C_workdayNearest 33 = .ok (.goto 6, 3) := by decide +kernel
theorem d_C_workdayNearest_36 : decode b_C_workdayNearest 36 = .ok (.iload_n 0, 1) := by decide +kernel
theorem d_C_workdayNearest_37 : decode b_C_workdayNearest 37 = .ok (.iconst 2, 1) := by decide +kernel
theorem d_C_workdayNearest_38 : decode b_C_workdayNearest 38 = .ok (.iadd, 1) := by decide +kernel
theorem d_C_workdayNearest_39 : decode b_C_workdayNearest 39 = .ok (.lshl, 1) := by decide +kernel
theorem d_C_workdayNearest_40 : decode b_C_workdayNearest 40 = .ok (.lreturn, 1) := by decide +kernel
theorem d_C_workdayNearest_41 : decode b_C_workdayNearest 41 = .ok (.iload_n 3, 1) := by decide +kernel
theorem d_C_workdayNearest_42 : decode b_C_workdayNearest 42 = .ok (.iconst 1, 1) := by decide +kernel
theorem d_C_workdayNearest_43 : decode b_C_workdayNearest 43 = .ok (.if_icmp .ne 20, 3) := by decide +kernel
theorem d_C_workdayNearest_46 : decode b_C_workdayNearest 46 = .ok (.lconst 1, 1) := by decide +kernel
theorem d_C_workdayNearest_47 : decode b_C_workdayNearest 47 = .ok (.iload_n 0, 1) := by decide +kernel
theorem d_C_workdayNearest_48 : decode b_C_workdayNearest 48 = .ok (.iload_n 1, 1) := by decide +kernel
theorem d_C_workdayNearest_49 : decode b_C_workdayNearest 49 = .ok (.if_icmp .ge 9, 3) := by decide +kernel
theorem d_C_workdayNearest_52 : decode b_C_workdayNearest 52 = .ok (.iload_n 0, 1) := by decide +kernel
theorem d_C_workdayNearest_53 : decode b_C_workdayNearest 53 = .ok (.iconst 1, 1) := by decide +kernel
theorem d_C_workdayNearest_54 : decode b_C_workdayNearest 54 = .ok (.iadd, 1) := by decide +kernel
theorem d_C_workdayNearest_55 : decode b_C_workdayNearest 55 = .ok (.goto 6, 3) := by decide +kernel
theorem d_C_workdayNearest_58 : decode b_C_workdayNearest 58 = .ok (.iload_n 0, 1) := by decide +kernel
theorem d_C_workdayNearest_59 : decode b_C_workdayNearest 59 = .ok (.iconst 2, 1) := by decide +kernel
theorem d_C_workdayNearest_60 : decode b_C_workdayNearest 60 = .ok (.isub, 1) := by decide +kernel
theorem d_C_workdayNearest_61 : decode b_C_workdayNearest 61 = .ok (.lshl, 1) := by decide +kernel
theorem d_C_workdayNearest_62 : decode b_C_workdayNearest 62 = .ok (.lreturn, 1) := by decide +kernel
theorem d_C_workdayNearest_63 : decode b_C_workdayNearest 63 = .ok (.lconst 1, 1) := by decide +kernel
theorem d_C_workdayNearest_64 : decode b_C_workdayNearest 64 = .ok (.iload_n 0, 1) := by decide +kernel
theorem d_C_workdayNearest_65 : decode b_C_workdayNearest 65 = .ok (.lshl, 1) := by decide +kernel
theorem d_C_workdayNearest_66 : decode b_C_workdayNearest 66 = .ok (.lreturn, 1) := by decide +kernel
theorem ci_C_workdayNearest : jm_ci jm_G y_C_workdayNearest (Cond.code y_C_workdayNearest b_C_workdayNearest 4 (some FieldType.long)) 4 3 := ⟨jm_g4 52 rfl rfl, Or.inl ⟨_, _, rfl⟩, jm_g1 5 rfl rfl, ⟨by decide, by decide⟩, by decide +kernel⟩
theorem st_C_workdayNearest : Cond.static y_C_workdayNearest ∈ jm_G := jm_g4 51 rfl rfl
def y_C_bitOf : MethodName := ⟨"JobHouse$Cron", "bitOf", "(II)J"⟩
abbrev b_C_bitOf : ByteArray := prog_2_method_11_code
theorem d_C_bitOf_0 : decode b_C_bitOf 0 = .ok (.iload_n 0, 1) := by decide +kernel
theorem d_C_bitOf_1 : decode b_C_bitOf 1 = .ok (.iconst 1, 1) := by decide +kernel
theorem d_C_bitOf_2 : decode b_C_bitOf 2 = .ok (.if_icmp .lt 8, 3) := by decide +kernel
theorem d_C_bitOf_5 : decode b_C_bitOf 5 = .ok (.iload_n 0, 1) := by decide +kernel
theorem d_C_bitOf_6 : decode b_C_bitOf 6 = .ok (.iload_n 1, 1) := by decide +kernel
theorem d_C_bitOf_7 : decode b_C_bitOf 7 = .ok (.if_icmp .le 7, 3) := by decide +kernel
theorem d_C_bitOf_10 : decode b_C_bitOf 10 = .ok (.lconst 0, 1) := by decide +kernel
theorem d_C_bitOf_11 : decode b_C_bitOf 11 = .ok (.goto 6, 3) := by decide +kernel
theorem d_C_bitOf_14 : decode b_C_bitOf 14 = .ok (.lconst 1, 1) := by decide +kernel
theorem d_C_bitOf_15 : decode b_C_bitOf 15 = .ok (.iload_n 0, 1) := by decide +kernel
theorem d_C_bitOf_16 : decode b_C_bitOf 16 = .ok (.lshl, 1) := by decide +kernel
theorem d_C_bitOf_17 : decode b_C_bitOf 17 = .ok (.lreturn, 1) := by decide +kernel
theorem ci_C_bitOf : jm_ci jm_G y_C_bitOf (Cond.code y_C_bitOf b_C_bitOf 2 (some FieldType.long)) 2 2 := ⟨jm_g4 49 rfl rfl, Or.inl ⟨_, _, rfl⟩, jm_g1 5 rfl rfl, ⟨by decide, by decide⟩, by decide +kernel⟩
theorem st_C_bitOf : Cond.static y_C_bitOf ∈ jm_G := jm_g4 48 rfl rfl
def y_C_bitsUpTo : MethodName := ⟨"JobHouse$Cron", "bitsUpTo", "(I)J"⟩
abbrev b_C_bitsUpTo : ByteArray := prog_2_method_12_code
theorem d_C_bitsUpTo_0 : decode b_C_bitsUpTo 0 = .ok (.lconst 1, 1) := by decide +kernel
theorem d_C_bitsUpTo_1 : decode b_C_bitsUpTo 1 = .ok (.iload_n 0, 1) := by decide +kernel
theorem d_C_bitsUpTo_2 : decode b_C_bitsUpTo 2 = .ok (.iconst 1, 1) := by decide +kernel
theorem d_C_bitsUpTo_3 : decode b_C_bitsUpTo 3 = .ok (.iadd, 1) := by decide +kernel
theorem d_C_bitsUpTo_4 : decode b_C_bitsUpTo 4 = .ok (.lshl, 1) := by decide +kernel
theorem d_C_bitsUpTo_5 : decode b_C_bitsUpTo 5 = .ok (.lconst 1, 1) := by decide +kernel
theorem d_C_bitsUpTo_6 : decode b_C_bitsUpTo 6 = .ok (.lsub, 1) := by decide +kernel
theorem d_C_bitsUpTo_7 : decode b_C_bitsUpTo 7 = .ok (.lreturn, 1) := by decide +kernel
theorem ci_C_bitsUpTo : jm_ci jm_G y_C_bitsUpTo (Cond.code y_C_bitsUpTo b_C_bitsUpTo 1 (some FieldType.long)) 1 1 := ⟨jm_g4 41 rfl rfl, Or.inl ⟨_, _, rfl⟩, jm_g1 5 rfl rfl, ⟨by decide, by decide⟩, by decide +kernel⟩
theorem st_C_bitsUpTo : Cond.static y_C_bitsUpTo ∈ jm_G := jm_g4 40 rfl rfl
def y_C_timeFrom : MethodName := ⟨"JobHouse$Cron", "timeFrom", "(I)I"⟩
abbrev b_C_timeFrom : ByteArray := prog_2_method_13_code
theorem d_C_timeFrom_0 : decode b_C_timeFrom 0 = .ok (.aload_n 0, 1) := by decide +kernel
theorem d_C_timeFrom_1 : decode b_C_timeFrom 1 = .ok (.getfield 11, 3) := by decide +kernel
theorem d_C_timeFrom_4 : decode b_C_timeFrom 4 = .ok (.iconst 2, 1) := by decide +kernel
theorem d_C_timeFrom_5 : decode b_C_timeFrom 5 = .ok (.laload, 1) := by decide +kernel
theorem d_C_timeFrom_6 : decode b_C_timeFrom 6 = .ok (.iload_n 1, 1) := by decide +kernel
theorem d_C_timeFrom_7 : decode b_C_timeFrom 7 = .ok (.sipush 3600, 3) := by decide +kernel
theorem d_C_timeFrom_10 : decode b_C_timeFrom 10 = .ok (.idiv, 1) := by decide +kernel
theorem d_C_timeFrom_11 : decode b_C_timeFrom 11 = .ok (.invokestatic 48, 3) := by decide +kernel
theorem d_C_timeFrom_14 : decode b_C_timeFrom 14 = .ok (.istore_n 2, 1) := by decide +kernel
theorem d_C_timeFrom_15 : decode b_C_timeFrom 15 = .ok (.aload_n 0, 1) := by decide +kernel
theorem d_C_timeFrom_16 : decode b_C_timeFrom 16 = .ok (.getfield 11, 3) := by decide +kernel
theorem d_C_timeFrom_19 : decode b_C_timeFrom 19 = .ok (.iconst 1, 1) := by decide +kernel
theorem d_C_timeFrom_20 : decode b_C_timeFrom 20 = .ok (.laload, 1) := by decide +kernel
theorem d_C_timeFrom_21 : decode b_C_timeFrom 21 = .ok (.iload_n 2, 1) := by decide +kernel
theorem d_C_timeFrom_22 : decode b_C_timeFrom 22 = .ok (.iload_n 1, 1) := by decide +kernel
theorem d_C_timeFrom_23 : decode b_C_timeFrom 23 = .ok (.sipush 3600, 3) := by decide +kernel
theorem d_C_timeFrom_26 : decode b_C_timeFrom 26 = .ok (.idiv, 1) := by decide +kernel
theorem d_C_timeFrom_27 : decode b_C_timeFrom 27 = .ok (.if_icmp .ne 13, 3) := by decide +kernel
theorem d_C_timeFrom_30 : decode b_C_timeFrom 30 = .ok (.iload_n 1, 1) := by decide +kernel
theorem d_C_timeFrom_31 : decode b_C_timeFrom 31 = .ok (.bipush 60, 2) := by decide +kernel
theorem d_C_timeFrom_33 : decode b_C_timeFrom 33 = .ok (.idiv, 1) := by decide +kernel
theorem d_C_timeFrom_34 : decode b_C_timeFrom 34 = .ok (.bipush 60, 2) := by decide +kernel
theorem d_C_timeFrom_36 : decode b_C_timeFrom 36 = .ok (.irem, 1) := by decide +kernel
theorem d_C_timeFrom_37 : decode b_C_timeFrom 37 = .ok (.goto 4, 3) := by decide +kernel
theorem d_C_timeFrom_40 : decode b_C_timeFrom 40 = .ok (.iconst 0, 1) := by decide +kernel
theorem d_C_timeFrom_41 : decode b_C_timeFrom 41 = .ok (.invokestatic 48, 3) := by decide +kernel
theorem d_C_timeFrom_44 : decode b_C_timeFrom 44 = .ok (.istore_n 3, 1) := by decide +kernel
theorem d_C_timeFrom_45 : decode b_C_timeFrom 45 = .ok (.iload_n 2, 1) := by decide +kernel
theorem d_C_timeFrom_46 : decode b_C_timeFrom 46 = .ok (.iload_n 1, 1) := by decide +kernel
theorem d_C_timeFrom_47 : decode b_C_timeFrom 47 = .ok (.sipush 3600, 3) := by decide +kernel
theorem d_C_timeFrom_50 : decode b_C_timeFrom 50 = .ok (.idiv, 1) := by decide +kernel
theorem d_C_timeFrom_51 : decode b_C_timeFrom 51 = .ok (.if_icmp .ne 18, 3) := by decide +kernel
theorem d_C_timeFrom_54 : decode b_C_timeFrom 54 = .ok (.iload_n 3, 1) := by decide +kernel
theorem d_C_timeFrom_55 : decode b_C_timeFrom 55 = .ok (.iload_n 1, 1) := by decide +kernel
theorem d_C_timeFrom_56 : decode b_C_timeFrom 56 = .ok (.bipush 60, 2) := by decide +kernel
theorem d_C_timeFrom_58 : decode b_C_timeFrom 58 = .ok (.idiv, 1) := by decide +kernel
theorem d_C_timeFrom_59 : decode b_C_timeFrom 59 = .ok (.bipush 60, 2) := by decide +kernel
theorem d_C_timeFrom_61 : decode b_C_timeFrom 61 = .ok (.irem, 1) := by decide +kernel
theorem d_C_timeFrom_62 : decode b_C_timeFrom 62 = .ok (.if_icmp .ne 7, 3) := by decide +kernel
theorem d_C_timeFrom_65 : decode b_C_timeFrom 65 = .ok (.iconst 1, 1) := by decide +kernel
theorem d_C_timeFrom_66 : decode b_C_timeFrom 66 = .ok (.goto 4, 3) := by decide +kernel
theorem d_C_timeFrom_69 : decode b_C_timeFrom 69 = .ok (.iconst 0, 1) := by decide +kernel
theorem d_C_timeFrom_70 : decode b_C_timeFrom 70 = .ok (.istore 4, 2) := by decide +kernel
theorem d_C_timeFrom_72 : decode b_C_timeFrom 72 = .ok (.aload_n 0, 1) := by decide +kernel
theorem d_C_timeFrom_73 : decode b_C_timeFrom 73 = .ok (.getfield 11, 3) := by decide +kernel
theorem d_C_timeFrom_76 : decode b_C_timeFrom 76 = .ok (.iconst 0, 1) := by decide +kernel
theorem d_C_timeFrom_77 : decode b_C_timeFrom 77 = .ok (.laload, 1) := by decide +kernel
theorem d_C_timeFrom_78 : decode b_C_timeFrom 78 = .ok (.iload 4, 2) := by decide +kernel
theorem d_C_timeFrom_80 : decode b_C_timeFrom 80 = .ok (.ifCond .eq 10, 3) := by decide +kernel
theorem d_C_timeFrom_83 : decode b_C_timeFrom 83 = .ok (.iload_n 1, 1) := by decide +kernel
theorem d_C_timeFrom_84 : decode b_C_timeFrom 84 = .ok (.bipush 60, 2) := by decide +kernel
theorem d_C_timeFrom_86 : decode b_C_timeFrom 86 = .ok (.irem, 1) := by decide +kernel
theorem d_C_timeFrom_87 : decode b_C_timeFrom 87 = .ok (.goto 4, 3) := by decide +kernel
theorem d_C_timeFrom_90 : decode b_C_timeFrom 90 = .ok (.iconst 0, 1) := by decide +kernel
theorem d_C_timeFrom_91 : decode b_C_timeFrom 91 = .ok (.invokestatic 48, 3) := by decide +kernel
theorem d_C_timeFrom_94 : decode b_C_timeFrom 94 = .ok (.istore 5, 2) := by decide +kernel
theorem d_C_timeFrom_96 : decode b_C_timeFrom 96 = .ok (.iload 5, 2) := by decide +kernel
theorem d_C_timeFrom_98 : decode b_C_timeFrom 98 = .ok (.ifCond .ge 28, 3) := by decide +kernel
theorem d_C_timeFrom_101 : decode b_C_timeFrom 101 = .ok (.aload_n 0, 1) := by decide +kernel
theorem d_C_timeFrom_102 : decode b_C_timeFrom 102 = .ok (.getfield 11, 3) := by decide +kernel
theorem d_C_timeFrom_105 : decode b_C_timeFrom 105 = .ok (.iconst 1, 1) := by decide +kernel
theorem d_C_timeFrom_106 : decode b_C_timeFrom 106 = .ok (.laload, 1) := by decide +kernel
theorem d_C_timeFrom_107 : decode b_C_timeFrom 107 = .ok (.iload_n 3, 1) := by decide +kernel
theorem d_C_timeFrom_108 : decode b_C_timeFrom 108 = .ok (.iconst 1, 1) := by decide +kernel
theorem d_C_timeFrom_109 : decode b_C_timeFrom 109 = .ok (.iadd, 1) := by decide +kernel
theorem d_C_timeFrom_110 : decode b_C_timeFrom 110 = .ok (.invokestatic 48, 3) := by decide +kernel
theorem d_C_timeFrom_113 : decode b_C_timeFrom 113 = .ok (.istore_n 3, 1) := by decide +kernel
theorem d_C_timeFrom_114 : decode b_C_timeFrom 114 = .ok (.aload_n 0, 1) := by decide +kernel
theorem d_C_timeFrom_115 : decode b_C_timeFrom 115 = .ok (.getfield 11, 3) := by decide +kernel
theorem d_C_timeFrom_118 : decode b_C_timeFrom 118 = .ok (.iconst 0, 1) := by decide +kernel
theorem d_C_timeFrom_119 : decode b_C_timeFrom 119 = .ok (.laload, 1) := by decide +kernel
theorem d_C_timeFrom_120 : decode b_C_timeFrom 120 = .ok (.iconst 0, 1) := by decide +kernel
theorem d_C_timeFrom_121 : decode b_C_timeFrom 121 = .ok (.invokestatic 48, 3) := by decide +kernel
theorem d_C_timeFrom_124 : decode b_C_timeFrom 124 = .ok (.istore 5, 2) := by decide +kernel
theorem d_C_timeFrom_126 : decode b_C_timeFrom 126 = .ok (.iload_n 3, 1) := by decide +kernel
theorem d_C_timeFrom_127 : decode b_C_timeFrom 127 = .ok (.ifCond .ge 31, 3) := by decide +kernel
theorem d_C_timeFrom_130 : decode b_C_timeFrom 130 = .ok (.aload_n 0, 1) := by decide +kernel
theorem d_C_timeFrom_131 : decode b_C_timeFrom 131 = .ok (.getfield 11, 3) := by decide +kernel
theorem d_C_timeFrom_134 : decode b_C_timeFrom 134 = .ok (.iconst 2, 1) := by decide +kernel
theorem d_C_timeFrom_135 : decode b_C_timeFrom 135 = .ok (.laload, 1) := by decide +kernel
theorem d_C_timeFrom_136 : decode b_C_timeFrom 136 = .ok (.iload_n 1, 1) := by decide +kernel
theorem d_C_timeFrom_137 : decode b_C_timeFrom 137 = .ok (.sipush 3600, 3) := by decide +kernel
theorem d_C_timeFrom_140 : decode b_C_timeFrom 140 = .ok (.idiv, 1) := by decide +kernel
theorem d_C_timeFrom_141 : decode b_C_timeFrom 141 = .ok (.iconst 1, 1) := by decide +kernel
theorem d_C_timeFrom_142 : decode b_C_timeFrom 142 = .ok (.iadd, 1) := by decide +kernel
theorem d_C_timeFrom_143 : decode b_C_timeFrom 143 = .ok (.invokestatic 48, 3) := by decide +kernel
theorem d_C_timeFrom_146 : decode b_C_timeFrom 146 = .ok (.istore_n 2, 1) := by decide +kernel
theorem d_C_timeFrom_147 : decode b_C_timeFrom 147 = .ok (.aload_n 0, 1) := by decide +kernel
theorem d_C_timeFrom_148 : decode b_C_timeFrom 148 = .ok (.getfield 11, 3) := by decide +kernel
theorem d_C_timeFrom_151 : decode b_C_timeFrom 151 = .ok (.iconst 1, 1) := by decide +kernel
theorem d_C_timeFrom_152 : decode b_C_timeFrom 152 = .ok (.laload, 1) := by decide +kernel
theorem d_C_timeFrom_153 : decode b_C_timeFrom 153 = .ok (.iconst 0, 1) := by decide +kernel
theorem d_C_timeFrom_154 : decode b_C_timeFrom 154 = .ok (.invokestatic 48, 3) := by decide +kernel
theorem d_C_timeFrom_157 : decode b_C_timeFrom 157 = .ok (.istore_n 3, 1) := by decide +kernel
theorem d_C_timeFrom_158 : decode b_C_timeFrom 158 = .ok (.iload_n 2, 1) := by decide +kernel
theorem d_C_timeFrom_159 : decode b_C_timeFrom 159 = .ok (.ifCond .ge 7, 3) := by decide +kernel
theorem d_C_timeFrom_162 : decode b_C_timeFrom 162 = .ok (.iconst (-1), 1) := by decide +kernel
theorem d_C_timeFrom_163 : decode b_C_timeFrom 163 = .ok (.goto 16, 3) := by decide +kernel
theorem d_C_timeFrom_166 : decode b_C_timeFrom 166 = .ok (.iload_n 2, 1) := by decide +kernel
theorem d_C_timeFrom_167 : decode b_C_timeFrom 167 = .ok (.sipush 3600, 3) := by decide +kernel
theorem d_C_timeFrom_170 : decode b_C_timeFrom 170 = .ok (.imul, 1) := by decide +kernel
theorem d_C_timeFrom_171 : decode b_C_timeFrom 171 = .ok (.iload_n 3, 1) := by decide +kernel
theorem d_C_timeFrom_172 : decode b_C_timeFrom 172 = .ok (.bipush 60, 2) := by decide +kernel
theorem d_C_timeFrom_174 : decode b_C_timeFrom 174 = .ok (.imul, 1) := by decide +kernel
theorem d_C_timeFrom_175 : decode b_C_timeFrom 175 = .ok (.iadd, 1) := by decide +kernel
theorem d_C_timeFrom_176 : decode b_C_timeFrom 176 = .ok (.iload 5, 2) := by decide +kernel
theorem d_C_timeFrom_178 : decode b_C_timeFrom 178 = .ok (.iadd, 1) := by decide +kernel
theorem d_C_timeFrom_179 : decode b_C_timeFrom 179 = .ok (.ireturn, 1) := by decide +kernel
theorem ci_C_timeFrom : jm_ci jm_G y_C_timeFrom (Cond.code y_C_timeFrom b_C_timeFrom 6 (some FieldType.int)) 6 1 := ⟨jm_g4 68 rfl rfl, Or.inl ⟨_, _, rfl⟩, jm_g1 5 rfl rfl, ⟨by decide, by decide⟩, by decide +kernel⟩
theorem im_C_timeFrom : Cond.instanceMethod y_C_timeFrom ∈ jm_G := jm_g4 66 rfl rfl
theorem se_C_timeFrom : Cond.selects y_C_timeFrom.cls y_C_timeFrom y_C_timeFrom ∈ jm_G := jm_g4 67 rfl rfl
def y_C_timeUpTo : MethodName := ⟨"JobHouse$Cron", "timeUpTo", "(I)I"⟩
abbrev b_C_timeUpTo : ByteArray := prog_2_method_14_code
theorem d_C_timeUpTo_0 : decode b_C_timeUpTo 0 = .ok (.aload_n 0, 1) := by decide +kernel
theorem d_C_timeUpTo_1 : decode b_C_timeUpTo 1 = .ok (.getfield 11, 3) := by decide +kernel
theorem d_C_timeUpTo_4 : decode b_C_timeUpTo 4 = .ok (.iconst 2, 1) := by decide +kernel
theorem d_C_timeUpTo_5 : decode b_C_timeUpTo 5 = .ok (.laload, 1) := by decide +kernel
theorem d_C_timeUpTo_6 : decode b_C_timeUpTo 6 = .ok (.iload_n 1, 1) := by decide +kernel
theorem d_C_timeUpTo_7 : decode b_C_timeUpTo 7 = .ok (.sipush 3600, 3) := by decide +kernel
theorem d_C_timeUpTo_10 : decode b_C_timeUpTo 10 = .ok (.idiv, 1) := by decide +kernel
theorem d_C_timeUpTo_11 : decode b_C_timeUpTo 11 = .ok (.invokestatic 52, 3) := by decide +kernel
theorem d_C_timeUpTo_14 : decode b_C_timeUpTo 14 = .ok (.istore_n 2, 1) := by decide +kernel
theorem d_C_timeUpTo_15 : decode b_C_timeUpTo 15 = .ok (.aload_n 0, 1) := by decide +kernel
theorem d_C_timeUpTo_16 : decode b_C_timeUpTo 16 = .ok (.getfield 11, 3) := by decide +kernel
theorem d_C_timeUpTo_19 : decode b_C_timeUpTo 19 = .ok (.iconst 1, 1) := by decide +kernel
theorem d_C_timeUpTo_20 : decode b_C_timeUpTo 20 = .ok (.laload, 1) := by decide +kernel
theorem d_C_timeUpTo_21 : decode b_C_timeUpTo 21 = .ok (.iload_n 2, 1) := by decide +kernel
theorem d_C_timeUpTo_22 : decode b_C_timeUpTo 22 = .ok (.iload_n 1, 1) := by decide +kernel
theorem d_C_timeUpTo_23 : decode b_C_timeUpTo 23 = .ok (.sipush 3600, 3) := by decide +kernel
theorem d_C_timeUpTo_26 : decode b_C_timeUpTo 26 = .ok (.idiv, 1) := by decide +kernel
theorem d_C_timeUpTo_27 : decode b_C_timeUpTo 27 = .ok (.if_icmp .ne 13, 3) := by decide +kernel
theorem d_C_timeUpTo_30 : decode b_C_timeUpTo 30 = .ok (.iload_n 1, 1) := by decide +kernel
theorem d_C_timeUpTo_31 : decode b_C_timeUpTo 31 = .ok (.bipush 60, 2) := by decide +kernel
theorem d_C_timeUpTo_33 : decode b_C_timeUpTo 33 = .ok (.idiv, 1) := by decide +kernel
theorem d_C_timeUpTo_34 : decode b_C_timeUpTo 34 = .ok (.bipush 60, 2) := by decide +kernel
theorem d_C_timeUpTo_36 : decode b_C_timeUpTo 36 = .ok (.irem, 1) := by decide +kernel
theorem d_C_timeUpTo_37 : decode b_C_timeUpTo 37 = .ok (.goto 5, 3) := by decide +kernel
theorem d_C_timeUpTo_40 : decode b_C_timeUpTo 40 = .ok (.bipush 59, 2) := by decide +kernel
theorem d_C_timeUpTo_42 : decode b_C_timeUpTo 42 = .ok (.invokestatic 52, 3) := by decide +kernel
theorem d_C_timeUpTo_45 : decode b_C_timeUpTo 45 = .ok (.istore_n 3, 1) := by decide +kernel
theorem d_C_timeUpTo_46 : decode b_C_timeUpTo 46 = .ok (.iload_n 2, 1) := by decide +kernel
theorem d_C_timeUpTo_47 : decode b_C_timeUpTo 47 = .ok (.iload_n 1, 1) := by decide +kernel
theorem d_C_timeUpTo_48 : decode b_C_timeUpTo 48 = .ok (.sipush 3600, 3) := by decide +kernel
theorem d_C_timeUpTo_51 : decode b_C_timeUpTo 51 = .ok (.idiv, 1) := by decide +kernel
theorem d_C_timeUpTo_52 : decode b_C_timeUpTo 52 = .ok (.if_icmp .ne 18, 3) := by decide +kernel
theorem d_C_timeUpTo_55 : decode b_C_timeUpTo 55 = .ok (.iload_n 3, 1) := by decide +kernel
theorem d_C_timeUpTo_56 : decode b_C_timeUpTo 56 = .ok (.iload_n 1, 1) := by decide +kernel
theorem d_C_timeUpTo_57 : decode b_C_timeUpTo 57 = .ok (.bipush 60, 2) := by decide +kernel
theorem d_C_timeUpTo_59 : decode b_C_timeUpTo 59 = .ok (.idiv, 1) := by decide +kernel
theorem d_C_timeUpTo_60 : decode b_C_timeUpTo 60 = .ok (.bipush 60, 2) := by decide +kernel
theorem d_C_timeUpTo_62 : decode b_C_timeUpTo 62 = .ok (.irem, 1) := by decide +kernel
theorem d_C_timeUpTo_63 : decode b_C_timeUpTo 63 = .ok (.if_icmp .ne 7, 3) := by decide +kernel
theorem d_C_timeUpTo_66 : decode b_C_timeUpTo 66 = .ok (.iconst 1, 1) := by decide +kernel
theorem d_C_timeUpTo_67 : decode b_C_timeUpTo 67 = .ok (.goto 4, 3) := by decide +kernel
theorem d_C_timeUpTo_70 : decode b_C_timeUpTo 70 = .ok (.iconst 0, 1) := by decide +kernel
theorem d_C_timeUpTo_71 : decode b_C_timeUpTo 71 = .ok (.istore 4, 2) := by decide +kernel
theorem d_C_timeUpTo_73 : decode b_C_timeUpTo 73 = .ok (.aload_n 0, 1) := by decide +kernel
theorem d_C_timeUpTo_74 : decode b_C_timeUpTo 74 = .ok (.getfield 11, 3) := by decide +kernel
theorem d_C_timeUpTo_77 : decode b_C_timeUpTo 77 = .ok (.iconst 0, 1) := by decide +kernel
theorem d_C_timeUpTo_78 : decode b_C_timeUpTo 78 = .ok (.laload, 1) := by decide +kernel
theorem d_C_timeUpTo_79 : decode b_C_timeUpTo 79 = .ok (.iload 4, 2) := by decide +kernel
theorem d_C_timeUpTo_81 : decode b_C_timeUpTo 81 = .ok (.ifCond .eq 10, 3) := by decide +kernel
theorem d_C_timeUpTo_84 : decode b_C_timeUpTo 84 = .ok (.iload_n 1, 1) := by decide +kernel
theorem d_C_timeUpTo_85 : decode b_C_timeUpTo 85 = .ok (.bipush 60, 2) := by decide +kernel
theorem d_C_timeUpTo_87 : decode b_C_timeUpTo 87 = .ok (.irem, 1) := by decide +kernel
theorem d_C_timeUpTo_88 : decode b_C_timeUpTo 88 = .ok (.goto 5, 3) := by decide +kernel
theorem d_C_timeUpTo_91 : decode b_C_timeUpTo 91 = .ok (.bipush 59, 2) := by decide +kernel
theorem d_C_timeUpTo_93 : decode b_C_timeUpTo 93 = .ok (.invokestatic 52, 3) := by decide +kernel
theorem d_C_timeUpTo_96 : decode b_C_timeUpTo 96 = .ok (.istore 5, 2) := by decide +kernel
theorem d_C_timeUpTo_98 : decode b_C_timeUpTo 98 = .ok (.iload 5, 2) := by decide +kernel
theorem d_C_timeUpTo_100 : decode b_C_timeUpTo 100 = .ok (.ifCond .ge 29, 3) := by decide +kernel
theorem d_C_timeUpTo_103 : decode b_C_timeUpTo 103 = .ok (.aload_n 0, 1) := by decide +kernel
theorem d_C_timeUpTo_104 : decode b_C_timeUpTo 104 = .ok (.getfield 11, 3) := by decide +kernel
theorem d_C_timeUpTo_107 : decode b_C_timeUpTo 107 = .ok (.iconst 1, 1) := by decide +kernel
theorem d_C_timeUpTo_108 : decode b_C_timeUpTo 108 = .ok (.laload, 1) := by decide +kernel
theorem d_C_timeUpTo_109 : decode b_C_timeUpTo 109 = .ok (.iload_n 3, 1) := by decide +kernel
theorem d_C_timeUpTo_110 : decode b_C_timeUpTo 110 = .ok (.iconst 1, 1) := by decide +kernel
theorem d_C_timeUpTo_111 : decode b_C_timeUpTo 111 = .ok (.isub, 1) := by decide +kernel
theorem d_C_timeUpTo_112 : decode b_C_timeUpTo 112 = .ok (.invokestatic 52, 3) := by decide +kernel
theorem d_C_timeUpTo_115 : decode b_C_timeUpTo 115 = .ok (.istore_n 3, 1) := by decide +kernel
theorem d_C_timeUpTo_116 : decode b_C_timeUpTo 116 = .ok (.aload_n 0, 1) := by decide +kernel
theorem d_C_timeUpTo_117 : decode b_C_timeUpTo 117 = .ok (.getfield 11, 3) := by decide +kernel
theorem d_C_timeUpTo_120 : decode b_C_timeUpTo 120 = .ok (.iconst 0, 1) := by decide +kernel
theorem d_C_timeUpTo_121 : decode b_C_timeUpTo 121 = .ok (.laload, 1) := by decide +kernel
theorem d_C_timeUpTo_122 : decode b_C_timeUpTo 122 = .ok (.bipush 59, 2) := by decide +kernel
theorem d_C_timeUpTo_124 : decode b_C_timeUpTo 124 = .ok (.invokestatic 52, 3) := by decide +kernel
theorem d_C_timeUpTo_127 : decode b_C_timeUpTo 127 = .ok (.istore 5, 2) := by decide +kernel
theorem d_C_timeUpTo_129 : decode b_C_timeUpTo 129 = .ok (.iload_n 3, 1) := by decide +kernel
theorem d_C_timeUpTo_130 : decode b_C_timeUpTo 130 = .ok (.ifCond .ge 32, 3) := by decide +kernel
theorem d_C_timeUpTo_133 : decode b_C_timeUpTo 133 = .ok (.aload_n 0, 1) := by decide +kernel
theorem d_C_timeUpTo_134 : decode b_C_timeUpTo 134 = .ok (.getfield 11, 3) := by decide +kernel
theorem d_C_timeUpTo_137 : decode b_C_timeUpTo 137 = .ok (.iconst 2, 1) := by decide +kernel
theorem d_C_timeUpTo_138 : decode b_C_timeUpTo 138 = .ok (.laload, 1) := by decide +kernel
theorem d_C_timeUpTo_139 : decode b_C_timeUpTo 139 = .ok (.iload_n 1, 1) := by decide +kernel
theorem d_C_timeUpTo_140 : decode b_C_timeUpTo 140 = .ok (.sipush 3600, 3) := by decide +kernel
theorem d_C_timeUpTo_143 : decode b_C_timeUpTo 143 = .ok (.idiv, 1) := by decide +kernel
theorem d_C_timeUpTo_144 : decode b_C_timeUpTo 144 = .ok (.iconst 1, 1) := by decide +kernel
theorem d_C_timeUpTo_145 : decode b_C_timeUpTo 145 = .ok (.isub, 1) := by decide +kernel
theorem d_C_timeUpTo_146 : decode b_C_timeUpTo 146 = .ok (.invokestatic 52, 3) := by decide +kernel
theorem d_C_timeUpTo_149 : decode b_C_timeUpTo 149 = .ok (.istore_n 2, 1) := by decide +kernel
theorem d_C_timeUpTo_150 : decode b_C_timeUpTo 150 = .ok (.aload_n 0, 1) := by decide +kernel
theorem d_C_timeUpTo_151 : decode b_C_timeUpTo 151 = .ok (.getfield 11, 3) := by decide +kernel
theorem d_C_timeUpTo_154 : decode b_C_timeUpTo 154 = .ok (.iconst 1, 1) := by decide +kernel
theorem d_C_timeUpTo_155 : decode b_C_timeUpTo 155 = .ok (.laload, 1) := by decide +kernel
theorem d_C_timeUpTo_156 : decode b_C_timeUpTo 156 = .ok (.bipush 59, 2) := by decide +kernel
theorem d_C_timeUpTo_158 : decode b_C_timeUpTo 158 = .ok (.invokestatic 52, 3) := by decide +kernel
theorem d_C_timeUpTo_161 : decode b_C_timeUpTo 161 = .ok (.istore_n 3, 1) := by decide +kernel
theorem d_C_timeUpTo_162 : decode b_C_timeUpTo 162 = .ok (.iload_n 2, 1) := by decide +kernel
theorem d_C_timeUpTo_163 : decode b_C_timeUpTo 163 = .ok (.ifCond .ge 7, 3) := by decide +kernel
theorem d_C_timeUpTo_166 : decode b_C_timeUpTo 166 = .ok (.iconst (-1), 1) := by decide +kernel
theorem d_C_timeUpTo_167 : decode b_C_timeUpTo 167 = .ok (.goto 16, 3) := by decide +kernel
theorem d_C_timeUpTo_170 : decode b_C_timeUpTo 170 = .ok (.iload_n 2, 1) := by decide +kernel
theorem d_C_timeUpTo_171 : decode b_C_timeUpTo 171 = .ok (.sipush 3600, 3) := by decide +kernel
theorem d_C_timeUpTo_174 : decode b_C_timeUpTo 174 = .ok (.imul, 1) := by decide +kernel
theorem d_C_timeUpTo_175 : decode b_C_timeUpTo 175 = .ok (.iload_n 3, 1) := by decide +kernel
theorem d_C_timeUpTo_176 : decode b_C_timeUpTo 176 = .ok (.bipush 60, 2) := by decide +kernel
theorem d_C_timeUpTo_178 : decode b_C_timeUpTo 178 = .ok (.imul, 1) := by decide +kernel
theorem d_C_timeUpTo_179 : decode b_C_timeUpTo 179 = .ok (.iadd, 1) := by decide +kernel
theorem d_C_timeUpTo_180 : decode b_C_timeUpTo 180 = .ok (.iload 5, 2) := by decide +kernel
theorem d_C_timeUpTo_182 : decode b_C_timeUpTo 182 = .ok (.iadd, 1) := by decide +kernel
theorem d_C_timeUpTo_183 : decode b_C_timeUpTo 183 = .ok (.ireturn, 1) := by decide +kernel
theorem ci_C_timeUpTo : jm_ci jm_G y_C_timeUpTo (Cond.code y_C_timeUpTo b_C_timeUpTo 6 (some FieldType.int)) 6 1 := ⟨jm_g4 103 rfl rfl, Or.inl ⟨_, _, rfl⟩, jm_g1 5 rfl rfl, ⟨by decide, by decide⟩, by decide +kernel⟩
theorem im_C_timeUpTo : Cond.instanceMethod y_C_timeUpTo ∈ jm_G := jm_g4 101 rfl rfl
theorem se_C_timeUpTo : Cond.selects y_C_timeUpTo.cls y_C_timeUpTo y_C_timeUpTo ∈ jm_G := jm_g4 102 rfl rfl
def y_C_lowestBit : MethodName := ⟨"JobHouse$Cron", "lowestBit", "(JI)I"⟩
abbrev b_C_lowestBit : ByteArray := prog_2_method_15_code
theorem d_C_lowestBit_0 : decode b_C_lowestBit 0 = .ok (.lload_n 0, 1) := by decide +kernel
theorem d_C_lowestBit_1 : decode b_C_lowestBit 1 = .ok (.iload_n 2, 1) := by decide +kernel
theorem d_C_lowestBit_2 : decode b_C_lowestBit 2 = .ok (.lshr, 1) := by decide +kernel
theorem d_C_lowestBit_3 : decode b_C_lowestBit 3 = .ok (.iload_n 2, 1) := by decide +kernel
theorem d_C_lowestBit_4 : decode b_C_lowestBit 4 = .ok (.lshl, 1) := by decide +kernel
theorem d_C_lowestBit_5 : decode b_C_lowestBit 5 = .ok (.lstore_n 3, 1) := by decide +kernel
theorem d_C_lowestBit_6 : decode b_C_lowestBit 6 = .ok (.lload_n 3, 1) := by decide +kernel
theorem d_C_lowestBit_7 : decode b_C_lowestBit 7 = .ok (.lconst 0, 1) := by decide +kernel
theorem d_C_lowestBit_8 : decode b_C_lowestBit 8 = .ok (.lcmp, 1) := by decide +kernel
theorem d_C_lowestBit_9 : decode b_C_lowestBit 9 = .ok (.ifCond .ne 7, 3) := by decide +kernel
theorem d_C_lowestBit_12 : decode b_C_lowestBit 12 = .ok (.iconst (-1), 1) := by decide +kernel
theorem d_C_lowestBit_13 : decode b_C_lowestBit 13 = .ok (.goto 12, 3) := by decide +kernel
theorem d_C_lowestBit_16 : decode b_C_lowestBit 16 = .ok (.lload_n 3, 1) := by decide +kernel
theorem d_C_lowestBit_17 : decode b_C_lowestBit 17 = .ok (.lload_n 3, 1) := by decide +kernel
theorem d_C_lowestBit_18 : decode b_C_lowestBit 18 = .ok (.lneg, 1) := by decide +kernel
theorem d_C_lowestBit_19 : decode b_C_lowestBit 19 = .ok (.land, 1) := by decide +kernel
theorem d_C_lowestBit_20 : decode b_C_lowestBit 20 = .ok (.lconst 1, 1) := by decide +kernel
theorem d_C_lowestBit_21 : decode b_C_lowestBit 21 = .ok (.lsub, 1) := by decide +kernel
theorem d_C_lowestBit_22 : decode b_C_lowestBit 22 = .ok (.invokestatic 55, 3) := by decide +kernel
theorem d_C_lowestBit_25 : decode b_C_lowestBit 25 = .ok (.ireturn, 1) := by decide +kernel
theorem ci_C_lowestBit : jm_ci jm_G y_C_lowestBit (Cond.code y_C_lowestBit b_C_lowestBit 5 (some FieldType.int)) 5 2 := ⟨jm_g4 56 rfl rfl, Or.inl ⟨_, _, rfl⟩, jm_g1 5 rfl rfl, ⟨by decide, by decide⟩, by decide +kernel⟩
theorem st_C_lowestBit : Cond.static y_C_lowestBit ∈ jm_G := jm_g4 55 rfl rfl
def y_C_highestBit : MethodName := ⟨"JobHouse$Cron", "highestBit", "(JI)I"⟩
abbrev b_C_highestBit : ByteArray := prog_2_method_16_code
theorem d_C_highestBit_0 : decode b_C_highestBit 0 = .ok (.iload_n 2, 1) := by decide +kernel
theorem d_C_highestBit_1 : decode b_C_highestBit 1 = .ok (.ifCond .ge 5, 3) := by decide +kernel
theorem d_C_highestBit_4 : decode b_C_highestBit 4 = .ok (.iconst (-1), 1) := by decide +kernel
theorem d_C_highestBit_5 : decode b_C_highestBit 5 = .ok (.ireturn, 1) := by decide +kernel
theorem d_C_highestBit_6 : decode b_C_highestBit 6 = .ok (.lload_n 0, 1) := by decide +kernel
theorem d_C_highestBit_7 : decode b_C_highestBit 7 = .ok (.iload_n 2, 1) := by decide +kernel
theorem d_C_highestBit_8 : decode b_C_highestBit 8 = .ok (.invokestatic 19, 3) := by decide +kernel
theorem d_C_highestBit_11 : decode b_C_highestBit 11 = .ok (.land, 1) := by decide +kernel
theorem d_C_highestBit_12 : decode b_C_highestBit 12 = .ok (.lstore_n 3, 1) := by decide +kernel
theorem d_C_highestBit_13 : decode b_C_highestBit 13 = .ok (.lload_n 3, 1) := by decide +kernel
theorem d_C_highestBit_14 : decode b_C_highestBit 14 = .ok (.lload_n 3, 1) := by decide +kernel
theorem d_C_highestBit_15 : decode b_C_highestBit 15 = .ok (.iconst 1, 1) := by decide +kernel
theorem d_C_highestBit_16 : decode b_C_highestBit 16 = .ok (.lshr, 1) := by decide +kernel
theorem d_C_highestBit_17 : decode b_C_highestBit 17 = .ok (.lor, 1) := by decide +kernel
theorem d_C_highestBit_18 : decode b_C_highestBit 18 = .ok (.lstore_n 3, 1) := by decide +kernel
theorem d_C_highestBit_19 : decode b_C_highestBit 19 = .ok (.lload_n 3, 1) := by decide +kernel
theorem d_C_highestBit_20 : decode b_C_highestBit 20 = .ok (.lload_n 3, 1) := by decide +kernel
theorem d_C_highestBit_21 : decode b_C_highestBit 21 = .ok (.iconst 2, 1) := by decide +kernel
theorem d_C_highestBit_22 : decode b_C_highestBit 22 = .ok (.lshr, 1) := by decide +kernel
theorem d_C_highestBit_23 : decode b_C_highestBit 23 = .ok (.lor, 1) := by decide +kernel
theorem d_C_highestBit_24 : decode b_C_highestBit 24 = .ok (.lstore_n 3, 1) := by decide +kernel
theorem d_C_highestBit_25 : decode b_C_highestBit 25 = .ok (.lload_n 3, 1) := by decide +kernel
theorem d_C_highestBit_26 : decode b_C_highestBit 26 = .ok (.lload_n 3, 1) := by decide +kernel
theorem d_C_highestBit_27 : decode b_C_highestBit 27 = .ok (.iconst 4, 1) := by decide +kernel
theorem d_C_highestBit_28 : decode b_C_highestBit 28 = .ok (.lshr, 1) := by decide +kernel
theorem d_C_highestBit_29 : decode b_C_highestBit 29 = .ok (.lor, 1) := by decide +kernel
theorem d_C_highestBit_30 : decode b_C_highestBit 30 = .ok (.lstore_n 3, 1) := by decide +kernel
theorem d_C_highestBit_31 : decode b_C_highestBit 31 = .ok (.lload_n 3, 1) := by decide +kernel
theorem d_C_highestBit_32 : decode b_C_highestBit 32 = .ok (.lload_n 3, 1) := by decide +kernel
theorem d_C_highestBit_33 : decode b_C_highestBit 33 = .ok (.bipush 8, 2) := by decide +kernel
theorem d_C_highestBit_35 : decode b_C_highestBit 35 = .ok (.lshr, 1) := by decide +kernel
theorem d_C_highestBit_36 : decode b_C_highestBit 36 = .ok (.lor, 1) := by decide +kernel
theorem d_C_highestBit_37 : decode b_C_highestBit 37 = .ok (.lstore_n 3, 1) := by decide +kernel
theorem d_C_highestBit_38 : decode b_C_highestBit 38 = .ok (.lload_n 3, 1) := by decide +kernel
theorem d_C_highestBit_39 : decode b_C_highestBit 39 = .ok (.lload_n 3, 1) := by decide +kernel
theorem d_C_highestBit_40 : decode b_C_highestBit 40 = .ok (.bipush 16, 2) := by decide +kernel
theorem d_C_highestBit_42 : decode b_C_highestBit 42 = .ok (.lshr, 1) := by decide +kernel
theorem d_C_highestBit_43 : decode b_C_highestBit 43 = .ok (.lor, 1) := by decide +kernel
theorem d_C_highestBit_44 : decode b_C_highestBit 44 = .ok (.lstore_n 3, 1) := by decide +kernel
theorem d_C_highestBit_45 : decode b_C_highestBit 45 = .ok (.lload_n 3, 1) := by decide +kernel
theorem d_C_highestBit_46 : decode b_C_highestBit 46 = .ok (.lload_n 3, 1) := by decide +kernel
theorem d_C_highestBit_47 : decode b_C_highestBit 47 = .ok (.bipush 32, 2) := by decide +kernel
theorem d_C_highestBit_49 : decode b_C_highestBit 49 = .ok (.lshr, 1) := by decide +kernel
theorem d_C_highestBit_50 : decode b_C_highestBit 50 = .ok (.lor, 1) := by decide +kernel
theorem d_C_highestBit_51 : decode b_C_highestBit 51 = .ok (.lstore_n 3, 1) := by decide +kernel
theorem d_C_highestBit_52 : decode b_C_highestBit 52 = .ok (.lload_n 3, 1) := by decide +kernel
theorem d_C_highestBit_53 : decode b_C_highestBit 53 = .ok (.invokestatic 55, 3) := by decide +kernel
theorem d_C_highestBit_56 : decode b_C_highestBit 56 = .ok (.iconst 1, 1) := by decide +kernel
theorem d_C_highestBit_57 : decode b_C_highestBit 57 = .ok (.isub, 1) := by decide +kernel
theorem d_C_highestBit_58 : decode b_C_highestBit 58 = .ok (.ireturn, 1) := by decide +kernel
theorem ci_C_highestBit : jm_ci jm_G y_C_highestBit (Cond.code y_C_highestBit b_C_highestBit 5 (some FieldType.int)) 5 2 := ⟨jm_g4 99 rfl rfl, Or.inl ⟨_, _, rfl⟩, jm_g1 5 rfl rfl, ⟨by decide, by decide⟩, by decide +kernel⟩
theorem st_C_highestBit : Cond.static y_C_highestBit ∈ jm_G := jm_g4 98 rfl rfl
