def y_B_init : MethodName := ⟨"JobHouse$Job", "<init>", "()V"⟩
abbrev b_B_init : ByteArray := prog_7_method_1_code
theorem d_B_init_0 : decode b_B_init 0 = .ok (.aload_n 0, 1) := by decide +kernel
theorem d_B_init_1 : decode b_B_init 1 = .ok (.invokespecial 3, 3) := by decide +kernel
theorem d_B_init_4 : decode b_B_init 4 = .ok (.return_, 1) := by decide +kernel
theorem ci_B_init : jm_ci jm_G y_B_init (Cond.code y_B_init b_B_init 1 (none)) 1 0 := ⟨jm_g1 210 rfl rfl, Or.inl ⟨_, _, rfl⟩, jm_g1 9 rfl rfl, ⟨by decide, by decide⟩, by decide +kernel⟩
theorem im_B_init : Cond.instanceMethod y_B_init ∈ jm_G := jm_g1 209 rfl rfl
def y_B_isAheadOf : MethodName := ⟨"JobHouse$Job", "isAheadOf", "(LJobHouse$Job;)Z"⟩
abbrev b_B_isAheadOf : ByteArray := prog_7_method_2_code
theorem d_B_isAheadOf_0 : decode b_B_isAheadOf 0 = .ok (.aload_n 0, 1) := by decide +kernel
theorem d_B_isAheadOf_1 : decode b_B_isAheadOf 1 = .ok (.getfield 9, 3) := by decide +kernel
theorem d_B_isAheadOf_4 : decode b_B_isAheadOf 4 = .ok (.aload_n 1, 1) := by decide +kernel
theorem d_B_isAheadOf_5 : decode b_B_isAheadOf 5 = .ok (.getfield 9, 3) := by decide +kernel
theorem d_B_isAheadOf_8 : decode b_B_isAheadOf 8 = .ok (.lcmp, 1) := by decide +kernel
theorem d_B_isAheadOf_9 : decode b_B_isAheadOf 9 = .ok (.ifCond .eq 21, 3) := by decide +kernel
theorem d_B_isAheadOf_12 : decode b_B_isAheadOf 12 = .ok (.aload_n 0, 1) := by decide +kernel
theorem d_B_isAheadOf_13 : decode b_B_isAheadOf 13 = .ok (.getfield 9, 3) := by decide +kernel
theorem d_B_isAheadOf_16 : decode b_B_isAheadOf 16 = .ok (.aload_n 1, 1) := by decide +kernel
theorem d_B_isAheadOf_17 : decode b_B_isAheadOf 17 = .ok (.getfield 9, 3) := by decide +kernel
theorem d_B_isAheadOf_20 : decode b_B_isAheadOf 20 = .ok (.lcmp, 1) := by decide +kernel
theorem d_B_isAheadOf_21 : decode b_B_isAheadOf 21 = .ok (.ifCond .ge 7, 3) := by decide +kernel
theorem d_B_isAheadOf_24 : decode b_B_isAheadOf 24 = .ok (.iconst 1, 1) := by decide +kernel
theorem d_B_isAheadOf_25 : decode b_B_isAheadOf 25 = .ok (.goto 4, 3) := by decide +kernel
theorem d_B_isAheadOf_28 : decode b_B_isAheadOf 28 = .ok (.iconst 0, 1) := by decide +kernel
theorem d_B_isAheadOf_29 : decode b_B_isAheadOf 29 = .ok (.ireturn, 1) := by decide +kernel
theorem d_B_isAheadOf_30 : decode b_B_isAheadOf 30 = .ok (.aload_n 0, 1) := by decide +kernel
theorem d_B_isAheadOf_31 : decode b_B_isAheadOf 31 = .ok (.getfield 15, 3) := by decide +kernel
theorem d_B_isAheadOf_34 : decode b_B_isAheadOf 34 = .ok (.aload_n 1, 1) := by decide +kernel
theorem d_B_isAheadOf_35 : decode b_B_isAheadOf 35 = .ok (.getfield 15, 3) := by decide +kernel
theorem d_B_isAheadOf_38 : decode b_B_isAheadOf 38 = .ok (.if_icmp .eq 20, 3) := by decide +kernel
theorem d_B_isAheadOf_41 : decode b_B_isAheadOf 41 = .ok (.aload_n 0, 1) := by decide +kernel
theorem d_B_isAheadOf_42 : decode b_B_isAheadOf 42 = .ok (.getfield 15, 3) := by decide +kernel
theorem d_B_isAheadOf_45 : decode b_B_isAheadOf 45 = .ok (.aload_n 1, 1) := by decide +kernel
theorem d_B_isAheadOf_46 : decode b_B_isAheadOf 46 = .ok (.getfield 15, 3) := by decide +kernel
theorem d_B_isAheadOf_49 : decode b_B_isAheadOf 49 = .ok (.if_icmp .le 7, 3) := by decide +kernel
theorem d_B_isAheadOf_52 : decode b_B_isAheadOf 52 = .ok (.iconst 1, 1) := by decide +kernel
theorem d_B_isAheadOf_53 : decode b_B_isAheadOf 53 = .ok (.goto 4, 3) := by decide +kernel
theorem d_B_isAheadOf_56 : decode b_B_isAheadOf 56 = .ok (.iconst 0, 1) := by decide +kernel
theorem d_B_isAheadOf_57 : decode b_B_isAheadOf 57 = .ok (.ireturn, 1) := by decide +kernel
theorem d_B_isAheadOf_58 : decode b_B_isAheadOf 58 = .ok (.aload_n 0, 1) := by decide +kernel
theorem d_B_isAheadOf_59 : decode b_B_isAheadOf 59 = .ok (.getfield 19, 3) := by decide +kernel
theorem d_B_isAheadOf_62 : decode b_B_isAheadOf 62 = .ok (.aload_n 1, 1) := by decide +kernel
theorem d_B_isAheadOf_63 : decode b_B_isAheadOf 63 = .ok (.getfield 19, 3) := by decide +kernel
theorem d_B_isAheadOf_66 : decode b_B_isAheadOf 66 = .ok (.if_icmp .ge 7, 3) := by decide +kernel
theorem d_B_isAheadOf_69 : decode b_B_isAheadOf 69 = .ok (.iconst 1, 1) := by decide +kernel
theorem d_B_isAheadOf_70 : decode b_B_isAheadOf 70 = .ok (.goto 4, 3) := by decide +kernel
theorem d_B_isAheadOf_73 : decode b_B_isAheadOf 73 = .ok (.iconst 0, 1) := by decide +kernel
theorem d_B_isAheadOf_74 : decode b_B_isAheadOf 74 = .ok (.ireturn, 1) := by decide +kernel
theorem ci_B_isAheadOf : jm_ci jm_G y_B_isAheadOf (Cond.code y_B_isAheadOf b_B_isAheadOf 2 (some FieldType.boolean)) 2 1 := ⟨jm_g5 15 rfl rfl, Or.inl ⟨_, _, rfl⟩, jm_g1 9 rfl rfl, ⟨by decide, by decide⟩, by decide +kernel⟩
theorem im_B_isAheadOf : Cond.instanceMethod y_B_isAheadOf ∈ jm_G := jm_g5 13 rfl rfl
theorem se_B_isAheadOf : Cond.selects y_B_isAheadOf.cls y_B_isAheadOf y_B_isAheadOf ∈ jm_G := jm_g5 14 rfl rfl
def y_B_isOver : MethodName := ⟨"JobHouse$Job", "isOver", "()Z"⟩
abbrev b_B_isOver : ByteArray := prog_7_method_3_code
theorem d_B_isOver_0 : decode b_B_isOver 0 = .ok (.aload_n 0, 1) := by decide +kernel
theorem d_B_isOver_1 : decode b_B_isOver 1 = .ok (.getfield 22, 3) := by decide +kernel
theorem d_B_isOver_4 : decode b_B_isOver 4 = .ok (.iconst 3, 1) := by decide +kernel
theorem d_B_isOver_5 : decode b_B_isOver 5 = .ok (.if_icmp .eq 21, 3) := by decide +kernel
theorem d_B_isOver_8 : decode b_B_isOver 8 = .ok (.aload_n 0, 1) := by decide +kernel
theorem d_B_isOver_9 : decode b_B_isOver 9 = .ok (.getfield 25, 3) := by decide +kernel
theorem d_B_isOver_12 : decode b_B_isOver 12 = .ok (.ifCond .eq 14, 3) := by decide +kernel
theorem d_B_isOver_15 : decode b_B_isOver 15 = .ok (.aload_n 0, 1) := by decide +kernel
theorem d_B_isOver_16 : decode b_B_isOver 16 = .ok (.getfield 28, 3) := by decide +kernel
theorem d_B_isOver_19 : decode b_B_isOver 19 = .ok (.aload_n 0, 1) := by decide +kernel
theorem d_B_isOver_20 : decode b_B_isOver 20 = .ok (.getfield 31, 3) := by decide +kernel
theorem d_B_isOver_23 : decode b_B_isOver 23 = .ok (.if_icmp .ne 7, 3) := by decide +kernel
theorem d_B_isOver_26 : decode b_B_isOver 26 = .ok (.iconst 1, 1) := by decide +kernel
theorem d_B_isOver_27 : decode b_B_isOver 27 = .ok (.goto 4, 3) := by decide +kernel
theorem d_B_isOver_30 : decode b_B_isOver 30 = .ok (.iconst 0, 1) := by decide +kernel
theorem d_B_isOver_31 : decode b_B_isOver 31 = .ok (.ireturn, 1) := by decide +kernel
theorem ci_B_isOver : jm_ci jm_G y_B_isOver (Cond.code y_B_isOver b_B_isOver 1 (some FieldType.boolean)) 1 0 := ⟨jm_g4 238 rfl rfl, Or.inl ⟨_, _, rfl⟩, jm_g1 9 rfl rfl, ⟨by decide, by decide⟩, by decide +kernel⟩
theorem im_B_isOver : Cond.instanceMethod y_B_isOver ∈ jm_G := jm_g4 236 rfl rfl
theorem se_B_isOver : Cond.selects y_B_isOver.cls y_B_isOver y_B_isOver ∈ jm_G := jm_g4 237 rfl rfl
def y_B_rateTimeBehind : MethodName := ⟨"JobHouse$Job", "rateTimeBehind", "(J)J"⟩
abbrev b_B_rateTimeBehind : ByteArray := prog_7_method_4_code
theorem d_B_rateTimeBehind_0 : decode b_B_rateTimeBehind 0 = .ok (.aload_n 0, 1) := by decide +kernel
theorem d_B_rateTimeBehind_1 : decode b_B_rateTimeBehind 1 = .ok (.getfield 34, 3) := by decide +kernel
theorem d_B_rateTimeBehind_4 : decode b_B_rateTimeBehind 4 = .ok (.lconst 1, 1) := by decide +kernel
theorem d_B_rateTimeBehind_5 : decode b_B_rateTimeBehind 5 = .ok (.lcmp, 1) := by decide +kernel
theorem d_B_rateTimeBehind_6 : decode b_B_rateTimeBehind 6 = .ok (.ifCond .ge 7, 3) := by decide +kernel
theorem d_B_rateTimeBehind_9 : decode b_B_rateTimeBehind 9 = .ok (.ldc2_w 37, 3) := by decide +kernel
theorem d_B_rateTimeBehind_12 : decode b_B_rateTimeBehind 12 = .ok (.lreturn, 1) := by decide +kernel
theorem d_B_rateTimeBehind_13 : decode b_B_rateTimeBehind 13 = .ok (.lload_n 1, 1) := by decide +kernel
theorem d_B_rateTimeBehind_14 : decode b_B_rateTimeBehind 14 = .ok (.aload_n 0, 1) := by decide +kernel
theorem d_B_rateTimeBehind_15 : decode b_B_rateTimeBehind 15 = .ok (.getfield 9, 3) := by decide +kernel
theorem d_B_rateTimeBehind_18 : decode b_B_rateTimeBehind 18 = .ok (.lsub, 1) := by decide +kernel
theorem d_B_rateTimeBehind_19 : decode b_B_rateTimeBehind 19 = .ok (.aload_n 0, 1) := by decide +kernel
theorem d_B_rateTimeBehind_20 : decode b_B_rateTimeBehind 20 = .ok (.getfield 34, 3) := by decide +kernel
theorem d_B_rateTimeBehind_23 : decode b_B_rateTimeBehind 23 = .ok (.ldiv, 1) := by decide +kernel
theorem d_B_rateTimeBehind_24 : decode b_B_rateTimeBehind 24 = .ok (.lstore_n 3, 1) := by decide +kernel
theorem d_B_rateTimeBehind_25 : decode b_B_rateTimeBehind 25 = .ok (.aload_n 0, 1) := by decide +kernel
theorem d_B_rateTimeBehind_26 : decode b_B_rateTimeBehind 26 = .ok (.getfield 39, 3) := by decide +kernel
theorem d_B_rateTimeBehind_29 : decode b_B_rateTimeBehind 29 = .ok (.iconst 2, 1) := by decide +kernel
theorem d_B_rateTimeBehind_30 : decode b_B_rateTimeBehind 30 = .ok (.if_icmp .ne 17, 3) := by decide +kernel
theorem d_B_rateTimeBehind_33 : decode b_B_rateTimeBehind 33 = .ok (.aload_n 0, 1) := by decide +kernel
theorem d_B_rateTimeBehind_34 : decode b_B_rateTimeBehind 34 = .ok (.getfield 9, 3) := by decide +kernel
theorem d_B_rateTimeBehind_37 : decode b_B_rateTimeBehind 37 = .ok (.lload_n 3, 1) := by decide +kernel
theorem d_B_rateTimeBehind_38 : decode b_B_rateTimeBehind 38 = .ok (.lconst 1, 1) := by decide +kernel
theorem d_B_rateTimeBehind_39 : decode b_B_rateTimeBehind 39 = .ok (.ladd, 1) := by decide +kernel
theorem d_B_rateTimeBehind_40 : decode b_B_rateTimeBehind 40 = .ok (.aload_n 0, 1) := by decide +kernel
theorem d_B_rateTimeBehind_41 : decode b_B_rateTimeBehind 41 = .ok (.getfield 34, 3) := by decide +kernel
theorem d_B_rateTimeBehind_44 : decode b_B_rateTimeBehind 44 = .ok (.lmul, 1) := by decide +kernel
theorem d_B_rateTimeBehind_45 : decode b_B_rateTimeBehind 45 = .ok (.ladd, 1) := by decide +kernel
theorem d_B_rateTimeBehind_46 : decode b_B_rateTimeBehind 46 = .ok (.lreturn, 1) := by decide +kernel
theorem d_B_rateTimeBehind_47 : decode b_B_rateTimeBehind 47 = .ok (.aload_n 0, 1) := by decide +kernel
theorem d_B_rateTimeBehind_48 : decode b_B_rateTimeBehind 48 = .ok (.getfield 39, 3) := by decide +kernel
theorem d_B_rateTimeBehind_51 : decode b_B_rateTimeBehind 51 = .ok (.iconst 1, 1) := by decide +kernel
theorem d_B_rateTimeBehind_52 : decode b_B_rateTimeBehind 52 = .ok (.if_icmp .ne 21, 3) := by decide +kernel
theorem d_B_rateTimeBehind_55 : decode b_B_rateTimeBehind 55 = .ok (.lload_n 3, 1) := by decide +kernel
theorem d_B_rateTimeBehind_56 : decode b_B_rateTimeBehind 56 = .ok (.lconst 1, 1) := by decide +kernel
theorem d_B_rateTimeBehind_57 : decode b_B_rateTimeBehind 57 = .ok (.lcmp, 1) := by decide +kernel
theorem d_B_rateTimeBehind_58 : decode b_B_rateTimeBehind 58 = .ok (.ifCond .le 15, 3) := by decide +kernel
theorem d_B_rateTimeBehind_61 : decode b_B_rateTimeBehind 61 = .ok (.aload_n 0, 1) := by decide +kernel
theorem d_B_rateTimeBehind_62 : decode b_B_rateTimeBehind 62 = .ok (.getfield 9, 3) := by decide +kernel
theorem d_B_rateTimeBehind_65 : decode b_B_rateTimeBehind 65 = .ok (.lload_n 3, 1) := by decide +kernel
theorem d_B_rateTimeBehind_66 : decode b_B_rateTimeBehind 66 = .ok (.aload_n 0, 1) := by decide +kernel
theorem d_B_rateTimeBehind_67 : decode b_B_rateTimeBehind 67 = .ok (.getfield 34, 3) := by decide +kernel
theorem d_B_rateTimeBehind_70 : decode b_B_rateTimeBehind 70 = .ok (.lmul, 1) := by decide +kernel
theorem d_B_rateTimeBehind_71 : decode b_B_rateTimeBehind 71 = .ok (.ladd, 1) := by decide +kernel
theorem d_B_rateTimeBehind_72 : decode b_B_rateTimeBehind 72 = .ok (.lreturn, 1) := by decide +kernel
theorem d_B_rateTimeBehind_73 : decode b_B_rateTimeBehind 73 = .ok (.aload_n 0, 1) := by decide +kernel
theorem d_B_rateTimeBehind_74 : decode b_B_rateTimeBehind 74 = .ok (.getfield 9, 3) := by decide +kernel
theorem d_B_rateTimeBehind_77 : decode b_B_rateTimeBehind 77 = .ok (.aload_n 0, 1) := by decide +kernel
theorem d_B_rateTimeBehind_78 : decode b_B_rateTimeBehind 78 = .ok (.getfield 34, 3) := by decide +kernel
theorem d_B_rateTimeBehind_81 : decode b_B_rateTimeBehind 81 = .ok (.ladd, 1) := by decide +kernel
theorem d_B_rateTimeBehind_82 : decode b_B_rateTimeBehind 82 = .ok (.lreturn, 1) := by decide +kernel
theorem ci_B_rateTimeBehind : jm_ci jm_G y_B_rateTimeBehind (Cond.code y_B_rateTimeBehind b_B_rateTimeBehind 5 (some FieldType.long)) 5 1 := ⟨jm_g5 2 rfl rfl, Or.inl ⟨_, _, rfl⟩, jm_g1 9 rfl rfl, ⟨by decide, by decide⟩, by decide +kernel⟩
theorem im_B_rateTimeBehind : Cond.instanceMethod y_B_rateTimeBehind ∈ jm_G := jm_g5 0 rfl rfl
theorem se_B_rateTimeBehind : Cond.selects y_B_rateTimeBehind.cls y_B_rateTimeBehind y_B_rateTimeBehind ∈ jm_G := jm_g5 1 rfl rfl
def y_L_init : MethodName := ⟨"JobHouse$StartLog", "<init>", "()V"⟩
abbrev b_L_init : ByteArray := prog_8_method_1_code
theorem d_L_init_0 : decode b_L_init 0 = .ok (.aload_n 0, 1) := by decide +kernel
theorem d_L_init_1 : decode b_L_init 1 = .ok (.invokespecial 3, 3) := by decide +kernel
theorem d_L_init_4 : decode b_L_init 4 = .ok (.aload_n 0, 1) := by decide +kernel
theorem d_L_init_5 : decode b_L_init 5 = .ok (.sipush 500, 3) := by decide +kernel
theorem d_L_init_8 : decode b_L_init 8 = .ok (.newarray .long, 2) := by decide +kernel
theorem d_L_init_10 : decode b_L_init 10 = .ok (.putfield 9, 3) := by decide +kernel
theorem d_L_init_13 : decode b_L_init 13 = .ok (.aload_n 0, 1) := by decide +kernel
theorem d_L_init_14 : decode b_L_init 14 = .ok (.sipush 500, 3) := by decide +kernel
theorem d_L_init_17 : decode b_L_init 17 = .ok (.newarray .int, 2) := by decide +kernel
theorem d_L_init_19 : decode b_L_init 19 = .ok (.putfield 15, 3) := by decide +kernel
theorem d_L_init_22 : decode b_L_init 22 = .ok (.aload_n 0, 1) := by decide +kernel
theorem d_L_init_23 : decode b_L_init 23 = .ok (.sipush 500, 3) := by decide +kernel
theorem d_L_init_26 : decode b_L_init 26 = .ok (.newarray .long, 2) := by decide +kernel
theorem d_L_init_28 : decode b_L_init 28 = .ok (.putfield 19, 3) := by decide +kernel
theorem d_L_init_31 : decode b_L_init 31 = .ok (.return_, 1) := by decide +kernel
theorem ci_L_init : jm_ci jm_G y_L_init (Cond.code y_L_init b_L_init 1 (none)) 1 0 := ⟨jm_g1 184 rfl rfl, Or.inl ⟨_, _, rfl⟩, jm_g1 8 rfl rfl, ⟨by decide, by decide⟩, by decide +kernel⟩
theorem im_L_init : Cond.instanceMethod y_L_init ∈ jm_G := jm_g1 183 rfl rfl
def y_L_add : MethodName := ⟨"JobHouse$StartLog", "add", "(JIJ)V"⟩
abbrev b_L_add : ByteArray := prog_8_method_2_code
theorem d_L_add_0 : decode b_L_add 0 = .ok (.aload_n 0, 1) := by decide +kernel
theorem d_L_add_1 : decode b_L_add 1 = .ok (.getfield 22, 3) := by decide +kernel
theorem d_L_add_4 : decode b_L_add 4 = .ok (.sipush 500, 3) := by decide +kernel
theorem d_L_add_7 : decode b_L_add 7 = .ok (.if_icmp .ge 54, 3) := by decide +kernel
theorem d_L_add_10 : decode b_L_add 10 = .ok (.aload_n 0, 1) := by decide +kernel
theorem d_L_add_11 : decode b_L_add 11 = .ok (.getfield 9, 3) := by decide +kernel
theorem d_L_add_14 : decode b_L_add 14 = .ok (.aload_n 0, 1) := by decide +kernel
theorem d_L_add_15 : decode b_L_add 15 = .ok (.getfield 22, 3) := by decide +kernel
theorem d_L_add_18 : decode b_L_add 18 = .ok (.lload_n 1, 1) := by decide +kernel
theorem d_L_add_19 : decode b_L_add 19 = .ok (.lastore, 1) := by decide +kernel
theorem d_L_add_20 : decode b_L_add 20 = .ok (.aload_n 0, 1) := by decide +kernel
theorem d_L_add_21 : decode b_L_add 21 = .ok (.getfield 15, 3) := by decide +kernel
theorem d_L_add_24 : decode b_L_add 24 = .ok (.aload_n 0, 1) := by decide +kernel
theorem d_L_add_25 : decode b_L_add 25 = .ok (.getfield 22, 3) := by decide +kernel
theorem d_L_add_28 : decode b_L_add 28 = .ok (.iload_n 3, 1) := by decide +kernel
theorem d_L_add_29 : decode b_L_add 29 = .ok (.iastore, 1) := by decide +kernel
theorem d_L_add_30 : decode b_L_add 30 = .ok (.aload_n 0, 1) := by decide +kernel
theorem d_L_add_31 : decode b_L_add 31 = .ok (.getfield 19, 3) := by decide +kernel
theorem d_L_add_34 : decode b_L_add 34 = .ok (.aload_n 0, 1) := by decide +kernel
theorem d_L_add_35 : decode b_L_add 35 = .ok (.getfield 22, 3) := by decide +kernel
theorem d_L_add_38 : decode b_L_add 38 = .ok (.lload 4, 2) := by decide +kernel
theorem d_L_add_40 : decode b_L_add 40 = .ok (.lastore, 1) := by decide +kernel
theorem d_L_add_41 : decode b_L_add 41 = .ok (.aload_n 0, 1) := by decide +kernel
theorem d_L_add_42 : decode b_L_add 42 = .ok (.dup, 1) := by decide +kernel
theorem d_L_add_43 : decode b_L_add 43 = .ok (.getfield 22, 3) := by decide +kernel
theorem d_L_add_46 : decode b_L_add 46 = .ok (.iconst 1, 1) := by decide +kernel
theorem d_L_add_47 : decode b_L_add 47 = .ok (.iadd, 1) := by decide +kernel
theorem d_L_add_48 : decode b_L_add 48 = .ok (.putfield 22, 3) := by decide +kernel
theorem d_L_add_51 : decode b_L_add 51 = .ok (.aload_n 0, 1) := by decide +kernel
theorem d_L_add_52 : decode b_L_add 52 = .ok (.dup, 1) := by decide +kernel
theorem d_L_add_53 : decode b_L_add 53 = .ok (.getfield 26, 3) := by decide +kernel
theorem d_L_add_56 : decode b_L_add 56 = .ok (.lconst 1, 1) := by decide +kernel
theorem d_L_add_57 : decode b_L_add 57 = .ok (.ladd, 1) := by decide +kernel
theorem d_L_add_58 : decode b_L_add 58 = .ok (.putfield 26, 3) := by decide +kernel
theorem d_L_add_61 : decode b_L_add 61 = .ok (.return_, 1) := by decide +kernel
theorem ci_L_add : jm_ci jm_G y_L_add (Cond.code y_L_add b_L_add 6 (none)) 6 3 := ⟨jm_g5 23 rfl rfl, Or.inl ⟨_, _, rfl⟩, jm_g1 8 rfl rfl, ⟨by decide, by decide⟩, by decide +kernel⟩
theorem im_L_add : Cond.instanceMethod y_L_add ∈ jm_G := jm_g5 21 rfl rfl
theorem se_L_add : Cond.selects y_L_add.cls y_L_add y_L_add ∈ jm_G := jm_g5 22 rfl rfl
def y_Y_init : MethodName := ⟨"JobHouse$YearRule", "<init>", "()V"⟩
abbrev b_Y_init : ByteArray := prog_10_method_1_code
theorem d_Y_init_0 : decode b_Y_init 0 = .ok (.aload_n 0, 1) := by decide +kernel
theorem d_Y_init_1 : decode b_Y_init 1 = .ok (.invokespecial 3, 3) := by decide +kernel
theorem d_Y_init_4 : decode b_Y_init 4 = .ok (.return_, 1) := by decide +kernel
theorem ci_Y_init : jm_ci jm_G y_Y_init (Cond.code y_Y_init b_Y_init 1 (none)) 1 0 := ⟨jm_g1 118 rfl rfl, Or.inl ⟨_, _, rfl⟩, jm_g1 7 rfl rfl, ⟨by decide, by decide⟩, by decide +kernel⟩
theorem im_Y_init : Cond.instanceMethod y_Y_init ∈ jm_G := jm_g1 117 rfl rfl
def y_Y_readFrom : MethodName := ⟨"JobHouse$YearRule", "readFrom", "(LJobHouse$Text;)V"⟩
abbrev b_Y_readFrom : ByteArray := prog_10_method_2_code
theorem d_Y_readFrom_0 : decode b_Y_readFrom 0 = .ok (.aload_n 1, 1) := by decide +kernel
theorem d_Y_readFrom_1 : decode b_Y_readFrom 1 = .ok (.bipush 77, 2) := by decide +kernel
theorem d_Y_readFrom_3 : decode b_Y_readFrom 3 = .ok (.invokevirtual 9, 3) := by decide +kernel
theorem d_Y_readFrom_6 : decode b_Y_readFrom 6 = .ok (.aload_n 0, 1) := by decide +kernel
theorem d_Y_readFrom_7 : decode b_Y_readFrom 7 = .ok (.aload_n 1, 1) := by decide +kernel
theorem d_Y_readFrom_8 : decode b_Y_readFrom 8 = .ok (.iconst 1, 1) := by decide +kernel
theorem d_Y_readFrom_9 : decode b_Y_readFrom 9 = .ok (.bipush 12, 2) := by decide +kernel
theorem d_Y_readFrom_11 : decode b_Y_readFrom 11 = .ok (.invokevirtual 15, 3) := by decide +kernel
theorem d_Y_readFrom_14 : decode b_Y_readFrom 14 = .ok (.putfield 19, 3) := by decide +kernel
theorem d_Y_readFrom_17 : decode b_Y_readFrom 17 = .ok (.aload_n 1, 1) := by decide +kernel
theorem d_Y_readFrom_18 : decode b_Y_readFrom 18 = .ok (.bipush 46, 2) := by decide +kernel
theorem d_Y_readFrom_20 : decode b_Y_readFrom 20 = .ok (.invokevirtual 9, 3) := by decide +kernel
theorem d_Y_readFrom_23 : decode b_Y_readFrom 23 = .ok (.aload_n 0, 1) := by decide +kernel
theorem d_Y_readFrom_24 : decode b_Y_readFrom 24 = .ok (.aload_n 1, 1) := by decide +kernel
theorem d_Y_readFrom_25 : decode b_Y_readFrom 25 = .ok (.iconst 1, 1) := by decide +kernel
theorem d_Y_readFrom_26 : decode b_Y_readFrom 26 = .ok (.iconst 5, 1) := by decide +kernel
theorem d_Y_readFrom_27 : decode b_Y_readFrom 27 = .ok (.invokevirtual 15, 3) := by decide +kernel
theorem d_Y_readFrom_30 : decode b_Y_readFrom 30 = .ok (.putfield 25, 3) := by decide +kernel
theorem d_Y_readFrom_33 : decode b_Y_readFrom 33 = .ok (.aload_n 1, 1) := by decide +kernel
theorem d_Y_readFrom_34 : decode b_Y_readFrom 34 = .ok (.bipush 46, 2) := by decide +kernel
theorem d_Y_readFrom_36 : decode b_Y_readFrom 36 = .ok (.invokevirtual 9, 3) := by decide +kernel
theorem d_Y_readFrom_39 : decode b_Y_readFrom 39 = .ok (.aload_n 0, 1) := by decide +kernel
theorem d_Y_readFrom_40 : decode b_Y_readFrom 40 = .ok (.aload_n 1, 1) := by decide +kernel
theorem d_Y_readFrom_41 : decode b_Y_readFrom 41 = .ok (.iconst 0, 1) := by decide +kernel
theorem d_Y_readFrom_42 : decode b_Y_readFrom 42 = .ok (.bipush 6, 2) := by decide +kernel
theorem d_Y_readFrom_44 : decode b_Y_readFrom 44 = .ok (.invokevirtual 15, 3) := by decide +kernel
theorem d_Y_readFrom_47 : decode b_Y_readFrom 47 = .ok (.putfield 28, 3) := by decide +kernel
theorem d_Y_readFrom_50 : decode b_Y_readFrom 50 = .ok (.aload_n 1, 1) := by decide +kernel
theorem d_Y_readFrom_51 : decode b_Y_readFrom 51 = .ok (.bipush 47, 2) := by decide +kernel
theorem d_Y_readFrom_53 : decode b_Y_readFrom 53 = .ok (.invokevirtual 9, 3) := by decide +kernel
theorem d_Y_readFrom_56 : decode b_Y_readFrom 56 = .ok (.aload_n 0, 1) := by decide +kernel
theorem d_Y_readFrom_57 : decode b_Y_readFrom 57 = .ok (.aload_n 1, 1) := by decide +kernel
theorem d_Y_readFrom_58 : decode b_Y_readFrom 58 = .ok (.iconst 0, 1) := by decide +kernel
theorem d_Y_readFrom_59 : decode b_Y_readFrom 59 = .ok (.sipush 1439, 3) := by decide +kernel
theorem d_Y_readFrom_62 : decode b_Y_readFrom 62 = .ok (.invokevirtual 15, 3) := by decide +kernel
theorem d_Y_readFrom_65 : decode b_Y_readFrom 65 = .ok (.putfield 31, 3) := by decide +kernel
theorem d_Y_readFrom_68 : decode b_Y_readFrom 68 = .ok (.return_, 1) := by decide +kernel
theorem ci_Y_readFrom : jm_ci jm_G y_Y_readFrom (Cond.code y_Y_readFrom b_Y_readFrom 2 (none)) 2 1 := ⟨jm_g2 239 rfl rfl, Or.inl ⟨_, _, rfl⟩, jm_g1 7 rfl rfl, ⟨by decide, by decide⟩, by decide +kernel⟩
theorem im_Y_readFrom : Cond.instanceMethod y_Y_readFrom ∈ jm_G := jm_g2 237 rfl rfl
theorem se_Y_readFrom : Cond.selects y_Y_readFrom.cls y_Y_readFrom y_Y_readFrom ∈ jm_G := jm_g2 238 rfl rfl
def y_Y_secondIn : MethodName := ⟨"JobHouse$YearRule", "secondIn", "(I)J"⟩
abbrev b_Y_secondIn : ByteArray := prog_10_method_3_code
theorem d_Y_secondIn_0 : decode b_Y_secondIn 0 = .ok (.iload_n 1, 1) := by decide +kernel
theorem d_Y_secondIn_1 : decode b_Y_secondIn 1 = .ok (.aload_n 0, 1) := by decide +kernel
theorem d_Y_secondIn_2 : decode b_Y_secondIn 2 = .ok (.getfield 19, 3) := by decide +kernel
theorem d_Y_secondIn_5 : decode b_Y_secondIn 5 = .ok (.invokestatic 34, 3) := by decide +kernel
theorem d_Y_secondIn_8 : decode b_Y_secondIn 8 = .ok (.istore_n 2, 1) := by decide +kernel
theorem d_Y_secondIn_9 : decode b_Y_secondIn 9 = .ok (.aload_n 0, 1) := by decide +kernel
theorem d_Y_secondIn_10 : decode b_Y_secondIn 10 = .ok (.getfield 28, 3) := by decide +kernel
theorem d_Y_secondIn_13 : decode b_Y_secondIn 13 = .ok (.iconst 1, 1) := by decide +kernel
theorem d_Y_secondIn_14 : decode b_Y_secondIn 14 = .ok (.iadd, 1) := by decide +kernel
theorem d_Y_secondIn_15 : decode b_Y_secondIn 15 = .ok (.iload_n 2, 1) := by decide +kernel
theorem d_Y_secondIn_16 : decode b_Y_secondIn 16 = .ok (.invokestatic 39, 3) := by decide +kernel
theorem d_Y_secondIn_19 : decode b_Y_secondIn 19 = .ok (.isub, 1) := by decide +kernel
theorem d_Y_secondIn_20 : decode b_Y_secondIn 20 = .ok (.bipush 7, 2) := by decide +kernel
theorem d_Y_secondIn_22 : decode b_Y_secondIn 22 = .ok (.invokestatic 43, 3) := by decide +kernel
theorem d_Y_secondIn_25 : decode b_Y_secondIn 25 = .ok (.istore_n 3, 1) := by decide +kernel
theorem d_Y_secondIn_26 : decode b_Y_secondIn 26 = .ok (.iload_n 3, 1) := by decide +kernel
theorem d_Y_secondIn_27 : decode b_Y_secondIn 27 = .ok (.bipush 7, 2) := by decide +kernel
theorem d_Y_secondIn_29 : decode b_Y_secondIn 29 = .ok (.aload_n 0, 1) := by decide +kernel
theorem d_Y_secondIn_30 : decode b_Y_secondIn 30 = .ok (.getfield 25, 3) := by decide +kernel
theorem d_Y_secondIn_33 : decode b_Y_secondIn 33 = .ok (.iconst 1, 1) := by decide +kernel
theorem d_Y_secondIn_34 : decode b_Y_secondIn 34 = .ok (.isub, 1) := by decide +kernel
theorem d_Y_secondIn_35 : decode b_Y_secondIn 35 = .ok (.imul, 1) := by decide +kernel
theorem d_Y_secondIn_36 : decode b_Y_secondIn 36 = .ok (.iadd, 1) := by decide +kernel
theorem d_Y_secondIn_37 : decode b_Y_secondIn 37 = .ok (.istore 4, 2) := by decide +kernel
theorem d_Y_secondIn_39 : decode b_Y_secondIn 39 = .ok (.iload 4, 2) := by decide +kernel
theorem d_Y_secondIn_41 : decode b_Y_secondIn 41 = .ok (.iload_n 1, 1) := by decide +kernel
theorem d_Y_secondIn_42 : decode b_Y_secondIn 42 = .ok (.aload_n 0, 1) := by decide +kernel
theorem d_Y_secondIn_43 : decode b_Y_secondIn 43 = .ok (.getfield 19, 3) := by decide +kernel
theorem d_Y_secondIn_46 : decode b_Y_secondIn 46 = .ok (.invokestatic 48, 3) := by decide +kernel
theorem d_Y_secondIn_49 : decode b_Y_secondIn 49 = .ok (.if_icmp .lt 6, 3) := by decide +kernel
theorem d_Y_secondIn_52 : decode b_Y_secondIn 52 = .ok (.iinc 4 (-7), 3) := by decide +kernel
theorem d_Y_secondIn_55 : decode b_Y_secondIn 55 = .ok (.iload_n 2, 1) := by decide +kernel
theorem d_Y_secondIn_56 : decode b_Y_secondIn 56 = .ok (.iload 4, 2) := by decide +kernel
theorem d_Y_secondIn_58 : decode b_Y_secondIn 58 = .ok (.iadd, 1) := by decide +kernel
theorem d_Y_secondIn_59 : decode b_Y_secondIn 59 = .ok (.i2l, 1) := by decide +kernel
theorem d_Y_secondIn_60 : decode b_Y_secondIn 60 = .ok (.ldc2_w 51, 3) := by decide +kernel
theorem d_Y_secondIn_63 : decode b_Y_secondIn 63 = .ok (.lmul, 1) := by decide +kernel
theorem d_Y_secondIn_64 : decode b_Y_secondIn 64 = .ok (.aload_n 0, 1) := by decide +kernel
theorem d_Y_secondIn_65 : decode b_Y_secondIn 65 = .ok (.getfield 31, 3) := by decide +kernel
theorem d_Y_secondIn_68 : decode b_Y_secondIn 68 = .ok (.bipush 60, 2) := by decide +kernel
theorem d_Y_secondIn_70 : decode b_Y_secondIn 70 = .ok (.imul, 1) := by decide +kernel
theorem d_Y_secondIn_71 : decode b_Y_secondIn 71 = .ok (.i2l, 1) := by decide +kernel
theorem d_Y_secondIn_72 : decode b_Y_secondIn 72 = .ok (.ladd, 1) := by decide +kernel
theorem d_Y_secondIn_73 : decode b_Y_secondIn 73 = .ok (.lreturn, 1) := by decide +kernel
theorem ci_Y_secondIn : jm_ci jm_G y_Y_secondIn (Cond.code y_Y_secondIn b_Y_secondIn 5 (some FieldType.long)) 5 1 := ⟨jm_g3 221 rfl rfl, Or.inl ⟨_, _, rfl⟩, jm_g1 7 rfl rfl, ⟨by decide, by decide⟩, by decide +kernel⟩
theorem im_Y_secondIn : Cond.instanceMethod y_Y_secondIn ∈ jm_G := jm_g3 219 rfl rfl
theorem se_Y_secondIn : Cond.selects y_Y_secondIn.cls y_Y_secondIn y_Y_secondIn ∈ jm_G := jm_g3 220 rfl rfl
def y_Y_latestUpTo : MethodName := ⟨"JobHouse$YearRule", "latestUpTo", "(JII)J"⟩
abbrev b_Y_latestUpTo : ByteArray := prog_10_method_4_code
theorem d_Y_latestUpTo_0 : decode b_Y_latestUpTo 0 = .ok (.iload 4, 2) := by decide +kernel
theorem d_Y_latestUpTo_2 : decode b_Y_latestUpTo 2 = .ok (.sipush 2299, 3) := by decide +kernel
theorem d_Y_latestUpTo_5 : decode b_Y_latestUpTo 5 = .ok (.invokestatic 53, 3) := by decide +kernel
theorem d_Y_latestUpTo_8 : decode b_Y_latestUpTo 8 = .ok (.istore 5, 2) := by decide +kernel
theorem d_Y_latestUpTo_10 : decode b_Y_latestUpTo 10 = .ok (.iload 5, 2) := by decide +kernel
theorem d_Y_latestUpTo_12 : decode b_Y_latestUpTo 12 = .ok (.sipush 1970, 3) := by decide +kernel
theorem d_Y_latestUpTo_15 : decode b_Y_latestUpTo 15 = .ok (.if_icmp .lt 20, 3) := by decide +kernel
theorem d_Y_latestUpTo_18 : decode b_Y_latestUpTo 18 = .ok (.aload_n 0, 1) := by decide +kernel
theorem d_Y_latestUpTo_19 : decode b_Y_latestUpTo 19 = .ok (.iload 5, 2) := by decide +kernel
theorem d_Y_latestUpTo_21 : decode b_Y_latestUpTo 21 = .ok (.invokevirtual 56, 3) := by decide +kernel
theorem d_Y_latestUpTo_24 : decode b_Y_latestUpTo 24 = .ok (.iload_n 3, 1) := by decide +kernel
theorem d_Y_latestUpTo_25 : decode b_Y_latestUpTo 25 = .ok (.i2l, 1) := by decide +kernel
theorem d_Y_latestUpTo_26 : decode b_Y_latestUpTo 26 = .ok (.lsub, 1) := by decide +kernel
theorem d_Y_latestUpTo_27 : decode b_Y_latestUpTo 27 = .ok (.lload_n 1, 1) := by decide +kernel
theorem d_Y_latestUpTo_28 : decode b_Y_latestUpTo 28 = .ok (.lcmp, 1) := by decide +kernel
theorem d_Y_latestUpTo_29 : decode b_Y_latestUpTo 29 = .ok (.ifCond .le 6, 3) := by decide +kernel
theorem d_Y_latestUpTo_32 : decode b_Y_latestUpTo 32 = .ok (.iinc 5 (-1), 3) := by decide +kernel
theorem d_Y_latestUpTo_35 : decode b_Y_latestUpTo 35 = .ok (.iload 5, 2) := by decide +kernel
theorem d_Y_latestUpTo_37 : decode b_Y_latestUpTo 37 = .ok (.sipush 1970, 3) := by decide +kernel
theorem d_Y_latestUpTo_40 : decode b_Y_latestUpTo 40 = .ok (.if_icmp .ge 9, 3) := by decide +kernel
theorem d_Y_latestUpTo_43 : decode b_Y_latestUpTo 43 = .ok (.ldc2_w 60, 3) := by decide +kernel
theorem d_Y_latestUpTo_46 : decode b_Y_latestUpTo 46 = .ok (.goto 12, 3) := by decide +kernel
theorem d_Y_latestUpTo_49 : decode b_Y_latestUpTo 49 = .ok (.aload_n 0, 1) := by decide +kernel
theorem d_Y_latestUpTo_50 : decode b_Y_latestUpTo 50 = .ok (.iload 5, 2) := by decide +kernel
theorem d_Y_latestUpTo_52 : decode b_Y_latestUpTo 52 = .ok (.invokevirtual 56, 3) := by decide +kernel
theorem d_Y_latestUpTo_55 : decode b_Y_latestUpTo 55 = .ok (.iload_n 3, 1) := by decide +kernel
theorem d_Y_latestUpTo_56 : decode b_Y_latestUpTo 56 = .ok (.i2l, 1) := by decide +kernel
theorem d_Y_latestUpTo_57 : decode b_Y_latestUpTo 57 = .ok (.lsub, 1) := by decide +kernel
theorem d_Y_latestUpTo_58 : decode b_Y_latestUpTo 58 = .ok (.lreturn, 1) := by decide +kernel
theorem ci_Y_latestUpTo : jm_ci jm_G y_Y_latestUpTo (Cond.code y_Y_latestUpTo b_Y_latestUpTo 6 (some FieldType.long)) 6 3 := ⟨jm_g3 216 rfl rfl, Or.inl ⟨_, _, rfl⟩, jm_g1 7 rfl rfl, ⟨by decide, by decide⟩, by decide +kernel⟩
theorem im_Y_latestUpTo : Cond.instanceMethod y_Y_latestUpTo ∈ jm_G := jm_g3 214 rfl rfl
theorem se_Y_latestUpTo : Cond.selects y_Y_latestUpTo.cls y_Y_latestUpTo y_Y_latestUpTo ∈ jm_G := jm_g3 215 rfl rfl
def y_Y_firstBehind : MethodName := ⟨"JobHouse$YearRule", "firstBehind", "(JII)J"⟩
abbrev b_Y_firstBehind : ByteArray := prog_10_method_5_code
theorem d_Y_firstBehind_0 : decode b_Y_firstBehind 0 = .ok (.iload 4, 2) := by decide +kernel
theorem d_Y_firstBehind_2 : decode b_Y_firstBehind 2 = .ok (.sipush 1970, 3) := by decide +kernel
theorem d_Y_firstBehind_5 : decode b_Y_firstBehind 5 = .ok (.invokestatic 62, 3) := by decide +kernel
theorem d_Y_firstBehind_8 : decode b_Y_firstBehind 8 = .ok (.istore 5, 2) := by decide +kernel
theorem d_Y_firstBehind_10 : decode b_Y_firstBehind 10 = .ok (.iload 5, 2) := by decide +kernel
theorem d_Y_firstBehind_12 : decode b_Y_firstBehind 12 = .ok (.sipush 2299, 3) := by decide +kernel
theorem d_Y_firstBehind_15 : decode b_Y_firstBehind 15 = .ok (.if_icmp .gt 20, 3) := by decide +kernel
theorem d_Y_firstBehind_18 : decode b_Y_firstBehind 18 = .ok (.aload_n 0, 1) := by decide +kernel
theorem d_Y_firstBehind_19 : decode b_Y_firstBehind 19 = .ok (.iload 5, 2) := by decide +kernel
theorem d_Y_firstBehind_21 : decode b_Y_firstBehind 21 = .ok (.invokevirtual 56, 3) := by decide +kernel
theorem d_Y_firstBehind_24 : decode b_Y_firstBehind 24 = .ok (.iload_n 3, 1) := by decide +kernel
theorem d_Y_firstBehind_25 : decode b_Y_firstBehind 25 = .ok (.i2l, 1) := by decide +kernel
theorem d_Y_firstBehind_26 : decode b_Y_firstBehind 26 = .ok (.lsub, 1) := by decide +kernel
theorem d_Y_firstBehind_27 : decode b_Y_firstBehind 27 = .ok (.lload_n 1, 1) := by decide +kernel
theorem d_Y_firstBehind_28 : decode b_Y_firstBehind 28 = .ok (.lcmp, 1) := by decide +kernel
theorem d_Y_firstBehind_29 : decode b_Y_firstBehind 29 = .ok (.ifCond .gt 6, 3) := by decide +kernel
theorem d_Y_firstBehind_32 : decode b_Y_firstBehind 32 = .ok (.iinc 5 1, 3) := by decide +kernel
theorem d_Y_firstBehind_35 : decode b_Y_firstBehind 35 = .ok (.iload 5, 2) := by decide +kernel
theorem d_Y_firstBehind_37 : decode b_Y_firstBehind 37 = .ok (.sipush 2299, 3) := by decide +kernel
theorem d_Y_firstBehind_40 : decode b_Y_firstBehind 40 = .ok (.if_icmp .le 9, 3) := by decide +kernel
theorem d_Y_firstBehind_43 : decode b_Y_firstBehind 43 = .ok (.ldc2_w 65, 3) := by decide +kernel
theorem d_Y_firstBehind_46 : decode b_Y_firstBehind 46 = .ok (.goto 12, 3) := by decide +kernel
theorem d_Y_firstBehind_49 : decode b_Y_firstBehind 49 = .ok (.aload_n 0, 1) := by decide +kernel
theorem d_Y_firstBehind_50 : decode b_Y_firstBehind 50 = .ok (.iload 5, 2) := by decide +kernel
theorem d_Y_firstBehind_52 : decode b_Y_firstBehind 52 = .ok (.invokevirtual 56, 3) := by decide +kernel
theorem d_Y_firstBehind_55 : decode b_Y_firstBehind 55 = .ok (.iload_n 3, 1) := by decide +kernel
theorem d_Y_firstBehind_56 : decode b_Y_firstBehind 56 = .ok (.i2l, 1) := by decide +kernel
theorem d_Y_firstBehind_57 : decode b_Y_firstBehind 57 = .ok (.lsub, 1) := by decide +kernel
theorem d_Y_firstBehind_58 : decode b_Y_firstBehind 58 = .ok (.lreturn, 1) := by decide +kernel
theorem ci_Y_firstBehind : jm_ci jm_G y_Y_firstBehind (Cond.code y_Y_firstBehind b_Y_firstBehind 6 (some FieldType.long)) 6 3 := ⟨jm_g3 237 rfl rfl, Or.inl ⟨_, _, rfl⟩, jm_g1 7 rfl rfl, ⟨by decide, by decide⟩, by decide +kernel⟩
theorem im_Y_firstBehind : Cond.instanceMethod y_Y_firstBehind ∈ jm_G := jm_g3 235 rfl rfl
theorem se_Y_firstBehind : Cond.selects y_Y_firstBehind.cls y_Y_firstBehind y_Y_firstBehind ∈ jm_G := jm_g3 236 rfl rfl
def y_Z_init : MethodName := ⟨"JobHouse$Zone", "<init>", "()V"⟩
abbrev b_Z_init : ByteArray := prog_11_method_1_code
theorem d_Z_init_0 : decode b_Z_init 0 = .ok (.aload_n 0, 1) := by decide +kernel
theorem d_Z_init_1 : decode b_Z_init 1 = .ok (.invokespecial 3, 3) := by decide +kernel
theorem d_Z_init_4 : decode b_Z_init 4 = .ok (.aload_n 0, 1) := by decide +kernel
theorem d_Z_init_5 : decode b_Z_init 5 = .ok (.new 9, 3) := by decide +kernel
theorem d_Z_init_8 : decode b_Z_init 8 = .ok (.dup, 1) := by decide +kernel
theorem d_Z_init_9 : decode b_Z_init 9 = .ok (.invokespecial 11, 3) := by decide +kernel
theorem d_Z_init_12 : decode b_Z_init 12 = .ok (.putfield 12, 3) := by decide +kernel
theorem d_Z_init_15 : decode b_Z_init 15 = .ok (.aload_n 0, 1) := by decide +kernel
theorem d_Z_init_16 : decode b_Z_init 16 = .ok (.new 9, 3) := by decide +kernel
theorem d_Z_init_19 : decode b_Z_init 19 = .ok (.dup, 1) := by decide +kernel
theorem d_Z_init_20 : decode b_Z_init 20 = .ok (.invokespecial 11, 3) := by decide +kernel
theorem d_Z_init_23 : decode b_Z_init 23 = .ok (.putfield 18, 3) := by decide +kernel
theorem d_Z_init_26 : decode b_Z_init 26 = .ok (.aload_n 0, 1) := by decide +kernel
theorem d_Z_init_27 : decode b_Z_init 27 = .ok (.ldc2_w 21, 3) := by decide +kernel
theorem d_Z_init_30 : decode b_Z_init 30 = .ok (.putfield 23, 3) := by decide +kernel
theorem d_Z_init_33 : decode b_Z_init 33 = .ok (.return_, 1) := by decide +kernel
theorem ci_Z_init : jm_ci jm_G y_Z_init (Cond.code y_Z_init b_Z_init 1 (none)) 1 0 := ⟨jm_g1 112 rfl rfl, Or.inl ⟨_, _, rfl⟩, jm_g1 6 rfl rfl, ⟨by decide, by decide⟩, by decide +kernel⟩
theorem im_Z_init : Cond.instanceMethod y_Z_init ∈ jm_G := jm_g1 111 rfl rfl
def y_Z_readFrom : MethodName := ⟨"JobHouse$Zone", "readFrom", "(LJobHouse$Text;)V"⟩
abbrev b_Z_readFrom : ByteArray := prog_11_method_2_code
theorem d_Z_readFrom_0 : decode b_Z_readFrom 0 = .ok (.aload_n 0, 1) := by decide +kernel
theorem d_Z_readFrom_1 : decode b_Z_readFrom 1 = .ok (.ldc2_w 21, 3) := by decide +kernel
theorem d_Z_readFrom_4 : decode b_Z_readFrom 4 = .ok (.putfield 23, 3) := by decide +kernel
theorem d_Z_readFrom_7 : decode b_Z_readFrom 7 = .ok (.aload_n 0, 1) := by decide +kernel
theorem d_Z_readFrom_8 : decode b_Z_readFrom 8 = .ok (.iconst 0, 1) := by decide +kernel
theorem d_Z_readFrom_9 : decode b_Z_readFrom 9 = .ok (.putfield 27, 3) := by decide +kernel
theorem d_Z_readFrom_12 : decode b_Z_readFrom 12 = .ok (.aload_n 1, 1) := by decide +kernel
theorem d_Z_readFrom_13 : decode b_Z_readFrom 13 = .ok (.bipush 45, 2) := by decide +kernel
theorem d_Z_readFrom_15 : decode b_Z_readFrom 15 = .ok (.invokevirtual 31, 3) := by decide +kernel
theorem d_Z_readFrom_18 : decode b_Z_readFrom 18 = .ok (.istore_n 2, 1) := by decide +kernel
theorem d_Z_readFrom_19 : decode b_Z_readFrom 19 = .ok (.iload_n 2, 1) := by decide +kernel
theorem d_Z_readFrom_20 : decode b_Z_readFrom 20 = .ok (.ifCond .ne 9, 3) := by decide +kernel
theorem d_Z_readFrom_23 : decode b_Z_readFrom 23 = .ok (.aload_n 1, 1) := by decide +kernel
theorem d_Z_readFrom_24 : decode b_Z_readFrom 24 = .ok (.bipush 43, 2) := by decide +kernel
theorem d_Z_readFrom_26 : decode b_Z_readFrom 26 = .ok (.invokevirtual 37, 3) := by decide +kernel
theorem d_Z_readFrom_29 : decode b_Z_readFrom 29 = .ok (.aload_n 1, 1) := by decide +kernel
theorem d_Z_readFrom_30 : decode b_Z_readFrom 30 = .ok (.iconst 0, 1) := by decide +kernel
theorem d_Z_readFrom_31 : decode b_Z_readFrom 31 = .ok (.sipush 840, 3) := by decide +kernel
theorem d_Z_readFrom_34 : decode b_Z_readFrom 34 = .ok (.invokevirtual 41, 3) := by decide +kernel
theorem d_Z_readFrom_37 : decode b_Z_readFrom 37 = .ok (.istore_n 3, 1) := by decide +kernel
theorem d_Z_readFrom_38 : decode b_Z_readFrom 38 = .ok (.aload_n 0, 1) := by decide +kernel
theorem d_Z_readFrom_39 : decode b_Z_readFrom 39 = .ok (.iload_n 2, 1) := by decide +kernel
theorem d_Z_readFrom_40 : decode b_Z_readFrom 40 = .ok (.ifCond .eq 8, 3) := by decide +kernel
theorem d_Z_readFrom_43 : decode b_Z_readFrom 43 = .ok (.iload_n 3, 1) := by decide +kernel
theorem d_Z_readFrom_44 : decode b_Z_readFrom 44 = .ok (.ineg, 1) := by decide +kernel
theorem d_Z_readFrom_45 : decode b_Z_readFrom 45 = .ok (.goto 4, 3) := by decide +kernel
theorem d_Z_readFrom_48 : decode b_Z_readFrom 48 = .ok (.iload_n 3, 1) := by decide +kernel
theorem d_Z_readFrom_49 : decode b_Z_readFrom 49 = .ok (.bipush 60, 2) := by decide +kernel
theorem d_Z_readFrom_51 : decode b_Z_readFrom 51 = .ok (.imul, 1) := by decide +kernel
theorem d_Z_readFrom_52 : decode b_Z_readFrom 52 = .ok (.putfield 45, 3) := by decide +kernel
theorem d_Z_readFrom_55 : decode b_Z_readFrom 55 = .ok (.aload_n 1, 1) := by decide +kernel
theorem d_Z_readFrom_56 : decode b_Z_readFrom 56 = .ok (.invokevirtual 48, 3) := by decide +kernel
theorem d_Z_readFrom_59 : decode b_Z_readFrom 59 = .ok (.ifCond .eq 4, 3) := by decide +kernel
theorem d_Z_readFrom_62 : decode b_Z_readFrom 62 = .ok (.return_, 1) := by decide +kernel
theorem d_Z_readFrom_63 : decode b_Z_readFrom 63 = .ok (.aload_n 1, 1) := by decide +kernel
theorem d_Z_readFrom_64 : decode b_Z_readFrom 64 = .ok (.invokevirtual 52, 3) := by decide +kernel
theorem d_Z_readFrom_67 : decode b_Z_readFrom 67 = .ok (.aload_n 0, 1) := by decide +kernel
theorem d_Z_readFrom_68 : decode b_Z_readFrom 68 = .ok (.aload_n 1, 1) := by decide +kernel
theorem d_Z_readFrom_69 : decode b_Z_readFrom 69 = .ok (.iconst 1, 1) := by decide +kernel
theorem d_Z_readFrom_70 : decode b_Z_readFrom 70 = .ok (.bipush 120, 2) := by decide +kernel
theorem d_Z_readFrom_72 : decode b_Z_readFrom 72 = .ok (.invokevirtual 41, 3) := by decide +kernel
theorem d_Z_readFrom_75 : decode b_Z_readFrom 75 = .ok (.bipush 60, 2) := by decide +kernel
theorem d_Z_readFrom_77 : decode b_Z_readFrom 77 = .ok (.imul, 1) := by decide +kernel
theorem d_Z_readFrom_78 : decode b_Z_readFrom 78 = .ok (.putfield 27, 3) := by decide +kernel
theorem d_Z_readFrom_81 : decode b_Z_readFrom 81 = .ok (.aload_n 1, 1) := by decide +kernel
theorem d_Z_readFrom_82 : decode b_Z_readFrom 82 = .ok (.invokevirtual 52, 3) := by decide +kernel
theorem d_Z_readFrom_85 : decode b_Z_readFrom 85 = .ok (.aload_n 0, 1) := by decide +kernel
theorem d_Z_readFrom_86 : decode b_Z_readFrom 86 = .ok (.getfield 12, 3) := by decide +kernel
theorem d_Z_readFrom_89 : decode b_Z_readFrom 89 = .ok (.aload_n 1, 1) := by decide +kernel
theorem d_Z_readFrom_90 : decode b_Z_readFrom 90 = .ok (.invokevirtual 55, 3) := by decide +kernel
theorem d_Z_readFrom_93 : decode b_Z_readFrom 93 = .ok (.aload_n 1, 1) := by decide +kernel
theorem d_Z_readFrom_94 : decode b_Z_readFrom 94 = .ok (.invokevirtual 52, 3) := by decide +kernel
theorem d_Z_readFrom_97 : decode b_Z_readFrom 97 = .ok (.aload_n 0, 1) := by decide +kernel
theorem d_Z_readFrom_98 : decode b_Z_readFrom 98 = .ok (.getfield 18, 3) := by decide +kernel
theorem d_Z_readFrom_101 : decode b_Z_readFrom 101 = .ok (.aload_n 1, 1) := by decide +kernel
theorem d_Z_readFrom_102 : decode b_Z_readFrom 102 = .ok (.invokevirtual 55, 3) := by decide +kernel
theorem d_Z_readFrom_105 : decode b_Z_readFrom 105 = .ok (.aload_n 1, 1) := by decide +kernel
theorem d_Z_readFrom_106 : decode b_Z_readFrom 106 = .ok (.invokevirtual 59, 3) := by decide +kernel
theorem d_Z_readFrom_109 : decode b_Z_readFrom 109 = .ok (.return_, 1) := by decide +kernel
theorem ci_Z_readFrom : jm_ci jm_G y_Z_readFrom (Cond.code y_Z_readFrom b_Z_readFrom 4 (none)) 4 1 := ⟨jm_g2 198 rfl rfl, Or.inl ⟨_, _, rfl⟩, jm_g1 6 rfl rfl, ⟨by decide, by decide⟩, by decide +kernel⟩
theorem im_Z_readFrom : Cond.instanceMethod y_Z_readFrom ∈ jm_G := jm_g2 196 rfl rfl
theorem se_Z_readFrom : Cond.selects y_Z_readFrom.cls y_Z_readFrom y_Z_readFrom ∈ jm_G := jm_g2 197 rfl rfl
def y_Z_offsetAt : MethodName := ⟨"JobHouse$Zone", "offsetAt", "(J)I"⟩
abbrev b_Z_offsetAt : ByteArray := prog_11_method_3_code
theorem d_Z_offsetAt_0 : decode b_Z_offsetAt 0 = .ok (.lload_n 1, 1) := by decide +kernel
theorem d_Z_offsetAt_1 : decode b_Z_offsetAt 1 = .ok (.aload_n 0, 1) := by decide +kernel
theorem d_Z_offsetAt_2 : decode b_Z_offsetAt 2 = .ok (.getfield 62, 3) := by decide +kernel
theorem d_Z_offsetAt_5 : decode b_Z_offsetAt 5 = .ok (.lcmp, 1) := by decide +kernel
theorem d_Z_offsetAt_6 : decode b_Z_offsetAt 6 = .ok (.ifCond .lt 12, 3) := by decide +kernel
theorem d_Z_offsetAt_9 : decode b_Z_offsetAt 9 = .ok (.lload_n 1, 1) := by decide +kernel
theorem d_Z_offsetAt_10 : decode b_Z_offsetAt 10 = .ok (.aload_n 0, 1) := by decide +kernel
theorem d_Z_offsetAt_11 : decode b_Z_offsetAt 11 = .ok (.getfield 23, 3) := by decide +kernel
theorem d_Z_offsetAt_14 : decode b_Z_offsetAt 14 = .ok (.lcmp, 1) := by decide +kernel
theorem d_Z_offsetAt_15 : decode b_Z_offsetAt 15 = .ok (.ifCond .lt 8, 3) := by decide +kernel
theorem d_Z_offsetAt_18 : decode b_Z_offsetAt 18 = .ok (.aload_n 0, 1) := by decide +kernel
theorem d_Z_offsetAt_19 : decode b_Z_offsetAt 19 = .ok (.lload_n 1, 1) := by decide +kernel
theorem d_Z_offsetAt_20 : decode b_Z_offsetAt 20 = .ok (.invokevirtual 65, 3) := by decide +kernel
theorem d_Z_offsetAt_23 : decode b_Z_offsetAt 23 = .ok (.aload_n 0, 1) := by decide +kernel
theorem d_Z_offsetAt_24 : decode b_Z_offsetAt 24 = .ok (.getfield 69, 3) := by decide +kernel
theorem d_Z_offsetAt_27 : decode b_Z_offsetAt 27 = .ok (.ireturn, 1) := by decide +kernel
theorem ci_Z_offsetAt : jm_ci jm_G y_Z_offsetAt (Cond.code y_Z_offsetAt b_Z_offsetAt 3 (some FieldType.int)) 3 1 := ⟨jm_g3 189 rfl rfl, Or.inl ⟨_, _, rfl⟩, jm_g1 6 rfl rfl, ⟨by decide, by decide⟩, by decide +kernel⟩
theorem im_Z_offsetAt : Cond.instanceMethod y_Z_offsetAt ∈ jm_G := jm_g3 187 rfl rfl
theorem se_Z_offsetAt : Cond.selects y_Z_offsetAt.cls y_Z_offsetAt y_Z_offsetAt ∈ jm_G := jm_g3 188 rfl rfl
def y_Z_findStretch : MethodName := ⟨"JobHouse$Zone", "findStretch", "(J)V"⟩
abbrev b_Z_findStretch : ByteArray := prog_11_method_4_code
theorem d_Z_findStretch_0 : decode b_Z_findStretch 0 = .ok (.aload_n 0, 1) := by decide +kernel
theorem d_Z_findStretch_1 : decode b_Z_findStretch 1 = .ok (.getfield 27, 3) := by decide +kernel
theorem d_Z_findStretch_4 : decode b_Z_findStretch 4 = .ok (.ifCond .ne 26, 3) := by decide +kernel
theorem d_Z_findStretch_7 : decode b_Z_findStretch 7 = .ok (.aload_n 0, 1) := by decide +kernel
theorem d_Z_findStretch_8 : decode b_Z_findStretch 8 = .ok (.ldc2_w 21, 3) := by decide +kernel
theorem d_Z_findStretch_11 : decode b_Z_findStretch 11 = .ok (.putfield 62, 3) := by decide +kernel
theorem d_Z_findStretch_14 : decode b_Z_findStretch 14 = .ok (.aload_n 0, 1) := by decide +kernel
theorem d_Z_findStretch_15 : decode b_Z_findStretch 15 = .ok (.ldc2_w 72, 3) := by decide +kernel
theorem d_Z_findStretch_18 : decode b_Z_findStretch 18 = .ok (.putfield 23, 3) := by decide +kernel
theorem d_Z_findStretch_21 : decode b_Z_findStretch 21 = .ok (.aload_n 0, 1) := by decide +kernel
theorem d_Z_findStretch_22 : decode b_Z_findStretch 22 = .ok (.aload_n 0, 1) := by decide +kernel
theorem d_Z_findStretch_23 : decode b_Z_findStretch 23 = .ok (.getfield 45, 3) := by decide +kernel
theorem d_Z_findStretch_26 : decode b_Z_findStretch 26 = .ok (.putfield 69, 3) := by decide +kernel
theorem d_Z_findStretch_29 : decode b_Z_findStretch 29 = .ok (.return_, 1) := by decide +kernel
theorem d_Z_findStretch_30 : decode b_Z_findStretch 30 = .ok (.aload_n 0, 1) := by decide +kernel
theorem d_Z_findStretch_31 : decode b_Z_findStretch 31 = .ok (.getfield 45, 3) := by decide +kernel
theorem d_Z_findStretch_34 : decode b_Z_findStretch 34 = .ok (.aload_n 0, 1) := by decide +kernel
theorem d_Z_findStretch_35 : decode b_Z_findStretch 35 = .ok (.getfield 27, 3) := by decide +kernel
theorem d_Z_findStretch_38 : decode b_Z_findStretch 38 = .ok (.iadd, 1) := by decide +kernel
theorem d_Z_findStretch_39 : decode b_Z_findStretch 39 = .ok (.istore_n 3, 1) := by decide +kernel
theorem d_Z_findStretch_40 : decode b_Z_findStretch 40 = .ok (.lload_n 1, 1) := by decide +kernel
theorem d_Z_findStretch_41 : decode b_Z_findStretch 41 = .ok (.aload_n 0, 1) := by decide +kernel
theorem d_Z_findStretch_42 : decode b_Z_findStretch 42 = .ok (.getfield 45, 3) := by decide +kernel
theorem d_Z_findStretch_45 : decode b_Z_findStretch 45 = .ok (.i2l, 1) := by decide +kernel
theorem d_Z_findStretch_46 : decode b_Z_findStretch 46 = .ok (.ladd, 1) := by decide +kernel
theorem d_Z_findStretch_47 : decode b_Z_findStretch 47 = .ok (.invokestatic 74, 3) := by decide +kernel
theorem d_Z_findStretch_50 : decode b_Z_findStretch 50 = .ok (.invokestatic 80, 3) := by decide +kernel
theorem d_Z_findStretch_53 : decode b_Z_findStretch 53 = .ok (.istore 4, 2) := by decide +kernel
theorem d_Z_findStretch_55 : decode b_Z_findStretch 55 = .ok (.lload_n 1, 1) := by decide +kernel
theorem d_Z_findStretch_56 : decode b_Z_findStretch 56 = .ok (.iload_n 3, 1) := by decide +kernel
theorem d_Z_findStretch_57 : decode b_Z_findStretch 57 = .ok (.i2l, 1) := by decide +kernel
theorem d_Z_findStretch_58 : decode b_Z_findStretch 58 = .ok (.ladd, 1) := by decide +kernel
theorem d_Z_findStretch_59 : decode b_Z_findStretch 59 = .ok (.invokestatic 74, 3) := by decide +kernel
theorem d_Z_findStretch_62 : decode b_Z_findStretch 62 = .ok (.invokestatic 80, 3) := by decide +kernel
theorem d_Z_findStretch_65 : decode b_Z_findStretch 65 = .ok (.istore 5, 2) := by decide +kernel
theorem d_Z_findStretch_67 : decode b_Z_findStretch 67 = .ok (.aload_n 0, 1) := by decide +kernel
theorem d_Z_findStretch_68 : decode b_Z_findStretch 68 = .ok (.getfield 12, 3) := by decide +kernel
theorem d_Z_findStretch_71 : decode b_Z_findStretch 71 = .ok (.lload_n 1, 1) := by decide +kernel
theorem d_Z_findStretch_72 : decode b_Z_findStretch 72 = .ok (.aload_n 0, 1) := by decide +kernel
theorem d_Z_findStretch_73 : decode b_Z_findStretch 73 = .ok (.getfield 45, 3) := by decide +kernel
theorem d_Z_findStretch_76 : decode b_Z_findStretch 76 = .ok (.iload 4, 2) := by decide +kernel
theorem d_Z_findStretch_78 : decode b_Z_findStretch 78 = .ok (.invokevirtual 84, 3) := by decide +kernel
theorem d_Z_findStretch_81 : decode b_Z_findStretch 81 = .ok (.lstore 6, 2) := by decide +kernel
theorem d_Z_findStretch_83 : decode b_Z_findStretch 83 = .ok (.aload_n 0, 1) := by decide +kernel
theorem d_Z_findStretch_84 : decode b_Z_findStretch 84 = .ok (.getfield 18, 3) := by decide +kernel
theorem d_Z_findStretch_87 : decode b_Z_findStretch 87 = .ok (.lload_n 1, 1) := by decide +kernel
theorem d_Z_findStretch_88 : decode b_Z_findStretch 88 = .ok (.iload_n 3, 1) := by decide +kernel
theorem d_Z_findStretch_89 : decode b_Z_findStretch 89 = .ok (.iload 5, 2) := by decide +kernel
theorem d_Z_findStretch_91 : decode b_Z_findStretch 91 = .ok (.invokevirtual 84, 3) := by decide +kernel
theorem d_Z_findStretch_94 : decode b_Z_findStretch 94 = .ok (.lstore 8, 2) := by decide +kernel
theorem d_Z_findStretch_96 : decode b_Z_findStretch 96 = .ok (.aload_n 0, 1) := by decide +kernel
theorem d_Z_findStretch_97 : decode b_Z_findStretch 97 = .ok (.getfield 12, 3) := by decide +kernel
theorem d_Z_findStretch_100 : decode b_Z_findStretch 100 = .ok (.lload_n 1, 1) := by decide +kernel
theorem d_Z_findStretch_101 : decode b_Z_findStretch 101 = .ok (.aload_n 0, 1) := by decide +kernel
theorem d_Z_findStretch_102 : decode b_Z_findStretch 102 = .ok (.getfield 45, 3) := by decide +kernel
theorem d_Z_findStretch_105 : decode b_Z_findStretch 105 = .ok (.iload 4, 2) := by decide +kernel
theorem d_Z_findStretch_107 : decode b_Z_findStretch 107 = .ok (.invokevirtual 88, 3) := by decide +kernel
theorem d_Z_findStretch_110 : decode b_Z_findStretch 110 = .ok (.lstore 10, 2) := by decide +kernel
theorem d_Z_findStretch_112 : decode b_Z_findStretch 112 = .ok (.aload_n 0, 1) := by decide +kernel
theorem d_Z_findStretch_113 : decode b_Z_findStretch 113 = .ok (.getfield 18, 3) := by decide +kernel
theorem d_Z_findStretch_116 : decode b_Z_findStretch 116 = .ok (.lload_n 1, 1) := by decide +kernel
theorem d_Z_findStretch_117 : decode b_Z_findStretch 117 = .ok (.iload_n 3, 1) := by decide +kernel
theorem d_Z_findStretch_118 : decode b_Z_findStretch 118 = .ok (.iload 5, 2) := by decide +kernel
theorem d_Z_findStretch_120 : decode b_Z_findStretch 120 = .ok (.invokevirtual 88, 3) := by decide +kernel
theorem d_Z_findStretch_123 : decode b_Z_findStretch 123 = .ok (.lstore 12, 2) := by decide +kernel
theorem d_Z_findStretch_125 : decode b_Z_findStretch 125 = .ok (.aload_n 0, 1) := by decide +kernel
theorem d_Z_findStretch_126 : decode b_Z_findStretch 126 = .ok (.lload 6, 2) := by decide +kernel
theorem d_Z_findStretch_128 : decode b_Z_findStretch 128 = .ok (.lload 8, 2) := by decide +kernel
theorem d_Z_findStretch_130 : decode b_Z_findStretch 130 = .ok (.invokestatic 91, 3) := by decide +kernel
theorem d_Z_findStretch_133 : decode b_Z_findStretch 133 = .ok (.putfield 62, 3) := by decide +kernel
theorem d_Z_findStretch_136 : decode b_Z_findStretch 136 = .ok (.aload_n 0, 1) := by decide +kernel
theorem d_Z_findStretch_137 : decode b_Z_findStretch 137 = .ok (.lload 10, 2) := by decide +kernel
theorem d_Z_findStretch_139 : decode b_Z_findStretch 139 = .ok (.lload 12, 2) := by decide +kernel
theorem d_Z_findStretch_141 : decode b_Z_findStretch 141 = .ok (.invokestatic 97, 3) := by decide +kernel
theorem d_Z_findStretch_144 : decode b_Z_findStretch 144 = .ok (.putfield 23, 3) := by decide +kernel
theorem d_Z_findStretch_147 : decode b_Z_findStretch 147 = .ok (.aload_n 0, 1) := by decide +kernel
theorem d_Z_findStretch_148 : decode b_Z_findStretch 148 = .ok (.lload 6, 2) := by decide +kernel
theorem d_Z_findStretch_150 : decode b_Z_findStretch 150 = .ok (.lload 8, 2) := by decide +kernel
theorem d_Z_findStretch_152 : decode b_Z_findStretch 152 = .ok (.lcmp, 1) := by decide +kernel
theorem d_Z_findStretch_153 : decode b_Z_findStretch 153 = .ok (.ifCond .le 7, 3) := by decide +kernel
theorem d_Z_findStretch_156 : decode b_Z_findStretch 156 = .ok (.iload_n 3, 1) := by decide +kernel
theorem d_Z_findStretch_157 : decode b_Z_findStretch 157 = .ok (.goto 7, 3) := by decide +kernel
theorem d_Z_findStretch_160 : decode b_Z_findStretch 160 = .ok (.aload_n 0, 1) := by decide +kernel
theorem d_Z_findStretch_161 : decode b_Z_findStretch 161 = .ok (.getfield 45, 3) := by decide +kernel
theorem d_Z_findStretch_164 : decode b_Z_findStretch 164 = .ok (.putfield 69, 3) := by decide +kernel
theorem d_Z_findStretch_167 : decode b_Z_findStretch 167 = .ok (.return_, 1) := by decide +kernel
theorem ci_Z_findStretch : jm_ci jm_G y_Z_findStretch (Cond.code y_Z_findStretch b_Z_findStretch 14 (none)) 14 1 := ⟨jm_g3 193 rfl rfl, Or.inl ⟨_, _, rfl⟩, jm_g1 6 rfl rfl, ⟨by decide, by decide⟩, by decide +kernel⟩
theorem im_Z_findStretch : Cond.instanceMethod y_Z_findStretch ∈ jm_G := jm_g3 192 rfl rfl
theorem se_Z_findStretch : Cond.selects y_Z_findStretch.cls y_Z_findStretch y_Z_findStretch ∈ jm_G := jm_g0 3 rfl rfl
