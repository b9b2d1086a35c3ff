def y_H_init : MethodName := ⟨"JobHouse$Holidays", "<init>", "(I)V"⟩
abbrev b_H_init : ByteArray := prog_6_method_1_code
theorem d_H_init_0 : decode b_H_init 0 = .ok (.aload_n 0, 1) := by decide +kernel
theorem d_H_init_1 : decode b_H_init 1 = .ok (.invokespecial 1, 3) := by decide +kernel
theorem d_H_init_4 : decode b_H_init 4 = .ok (.aload_n 0, 1) := by decide +kernel
theorem d_H_init_5 : decode b_H_init 5 = .ok (.iload_n 1, 1) := by decide +kernel
theorem d_H_init_6 : decode b_H_init 6 = .ok (.newarray .int, 2) := by decide +kernel
theorem d_H_init_8 : decode b_H_init 8 = .ok (.putfield 7, 3) := by decide +kernel
theorem d_H_init_11 : decode b_H_init 11 = .ok (.return_, 1) := by decide +kernel
theorem ci_H_init : jm_ci jm_G y_H_init (Cond.code y_H_init b_H_init 2 (none)) 2 1 := ⟨jm_g1 68 rfl rfl, Or.inl ⟨_, _, rfl⟩, jm_g1 3 rfl rfl, ⟨by decide, by decide⟩, by decide +kernel⟩
theorem im_H_init : Cond.instanceMethod y_H_init ∈ jm_G := jm_g1 67 rfl rfl
def y_H_placeOf : MethodName := ⟨"JobHouse$Holidays", "placeOf", "(I)I"⟩
abbrev b_H_placeOf : ByteArray := prog_6_method_2_code
theorem d_H_placeOf_0 : decode b_H_placeOf 0 = .ok (.iconst 0, 1) := by decide +kernel
theorem d_H_placeOf_1 : decode b_H_placeOf 1 = .ok (.istore_n 2, 1) := by decide +kernel
theorem d_H_placeOf_2 : decode b_H_placeOf 2 = .ok (.aload_n 0, 1) := by decide +kernel
theorem d_H_placeOf_3 : decode b_H_placeOf 3 = .ok (.getfield 13, 3) := by decide +kernel
theorem d_H_placeOf_6 : decode b_H_placeOf 6 = .ok (.istore_n 3, 1) := by decide +kernel
theorem d_H_placeOf_7 : decode b_H_placeOf 7 = .ok (.iload_n 2, 1) := by decide +kernel
theorem d_H_placeOf_8 : decode b_H_placeOf 8 = .ok (.iload_n 3, 1) := by decide +kernel
theorem d_H_placeOf_9 : decode b_H_placeOf 9 = .ok (.if_icmp .ge 35, 3) := by decide +kernel
theorem d_H_placeOf_12 : decode b_H_placeOf 12 = .ok (.iload_n 2, 1) := by decide +kernel
theorem d_H_placeOf_13 : decode b_H_placeOf 13 = .ok (.iload_n 3, 1) := by decide +kernel
theorem d_H_placeOf_14 : decode b_H_placeOf 14 = .ok (.iadd, 1) := by decide +kernel
theorem d_H_placeOf_15 : decode b_H_placeOf 15 = .ok (.iconst 2, 1) := by decide +kernel
theorem d_H_placeOf_16 : decode b_H_placeOf 16 = .ok (.idiv, 1) := by decide +kernel
theorem d_H_placeOf_17 : decode b_H_placeOf 17 = .ok (.istore 4, 2) := by decide +kernel
theorem d_H_placeOf_19 : decode b_H_placeOf 19 = .ok (.aload_n 0, 1) := by decide +kernel
theorem d_H_placeOf_20 : decode b_H_placeOf 20 = .ok (.getfield 7, 3) := by decide +kernel
theorem d_H_placeOf_23 : decode b_H_placeOf 23 = .ok (.iload 4, 2) := by decide +kernel
theorem d_H_placeOf_25 : decode b_H_placeOf 25 = .ok (.iaload, 1) := by decide +kernel
theorem d_H_placeOf_26 : decode b_H_placeOf 26 = .ok (.iload_n 1, 1) := by decide +kernel
theorem d_H_placeOf_27 : decode b_H_placeOf 27 = .ok (.if_icmp .ge 11, 3) := by decide +kernel
theorem d_H_placeOf_30 : decode b_H_placeOf 30 = .ok (.iload 4, 2) := by decide +kernel
theorem d_H_placeOf_32 : decode b_H_placeOf 32 = .ok (.iconst 1, 1) := by decide +kernel
theorem d_H_placeOf_33 : decode b_H_placeOf 33 = .ok (.iadd, 1) := by decide +kernel
theorem d_H_placeOf_34 : decode b_H_placeOf 34 = .ok (.istore_n 2, 1) := by decide +kernel
theorem d_H_placeOf_35 : decode b_H_placeOf 35 = .ok (.goto 6, 3) := by decide +kernel
theorem d_H_placeOf_38 : decode b_H_placeOf 38 = .ok (.iload 4, 2) := by decide +kernel
theorem d_H_placeOf_40 : decode b_H_placeOf 40 = .ok (.istore_n 3, 1) := by decide +kernel
theorem d_H_placeOf_41 : decode b_H_placeOf 41 = .ok (.goto (-34), 3) := by decide +kernel
theorem d_H_placeOf_44 : decode b_H_placeOf 44 = .ok (.iload_n 2, 1) := by decide +kernel
theorem d_H_placeOf_45 : decode b_H_placeOf 45 = .ok (.aload_n 0, 1) := by decide +kernel
theorem d_H_placeOf_46 : decode b_H_placeOf 46 = .ok (.getfield 13, 3) := by decide +kernel
theorem d_H_placeOf_49 : decode b_H_placeOf 49 = .ok (.if_icmp .ge 17, 3) := by decide +kernel
theorem d_H_placeOf_52 : decode b_H_placeOf 52 = .ok (.aload_n 0, 1) := by decide +kernel
theorem d_H_placeOf_53 : decode b_H_placeOf 53 = .ok (.getfield 7, 3) := by decide +kernel
theorem d_H_placeOf_56 : decode b_H_placeOf 56 = .ok (.iload_n 2, 1) := by decide +kernel
theorem d_H_placeOf_57 : decode b_H_placeOf 57 = .ok (.iaload, 1) := by decide +kernel
theorem d_H_placeOf_58 : decode b_H_placeOf 58 = .ok (.iload_n 1, 1) := by decide +kernel
theorem d_H_placeOf_59 : decode b_H_placeOf 59 = .ok (.if_icmp .ne 7, 3) := by decide +kernel
theorem d_H_placeOf_62 : decode b_H_placeOf 62 = .ok (.iload_n 2, 1) := by decide +kernel
theorem d_H_placeOf_63 : decode b_H_placeOf 63 = .ok (.goto 6, 3) := by decide +kernel
theorem d_H_placeOf_66 : decode b_H_placeOf 66 = .ok (.iconst (-1), 1) := by decide +kernel
theorem d_H_placeOf_67 : decode b_H_placeOf 67 = .ok (.iload_n 2, 1) := by decide +kernel
theorem d_H_placeOf_68 : decode b_H_placeOf 68 = .ok (.isub, 1) := by decide +kernel
theorem d_H_placeOf_69 : decode b_H_placeOf 69 = .ok (.ireturn, 1) := by decide +kernel
theorem ci_H_placeOf : jm_ci jm_G y_H_placeOf (Cond.code y_H_placeOf b_H_placeOf 5 (some FieldType.int)) 5 1 := ⟨jm_g3 152 rfl rfl, Or.inl ⟨_, _, rfl⟩, jm_g1 3 rfl rfl, ⟨by decide, by decide⟩, by decide +kernel⟩
theorem im_H_placeOf : Cond.instanceMethod y_H_placeOf ∈ jm_G := jm_g3 150 rfl rfl
theorem se_H_placeOf : Cond.selects y_H_placeOf.cls y_H_placeOf y_H_placeOf ∈ jm_G := jm_g3 151 rfl rfl
def y_H_insert : MethodName := ⟨"JobHouse$Holidays", "insert", "(II)V"⟩
abbrev b_H_insert : ByteArray := prog_6_method_3_code
theorem d_H_insert_0 : decode b_H_insert 0 = .ok (.aload_n 0, 1) := by decide +kernel
theorem d_H_insert_1 : decode b_H_insert 1 = .ok (.getfield 7, 3) := by decide +kernel
theorem d_H_insert_4 : decode b_H_insert 4 = .ok (.iload_n 1, 1) := by decide +kernel
theorem d_H_insert_5 : decode b_H_insert 5 = .ok (.aload_n 0, 1) := by decide +kernel
theorem d_H_insert_6 : decode b_H_insert 6 = .ok (.getfield 7, 3) := by decide +kernel
theorem d_H_insert_9 : decode b_H_insert 9 = .ok (.iload_n 1, 1) := by decide +kernel
theorem d_H_insert_10 : decode b_H_insert 10 = .ok (.iconst 1, 1) := by decide +kernel
theorem d_H_insert_11 : decode b_H_insert 11 = .ok (.iadd, 1) := by decide +kernel
theorem d_H_insert_12 : decode b_H_insert 12 = .ok (.aload_n 0, 1) := by decide +kernel
theorem d_H_insert_13 : decode b_H_insert 13 = .ok (.getfield 13, 3) := by decide +kernel
theorem d_H_insert_16 : decode b_H_insert 16 = .ok (.iload_n 1, 1) := by decide +kernel
theorem d_H_insert_17 : decode b_H_insert 17 = .ok (.isub, 1) := by decide +kernel
theorem d_H_insert_18 : decode b_H_insert 18 = .ok (.invokestatic 17, 3) := by decide +kernel
theorem d_H_insert_21 : decode b_H_insert 21 = .ok (.aload_n 0, 1) := by decide +kernel
theorem d_H_insert_22 : decode b_H_insert 22 = .ok (.getfield 7, 3) := by decide +kernel
theorem d_H_insert_25 : decode b_H_insert 25 = .ok (.iload_n 1, 1) := by decide +kernel
theorem d_H_insert_26 : decode b_H_insert 26 = .ok (.iload_n 2, 1) := by decide +kernel
theorem d_H_insert_27 : decode b_H_insert 27 = .ok (.iastore, 1) := by decide +kernel
theorem d_H_insert_28 : decode b_H_insert 28 = .ok (.aload_n 0, 1) := by decide +kernel
theorem d_H_insert_29 : decode b_H_insert 29 = .ok (.dup, 1) := by decide +kernel
theorem d_H_insert_30 : decode b_H_insert 30 = .ok (.getfield 13, 3) := by decide +kernel
theorem d_H_insert_33 : decode b_H_insert 33 = .ok (.iconst 1, 1) := by decide +kernel
theorem d_H_insert_34 : decode b_H_insert 34 = .ok (.iadd, 1) := by decide +kernel
theorem d_H_insert_35 : decode b_H_insert 35 = .ok (.putfield 13, 3) := by decide +kernel
theorem d_H_insert_38 : decode b_H_insert 38 = .ok (.return_, 1) := by decide +kernel
theorem ci_H_insert : jm_ci jm_G y_H_insert (Cond.code y_H_insert b_H_insert 3 (none)) 3 2 := ⟨jm_g3 156 rfl rfl, Or.inl ⟨_, _, rfl⟩, jm_g1 3 rfl rfl, ⟨by decide, by decide⟩, by decide +kernel⟩
theorem im_H_insert : Cond.instanceMethod y_H_insert ∈ jm_G := jm_g3 154 rfl rfl
theorem se_H_insert : Cond.selects y_H_insert.cls y_H_insert y_H_insert ∈ jm_G := jm_g3 155 rfl rfl
def y_H_removeAt : MethodName := ⟨"JobHouse$Holidays", "removeAt", "(I)V"⟩
abbrev b_H_removeAt : ByteArray := prog_6_method_4_code
theorem d_H_removeAt_0 : decode b_H_removeAt 0 = .ok (.aload_n 0, 1) := by decide +kernel
theorem d_H_removeAt_1 : decode b_H_removeAt 1 = .ok (.getfield 7, 3) := by decide +kernel
theorem d_H_removeAt_4 : decode b_H_removeAt 4 = .ok (.iload_n 1, 1) := by decide +kernel
theorem d_H_removeAt_5 : decode b_H_removeAt 5 = .ok (.iconst 1, 1) := by decide +kernel
theorem d_H_removeAt_6 : decode b_H_removeAt 6 = .ok (.iadd, 1) := by decide +kernel
theorem d_H_removeAt_7 : decode b_H_removeAt 7 = .ok (.aload_n 0, 1) := by decide +kernel
theorem d_H_removeAt_8 : decode b_H_removeAt 8 = .ok (.getfield 7, 3) := by decide +kernel
theorem d_H_removeAt_11 : decode b_H_removeAt 11 = .ok (.iload_n 1, 1) := by decide +kernel
theorem d_H_removeAt_12 : decode b_H_removeAt 12 = .ok (.aload_n 0, 1) := by decide +kernel
theorem d_H_removeAt_13 : decode b_H_removeAt 13 = .ok (.getfield 13, 3) := by decide +kernel
theorem d_H_removeAt_16 : decode b_H_removeAt 16 = .ok (.iload_n 1, 1) := by decide +kernel
theorem d_H_removeAt_17 : decode b_H_removeAt 17 = .ok (.isub, 1) := by decide +kernel
theorem d_H_removeAt_18 : decode b_H_removeAt 18 = .ok (.iconst 1, 1) := by decide +kernel
theorem d_H_removeAt_19 : decode b_H_removeAt 19 = .ok (.isub, 1) := by decide +kernel
theorem d_H_removeAt_20 : decode b_H_removeAt 20 = .ok (.invokestatic 17, 3) := by decide +kernel
theorem d_H_removeAt_23 : decode b_H_removeAt 23 = .ok (.aload_n 0, 1) := by decide +kernel
theorem d_H_removeAt_24 : decode b_H_removeAt 24 = .ok (.dup, 1) := by decide +kernel
theorem d_H_removeAt_25 : decode b_H_removeAt 25 = .ok (.getfield 13, 3) := by decide +kernel
theorem d_H_removeAt_28 : decode b_H_removeAt 28 = .ok (.iconst 1, 1) := by decide +kernel
theorem d_H_removeAt_29 : decode b_H_removeAt 29 = .ok (.isub, 1) := by decide +kernel
theorem d_H_removeAt_30 : decode b_H_removeAt 30 = .ok (.putfield 13, 3) := by decide +kernel
theorem d_H_removeAt_33 : decode b_H_removeAt 33 = .ok (.return_, 1) := by decide +kernel
theorem ci_H_removeAt : jm_ci jm_G y_H_removeAt (Cond.code y_H_removeAt b_H_removeAt 2 (none)) 2 1 := ⟨jm_g3 163 rfl rfl, Or.inl ⟨_, _, rfl⟩, jm_g1 3 rfl rfl, ⟨by decide, by decide⟩, by decide +kernel⟩
theorem im_H_removeAt : Cond.instanceMethod y_H_removeAt ∈ jm_G := jm_g3 161 rfl rfl
theorem se_H_removeAt : Cond.selects y_H_removeAt.cls y_H_removeAt y_H_removeAt ∈ jm_G := jm_g3 162 rfl rfl
