def y_Math_min : MethodName := ⟨"java/lang/Math", "min", "(II)I"⟩
abbrev b_Math_min : ByteArray := prog_19_method_69_code
theorem d_Math_min_0 : decode b_Math_min 0 = .ok (.iload_n 0, 1) := by decide +kernel
theorem d_Math_min_1 : decode b_Math_min 1 = .ok (.iload_n 1, 1) := by decide +kernel
theorem d_Math_min_2 : decode b_Math_min 2 = .ok (.if_icmp .gt 7, 3) := by decide +kernel
theorem d_Math_min_5 : decode b_Math_min 5 = .ok (.iload_n 0, 1) := by decide +kernel
theorem d_Math_min_6 : decode b_Math_min 6 = .ok (.goto 4, 3) := by decide +kernel
theorem d_Math_min_9 : decode b_Math_min 9 = .ok (.iload_n 1, 1) := by decide +kernel
theorem d_Math_min_10 : decode b_Math_min 10 = .ok (.ireturn, 1) := by decide +kernel
theorem ci_Math_min : jm_ci jm_G y_Math_min (Cond.code y_Math_min b_Math_min 2 (some FieldType.int)) 2 2 := ⟨jm_g2 226 rfl rfl, Or.inl ⟨_, _, rfl⟩, jm_g1 16 rfl rfl, ⟨by decide, by decide⟩, by decide +kernel⟩
theorem st_Math_min : Cond.static y_Math_min ∈ jm_G := jm_g2 225 rfl rfl
def y_Math_max : MethodName := ⟨"java/lang/Math", "max", "(II)I"⟩
abbrev b_Math_max : ByteArray := prog_19_method_65_code
theorem d_Math_max_0 : decode b_Math_max 0 = .ok (.iload_n 0, 1) := by decide +kernel
theorem d_Math_max_1 : decode b_Math_max 1 = .ok (.iload_n 1, 1) := by decide +kernel
theorem d_Math_max_2 : decode b_Math_max 2 = .ok (.if_icmp .lt 7, 3) := by decide +kernel
theorem d_Math_max_5 : decode b_Math_max 5 = .ok (.iload_n 0, 1) := by decide +kernel
theorem d_Math_max_6 : decode b_Math_max 6 = .ok (.goto 4, 3) := by decide +kernel
theorem d_Math_max_9 : decode b_Math_max 9 = .ok (.iload_n 1, 1) := by decide +kernel
theorem d_Math_max_10 : decode b_Math_max 10 = .ok (.ireturn, 1) := by decide +kernel
theorem ci_Math_max : jm_ci jm_G y_Math_max (Cond.code y_Math_max b_Math_max 2 (some FieldType.int)) 2 2 := ⟨jm_g3 129 rfl rfl, Or.inl ⟨_, _, rfl⟩, jm_g1 16 rfl rfl, ⟨by decide, by decide⟩, by decide +kernel⟩
theorem st_Math_max : Cond.static y_Math_max ∈ jm_G := jm_g3 128 rfl rfl
def y_Math_min2 : MethodName := ⟨"java/lang/Math", "min", "(JJ)J"⟩
abbrev b_Math_min2 : ByteArray := prog_19_method_70_code
theorem d_Math_min2_0 : decode b_Math_min2 0 = .ok (.lload_n 0, 1) := by decide +kernel
theorem d_Math_min2_1 : decode b_Math_min2 1 = .ok (.lload_n 2, 1) := by decide +kernel
theorem d_Math_min2_2 : decode b_Math_min2 2 = .ok (.lcmp, 1) := by decide +kernel
theorem d_Math_min2_3 : decode b_Math_min2 3 = .ok (.ifCond .gt 7, 3) := by decide +kernel
theorem d_Math_min2_6 : decode b_Math_min2 6 = .ok (.lload_n 0, 1) := by decide +kernel
theorem d_Math_min2_7 : decode b_Math_min2 7 = .ok (.goto 4, 3) := by decide +kernel
theorem d_Math_min2_10 : decode b_Math_min2 10 = .ok (.lload_n 2, 1) := by decide +kernel
theorem d_Math_min2_11 : decode b_Math_min2 11 = .ok (.lreturn, 1) := by decide +kernel
theorem ci_Math_min2 : jm_ci jm_G y_Math_min2 (Cond.code y_Math_min2 b_Math_min2 4 (some FieldType.long)) 4 2 := ⟨jm_g4 5 rfl rfl, Or.inl ⟨_, _, rfl⟩, jm_g1 16 rfl rfl, ⟨by decide, by decide⟩, by decide +kernel⟩
theorem st_Math_min2 : Cond.static y_Math_min2 ∈ jm_G := jm_g4 4 rfl rfl
def y_Math_max2 : MethodName := ⟨"java/lang/Math", "max", "(JJ)J"⟩
abbrev b_Math_max2 : ByteArray := prog_19_method_66_code
theorem d_Math_max2_0 : decode b_Math_max2 0 = .ok (.lload_n 0, 1) := by decide +kernel
theorem d_Math_max2_1 : decode b_Math_max2 1 = .ok (.lload_n 2, 1) := by decide +kernel
theorem d_Math_max2_2 : decode b_Math_max2 2 = .ok (.lcmp, 1) := by decide +kernel
theorem d_Math_max2_3 : decode b_Math_max2 3 = .ok (.ifCond .lt 7, 3) := by decide +kernel
theorem d_Math_max2_6 : decode b_Math_max2 6 = .ok (.lload_n 0, 1) := by decide +kernel
theorem d_Math_max2_7 : decode b_Math_max2 7 = .ok (.goto 4, 3) := by decide +kernel
theorem d_Math_max2_10 : decode b_Math_max2 10 = .ok (.lload_n 2, 1) := by decide +kernel
theorem d_Math_max2_11 : decode b_Math_max2 11 = .ok (.lreturn, 1) := by decide +kernel
theorem ci_Math_max2 : jm_ci jm_G y_Math_max2 (Cond.code y_Math_max2 b_Math_max2 4 (some FieldType.long)) 4 2 := ⟨jm_g4 2 rfl rfl, Or.inl ⟨_, _, rfl⟩, jm_g1 16 rfl rfl, ⟨by decide, by decide⟩, by decide +kernel⟩
theorem st_Math_max2 : Cond.static y_Math_max2 ∈ jm_G := jm_g4 1 rfl rfl
def y_Math_floorDiv : MethodName := ⟨"java/lang/Math", "floorDiv", "(II)I"⟩
abbrev b_Math_floorDiv : ByteArray := prog_19_method_47_code
theorem d_Math_floorDiv_0 : decode b_Math_floorDiv 0 = .ok (.iload_n 0, 1) := by decide +kernel
theorem d_Math_floorDiv_1 : decode b_Math_floorDiv 1 = .ok (.iload_n 1, 1) := by decide +kernel
theorem d_Math_floorDiv_2 : decode b_Math_floorDiv 2 = .ok (.idiv, 1) := by decide +kernel
theorem d_Math_floorDiv_3 : decode b_Math_floorDiv 3 = .ok (.istore_n 2, 1) := by decide +kernel
theorem d_Math_floorDiv_4 : decode b_Math_floorDiv 4 = .ok (.iload_n 0, 1) := by decide +kernel
theorem d_Math_floorDiv_5 : decode b_Math_floorDiv 5 = .ok (.iload_n 1, 1) := by decide +kernel
theorem d_Math_floorDiv_6 : decode b_Math_floorDiv 6 = .ok (.ixor, 1) := by decide +kernel
theorem d_Math_floorDiv_7 : decode b_Math_floorDiv 7 = .ok (.ifCond .ge 14, 3) := by decide +kernel
theorem d_Math_floorDiv_10 : decode b_Math_floorDiv 10 = .ok (.iload_n 2, 1) := by decide +kernel
theorem d_Math_floorDiv_11 : decode b_Math_floorDiv 11 = .ok (.iload_n 1, 1) := by decide +kernel
theorem d_Math_floorDiv_12 : decode b_Math_floorDiv 12 = .ok (.imul, 1) := by decide +kernel
theorem d_Math_floorDiv_13 : decode b_Math_floorDiv 13 = .ok (.iload_n 0, 1) := by decide +kernel
theorem d_Math_floorDiv_14 : decode b_Math_floorDiv 14 = .ok (.if_icmp .eq 7, 3) := by decide +kernel
theorem d_Math_floorDiv_17 : decode b_Math_floorDiv 17 = .ok (.iload_n 2, 1) := by decide +kernel
theorem d_Math_floorDiv_18 : decode b_Math_floorDiv 18 = .ok (.iconst 1, 1) := by decide +kernel
theorem d_Math_floorDiv_19 : decode b_Math_floorDiv 19 = .ok (.isub, 1) := by decide +kernel
theorem d_Math_floorDiv_20 : decode b_Math_floorDiv 20 = .ok (.ireturn, 1) := by decide +kernel
theorem d_Math_floorDiv_21 : decode b_Math_floorDiv 21 = .ok (.iload_n 2, 1) := by decide +kernel
theorem d_Math_floorDiv_22 : decode b_Math_floorDiv 22 = .ok (.ireturn, 1) := by decide +kernel
theorem ci_Math_floorDiv : jm_ci jm_G y_Math_floorDiv (Cond.code y_Math_floorDiv b_Math_floorDiv 3 (some FieldType.int)) 3 2 := ⟨jm_g3 208 rfl rfl, Or.inl ⟨_, _, rfl⟩, jm_g1 16 rfl rfl, ⟨by decide, by decide⟩, by decide +kernel⟩
theorem st_Math_floorDiv : Cond.static y_Math_floorDiv ∈ jm_G := jm_g3 207 rfl rfl
def y_Math_floorMod : MethodName := ⟨"java/lang/Math", "floorMod", "(II)I"⟩
abbrev b_Math_floorMod : ByteArray := prog_19_method_50_code
theorem d_Math_floorMod_0 : decode b_Math_floorMod 0 = .ok (.iload_n 0, 1) := by decide +kernel
theorem d_Math_floorMod_1 : decode b_Math_floorMod 1 = .ok (.iload_n 1, 1) := by decide +kernel
theorem d_Math_floorMod_2 : decode b_Math_floorMod 2 = .ok (.irem, 1) := by decide +kernel
theorem d_Math_floorMod_3 : decode b_Math_floorMod 3 = .ok (.istore_n 2, 1) := by decide +kernel
theorem d_Math_floorMod_4 : decode b_Math_floorMod 4 = .ok (.iload_n 0, 1) := by decide +kernel
theorem d_Math_floorMod_5 : decode b_Math_floorMod 5 = .ok (.iload_n 1, 1) := by decide +kernel
theorem d_Math_floorMod_6 : decode b_Math_floorMod 6 = .ok (.ixor, 1) := by decide +kernel
theorem d_Math_floorMod_7 : decode b_Math_floorMod 7 = .ok (.ifCond .ge 11, 3) := by decide +kernel
theorem d_Math_floorMod_10 : decode b_Math_floorMod 10 = .ok (.iload_n 2, 1) := by decide +kernel
theorem d_Math_floorMod_11 : decode b_Math_floorMod 11 = .ok (.ifCond .eq 7, 3) := by decide +kernel
theorem d_Math_floorMod_14 : decode b_Math_floorMod 14 = .ok (.iload_n 2, 1) := by decide +kernel
theorem d_Math_floorMod_15 : decode b_Math_floorMod 15 = .ok (.iload_n 1, 1) := by decide +kernel
theorem d_Math_floorMod_16 : decode b_Math_floorMod 16 = .ok (.iadd, 1) := by decide +kernel
theorem d_Math_floorMod_17 : decode b_Math_floorMod 17 = .ok (.ireturn, 1) := by decide +kernel
theorem d_Math_floorMod_18 : decode b_Math_floorMod 18 = .ok (.iload_n 2, 1) := by decide +kernel
theorem d_Math_floorMod_19 : decode b_Math_floorMod 19 = .ok (.ireturn, 1) := by decide +kernel
theorem ci_Math_floorMod : jm_ci jm_G y_Math_floorMod (Cond.code y_Math_floorMod b_Math_floorMod 3 (some FieldType.int)) 3 2 := ⟨jm_g3 228 rfl rfl, Or.inl ⟨_, _, rfl⟩, jm_g1 16 rfl rfl, ⟨by decide, by decide⟩, by decide +kernel⟩
theorem st_Math_floorMod : Cond.static y_Math_floorMod ∈ jm_G := jm_g3 227 rfl rfl
def y_Math_floorDiv2 : MethodName := ⟨"java/lang/Math", "floorDiv", "(JJ)J"⟩
abbrev b_Math_floorDiv2 : ByteArray := prog_19_method_49_code
theorem d_Math_floorDiv2_0 : decode b_Math_floorDiv2 0 = .ok (.lload_n 0, 1) := by decide +kernel
theorem d_Math_floorDiv2_1 : decode b_Math_floorDiv2 1 = .ok (.lload_n 2, 1) := by decide +kernel
theorem d_Math_floorDiv2_2 : decode b_Math_floorDiv2 2 = .ok (.ldiv, 1) := by decide +kernel
theorem d_Math_floorDiv2_3 : decode b_Math_floorDiv2 3 = .ok (.lstore 4, 2) := by decide +kernel
theorem d_Math_floorDiv2_5 : decode b_Math_floorDiv2 5 = .ok (.lload_n 0, 1) := by decide +kernel
theorem d_Math_floorDiv2_6 : decode b_Math_floorDiv2 6 = .ok (.lload_n 2, 1) := by decide +kernel
theorem d_Math_floorDiv2_7 : decode b_Math_floorDiv2 7 = .ok (.lxor, 1) := by decide +kernel
theorem d_Math_floorDiv2_8 : decode b_Math_floorDiv2 8 = .ok (.lconst 0, 1) := by decide +kernel
theorem d_Math_floorDiv2_9 : decode b_Math_floorDiv2 9 = .ok (.lcmp, 1) := by decide +kernel
theorem d_Math_floorDiv2_10 : decode b_Math_floorDiv2 10 = .ok (.ifCond .ge 17, 3) := by decide +kernel
theorem d_Math_floorDiv2_13 : decode b_Math_floorDiv2 13 = .ok (.lload 4, 2) := by decide +kernel
theorem d_Math_floorDiv2_15 : decode b_Math_floorDiv2 15 = .ok (.lload_n 2, 1) := by decide +kernel
theorem d_Math_floorDiv2_16 : decode b_Math_floorDiv2 16 = .ok (.lmul, 1) := by decide +kernel
theorem d_Math_floorDiv2_17 : decode b_Math_floorDiv2 17 = .ok (.lload_n 0, 1) := by decide +kernel
theorem d_Math_floorDiv2_18 : decode b_Math_floorDiv2 18 = .ok (.lcmp, 1) := by decide +kernel
theorem d_Math_floorDiv2_19 : decode b_Math_floorDiv2 19 = .ok (.ifCond .eq 8, 3) := by decide +kernel
theorem d_Math_floorDiv2_22 : decode b_Math_floorDiv2 22 = .ok (.lload 4, 2) := by decide +kernel
theorem d_Math_floorDiv2_24 : decode b_Math_floorDiv2 24 = .ok (.lconst 1, 1) := by decide +kernel
theorem d_Math_floorDiv2_25 : decode b_Math_floorDiv2 25 = .ok (.lsub, 1) := by decide +kernel
theorem d_Math_floorDiv2_26 : decode b_Math_floorDiv2 26 = .ok (.lreturn, 1) := by decide +kernel
theorem d_Math_floorDiv2_27 : decode b_Math_floorDiv2 27 = .ok (.lload 4, 2) := by decide +kernel
theorem d_Math_floorDiv2_29 : decode b_Math_floorDiv2 29 = .ok (.lreturn, 1) := by decide +kernel
theorem ci_Math_floorDiv2 : jm_ci jm_G y_Math_floorDiv2 (Cond.code y_Math_floorDiv2 b_Math_floorDiv2 6 (some FieldType.long)) 6 2 := ⟨jm_g3 201 rfl rfl, Or.inl ⟨_, _, rfl⟩, jm_g1 16 rfl rfl, ⟨by decide, by decide⟩, by decide +kernel⟩
theorem st_Math_floorDiv2 : Cond.static y_Math_floorDiv2 ∈ jm_G := jm_g3 200 rfl rfl
def y_Math_floorMod2 : MethodName := ⟨"java/lang/Math", "floorMod", "(JJ)J"⟩
abbrev b_Math_floorMod2 : ByteArray := prog_19_method_52_code
theorem d_Math_floorMod2_0 : decode b_Math_floorMod2 0 = .ok (.lload_n 0, 1) := by decide +kernel
theorem d_Math_floorMod2_1 : decode b_Math_floorMod2 1 = .ok (.lload_n 2, 1) := by decide +kernel
theorem d_Math_floorMod2_2 : decode b_Math_floorMod2 2 = .ok (.lrem, 1) := by decide +kernel
theorem d_Math_floorMod2_3 : decode b_Math_floorMod2 3 = .ok (.lstore 4, 2) := by decide +kernel
theorem d_Math_floorMod2_5 : decode b_Math_floorMod2 5 = .ok (.lload_n 0, 1) := by decide +kernel
theorem d_Math_floorMod2_6 : decode b_Math_floorMod2 6 = .ok (.lload_n 2, 1) := by decide +kernel
theorem d_Math_floorMod2_7 : decode b_Math_floorMod2 7 = .ok (.lxor, 1) := by decide +kernel
theorem d_Math_floorMod2_8 : decode b_Math_floorMod2 8 = .ok (.lconst 0, 1) := by decide +kernel
theorem d_Math_floorMod2_9 : decode b_Math_floorMod2 9 = .ok (.lcmp, 1) := by decide +kernel
theorem d_Math_floorMod2_10 : decode b_Math_floorMod2 10 = .ok (.ifCond .ge 15, 3) := by decide +kernel
theorem d_Math_floorMod2_13 : decode b_Math_floorMod2 13 = .ok (.lload 4, 2) := by decide +kernel
theorem d_Math_floorMod2_15 : decode b_Math_floorMod2 15 = .ok (.lconst 0, 1) := by decide +kernel
theorem d_Math_floorMod2_16 : decode b_Math_floorMod2 16 = .ok (.lcmp, 1) := by decide +kernel
theorem d_Math_floorMod2_17 : decode b_Math_floorMod2 17 = .ok (.ifCond .eq 8, 3) := by decide +kernel
theorem d_Math_floorMod2_20 : decode b_Math_floorMod2 20 = .ok (.lload 4, 2) := by decide +kernel
theorem d_Math_floorMod2_22 : decode b_Math_floorMod2 22 = .ok (.lload_n 2, 1) := by decide +kernel
theorem d_Math_floorMod2_23 : decode b_Math_floorMod2 23 = .ok (.ladd, 1) := by decide +kernel
theorem d_Math_floorMod2_24 : decode b_Math_floorMod2 24 = .ok (.lreturn, 1) := by decide +kernel
theorem d_Math_floorMod2_25 : decode b_Math_floorMod2 25 = .ok (.lload 4, 2) := by decide +kernel
theorem d_Math_floorMod2_27 : decode b_Math_floorMod2 27 = .ok (.lreturn, 1) := by decide +kernel
theorem ci_Math_floorMod2 : jm_ci jm_G y_Math_floorMod2 (Cond.code y_Math_floorMod2 b_Math_floorMod2 6 (some FieldType.long)) 6 2 := ⟨jm_g4 119 rfl rfl, Or.inl ⟨_, _, rfl⟩, jm_g1 16 rfl rfl, ⟨by decide, by decide⟩, by decide +kernel⟩
theorem st_Math_floorMod2 : Cond.static y_Math_floorMod2 ∈ jm_G := jm_g4 118 rfl rfl
def y_Long_bitCount : MethodName := ⟨"java/lang/Long", "bitCount", "(J)I"⟩
abbrev b_Long_bitCount : ByteArray := prog_18_method_50_code
theorem d_Long_bitCount_0 : decode b_Long_bitCount 0 = .ok (.lload_n 0, 1) := by decide +kernel
theorem d_Long_bitCount_1 : decode b_Long_bitCount 1 = .ok (.lload_n 0, 1) := by decide +kernel
theorem d_Long_bitCount_2 : decode b_Long_bitCount 2 = .ok (.iconst 1, 1) := by decide +kernel
theorem d_Long_bitCount_3 : decode b_Long_bitCount 3 = .ok (.lushr, 1) := by decide +kernel
theorem d_Long_bitCount_4 : decode b_Long_bitCount 4 = .ok (.ldc2_w 314, 3) := by decide +kernel
theorem d_Long_bitCount_7 : decode b_Long_bitCount 7 = .ok (.land, 1) := by decide +kernel
theorem d_Long_bitCount_8 : decode b_Long_bitCount 8 = .ok (.lsub, 1) := by decide +kernel
theorem d_Long_bitCount_9 : decode b_Long_bitCount 9 = .ok (.lstore_n 0, 1) := by decide +kernel
theorem d_Long_bitCount_10 : decode b_Long_bitCount 10 = .ok (.lload_n 0, 1) := by decide +kernel
theorem d_Long_bitCount_11 : decode b_Long_bitCount 11 = .ok (.ldc2_w 316, 3) := by decide +kernel
theorem d_Long_bitCount_14 : decode b_Long_bitCount 14 = .ok (.land, 1) := by decide +kernel
theorem d_Long_bitCount_15 : decode b_Long_bitCount 15 = .ok (.lload_n 0, 1) := by decide +kernel
theorem d_Long_bitCount_16 : decode b_Long_bitCount 16 = .ok (.iconst 2, 1) := by decide +kernel
theorem d_Long_bitCount_17 : decode b_Long_bitCount 17 = .ok (.lushr, 1) := by decide +kernel
theorem d_Long_bitCount_18 : decode b_Long_bitCount 18 = .ok (.ldc2_w 316, 3) := by decide +kernel
theorem d_Long_bitCount_21 : decode b_Long_bitCount 21 = .ok (.land, 1) := by decide +kernel
theorem d_Long_bitCount_22 : decode b_Long_bitCount 22 = .ok (.ladd, 1) := by decide +kernel
theorem d_Long_bitCount_23 : decode b_Long_bitCount 23 = .ok (.lstore_n 0, 1) := by decide +kernel
theorem d_Long_bitCount_24 : decode b_Long_bitCount 24 = .ok (.lload_n 0, 1) := by decide +kernel
theorem d_Long_bitCount_25 : decode b_Long_bitCount 25 = .ok (.lload_n 0, 1) := by decide +kernel
theorem d_Long_bitCount_26 : decode b_Long_bitCount 26 = .ok (.iconst 4, 1) := by decide +kernel
theorem d_Long_bitCount_27 : decode b_Long_bitCount 27 = .ok (.lushr, 1) := by decide +kernel
theorem d_Long_bitCount_28 : decode b_Long_bitCount 28 = .ok (.ladd, 1) := by decide +kernel
theorem d_Long_bitCount_29 : decode b_Long_bitCount 29 = .ok (.ldc2_w 318, 3) := by decide +kernel
theorem d_Long_bitCount_32 : decode b_Long_bitCount 32 = .ok (.land, 1) := by decide +kernel
theorem d_Long_bitCount_33 : decode b_Long_bitCount 33 = .ok (.lstore_n 0, 1) := by decide +kernel
theorem d_Long_bitCount_34 : decode b_Long_bitCount 34 = .ok (.lload_n 0, 1) := by decide +kernel
theorem d_Long_bitCount_35 : decode b_Long_bitCount 35 = .ok (.lload_n 0, 1) := by decide +kernel
theorem d_Long_bitCount_36 : decode b_Long_bitCount 36 = .ok (.bipush 8, 2) := by decide +kernel
theorem d_Long_bitCount_38 : decode b_Long_bitCount 38 = .ok (.lushr, 1) := by decide +kernel
theorem d_Long_bitCount_39 : decode b_Long_bitCount 39 = .ok (.ladd, 1) := by decide +kernel
theorem d_Long_bitCount_40 : decode b_Long_bitCount 40 = .ok (.lstore_n 0, 1) := by decide +kernel
theorem d_Long_bitCount_41 : decode b_Long_bitCount 41 = .ok (.lload_n 0, 1) := by decide +kernel
theorem d_Long_bitCount_42 : decode b_Long_bitCount 42 = .ok (.lload_n 0, 1) := by decide +kernel
theorem d_Long_bitCount_43 : decode b_Long_bitCount 43 = .ok (.bipush 16, 2) := by decide +kernel
theorem d_Long_bitCount_45 : decode b_Long_bitCount 45 = .ok (.lushr, 1) := by decide +kernel
theorem d_Long_bitCount_46 : decode b_Long_bitCount 46 = .ok (.ladd, 1) := by decide +kernel
theorem d_Long_bitCount_47 : decode b_Long_bitCount 47 = .ok (.lstore_n 0, 1) := by decide +kernel
theorem d_Long_bitCount_48 : decode b_Long_bitCount 48 = .ok (.lload_n 0, 1) := by decide +kernel
theorem d_Long_bitCount_49 : decode b_Long_bitCount 49 = .ok (.lload_n 0, 1) := by decide +kernel
theorem d_Long_bitCount_50 : decode b_Long_bitCount 50 = .ok (.bipush 32, 2) := by decide +kernel
theorem d_Long_bitCount_52 : decode b_Long_bitCount 52 = .ok (.lushr, 1) := by decide +kernel
theorem d_Long_bitCount_53 : decode b_Long_bitCount 53 = .ok (.ladd, 1) := by decide +kernel
theorem d_Long_bitCount_54 : decode b_Long_bitCount 54 = .ok (.lstore_n 0, 1) := by decide +kernel
theorem d_Long_bitCount_55 : decode b_Long_bitCount 55 = .ok (.lload_n 0, 1) := by decide +kernel
theorem d_Long_bitCount_56 : decode b_Long_bitCount 56 = .ok (.l2i, 1) := by decide +kernel
theorem d_Long_bitCount_57 : decode b_Long_bitCount 57 = .ok (.bipush 127, 2) := by decide +kernel
theorem d_Long_bitCount_59 : decode b_Long_bitCount 59 = .ok (.iand, 1) := by decide +kernel
theorem d_Long_bitCount_60 : decode b_Long_bitCount 60 = .ok (.ireturn, 1) := by decide +kernel
theorem ci_Long_bitCount : jm_ci jm_G y_Long_bitCount (Cond.code y_Long_bitCount b_Long_bitCount 2 (some FieldType.int)) 2 1 := ⟨jm_g4 59 rfl rfl, Or.inl ⟨_, _, rfl⟩, jm_g1 25 rfl rfl, ⟨by decide, by decide⟩, by decide +kernel⟩
theorem st_Long_bitCount : Cond.static y_Long_bitCount ∈ jm_G := jm_g4 58 rfl rfl
