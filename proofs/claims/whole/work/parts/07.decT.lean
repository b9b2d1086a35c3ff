def y_T_init : MethodName := ⟨"JobHouse$Text", "<init>", "()V"⟩
abbrev b_T_init : ByteArray := prog_9_method_1_code
theorem d_T_init_0 : decode b_T_init 0 = .ok (.aload_n 0, 1) := by decide +kernel
theorem d_T_init_1 : decode b_T_init 1 = .ok (.invokespecial 3, 3) := by decide +kernel
theorem d_T_init_4 : decode b_T_init 4 = .ok (.aload_n 0, 1) := by decide +kernel
theorem d_T_init_5 : decode b_T_init 5 = .ok (.sipush 400, 3) := by decide +kernel
theorem d_T_init_8 : decode b_T_init 8 = .ok (.newarray .byte, 2) := by decide +kernel
theorem d_T_init_10 : decode b_T_init 10 = .ok (.putfield 9, 3) := by decide +kernel
theorem d_T_init_13 : decode b_T_init 13 = .ok (.aload_n 0, 1) := by decide +kernel
theorem d_T_init_14 : decode b_T_init 14 = .ok (.iconst (-1), 1) := by decide +kernel
theorem d_T_init_15 : decode b_T_init 15 = .ok (.putfield 15, 3) := by decide +kernel
theorem d_T_init_18 : decode b_T_init 18 = .ok (.return_, 1) := by decide +kernel
theorem ci_T_init : jm_ci jm_G y_T_init (Cond.code y_T_init b_T_init 1 (none)) 1 0 := ⟨jm_g1 40 rfl rfl, Or.inl ⟨_, _, rfl⟩, jm_g1 2 rfl rfl, ⟨by decide, by decide⟩, by decide +kernel⟩
theorem im_T_init : Cond.instanceMethod y_T_init ∈ jm_G := jm_g1 39 rfl rfl
def y_T_addWord : MethodName := ⟨"JobHouse$Text", "addWord", "(I)V"⟩
abbrev b_T_addWord : ByteArray := prog_9_method_2_code
theorem d_T_addWord_0 : decode b_T_addWord 0 = .ok (.bipush 24, 2) := by decide +kernel
theorem d_T_addWord_2 : decode b_T_addWord 2 = .ok (.istore_n 2, 1) := by decide +kernel
theorem d_T_addWord_3 : decode b_T_addWord 3 = .ok (.iload_n 2, 1) := by decide +kernel
theorem d_T_addWord_4 : decode b_T_addWord 4 = .ok (.ifCond .lt 42, 3) := by decide +kernel
theorem d_T_addWord_7 : decode b_T_addWord 7 = .ok (.aload_n 0, 1) := by decide +kernel
theorem d_T_addWord_8 : decode b_T_addWord 8 = .ok (.getfield 19, 3) := by decide +kernel
theorem d_T_addWord_11 : decode b_T_addWord 11 = .ok (.sipush 400, 3) := by decide +kernel
theorem d_T_addWord_14 : decode b_T_addWord 14 = .ok (.if_icmp .ge 32, 3) := by decide +kernel
theorem d_T_addWord_17 : decode b_T_addWord 17 = .ok (.aload_n 0, 1) := by decide +kernel
theorem d_T_addWord_18 : decode b_T_addWord 18 = .ok (.getfield 9, 3) := by decide +kernel
theorem d_T_addWord_21 : decode b_T_addWord 21 = .ok (.aload_n 0, 1) := by decide +kernel
theorem d_T_addWord_22 : decode b_T_addWord 22 = .ok (.getfield 19, 3) := by decide +kernel
theorem d_T_addWord_25 : decode b_T_addWord 25 = .ok (.iload_n 1, 1) := by decide +kernel
theorem d_T_addWord_26 : decode b_T_addWord 26 = .ok (.iload_n 2, 1) := by decide +kernel
theorem d_T_addWord_27 : decode b_T_addWord 27 = .ok (.ishr, 1) := by decide +kernel
theorem d_T_addWord_28 : decode b_T_addWord 28 = .ok (.i2b, 1) := by decide +kernel
theorem d_T_addWord_29 : decode b_T_addWord 29 = .ok (.bastore, 1) := by decide +kernel
theorem d_T_addWord_30 : decode b_T_addWord 30 = .ok (.aload_n 0, 1) := by decide +kernel
theorem d_T_addWord_31 : decode b_T_addWord 31 = .ok (.dup, 1) := by decide +kernel
theorem d_T_addWord_32 : decode b_T_addWord 32 = .ok (.getfield 19, 3) := by decide +kernel
theorem d_T_addWord_35 : decode b_T_addWord 35 = .ok (.iconst 1, 1) := by decide +kernel
theorem d_T_addWord_36 : decode b_T_addWord 36 = .ok (.iadd, 1) := by decide +kernel
theorem d_T_addWord_37 : decode b_T_addWord 37 = .ok (.putfield 19, 3) := by decide +kernel
theorem d_T_addWord_40 : decode b_T_addWord 40 = .ok (.iinc 2 (-8), 3) := by decide +kernel
theorem d_T_addWord_43 : decode b_T_addWord 43 = .ok (.goto (-40), 3) := by decide +kernel
theorem d_T_addWord_46 : decode b_T_addWord 46 = .ok (.return_, 1) := by decide +kernel
theorem ci_T_addWord : jm_ci jm_G y_T_addWord (Cond.code y_T_addWord b_T_addWord 3 (none)) 3 1 := ⟨jm_g2 155 rfl rfl, Or.inl ⟨_, _, rfl⟩, jm_g1 2 rfl rfl, ⟨by decide, by decide⟩, by decide +kernel⟩
theorem im_T_addWord : Cond.instanceMethod y_T_addWord ∈ jm_G := jm_g2 153 rfl rfl
theorem se_T_addWord : Cond.selects y_T_addWord.cls y_T_addWord y_T_addWord ∈ jm_G := jm_g2 154 rfl rfl
def y_T_rewind : MethodName := ⟨"JobHouse$Text", "rewind", "()V"⟩
abbrev b_T_rewind : ByteArray := prog_9_method_3_code
theorem d_T_rewind_0 : decode b_T_rewind 0 = .ok (.aload_n 0, 1) := by decide +kernel
theorem d_T_rewind_1 : decode b_T_rewind 1 = .ok (.iconst 0, 1) := by decide +kernel
theorem d_T_rewind_2 : decode b_T_rewind 2 = .ok (.putfield 22, 3) := by decide +kernel
theorem d_T_rewind_5 : decode b_T_rewind 5 = .ok (.aload_n 0, 1) := by decide +kernel
theorem d_T_rewind_6 : decode b_T_rewind 6 = .ok (.iconst (-1), 1) := by decide +kernel
theorem d_T_rewind_7 : decode b_T_rewind 7 = .ok (.putfield 15, 3) := by decide +kernel
theorem d_T_rewind_10 : decode b_T_rewind 10 = .ok (.return_, 1) := by decide +kernel
theorem ci_T_rewind : jm_ci jm_G y_T_rewind (Cond.code y_T_rewind b_T_rewind 1 (none)) 1 0 := ⟨jm_g2 194 rfl rfl, Or.inl ⟨_, _, rfl⟩, jm_g1 2 rfl rfl, ⟨by decide, by decide⟩, by decide +kernel⟩
theorem im_T_rewind : Cond.instanceMethod y_T_rewind ∈ jm_G := jm_g2 192 rfl rfl
theorem se_T_rewind : Cond.selects y_T_rewind.cls y_T_rewind y_T_rewind ∈ jm_G := jm_g2 193 rfl rfl
def y_T_breakAt : MethodName := ⟨"JobHouse$Text", "breakAt", "(I)V"⟩
abbrev b_T_breakAt : ByteArray := prog_9_method_4_code
theorem d_T_breakAt_0 : decode b_T_breakAt 0 = .ok (.aload_n 0, 1) := by decide +kernel
theorem d_T_breakAt_1 : decode b_T_breakAt 1 = .ok (.getfield 15, 3) := by decide +kernel
theorem d_T_breakAt_4 : decode b_T_breakAt 4 = .ok (.iconst (-1), 1) := by decide +kernel
theorem d_T_breakAt_5 : decode b_T_breakAt 5 = .ok (.if_icmp .ne 8, 3) := by decide +kernel
theorem d_T_breakAt_8 : decode b_T_breakAt 8 = .ok (.aload_n 0, 1) := by decide +kernel
theorem d_T_breakAt_9 : decode b_T_breakAt 9 = .ok (.iload_n 1, 1) := by decide +kernel
theorem d_T_breakAt_10 : decode b_T_breakAt 10 = .ok (.putfield 15, 3) := by decide +kernel
theorem d_T_breakAt_13 : decode b_T_breakAt 13 = .ok (.return_, 1) := by decide +kernel
theorem ci_T_breakAt : jm_ci jm_G y_T_breakAt (Cond.code y_T_breakAt b_T_breakAt 2 (none)) 2 1 := ⟨jm_g2 215 rfl rfl, Or.inl ⟨_, _, rfl⟩, jm_g1 2 rfl rfl, ⟨by decide, by decide⟩, by decide +kernel⟩
theorem im_T_breakAt : Cond.instanceMethod y_T_breakAt ∈ jm_G := jm_g2 213 rfl rfl
theorem se_T_breakAt : Cond.selects y_T_breakAt.cls y_T_breakAt y_T_breakAt ∈ jm_G := jm_g2 214 rfl rfl
def y_T_isDone : MethodName := ⟨"JobHouse$Text", "isDone", "()Z"⟩
abbrev b_T_isDone : ByteArray := prog_9_method_5_code
theorem d_T_isDone_0 : decode b_T_isDone 0 = .ok (.aload_n 0, 1) := by decide +kernel
theorem d_T_isDone_1 : decode b_T_isDone 1 = .ok (.invokevirtual 25, 3) := by decide +kernel
theorem d_T_isDone_4 : decode b_T_isDone 4 = .ok (.iconst (-1), 1) := by decide +kernel
theorem d_T_isDone_5 : decode b_T_isDone 5 = .ok (.if_icmp .ne 7, 3) := by decide +kernel
theorem d_T_isDone_8 : decode b_T_isDone 8 = .ok (.iconst 1, 1) := by decide +kernel
theorem d_T_isDone_9 : decode b_T_isDone 9 = .ok (.goto 4, 3) := by decide +kernel
theorem d_T_isDone_12 : decode b_T_isDone 12 = .ok (.iconst 0, 1) := by decide +kernel
theorem d_T_isDone_13 : decode b_T_isDone 13 = .ok (.ireturn, 1) := by decide +kernel
theorem ci_T_isDone : jm_ci jm_G y_T_isDone (Cond.code y_T_isDone b_T_isDone 1 (some FieldType.boolean)) 1 0 := ⟨jm_g2 230 rfl rfl, Or.inl ⟨_, _, rfl⟩, jm_g1 2 rfl rfl, ⟨by decide, by decide⟩, by decide +kernel⟩
theorem im_T_isDone : Cond.instanceMethod y_T_isDone ∈ jm_G := jm_g2 228 rfl rfl
theorem se_T_isDone : Cond.selects y_T_isDone.cls y_T_isDone y_T_isDone ∈ jm_G := jm_g2 229 rfl rfl
def y_T_peek : MethodName := ⟨"JobHouse$Text", "peek", "()I"⟩
abbrev b_T_peek : ByteArray := prog_9_method_6_code
theorem d_T_peek_0 : decode b_T_peek 0 = .ok (.aload_n 0, 1) := by decide +kernel
theorem d_T_peek_1 : decode b_T_peek 1 = .ok (.getfield 15, 3) := by decide +kernel
theorem d_T_peek_4 : decode b_T_peek 4 = .ok (.iconst (-1), 1) := by decide +kernel
theorem d_T_peek_5 : decode b_T_peek 5 = .ok (.if_icmp .ne 14, 3) := by decide +kernel
theorem d_T_peek_8 : decode b_T_peek 8 = .ok (.aload_n 0, 1) := by decide +kernel
theorem d_T_peek_9 : decode b_T_peek 9 = .ok (.getfield 22, 3) := by decide +kernel
theorem d_T_peek_12 : decode b_T_peek 12 = .ok (.aload_n 0, 1) := by decide +kernel
theorem d_T_peek_13 : decode b_T_peek 13 = .ok (.getfield 19, 3) := by decide +kernel
theorem d_T_peek_16 : decode b_T_peek 16 = .ok (.if_icmp .lt 7, 3) := by decide +kernel
theorem d_T_peek_19 : decode b_T_peek 19 = .ok (.iconst (-1), 1) := by decide +kernel
theorem d_T_peek_20 : decode b_T_peek 20 = .ok (.goto 16, 3) := by decide +kernel
theorem d_T_peek_23 : decode b_T_peek 23 = .ok (.aload_n 0, 1) := by decide +kernel
theorem d_T_peek_24 : decode b_T_peek 24 = .ok (.getfield 9, 3) := by decide +kernel
theorem d_T_peek_27 : decode b_T_peek 27 = .ok (.aload_n 0, 1) := by decide +kernel
theorem d_T_peek_28 : decode b_T_peek 28 = .ok (.getfield 22, 3) := by decide +kernel
theorem d_T_peek_31 : decode b_T_peek 31 = .ok (.baload, 1) := by decide +kernel
theorem d_T_peek_32 : decode b_T_peek 32 = .ok (.sipush 255, 3) := by decide +kernel
theorem d_T_peek_35 : decode b_T_peek 35 = .ok (.iand, 1) := by decide +kernel
theorem d_T_peek_36 : decode b_T_peek 36 = .ok (.ireturn, 1) := by decide +kernel
theorem ci_T_peek : jm_ci jm_G y_T_peek (Cond.code y_T_peek b_T_peek 1 (some FieldType.int)) 1 0 := ⟨jm_g2 206 rfl rfl, Or.inl ⟨_, _, rfl⟩, jm_g1 2 rfl rfl, ⟨by decide, by decide⟩, by decide +kernel⟩
theorem im_T_peek : Cond.instanceMethod y_T_peek ∈ jm_G := jm_g2 204 rfl rfl
theorem se_T_peek : Cond.selects y_T_peek.cls y_T_peek y_T_peek ∈ jm_G := jm_g2 205 rfl rfl
def y_T_take : MethodName := ⟨"JobHouse$Text", "take", "(I)Z"⟩
abbrev b_T_take : ByteArray := prog_9_method_7_code
theorem d_T_take_0 : decode b_T_take 0 = .ok (.aload_n 0, 1) := by decide +kernel
theorem d_T_take_1 : decode b_T_take 1 = .ok (.invokevirtual 25, 3) := by decide +kernel
theorem d_T_take_4 : decode b_T_take 4 = .ok (.iload_n 1, 1) := by decide +kernel
theorem d_T_take_5 : decode b_T_take 5 = .ok (.if_icmp .eq 5, 3) := by decide +kernel
theorem d_T_take_8 : decode b_T_take 8 = .ok (.iconst 0, 1) := by decide +kernel
theorem d_T_take_9 : decode b_T_take 9 = .ok (.ireturn, 1) := by decide +kernel
theorem d_T_take_10 : decode b_T_take 10 = .ok (.aload_n 0, 1) := by decide +kernel
theorem d_T_take_11 : decode b_T_take 11 = .ok (.dup, 1) := by decide +kernel
theorem d_T_take_12 : decode b_T_take 12 = .ok (.getfield 22, 3) := by decide +kernel
theorem d_T_take_15 : decode b_T_take 15 = .ok (.iconst 1, 1) := by decide +kernel
theorem d_T_take_16 : decode b_T_take 16 = .ok (.iadd, 1) := by decide +kernel
theorem d_T_take_17 : decode b_T_take 17 = .ok (.putfield 22, 3) := by decide +kernel
theorem d_T_take_20 : decode b_T_take 20 = .ok (.iconst 1, 1) := by decide +kernel
theorem d_T_take_21 : decode b_T_take 21 = .ok (.ireturn, 1) := by decide +kernel
theorem ci_T_take : jm_ci jm_G y_T_take (Cond.code y_T_take b_T_take 2 (some FieldType.boolean)) 2 1 := ⟨jm_g2 202 rfl rfl, Or.inl ⟨_, _, rfl⟩, jm_g1 2 rfl rfl, ⟨by decide, by decide⟩, by decide +kernel⟩
theorem im_T_take : Cond.instanceMethod y_T_take ∈ jm_G := jm_g2 200 rfl rfl
theorem se_T_take : Cond.selects y_T_take.cls y_T_take y_T_take ∈ jm_G := jm_g2 201 rfl rfl
def y_T_require : MethodName := ⟨"JobHouse$Text", "require", "(I)V"⟩
abbrev b_T_require : ByteArray := prog_9_method_8_code
theorem d_T_require_0 : decode b_T_require 0 = .ok (.aload_n 0, 1) := by decide +kernel
theorem d_T_require_1 : decode b_T_require 1 = .ok (.iload_n 1, 1) := by decide +kernel
theorem d_T_require_2 : decode b_T_require 2 = .ok (.invokevirtual 29, 3) := by decide +kernel
theorem d_T_require_5 : decode b_T_require 5 = .ok (.ifCond .ne 11, 3) := by decide +kernel
theorem d_T_require_8 : decode b_T_require 8 = .ok (.aload_n 0, 1) := by decide +kernel
theorem d_T_require_9 : decode b_T_require 9 = .ok (.aload_n 0, 1) := by decide +kernel
theorem d_T_require_10 : decode b_T_require 10 = .ok (.getfield 22, 3) := by decide +kernel
theorem d_T_require_13 : decode b_T_require 13 = .ok (.invokevirtual 33, 3) := by decide +kernel
theorem d_T_require_16 : decode b_T_require 16 = .ok (.return_, 1) := by decide +kernel
theorem ci_T_require : jm_ci jm_G y_T_require (Cond.code y_T_require b_T_require 2 (none)) 2 1 := ⟨jm_g2 210 rfl rfl, Or.inl ⟨_, _, rfl⟩, jm_g1 2 rfl rfl, ⟨by decide, by decide⟩, by decide +kernel⟩
theorem im_T_require : Cond.instanceMethod y_T_require ∈ jm_G := jm_g2 208 rfl rfl
theorem se_T_require : Cond.selects y_T_require.cls y_T_require y_T_require ∈ jm_G := jm_g2 209 rfl rfl
def y_T_requireBlanks : MethodName := ⟨"JobHouse$Text", "requireBlanks", "()V"⟩
abbrev b_T_requireBlanks : ByteArray := prog_9_method_9_code
theorem d_T_requireBlanks_0 : decode b_T_requireBlanks 0 = .ok (.aload_n 0, 1) := by decide +kernel
theorem d_T_requireBlanks_1 : decode b_T_requireBlanks 1 = .ok (.bipush 32, 2) := by decide +kernel
theorem d_T_requireBlanks_3 : decode b_T_requireBlanks 3 = .ok (.invokevirtual 37, 3) := by decide +kernel
theorem d_T_requireBlanks_6 : decode b_T_requireBlanks 6 = .ok (.aload_n 0, 1) := by decide +kernel
theorem d_T_requireBlanks_7 : decode b_T_requireBlanks 7 = .ok (.getfield 22, 3) := by decide +kernel
theorem d_T_requireBlanks_10 : decode b_T_requireBlanks 10 = .ok (.aload_n 0, 1) := by decide +kernel
theorem d_T_requireBlanks_11 : decode b_T_requireBlanks 11 = .ok (.getfield 19, 3) := by decide +kernel
theorem d_T_requireBlanks_14 : decode b_T_requireBlanks 14 = .ok (.if_icmp .ge 30, 3) := by decide +kernel
theorem d_T_requireBlanks_17 : decode b_T_requireBlanks 17 = .ok (.aload_n 0, 1) := by decide +kernel
theorem d_T_requireBlanks_18 : decode b_T_requireBlanks 18 = .ok (.getfield 9, 3) := by decide +kernel
theorem d_T_requireBlanks_21 : decode b_T_requireBlanks 21 = .ok (.aload_n 0, 1) := by decide +kernel
theorem d_T_requireBlanks_22 : decode b_T_requireBlanks 22 = .ok (.getfield 22, 3) := by decide +kernel
theorem d_T_requireBlanks_25 : decode b_T_requireBlanks 25 = .ok (.baload, 1) := by decide +kernel
theorem d_T_requireBlanks_26 : decode b_T_requireBlanks 26 = .ok (.bipush 32, 2) := by decide +kernel
theorem d_T_requireBlanks_28 : decode b_T_requireBlanks 28 = .ok (.if_icmp .ne 16, 3) := by decide +kernel
theorem d_T_requireBlanks_31 : decode b_T_requireBlanks 31 = .ok (.aload_n 0, 1) := by decide +kernel
theorem d_T_requireBlanks_32 : decode b_T_requireBlanks 32 = .ok (.dup, 1) := by decide +kernel
theorem d_T_requireBlanks_33 : decode b_T_requireBlanks 33 = .ok (.getfield 22, 3) := by decide +kernel
theorem d_T_requireBlanks_36 : decode b_T_requireBlanks 36 = .ok (.iconst 1, 1) := by decide +kernel
theorem d_T_requireBlanks_37 : decode b_T_requireBlanks 37 = .ok (.iadd, 1) := by decide +kernel
theorem d_T_requireBlanks_38 : decode b_T_requireBlanks 38 = .ok (.putfield 22, 3) := by decide +kernel
theorem d_T_requireBlanks_41 : decode b_T_requireBlanks 41 = .ok (.goto (-35), 3) := by decide +kernel
theorem d_T_requireBlanks_44 : decode b_T_requireBlanks 44 = .ok (.return_, 1) := by decide +kernel
theorem ci_T_requireBlanks : jm_ci jm_G y_T_requireBlanks (Cond.code y_T_requireBlanks b_T_requireBlanks 1 (none)) 1 0 := ⟨jm_g2 234 rfl rfl, Or.inl ⟨_, _, rfl⟩, jm_g1 2 rfl rfl, ⟨by decide, by decide⟩, by decide +kernel⟩
theorem im_T_requireBlanks : Cond.instanceMethod y_T_requireBlanks ∈ jm_G := jm_g2 232 rfl rfl
theorem se_T_requireBlanks : Cond.selects y_T_requireBlanks.cls y_T_requireBlanks y_T_requireBlanks ∈ jm_G := jm_g2 233 rfl rfl
def y_T_requireEnd : MethodName := ⟨"JobHouse$Text", "requireEnd", "()V"⟩
abbrev b_T_requireEnd : ByteArray := prog_9_method_10_code
theorem d_T_requireEnd_0 : decode b_T_requireEnd 0 = .ok (.aload_n 0, 1) := by decide +kernel
theorem d_T_requireEnd_1 : decode b_T_requireEnd 1 = .ok (.invokevirtual 40, 3) := by decide +kernel
theorem d_T_requireEnd_4 : decode b_T_requireEnd 4 = .ok (.ifCond .ne 11, 3) := by decide +kernel
theorem d_T_requireEnd_7 : decode b_T_requireEnd 7 = .ok (.aload_n 0, 1) := by decide +kernel
theorem d_T_requireEnd_8 : decode b_T_requireEnd 8 = .ok (.aload_n 0, 1) := by decide +kernel
theorem d_T_requireEnd_9 : decode b_T_requireEnd 9 = .ok (.getfield 22, 3) := by decide +kernel
theorem d_T_requireEnd_12 : decode b_T_requireEnd 12 = .ok (.invokevirtual 33, 3) := by decide +kernel
theorem d_T_requireEnd_15 : decode b_T_requireEnd 15 = .ok (.return_, 1) := by decide +kernel
theorem ci_T_requireEnd : jm_ci jm_G y_T_requireEnd (Cond.code y_T_requireEnd b_T_requireEnd 1 (none)) 1 0 := ⟨jm_g3 5 rfl rfl, Or.inl ⟨_, _, rfl⟩, jm_g1 2 rfl rfl, ⟨by decide, by decide⟩, by decide +kernel⟩
theorem im_T_requireEnd : Cond.instanceMethod y_T_requireEnd ∈ jm_G := jm_g3 3 rfl rfl
theorem se_T_requireEnd : Cond.selects y_T_requireEnd.cls y_T_requireEnd y_T_requireEnd ∈ jm_G := jm_g3 4 rfl rfl
def y_T_number : MethodName := ⟨"JobHouse$Text", "number", "(II)I"⟩
abbrev b_T_number : ByteArray := prog_9_method_11_code
theorem d_T_number_0 : decode b_T_number 0 = .ok (.aload_n 0, 1) := by decide +kernel
theorem d_T_number_1 : decode b_T_number 1 = .ok (.getfield 22, 3) := by decide +kernel
theorem d_T_number_4 : decode b_T_number 4 = .ok (.istore_n 3, 1) := by decide +kernel
theorem d_T_number_5 : decode b_T_number 5 = .ok (.iconst 0, 1) := by decide +kernel
theorem d_T_number_6 : decode b_T_number 6 = .ok (.istore 4, 2) := by decide +kernel
theorem d_T_number_8 : decode b_T_number 8 = .ok (.aload_n 0, 1) := by decide +kernel
theorem d_T_number_9 : decode b_T_number 9 = .ok (.invokevirtual 25, 3) := by decide +kernel
theorem d_T_number_12 : decode b_T_number 12 = .ok (.bipush 48, 2) := by decide +kernel
theorem d_T_number_14 : decode b_T_number 14 = .ok (.if_icmp .ne 7, 3) := by decide +kernel
theorem d_T_number_17 : decode b_T_number 17 = .ok (.iconst 1, 1) := by decide +kernel
theorem d_T_number_18 : decode b_T_number 18 = .ok (.goto 4, 3) := by decide +kernel
theorem d_T_number_21 : decode b_T_number 21 = .ok (.iconst 0, 1) := by decide +kernel
theorem d_T_number_22 : decode b_T_number 22 = .ok (.istore 5, 2) := by decide +kernel
theorem d_T_number_24 : decode b_T_number 24 = .ok (.aload_n 0, 1) := by decide +kernel
theorem d_T_number_25 : decode b_T_number 25 = .ok (.getfield 22, 3) := by decide +kernel
theorem d_T_number_28 : decode b_T_number 28 = .ok (.aload_n 0, 1) := by decide +kernel
theorem d_T_number_29 : decode b_T_number 29 = .ok (.getfield 19, 3) := by decide +kernel
theorem d_T_number_32 : decode b_T_number 32 = .ok (.if_icmp .ge 59, 3) := by decide +kernel
theorem d_T_number_35 : decode b_T_number 35 = .ok (.aload_n 0, 1) := by decide +kernel
theorem d_T_number_36 : decode b_T_number 36 = .ok (.invokevirtual 25, 3) := by decide +kernel
theorem d_T_number_39 : decode b_T_number 39 = .ok (.invokestatic 44, 3) := by decide +kernel
theorem d_T_number_42 : decode b_T_number 42 = .ok (.ifCond .eq 49, 3) := by decide +kernel
theorem d_T_number_45 : decode b_T_number 45 = .ok (.iload 5, 2) := by decide +kernel
theorem d_T_number_47 : decode b_T_number 47 = .ok (.ifCond .eq 11, 3) := by decide +kernel
theorem d_T_number_50 : decode b_T_number 50 = .ok (.aload_n 0, 1) := by decide +kernel
theorem d_T_number_51 : decode b_T_number 51 = .ok (.getfield 22, 3) := by decide +kernel
theorem d_T_number_54 : decode b_T_number 54 = .ok (.iload_n 3, 1) := by decide +kernel
theorem d_T_number_55 : decode b_T_number 55 = .ok (.if_icmp .gt 36, 3) := by decide +kernel
theorem d_T_number_58 : decode b_T_number 58 = .ok (.iload 4, 2) := by decide +kernel
theorem d_T_number_60 : decode b_T_number 60 = .ok (.bipush 10, 2) := by decide +kernel
theorem d_T_number_62 : decode b_T_number 62 = .ok (.imul, 1) := by decide +kernel
theorem d_T_number_63 : decode b_T_number 63 = .ok (.aload_n 0, 1) := by decide +kernel
theorem d_T_number_64 : decode b_T_number 64 = .ok (.invokevirtual 25, 3) := by decide +kernel
theorem d_T_number_67 : decode b_T_number 67 = .ok (.iadd, 1) := by decide +kernel
theorem d_T_number_68 : decode b_T_number 68 = .ok (.bipush 48, 2) := by decide +kernel
theorem d_T_number_70 : decode b_T_number 70 = .ok (.isub, 1) := by decide +kernel
theorem d_T_number_71 : decode b_T_number 71 = .ok (.ldc 47, 2) := by decide +kernel
theorem d_T_number_73 : decode b_T_number 73 = .ok (.invokestatic 48, 3) := by decide +kernel
theorem d_T_number_76 : decode b_T_number 76 = .ok (.istore 4, 2) := by decide +kernel
theorem d_T_number_78 : decode b_T_number 78 = .ok (.aload_n 0, 1) := by decide +kernel
theorem d_T_number_79 : decode b_T_number 79 = .ok (.dup, 1) := by decide +kernel
theorem d_T_number_80 : decode b_T_number 80 = .ok (.getfield 22, 3) := by decide +kernel
theorem d_T_number_83 : decode b_T_number 83 = .ok (.iconst 1, 1) := by decide +kernel
theorem d_T_number_84 : decode b_T_number 84 = .ok (.iadd, 1) := by decide +kernel
theorem d_T_number_85 : decode b_T_number 85 = .ok (.putfield 22, 3) := by decide +kernel
theorem d_T_number_88 : decode b_T_number 88 = .ok (.goto (-64), 3) := by decide +kernel
theorem d_T_number_91 : decode b_T_number 91 = .ok (.aload_n 0, 1) := by decide +kernel
theorem d_T_number_92 : decode b_T_number 92 = .ok (.getfield 22, 3) := by decide +kernel
theorem d_T_number_95 : decode b_T_number 95 = .ok (.iload_n 3, 1) := by decide +kernel
theorem d_T_number_96 : decode b_T_number 96 = .ok (.if_icmp .eq 15, 3) := by decide +kernel
theorem d_T_number_99 : decode b_T_number 99 = .ok (.iload 4, 2) := by decide +kernel
theorem d_T_number_101 : decode b_T_number 101 = .ok (.iload_n 1, 1) := by decide +kernel
theorem d_T_number_102 : decode b_T_number 102 = .ok (.if_icmp .lt 9, 3) := by decide +kernel
theorem d_T_number_105 : decode b_T_number 105 = .ok (.iload 4, 2) := by decide +kernel
theorem d_T_number_107 : decode b_T_number 107 = .ok (.iload_n 2, 1) := by decide +kernel
theorem d_T_number_108 : decode b_T_number 108 = .ok (.if_icmp .le 8, 3) := by decide +kernel
theorem d_T_number_111 : decode b_T_number 111 = .ok (.aload_n 0, 1) := by decide +kernel
theorem d_T_number_112 : decode b_T_number 112 = .ok (.iload_n 3, 1) := by decide +kernel
theorem d_T_number_113 : decode b_T_number 113 = .ok (.invokevirtual 33, 3) := by decide +kernel
theorem d_T_number_116 : decode b_T_number 116 = .ok (.aload_n 0, 1) := by decide +kernel
theorem d_T_number_117 : decode b_T_number 117 = .ok (.getfield 15, 3) := by decide +kernel
theorem d_T_number_120 : decode b_T_number 120 = .ok (.iconst (-1), 1) := by decide +kernel
theorem d_T_number_121 : decode b_T_number 121 = .ok (.if_icmp .ne 8, 3) := by decide +kernel
theorem d_T_number_124 : decode b_T_number 124 = .ok (.iload 4, 2) := by decide +kernel
theorem d_T_number_126 : decode b_T_number 126 = .ok (.goto 4, 3) := by decide +kernel
theorem d_T_number_129 : decode b_T_number 129 = .ok (.iload_n 1, 1) := by decide +kernel
theorem d_T_number_130 : decode b_T_number 130 = .ok (.ireturn, 1) := by decide +kernel
theorem ci_T_number : jm_ci jm_G y_T_number (Cond.code y_T_number b_T_number 6 (some FieldType.int)) 6 2 := ⟨jm_g2 219 rfl rfl, Or.inl ⟨_, _, rfl⟩, jm_g1 2 rfl rfl, ⟨by decide, by decide⟩, by decide +kernel⟩
theorem im_T_number : Cond.instanceMethod y_T_number ∈ jm_G := jm_g2 217 rfl rfl
theorem se_T_number : Cond.selects y_T_number.cls y_T_number y_T_number ∈ jm_G := jm_g2 218 rfl rfl
def y_T_takeName : MethodName := ⟨"JobHouse$Text", "takeName", "(Ljava/lang/String;)I"⟩
abbrev b_T_takeName : ByteArray := prog_9_method_12_code
theorem d_T_takeName_0 : decode b_T_takeName 0 = .ok (.aload_n 0, 1) := by decide +kernel
theorem d_T_takeName_1 : decode b_T_takeName 1 = .ok (.getfield 15, 3) := by decide +kernel
theorem d_T_takeName_4 : decode b_T_takeName 4 = .ok (.iconst (-1), 1) := by decide +kernel
theorem d_T_takeName_5 : decode b_T_takeName 5 = .ok (.if_icmp .ne 20, 3) := by decide +kernel
theorem d_T_takeName_8 : decode b_T_takeName 8 = .ok (.aload_n 0, 1) := by decide +kernel
theorem d_T_takeName_9 : decode b_T_takeName 9 = .ok (.getfield 22, 3) := by decide +kernel
theorem d_T_takeName_12 : decode b_T_takeName 12 = .ok (.iconst 3, 1) := by decide +kernel
theorem d_T_takeName_13 : decode b_T_takeName 13 = .ok (.iadd, 1) := by decide +kernel
theorem d_T_takeName_14 : decode b_T_takeName 14 = .ok (.aload_n 0, 1) := by decide +kernel
theorem d_T_takeName_15 : decode b_T_takeName 15 = .ok (.getfield 19, 3) := by decide +kernel
theorem d_T_takeName_18 : decode b_T_takeName 18 = .ok (.if_icmp .gt 7, 3) := by decide +kernel
theorem d_T_takeName_21 : decode b_T_takeName 21 = .ok (.iconst 1, 1) := by decide +kernel
theorem d_T_takeName_22 : decode b_T_takeName 22 = .ok (.goto 4, 3) := by decide +kernel
theorem d_T_takeName_25 : decode b_T_takeName 25 = .ok (.iconst 0, 1) := by decide +kernel
theorem d_T_takeName_26 : decode b_T_takeName 26 = .ok (.istore_n 2, 1) := by decide +kernel
theorem d_T_takeName_27 : decode b_T_takeName 27 = .ok (.iconst 0, 1) := by decide +kernel
theorem d_T_takeName_28 : decode b_T_takeName 28 = .ok (.istore_n 3, 1) := by decide +kernel
theorem d_T_takeName_29 : decode b_T_takeName 29 = .ok (.iload_n 2, 1) := by decide +kernel
theorem d_T_takeName_30 : decode b_T_takeName 30 = .ok (.ifCond .eq 92, 3) := by decide +kernel
theorem d_T_takeName_33 : decode b_T_takeName 33 = .ok (.iload_n 3, 1) := by decide +kernel
theorem d_T_takeName_34 : decode b_T_takeName 34 = .ok (.iconst 3, 1) := by decide +kernel
theorem d_T_takeName_35 : decode b_T_takeName 35 = .ok (.iadd, 1) := by decide +kernel
theorem d_T_takeName_36 : decode b_T_takeName 36 = .ok (.aload_n 1, 1) := by decide +kernel
theorem d_T_takeName_37 : decode b_T_takeName 37 = .ok (.invokevirtual 54, 3) := by decide +kernel
theorem d_T_takeName_40 : decode b_T_takeName 40 = .ok (.if_icmp .gt 82, 3) := by decide +kernel
theorem d_T_takeName_43 : decode b_T_takeName 43 = .ok (.aload_n 0, 1) := by decide +kernel
theorem d_T_takeName_44 : decode b_T_takeName 44 = .ok (.getfield 9, 3) := by decide +kernel
theorem d_T_takeName_47 : decode b_T_takeName 47 = .ok (.aload_n 0, 1) := by decide +kernel
theorem d_T_takeName_48 : decode b_T_takeName 48 = .ok (.getfield 22, 3) := by decide +kernel
theorem d_T_takeName_51 : decode b_T_takeName 51 = .ok (.baload, 1) := by decide +kernel
theorem d_T_takeName_52 : decode b_T_takeName 52 = .ok (.aload_n 1, 1) := by decide +kernel
theorem d_T_takeName_53 : decode b_T_takeName 53 = .ok (.iload_n 3, 1) := by decide +kernel
theorem d_T_takeName_54 : decode b_T_takeName 54 = .ok (.invokevirtual 58, 3) := by decide +kernel
theorem d_T_takeName_57 : decode b_T_takeName 57 = .ok (.if_icmp .ne 59, 3) := by decide +kernel
theorem d_T_takeName_60 : decode b_T_takeName 60 = .ok (.aload_n 0, 1) := by decide +kernel
theorem d_T_takeName_61 : decode b_T_takeName 61 = .ok (.getfield 9, 3) := by decide +kernel
theorem d_T_takeName_64 : decode b_T_takeName 64 = .ok (.aload_n 0, 1) := by decide +kernel
theorem d_T_takeName_65 : decode b_T_takeName 65 = .ok (.getfield 22, 3) := by decide +kernel
theorem d_T_takeName_68 : decode b_T_takeName 68 = .ok (.iconst 1, 1) := by decide +kernel
theorem d_T_takeName_69 : decode b_T_takeName 69 = .ok (.iadd, 1) := by decide +kernel
theorem d_T_takeName_70 : decode b_T_takeName 70 = .ok (.baload, 1) := by decide +kernel
theorem d_T_takeName_71 : decode b_T_takeName 71 = .ok (.aload_n 1, 1) := by decide +kernel
theorem d_T_takeName_72 : decode b_T_takeName 72 = .ok (.iload_n 3, 1) := by decide +kernel
theorem d_T_takeName_73 : decode b_T_takeName 73 = .ok (.iconst 1, 1) := by decide +kernel
theorem d_T_takeName_74 : decode b_T_takeName 74 = .ok (.iadd, 1) := by decide +kernel
theorem d_T_takeName_75 : decode b_T_takeName 75 = .ok (.invokevirtual 58, 3) := by decide +kernel
theorem d_T_takeName_78 : decode b_T_takeName 78 = .ok (.if_icmp .ne 38, 3) := by decide +kernel
theorem d_T_takeName_81 : decode b_T_takeName 81 = .ok (.aload_n 0, 1) := by decide +kernel
theorem d_T_takeName_82 : decode b_T_takeName 82 = .ok (.getfield 9, 3) := by decide +kernel
theorem d_T_takeName_85 : decode b_T_takeName 85 = .ok (.aload_n 0, 1) := by decide +kernel
theorem d_T_takeName_86 : decode b_T_takeName 86 = .ok (.getfield 22, 3) := by decide +kernel
theorem d_T_takeName_89 : decode b_T_takeName 89 = .ok (.iconst 2, 1) := by decide +kernel
theorem d_T_takeName_90 : decode b_T_takeName 90 = .ok (.iadd, 1) := by decide +kernel
theorem d_T_takeName_91 : decode b_T_takeName 91 = .ok (.baload, 1) := by decide +kernel
theorem d_T_takeName_92 : decode b_T_takeName 92 = .ok (.aload_n 1, 1) := by decide +kernel
theorem d_T_takeName_93 : decode b_T_takeName 93 = .ok (.iload_n 3, 1) := by decide +kernel
theorem d_T_takeName_94 : decode b_T_takeName 94 = .ok (.iconst 2, 1) := by decide +kernel
theorem d_T_takeName_95 : decode b_T_takeName 95 = .ok (.iadd, 1) := by decide +kernel
theorem d_T_takeName_96 : decode b_T_takeName 96 = .ok (.invokevirtual 58, 3) := by decide +kernel
theorem d_T_takeName_99 : decode b_T_takeName 99 = .ok (.if_icmp .ne 17, 3) := by decide +kernel
theorem d_T_takeName_102 : decode b_T_takeName 102 = .ok (.aload_n 0, 1) := by decide +kernel
theorem d_T_takeName_103 : decode b_T_takeName 103 = .ok (.dup, 1) := by decide +kernel
theorem d_T_takeName_104 : decode b_T_takeName 104 = .ok (.getfield 22, 3) := by decide +kernel
theorem d_T_takeName_107 : decode b_T_takeName 107 = .ok (.iconst 3, 1) := by decide +kernel
theorem d_T_takeName_108 : decode b_T_takeName 108 = .ok (.iadd, 1) := by decide +kernel
theorem d_T_takeName_109 : decode b_T_takeName 109 = .ok (.putfield 22, 3) := by decide +kernel
theorem d_T_takeName_112 : decode b_T_takeName 112 = .ok (.iload_n 3, 1) := by decide +kernel
theorem d_T_takeName_113 : decode b_T_takeName 113 = .ok (.iconst 3, 1) := by decide +kernel
theorem d_T_takeName_114 : decode b_T_takeName 114 = .ok (.idiv, 1) := by decide +kernel
theorem d_T_takeName_115 : decode b_T_takeName 115 = .ok (.ireturn, 1) := by decide +kernel
theorem d_T_takeName_116 : decode b_T_takeName 116 = .ok (.iinc 3 3, 3) := by decide +kernel
theorem d_T_takeName_119 : decode b_T_takeName 119 = .ok (.goto (-90), 3) := by decide +kernel
theorem d_T_takeName_122 : decode b_T_takeName 122 = .ok (.iconst (-1), 1) := by decide +kernel
theorem d_T_takeName_123 : decode b_T_takeName 123 = .ok (.ireturn, 1) := by decide +kernel
theorem ci_T_takeName : jm_ci jm_G y_T_takeName (Cond.code y_T_takeName b_T_takeName 4 (some FieldType.int)) 4 1 := ⟨jm_g3 61 rfl rfl, Or.inl ⟨_, _, rfl⟩, jm_g1 2 rfl rfl, ⟨by decide, by decide⟩, by decide +kernel⟩
theorem im_T_takeName : Cond.instanceMethod y_T_takeName ∈ jm_G := jm_g3 59 rfl rfl
theorem se_T_takeName : Cond.selects y_T_takeName.cls y_T_takeName y_T_takeName ∈ jm_G := jm_g3 60 rfl rfl
def y_T_isDigit : MethodName := ⟨"JobHouse$Text", "isDigit", "(I)Z"⟩
abbrev b_T_isDigit : ByteArray := prog_9_method_13_code
theorem d_T_isDigit_0 : decode b_T_isDigit 0 = .ok (.iload_n 0, 1) := by decide +kernel
theorem d_T_isDigit_1 : decode b_T_isDigit 1 = .ok (.bipush 48, 2) := by decide +kernel
theorem d_T_isDigit_3 : decode b_T_isDigit 3 = .ok (.if_icmp .lt 13, 3) := by decide +kernel
theorem d_T_isDigit_6 : decode b_T_isDigit 6 = .ok (.iload_n 0, 1) := by decide +kernel
theorem d_T_isDigit_7 : decode b_T_isDigit 7 = .ok (.bipush 57, 2) := by decide +kernel
theorem d_T_isDigit_9 : decode b_T_isDigit 9 = .ok (.if_icmp .gt 7, 3) := by decide +kernel
theorem d_T_isDigit_12 : decode b_T_isDigit 12 = .ok (.iconst 1, 1) := by decide +kernel
theorem d_T_isDigit_13 : decode b_T_isDigit 13 = .ok (.goto 4, 3) := by decide +kernel
theorem d_T_isDigit_16 : decode b_T_isDigit 16 = .ok (.iconst 0, 1) := by decide +kernel
theorem d_T_isDigit_17 : decode b_T_isDigit 17 = .ok (.ireturn, 1) := by decide +kernel
theorem ci_T_isDigit : jm_ci jm_G y_T_isDigit (Cond.code y_T_isDigit b_T_isDigit 1 (some FieldType.boolean)) 1 1 := ⟨jm_g2 222 rfl rfl, Or.inl ⟨_, _, rfl⟩, jm_g1 2 rfl rfl, ⟨by decide, by decide⟩, by decide +kernel⟩
theorem st_T_isDigit : Cond.static y_T_isDigit ∈ jm_G := jm_g2 221 rfl rfl
