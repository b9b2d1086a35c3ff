def y_CR_readCron : MethodName := ⟨"JobHouse$CronReader", "readCron", "(LJobHouse$Text;LJobHouse$Cron;)V"⟩
abbrev b_CR_readCron : ByteArray := prog_3_method_2_code
theorem d_CR_readCron_0 : decode b_CR_readCron 0 = .ok (.aload_n 1, 1) := by decide +kernel
theorem d_CR_readCron_1 : decode b_CR_readCron 1 = .ok (.invokevirtual 9, 3) := by decide +kernel
theorem d_CR_readCron_4 : decode b_CR_readCron 4 = .ok (.aload_n 0, 1) := by decide +kernel
theorem d_CR_readCron_5 : decode b_CR_readCron 5 = .ok (.aload_n 1, 1) := by decide +kernel
theorem d_CR_readCron_6 : decode b_CR_readCron 6 = .ok (.iconst 0, 1) := by decide +kernel
theorem d_CR_readCron_7 : decode b_CR_readCron 7 = .ok (.invokestatic 14, 3) := by decide +kernel
theorem d_CR_readCron_10 : decode b_CR_readCron 10 = .ok (.aload_n 0, 1) := by decide +kernel
theorem d_CR_readCron_11 : decode b_CR_readCron 11 = .ok (.invokevirtual 20, 3) := by decide +kernel
theorem d_CR_readCron_14 : decode b_CR_readCron 14 = .ok (.aload_n 0, 1) := by decide +kernel
theorem d_CR_readCron_15 : decode b_CR_readCron 15 = .ok (.aload_n 1, 1) := by decide +kernel
theorem d_CR_readCron_16 : decode b_CR_readCron 16 = .ok (.iconst 1, 1) := by decide +kernel
theorem d_CR_readCron_17 : decode b_CR_readCron 17 = .ok (.invokestatic 14, 3) := by decide +kernel
theorem d_CR_readCron_20 : decode b_CR_readCron 20 = .ok (.aload_n 0, 1) := by decide +kernel
theorem d_CR_readCron_21 : decode b_CR_readCron 21 = .ok (.invokevirtual 20, 3) := by decide +kernel
theorem d_CR_readCron_24 : decode b_CR_readCron 24 = .ok (.aload_n 0, 1) := by decide +kernel
theorem d_CR_readCron_25 : decode b_CR_readCron 25 = .ok (.aload_n 1, 1) := by decide +kernel
theorem d_CR_readCron_26 : decode b_CR_readCron 26 = .ok (.iconst 2, 1) := by decide +kernel
theorem d_CR_readCron_27 : decode b_CR_readCron 27 = .ok (.invokestatic 14, 3) := by decide +kernel
theorem d_CR_readCron_30 : decode b_CR_readCron 30 = .ok (.aload_n 0, 1) := by decide +kernel
theorem d_CR_readCron_31 : decode b_CR_readCron 31 = .ok (.invokevirtual 20, 3) := by decide +kernel
theorem d_CR_readCron_34 : decode b_CR_readCron 34 = .ok (.aload_n 0, 1) := by decide +kernel
theorem d_CR_readCron_35 : decode b_CR_readCron 35 = .ok (.aload_n 1, 1) := by decide +kernel
theorem d_CR_readCron_36 : decode b_CR_readCron 36 = .ok (.invokestatic 25, 3) := by decide +kernel
theorem d_CR_readCron_39 : decode b_CR_readCron 39 = .ok (.ifCond .ne 9, 3) := by decide +kernel
theorem d_CR_readCron_42 : decode b_CR_readCron 42 = .ok (.aload_n 0, 1) := by decide +kernel
theorem d_CR_readCron_43 : decode b_CR_readCron 43 = .ok (.aload_n 1, 1) := by decide +kernel
theorem d_CR_readCron_44 : decode b_CR_readCron 44 = .ok (.iconst 3, 1) := by decide +kernel
theorem d_CR_readCron_45 : decode b_CR_readCron 45 = .ok (.invokestatic 14, 3) := by decide +kernel
theorem d_CR_readCron_48 : decode b_CR_readCron 48 = .ok (.aload_n 0, 1) := by decide +kernel
theorem d_CR_readCron_49 : decode b_CR_readCron 49 = .ok (.invokevirtual 20, 3) := by decide +kernel
theorem d_CR_readCron_52 : decode b_CR_readCron 52 = .ok (.aload_n 0, 1) := by decide +kernel
theorem d_CR_readCron_53 : decode b_CR_readCron 53 = .ok (.aload_n 1, 1) := by decide +kernel
theorem d_CR_readCron_54 : decode b_CR_readCron 54 = .ok (.iconst 4, 1) := by decide +kernel
theorem d_CR_readCron_55 : decode b_CR_readCron 55 = .ok (.invokestatic 14, 3) := by decide +kernel
theorem d_CR_readCron_58 : decode b_CR_readCron 58 = .ok (.aload_n 0, 1) := by decide +kernel
theorem d_CR_readCron_59 : decode b_CR_readCron 59 = .ok (.invokevirtual 20, 3) := by decide +kernel
theorem d_CR_readCron_62 : decode b_CR_readCron 62 = .ok (.aload_n 0, 1) := by decide +kernel
theorem d_CR_readCron_63 : decode b_CR_readCron 63 = .ok (.aload_n 1, 1) := by decide +kernel
theorem d_CR_readCron_64 : decode b_CR_readCron 64 = .ok (.invokestatic 29, 3) := by decide +kernel
theorem d_CR_readCron_67 : decode b_CR_readCron 67 = .ok (.ifCond .ne 9, 3) := by decide +kernel
theorem d_CR_readCron_70 : decode b_CR_readCron 70 = .ok (.aload_n 0, 1) := by decide +kernel
theorem d_CR_readCron_71 : decode b_CR_readCron 71 = .ok (.aload_n 1, 1) := by decide +kernel
theorem d_CR_readCron_72 : decode b_CR_readCron 72 = .ok (.iconst 5, 1) := by decide +kernel
theorem d_CR_readCron_73 : decode b_CR_readCron 73 = .ok (.invokestatic 14, 3) := by decide +kernel
theorem d_CR_readCron_76 : decode b_CR_readCron 76 = .ok (.aload_n 0, 1) := by decide +kernel
theorem d_CR_readCron_77 : decode b_CR_readCron 77 = .ok (.invokevirtual 32, 3) := by decide +kernel
theorem d_CR_readCron_80 : decode b_CR_readCron 80 = .ok (.ifCond .eq 17, 3) := by decide +kernel
theorem d_CR_readCron_83 : decode b_CR_readCron 83 = .ok (.aload_n 1, 1) := by decide +kernel
theorem d_CR_readCron_84 : decode b_CR_readCron 84 = .ok (.bipush 6, 2) := by decide +kernel
theorem d_CR_readCron_86 : decode b_CR_readCron 86 = .ok (.sipush 1970, 3) := by decide +kernel
theorem d_CR_readCron_89 : decode b_CR_readCron 89 = .ok (.sipush 2299, 3) := by decide +kernel
theorem d_CR_readCron_92 : decode b_CR_readCron 92 = .ok (.iconst 1, 1) := by decide +kernel
theorem d_CR_readCron_93 : decode b_CR_readCron 93 = .ok (.invokestatic 36, 3) := by decide +kernel
theorem d_CR_readCron_96 : decode b_CR_readCron 96 = .ok (.return_, 1) := by decide +kernel
theorem d_CR_readCron_97 : decode b_CR_readCron 97 = .ok (.aload_n 0, 1) := by decide +kernel
theorem d_CR_readCron_98 : decode b_CR_readCron 98 = .ok (.invokevirtual 20, 3) := by decide +kernel
theorem d_CR_readCron_101 : decode b_CR_readCron 101 = .ok (.aload_n 0, 1) := by decide +kernel
theorem d_CR_readCron_102 : decode b_CR_readCron 102 = .ok (.aload_n 1, 1) := by decide +kernel
theorem d_CR_readCron_103 : decode b_CR_readCron 103 = .ok (.bipush 6, 2) := by decide +kernel
theorem d_CR_readCron_105 : decode b_CR_readCron 105 = .ok (.invokestatic 14, 3) := by decide +kernel
theorem d_CR_readCron_108 : decode b_CR_readCron 108 = .ok (.aload_n 0, 1) := by decide +kernel
theorem d_CR_readCron_109 : decode b_CR_readCron 109 = .ok (.invokevirtual 40, 3) := by decide +kernel
theorem d_CR_readCron_112 : decode b_CR_readCron 112 = .ok (.return_, 1) := by decide +kernel
theorem ci_CR_readCron : jm_ci jm_G y_CR_readCron (Cond.code y_CR_readCron b_CR_readCron 2 (none)) 2 2 := ⟨jm_g3 36 rfl rfl, Or.inl ⟨_, _, rfl⟩, jm_g1 18 rfl rfl, ⟨by decide, by decide⟩, by decide +kernel⟩
theorem st_CR_readCron : Cond.static y_CR_readCron ∈ jm_G := jm_g3 35 rfl rfl
def y_CR_takeDayRule : MethodName := ⟨"JobHouse$CronReader", "takeDayRule", "(LJobHouse$Text;LJobHouse$Cron;)Z"⟩
abbrev b_CR_takeDayRule : ByteArray := prog_3_method_3_code
theorem d_CR_takeDayRule_0 : decode b_CR_takeDayRule 0 = .ok (.aload_n 0, 1) := by decide +kernel
theorem d_CR_takeDayRule_1 : decode b_CR_takeDayRule 1 = .ok (.bipush 63, 2) := by decide +kernel
theorem d_CR_takeDayRule_3 : decode b_CR_takeDayRule 3 = .ok (.invokevirtual 43, 3) := by decide +kernel
theorem d_CR_takeDayRule_6 : decode b_CR_takeDayRule 6 = .ok (.ifCond .eq 10, 3) := by decide +kernel
theorem d_CR_takeDayRule_9 : decode b_CR_takeDayRule 9 = .ok (.aload_n 1, 1) := by decide +kernel
theorem d_CR_takeDayRule_10 : decode b_CR_takeDayRule 10 = .ok (.iconst 1, 1) := by decide +kernel
theorem d_CR_takeDayRule_11 : decode b_CR_takeDayRule 11 = .ok (.putfield 47, 3) := by decide +kernel
theorem d_CR_takeDayRule_14 : decode b_CR_takeDayRule 14 = .ok (.iconst 1, 1) := by decide +kernel
theorem d_CR_takeDayRule_15 : decode b_CR_takeDayRule 15 = .ok (.ireturn, 1) := by decide +kernel
theorem d_CR_takeDayRule_16 : decode b_CR_takeDayRule 16 = .ok (.aload_n 0, 1) := by decide +kernel
theorem d_CR_takeDayRule_17 : decode b_CR_takeDayRule 17 = .ok (.bipush 76, 2) := by decide +kernel
theorem d_CR_takeDayRule_19 : decode b_CR_takeDayRule 19 = .ok (.invokevirtual 43, 3) := by decide +kernel
theorem d_CR_takeDayRule_22 : decode b_CR_takeDayRule 22 = .ok (.ifCond .ne 5, 3) := by decide +kernel
theorem d_CR_takeDayRule_25 : decode b_CR_takeDayRule 25 = .ok (.iconst 0, 1) := by decide +kernel
theorem d_CR_takeDayRule_26 : decode b_CR_takeDayRule 26 = .ok (.ireturn, 1) := by decide +kernel
theorem d_CR_takeDayRule_27 : decode b_CR_takeDayRule 27 = .ok (.aload_n 0, 1) := by decide +kernel
theorem d_CR_takeDayRule_28 : decode b_CR_takeDayRule 28 = .ok (.bipush 87, 2) := by decide +kernel
theorem d_CR_takeDayRule_30 : decode b_CR_takeDayRule 30 = .ok (.invokevirtual 43, 3) := by decide +kernel
theorem d_CR_takeDayRule_33 : decode b_CR_takeDayRule 33 = .ok (.ifCond .eq 11, 3) := by decide +kernel
theorem d_CR_takeDayRule_36 : decode b_CR_takeDayRule 36 = .ok (.aload_n 1, 1) := by decide +kernel
theorem d_CR_takeDayRule_37 : decode b_CR_takeDayRule 37 = .ok (.iconst 3, 1) := by decide +kernel
theorem d_CR_takeDayRule_38 : decode b_CR_takeDayRule 38 = .ok (.putfield 47, 3) := by decide +kernel
theorem d_CR_takeDayRule_41 : decode b_CR_takeDayRule 41 = .ok (.goto 32, 3) := by decide +kernel
theorem d_CR_takeDayRule_44 : decode b_CR_takeDayRule 44 = .ok (.aload_n 1, 1) := by decide +kernel
theorem d_CR_takeDayRule_45 : decode b_CR_takeDayRule 45 = .ok (.iconst 2, 1) := by decide +kernel
theorem d_CR_takeDayRule_46 : decode b_CR_takeDayRule 46 = .ok (.putfield 47, 3) := by decide +kernel
theorem d_CR_takeDayRule_49 : decode b_CR_takeDayRule 49 = .ok (.aload_n 1, 1) := by decide +kernel
theorem d_CR_takeDayRule_50 : decode b_CR_takeDayRule 50 = .ok (.aload_n 0, 1) := by decide +kernel
theorem d_CR_takeDayRule_51 : decode b_CR_takeDayRule 51 = .ok (.bipush 45, 2) := by decide +kernel
theorem d_CR_takeDayRule_53 : decode b_CR_takeDayRule 53 = .ok (.invokevirtual 43, 3) := by decide +kernel
theorem d_CR_takeDayRule_56 : decode b_CR_takeDayRule 56 = .ok (.ifCond .eq 13, 3) := by decide +kernel
theorem d_CR_takeDayRule_59 : decode b_CR_takeDayRule 59 = .ok (.aload_n 0, 1) := by decide +kernel
theorem d_CR_takeDayRule_60 : decode b_CR_takeDayRule 60 = .ok (.iconst 1, 1) := by decide +kernel
theorem d_CR_takeDayRule_61 : decode b_CR_takeDayRule 61 = .ok (.bipush 30, 2) := by decide +kernel
theorem d_CR_takeDayRule_63 : decode b_CR_takeDayRule 63 = .ok (.invokevirtual 51, 3) := by decide +kernel
theorem d_CR_takeDayRule_66 : decode b_CR_takeDayRule 66 = .ok (.goto 4, 3) := by decide +kernel
theorem d_CR_takeDayRule_69 : decode b_CR_takeDayRule 69 = .ok (.iconst 0, 1) := by decide +kernel
theorem d_CR_takeDayRule_70 : decode b_CR_takeDayRule 70 = .ok (.putfield 55, 3) := by decide +kernel
theorem d_CR_takeDayRule_73 : decode b_CR_takeDayRule 73 = .ok (.iconst 1, 1) := by decide +kernel
theorem d_CR_takeDayRule_74 : decode b_CR_takeDayRule 74 = .ok (.ireturn, 1) := by decide +kernel
theorem ci_CR_takeDayRule : jm_ci jm_G y_CR_takeDayRule (Cond.code y_CR_takeDayRule b_CR_takeDayRule 2 (some FieldType.boolean)) 2 2 := ⟨jm_g3 133 rfl rfl, Or.inl ⟨_, _, rfl⟩, jm_g1 18 rfl rfl, ⟨by decide, by decide⟩, by decide +kernel⟩
theorem st_CR_takeDayRule : Cond.static y_CR_takeDayRule ∈ jm_G := jm_g3 132 rfl rfl
def y_CR_takeWeekdayRule : MethodName := ⟨"JobHouse$CronReader", "takeWeekdayRule", "(LJobHouse$Text;LJobHouse$Cron;)Z"⟩
abbrev b_CR_takeWeekdayRule : ByteArray := prog_3_method_4_code
theorem d_CR_takeWeekdayRule_0 : decode b_CR_takeWeekdayRule 0 = .ok (.aload_n 1, 1) := by decide +kernel
theorem d_CR_takeWeekdayRule_1 : decode b_CR_takeWeekdayRule 1 = .ok (.getfield 47, 3) := by decide +kernel
theorem d_CR_takeWeekdayRule_4 : decode b_CR_takeWeekdayRule 4 = .ok (.iconst 1, 1) := by decide +kernel
theorem d_CR_takeWeekdayRule_5 : decode b_CR_takeWeekdayRule 5 = .ok (.if_icmp .eq 11, 3) := by decide +kernel
theorem d_CR_takeWeekdayRule_8 : decode b_CR_takeWeekdayRule 8 = .ok (.aload_n 0, 1) := by decide +kernel
theorem d_CR_takeWeekdayRule_9 : decode b_CR_takeWeekdayRule 9 = .ok (.bipush 63, 2) := by decide +kernel
theorem d_CR_takeWeekdayRule_11 : decode b_CR_takeWeekdayRule 11 = .ok (.invokevirtual 58, 3) := by decide +kernel
theorem d_CR_takeWeekdayRule_14 : decode b_CR_takeWeekdayRule 14 = .ok (.iconst 1, 1) := by decide +kernel
theorem d_CR_takeWeekdayRule_15 : decode b_CR_takeWeekdayRule 15 = .ok (.ireturn, 1) := by decide +kernel
theorem d_CR_takeWeekdayRule_16 : decode b_CR_takeWeekdayRule 16 = .ok (.aload_n 0, 1) := by decide +kernel
theorem d_CR_takeWeekdayRule_17 : decode b_CR_takeWeekdayRule 17 = .ok (.bipush 76, 2) := by decide +kernel
theorem d_CR_takeWeekdayRule_19 : decode b_CR_takeWeekdayRule 19 = .ok (.invokevirtual 43, 3) := by decide +kernel
theorem d_CR_takeWeekdayRule_22 : decode b_CR_takeWeekdayRule 22 = .ok (.ifCond .eq 12, 3) := by decide +kernel
theorem d_CR_takeWeekdayRule_25 : decode b_CR_takeWeekdayRule 25 = .ok (.aload_n 1, 1) := by decide +kernel
theorem d_CR_takeWeekdayRule_26 : decode b_CR_takeWeekdayRule 26 = .ok (.iconst 5, 1) := by decide +kernel
theorem d_CR_takeWeekdayRule_27 : decode b_CR_takeWeekdayRule 27 = .ok (.bipush 7, 2) := by decide +kernel
theorem d_CR_takeWeekdayRule_29 : decode b_CR_takeWeekdayRule 29 = .ok (.invokevirtual 62, 3) := by decide +kernel
theorem d_CR_takeWeekdayRule_32 : decode b_CR_takeWeekdayRule 32 = .ok (.iconst 1, 1) := by decide +kernel
theorem d_CR_takeWeekdayRule_33 : decode b_CR_takeWeekdayRule 33 = .ok (.ireturn, 1) := by decide +kernel
theorem d_CR_takeWeekdayRule_34 : decode b_CR_takeWeekdayRule 34 = .ok (.iconst 0, 1) := by decide +kernel
theorem d_CR_takeWeekdayRule_35 : decode b_CR_takeWeekdayRule 35 = .ok (.ireturn, 1) := by decide +kernel
theorem ci_CR_takeWeekdayRule : jm_ci jm_G y_CR_takeWeekdayRule (Cond.code y_CR_takeWeekdayRule b_CR_takeWeekdayRule 2 (some FieldType.boolean)) 2 2 := ⟨jm_g3 136 rfl rfl, Or.inl ⟨_, _, rfl⟩, jm_g1 18 rfl rfl, ⟨by decide, by decide⟩, by decide +kernel⟩
theorem st_CR_takeWeekdayRule : Cond.static y_CR_takeWeekdayRule ∈ jm_G := jm_g3 135 rfl rfl
def y_CR_readItems : MethodName := ⟨"JobHouse$CronReader", "readItems", "(LJobHouse$Text;LJobHouse$Cron;I)V"⟩
abbrev b_CR_readItems : ByteArray := prog_3_method_5_code
theorem d_CR_readItems_0 : decode b_CR_readItems 0 = .ok (.iconst 1, 1) := by decide +kernel
theorem d_CR_readItems_1 : decode b_CR_readItems 1 = .ok (.istore_n 3, 1) := by decide +kernel
theorem d_CR_readItems_2 : decode b_CR_readItems 2 = .ok (.iconst 0, 1) := by decide +kernel
theorem d_CR_readItems_3 : decode b_CR_readItems 3 = .ok (.istore 4, 2) := by decide +kernel
theorem d_CR_readItems_5 : decode b_CR_readItems 5 = .ok (.iload_n 3, 1) := by decide +kernel
theorem d_CR_readItems_6 : decode b_CR_readItems 6 = .ok (.ifCond .eq 51, 3) := by decide +kernel
theorem d_CR_readItems_9 : decode b_CR_readItems 9 = .ok (.iload 4, 2) := by decide +kernel
theorem d_CR_readItems_11 : decode b_CR_readItems 11 = .ok (.sipush 400, 3) := by decide +kernel
theorem d_CR_readItems_14 : decode b_CR_readItems 14 = .ok (.if_icmp .ge 43, 3) := by decide +kernel
theorem d_CR_readItems_17 : decode b_CR_readItems 17 = .ok (.aload_n 0, 1) := by decide +kernel
theorem d_CR_readItems_18 : decode b_CR_readItems 18 = .ok (.aload_n 1, 1) := by decide +kernel
theorem d_CR_readItems_19 : decode b_CR_readItems 19 = .ok (.iload_n 2, 1) := by decide +kernel
theorem d_CR_readItems_20 : decode b_CR_readItems 20 = .ok (.iload 4, 2) := by decide +kernel
theorem d_CR_readItems_22 : decode b_CR_readItems 22 = .ok (.ifCond .ne 7, 3) := by decide +kernel
theorem d_CR_readItems_25 : decode b_CR_readItems 25 = .ok (.iconst 1, 1) := by decide +kernel
theorem d_CR_readItems_26 : decode b_CR_readItems 26 = .ok (.goto 4, 3) := by decide +kernel
theorem d_CR_readItems_29 : decode b_CR_readItems 29 = .ok (.iconst 0, 1) := by decide +kernel
theorem d_CR_readItems_30 : decode b_CR_readItems 30 = .ok (.invokestatic 66, 3) := by decide +kernel
theorem d_CR_readItems_33 : decode b_CR_readItems 33 = .ok (.ifCond .eq 16, 3) := by decide +kernel
theorem d_CR_readItems_36 : decode b_CR_readItems 36 = .ok (.aload_n 0, 1) := by decide +kernel
theorem d_CR_readItems_37 : decode b_CR_readItems 37 = .ok (.bipush 44, 2) := by decide +kernel
theorem d_CR_readItems_39 : decode b_CR_readItems 39 = .ok (.invokevirtual 43, 3) := by decide +kernel
theorem d_CR_readItems_42 : decode b_CR_readItems 42 = .ok (.ifCond .eq 7, 3) := by decide +kernel
theorem d_CR_readItems_45 : decode b_CR_readItems 45 = .ok (.iconst 1, 1) := by decide +kernel
theorem d_CR_readItems_46 : decode b_CR_readItems 46 = .ok (.goto 4, 3) := by decide +kernel
theorem d_CR_readItems_49 : decode b_CR_readItems 49 = .ok (.iconst 0, 1) := by decide +kernel
theorem d_CR_readItems_50 : decode b_CR_readItems 50 = .ok (.istore_n 3, 1) := by decide +kernel
theorem d_CR_readItems_51 : decode b_CR_readItems 51 = .ok (.iinc 4 1, 3) := by decide +kernel
theorem d_CR_readItems_54 : decode b_CR_readItems 54 = .ok (.goto (-49), 3) := by decide +kernel
theorem d_CR_readItems_57 : decode b_CR_readItems 57 = .ok (.return_, 1) := by decide +kernel
theorem ci_CR_readItems : jm_ci jm_G y_CR_readItems (Cond.code y_CR_readItems b_CR_readItems 5 (none)) 5 3 := ⟨jm_g3 43 rfl rfl, Or.inl ⟨_, _, rfl⟩, jm_g1 18 rfl rfl, ⟨by decide, by decide⟩, by decide +kernel⟩
theorem st_CR_readItems : Cond.static y_CR_readItems ∈ jm_G := jm_g3 42 rfl rfl
def y_CR_readItem : MethodName := ⟨"JobHouse$CronReader", "readItem", "(LJobHouse$Text;LJobHouse$Cron;IZ)Z"⟩
abbrev b_CR_readItem : ByteArray := prog_3_method_6_code
theorem d_CR_readItem_0 : decode b_CR_readItem 0 = .ok (.iload_n 2, 1) := by decide +kernel
theorem d_CR_readItem_1 : decode b_CR_readItem 1 = .ok (.invokestatic 70, 3) := by decide +kernel
theorem d_CR_readItem_4 : decode b_CR_readItem 4 = .ok (.istore 4, 2) := by decide +kernel
theorem d_CR_readItem_6 : decode b_CR_readItem 6 = .ok (.iload_n 2, 1) := by decide +kernel
theorem d_CR_readItem_7 : decode b_CR_readItem 7 = .ok (.invokestatic 74, 3) := by decide +kernel
theorem d_CR_readItem_10 : decode b_CR_readItem 10 = .ok (.istore 5, 2) := by decide +kernel
theorem d_CR_readItem_12 : decode b_CR_readItem 12 = .ok (.aload_n 0, 1) := by decide +kernel
theorem d_CR_readItem_13 : decode b_CR_readItem 13 = .ok (.bipush 42, 2) := by decide +kernel
theorem d_CR_readItem_15 : decode b_CR_readItem 15 = .ok (.invokevirtual 43, 3) := by decide +kernel
theorem d_CR_readItem_18 : decode b_CR_readItem 18 = .ok (.ifCond .ne 59, 3) := by decide +kernel
theorem d_CR_readItem_21 : decode b_CR_readItem 21 = .ok (.aload_n 0, 1) := by decide +kernel
theorem d_CR_readItem_22 : decode b_CR_readItem 22 = .ok (.iload_n 2, 1) := by decide +kernel
theorem d_CR_readItem_23 : decode b_CR_readItem 23 = .ok (.invokestatic 77, 3) := by decide +kernel
theorem d_CR_readItem_26 : decode b_CR_readItem 26 = .ok (.istore 4, 2) := by decide +kernel
theorem d_CR_readItem_28 : decode b_CR_readItem 28 = .ok (.iload_n 3, 1) := by decide +kernel
theorem d_CR_readItem_29 : decode b_CR_readItem 29 = .ok (.ifCond .eq 16, 3) := by decide +kernel
theorem d_CR_readItem_32 : decode b_CR_readItem 32 = .ok (.aload_n 0, 1) := by decide +kernel
theorem d_CR_readItem_33 : decode b_CR_readItem 33 = .ok (.aload_n 1, 1) := by decide +kernel
theorem d_CR_readItem_34 : decode b_CR_readItem 34 = .ok (.iload_n 2, 1) := by decide +kernel
theorem d_CR_readItem_35 : decode b_CR_readItem 35 = .ok (.iload 4, 2) := by decide +kernel
theorem d_CR_readItem_37 : decode b_CR_readItem 37 = .ok (.invokestatic 81, 3) := by decide +kernel
theorem d_CR_readItem_40 : decode b_CR_readItem 40 = .ok (.ifCond .eq 5, 3) := by decide +kernel
theorem d_CR_readItem_43 : decode b_CR_readItem 43 = .ok (.iconst 0, 1) := by decide +kernel
theorem d_CR_readItem_44 : decode b_CR_readItem 44 = .ok (.ireturn, 1) := by decide +kernel
theorem d_CR_readItem_45 : decode b_CR_readItem 45 = .ok (.aload_n 0, 1) := by decide +kernel
theorem d_CR_readItem_46 : decode b_CR_readItem 46 = .ok (.invokevirtual 85, 3) := by decide +kernel
theorem d_CR_readItem_49 : decode b_CR_readItem 49 = .ok (.bipush 47, 2) := by decide +kernel
theorem d_CR_readItem_51 : decode b_CR_readItem 51 = .ok (.if_icmp .eq 26, 3) := by decide +kernel
theorem d_CR_readItem_54 : decode b_CR_readItem 54 = .ok (.aload_n 0, 1) := by decide +kernel
theorem d_CR_readItem_55 : decode b_CR_readItem 55 = .ok (.bipush 45, 2) := by decide +kernel
theorem d_CR_readItem_57 : decode b_CR_readItem 57 = .ok (.invokevirtual 43, 3) := by decide +kernel
theorem d_CR_readItem_60 : decode b_CR_readItem 60 = .ok (.ifCond .eq 13, 3) := by decide +kernel
theorem d_CR_readItem_63 : decode b_CR_readItem 63 = .ok (.aload_n 0, 1) := by decide +kernel
theorem d_CR_readItem_64 : decode b_CR_readItem 64 = .ok (.iload_n 2, 1) := by decide +kernel
theorem d_CR_readItem_65 : decode b_CR_readItem 65 = .ok (.iload 4, 2) := by decide +kernel
theorem d_CR_readItem_67 : decode b_CR_readItem 67 = .ok (.invokestatic 89, 3) := by decide +kernel
theorem d_CR_readItem_70 : decode b_CR_readItem 70 = .ok (.goto 5, 3) := by decide +kernel
theorem d_CR_readItem_73 : decode b_CR_readItem 73 = .ok (.iload 4, 2) := by decide +kernel
theorem d_CR_readItem_75 : decode b_CR_readItem 75 = .ok (.istore 5, 2) := by decide +kernel
theorem d_CR_readItem_77 : decode b_CR_readItem 77 = .ok (.aload_n 0, 1) := by decide +kernel
theorem d_CR_readItem_78 : decode b_CR_readItem 78 = .ok (.bipush 47, 2) := by decide +kernel
theorem d_CR_readItem_80 : decode b_CR_readItem 80 = .ok (.invokevirtual 43, 3) := by decide +kernel
theorem d_CR_readItem_83 : decode b_CR_readItem 83 = .ok (.ifCond .eq 13, 3) := by decide +kernel
theorem d_CR_readItem_86 : decode b_CR_readItem 86 = .ok (.aload_n 0, 1) := by decide +kernel
theorem d_CR_readItem_87 : decode b_CR_readItem 87 = .ok (.iconst 1, 1) := by decide +kernel
theorem d_CR_readItem_88 : decode b_CR_readItem 88 = .ok (.bipush 99, 2) := by decide +kernel
theorem d_CR_readItem_90 : decode b_CR_readItem 90 = .ok (.invokevirtual 51, 3) := by decide +kernel
theorem d_CR_readItem_93 : decode b_CR_readItem 93 = .ok (.goto 4, 3) := by decide +kernel
theorem d_CR_readItem_96 : decode b_CR_readItem 96 = .ok (.iconst 1, 1) := by decide +kernel
theorem d_CR_readItem_97 : decode b_CR_readItem 97 = .ok (.istore 6, 2) := by decide +kernel
theorem d_CR_readItem_99 : decode b_CR_readItem 99 = .ok (.aload_n 1, 1) := by decide +kernel
theorem d_CR_readItem_100 : decode b_CR_readItem 100 = .ok (.iload_n 2, 1) := by decide +kernel
theorem d_CR_readItem_101 : decode b_CR_readItem 101 = .ok (.iload 4, 2) := by decide +kernel
theorem d_CR_readItem_103 : decode b_CR_readItem 103 = .ok (.iload 5, 2) := by decide +kernel
theorem d_CR_readItem_105 : decode b_CR_readItem 105 = .ok (.iload 6, 2) := by decide +kernel
theorem d_CR_readItem_107 : decode b_CR_readItem 107 = .ok (.invokestatic 36, 3) := by decide +kernel
theorem d_CR_readItem_110 : decode b_CR_readItem 110 = .ok (.iconst 1, 1) := by decide +kernel
theorem d_CR_readItem_111 : decode b_CR_readItem 111 = .ok (.ireturn, 1) := by decide +kernel
theorem ci_CR_readItem : jm_ci jm_G y_CR_readItem (Cond.code y_CR_readItem b_CR_readItem 7 (some FieldType.boolean)) 7 4 := ⟨jm_g3 46 rfl rfl, Or.inl ⟨_, _, rfl⟩, jm_g1 18 rfl rfl, ⟨by decide, by decide⟩, by decide +kernel⟩
theorem st_CR_readItem : Cond.static y_CR_readItem ∈ jm_G := jm_g3 45 rfl rfl
def y_CR_readValue : MethodName := ⟨"JobHouse$CronReader", "readValue", "(LJobHouse$Text;I)I"⟩
abbrev b_CR_readValue : ByteArray := prog_3_method_7_code
theorem d_CR_readValue_0 : decode b_CR_readValue 0 = .ok (.iconst (-1), 1) := by decide +kernel
theorem d_CR_readValue_1 : decode b_CR_readValue 1 = .ok (.istore_n 2, 1) := by decide +kernel
theorem d_CR_readValue_2 : decode b_CR_readValue 2 = .ok (.iload_n 1, 1) := by decide +kernel
theorem d_CR_readValue_3 : decode b_CR_readValue 3 = .ok (.iconst 4, 1) := by decide +kernel
theorem d_CR_readValue_4 : decode b_CR_readValue 4 = .ok (.if_icmp .ne 13, 3) := by decide +kernel
theorem d_CR_readValue_7 : decode b_CR_readValue 7 = .ok (.aload_n 0, 1) := by decide +kernel
theorem d_CR_readValue_8 : decode b_CR_readValue 8 = .ok (.ldc 93, 2) := by decide +kernel
theorem d_CR_readValue_10 : decode b_CR_readValue 10 = .ok (.invokevirtual 95, 3) := by decide +kernel
theorem d_CR_readValue_13 : decode b_CR_readValue 13 = .ok (.istore_n 2, 1) := by decide +kernel
theorem d_CR_readValue_14 : decode b_CR_readValue 14 = .ok (.goto 15, 3) := by decide +kernel
theorem d_CR_readValue_17 : decode b_CR_readValue 17 = .ok (.iload_n 1, 1) := by decide +kernel
theorem d_CR_readValue_18 : decode b_CR_readValue 18 = .ok (.iconst 5, 1) := by decide +kernel
theorem d_CR_readValue_19 : decode b_CR_readValue 19 = .ok (.if_icmp .ne 10, 3) := by decide +kernel
theorem d_CR_readValue_22 : decode b_CR_readValue 22 = .ok (.aload_n 0, 1) := by decide +kernel
theorem d_CR_readValue_23 : decode b_CR_readValue 23 = .ok (.ldc 99, 2) := by decide +kernel
theorem d_CR_readValue_25 : decode b_CR_readValue 25 = .ok (.invokevirtual 95, 3) := by decide +kernel
theorem d_CR_readValue_28 : decode b_CR_readValue 28 = .ok (.istore_n 2, 1) := by decide +kernel
theorem d_CR_readValue_29 : decode b_CR_readValue 29 = .ok (.iload_n 1, 1) := by decide +kernel
theorem d_CR_readValue_30 : decode b_CR_readValue 30 = .ok (.invokestatic 70, 3) := by decide +kernel
theorem d_CR_readValue_33 : decode b_CR_readValue 33 = .ok (.istore_n 3, 1) := by decide +kernel
theorem d_CR_readValue_34 : decode b_CR_readValue 34 = .ok (.iload_n 2, 1) := by decide +kernel
theorem d_CR_readValue_35 : decode b_CR_readValue 35 = .ok (.ifCond .ge 15, 3) := by decide +kernel
theorem d_CR_readValue_38 : decode b_CR_readValue 38 = .ok (.aload_n 0, 1) := by decide +kernel
theorem d_CR_readValue_39 : decode b_CR_readValue 39 = .ok (.iload_n 3, 1) := by decide +kernel
theorem d_CR_readValue_40 : decode b_CR_readValue 40 = .ok (.iload_n 1, 1) := by decide +kernel
theorem d_CR_readValue_41 : decode b_CR_readValue 41 = .ok (.invokestatic 74, 3) := by decide +kernel
theorem d_CR_readValue_44 : decode b_CR_readValue 44 = .ok (.invokevirtual 51, 3) := by decide +kernel
theorem d_CR_readValue_47 : decode b_CR_readValue 47 = .ok (.goto 6, 3) := by decide +kernel
theorem d_CR_readValue_50 : decode b_CR_readValue 50 = .ok (.iload_n 3, 1) := by decide +kernel
theorem d_CR_readValue_51 : decode b_CR_readValue 51 = .ok (.iload_n 2, 1) := by decide +kernel
theorem d_CR_readValue_52 : decode b_CR_readValue 52 = .ok (.iadd, 1) := by decide +kernel
theorem d_CR_readValue_53 : decode b_CR_readValue 53 = .ok (.ireturn, 1) := by decide +kernel
theorem ci_CR_readValue : jm_ci jm_G y_CR_readValue (Cond.code y_CR_readValue b_CR_readValue 4 (some FieldType.int)) 4 2 := ⟨jm_g3 56 rfl rfl, Or.inl ⟨_, _, rfl⟩, jm_g1 18 rfl rfl, ⟨by decide, by decide⟩, by decide +kernel⟩
theorem st_CR_readValue : Cond.static y_CR_readValue ∈ jm_G := jm_g3 55 rfl rfl
def y_CR_readUpper : MethodName := ⟨"JobHouse$CronReader", "readUpper", "(LJobHouse$Text;II)I"⟩
abbrev b_CR_readUpper : ByteArray := prog_3_method_8_code
theorem d_CR_readUpper_0 : decode b_CR_readUpper 0 = .ok (.aload_n 0, 1) := by decide +kernel
theorem d_CR_readUpper_1 : decode b_CR_readUpper 1 = .ok (.getfield 101, 3) := by decide +kernel
theorem d_CR_readUpper_4 : decode b_CR_readUpper 4 = .ok (.istore_n 3, 1) := by decide +kernel
theorem d_CR_readUpper_5 : decode b_CR_readUpper 5 = .ok (.aload_n 0, 1) := by decide +kernel
theorem d_CR_readUpper_6 : decode b_CR_readUpper 6 = .ok (.iload_n 1, 1) := by decide +kernel
theorem d_CR_readUpper_7 : decode b_CR_readUpper 7 = .ok (.invokestatic 77, 3) := by decide +kernel
theorem d_CR_readUpper_10 : decode b_CR_readUpper 10 = .ok (.istore 4, 2) := by decide +kernel
theorem d_CR_readUpper_12 : decode b_CR_readUpper 12 = .ok (.iload_n 1, 1) := by decide +kernel
theorem d_CR_readUpper_13 : decode b_CR_readUpper 13 = .ok (.bipush 6, 2) := by decide +kernel
theorem d_CR_readUpper_15 : decode b_CR_readUpper 15 = .ok (.if_icmp .ne 14, 3) := by decide +kernel
theorem d_CR_readUpper_18 : decode b_CR_readUpper 18 = .ok (.iload 4, 2) := by decide +kernel
theorem d_CR_readUpper_20 : decode b_CR_readUpper 20 = .ok (.iload_n 2, 1) := by decide +kernel
theorem d_CR_readUpper_21 : decode b_CR_readUpper 21 = .ok (.if_icmp .ge 8, 3) := by decide +kernel
theorem d_CR_readUpper_24 : decode b_CR_readUpper 24 = .ok (.aload_n 0, 1) := by decide +kernel
theorem d_CR_readUpper_25 : decode b_CR_readUpper 25 = .ok (.iload_n 3, 1) := by decide +kernel
theorem d_CR_readUpper_26 : decode b_CR_readUpper 26 = .ok (.invokevirtual 104, 3) := by decide +kernel
theorem d_CR_readUpper_29 : decode b_CR_readUpper 29 = .ok (.iload 4, 2) := by decide +kernel
theorem d_CR_readUpper_31 : decode b_CR_readUpper 31 = .ok (.ireturn, 1) := by decide +kernel
theorem ci_CR_readUpper : jm_ci jm_G y_CR_readUpper (Cond.code y_CR_readUpper b_CR_readUpper 5 (some FieldType.int)) 5 3 := ⟨jm_g3 118 rfl rfl, Or.inl ⟨_, _, rfl⟩, jm_g1 18 rfl rfl, ⟨by decide, by decide⟩, by decide +kernel⟩
theorem st_CR_readUpper : Cond.static y_CR_readUpper ∈ jm_G := jm_g3 117 rfl rfl
def y_CR_takeSign : MethodName := ⟨"JobHouse$CronReader", "takeSign", "(LJobHouse$Text;LJobHouse$Cron;II)Z"⟩
abbrev b_CR_takeSign : ByteArray := prog_3_method_9_code
theorem d_CR_takeSign_0 : decode b_CR_takeSign 0 = .ok (.iload_n 2, 1) := by decide +kernel
theorem d_CR_takeSign_1 : decode b_CR_takeSign 1 = .ok (.iconst 3, 1) := by decide +kernel
theorem d_CR_takeSign_2 : decode b_CR_takeSign 2 = .ok (.if_icmp .ne 20, 3) := by decide +kernel
theorem d_CR_takeSign_5 : decode b_CR_takeSign 5 = .ok (.aload_n 0, 1) := by decide +kernel
theorem d_CR_takeSign_6 : decode b_CR_takeSign 6 = .ok (.bipush 87, 2) := by decide +kernel
theorem d_CR_takeSign_8 : decode b_CR_takeSign 8 = .ok (.invokevirtual 43, 3) := by decide +kernel
theorem d_CR_takeSign_11 : decode b_CR_takeSign 11 = .ok (.ifCond .eq 11, 3) := by decide +kernel
theorem d_CR_takeSign_14 : decode b_CR_takeSign 14 = .ok (.aload_n 1, 1) := by decide +kernel
theorem d_CR_takeSign_15 : decode b_CR_takeSign 15 = .ok (.iconst 4, 1) := by decide +kernel
theorem d_CR_takeSign_16 : decode b_CR_takeSign 16 = .ok (.putfield 47, 3) := by decide +kernel
theorem d_CR_takeSign_19 : decode b_CR_takeSign 19 = .ok (.goto 60, 3) := by decide +kernel
theorem d_CR_takeSign_22 : decode b_CR_takeSign 22 = .ok (.iload_n 2, 1) := by decide +kernel
theorem d_CR_takeSign_23 : decode b_CR_takeSign 23 = .ok (.iconst 5, 1) := by decide +kernel
theorem d_CR_takeSign_24 : decode b_CR_takeSign 24 = .ok (.if_icmp .ne 20, 3) := by decide +kernel
theorem d_CR_takeSign_27 : decode b_CR_takeSign 27 = .ok (.aload_n 0, 1) := by decide +kernel
theorem d_CR_takeSign_28 : decode b_CR_takeSign 28 = .ok (.bipush 76, 2) := by decide +kernel
theorem d_CR_takeSign_30 : decode b_CR_takeSign 30 = .ok (.invokevirtual 43, 3) := by decide +kernel
theorem d_CR_takeSign_33 : decode b_CR_takeSign 33 = .ok (.ifCond .eq 11, 3) := by decide +kernel
theorem d_CR_takeSign_36 : decode b_CR_takeSign 36 = .ok (.aload_n 1, 1) := by decide +kernel
theorem d_CR_takeSign_37 : decode b_CR_takeSign 37 = .ok (.iconst 5, 1) := by decide +kernel
theorem d_CR_takeSign_38 : decode b_CR_takeSign 38 = .ok (.putfield 47, 3) := by decide +kernel
theorem d_CR_takeSign_41 : decode b_CR_takeSign 41 = .ok (.goto 38, 3) := by decide +kernel
theorem d_CR_takeSign_44 : decode b_CR_takeSign 44 = .ok (.iload_n 2, 1) := by decide +kernel
theorem d_CR_takeSign_45 : decode b_CR_takeSign 45 = .ok (.iconst 5, 1) := by decide +kernel
theorem d_CR_takeSign_46 : decode b_CR_takeSign 46 = .ok (.if_icmp .ne 31, 3) := by decide +kernel
theorem d_CR_takeSign_49 : decode b_CR_takeSign 49 = .ok (.aload_n 0, 1) := by decide +kernel
theorem d_CR_takeSign_50 : decode b_CR_takeSign 50 = .ok (.bipush 35, 2) := by decide +kernel
theorem d_CR_takeSign_52 : decode b_CR_takeSign 52 = .ok (.invokevirtual 43, 3) := by decide +kernel
theorem d_CR_takeSign_55 : decode b_CR_takeSign 55 = .ok (.ifCond .eq 22, 3) := by decide +kernel
theorem d_CR_takeSign_58 : decode b_CR_takeSign 58 = .ok (.aload_n 1, 1) := by decide +kernel
theorem d_CR_takeSign_59 : decode b_CR_takeSign 59 = .ok (.bipush 6, 2) := by decide +kernel
theorem d_CR_takeSign_61 : decode b_CR_takeSign 61 = .ok (.putfield 47, 3) := by decide +kernel
theorem d_CR_takeSign_64 : decode b_CR_takeSign 64 = .ok (.aload_n 1, 1) := by decide +kernel
theorem d_CR_takeSign_65 : decode b_CR_takeSign 65 = .ok (.aload_n 0, 1) := by decide +kernel
theorem d_CR_takeSign_66 : decode b_CR_takeSign 66 = .ok (.iconst 1, 1) := by decide +kernel
theorem d_CR_takeSign_67 : decode b_CR_takeSign 67 = .ok (.iconst 5, 1) := by decide +kernel
theorem d_CR_takeSign_68 : decode b_CR_takeSign 68 = .ok (.invokevirtual 51, 3) := by decide +kernel
theorem d_CR_takeSign_71 : decode b_CR_takeSign 71 = .ok (.putfield 55, 3) := by decide +kernel
theorem d_CR_takeSign_74 : decode b_CR_takeSign 74 = .ok (.goto 5, 3) := by decide +kernel
theorem d_CR_takeSign_77 : decode b_CR_takeSign 77 = .ok (.iconst 0, 1) := by decide +kernel
theorem d_CR_takeSign_78 : decode b_CR_takeSign 78 = .ok (.ireturn, 1) := by decide +kernel
theorem d_CR_takeSign_79 : decode b_CR_takeSign 79 = .ok (.aload_n 1, 1) := by decide +kernel
theorem d_CR_takeSign_80 : decode b_CR_takeSign 80 = .ok (.iload_n 3, 1) := by decide +kernel
theorem d_CR_takeSign_81 : decode b_CR_takeSign 81 = .ok (.putfield 107, 3) := by decide +kernel
theorem d_CR_takeSign_84 : decode b_CR_takeSign 84 = .ok (.iconst 1, 1) := by decide +kernel
theorem d_CR_takeSign_85 : decode b_CR_takeSign 85 = .ok (.ireturn, 1) := by decide +kernel
theorem ci_CR_takeSign : jm_ci jm_G y_CR_takeSign (Cond.code y_CR_takeSign b_CR_takeSign 4 (some FieldType.boolean)) 4 4 := ⟨jm_g3 114 rfl rfl, Or.inl ⟨_, _, rfl⟩, jm_g1 18 rfl rfl, ⟨by decide, by decide⟩, by decide +kernel⟩
theorem st_CR_takeSign : Cond.static y_CR_takeSign ∈ jm_G := jm_g3 113 rfl rfl
def y_CR_addSome : MethodName := ⟨"JobHouse$CronReader", "addSome", "(LJobHouse$Cron;IIII)V"⟩
abbrev b_CR_addSome : ByteArray := prog_3_method_10_code
theorem d_CR_addSome_0 : decode b_CR_addSome 0 = .ok (.iload_n 1, 1) := by decide +kernel
theorem d_CR_addSome_1 : decode b_CR_addSome 1 = .ok (.invokestatic 70, 3) := by decide +kernel
theorem d_CR_addSome_4 : decode b_CR_addSome 4 = .ok (.istore 5, 2) := by decide +kernel
theorem d_CR_addSome_6 : decode b_CR_addSome 6 = .ok (.iload_n 1, 1) := by decide +kernel
theorem d_CR_addSome_7 : decode b_CR_addSome 7 = .ok (.invokestatic 74, 3) := by decide +kernel
theorem d_CR_addSome_10 : decode b_CR_addSome 10 = .ok (.istore 6, 2) := by decide +kernel
theorem d_CR_addSome_12 : decode b_CR_addSome 12 = .ok (.iload 6, 2) := by decide +kernel
theorem d_CR_addSome_14 : decode b_CR_addSome 14 = .ok (.iload 5, 2) := by decide +kernel
theorem d_CR_addSome_16 : decode b_CR_addSome 16 = .ok (.isub, 1) := by decide +kernel
theorem d_CR_addSome_17 : decode b_CR_addSome 17 = .ok (.iconst 1, 1) := by decide +kernel
theorem d_CR_addSome_18 : decode b_CR_addSome 18 = .ok (.iadd, 1) := by decide +kernel
theorem d_CR_addSome_19 : decode b_CR_addSome 19 = .ok (.istore 7, 2) := by decide +kernel
theorem d_CR_addSome_21 : decode b_CR_addSome 21 = .ok (.iload_n 3, 1) := by decide +kernel
theorem d_CR_addSome_22 : decode b_CR_addSome 22 = .ok (.iload_n 2, 1) := by decide +kernel
theorem d_CR_addSome_23 : decode b_CR_addSome 23 = .ok (.if_icmp .ge 12, 3) := by decide +kernel
theorem d_CR_addSome_26 : decode b_CR_addSome 26 = .ok (.iload_n 3, 1) := by decide +kernel
theorem d_CR_addSome_27 : decode b_CR_addSome 27 = .ok (.iload_n 2, 1) := by decide +kernel
theorem d_CR_addSome_28 : decode b_CR_addSome 28 = .ok (.isub, 1) := by decide +kernel
theorem d_CR_addSome_29 : decode b_CR_addSome 29 = .ok (.iload 7, 2) := by decide +kernel
theorem d_CR_addSome_31 : decode b_CR_addSome 31 = .ok (.iadd, 1) := by decide +kernel
theorem d_CR_addSome_32 : decode b_CR_addSome 32 = .ok (.goto 6, 3) := by decide +kernel
theorem d_CR_addSome_35 : decode b_CR_addSome 35 = .ok (.iload_n 3, 1) := by decide +kernel
theorem d_CR_addSome_36 : decode b_CR_addSome 36 = .ok (.iload_n 2, 1) := by decide +kernel
theorem d_CR_addSome_37 : decode b_CR_addSome 37 = .ok (.isub, 1) := by decide +kernel
theorem d_CR_addSome_38 : decode b_CR_addSome 38 = .ok (.istore 8, 2) := by decide +kernel
theorem d_CR_addSome_40 : decode b_CR_addSome 40 = .ok (.iconst 0, 1) := by decide +kernel
theorem d_CR_addSome_41 : decode b_CR_addSome 41 = .ok (.istore 9, 2) := by decide +kernel
theorem d_CR_addSome_43 : decode b_CR_addSome 43 = .ok (.iload 9, 2) := by decide +kernel
theorem d_CR_addSome_45 : decode b_CR_addSome 45 = .ok (.iload 8, 2) := by decide +kernel
theorem d_CR_addSome_47 : decode b_CR_addSome 47 = .ok (.if_icmp .gt 45, 3) := by decide +kernel
theorem d_CR_addSome_50 : decode b_CR_addSome 50 = .ok (.iload_n 2, 1) := by decide +kernel
theorem d_CR_addSome_51 : decode b_CR_addSome 51 = .ok (.iload 9, 2) := by decide +kernel
theorem d_CR_addSome_53 : decode b_CR_addSome 53 = .ok (.iadd, 1) := by decide +kernel
theorem d_CR_addSome_54 : decode b_CR_addSome 54 = .ok (.istore 10, 2) := by decide +kernel
theorem d_CR_addSome_56 : decode b_CR_addSome 56 = .ok (.aload_n 0, 1) := by decide +kernel
theorem d_CR_addSome_57 : decode b_CR_addSome 57 = .ok (.iload_n 1, 1) := by decide +kernel
theorem d_CR_addSome_58 : decode b_CR_addSome 58 = .ok (.iload 10, 2) := by decide +kernel
theorem d_CR_addSome_60 : decode b_CR_addSome 60 = .ok (.iload 6, 2) := by decide +kernel
theorem d_CR_addSome_62 : decode b_CR_addSome 62 = .ok (.if_icmp .le 11, 3) := by decide +kernel
theorem d_CR_addSome_65 : decode b_CR_addSome 65 = .ok (.iload 10, 2) := by decide +kernel
theorem d_CR_addSome_67 : decode b_CR_addSome 67 = .ok (.iload 7, 2) := by decide +kernel
theorem d_CR_addSome_69 : decode b_CR_addSome 69 = .ok (.isub, 1) := by decide +kernel
theorem d_CR_addSome_70 : decode b_CR_addSome 70 = .ok (.goto 5, 3) := by decide +kernel
theorem d_CR_addSome_73 : decode b_CR_addSome 73 = .ok (.iload 10, 2) := by decide +kernel
theorem d_CR_addSome_75 : decode b_CR_addSome 75 = .ok (.invokevirtual 62, 3) := by decide +kernel
theorem d_CR_addSome_78 : decode b_CR_addSome 78 = .ok (.iload 9, 2) := by decide +kernel
theorem d_CR_addSome_80 : decode b_CR_addSome 80 = .ok (.iload 4, 2) := by decide +kernel
theorem d_CR_addSome_82 : decode b_CR_addSome 82 = .ok (.iconst 1, 1) := by decide +kernel
theorem d_CR_addSome_83 : decode b_CR_addSome 83 = .ok (.invokestatic 110, 3) := by decide +kernel
theorem d_CR_addSome_86 : decode b_CR_addSome 86 = .ok (.iadd, 1) := by decide +kernel
theorem d_CR_addSome_87 : decode b_CR_addSome 87 = .ok (.istore 9, 2) := by decide +kernel
theorem d_CR_addSome_89 : decode b_CR_addSome 89 = .ok (.goto (-46), 3) := by decide +kernel
theorem d_CR_addSome_92 : decode b_CR_addSome 92 = .ok (.return_, 1) := by decide +kernel
theorem ci_CR_addSome : jm_ci jm_G y_CR_addSome (Cond.code y_CR_addSome b_CR_addSome 11 (none)) 11 5 := ⟨jm_g3 122 rfl rfl, Or.inl ⟨_, _, rfl⟩, jm_g1 18 rfl rfl, ⟨by decide, by decide⟩, by decide +kernel⟩
theorem st_CR_addSome : Cond.static y_CR_addSome ∈ jm_G := jm_g3 121 rfl rfl
