section
/-- a private method of a class that the tables say can be made, by its rows of tables_1 -/
def lw_okq (q : MethodName × Nat) : Prop := (q.1.cls ≠ "java/lang/invoke/MethodHandle" ∧ q.1.cls ≠ "java/lang/invoke/VarHandle") ∧ Cond.instantiable q.1.cls q.2 ∈ tables_1 ∧ Cond.privateMethod q.1 ∈ tables_1 ∧ Cond.instanceMethod q.1 ∈ tables_1
theorem lw_p0 : lw_okq (⟨"java/lang/Throwable", "fillInStackTrace", "(I)Ljava/lang/Throwable;"⟩, 6) := ⟨⟨by decide +kernel, by decide +kernel⟩, List.mem_of_getElem? (i := 368) (by decide +kernel), List.mem_of_getElem? (i := 366) (by decide +kernel), List.mem_of_getElem? (i := 367) (by decide +kernel)⟩
theorem lw_p1 : lw_okq (⟨"JobHouse", "checkNotBroken", "()V"⟩, 18) := ⟨⟨by decide +kernel, by decide +kernel⟩, List.mem_of_getElem? (i := 29) (by decide +kernel), List.mem_of_getElem? (i := 488) (by decide +kernel), List.mem_of_getElem? (i := 489) (by decide +kernel)⟩
theorem lw_p2 : lw_okq (⟨"JobHouse", "aimAt", "(III)V"⟩, 18) := ⟨⟨by decide +kernel, by decide +kernel⟩, List.mem_of_getElem? (i := 29) (by decide +kernel), List.mem_of_getElem? (i := 657) (by decide +kernel), List.mem_of_getElem? (i := 658) (by decide +kernel)⟩
theorem lw_p3 : lw_okq (⟨"JobHouse$Zone", "findStretch", "(J)V"⟩, 7) := ⟨⟨by decide +kernel, by decide +kernel⟩, List.mem_of_getElem? (i := 109) (by decide +kernel), List.mem_of_getElem? (i := 671) (by decide +kernel), List.mem_of_getElem? (i := 672) (by decide +kernel)⟩
theorem lw_p4 : lw_okq (⟨"JobHouse$Fires", "localFrom", "(J)J"⟩, 3) := ⟨⟨by decide +kernel, by decide +kernel⟩, List.mem_of_getElem? (i := 80) (by decide +kernel), List.mem_of_getElem? (i := 727) (by decide +kernel), List.mem_of_getElem? (i := 728) (by decide +kernel)⟩
theorem lw_p5 : lw_okq (⟨"JobHouse$Fires", "dayFrom", "(I)I"⟩, 3) := ⟨⟨by decide +kernel, by decide +kernel⟩, List.mem_of_getElem? (i := 80) (by decide +kernel), List.mem_of_getElem? (i := 732) (by decide +kernel), List.mem_of_getElem? (i := 733) (by decide +kernel)⟩
theorem lw_p6 : lw_okq (⟨"JobHouse$Fires", "dateFrom", "(III)I"⟩, 3) := ⟨⟨by decide +kernel, by decide +kernel⟩, List.mem_of_getElem? (i := 80) (by decide +kernel), List.mem_of_getElem? (i := 750) (by decide +kernel), List.mem_of_getElem? (i := 751) (by decide +kernel)⟩
theorem lw_p7 : lw_okq (⟨"JobHouse$Cron", "weekdaysFrom", "(I)J"⟩, 4) := ⟨⟨by decide +kernel, by decide +kernel⟩, List.mem_of_getElem? (i := 86) (by decide +kernel), List.mem_of_getElem? (i := 763) (by decide +kernel), List.mem_of_getElem? (i := 764) (by decide +kernel)⟩
theorem lw_p8 : lw_okq (⟨"JobHouse$Fires", "localUpTo", "(J)J"⟩, 3) := ⟨⟨by decide +kernel, by decide +kernel⟩, List.mem_of_getElem? (i := 80) (by decide +kernel), List.mem_of_getElem? (i := 804) (by decide +kernel), List.mem_of_getElem? (i := 805) (by decide +kernel)⟩
theorem lw_p9 : lw_okq (⟨"JobHouse$Fires", "dayUpTo", "(I)I"⟩, 3) := ⟨⟨by decide +kernel, by decide +kernel⟩, List.mem_of_getElem? (i := 80) (by decide +kernel), List.mem_of_getElem? (i := 808) (by decide +kernel), List.mem_of_getElem? (i := 809) (by decide +kernel)⟩
theorem lw_p10 : lw_okq (⟨"JobHouse$Fires", "dateUpTo", "(III)I"⟩, 3) := ⟨⟨by decide +kernel, by decide +kernel⟩, List.mem_of_getElem? (i := 80) (by decide +kernel), List.mem_of_getElem? (i := 814) (by decide +kernel), List.mem_of_getElem? (i := 815) (by decide +kernel)⟩
theorem lw_p11 : lw_okq (⟨"JobHouse", "checkOpen", "()V"⟩, 18) := ⟨⟨by decide +kernel, by decide +kernel⟩, List.mem_of_getElem? (i := 29) (by decide +kernel), List.mem_of_getElem? (i := 861) (by decide +kernel), List.mem_of_getElem? (i := 862) (by decide +kernel)⟩
theorem lw_p12 : lw_okq (⟨"JobHouse", "freeSlot", "()I"⟩, 18) := ⟨⟨by decide +kernel, by decide +kernel⟩, List.mem_of_getElem? (i := 29) (by decide +kernel), List.mem_of_getElem? (i := 880) (by decide +kernel), List.mem_of_getElem? (i := 881) (by decide +kernel)⟩
theorem lw_p13 : lw_okq (⟨"JobHouse", "fill", "(LJobHouse$Job;JIII)V"⟩, 18) := ⟨⟨by decide +kernel, by decide +kernel⟩, List.mem_of_getElem? (i := 29) (by decide +kernel), List.mem_of_getElem? (i := 884) (by decide +kernel), List.mem_of_getElem? (i := 885) (by decide +kernel)⟩
theorem lw_p14 : lw_okq (⟨"JobHouse", "jobAt", "(I)LJobHouse$Job;"⟩, 18) := ⟨⟨by decide +kernel, by decide +kernel⟩, List.mem_of_getElem? (i := 29) (by decide +kernel), List.mem_of_getElem? (i := 904) (by decide +kernel), List.mem_of_getElem? (i := 905) (by decide +kernel)⟩
theorem lw_p15 : lw_okq (⟨"JobHouse", "remove", "(LJobHouse$Job;)V"⟩, 18) := ⟨⟨by decide +kernel, by decide +kernel⟩, List.mem_of_getElem? (i := 29) (by decide +kernel), List.mem_of_getElem? (i := 923) (by decide +kernel), List.mem_of_getElem? (i := 924) (by decide +kernel)⟩
def lw_privs_1 : List (MethodName × Nat) := [(⟨"java/lang/Throwable", "fillInStackTrace", "(I)Ljava/lang/Throwable;"⟩, 6), (⟨"JobHouse", "checkNotBroken", "()V"⟩, 18), (⟨"JobHouse", "aimAt", "(III)V"⟩, 18), (⟨"JobHouse$Zone", "findStretch", "(J)V"⟩, 7), (⟨"JobHouse$Fires", "localFrom", "(J)J"⟩, 3), (⟨"JobHouse$Fires", "dayFrom", "(I)I"⟩, 3), (⟨"JobHouse$Fires", "dateFrom", "(III)I"⟩, 3), (⟨"JobHouse$Cron", "weekdaysFrom", "(I)J"⟩, 4), (⟨"JobHouse$Fires", "localUpTo", "(J)J"⟩, 3), (⟨"JobHouse$Fires", "dayUpTo", "(I)I"⟩, 3), (⟨"JobHouse$Fires", "dateUpTo", "(III)I"⟩, 3), (⟨"JobHouse", "checkOpen", "()V"⟩, 18), (⟨"JobHouse", "freeSlot", "()I"⟩, 18), (⟨"JobHouse", "fill", "(LJobHouse$Job;JIII)V"⟩, 18), (⟨"JobHouse", "jobAt", "(I)LJobHouse$Job;"⟩, 18), (⟨"JobHouse", "remove", "(LJobHouse$Job;)V"⟩, 18)]
theorem lw_r1 : ∀ q ∈ lw_privs_1, lw_okq q := List.forall_mem_cons.mpr ⟨lw_p0, List.forall_mem_cons.mpr ⟨lw_p1, List.forall_mem_cons.mpr ⟨lw_p2, List.forall_mem_cons.mpr ⟨lw_p3, List.forall_mem_cons.mpr ⟨lw_p4, List.forall_mem_cons.mpr ⟨lw_p5, List.forall_mem_cons.mpr ⟨lw_p6, List.forall_mem_cons.mpr ⟨lw_p7, List.forall_mem_cons.mpr ⟨lw_p8, List.forall_mem_cons.mpr ⟨lw_p9, List.forall_mem_cons.mpr ⟨lw_p10, List.forall_mem_cons.mpr ⟨lw_p11, List.forall_mem_cons.mpr ⟨lw_p12, List.forall_mem_cons.mpr ⟨lw_p13, List.forall_mem_cons.mpr ⟨lw_p14, List.forall_mem_cons.mpr ⟨lw_p15, fun _ h => absurd h List.not_mem_nil⟩⟩⟩⟩⟩⟩⟩⟩⟩⟩⟩⟩⟩⟩⟩⟩
theorem lw_p16 : lw_okq (⟨"JobHouse", "checkWay", "(J)V"⟩, 18) := ⟨⟨by decide +kernel, by decide +kernel⟩, List.mem_of_getElem? (i := 29) (by decide +kernel), List.mem_of_getElem? (i := 942) (by decide +kernel), List.mem_of_getElem? (i := 943) (by decide +kernel)⟩
theorem lw_p17 : lw_okq (⟨"JobHouse", "firstEnded", "()I"⟩, 18) := ⟨⟨by decide +kernel, by decide +kernel⟩, List.mem_of_getElem? (i := 29) (by decide +kernel), List.mem_of_getElem? (i := 948) (by decide +kernel), List.mem_of_getElem? (i := 949) (by decide +kernel)⟩
theorem lw_p18 : lw_okq (⟨"JobHouse", "nominalBehind", "(LJobHouse$Job;)J"⟩, 18) := ⟨⟨by decide +kernel, by decide +kernel⟩, List.mem_of_getElem? (i := 29) (by decide +kernel), List.mem_of_getElem? (i := 952) (by decide +kernel), List.mem_of_getElem? (i := 953) (by decide +kernel)⟩
theorem lw_p19 : lw_okq (⟨"JobHouse", "free", "(IJ)V"⟩, 18) := ⟨⟨by decide +kernel, by decide +kernel⟩, List.mem_of_getElem? (i := 29) (by decide +kernel), List.mem_of_getElem? (i := 965) (by decide +kernel), List.mem_of_getElem? (i := 966) (by decide +kernel)⟩
theorem lw_p20 : lw_okq (⟨"JobHouse", "firstPending", "()I"⟩, 18) := ⟨⟨by decide +kernel, by decide +kernel⟩, List.mem_of_getElem? (i := 29) (by decide +kernel), List.mem_of_getElem? (i := 969) (by decide +kernel), List.mem_of_getElem? (i := 970) (by decide +kernel)⟩
theorem lw_p21 : lw_okq (⟨"JobHouse", "begin", "(I)V"⟩, 18) := ⟨⟨by decide +kernel, by decide +kernel⟩, List.mem_of_getElem? (i := 29) (by decide +kernel), List.mem_of_getElem? (i := 977) (by decide +kernel), List.mem_of_getElem? (i := 978) (by decide +kernel)⟩
theorem lw_p22 : lw_okq (⟨"JobHouse", "nextTime", "(I)J"⟩, 18) := ⟨⟨by decide +kernel, by decide +kernel⟩, List.mem_of_getElem? (i := 29) (by decide +kernel), List.mem_of_getElem? (i := 985) (by decide +kernel), List.mem_of_getElem? (i := 986) (by decide +kernel)⟩
theorem lw_p23 : lw_okq (⟨"JobHouseModel", "readZone", "(I)V"⟩, 50) := ⟨⟨by decide +kernel, by decide +kernel⟩, List.mem_of_getElem? (i := 1026) (by decide +kernel), List.mem_of_getElem? (i := 1223) (by decide +kernel), List.mem_of_getElem? (i := 1224) (by decide +kernel)⟩
theorem lw_p24 : lw_okq (⟨"JobHouseModel", "peek", "()I"⟩, 50) := ⟨⟨by decide +kernel, by decide +kernel⟩, List.mem_of_getElem? (i := 1026) (by decide +kernel), List.mem_of_getElem? (i := 1227) (by decide +kernel), List.mem_of_getElem? (i := 1228) (by decide +kernel)⟩
theorem lw_p25 : lw_okq (⟨"JobHouseModel", "bad", "(I)V"⟩, 50) := ⟨⟨by decide +kernel, by decide +kernel⟩, List.mem_of_getElem? (i := 1026) (by decide +kernel), List.mem_of_getElem? (i := 1231) (by decide +kernel), List.mem_of_getElem? (i := 1232) (by decide +kernel)⟩
theorem lw_p26 : lw_okq (⟨"JobHouseModel", "ranged", "(II)I"⟩, 50) := ⟨⟨by decide +kernel, by decide +kernel⟩, List.mem_of_getElem? (i := 1026) (by decide +kernel), List.mem_of_getElem? (i := 1236) (by decide +kernel), List.mem_of_getElem? (i := 1237) (by decide +kernel)⟩
theorem lw_p27 : lw_okq (⟨"JobHouseModel", "blanks", "()V"⟩, 50) := ⟨⟨by decide +kernel, by decide +kernel⟩, List.mem_of_getElem? (i := 1026) (by decide +kernel), List.mem_of_getElem? (i := 1245) (by decide +kernel), List.mem_of_getElem? (i := 1246) (by decide +kernel)⟩
theorem lw_p28 : lw_okq (⟨"JobHouseModel", "rule", "(I)V"⟩, 50) := ⟨⟨by decide +kernel, by decide +kernel⟩, List.mem_of_getElem? (i := 1026) (by decide +kernel), List.mem_of_getElem? (i := 1249) (by decide +kernel), List.mem_of_getElem? (i := 1250) (by decide +kernel)⟩
theorem lw_p29 : lw_okq (⟨"JobHouseModel", "expect", "(I)V"⟩, 50) := ⟨⟨by decide +kernel, by decide +kernel⟩, List.mem_of_getElem? (i := 1026) (by decide +kernel), List.mem_of_getElem? (i := 1253) (by decide +kernel), List.mem_of_getElem? (i := 1254) (by decide +kernel)⟩
theorem lw_p30 : lw_okq (⟨"JobHouseModel", "ruleDay", "(II)I"⟩, 50) := ⟨⟨by decide +kernel, by decide +kernel⟩, List.mem_of_getElem? (i := 1026) (by decide +kernel), List.mem_of_getElem? (i := 1257) (by decide +kernel), List.mem_of_getElem? (i := 1258) (by decide +kernel)⟩
theorem lw_p31 : lw_okq (⟨"JobHouseModel", "event", "(IJZ)V"⟩, 50) := ⟨⟨by decide +kernel, by decide +kernel⟩, List.mem_of_getElem? (i := 1026) (by decide +kernel), List.mem_of_getElem? (i := 1276) (by decide +kernel), List.mem_of_getElem? (i := 1277) (by decide +kernel)⟩
def lw_privs_2 : List (MethodName × Nat) := [(⟨"JobHouse", "checkWay", "(J)V"⟩, 18), (⟨"JobHouse", "firstEnded", "()I"⟩, 18), (⟨"JobHouse", "nominalBehind", "(LJobHouse$Job;)J"⟩, 18), (⟨"JobHouse", "free", "(IJ)V"⟩, 18), (⟨"JobHouse", "firstPending", "()I"⟩, 18), (⟨"JobHouse", "begin", "(I)V"⟩, 18), (⟨"JobHouse", "nextTime", "(I)J"⟩, 18), (⟨"JobHouseModel", "readZone", "(I)V"⟩, 50), (⟨"JobHouseModel", "peek", "()I"⟩, 50), (⟨"JobHouseModel", "bad", "(I)V"⟩, 50), (⟨"JobHouseModel", "ranged", "(II)I"⟩, 50), (⟨"JobHouseModel", "blanks", "()V"⟩, 50), (⟨"JobHouseModel", "rule", "(I)V"⟩, 50), (⟨"JobHouseModel", "expect", "(I)V"⟩, 50), (⟨"JobHouseModel", "ruleDay", "(II)I"⟩, 50), (⟨"JobHouseModel", "event", "(IJZ)V"⟩, 50)]
theorem lw_r2 : ∀ q ∈ lw_privs_2, lw_okq q := List.forall_mem_cons.mpr ⟨lw_p16, List.forall_mem_cons.mpr ⟨lw_p17, List.forall_mem_cons.mpr ⟨lw_p18, List.forall_mem_cons.mpr ⟨lw_p19, List.forall_mem_cons.mpr ⟨lw_p20, List.forall_mem_cons.mpr ⟨lw_p21, List.forall_mem_cons.mpr ⟨lw_p22, List.forall_mem_cons.mpr ⟨lw_p23, List.forall_mem_cons.mpr ⟨lw_p24, List.forall_mem_cons.mpr ⟨lw_p25, List.forall_mem_cons.mpr ⟨lw_p26, List.forall_mem_cons.mpr ⟨lw_p27, List.forall_mem_cons.mpr ⟨lw_p28, List.forall_mem_cons.mpr ⟨lw_p29, List.forall_mem_cons.mpr ⟨lw_p30, List.forall_mem_cons.mpr ⟨lw_p31, fun _ h => absurd h List.not_mem_nil⟩⟩⟩⟩⟩⟩⟩⟩⟩⟩⟩⟩⟩⟩⟩⟩
theorem lw_p32 : lw_okq (⟨"JobHouseModel", "readCron", "(I)V"⟩, 50) := ⟨⟨by decide +kernel, by decide +kernel⟩, List.mem_of_getElem? (i := 1026) (by decide +kernel), List.mem_of_getElem? (i := 1284) (by decide +kernel), List.mem_of_getElem? (i := 1285) (by decide +kernel)⟩
theorem lw_p33 : lw_okq (⟨"JobHouseModel", "field", "(I)V"⟩, 50) := ⟨⟨by decide +kernel, by decide +kernel⟩, List.mem_of_getElem? (i := 1026) (by decide +kernel), List.mem_of_getElem? (i := 1288) (by decide +kernel), List.mem_of_getElem? (i := 1289) (by decide +kernel)⟩
theorem lw_p34 : lw_okq (⟨"JobHouseModel", "items", "(I)V"⟩, 50) := ⟨⟨by decide +kernel, by decide +kernel⟩, List.mem_of_getElem? (i := 1026) (by decide +kernel), List.mem_of_getElem? (i := 1292) (by decide +kernel), List.mem_of_getElem? (i := 1293) (by decide +kernel)⟩
theorem lw_p35 : lw_okq (⟨"JobHouseModel", "value", "(I)I"⟩, 50) := ⟨⟨by decide +kernel, by decide +kernel⟩, List.mem_of_getElem? (i := 1026) (by decide +kernel), List.mem_of_getElem? (i := 1300) (by decide +kernel), List.mem_of_getElem? (i := 1301) (by decide +kernel)⟩
theorem lw_p36 : lw_okq (⟨"JobHouseModel", "special", "(II)Z"⟩, 50) := ⟨⟨by decide +kernel, by decide +kernel⟩, List.mem_of_getElem? (i := 1026) (by decide +kernel), List.mem_of_getElem? (i := 1308) (by decide +kernel), List.mem_of_getElem? (i := 1309) (by decide +kernel)⟩
theorem lw_p37 : lw_okq (⟨"JobHouseModel", "fail", "(I)I"⟩, 50) := ⟨⟨by decide +kernel, by decide +kernel⟩, List.mem_of_getElem? (i := 1026) (by decide +kernel), List.mem_of_getElem? (i := 1317) (by decide +kernel), List.mem_of_getElem? (i := 1318) (by decide +kernel)⟩
theorem lw_p38 : lw_okq (⟨"JobHouseModel", "badFire", "(IIIJ)Z"⟩, 50) := ⟨⟨by decide +kernel, by decide +kernel⟩, List.mem_of_getElem? (i := 1026) (by decide +kernel), List.mem_of_getElem? (i := 1325) (by decide +kernel), List.mem_of_getElem? (i := 1326) (by decide +kernel)⟩
theorem lw_p39 : lw_okq (⟨"JobHouseModel", "nextFire", "(IIIJ)J"⟩, 50) := ⟨⟨by decide +kernel, by decide +kernel⟩, List.mem_of_getElem? (i := 1026) (by decide +kernel), List.mem_of_getElem? (i := 1330) (by decide +kernel), List.mem_of_getElem? (i := 1331) (by decide +kernel)⟩
theorem lw_p40 : lw_okq (⟨"JobHouseModel", "passed", "(IJ)I"⟩, 50) := ⟨⟨by decide +kernel, by decide +kernel⟩, List.mem_of_getElem? (i := 1026) (by decide +kernel), List.mem_of_getElem? (i := 1335) (by decide +kernel), List.mem_of_getElem? (i := 1336) (by decide +kernel)⟩
theorem lw_p41 : lw_okq (⟨"JobHouseModel", "minutes", "(II)I"⟩, 50) := ⟨⟨by decide +kernel, by decide +kernel⟩, List.mem_of_getElem? (i := 1026) (by decide +kernel), List.mem_of_getElem? (i := 1343) (by decide +kernel), List.mem_of_getElem? (i := 1344) (by decide +kernel)⟩
theorem lw_p42 : lw_okq (⟨"JobHouseModel", "dayFits", "(III)Z"⟩, 50) := ⟨⟨by decide +kernel, by decide +kernel⟩, List.mem_of_getElem? (i := 1026) (by decide +kernel), List.mem_of_getElem? (i := 1348) (by decide +kernel), List.mem_of_getElem? (i := 1349) (by decide +kernel)⟩
theorem lw_p43 : lw_okq (⟨"JobHouseModel", "date", "(I)V"⟩, 50) := ⟨⟨by decide +kernel, by decide +kernel⟩, List.mem_of_getElem? (i := 1026) (by decide +kernel), List.mem_of_getElem? (i := 1352) (by decide +kernel), List.mem_of_getElem? (i := 1353) (by decide +kernel)⟩
theorem lw_p44 : lw_okq (⟨"JobHouseModel", "special", "(I)I"⟩, 50) := ⟨⟨by decide +kernel, by decide +kernel⟩, List.mem_of_getElem? (i := 1026) (by decide +kernel), List.mem_of_getElem? (i := 1357) (by decide +kernel), List.mem_of_getElem? (i := 1358) (by decide +kernel)⟩
theorem lw_p45 : lw_okq (⟨"JobHouseModel", "secondFrom", "(II)I"⟩, 50) := ⟨⟨by decide +kernel, by decide +kernel⟩, List.mem_of_getElem? (i := 1026) (by decide +kernel), List.mem_of_getElem? (i := 1362) (by decide +kernel), List.mem_of_getElem? (i := 1363) (by decide +kernel)⟩
theorem lw_p46 : lw_okq (⟨"JobHouseModel", "lastFire", "(IIIJ)J"⟩, 50) := ⟨⟨by decide +kernel, by decide +kernel⟩, List.mem_of_getElem? (i := 1026) (by decide +kernel), List.mem_of_getElem? (i := 1371) (by decide +kernel), List.mem_of_getElem? (i := 1372) (by decide +kernel)⟩
theorem lw_p47 : lw_okq (⟨"JobHouseModel", "secondTo", "(II)I"⟩, 50) := ⟨⟨by decide +kernel, by decide +kernel⟩, List.mem_of_getElem? (i := 1026) (by decide +kernel), List.mem_of_getElem? (i := 1376) (by decide +kernel), List.mem_of_getElem? (i := 1377) (by decide +kernel)⟩
def lw_privs_3 : List (MethodName × Nat) := [(⟨"JobHouseModel", "readCron", "(I)V"⟩, 50), (⟨"JobHouseModel", "field", "(I)V"⟩, 50), (⟨"JobHouseModel", "items", "(I)V"⟩, 50), (⟨"JobHouseModel", "value", "(I)I"⟩, 50), (⟨"JobHouseModel", "special", "(II)Z"⟩, 50), (⟨"JobHouseModel", "fail", "(I)I"⟩, 50), (⟨"JobHouseModel", "badFire", "(IIIJ)Z"⟩, 50), (⟨"JobHouseModel", "nextFire", "(IIIJ)J"⟩, 50), (⟨"JobHouseModel", "passed", "(IJ)I"⟩, 50), (⟨"JobHouseModel", "minutes", "(II)I"⟩, 50), (⟨"JobHouseModel", "dayFits", "(III)Z"⟩, 50), (⟨"JobHouseModel", "date", "(I)V"⟩, 50), (⟨"JobHouseModel", "special", "(I)I"⟩, 50), (⟨"JobHouseModel", "secondFrom", "(II)I"⟩, 50), (⟨"JobHouseModel", "lastFire", "(IIIJ)J"⟩, 50), (⟨"JobHouseModel", "secondTo", "(II)I"⟩, 50)]
theorem lw_r3 : ∀ q ∈ lw_privs_3, lw_okq q := List.forall_mem_cons.mpr ⟨lw_p32, List.forall_mem_cons.mpr ⟨lw_p33, List.forall_mem_cons.mpr ⟨lw_p34, List.forall_mem_cons.mpr ⟨lw_p35, List.forall_mem_cons.mpr ⟨lw_p36, List.forall_mem_cons.mpr ⟨lw_p37, List.forall_mem_cons.mpr ⟨lw_p38, List.forall_mem_cons.mpr ⟨lw_p39, List.forall_mem_cons.mpr ⟨lw_p40, List.forall_mem_cons.mpr ⟨lw_p41, List.forall_mem_cons.mpr ⟨lw_p42, List.forall_mem_cons.mpr ⟨lw_p43, List.forall_mem_cons.mpr ⟨lw_p44, List.forall_mem_cons.mpr ⟨lw_p45, List.forall_mem_cons.mpr ⟨lw_p46, List.forall_mem_cons.mpr ⟨lw_p47, fun _ h => absurd h List.not_mem_nil⟩⟩⟩⟩⟩⟩⟩⟩⟩⟩⟩⟩⟩⟩⟩⟩
theorem lw_p48 : lw_okq (⟨"JobHouseModel", "enter", "(IJJJIII)I"⟩, 50) := ⟨⟨by decide +kernel, by decide +kernel⟩, List.mem_of_getElem? (i := 1026) (by decide +kernel), List.mem_of_getElem? (i := 1390) (by decide +kernel), List.mem_of_getElem? (i := 1391) (by decide +kernel)⟩
theorem lw_p49 : lw_okq (⟨"JobHouseModel", "none", "(I)Z"⟩, 50) := ⟨⟨by decide +kernel, by decide +kernel⟩, List.mem_of_getElem? (i := 1026) (by decide +kernel), List.mem_of_getElem? (i := 1402) (by decide +kernel), List.mem_of_getElem? (i := 1403) (by decide +kernel)⟩
theorem lw_p50 : lw_okq (⟨"JobHouseModel", "work", "()Z"⟩, 50) := ⟨⟨by decide +kernel, by decide +kernel⟩, List.mem_of_getElem? (i := 1026) (by decide +kernel), List.mem_of_getElem? (i := 1415) (by decide +kernel), List.mem_of_getElem? (i := 1416) (by decide +kernel)⟩
theorem lw_p51 : lw_okq (⟨"JobHouseModel", "free", "(I)V"⟩, 50) := ⟨⟨by decide +kernel, by decide +kernel⟩, List.mem_of_getElem? (i := 1026) (by decide +kernel), List.mem_of_getElem? (i := 1419) (by decide +kernel), List.mem_of_getElem? (i := 1420) (by decide +kernel)⟩
theorem lw_p52 : lw_okq (⟨"JobHouseModel", "following", "(I)J"⟩, 50) := ⟨⟨by decide +kernel, by decide +kernel⟩, List.mem_of_getElem? (i := 1026) (by decide +kernel), List.mem_of_getElem? (i := 1423) (by decide +kernel), List.mem_of_getElem? (i := 1424) (by decide +kernel)⟩
theorem lw_p53 : lw_okq (⟨"JobHouseModel", "running", "()I"⟩, 50) := ⟨⟨by decide +kernel, by decide +kernel⟩, List.mem_of_getElem? (i := 1026) (by decide +kernel), List.mem_of_getElem? (i := 1427) (by decide +kernel), List.mem_of_getElem? (i := 1428) (by decide +kernel)⟩
theorem lw_p54 : lw_okq (⟨"JobHouseModel", "first", "()I"⟩, 50) := ⟨⟨by decide +kernel, by decide +kernel⟩, List.mem_of_getElem? (i := 1026) (by decide +kernel), List.mem_of_getElem? (i := 1431) (by decide +kernel), List.mem_of_getElem? (i := 1432) (by decide +kernel)⟩
theorem lw_p55 : lw_okq (⟨"JobHouseModel", "there", "()I"⟩, 50) := ⟨⟨by decide +kernel, by decide +kernel⟩, List.mem_of_getElem? (i := 1026) (by decide +kernel), List.mem_of_getElem? (i := 1443) (by decide +kernel), List.mem_of_getElem? (i := 1444) (by decide +kernel)⟩
def lw_privs_4 : List (MethodName × Nat) := [(⟨"JobHouseModel", "enter", "(IJJJIII)I"⟩, 50), (⟨"JobHouseModel", "none", "(I)Z"⟩, 50), (⟨"JobHouseModel", "work", "()Z"⟩, 50), (⟨"JobHouseModel", "free", "(I)V"⟩, 50), (⟨"JobHouseModel", "following", "(I)J"⟩, 50), (⟨"JobHouseModel", "running", "()I"⟩, 50), (⟨"JobHouseModel", "first", "()I"⟩, 50), (⟨"JobHouseModel", "there", "()I"⟩, 50)]
theorem lw_r4 : ∀ q ∈ lw_privs_4, lw_okq q := List.forall_mem_cons.mpr ⟨lw_p48, List.forall_mem_cons.mpr ⟨lw_p49, List.forall_mem_cons.mpr ⟨lw_p50, List.forall_mem_cons.mpr ⟨lw_p51, List.forall_mem_cons.mpr ⟨lw_p52, List.forall_mem_cons.mpr ⟨lw_p53, List.forall_mem_cons.mpr ⟨lw_p54, List.forall_mem_cons.mpr ⟨lw_p55, fun _ h => absurd h List.not_mem_nil⟩⟩⟩⟩⟩⟩⟩⟩
def lw_privs : List (MethodName × Nat) := lw_privs_1 ++ (lw_privs_2 ++ (lw_privs_3 ++ (lw_privs_4)))
def lw_tbl : List Cond := k2_sels lw_privs ++ tables_1
theorem lw_privs_ok : ∀ q ∈ lw_privs, lw_okq q := by
  show ∀ q ∈ lw_privs_1 ++ (lw_privs_2 ++ (lw_privs_3 ++ (lw_privs_4))), lw_okq q
  exact List.forall_mem_append.mpr ⟨lw_r1, List.forall_mem_append.mpr ⟨lw_r2, List.forall_mem_append.mpr ⟨lw_r3, lw_r4⟩⟩⟩
end
section
section JM0
abbrev jm_H : Type := Nat → Option va_E
def jm_up (h : jm_H) (a : Nat) (x : va_E) : jm_H := fun b => if b = a then some x else h b
theorem jm_up_eq (h : jm_H) (a : Nat) (x : va_E) : jm_up h a x a = some x := if_pos rfl
theorem jm_up_ne (h : jm_H) {a b : Nat} (x : va_E) (n : b ≠ a) : jm_up h a x b = h b := if_neg n
theorem jm_up_up (h : jm_H) (a : Nat) (x y : va_E) : jm_up (jm_up h a x) a y = jm_up h a y := by
  funext b
  by_cases e : b = a
  · subst e; rw [jm_up_eq, jm_up_eq]
  · rw [jm_up_ne _ _ e, jm_up_ne _ _ e, jm_up_ne _ _ e]
theorem jm_up_cm (h : jm_H) {a b : Nat} (x y : va_E) (n : a ≠ b) : jm_up (jm_up h a x) b y = jm_up (jm_up h b y) a x := by
  funext d
  by_cases e : d = a
  · subst e; rw [jm_up_ne _ _ n, jm_up_eq, jm_up_eq]
  · by_cases e2 : d = b
    · subst e2; rw [jm_up_eq, jm_up_ne _ _ e, jm_up_eq]
    · rw [jm_up_ne _ _ e2, jm_up_ne _ _ e, jm_up_ne _ _ e, jm_up_ne _ _ e2]
theorem jm_up_id {h : jm_H} {a : Nat} {x : va_E} (e : h a = some x) : jm_up h a x = h := by
  funext b
  by_cases q : b = a
  · subst q; rw [jm_up_eq, e]
  · rw [jm_up_ne _ _ q]
theorem jm_ap {h : jm_H} {a b : Nat} {x y : va_E} (ha : h a = some x) (hb : h b = some y) (n : x ≠ y) : a ≠ b := by
  intro e; subst e; rw [ha] at hb; exact n (Option.some.inj hb)
def jm_ld (D : va_G) (cl : List vw_C) (n0 : Nat) (h : jm_H) (H : Heap) : Prop := ∀ (a : Nat) (x : va_E), h a = some x → n0 ≤ a ∧ va_at D cl (a, x) H
def jm_tl (h : jm_H) (n : Nat) : va_W := (List.range n).filterMap (fun a => (h a).map (fun x => (a, x)))
theorem jm_tl_mem {h : jm_H} {n a : Nat} {x : va_E} : (a, x) ∈ jm_tl h n ↔ a < n ∧ h a = some x := by
  unfold jm_tl
  rw [List.mem_filterMap]
  constructor
  · rintro ⟨b, hb, hy⟩
    obtain ⟨y, hy, e⟩ := Option.map_eq_some_iff.mp hy
    cases e
    exact ⟨List.mem_range.mp hb, hy⟩
  · rintro ⟨h1, h2⟩
    exact ⟨a, List.mem_range.mpr h1, by rw [h2]; rfl⟩
theorem jm_tl_pw (h : jm_H) (n : Nat) : (jm_tl h n).Pairwise (fun x y => x.1 < y.1) := by
  unfold jm_tl
  rw [List.pairwise_filterMap]
  refine List.Pairwise.imp ?_ List.pairwise_lt_range
  intro a b hab x hx y hy
  obtain ⟨u, -, rfl⟩ := Option.map_eq_some_iff.mp hx
  obtain ⟨v, -, rfl⟩ := Option.map_eq_some_iff.mp hy
  exact hab
theorem jm_tl_inj {h : jm_H} {n i j : Nat} {x y : Nat × va_E} (hi : (jm_tl h n)[i]? = some x) (hj : (jm_tl h n)[j]? = some y) (e : x.1 = y.1) : i = j := by
  have pw := List.pairwise_iff_getElem.mp (jm_tl_pw h n)
  obtain ⟨hi1, hi2⟩ := List.getElem?_eq_some_iff.mp hi
  obtain ⟨hj1, hj2⟩ := List.getElem?_eq_some_iff.mp hj
  rcases Nat.lt_trichotomy i j with h1 | h1 | h1
  · have h2 := pw i j hi1 hj1 h1
    rw [hi2, hj2] at h2; omega
  · exact h1
  · have h2 := pw j i hj1 hi1 h1
    rw [hi2, hj2] at h2; omega
variable {D : va_G} {cl : List vw_C} {n0 : Nat} {h : jm_H} {H H1 : Heap}
theorem jm_P (hr : jm_ld D cl n0 h H) : va_P D cl (jm_tl h H.size) H := by
  intro k q hk
  obtain ⟨a, x⟩ := q
  exact (hr a x (jm_tl_mem.mp (List.mem_of_getElem? hk)).2).2
theorem jm_D (hr : jm_ld D cl n0 h H) : va_D (fun q => n0 ≤ q) (jm_tl h H.size) := by
  refine ⟨fun i j x y hx hy e => jm_tl_inj hx hy e, fun k q hk => ?_⟩
  obtain ⟨a, x⟩ := q
  exact (hr a x (jm_tl_mem.mp (List.mem_of_getElem? hk)).2).1
theorem jm_place (hr : jm_ld D cl n0 h H) {a : Nat} {x : va_E} (ha : h a = some x) : ∃ k : Nat, (jm_tl h H.size)[k]? = some (a, x) := List.getElem?_of_mem (jm_tl_mem.mpr ⟨(hr a x ha).2.lt, ha⟩)
theorem jm_set (hr : jm_ld D cl n0 h H) {a k : Nat} {x y : va_E} (hk : (jm_tl h H.size)[k]? = some (a, x)) (hP : va_P D cl ((jm_tl h H.size).set k (a, y)) H1) : jm_ld D cl n0 (jm_up h a y) H1 := by
  have hax := (jm_tl_mem.mp (List.mem_of_getElem? hk)).2
  intro b z hb
  by_cases e : b = a
  · subst e
    rw [jm_up_eq] at hb
    cases hb
    exact ⟨(hr b x hax).1, hP k (b, y) (by rw [List.getElem?_set_self (List.getElem?_eq_some_iff.mp hk).1])⟩
  · rw [jm_up_ne _ _ e] at hb
    obtain ⟨j, hj⟩ := jm_place hr hb
    refine ⟨(hr b z hb).1, hP j (b, z) ?_⟩
    rw [List.getElem?_set_ne, hj]
    intro he
    subst he
    rw [hk] at hj
    cases hj
    exact e rfl
theorem jm_app (hr : jm_ld D cl n0 h H) {q : Nat} {y : va_E} (hP : va_P D cl (jm_tl h H.size ++ [(q, y)]) H1) (hD : va_D (fun z => n0 ≤ z) (jm_tl h H.size ++ [(q, y)])) : jm_ld D cl n0 (jm_up h q y) H1 ∧ h q = none ∧ n0 ≤ q := by
  have hl : (jm_tl h H.size ++ [(q, y)])[(jm_tl h H.size).length]? = some (q, y) := by simp
  refine ⟨?_, ?_, hD.2 _ _ hl⟩
  · intro b z hb
    by_cases e : b = q
    · subst e
      rw [jm_up_eq] at hb
      cases hb
      exact ⟨hD.2 _ _ hl, hP _ _ hl⟩
    · rw [jm_up_ne _ _ e] at hb
      obtain ⟨j, hj⟩ := jm_place hr hb
      refine ⟨(hr b z hb).1, hP j (b, z) ?_⟩
      rw [List.getElem?_append_left (List.getElem?_eq_some_iff.mp hj).1]
      exact hj
  · cases hq : h q with
    | none => rfl
    | some z =>
      obtain ⟨j, hj⟩ := jm_place hr hq
      have hlt := (List.getElem?_eq_some_iff.mp hj).1
      have hj' : (jm_tl h H.size ++ [(q, y)])[j]? = some (q, z) := by rw [List.getElem?_append_left hlt]; exact hj
      have := hD.1 j _ _ _ hj' hl rfl
      omega
theorem jm_ld_le (hr : jm_ld D cl n0 h H) {h2 : jm_H} (hs : ∀ a x, h2 a = some x → h a = some x) : jm_ld D cl n0 h2 H := fun a x e => hr a x (hs a x e)
def jm_ev (S U : State) : Prop := S.WarmedH U.vm ∧ S.heap.size ≤ U.heap.size ∧ ∀ q : Nat, q < S.heap.size → U.heap[q]? = S.heap[q]?
def jm_gd (w : Cond) : Prop := ((w.onTables && w.keeps) = true ∨ ∃ ty, w = .arrayClass ty) ∨ (∃ a i b n d h, w = .fieldLinkNest a i b n d h) ∨ ∃ a i x h, w = .methodLinkNest a i x h
def jm_en (S : State) (D : va_G) (cl : List vw_C) (tys : List (ClassId × FieldType)) (G : List Cond) : Prop :=
  (∃ a0 : Array Value, ∀ w ∈ G, w.before a0 S = true) ∧ (∀ w ∈ G, jm_gd w) ∧ va_K D cl tys S
def jm_cx (p : Program) (s : State) (m : MethodId) (args : Array Value) (c : Code) (S : State) (D : va_G) (cl : List vw_C) (tys : List (ClassId × FieldType)) (G : List Cond) (cc : ByteArray) (nL : Nat) (own : String) : Prop :=
  p.tables.exec = Jvm.exec ∧ c.code = cc ∧ c.maxLocals = nL ∧ s.vm.findClass own = some m.cls ∧ (∀ w ∈ G, w.before args s = true) ∧ va_K D cl tys s ∧ jm_ev S s ∧ jm_en S D cl tys G
def jm_W (p : Program) (l : Launch) (e : Env) (R : Room) (s : State) (m : MethodId) (args : Array Value) (below : List Frame) (meth : Method) (c : Code) (S : State) (D : va_G) (cl : List vw_C) (Q : State → Prop) (nL pc : Nat) (lv : List (Nat × Value)) (st : List Value) (h : jm_H) (dc ds : Nat) : Prop :=
  ∀ (H : Heap) (ls : Array Slot) (locs : List Loc), lv_has ls nL lv → jm_ld D cl S.heap.size h H → va_S (fun q => S.heap.size ≤ q) s.heap H locs → W p l e R s m args below meth c H locs dc ds Q (F0 m pc ls st)
def jm_X (p : Program) (l : Launch) (e : Env) (R : Room) (s : State) (m : MethodId) (args : Array Value) (below : List Frame) (meth : Method) (c : Code) (S : State) (D : va_G) (cl : List vw_C) (Q : State → Prop) (nL pc : Nat) (lv : List (Nat × Value)) (st : List Value) (h : jm_H) (q : Addr) (dc ds : Nat) : Prop :=
  ∀ (H : Heap) (ls : Array Slot) (locs : List Loc), lv_has ls nL lv → jm_ld D cl S.heap.size h H → va_S (fun q => S.heap.size ≤ q) s.heap H locs → ∀ T : State, T.heap = H → Stand p l e R s m args below meth c T locs dc ds → ∃ t, Steps p.tables e below ((T.setTop (F0 m pc ls st)).pushFrame (.throwing q)) t ∧ Q t
end JM0
section JM1
variable {p : Program} {l : Launch} {e : Env} {R : Room} {s : State} {m : MethodId} {args : Array Value} {below : List Frame} {meth : Method} {c : Code} {Q : State → Prop}
variable {S : State} {D : va_G} {cl : List vw_C} {tys : List (ClassId × FieldType)} {G : List Cond} {cc : ByteArray} {nL pc dc ds : Nat} {own : String} {lv : List (Nat × Value)} {rest : List Value} {h : jm_H}
theorem jm_iadd (X : jm_cx p s m args c S D cl tys G cc nL own) {x y : Int32} (hd : decode cc pc = .ok (.iadd, 1))  (k : jm_W p l e R s m args below meth c S D cl Q nL (pc + 1) lv (.int (x + y) :: rest) h dc ds) : jm_W p l e R s m args below meth c S D cl Q nL (pc) lv (.int y :: .int x :: rest) h dc ds := fun H ls locs hl hr hS => lv_iadd X.1 X.2.1 hd (k H ls locs hl hr hS)
theorem jm_isub (X : jm_cx p s m args c S D cl tys G cc nL own) {x y : Int32} (hd : decode cc pc = .ok (.isub, 1))  (k : jm_W p l e R s m args below meth c S D cl Q nL (pc + 1) lv (.int (x - y) :: rest) h dc ds) : jm_W p l e R s m args below meth c S D cl Q nL (pc) lv (.int y :: .int x :: rest) h dc ds := fun H ls locs hl hr hS => lv_isub X.1 X.2.1 hd (k H ls locs hl hr hS)
theorem jm_imul (X : jm_cx p s m args c S D cl tys G cc nL own) {x y : Int32} (hd : decode cc pc = .ok (.imul, 1))  (k : jm_W p l e R s m args below meth c S D cl Q nL (pc + 1) lv (.int (x * y) :: rest) h dc ds) : jm_W p l e R s m args below meth c S D cl Q nL (pc) lv (.int y :: .int x :: rest) h dc ds := fun H ls locs hl hr hS => lv_imul X.1 X.2.1 hd (k H ls locs hl hr hS)
theorem jm_iand (X : jm_cx p s m args c S D cl tys G cc nL own) {x y : Int32} (hd : decode cc pc = .ok (.iand, 1))  (k : jm_W p l e R s m args below meth c S D cl Q nL (pc + 1) lv (.int (x &&& y) :: rest) h dc ds) : jm_W p l e R s m args below meth c S D cl Q nL (pc) lv (.int y :: .int x :: rest) h dc ds := fun H ls locs hl hr hS => lv_iand X.1 X.2.1 hd (k H ls locs hl hr hS)
theorem jm_ior (X : jm_cx p s m args c S D cl tys G cc nL own) {x y : Int32} (hd : decode cc pc = .ok (.ior, 1))  (k : jm_W p l e R s m args below meth c S D cl Q nL (pc + 1) lv (.int (x ||| y) :: rest) h dc ds) : jm_W p l e R s m args below meth c S D cl Q nL (pc) lv (.int y :: .int x :: rest) h dc ds := fun H ls locs hl hr hS => lv_ior X.1 X.2.1 hd (k H ls locs hl hr hS)
theorem jm_ixor (X : jm_cx p s m args c S D cl tys G cc nL own) {x y : Int32} (hd : decode cc pc = .ok (.ixor, 1))  (k : jm_W p l e R s m args below meth c S D cl Q nL (pc + 1) lv (.int (x ^^^ y) :: rest) h dc ds) : jm_W p l e R s m args below meth c S D cl Q nL (pc) lv (.int y :: .int x :: rest) h dc ds := fun H ls locs hl hr hS => lv_ixor X.1 X.2.1 hd (k H ls locs hl hr hS)
theorem jm_ishl (X : jm_cx p s m args c S D cl tys G cc nL own) {x y : Int32} (hd : decode cc pc = .ok (.ishl, 1))  (k : jm_W p l e R s m args below meth c S D cl Q nL (pc + 1) lv (.int (x <<< (y &&& 31)) :: rest) h dc ds) : jm_W p l e R s m args below meth c S D cl Q nL (pc) lv (.int y :: .int x :: rest) h dc ds := fun H ls locs hl hr hS => lv_ishl X.1 X.2.1 hd (k H ls locs hl hr hS)
theorem jm_ishr (X : jm_cx p s m args c S D cl tys G cc nL own) {x y : Int32} (hd : decode cc pc = .ok (.ishr, 1))  (k : jm_W p l e R s m args below meth c S D cl Q nL (pc + 1) lv (.int (x >>> (y &&& 31)) :: rest) h dc ds) : jm_W p l e R s m args below meth c S D cl Q nL (pc) lv (.int y :: .int x :: rest) h dc ds := fun H ls locs hl hr hS => lv_ishr X.1 X.2.1 hd (k H ls locs hl hr hS)
theorem jm_ladd (X : jm_cx p s m args c S D cl tys G cc nL own) {x y : Int64} (hd : decode cc pc = .ok (.ladd, 1))  (k : jm_W p l e R s m args below meth c S D cl Q nL (pc + 1) lv (.long (x + y) :: rest) h dc ds) : jm_W p l e R s m args below meth c S D cl Q nL (pc) lv (.long y :: .long x :: rest) h dc ds := fun H ls locs hl hr hS => lv_ladd X.1 X.2.1 hd (k H ls locs hl hr hS)
theorem jm_lsub (X : jm_cx p s m args c S D cl tys G cc nL own) {x y : Int64} (hd : decode cc pc = .ok (.lsub, 1))  (k : jm_W p l e R s m args below meth c S D cl Q nL (pc + 1) lv (.long (x - y) :: rest) h dc ds) : jm_W p l e R s m args below meth c S D cl Q nL (pc) lv (.long y :: .long x :: rest) h dc ds := fun H ls locs hl hr hS => lv_lsub X.1 X.2.1 hd (k H ls locs hl hr hS)
theorem jm_lmul (X : jm_cx p s m args c S D cl tys G cc nL own) {x y : Int64} (hd : decode cc pc = .ok (.lmul, 1))  (k : jm_W p l e R s m args below meth c S D cl Q nL (pc + 1) lv (.long (x * y) :: rest) h dc ds) : jm_W p l e R s m args below meth c S D cl Q nL (pc) lv (.long y :: .long x :: rest) h dc ds := fun H ls locs hl hr hS => lv_lmul X.1 X.2.1 hd (k H ls locs hl hr hS)
theorem jm_land (X : jm_cx p s m args c S D cl tys G cc nL own) {x y : Int64} (hd : decode cc pc = .ok (.land, 1))  (k : jm_W p l e R s m args below meth c S D cl Q nL (pc + 1) lv (.long (x &&& y) :: rest) h dc ds) : jm_W p l e R s m args below meth c S D cl Q nL (pc) lv (.long y :: .long x :: rest) h dc ds := fun H ls locs hl hr hS => lv_land X.1 X.2.1 hd (k H ls locs hl hr hS)
theorem jm_lor (X : jm_cx p s m args c S D cl tys G cc nL own) {x y : Int64} (hd : decode cc pc = .ok (.lor, 1))  (k : jm_W p l e R s m args below meth c S D cl Q nL (pc + 1) lv (.long (x ||| y) :: rest) h dc ds) : jm_W p l e R s m args below meth c S D cl Q nL (pc) lv (.long y :: .long x :: rest) h dc ds := fun H ls locs hl hr hS => lv_lor X.1 X.2.1 hd (k H ls locs hl hr hS)
theorem jm_lxor (X : jm_cx p s m args c S D cl tys G cc nL own) {x y : Int64} (hd : decode cc pc = .ok (.lxor, 1))  (k : jm_W p l e R s m args below meth c S D cl Q nL (pc + 1) lv (.long (x ^^^ y) :: rest) h dc ds) : jm_W p l e R s m args below meth c S D cl Q nL (pc) lv (.long y :: .long x :: rest) h dc ds := fun H ls locs hl hr hS => lv_lxor X.1 X.2.1 hd (k H ls locs hl hr hS)
theorem jm_idiv (X : jm_cx p s m args c S D cl tys G cc nL own) {x y : Int32} (hd : decode cc pc = .ok (.idiv, 1)) (hne : ¬ y = 0) (k : jm_W p l e R s m args below meth c S D cl Q nL (pc + 1) lv (.int (x / y) :: rest) h dc ds) : jm_W p l e R s m args below meth c S D cl Q nL (pc) lv (.int y :: .int x :: rest) h dc ds := fun H ls locs hl hr hS => lv_idiv X.1 X.2.1 hd hne (k H ls locs hl hr hS)
theorem jm_irem (X : jm_cx p s m args c S D cl tys G cc nL own) {x y : Int32} (hd : decode cc pc = .ok (.irem, 1)) (hne : ¬ y = 0) (k : jm_W p l e R s m args below meth c S D cl Q nL (pc + 1) lv (.int (x - x / y * y) :: rest) h dc ds) : jm_W p l e R s m args below meth c S D cl Q nL (pc) lv (.int y :: .int x :: rest) h dc ds := fun H ls locs hl hr hS => lv_irem X.1 X.2.1 hd hne (k H ls locs hl hr hS)
theorem jm_ldiv (X : jm_cx p s m args c S D cl tys G cc nL own) {x y : Int64} (hd : decode cc pc = .ok (.ldiv, 1)) (hne : ¬ y = 0) (k : jm_W p l e R s m args below meth c S D cl Q nL (pc + 1) lv (.long (x / y) :: rest) h dc ds) : jm_W p l e R s m args below meth c S D cl Q nL (pc) lv (.long y :: .long x :: rest) h dc ds := fun H ls locs hl hr hS => lv_ldiv X.1 X.2.1 hd hne (k H ls locs hl hr hS)
theorem jm_lrem (X : jm_cx p s m args c S D cl tys G cc nL own) {x y : Int64} (hd : decode cc pc = .ok (.lrem, 1)) (hne : ¬ y = 0) (k : jm_W p l e R s m args below meth c S D cl Q nL (pc + 1) lv (.long (x - x / y * y) :: rest) h dc ds) : jm_W p l e R s m args below meth c S D cl Q nL (pc) lv (.long y :: .long x :: rest) h dc ds := fun H ls locs hl hr hS => lv_lrem X.1 X.2.1 hd hne (k H ls locs hl hr hS)
theorem jm_ineg (X : jm_cx p s m args c S D cl tys G cc nL own) {x : Int32} (hd : decode cc pc = .ok (.ineg, 1))  (k : jm_W p l e R s m args below meth c S D cl Q nL (pc + 1) lv (.int (-x) :: rest) h dc ds) : jm_W p l e R s m args below meth c S D cl Q nL (pc) lv (.int x :: rest) h dc ds := fun H ls locs hl hr hS => lv_ineg X.1 X.2.1 hd (k H ls locs hl hr hS)
theorem jm_lneg (X : jm_cx p s m args c S D cl tys G cc nL own) {x : Int64} (hd : decode cc pc = .ok (.lneg, 1))  (k : jm_W p l e R s m args below meth c S D cl Q nL (pc + 1) lv (.long (-x) :: rest) h dc ds) : jm_W p l e R s m args below meth c S D cl Q nL (pc) lv (.long x :: rest) h dc ds := fun H ls locs hl hr hS => lv_lneg X.1 X.2.1 hd (k H ls locs hl hr hS)
theorem jm_i2l (X : jm_cx p s m args c S D cl tys G cc nL own) {x : Int32} (hd : decode cc pc = .ok (.i2l, 1))  (k : jm_W p l e R s m args below meth c S D cl Q nL (pc + 1) lv (.long x.toInt64 :: rest) h dc ds) : jm_W p l e R s m args below meth c S D cl Q nL (pc) lv (.int x :: rest) h dc ds := fun H ls locs hl hr hS => lv_i2l X.1 X.2.1 hd rfl (k H ls locs hl hr hS)
theorem jm_l2i (X : jm_cx p s m args c S D cl tys G cc nL own) {x : Int64} (hd : decode cc pc = .ok (.l2i, 1))  (k : jm_W p l e R s m args below meth c S D cl Q nL (pc + 1) lv (.int x.toInt32 :: rest) h dc ds) : jm_W p l e R s m args below meth c S D cl Q nL (pc) lv (.long x :: rest) h dc ds := fun H ls locs hl hr hS => lv_l2i X.1 X.2.1 hd rfl (k H ls locs hl hr hS)
theorem jm_i2b (X : jm_cx p s m args c S D cl tys G cc nL own) {x : Int32} (hd : decode cc pc = .ok (.i2b, 1))  (k : jm_W p l e R s m args below meth c S D cl Q nL (pc + 1) lv (.int x.toInt8.toInt32 :: rest) h dc ds) : jm_W p l e R s m args below meth c S D cl Q nL (pc) lv (.int x :: rest) h dc ds := fun H ls locs hl hr hS => lv_i2b X.1 X.2.1 hd rfl (k H ls locs hl hr hS)
theorem jm_lshl (X : jm_cx p s m args c S D cl tys G cc nL own) {x : Int64} {y : Int32} (hd : decode cc pc = .ok (.lshl, 1))  (k : jm_W p l e R s m args below meth c S D cl Q nL (pc + 1) lv (.long (x <<< (y.toInt64 &&& 63)) :: rest) h dc ds) : jm_W p l e R s m args below meth c S D cl Q nL (pc) lv (.int y :: .long x :: rest) h dc ds := fun H ls locs hl hr hS => lv_lshl X.1 X.2.1 hd rfl (k H ls locs hl hr hS)
theorem jm_lshr (X : jm_cx p s m args c S D cl tys G cc nL own) {x : Int64} {y : Int32} (hd : decode cc pc = .ok (.lshr, 1))  (k : jm_W p l e R s m args below meth c S D cl Q nL (pc + 1) lv (.long (x >>> (y.toInt64 &&& 63)) :: rest) h dc ds) : jm_W p l e R s m args below meth c S D cl Q nL (pc) lv (.int y :: .long x :: rest) h dc ds := fun H ls locs hl hr hS => lv_lshr X.1 X.2.1 hd rfl (k H ls locs hl hr hS)
theorem jm_lushr (X : jm_cx p s m args c S D cl tys G cc nL own) {x : Int64} {y : Int32} (hd : decode cc pc = .ok (.lushr, 1))  (k : jm_W p l e R s m args below meth c S D cl Q nL (pc + 1) lv (.long (x.toUInt64 >>> (y.toInt64.toUInt64 &&& Int64.toUInt64 63)).toInt64 :: rest) h dc ds) : jm_W p l e R s m args below meth c S D cl Q nL (pc) lv (.int y :: .long x :: rest) h dc ds := fun H ls locs hl hr hS => lv_lushr X.1 X.2.1 hd rfl (k H ls locs hl hr hS)
theorem jm_iushr (X : jm_cx p s m args c S D cl tys G cc nL own) {x y : Int32} (hd : decode cc pc = .ok (.iushr, 1))  (k : jm_W p l e R s m args below meth c S D cl Q nL (pc + 1) lv (.int (x.toUInt32 >>> (y.toUInt32 &&& Int32.toUInt32 31)).toInt32 :: rest) h dc ds) : jm_W p l e R s m args below meth c S D cl Q nL (pc) lv (.int y :: .int x :: rest) h dc ds := fun H ls locs hl hr hS => lv_iushr X.1 X.2.1 hd rfl (k H ls locs hl hr hS)
theorem jm_lcmp (X : jm_cx p s m args c S D cl tys G cc nL own) {x y : Int64} (hd : decode cc pc = .ok (.lcmp, 1))  (k : jm_W p l e R s m args below meth c S D cl Q nL (pc + 1) lv (.int (lg_cmp x y) :: rest) h dc ds) : jm_W p l e R s m args below meth c S D cl Q nL (pc) lv (.long y :: .long x :: rest) h dc ds := fun H ls locs hl hr hS => W.lcmp X.1 X.2.1 hd (k H ls locs hl hr hS)
theorem jm_dup (X : jm_cx p s m args c S D cl tys G cc nL own) {va : Value} (hd : decode cc pc = .ok (.dup, 1)) (hva : va.category = 1) (k : jm_W p l e R s m args below meth c S D cl Q nL (pc + 1) lv (va :: va :: rest) h dc ds) : jm_W p l e R s m args below meth c S D cl Q nL (pc) lv (va :: rest) h dc ds := fun H ls locs hl hr hS => lv_dup X.1 X.2.1 hd hva (k H ls locs hl hr hS)
theorem jm_pop (X : jm_cx p s m args c S D cl tys G cc nL own) {va : Value} (hd : decode cc pc = .ok (.pop, 1)) (hva : va.category = 1) (k : jm_W p l e R s m args below meth c S D cl Q nL (pc + 1) lv (rest) h dc ds) : jm_W p l e R s m args below meth c S D cl Q nL (pc) lv (va :: rest) h dc ds := fun H ls locs hl hr hS => lv_pop X.1 X.2.1 hd hva (k H ls locs hl hr hS)
theorem jm_dup_x1 (X : jm_cx p s m args c S D cl tys G cc nL own) {va vb : Value} (hd : decode cc pc = .ok (.dup_x1, 1)) (hva : va.category = 1) (hvb : vb.category = 1) (k : jm_W p l e R s m args below meth c S D cl Q nL (pc + 1) lv (va :: vb :: va :: rest) h dc ds) : jm_W p l e R s m args below meth c S D cl Q nL (pc) lv (va :: vb :: rest) h dc ds := fun H ls locs hl hr hS => lv_dup_x1 X.1 X.2.1 hd hva hvb (k H ls locs hl hr hS)
theorem jm_dup_x2 (X : jm_cx p s m args c S D cl tys G cc nL own) {va vb vd : Value} (hd : decode cc pc = .ok (.dup_x2, 1)) (hva : va.category = 1) (hvb : vb.category = 1) (hvd : vd.category = 1) (k : jm_W p l e R s m args below meth c S D cl Q nL (pc + 1) lv (va :: vb :: vd :: va :: rest) h dc ds) : jm_W p l e R s m args below meth c S D cl Q nL (pc) lv (va :: vb :: vd :: rest) h dc ds := fun H ls locs hl hr hS => lv_dup_x2 X.1 X.2.1 hd hva hvb hvd (k H ls locs hl hr hS)
theorem jm_dup2_11 (X : jm_cx p s m args c S D cl tys G cc nL own) {va vb : Value} (hd : decode cc pc = .ok (.dup2, 1)) (hva : va.category = 1) (hvb : vb.category = 1) (k : jm_W p l e R s m args below meth c S D cl Q nL (pc + 1) lv (va :: vb :: va :: vb :: rest) h dc ds) : jm_W p l e R s m args below meth c S D cl Q nL (pc) lv (va :: vb :: rest) h dc ds := fun H ls locs hl hr hS => lv_dup2_11 X.1 X.2.1 hd hva hvb (k H ls locs hl hr hS)
theorem jm_dup2_2 (X : jm_cx p s m args c S D cl tys G cc nL own) {va : Value} (hd : decode cc pc = .ok (.dup2, 1)) (hva : va.category = 2) (k : jm_W p l e R s m args below meth c S D cl Q nL (pc + 1) lv (va :: va :: rest) h dc ds) : jm_W p l e R s m args below meth c S D cl Q nL (pc) lv (va :: rest) h dc ds := fun H ls locs hl hr hS => lv_dup2_2 X.1 X.2.1 hd hva (k H ls locs hl hr hS)
theorem jm_iconst (X : jm_cx p s m args c S D cl tys G cc nL own) {n : Int} {v : Int32} (hd : decode cc pc = .ok (.iconst n, 1)) (hv : Int32.ofInt n = v) (k : jm_W p l e R s m args below meth c S D cl Q nL (pc + 1) lv (.int v :: rest) h dc ds) : jm_W p l e R s m args below meth c S D cl Q nL (pc) lv (rest) h dc ds := fun H ls locs hl hr hS => lv_iconst X.1 X.2.1 hd hv (k H ls locs hl hr hS)
theorem jm_bipush (X : jm_cx p s m args c S D cl tys G cc nL own) {n : Int} {v : Int32} (hd : decode cc pc = .ok (.bipush n, 2)) (hv : (Int8.ofInt n).toInt32 = v) (k : jm_W p l e R s m args below meth c S D cl Q nL (pc + 2) lv (.int v :: rest) h dc ds) : jm_W p l e R s m args below meth c S D cl Q nL (pc) lv (rest) h dc ds := fun H ls locs hl hr hS => lv_bipush X.1 X.2.1 hd hv (k H ls locs hl hr hS)
theorem jm_sipush (X : jm_cx p s m args c S D cl tys G cc nL own) {n : Int} {v : Int32} (hd : decode cc pc = .ok (.sipush n, 3)) (hv : (Int16.ofInt n).toInt32 = v) (k : jm_W p l e R s m args below meth c S D cl Q nL (pc + 3) lv (.int v :: rest) h dc ds) : jm_W p l e R s m args below meth c S D cl Q nL (pc) lv (rest) h dc ds := fun H ls locs hl hr hS => lv_sipush X.1 X.2.1 hd hv (k H ls locs hl hr hS)
theorem jm_lconst (X : jm_cx p s m args c S D cl tys G cc nL own) {n : Fin 2} {v : Int64} (hd : decode cc pc = .ok (.lconst n, 1)) (hv : Int64.ofNat (n : Nat) = v) (k : jm_W p l e R s m args below meth c S D cl Q nL (pc + 1) lv (.long v :: rest) h dc ds) : jm_W p l e R s m args below meth c S D cl Q nL (pc) lv (rest) h dc ds := fun H ls locs hl hr hS => lv_lconst X.1 X.2.1 hd hv (k H ls locs hl hr hS)
theorem jm_ldc (X : jm_cx p s m args c S D cl tys G cc nL own) {index : Nat} {v : Int32} (hd : decode cc pc = .ok (.ldc index, 2)) (hw : Cond.constant own index v ∈ G) (k : jm_W p l e R s m args below meth c S D cl Q nL (pc + 2) lv (.int v :: rest) h dc ds) : jm_W p l e R s m args below meth c S D cl Q nL (pc) lv (rest) h dc ds := fun H ls locs hl hr hS => lv_ldc X.1 X.2.1 X.2.2.2.1 (X.2.2.2.2.1 _ hw) hd (k H ls locs hl hr hS)
theorem jm_ldc_w (X : jm_cx p s m args c S D cl tys G cc nL own) {index : Nat} {v : Int32} (hd : decode cc pc = .ok (.ldc_w index, 3)) (hw : Cond.constant own index v ∈ G) (k : jm_W p l e R s m args below meth c S D cl Q nL (pc + 3) lv (.int v :: rest) h dc ds) : jm_W p l e R s m args below meth c S D cl Q nL (pc) lv (rest) h dc ds := fun H ls locs hl hr hS => lv_ldcw X.1 X.2.1 X.2.2.2.1 (X.2.2.2.2.1 _ hw) hd (k H ls locs hl hr hS)
theorem jm_ldc2 (X : jm_cx p s m args c S D cl tys G cc nL own) {index : Nat} {v : Int64} (hd : decode cc pc = .ok (.ldc2_w index, 3)) (hw : Cond.constantLong own index v ∈ G) (k : jm_W p l e R s m args below meth c S D cl Q nL (pc + 3) lv (.long v :: rest) h dc ds) : jm_W p l e R s m args below meth c S D cl Q nL (pc) lv (rest) h dc ds := fun H ls locs hl hr hS => lv_ldc2 X.1 X.2.1 X.2.2.2.1 (X.2.2.2.2.1 _ hw) hd (k H ls locs hl hr hS)
theorem jm_iload_n (X : jm_cx p s m args c S D cl tys G cc nL own) {n : Fin 4} {i : Nat} {x : Int32} (hd : decode cc pc = .ok (.iload_n n, 1)) (hi : (n : Nat) = i) (j : Nat) (hj : lv[j]? = some (i, .int x)) (k : jm_W p l e R s m args below meth c S D cl Q nL (pc + 1) lv (.int x :: rest) h dc ds) : jm_W p l e R s m args below meth c S D cl Q nL (pc) lv (rest) h dc ds := fun H ls locs hl hr hS => lv_iload_n X.1 X.2.1 hd hi (lv_at hl j hj) (k H ls locs hl hr hS)
theorem jm_iload (X : jm_cx p s m args c S D cl tys G cc nL own) {i : Nat} {x : Int32} (hd : decode cc pc = .ok (.iload i, 2)) (j : Nat) (hj : lv[j]? = some (i, .int x)) (k : jm_W p l e R s m args below meth c S D cl Q nL (pc + 2) lv (.int x :: rest) h dc ds) : jm_W p l e R s m args below meth c S D cl Q nL (pc) lv (rest) h dc ds := fun H ls locs hl hr hS => lv_iload X.1 X.2.1 hd (lv_at hl j hj) (k H ls locs hl hr hS)
theorem jm_istore_n (X : jm_cx p s m args c S D cl tys G cc nL own) {n : Fin 4} {i : Nat} {x : Int32} {lv1 : List (Nat × Value)} (hd : decode cc pc = .ok (.istore_n n, 1)) (hi : (n : Nat) = i) (hn : i < nL) (he : (i, Value.int x) :: lv.filter (fun q => !(q.1 == i) && !(q.1 + 1 == i && q.2.category == 2)) = lv1) (k : jm_W p l e R s m args below meth c S D cl Q nL (pc + 1) lv1 (rest) h dc ds) : jm_W p l e R s m args below meth c S D cl Q nL (pc) lv (.int x :: rest) h dc ds := fun H ls locs hl hr hS => lv_istore_n X.1 X.2.1 hd hi hl hn he (fun ls1 hl1 => k H ls1 locs hl1 hr hS)
theorem jm_istore (X : jm_cx p s m args c S D cl tys G cc nL own) {i : Nat} {x : Int32} {lv1 : List (Nat × Value)} (hd : decode cc pc = .ok (.istore i, 2)) (hn : i < nL) (he : (i, Value.int x) :: lv.filter (fun q => !(q.1 == i) && !(q.1 + 1 == i && q.2.category == 2)) = lv1) (k : jm_W p l e R s m args below meth c S D cl Q nL (pc + 2) lv1 (rest) h dc ds) : jm_W p l e R s m args below meth c S D cl Q nL (pc) lv (.int x :: rest) h dc ds := fun H ls locs hl hr hS => lv_istore X.1 X.2.1 hd hl hn he (fun ls1 hl1 => k H ls1 locs hl1 hr hS)
theorem jm_lload_n (X : jm_cx p s m args c S D cl tys G cc nL own) {n : Fin 4} {i : Nat} {x : Int64} (hd : decode cc pc = .ok (.lload_n n, 1)) (hi : (n : Nat) = i) (j : Nat) (hj : lv[j]? = some (i, .long x)) (k : jm_W p l e R s m args below meth c S D cl Q nL (pc + 1) lv (.long x :: rest) h dc ds) : jm_W p l e R s m args below meth c S D cl Q nL (pc) lv (rest) h dc ds := fun H ls locs hl hr hS => lv_lload_n X.1 X.2.1 hd hi (lv_at hl j hj) (k H ls locs hl hr hS)
theorem jm_lload (X : jm_cx p s m args c S D cl tys G cc nL own) {i : Nat} {x : Int64} (hd : decode cc pc = .ok (.lload i, 2)) (j : Nat) (hj : lv[j]? = some (i, .long x)) (k : jm_W p l e R s m args below meth c S D cl Q nL (pc + 2) lv (.long x :: rest) h dc ds) : jm_W p l e R s m args below meth c S D cl Q nL (pc) lv (rest) h dc ds := fun H ls locs hl hr hS => lv_lload X.1 X.2.1 hd (lv_at hl j hj) (k H ls locs hl hr hS)
theorem jm_lstore_n (X : jm_cx p s m args c S D cl tys G cc nL own) {n : Fin 4} {i : Nat} {x : Int64} {lv1 : List (Nat × Value)} (hd : decode cc pc = .ok (.lstore_n n, 1)) (hi : (n : Nat) = i) (hn : i + 1 < nL) (he : (i, Value.long x) :: lv.filter (fun q => !(q.1 == i) && (!(q.1 == i + 1) && !(q.1 + 1 == i && q.2.category == 2))) = lv1) (k : jm_W p l e R s m args below meth c S D cl Q nL (pc + 1) lv1 (rest) h dc ds) : jm_W p l e R s m args below meth c S D cl Q nL (pc) lv (.long x :: rest) h dc ds := fun H ls locs hl hr hS => lv_lstore_n X.1 X.2.1 hd hi hl hn he (fun ls1 hl1 => k H ls1 locs hl1 hr hS)
theorem jm_lstore (X : jm_cx p s m args c S D cl tys G cc nL own) {i : Nat} {x : Int64} {lv1 : List (Nat × Value)} (hd : decode cc pc = .ok (.lstore i, 2)) (hn : i + 1 < nL) (he : (i, Value.long x) :: lv.filter (fun q => !(q.1 == i) && (!(q.1 == i + 1) && !(q.1 + 1 == i && q.2.category == 2))) = lv1) (k : jm_W p l e R s m args below meth c S D cl Q nL (pc + 2) lv1 (rest) h dc ds) : jm_W p l e R s m args below meth c S D cl Q nL (pc) lv (.long x :: rest) h dc ds := fun H ls locs hl hr hS => lv_lstore X.1 X.2.1 hd hl hn he (fun ls1 hl1 => k H ls1 locs hl1 hr hS)
theorem jm_aload_n (X : jm_cx p s m args c S D cl tys G cc nL own) {n : Fin 4} {i : Nat} {x : Nat} (hd : decode cc pc = .ok (.aload_n n, 1)) (hi : (n : Nat) = i) (j : Nat) (hj : lv[j]? = some (i, .ref x)) (k : jm_W p l e R s m args below meth c S D cl Q nL (pc + 1) lv (.ref x :: rest) h dc ds) : jm_W p l e R s m args below meth c S D cl Q nL (pc) lv (rest) h dc ds := fun H ls locs hl hr hS => lv_aload_n X.1 X.2.1 hd hi (lv_at hl j hj) (k H ls locs hl hr hS)
theorem jm_aload (X : jm_cx p s m args c S D cl tys G cc nL own) {i : Nat} {x : Nat} (hd : decode cc pc = .ok (.aload i, 2)) (j : Nat) (hj : lv[j]? = some (i, .ref x)) (k : jm_W p l e R s m args below meth c S D cl Q nL (pc + 2) lv (.ref x :: rest) h dc ds) : jm_W p l e R s m args below meth c S D cl Q nL (pc) lv (rest) h dc ds := fun H ls locs hl hr hS => lv_aload X.1 X.2.1 hd (lv_at hl j hj) (k H ls locs hl hr hS)
theorem jm_astore_n (X : jm_cx p s m args c S D cl tys G cc nL own) {n : Fin 4} {i : Nat} {x : Nat} {lv1 : List (Nat × Value)} (hd : decode cc pc = .ok (.astore_n n, 1)) (hi : (n : Nat) = i) (hn : i < nL) (he : (i, Value.ref x) :: lv.filter (fun q => !(q.1 == i) && !(q.1 + 1 == i && q.2.category == 2)) = lv1) (k : jm_W p l e R s m args below meth c S D cl Q nL (pc + 1) lv1 (rest) h dc ds) : jm_W p l e R s m args below meth c S D cl Q nL (pc) lv (.ref x :: rest) h dc ds := fun H ls locs hl hr hS => lv_astore_n X.1 X.2.1 hd hi hl hn he (fun ls1 hl1 => k H ls1 locs hl1 hr hS)
theorem jm_astore (X : jm_cx p s m args c S D cl tys G cc nL own) {i : Nat} {x : Nat} {lv1 : List (Nat × Value)} (hd : decode cc pc = .ok (.astore i, 2)) (hn : i < nL) (he : (i, Value.ref x) :: lv.filter (fun q => !(q.1 == i) && !(q.1 + 1 == i && q.2.category == 2)) = lv1) (k : jm_W p l e R s m args below meth c S D cl Q nL (pc + 2) lv1 (rest) h dc ds) : jm_W p l e R s m args below meth c S D cl Q nL (pc) lv (.ref x :: rest) h dc ds := fun H ls locs hl hr hS => lv_astore X.1 X.2.1 hd hl hn he (fun ls1 hl1 => k H ls1 locs hl1 hr hS)
theorem jm_iinc (X : jm_cx p s m args c S D cl tys G cc nL own) {i : Nat} {n : Int} {x v : Int32} {lv1 : List (Nat × Value)} (hd : decode cc pc = .ok (.iinc i n, 3)) (j : Nat) (hj : lv[j]? = some (i, .int x)) (hv : x + Int32.ofInt n = v) (hn : i < nL) (he : (i, Value.int v) :: lv.filter (fun q => !(q.1 == i) && !(q.1 + 1 == i && q.2.category == 2)) = lv1) (k : jm_W p l e R s m args below meth c S D cl Q nL (pc + 3) lv1 (rest) h dc ds) : jm_W p l e R s m args below meth c S D cl Q nL (pc) lv (rest) h dc ds := fun H ls locs hl hr hS => lv_iinc X.1 X.2.1 hd hl hj hv hn he (fun ls1 hl1 => k H ls1 locs hl1 hr hS)
theorem jm_if_eq (X : jm_cx p s m args c S D cl tys G cc nL own) {x : Int32} {off : Int} {tgt : Nat} (hd : decode cc pc = .ok (.ifCond .eq off, 3)) (ht : (pc : Int) + off = (tgt : Int)) (kt : x = 0 → jm_W p l e R s m args below meth c S D cl Q nL (tgt) lv (rest) h dc ds) (kf : ¬ x = 0 → jm_W p l e R s m args below meth c S D cl Q nL (pc + 3) lv (rest) h dc ds) : jm_W p l e R s m args below meth c S D cl Q nL (pc) lv (.int x :: rest) h dc ds := fun H ls locs hl hr hS => lv_if_eq X.1 X.2.1 hd ht (fun q => kt q H ls locs hl hr hS) (fun q => kf q H ls locs hl hr hS)
theorem jm_if_ne (X : jm_cx p s m args c S D cl tys G cc nL own) {x : Int32} {off : Int} {tgt : Nat} (hd : decode cc pc = .ok (.ifCond .ne off, 3)) (ht : (pc : Int) + off = (tgt : Int)) (kt : ¬ x = 0 → jm_W p l e R s m args below meth c S D cl Q nL (tgt) lv (rest) h dc ds) (kf : x = 0 → jm_W p l e R s m args below meth c S D cl Q nL (pc + 3) lv (rest) h dc ds) : jm_W p l e R s m args below meth c S D cl Q nL (pc) lv (.int x :: rest) h dc ds := fun H ls locs hl hr hS => lv_if_ne X.1 X.2.1 hd ht (fun q => kt q H ls locs hl hr hS) (fun q => kf q H ls locs hl hr hS)
theorem jm_if_lt (X : jm_cx p s m args c S D cl tys G cc nL own) {x : Int32} {off : Int} {tgt : Nat} (hd : decode cc pc = .ok (.ifCond .lt off, 3)) (ht : (pc : Int) + off = (tgt : Int)) (kt : x < 0 → jm_W p l e R s m args below meth c S D cl Q nL (tgt) lv (rest) h dc ds) (kf : ¬ x < 0 → jm_W p l e R s m args below meth c S D cl Q nL (pc + 3) lv (rest) h dc ds) : jm_W p l e R s m args below meth c S D cl Q nL (pc) lv (.int x :: rest) h dc ds := fun H ls locs hl hr hS => lv_if_lt X.1 X.2.1 hd ht (fun q => kt q H ls locs hl hr hS) (fun q => kf q H ls locs hl hr hS)
theorem jm_if_ge (X : jm_cx p s m args c S D cl tys G cc nL own) {x : Int32} {off : Int} {tgt : Nat} (hd : decode cc pc = .ok (.ifCond .ge off, 3)) (ht : (pc : Int) + off = (tgt : Int)) (kt : 0 ≤ x → jm_W p l e R s m args below meth c S D cl Q nL (tgt) lv (rest) h dc ds) (kf : ¬ 0 ≤ x → jm_W p l e R s m args below meth c S D cl Q nL (pc + 3) lv (rest) h dc ds) : jm_W p l e R s m args below meth c S D cl Q nL (pc) lv (.int x :: rest) h dc ds := fun H ls locs hl hr hS => lv_if_ge X.1 X.2.1 hd ht (fun q => kt q H ls locs hl hr hS) (fun q => kf q H ls locs hl hr hS)
theorem jm_if_gt (X : jm_cx p s m args c S D cl tys G cc nL own) {x : Int32} {off : Int} {tgt : Nat} (hd : decode cc pc = .ok (.ifCond .gt off, 3)) (ht : (pc : Int) + off = (tgt : Int)) (kt : 0 < x → jm_W p l e R s m args below meth c S D cl Q nL (tgt) lv (rest) h dc ds) (kf : ¬ 0 < x → jm_W p l e R s m args below meth c S D cl Q nL (pc + 3) lv (rest) h dc ds) : jm_W p l e R s m args below meth c S D cl Q nL (pc) lv (.int x :: rest) h dc ds := fun H ls locs hl hr hS => lv_if_gt X.1 X.2.1 hd ht (fun q => kt q H ls locs hl hr hS) (fun q => kf q H ls locs hl hr hS)
theorem jm_if_le (X : jm_cx p s m args c S D cl tys G cc nL own) {x : Int32} {off : Int} {tgt : Nat} (hd : decode cc pc = .ok (.ifCond .le off, 3)) (ht : (pc : Int) + off = (tgt : Int)) (kt : x ≤ 0 → jm_W p l e R s m args below meth c S D cl Q nL (tgt) lv (rest) h dc ds) (kf : ¬ x ≤ 0 → jm_W p l e R s m args below meth c S D cl Q nL (pc + 3) lv (rest) h dc ds) : jm_W p l e R s m args below meth c S D cl Q nL (pc) lv (.int x :: rest) h dc ds := fun H ls locs hl hr hS => lv_if_le X.1 X.2.1 hd ht (fun q => kt q H ls locs hl hr hS) (fun q => kf q H ls locs hl hr hS)
theorem jm_icmp_eq (X : jm_cx p s m args c S D cl tys G cc nL own) {x y : Int32} {off : Int} {tgt : Nat} (hd : decode cc pc = .ok (.if_icmp .eq off, 3)) (ht : (pc : Int) + off = (tgt : Int)) (kt : x = y → jm_W p l e R s m args below meth c S D cl Q nL (tgt) lv (rest) h dc ds) (kf : ¬ x = y → jm_W p l e R s m args below meth c S D cl Q nL (pc + 3) lv (rest) h dc ds) : jm_W p l e R s m args below meth c S D cl Q nL (pc) lv (.int y :: .int x :: rest) h dc ds := fun H ls locs hl hr hS => lv_icmp_eq X.1 X.2.1 hd ht (fun q => kt q H ls locs hl hr hS) (fun q => kf q H ls locs hl hr hS)
theorem jm_icmp_ne (X : jm_cx p s m args c S D cl tys G cc nL own) {x y : Int32} {off : Int} {tgt : Nat} (hd : decode cc pc = .ok (.if_icmp .ne off, 3)) (ht : (pc : Int) + off = (tgt : Int)) (kt : ¬ x = y → jm_W p l e R s m args below meth c S D cl Q nL (tgt) lv (rest) h dc ds) (kf : x = y → jm_W p l e R s m args below meth c S D cl Q nL (pc + 3) lv (rest) h dc ds) : jm_W p l e R s m args below meth c S D cl Q nL (pc) lv (.int y :: .int x :: rest) h dc ds := fun H ls locs hl hr hS => lv_icmp_ne X.1 X.2.1 hd ht (fun q => kt q H ls locs hl hr hS) (fun q => kf q H ls locs hl hr hS)
theorem jm_icmp_lt (X : jm_cx p s m args c S D cl tys G cc nL own) {x y : Int32} {off : Int} {tgt : Nat} (hd : decode cc pc = .ok (.if_icmp .lt off, 3)) (ht : (pc : Int) + off = (tgt : Int)) (kt : x < y → jm_W p l e R s m args below meth c S D cl Q nL (tgt) lv (rest) h dc ds) (kf : ¬ x < y → jm_W p l e R s m args below meth c S D cl Q nL (pc + 3) lv (rest) h dc ds) : jm_W p l e R s m args below meth c S D cl Q nL (pc) lv (.int y :: .int x :: rest) h dc ds := fun H ls locs hl hr hS => lv_icmp_lt X.1 X.2.1 hd ht (fun q => kt q H ls locs hl hr hS) (fun q => kf q H ls locs hl hr hS)
theorem jm_icmp_ge (X : jm_cx p s m args c S D cl tys G cc nL own) {x y : Int32} {off : Int} {tgt : Nat} (hd : decode cc pc = .ok (.if_icmp .ge off, 3)) (ht : (pc : Int) + off = (tgt : Int)) (kt : y ≤ x → jm_W p l e R s m args below meth c S D cl Q nL (tgt) lv (rest) h dc ds) (kf : ¬ y ≤ x → jm_W p l e R s m args below meth c S D cl Q nL (pc + 3) lv (rest) h dc ds) : jm_W p l e R s m args below meth c S D cl Q nL (pc) lv (.int y :: .int x :: rest) h dc ds := fun H ls locs hl hr hS => lv_icmp_ge X.1 X.2.1 hd ht (fun q => kt q H ls locs hl hr hS) (fun q => kf q H ls locs hl hr hS)
theorem jm_icmp_gt (X : jm_cx p s m args c S D cl tys G cc nL own) {x y : Int32} {off : Int} {tgt : Nat} (hd : decode cc pc = .ok (.if_icmp .gt off, 3)) (ht : (pc : Int) + off = (tgt : Int)) (kt : y < x → jm_W p l e R s m args below meth c S D cl Q nL (tgt) lv (rest) h dc ds) (kf : ¬ y < x → jm_W p l e R s m args below meth c S D cl Q nL (pc + 3) lv (rest) h dc ds) : jm_W p l e R s m args below meth c S D cl Q nL (pc) lv (.int y :: .int x :: rest) h dc ds := fun H ls locs hl hr hS => lv_icmp_gt X.1 X.2.1 hd ht (fun q => kt q H ls locs hl hr hS) (fun q => kf q H ls locs hl hr hS)
theorem jm_icmp_le (X : jm_cx p s m args c S D cl tys G cc nL own) {x y : Int32} {off : Int} {tgt : Nat} (hd : decode cc pc = .ok (.if_icmp .le off, 3)) (ht : (pc : Int) + off = (tgt : Int)) (kt : x ≤ y → jm_W p l e R s m args below meth c S D cl Q nL (tgt) lv (rest) h dc ds) (kf : ¬ x ≤ y → jm_W p l e R s m args below meth c S D cl Q nL (pc + 3) lv (rest) h dc ds) : jm_W p l e R s m args below meth c S D cl Q nL (pc) lv (.int y :: .int x :: rest) h dc ds := fun H ls locs hl hr hS => lv_icmp_le X.1 X.2.1 hd ht (fun q => kt q H ls locs hl hr hS) (fun q => kf q H ls locs hl hr hS)
theorem jm_goto (X : jm_cx p s m args c S D cl tys G cc nL own) {off : Int} {tgt : Nat} (hd : decode cc pc = .ok (.goto off, 3)) (ht : (pc : Int) + off = (tgt : Int)) (k : jm_W p l e R s m args below meth c S D cl Q nL (tgt) lv (rest) h dc ds) : jm_W p l e R s m args below meth c S D cl Q nL (pc) lv (rest) h dc ds := fun H ls locs hl hr hS => lv_goto X.1 X.2.1 hd ht (k H ls locs hl hr hS)
theorem jm_tabOut (X : jm_cx p s m args c S D cl tys G cc nL own) {dflt lo hi : Int} {offs : Array Int} {len : Nat} {x : Int32} {tgt : Nat} (hd : decode cc pc = .ok (.tableswitch dflt lo hi offs, len)) (hx : x.toInt < lo ∨ hi < x.toInt) (ht : (pc : Int) + dflt = (tgt : Int)) (k : jm_W p l e R s m args below meth c S D cl Q nL (tgt) lv (rest) h dc ds) : jm_W p l e R s m args below meth c S D cl Q nL (pc) lv (.int x :: rest) h dc ds := fun H ls locs hl hr hS => lv_tableOut X.1 X.2.1 hd hx ht (k H ls locs hl hr hS)
theorem jm_tabIn (X : jm_cx p s m args c S D cl tys G cc nL own) {dflt lo hi : Int} {offs : Array Int} {len : Nat} {x : Int32} {off : Int} {tgt : Nat} (hd : decode cc pc = .ok (.tableswitch dflt lo hi offs, len)) (h1 : ¬ x.toInt < lo) (h2 : ¬ hi < x.toInt) (ho : offs[(x.toInt - lo).toNat]? = some off) (ht : (pc : Int) + off = (tgt : Int)) (k : jm_W p l e R s m args below meth c S D cl Q nL (tgt) lv (rest) h dc ds) : jm_W p l e R s m args below meth c S D cl Q nL (pc) lv (.int x :: rest) h dc ds := fun H ls locs hl hr hS => lv_tableIn X.1 X.2.1 hd h1 h2 ho ht (k H ls locs hl hr hS)
theorem jm_lookup (X : jm_cx p s m args c S D cl tys G cc nL own) {dflt : Int} {ps : Array (Int × Int)} {len : Nat} {x : Int32} {off : Int} {tgt : Nat} (hd : decode cc pc = .ok (.lookupswitch dflt ps, len)) (hp : (ps.toList.zip (ps.toList.drop 1)).all (fun (a, next) => a.1 < next.1) = true) (ho : Op.lookupswitch.offset ps.toList dflt x.toInt = off) (ht : (pc : Int) + off = (tgt : Int)) (k : jm_W p l e R s m args below meth c S D cl Q nL (tgt) lv (rest) h dc ds) : jm_W p l e R s m args below meth c S D cl Q nL (pc) lv (.int x :: rest) h dc ds := fun H ls locs hl hr hS => lv_lookup X.1 X.2.1 hd hp ho ht (k H ls locs hl hr hS)
theorem jm_topi {x : Int32} (k : ∀ y : Int32, y = x → jm_W p l e R s m args below meth c S D cl Q nL (pc) lv (.int y :: rest) h dc ds) : jm_W p l e R s m args below meth c S D cl Q nL (pc) lv (.int x :: rest) h dc ds := k x rfl
theorem jm_topl {x : Int64} (k : ∀ y : Int64, y = x → jm_W p l e R s m args below meth c S D cl Q nL (pc) lv (.long y :: rest) h dc ds) : jm_W p l e R s m args below meth c S D cl Q nL (pc) lv (.long x :: rest) h dc ds := k x rfl
end JM1
section JM2
variable {p : Program} {l : Launch} {e : Env} {R : Room} {s : State} {m : MethodId} {args : Array Value} {below : List Frame} {meth : Method} {c : Code} {Q : State → Prop}
variable {S : State} {D : va_G} {cl : List vw_C} {tys : List (ClassId × FieldType)} {G : List Cond} {cc : ByteArray} {nL pc dc ds : Nat} {own : String} {lv : List (Nat × Value)} {rest : List Value} {h : jm_H}
theorem jm_A (X : jm_cx p s m args c S D cl tys G cc nL own) : ∀ q : Nat, s.heap.size ≤ q → (fun z => S.heap.size ≤ z) q := fun _ hq => Nat.le_trans X.2.2.2.2.2.2.1.2.1 hq
def jm_fs (cl : List vw_C) (G : List Cond) (own : String) (index ci k : Nat) (ty : FieldType) (fin : Bool) : Prop :=
  ∃ (C : String) (T : u_T) (N : Nat) (ty0 : Nat → FieldType), cl[ci]? = some (C, T, N) ∧ k < N ∧ (∀ w ∈ u_ws C T N, w ∈ G) ∧ (∀ k, k < N → parseFieldDescriptor (T k).2.2.1 = some (ty0 k)) ∧ (∀ a, a < N → ∀ b, b < N → a ≠ b → (T a).2.1 ≠ (T b).2.1) ∧ (T k).2.2.2 = fin ∧ (T k).1 = C ∧ parseFieldDescriptor (T k).2.2.1 = some ty ∧
    (Cond.fieldLink own index (T k).1 (T k).2.1 (T k).2.2.1 ∈ G ∨ ∃ host : String, Cond.fieldLinkNest own index (T k).1 (T k).2.1 (T k).2.2.1 host ∈ G)
theorem jm_get (X : jm_cx p s m args c S D cl tys G cc nL own) {index ci k a : Nat} {ty : FieldType} {fin : Bool} {fs : List Value} {v : Value} (hd : decode cc pc = .ok (.getfield index, 3)) (hf : jm_fs cl G own index ci k ty fin) (ha : h a = some (.inr (ci, fs))) (hv : fs[k]? = some v)
    (kk : jm_W p l e R s m args below meth c S D cl Q nL (pc + 3) lv (v :: rest) h dc ds) : jm_W p l e R s m args below meth c S D cl Q nL pc lv (.ref a :: rest) h dc ds := by
  intro H ls locs hl hr hS
  obtain ⟨C, T, N, ty0, hc, hk, hin, hty, hnm, hfin, hC, hpd, hlk⟩ := hf
  obtain ⟨q0, hq⟩ := jm_place hr ha
  rcases hlk with hw | ⟨host, hw⟩
  · exact va_get X.1 X.2.1 X.2.2.2.2.1 hin X.2.2.2.1 X.2.2.2.2.2.1 (jm_P hr) q0 hq hc k hk (X.2.2.2.2.1 _ hw) (fun _ h9 => h9) hv hd (kk H ls locs hl hr hS)
  · exact va_getN X.1 X.2.1 X.2.2.2.2.1 hin X.2.2.2.1 X.2.2.2.2.2.1 (jm_P hr) q0 hq hc k hk (X.2.2.2.2.1 _ hw) (fun _ h9 => h9) hv hd (kk H ls locs hl hr hS)
theorem jm_put (X : jm_cx p s m args c S D cl tys G cc nL own) {index ci k a : Nat} {ty : FieldType} {fs fs1 : List Value} {v : Value} (hd : decode cc pc = .ok (.putfield index, 3)) (hf : jm_fs cl G own index ci k ty false) (ha : h a = some (.inr (ci, fs))) (hn : narrow ty v = v) (hfit : fits ty v = true) (hlen : k < fs.length) (he : fs.set k v = fs1)
    (kk : jm_W p l e R s m args below meth c S D cl Q nL (pc + 3) lv rest (jm_up h a (.inr (ci, fs1))) dc ds) : jm_W p l e R s m args below meth c S D cl Q nL pc lv (v :: .ref a :: rest) h dc ds := by
  intro H ls locs hl hr hS
  subst he
  obtain ⟨C, T, N, ty0, hc, hk, hin, hty, hnm, hfin, hC, hpd, hlk⟩ := hf
  obtain ⟨q0, hq⟩ := jm_place hr ha
  rcases hlk with hw | ⟨host, hw⟩
  · exact va_put X.1 X.2.1 X.2.2.2.2.1 hin ty0 hty hnm X.2.2.2.1 X.2.2.2.2.2.1 (jm_P hr) (jm_D hr) hS q0 hq hc k hk (X.2.2.2.2.1 _ hw) (fun _ h9 => h9) hfin hpd hn hfit hlen hd (fun H1 locs1 hP1 _ hS1 => kk H1 ls locs1 hl (jm_set hr hq hP1) hS1)
  · exact va_putN X.1 X.2.1 X.2.2.2.2.1 hin ty0 hty hnm X.2.2.2.1 X.2.2.2.2.2.1 (jm_P hr) (jm_D hr) hS q0 hq hc k hk (X.2.2.2.2.1 _ hw) (fun _ h9 => h9) hfin hpd hn hfit hlen hd (fun H1 locs1 hP1 _ hS1 => kk H1 ls locs1 hl (jm_set hr hq hP1) hS1)
def jm_ff (cl : List vw_C) (G : List Cond) (own : String) (index ci k : Nat) (ty : FieldType) : Prop :=
  ∃ (T : u_T) (N : Nat) (ty0 : Nat → FieldType), cl[ci]? = some (own, T, N) ∧ k < N ∧ (∀ w ∈ u_ws own T N, w ∈ G) ∧ (∀ k, k < N → parseFieldDescriptor (T k).2.2.1 = some (ty0 k)) ∧ (∀ a, a < N → ∀ b, b < N → a ≠ b → (T a).2.1 ≠ (T b).2.1) ∧ (T k).2.2.2 = true ∧ (T k).1 = own ∧ parseFieldDescriptor (T k).2.2.1 = some ty ∧ Cond.fieldLink own index (T k).1 (T k).2.1 (T k).2.2.1 ∈ G
theorem jm_putF (X : jm_cx p s m args c S D cl tys G cc nL own) {index ci k a : Nat} {ty : FieldType} {fs fs1 : List Value} {v : Value} (hmn : meth.name = "<init>") (hd : decode cc pc = .ok (.putfield index, 3)) (hf : jm_ff cl G own index ci k ty) (ha : h a = some (.inr (ci, fs))) (hn : narrow ty v = v) (hfit : fits ty v = true) (hlen : k < fs.length) (he : fs.set k v = fs1)
    (kk : jm_W p l e R s m args below meth c S D cl Q nL (pc + 3) lv rest (jm_up h a (.inr (ci, fs1))) dc ds) : jm_W p l e R s m args below meth c S D cl Q nL pc lv (v :: .ref a :: rest) h dc ds := by
  intro H ls locs hl hr hS
  subst he
  obtain ⟨T, N, ty0, hc, hk, hin, hty, hnm, hfin, hC, hpd, hw⟩ := hf
  obtain ⟨q0, hq⟩ := jm_place hr ha
  exact va_putF X.1 X.2.1 X.2.2.2.2.1 hin ty0 hty hnm X.2.2.2.1 X.2.2.2.2.2.1 (jm_P hr) (jm_D hr) hS q0 hq hc k hk (X.2.2.2.2.1 _ hw) (fun _ h9 => h9) hfin hmn hC hpd hn hfit hlen hd (fun H1 locs1 hP1 _ hS1 => kk H1 ls locs1 hl (jm_set hr hq hP1) hS1)
theorem jm_iald (X : jm_cx p s m args c S D cl tys G cc nL own) {t0 a n : Nat} {cA : ClassId} {f : Nat → Int32} {i : Int32} (hd : decode cc pc = .ok (.iaload, 1)) (ht : tys[t0]? = some (cA, .int)) (ha : h a = some (.inl (cA, n, .inl f))) (hin : vp_in i n) (kk : jm_W p l e R s m args below meth c S D cl Q nL (pc + 1) lv (.int (f i.toNatClampNeg) :: rest) h dc ds) : jm_W p l e R s m args below meth c S D cl Q nL (pc) lv (.int i :: .ref a :: rest) h dc ds := by
  intro H ls locs hl hr hS
  obtain ⟨q0, hq⟩ := jm_place hr ha
  exact va_iald X.1 X.2.1 X.2.2.2.2.2.1 (jm_P hr) q0 t0 hq ht hin hd (kk H ls locs hl hr hS)
theorem jm_bald (X : jm_cx p s m args c S D cl tys G cc nL own) {t0 a n : Nat} {cA : ClassId} {f : Nat → Int32} {i : Int32} (hd : decode cc pc = .ok (.baload, 1)) (ht : tys[t0]? = some (cA, .byte)) (ha : h a = some (.inl (cA, n, .inl f))) (hin : vp_in i n) (kk : jm_W p l e R s m args below meth c S D cl Q nL (pc + 1) lv (.int (f i.toNatClampNeg) :: rest) h dc ds) : jm_W p l e R s m args below meth c S D cl Q nL (pc) lv (.int i :: .ref a :: rest) h dc ds := by
  intro H ls locs hl hr hS
  obtain ⟨q0, hq⟩ := jm_place hr ha
  exact va_bald X.1 X.2.1 X.2.2.2.2.2.1 (jm_P hr) q0 t0 hq ht hin hd (kk H ls locs hl hr hS)
theorem jm_zald (X : jm_cx p s m args c S D cl tys G cc nL own) {t0 a n : Nat} {cA : ClassId} {f : Nat → Int32} {i : Int32} (hd : decode cc pc = .ok (.baload, 1)) (ht : tys[t0]? = some (cA, .boolean)) (ha : h a = some (.inl (cA, n, .inl f))) (hin : vp_in i n) (kk : jm_W p l e R s m args below meth c S D cl Q nL (pc + 1) lv (.int (f i.toNatClampNeg) :: rest) h dc ds) : jm_W p l e R s m args below meth c S D cl Q nL (pc) lv (.int i :: .ref a :: rest) h dc ds := by
  intro H ls locs hl hr hS
  obtain ⟨q0, hq⟩ := jm_place hr ha
  exact va_zald X.1 X.2.1 X.2.2.2.2.2.1 (jm_P hr) q0 t0 hq ht hin hd (kk H ls locs hl hr hS)
theorem jm_lald (X : jm_cx p s m args c S D cl tys G cc nL own) {t0 a n : Nat} {cA : ClassId} {f : Nat → Int64} {i : Int32} (hd : decode cc pc = .ok (.laload, 1)) (ht : tys[t0]? = some (cA, .long)) (ha : h a = some (.inl (cA, n, .inr (.inl f)))) (hin : vp_in i n) (kk : jm_W p l e R s m args below meth c S D cl Q nL (pc + 1) lv (.long (f i.toNatClampNeg) :: rest) h dc ds) : jm_W p l e R s m args below meth c S D cl Q nL (pc) lv (.int i :: .ref a :: rest) h dc ds := by
  intro H ls locs hl hr hS
  obtain ⟨q0, hq⟩ := jm_place hr ha
  exact va_lald X.1 X.2.1 X.2.2.2.2.2.1 (jm_P hr) q0 t0 hq ht hin hd (kk H ls locs hl hr hS)
theorem jm_aald (X : jm_cx p s m args c S D cl tys G cc nL own) {t0 a n : Nat} {cA : ClassId} {C : String} {f : Nat → Option Nat} {i : Int32} (hd : decode cc pc = .ok (.aaload, 1)) (ht : tys[t0]? = some (cA, .object C)) (ha : h a = some (.inl (cA, n, .inr (.inr (.inr (.inr f)))))) (hin : vp_in i n) (kk : jm_W p l e R s m args below meth c S D cl Q nL (pc + 1) lv (va_rf (f i.toNatClampNeg) :: rest) h dc ds) : jm_W p l e R s m args below meth c S D cl Q nL (pc) lv (.int i :: .ref a :: rest) h dc ds := by
  intro H ls locs hl hr hS
  obtain ⟨q0, hq⟩ := jm_place hr ha
  exact va_aldq X.1 X.2.1 X.2.2.2.2.2.1 (jm_P hr) q0 t0 hq ht hin hd (kk H ls locs hl hr hS)
theorem jm_iast (X : jm_cx p s m args c S D cl tys G cc nL own) {t0 a n : Nat} {cA : ClassId} {f : Nat → Int32} {i : Int32} {x : Int32} (hd : decode cc pc = .ok (.iastore, 1)) (ht : tys[t0]? = some (cA, .int)) (ha : h a = some (.inl (cA, n, .inl f))) (hin : vp_in i n) (kk : jm_W p l e R s m args below meth c S D cl Q nL (pc + 1) lv (rest) (jm_up h a (.inl (cA, n, .inl (upd f i.toNatClampNeg x)))) dc ds) : jm_W p l e R s m args below meth c S D cl Q nL (pc) lv (.int x :: .int i :: .ref a :: rest) h dc ds := by
  intro H ls locs hl hr hS
  obtain ⟨q0, hq⟩ := jm_place hr ha
  exact va_iast X.1 X.2.1 X.2.2.2.2.2.1 (jm_P hr) (jm_D hr) hS q0 t0 hq ht hin hd (fun H1 locs1 hP1 _ hS1 => kk H1 ls locs1 hl (jm_set hr hq hP1) hS1)
theorem jm_bast (X : jm_cx p s m args c S D cl tys G cc nL own) {t0 a n : Nat} {cA : ClassId} {f : Nat → Int32} {i : Int32} {x : Int32} (hd : decode cc pc = .ok (.bastore, 1)) (ht : tys[t0]? = some (cA, .byte)) (ha : h a = some (.inl (cA, n, .inl f))) (hin : vp_in i n) (kk : jm_W p l e R s m args below meth c S D cl Q nL (pc + 1) lv (rest) (jm_up h a (.inl (cA, n, .inl (upd f i.toNatClampNeg (vp_nar .byte x))))) dc ds) : jm_W p l e R s m args below meth c S D cl Q nL (pc) lv (.int x :: .int i :: .ref a :: rest) h dc ds := by
  intro H ls locs hl hr hS
  obtain ⟨q0, hq⟩ := jm_place hr ha
  exact va_bast X.1 X.2.1 X.2.2.2.2.2.1 (jm_P hr) (jm_D hr) hS q0 t0 hq ht hin hd (fun H1 locs1 hP1 _ hS1 => kk H1 ls locs1 hl (jm_set hr hq hP1) hS1)
theorem jm_zast (X : jm_cx p s m args c S D cl tys G cc nL own) {t0 a n : Nat} {cA : ClassId} {f : Nat → Int32} {i : Int32} {x : Int32} (hd : decode cc pc = .ok (.bastore, 1)) (ht : tys[t0]? = some (cA, .boolean)) (ha : h a = some (.inl (cA, n, .inl f))) (hin : vp_in i n) (kk : jm_W p l e R s m args below meth c S D cl Q nL (pc + 1) lv (rest) (jm_up h a (.inl (cA, n, .inl (upd f i.toNatClampNeg (vp_nar .boolean x))))) dc ds) : jm_W p l e R s m args below meth c S D cl Q nL (pc) lv (.int x :: .int i :: .ref a :: rest) h dc ds := by
  intro H ls locs hl hr hS
  obtain ⟨q0, hq⟩ := jm_place hr ha
  exact va_zast X.1 X.2.1 X.2.2.2.2.2.1 (jm_P hr) (jm_D hr) hS q0 t0 hq ht hin hd (fun H1 locs1 hP1 _ hS1 => kk H1 ls locs1 hl (jm_set hr hq hP1) hS1)
theorem jm_last (X : jm_cx p s m args c S D cl tys G cc nL own) {t0 a n : Nat} {cA : ClassId} {f : Nat → Int64} {i : Int32} {x : Int64} (hd : decode cc pc = .ok (.lastore, 1)) (ht : tys[t0]? = some (cA, .long)) (ha : h a = some (.inl (cA, n, .inr (.inl f)))) (hin : vp_in i n) (kk : jm_W p l e R s m args below meth c S D cl Q nL (pc + 1) lv (rest) (jm_up h a (.inl (cA, n, .inr (.inl (vp_updL f i.toNatClampNeg x))))) dc ds) : jm_W p l e R s m args below meth c S D cl Q nL (pc) lv (.long x :: .int i :: .ref a :: rest) h dc ds := by
  intro H ls locs hl hr hS
  obtain ⟨q0, hq⟩ := jm_place hr ha
  exact va_last X.1 X.2.1 X.2.2.2.2.2.1 (jm_P hr) (jm_D hr) hS q0 t0 hq ht hin hd (fun H1 locs1 hP1 _ hS1 => kk H1 ls locs1 hl (jm_set hr hq hP1) hS1)
theorem jm_aast (X : jm_cx p s m args c S D cl tys G cc nL own) {t0 a n v ci : Nat} {cA : ClassId} {r : vw_C} {vs : List Value} {f : Nat → Option Nat} {i : Int32} (hd : decode cc pc = .ok (.aastore, 1)) (ht : tys[t0]? = some (cA, .object r.1)) (hc : cl[ci]? = some r) (ha : h a = some (.inl (cA, n, .inr (.inr (.inr (.inr f)))))) (hv : h v = some (.inr (ci, vs))) (hin : vp_in i n) (kk : jm_W p l e R s m args below meth c S D cl Q nL (pc + 1) lv (rest) (jm_up h a (.inl (cA, n, .inr (.inr (.inr (.inr (va_up f i.toNatClampNeg (some v)))))))) dc ds) : jm_W p l e R s m args below meth c S D cl Q nL (pc) lv (.ref v :: .int i :: .ref a :: rest) h dc ds := by
  intro H ls locs hl hr hS
  obtain ⟨q0, hq⟩ := jm_place hr ha
  obtain ⟨q1, hq1⟩ := jm_place hr hv
  exact va_astq X.1 X.2.1 X.2.2.2.2.2.1 (jm_P hr) (jm_D hr) hS q0 t0 q1 ci hq ht hq1 hc hin hd (fun H1 locs1 hP1 _ hS1 => kk H1 ls locs1 hl (jm_set hr hq hP1) hS1)
theorem jm_alen (X : jm_cx p s m args c S D cl tys G cc nL own) {t0 a : Nat} {cA : ClassId} {x : vp_A} {ty : FieldType} {v : Int32} (hd : decode cc pc = .ok (.arraylength, 1)) (ht : tys[t0]? = some (cA, ty)) (ha : h a = some (.inl (cA, x))) (hv : Int32.ofNat x.1 = v) (kk : jm_W p l e R s m args below meth c S D cl Q nL (pc + 1) lv (.int v :: rest) h dc ds) : jm_W p l e R s m args below meth c S D cl Q nL (pc) lv (.ref a :: rest) h dc ds := by
  intro H ls locs hl hr hS
  obtain ⟨q0, hq⟩ := jm_place hr ha
  exact va_alen X.1 X.2.1 X.2.2.2.2.2.1 (jm_P hr) q0 t0 hq ht hv hd (kk H ls locs hl hr hS)
def jm_nw (cl : List vw_C) (G : List Cond) (own : String) (index ci N : Nat) (fs : List Value) : Prop :=
  ∃ (C : String) (T : u_T) (ty : Nat → FieldType), cl[ci]? = some (C, T, N) ∧ (∀ w ∈ u_ws C T N, w ∈ G) ∧ (∀ k, k < N → parseFieldDescriptor (T k).2.2.1 = some (ty k)) ∧ (∀ j, j < N → defaultValue (ty j) = vp_V fs j) ∧ Cond.classLink own index C ∈ G ∧ Cond.instantiable C N ∈ G ∧ Cond.initialized C ∈ G
theorem jm_new (X : jm_cx p s m args c S D cl tys G cc nL own) {index ci N : Nat} {fs : List Value} (hd : decode cc pc = .ok (.new index, 3)) (hf : jm_nw cl G own index ci N fs) (hcells : dc + 1 ≤ R.cells) (hslots : ds + N ≤ R.slots)
    (kk : ∀ q : Nat, h q = none → S.heap.size ≤ q → jm_W p l e R s m args below meth c S D cl Q nL (pc + 3) lv (.ref q :: rest) (jm_up h q (.inr (ci, fs))) (dc + 1) (ds + N)) : jm_W p l e R s m args below meth c S D cl Q nL pc lv rest h dc ds := by
  intro H ls locs hl hr hS
  obtain ⟨C, T, ty, hc, hin, hty, hfs, w1, w2, w3⟩ := hf
  refine va_new X.1 X.2.1 X.2.2.2.2.1 hin ty hty X.2.2.2.1 (X.2.2.2.2.1 _ w1) (X.2.2.2.2.1 _ w2) (X.2.2.2.2.1 _ w3) X.2.2.2.2.2.1 (jm_P hr) (jm_D hr) hS (jm_A X) hc hfs hcells hslots hd (fun q H1 hP1 hD1 hS1 => ?_)
  obtain ⟨h1, h2, h3⟩ := jm_app hr hP1 hD1
  exact kk q h2 h3 H1 ls locs hl h1 hS1
theorem jm_newa (X : jm_cx p s m args c S D cl tys G cc nL own) {atype : ArrayType} {ty : FieldType} {t0 N : Nat} {cA : ClassId} {n : Int32} {a0 : vp_A} (hd : decode cc pc = .ok (.newarray atype, 2)) (hw : Cond.arrayClass (newarray.typeOf atype) ∈ G) (hty : newarray.typeOf atype = ty) (ht : tys[t0]? = some (cA, ty)) (ha : ∀ cA : ClassId, vp_cell cA a0 = arrV cA N (fun _ => defaultValue ty)) (hn : ¬ n < 0) (hN : n.toNatClampNeg = N) (hb : N * componentBytes ty ≤ 536870912) (hcells : dc + 1 ≤ R.cells) (hslots : ds + N ≤ R.slots)
    (kk : ∀ q : Nat, h q = none → S.heap.size ≤ q → jm_W p l e R s m args below meth c S D cl Q nL (pc + 2) lv (.ref q :: rest) (jm_up h q (.inl (cA, a0))) (dc + 1) (ds + N)) : jm_W p l e R s m args below meth c S D cl Q nL pc lv (.int n :: rest) h dc ds := by
  intro H ls locs hl hr hS
  refine va_newa X.1 X.2.1 (X.2.2.2.2.1 _ hw) hty X.2.2.2.2.2.1 (jm_P hr) (jm_D hr) hS (jm_A X) ha hn hN hb hcells hslots hd (fun q cA1 H1 hK1 hP1 hD1 hS1 => ?_)
  have e1 := (hK1.2 tys.length (cA1, ty) (by simp)).2
  have e2 := (X.2.2.2.2.2.1.2 t0 _ ht).2
  have e3 : cA1 = cA := by
    subst hty
    cases atype <;> exact Option.some.inj (e1.symm.trans e2)
  subst e3
  obtain ⟨h1, h2, h3⟩ := jm_app hr hP1 hD1
  exact kk q h2 h3 H1 ls locs hl h1 hS1
theorem jm_newq (X : jm_cx p s m args c S D cl tys G cc nL own) {C : String} {index t0 N : Nat} {cA : ClassId} {n : Int32} (hd : decode cc pc = .ok (.anewarray index, 3)) (hw : Cond.classLink own index C ∈ G) (hv : Cond.arrayOver (.object C) ∈ G) (ht : tys[t0]? = some (cA, .object C)) (hn : ¬ n < 0) (hN : n.toNatClampNeg = N) (hb : N * 4 ≤ 536870912) (hcells : dc + 1 ≤ R.cells) (hslots : ds + N ≤ R.slots)
    (kk : ∀ q : Nat, h q = none → S.heap.size ≤ q → jm_W p l e R s m args below meth c S D cl Q nL (pc + 3) lv (.ref q :: rest) (jm_up h q (.inl (cA, N, .inr (.inr (.inr (.inr (fun _ => none))))))) (dc + 1) (ds + N)) : jm_W p l e R s m args below meth c S D cl Q nL pc lv (.int n :: rest) h dc ds := by
  intro H ls locs hl hr hS
  refine va_newq X.1 X.2.1 X.2.2.2.1 (X.2.2.2.2.1 _ hw) (va_AO.of (X.2.2.2.2.1 _ hv)) X.2.2.2.2.2.1 (jm_P hr) (jm_D hr) hS (jm_A X) hn hN hb hcells hslots hd (fun q cA1 H1 hK1 hP1 hD1 hS1 => ?_)
  obtain ⟨_, _, _, _, _, e1⟩ := (hK1.2 tys.length (cA1, .object C) (by simp)).2
  obtain ⟨_, _, _, _, _, e2⟩ := (X.2.2.2.2.2.1.2 t0 _ ht).2
  have e3 : cA1 = cA := Option.some.inj (e1.symm.trans e2)
  subst e3
  obtain ⟨h1, h2, h3⟩ := jm_app hr hP1 hD1
  exact kk q h2 h3 H1 ls locs hl h1 hS1
end JM2
end
section
section JM3
variable {p : Program} {l : Launch} {e : Env} {R : Room} {s : State} {m : MethodId} {args : Array Value} {below : List Frame} {meth : Method} {c : Code} {Q : State → Prop}
variable {S : State} {D : va_G} {cl : List vw_C} {tys : List (ClassId × FieldType)} {G : List Cond} {cc : ByteArray} {nL pc dc ds : Nat} {own : String} {lv : List (Nat × Value)} {rest : List Value} {h : jm_H}
def jm_Qc (S : State) (D : va_G) (cl : List vw_C) (Po : Outcome → jm_H → Prop) (mc ms : Nat) (st : State) (o : Outcome) (t : State) : Prop :=
  (∃ h1, Po o h1 ∧ jm_ld D cl S.heap.size h1 t.heap) ∧ va_F (fun q => S.heap.size ≤ q) st t ∧ st.WarmedH t.vm ∧ ∃ L : List Loc, st.sameButNew ({ t with vm := st.vm } : State) L mc ms ∧ ∀ q ∈ L, S.heap.size ≤ q.base
def jm_Q (S : State) (D : va_G) (cl : List vw_C) (below : List Frame) (s : State) (Po : Outcome → jm_H → Prop) (mc ms : Nat) : State → Prop := fun t =>
  ∃ o, t.status = .running ∧ Ended t below o ∧ jm_Qc S D cl Po mc ms s o t
def jm_M (l : Launch) (S : State) (D : va_G) (cl : List vw_C) (y : MethodName) (wc : Cond) (rm : Room) (As : List Value) (h : jm_H) (Po : Outcome → jm_H → Prop) (mc ms : Nat) : Prop :=
  MetFree l y (headSpec [wc] rm) (fun a U => a = As.toArray ∧ jm_ev S U ∧ jm_ld D cl S.heap.size h U.heap) (fun _ _ _ _ _ => True) (fun _ st o t => jm_Qc S D cl Po mc ms st o t)
theorem jm_en_w (E : jm_en S D cl tys G) {U : State} (hU : S.WarmedH U.vm) (a : Array Value) : ∀ w ∈ G, w.before a U = true := fun w hw => by
  obtain ⟨⟨a0, h0⟩, hg, -⟩ := E
  rcases hg w hw with h1 | ⟨a1, i, b, n, d, h1, rfl⟩ | ⟨a1, i, x, h1, rfl⟩
  · exact word_at hU h1 (h0 w hw)
  · exact va_Nw.use rfl (va_Nw.warmF hU (va_Nw.of rfl (h0 _ hw)))
  · exact va_Nw.use rfl (va_Nw.warmM hU (va_Nw.of rfl (h0 _ hw)))
theorem jm_ofW {y : MethodName} {maxL : Nat} {ret : Option FieldType} {rm : Room} {As : List Value} {Po : Outcome → jm_H → Prop} {mc ms : Nat} (E : jm_en S D cl tys G) (hy : plainName y.cls = true) (hL : (lg_sl As).length ≤ maxL)
    (body : ∀ (p : Program) (e : Env) (s : State) (m : MethodId) (below : List Frame) (meth : Method) (c : Code), jm_cx p s m As.toArray c S D cl tys G cc maxL y.cls → meth.sig.returnType = ret → meth.locks = false → meth.name = y.name → c.exceptionTable.isEmpty = true → l.admits e →
      jm_W p l e rm s m As.toArray below meth c S D cl (jm_Q S D cl below s Po mc ms) maxL 0 (lv_args 0 As) [] h 0 0) : jm_M l S D cl y (Cond.code y cc maxL ret) rm As h Po mc ms := by
  refine MetFree.of_bodyS (code := cc) (maxLocals := maxL) (ret := ret) hy ?_ ?_
  · intro args s m hp hn
    obtain ⟨meth, c, h1, h2, h3, h4, h5, h6, -, -⟩ := Cond.code_spec hn (atoms_spec (ws := [Cond.code y cc maxL ret]) hp _ List.mem_cons_self)
    exact ⟨meth, c, h1, h2, h3, h4, h5, h6⟩
  · intro p e s m args below meth c s₁ B hml hP _
    obtain ⟨rfl, hev, hld⟩ := hP
    have hh0 : s₁.heap = s.heap := by rw [B.state]; rfl
    have hcode := atoms_spec (ws := [Cond.code y cc maxL ret]) B.pre _ List.mem_cons_self
    obtain ⟨meth', c', q1, q2, -, -, -, -, q7, -⟩ := Cond.code_spec B.named hcode
    have X := Stand.of_body B
    have e1 : meth' = meth := Option.some.inj (q1.symm.trans B.method)
    subst e1
    have e2 : c' = c := Option.some.inj (q2.symm.trans X.code)
    subst e2
    have hl := lv_entry As (n := maxL) hL
    have hw := body p e s m below meth' c' ⟨B.exec, B.bytes, hml, findClass_of_methodNamed B.named, jm_en_w E hev.1 _, va_K.moved hev.1.alike E.2.2, hev, E⟩ B.returns B.notSynchronized (name_of_methodNamed B.named B.method).1 q7 B.admits s.heap _ [] hl hld va_S.rf
    rw [← lg_entry_eq] at hw
    obtain ⟨t, a1, o, b1, b2, b3⟩ := hw s₁ hh0 X
    exact ⟨t, o, a1, b1, b2, b3⟩
theorem jm_mono {Q1 Q2 : State → Prop} {H : Heap} {locs : List Loc} {g : JFrame} (k : W p l e R s m args below meth c H locs dc ds Q1 g) (hq : ∀ t, Q1 t → Q2 t) : W p l e R s m args below meth c H locs dc ds Q2 g := fun T hT X => by
  obtain ⟨t, a, b⟩ := k T hT X
  exact ⟨t, a, hq t b⟩
theorem jm_wid {h : jm_H} {st : List Value} {k n : Nat} (h1 : dc ≤ k) (h2 : ds ≤ n) (kk : jm_W p l e R s m args below meth c S D cl Q nL pc lv st h k n) : jm_W p l e R s m args below meth c S D cl Q nL pc lv st h dc ds := fun H ls locs hl hr hS => W.widen h1 h2 (kk H ls locs hl hr hS)
theorem jm_fin {Po : Outcome → jm_H → Prop} {o : Outcome} {H : Heap} {locs : List Loc} (hP : Po o h) (hr : jm_ld D cl S.heap.size h H) (hS : va_S (fun q => S.heap.size ≤ q) s.heap H locs) : ∀ t, MQ below (fun _ _ o1 t => o1 = o ∧ t.heap = H) args s dc ds (fun q => S.heap.size ≤ q) t → jm_Q S D cl below s Po dc ds t := by
  rintro t ⟨o1, r1, r2, ⟨rfl, r3⟩, L, ⟨-, r4, r5⟩, r6⟩
  exact ⟨_, r1, r2, ⟨_, hP, by rw [r3]; exact hr⟩, hS.F r3, r4, L, r5, r6⟩
theorem jm_iret {Po : Outcome → jm_H → Prop} (X : jm_cx p s m args c S D cl tys G cc nL own) {v : Int32} (hr : meth.sig.returnType = some .int) (hk : meth.locks = false) (hd : decode cc pc = .ok (.ireturn, 1)) (hP : Po (.returned (some (.int v))) h) : jm_W p l e R s m args below meth c S D cl (jm_Q S D cl below s Po dc ds) nL pc lv [.int v] h dc ds := fun H ls locs hl hld hS =>
  jm_mono (W.iret (Qc := fun _ _ o1 t => o1 = .returned (some (.int v)) ∧ t.heap = H) (free := fun q => S.heap.size ≤ q) X.1 X.2.1 hr (fun t ht _ => ⟨rfl, ht⟩) hS.2.2 hd hk) (jm_fin hP hld hS)
theorem jm_zret {Po : Outcome → jm_H → Prop} (X : jm_cx p s m args c S D cl tys G cc nL own) {v : Int32} {ty : FieldType} (hr : meth.sig.returnType = some ty) (hn : narrow ty (.int v) = .int v) (hk : meth.locks = false) (hd : decode cc pc = .ok (.ireturn, 1)) (hP : Po (.returned (some (.int v))) h) : jm_W p l e R s m args below meth c S D cl (jm_Q S D cl below s Po dc ds) nL pc lv [.int v] h dc ds := fun H ls locs hl hld hS =>
  jm_mono (W.zret (Qc := fun _ _ o1 t => o1 = .returned (some (.int v)) ∧ t.heap = H) (free := fun q => S.heap.size ≤ q) X.1 X.2.1 hr hn (fun t ht _ => ⟨rfl, ht⟩) hS.2.2 hd hk) (jm_fin hP hld hS)
theorem jm_lret {Po : Outcome → jm_H → Prop} (X : jm_cx p s m args c S D cl tys G cc nL own) {v : Int64} (hr : meth.sig.returnType = some .long) (hk : meth.locks = false) (hd : decode cc pc = .ok (.lreturn, 1)) (hP : Po (.returned (some (.long v))) h) : jm_W p l e R s m args below meth c S D cl (jm_Q S D cl below s Po dc ds) nL pc lv [.long v] h dc ds := fun H ls locs hl hld hS =>
  jm_mono (W.lret (Qc := fun _ _ o1 t => o1 = .returned (some (.long v)) ∧ t.heap = H) (free := fun q => S.heap.size ≤ q) X.1 X.2.1 hr (fun t ht _ => ⟨rfl, ht⟩) hS.2.2 hd hk) (jm_fin hP hld hS)
theorem jm_vret {Po : Outcome → jm_H → Prop} (X : jm_cx p s m args c S D cl tys G cc nL own) (hr : meth.sig.returnType = none) (hk : meth.locks = false) (hd : decode cc pc = .ok (.return_, 1)) (hP : Po (.returned none) h) : jm_W p l e R s m args below meth c S D cl (jm_Q S D cl below s Po dc ds) nL pc lv [] h dc ds := fun H ls locs hl hld hS =>
  jm_mono (W.vret (Qc := fun _ _ o1 t => o1 = .returned none ∧ t.heap = H) (free := fun q => S.heap.size ≤ q) X.1 X.2.1 hr (fun t ht _ => ⟨rfl, ht⟩) hS.2.2 hd hk) (jm_fin hP hld hS)
theorem jm_aret {Po : Outcome → jm_H → Prop} (X : jm_cx p s m args c S D cl tys G cc nL own) {v : Value} {rt : FieldType} (hr : meth.sig.returnType = some rt) (hrt : (∃ n, rt = .object n) ∨ ∃ t, rt = .array t) (hv : v = .null ∨ ∃ a, v = .ref a) (hk : meth.locks = false) (hd : decode cc pc = .ok (.areturn, 1)) (hP : Po (.returned (some v)) h) : jm_W p l e R s m args below meth c S D cl (jm_Q S D cl below s Po dc ds) nL pc lv [v] h dc ds := fun H ls locs hl hld hS =>
  jm_mono (W.aret (Qc := fun _ _ o1 t => o1 = .returned (some v) ∧ t.heap = H) (free := fun q => S.heap.size ≤ q) X.1 X.2.1 hr hrt hv (fun t ht _ => ⟨rfl, ht⟩) hS.2.2 hd hk) (jm_fin hP hld hS)
end JM3
section JM4
variable {p : Program} {l : Launch} {e : Env} {R : Room} {s : State} {m : MethodId} {args : Array Value} {below : List Frame} {meth : Method} {c : Code} {Q : State → Prop}
variable {S : State} {D : va_G} {cl : List vw_C} {tys : List (ClassId × FieldType)} {G : List Cond} {cc : ByteArray} {nL pc dc ds : Nat} {own : String} {lv : List (Nat × Value)} {rest st : List Value} {h : jm_H}
def jm_fm (y : MethodName) (wc : Cond) (maxL : Nat) : Prop := (∃ b ret, wc = .code y b maxL ret) ∨ ∃ b ret hh, wc = .codeWith y b maxL ret hh
theorem jm_cod {y : MethodName} {wc : Cond} {maxL : Nat} {a : Array Value} {U : State} (hf : jm_fm y wc maxL) (hw : wc.before a U = true) : ∃ (mk : MethodId) (methM : Method) (cM : Code), U.methodNamed? y = some mk ∧ U.vm.method? mk = some methM ∧ methM.code = some cM ∧ cM.maxLocals = maxL ∧ parseMethodDescriptor y.desc = some methM.sig := by
  rcases hf with ⟨b, ret, rfl⟩ | ⟨b, ret, hh, rfl⟩
  · obtain ⟨mk, hn⟩ := Cond.code_named hw
    obtain ⟨methM, cM, h1, h2, -, h4, -, -, -, h8⟩ := Cond.code_spec hn hw
    exact ⟨mk, methM, cM, hn, h1, h2, h4, h8⟩
  · obtain ⟨mk, methM, cM, hn, h1, h2, -, h4, -, -, -, h8⟩ := Cond.codeWith_spec hw
    exact ⟨mk, methM, cM, hn, h1, h2, h4, h8⟩
def jm_to (g : JFrame) (len : Nat) (T1 : State) : Outcome → State
  | .returned v => T1.setTop { g with pc := g.pc + len, stack := v.toList ++ g.stack }
  | .threw q => (T1.setTop g).pushFrame (.throwing q)
theorem jm_site {T : State} {locs : List Loc} (X : Stand p l e R s m args below meth c T locs dc ds) {g : JFrame} (hg : g.method = m) (hsize : g.locals.size = c.maxLocals) {ig : Instr} {len : Nat} (hdg : decode c.code g.pc = .ok (ig, len)) (hW : 2 * g.monitorRoom + (g.stack.map fun v => v.category).sum ≤ 8)
    {y : MethodName} {wc : Cond} {rm : Room} {As : List Value} {Po : Outcome → jm_H → Prop} {mc ms maxL : Nat} {mk : MethodId} {methM : Method} {cM : Code} {kM : Class} (hn : T.methodNamed? y = some mk) (hmM : T.vm.method? mk = some methM) (hcM : methM.code = some cM) (hlM : cM.maxLocals = maxL) (hkM : T.vm.classes[mk.cls]? = some kM) (hiM : kM.init = .initialized)
    (hM : jm_M l S D cl y wc rm As h Po mc ms) (hwc : wc.before As.toArray T = true) (hR : rm.frames + 1 ≤ R.frames ∧ 8 + (maxL + 11) + rm.locals ≤ R.locals) (hrm : rm.cells = mc ∧ rm.slots = ms) (hcs : dc + mc ≤ R.cells ∧ ds + ms ≤ R.slots) (hev : jm_ev S T) (hld : jm_ld D cl S.heap.size h T.heap) :
    ∃ (o : Outcome) (h1 : jm_H) (T1 : State) (L : List Loc), Po o h1 ∧ jm_ld D cl S.heap.size h1 T1.heap ∧ T.heap.size ≤ T1.heap.size ∧ (∀ q : Nat, q < T.heap.size → ¬ S.heap.size ≤ q → T1.heap[q]? = T.heap[q]?) ∧ (∀ q ∈ L, S.heap.size ≤ q.base) ∧ Stand p l e R s m args below meth c T1 (locs ++ L) (dc + mc) (ds + ms) ∧
      Steps p.tables e below (doInvoke e (T.setTop g) [] mk As.toArray).1 (jm_to g len T1 o) := by
  have h' : At T g.method c below := by rw [hg]; exact X.here
  have happ : (headSpec [wc] rm).appliesLoose y e.platform (T.calling g mk As.toArray) = true := by
    refine Spec.appliesLoose_calling (g := g) h' hdg hn hkM hiM (X.room_calling (g := g) (R' := (headSpec [wc] rm).room) hsize hmM hcM hR.1 ?_ ?_ ?_) (atoms_intro fun w hw => ?_)
    · show 2 * g.monitorRoom + (g.stack.map fun v => v.category).sum + (cM.maxLocals + 11) + rm.locals ≤ R.locals
      rw [hlM]; have := hR.2; omega
    · show dc + rm.cells ≤ R.cells
      rw [hrm.1]; exact hcs.1
    · show ds + rm.slots ≤ R.slots
      rw [hrm.2]; exact hcs.2
    · rw [List.mem_singleton.mp hw]; exact hwc
  have hfr : (T.setTop g).frames = [.java g] ++ below := by rw [State.frames_setTop' g X.here.top, X.tail]; rfl
  obtain ⟨o, s₂, hst, -, hend, hq⟩ := Steps.callFree hM p X.admits X.cas X.clock (acts := []) hfr happ ⟨rfl, hev, hld⟩ trivial
  rw [State.frames_setTop' g X.here.top, X.tail] at hend
  obtain ⟨⟨h1, hPo, hl1⟩, hF, hW2, L, hsm, hL⟩ := hq
  cases o with
  | returned v =>
    obtain ⟨T', X', hWT, -, e2⟩ := X.outOf hg hdg hend hW2 hsm
    subst e2
    exact ⟨.returned v, h1, T', L, hPo, hl1, hF.1, hF.2, hL, X', hst⟩
  | threw q =>
    obtain ⟨T', X', hWT, -, e2⟩ := X.outOfThrown hg hend hW2 hsm
    subst e2
    exact ⟨.threw q, h1, T', L, hPo, hl1, hF.1, hF.2, hL, X', hst⟩
def jm_K (p : Program) (l : Launch) (e : Env) (R : Room) (s : State) (m : MethodId) (args : Array Value) (below : List Frame) (meth : Method) (c : Code) (S : State) (D : va_G) (cl : List vw_C) (Q : State → Prop) (nL pc : Nat) (lv : List (Nat × Value)) (rest : List Value) (h1 : jm_H) (dc ds : Nat) : Outcome → Prop
  | .returned v => jm_W p l e R s m args below meth c S D cl Q nL (pc + 3) lv (v.toList ++ rest) h1 dc ds
  | .threw q => jm_X p l e R s m args below meth c S D cl Q nL pc lv rest h1 q dc ds
def jm_ci (G : List Cond) (y : MethodName) (wc : Cond) (maxL n : Nat) : Prop :=
  wc ∈ G ∧ jm_fm y wc maxL ∧ Cond.initialized y.cls ∈ G ∧ (y.cls ≠ "java/lang/invoke/MethodHandle" ∧ y.cls ≠ "java/lang/invoke/VarHandle") ∧ (parseMethodDescriptor y.desc).map (fun d => d.parameters.length) = some n
theorem jm_evT (X : jm_cx p s m args c S D cl tys G cc nL own) {T : State} {locs : List Loc} (hS : va_S (fun q => S.heap.size ≤ q) s.heap T.heap locs) (hW : s.WarmedH T.vm) : jm_ev S T := by
  have hev := X.2.2.2.2.2.2.1
  refine ⟨State.WarmedH.trans hev.1 hW, Nat.le_trans hev.2.1 hS.1, fun q hq => ?_⟩
  rw [hS.2.1 q (Nat.lt_of_lt_of_le hq hev.2.1) (Nat.not_le.mpr hq)]
  exact hev.2.2 q hq
theorem jm_cal (X : jm_cx p s m args c S D cl tys G cc nL own) {T T1 : State} {H : Heap} {ls : Array Slot} {locs : List Loc} {ig : Instr} {y : MethodName} {wc : Cond} {rm : Room} {As : List Value} {Po : Outcome → jm_H → Prop} {mc ms maxL n : Nat} {mk : MethodId} (hT : T1.heap = H) (hl : lv_has ls nL lv) (hr : jm_ld D cl S.heap.size h H) (hS : va_S (fun q => S.heap.size ≤ q) s.heap H locs)
    (Y1 : Stand p l e R s m args below meth c T1 locs dc ds) (hmk : s.methodNamed? y = some mk) (hst : ∀ target, (∀ acts, Steps p.tables e below (doInvoke e (T1.setTop (F0 m pc ls rest)) acts mk As.toArray).1 target) → Steps p.tables e below (T.setTop (F0 m pc ls st)) target)
    (hd : decode cc pc = .ok (ig, 3)) (hM : jm_M l S D cl y wc rm As h Po mc ms) (hci : jm_ci G y wc maxL n) (hrest : (rest.map fun v => v.category).sum ≤ 8) (hR : rm.frames + 1 ≤ R.frames ∧ 8 + (maxL + 11) + rm.locals ≤ R.locals) (hrm : rm.cells = mc ∧ rm.slots = ms) (hcs : dc + mc ≤ R.cells ∧ ds + ms ≤ R.slots)
    (k : ∀ o h1, Po o h1 → jm_K p l e R s m args below meth c S D cl Q nL pc lv rest h1 (dc + mc) (ds + ms) o) : ∃ t, Steps p.tables e below (T.setTop (F0 m pc ls st)) t ∧ Q t := by
  subst hT
  have hev := jm_evT X hS Y1.warmed
  have hW1 := jm_en_w X.2.2.2.2.2.2.2 hev.1 As.toArray
  obtain ⟨mk', methM, cM, hn, hmM, hcM, hlM, -⟩ := jm_cod hci.2.1 (hW1 _ hci.1)
  have e1 : mk' = mk := Option.some.inj (hn.symm.trans (Y1.named hmk))
  subst e1
  obtain ⟨kM, hkM, -⟩ := className_of_methodNamed hn
  have hiM : kM.init = .initialized := Cond.initialized_spec (findClass_of_methodNamed hn) hkM (hW1 _ hci.2.2.1)
  obtain ⟨o, h1, T2, L, hPo, hl1, hz, hk, hL, Y2, st2⟩ := jm_site (g := F0 m pc ls rest) Y1 rfl (hl.1.trans X.2.2.1.symm) (by rw [X.2.1]; exact hd) (lv_room hrest) hn hmM hcM hlM hkM hiM hM (hW1 _ hci.1) hR hrm hcs hev hr
  have hS2 : va_S (fun q => S.heap.size ≤ q) s.heap T2.heap (locs ++ L) := ⟨Nat.le_trans hS.1 hz, fun q a b => (hk q (Nat.lt_of_lt_of_le a hS.1) b).trans (hS.2.1 q a b), fun q hq => by
    rcases List.mem_append.mp hq with a | a
    · exact hS.2.2 q a
    · exact hL q a⟩
  have hk2 := k o h1 hPo
  have st3 : Steps p.tables e below (T.setTop (F0 m pc ls st)) (jm_to (F0 m pc ls rest) 3 T2 o) := hst _ fun acts => by rw [doInvoke_state]; exact st2
  cases o with
  | returned v =>
    obtain ⟨t, a1, b1⟩ := hk2 T2.heap ls (locs ++ L) hl hl1 hS2 T2 rfl Y2
    exact ⟨t, st3.trans a1, b1⟩
  | threw q =>
    obtain ⟨t, a1, b1⟩ := hk2 T2.heap ls (locs ++ L) hl hl1 hS2 T2 rfl Y2
    exact ⟨t, st3.trans a1, b1⟩
theorem jm_callS (X : jm_cx p s m args c S D cl tys G cc nL own) {index : Nat} {y : MethodName} {wc : Cond} {rm : Room} {As : List Value} {Po : Outcome → jm_H → Prop} {mc ms maxL : Nat} (hd : decode cc pc = .ok (.invokestatic index, 3)) (hM : jm_M l S D cl y wc rm As h Po mc ms) (hci : jm_ci G y wc maxL As.length) (hlk : Cond.methodLink own index y ∈ G ∨ ∃ host, Cond.methodLinkNest own index y host ∈ G) (hsc : Cond.static y ∈ G) (hst : st = As.reverse ++ rest) (hrest : (rest.map fun v => v.category).sum ≤ 8) (hR : rm.frames + 1 ≤ R.frames ∧ 8 + (maxL + 11) + rm.locals ≤ R.locals) (hrm : rm.cells = mc ∧ rm.slots = ms) (hcs : dc + mc ≤ R.cells ∧ ds + ms ≤ R.slots)
    (k : ∀ o h1, Po o h1 → jm_K p l e R s m args below meth c S D cl Q nL pc lv rest h1 (dc + mc) (ds + ms) o) : jm_W p l e R s m args below meth c S D cl Q nL pc lv st h dc ds := by
  intro H ls locs hl hr hS T hT Y
  have hts := X.2.2.2.2.1
  obtain ⟨mk, methM, cM, hn, hmM, hcM, hlM, hsig⟩ := jm_cod hci.2.1 (hts _ hci.1)
  obtain ⟨kM, hkM, -⟩ := className_of_methodNamed hn
  have hiM : kM.init = .initialized := Cond.initialized_spec (findClass_of_methodNamed hn) hkM (hts _ hci.2.2.1)
  have hlen : As.length = methM.sig.parameters.length := by
    have h2 := hci.2.2.2.2
    rw [hsig] at h2
    exact (Option.some.inj h2).symm
  have key : ∃ vm', Stand p l e R s m args below meth c (T.setVm vm') locs dc ds ∧ ∀ target, (∀ acts, Steps p.tables e below (doInvoke e ((T.setVm vm').setTop (F0 m pc ls rest)) acts mk As.toArray).1 target) → Steps p.tables e below (T.setTop (F0 m pc ls st)) target := by
    rcases hlk with hw | ⟨host, hw⟩
    · exact Y.invokestatic X.1 X.2.2.2.1 (hts _ hw) hn hmM (Cond.static_spec hn hmM (hts _ hsc)) hkM hiM hci.2.2.2.1 (g := F0 m pc ls st) rfl hlen hst (by rw [X.2.1]; exact hd)
    · exact Y.invokestaticNest X.1 X.2.2.2.1 (hts _ hw) hn hmM (Cond.static_spec hn hmM (hts _ hsc)) hkM hiM hci.2.2.2.1 (g := F0 m pc ls st) rfl hlen hst (by rw [X.2.1]; exact hd)
  obtain ⟨vm', Y1, st1⟩ := key
  exact jm_cal X (T1 := T.setVm vm') hT hl hr hS Y1 hn st1 hd hM hci hrest hR hrm hcs k
theorem jm_callV (X : jm_cx p s m args c S D cl tys G cc nL own) {index ci b : Nat} {y : MethodName} {wc : Cond} {rm : Room} {As : List Value} {Po : Outcome → jm_H → Prop} {mc ms maxL : Nat} {fs : List Value} {T0 : u_T} {N : Nat} (hd : decode cc pc = .ok (.invokevirtual index, 3)) (hM : jm_M l S D cl y wc rm (.ref b :: As) h Po mc ms) (hci : jm_ci G y wc maxL As.length) (hlk : Cond.methodLink own index y ∈ G ∨ ∃ host, Cond.methodLinkNest own index y host ∈ G) (hin : Cond.instanceMethod y ∈ G) (hse : Cond.selects y.cls y y ∈ G) (hb : h b = some (.inr (ci, fs))) (hc : cl[ci]? = some (y.cls, T0, N)) (hst : st = As.reverse ++ .ref b :: rest) (hrest : (rest.map fun v => v.category).sum ≤ 8) (hR : rm.frames + 1 ≤ R.frames ∧ 8 + (maxL + 11) + rm.locals ≤ R.locals) (hrm : rm.cells = mc ∧ rm.slots = ms) (hcs : dc + mc ≤ R.cells ∧ ds + ms ≤ R.slots)
    (k : ∀ o h1, Po o h1 → jm_K p l e R s m args below meth c S D cl Q nL pc lv rest h1 (dc + mc) (ds + ms) o) : jm_W p l e R s m args below meth c S D cl Q nL pc lv st h dc ds := by
  intro H ls locs hl hr hS T hT Y
  have hts := X.2.2.2.2.1
  obtain ⟨mk, methM, cM, hn, hmM, hcM, hlM, hsig⟩ := jm_cod hci.2.1 (hts _ hci.1)
  obtain ⟨mk2, methM2, hn2, hmM2, hstM, habM⟩ := Cond.instanceMethod_spec (hts _ hin)
  cases hn.symm.trans hn2
  cases hmM.symm.trans hmM2
  have hlen : As.length = methM.sig.parameters.length := by
    have h2 := hci.2.2.2.2
    rw [hsig] at h2
    exact (Option.some.inj h2).symm
  obtain ⟨q0, hq⟩ := jm_place hr hb
  obtain ⟨cellB, hcB, hoB, hclB⟩ := va_recv X.2.2.2.2.2.1 (jm_P hr) hc hq
  obtain ⟨c2, r2, m2, q1, q2, q3, q4, kP, hkP, hkPi⟩ := Cond.selects_spec (hts _ hse)
  cases hclB.symm.trans q1
  cases (State.methodFound?_of_named hn hci.2.2.2.1).symm.trans q2
  cases hn.symm.trans q3
  have hselP : selectMethod e.platform s.vm cellB.cls mk = .method mk := by rw [Launch.admits_selectMethod Y.admits]; exact q4
  have key : ∃ vm', Stand p l e R s m args below meth c (T.setVm vm') locs dc ds ∧ ∀ target, (∀ acts, Steps p.tables e below (doInvoke e ((T.setVm vm').setTop (F0 m pc ls rest)) acts mk (Value.ref b :: As).toArray).1 target) → Steps p.tables e below (T.setTop (F0 m pc ls st)) target := by
    rcases hlk with hw | ⟨host, hw⟩
    · exact Y.invokevirtual X.1 X.2.2.2.1 (hts _ hw) hn hmM hstM hkP hkPi hci.2.2.2.1 (a := b) (cell := cellB) (by rw [hT]; exact hcB) (fun z hz => by rw [hz] at hoB; cases hoB) hselP hmM habM hkP hkPi (g := F0 m pc ls st) rfl (argsL := As) (rest := rest) hlen hst (by rw [X.2.1]; exact hd)
    · exact Y.invokevirtualNest X.1 X.2.2.2.1 (hts _ hw) hn hmM hstM hkP hkPi hci.2.2.2.1 (a := b) (cell := cellB) (by rw [hT]; exact hcB) (fun z hz => by rw [hz] at hoB; cases hoB) hselP hmM habM hkP hkPi (g := F0 m pc ls st) rfl (argsL := As) (rest := rest) hlen hst (by rw [X.2.1]; exact hd)
  obtain ⟨vm', Y1, st1⟩ := key
  exact jm_cal X (T1 := T.setVm vm') (As := .ref b :: As) hT hl hr hS Y1 hn st1 hd hM hci hrest hR hrm hcs k
theorem jm_callI (X : jm_cx p s m args c S D cl tys G cc nL own) {index b : Nat} {y : MethodName} {bytes : ByteArray} {rm : Room} {As : List Value} {Po : Outcome → jm_H → Prop} {mc ms maxL : Nat} (hd : decode cc pc = .ok (.invokespecial index, 3)) (hM : jm_M l S D cl y (.code y bytes maxL none) rm (.ref b :: As) h Po mc ms) (hci : jm_ci G y (.code y bytes maxL none) maxL As.length) (hlk : Cond.methodLink own index y ∈ G ∨ ∃ host, Cond.methodLinkNest own index y host ∈ G) (hin : Cond.instanceMethod y ∈ G) (hy1 : y.name = "<init>") (hst : st = As.reverse ++ .ref b :: rest) (hrest : (rest.map fun v => v.category).sum ≤ 8) (hR : rm.frames + 1 ≤ R.frames ∧ 8 + (maxL + 11) + rm.locals ≤ R.locals) (hrm : rm.cells = mc ∧ rm.slots = ms) (hcs : dc + mc ≤ R.cells ∧ ds + ms ≤ R.slots)
    (k : ∀ o h1, Po o h1 → jm_K p l e R s m args below meth c S D cl Q nL pc lv rest h1 (dc + mc) (ds + ms) o) : jm_W p l e R s m args below meth c S D cl Q nL pc lv st h dc ds := by
  intro H ls locs hl hr hS T hT Y
  have hts := X.2.2.2.2.1
  have hpl : e.platform.magicAccessors = ({} : Platform).magicAccessors := by rw [Y.admits.platform]
  have hlen : ∀ sig, parseMethodDescriptor y.desc = some sig → As.length = sig.parameters.length := fun sig hs => by
    have h2 := hci.2.2.2.2
    rw [hs] at h2
    exact (Option.some.inj h2).symm
  have key : ∃ mk vm', s.methodNamed? y = some mk ∧ s.WarmedH vm' ∧ ∀ target, (∀ acts, Steps p.tables e below (doInvoke e ((T.setVm vm').setTop (F0 m pc ls rest)) acts mk (Value.ref b :: As).toArray).1 target) → Steps p.tables e below (T.setTop (F0 m pc ls st)) target := by
    rcases hlk with hw | ⟨host, hw⟩
    · obtain ⟨mk, _, _, _, vm', hn, -, -, -, -, -, -, -, hW, hs⟩ := Steps.initColdArgs (e := e) Y.here X.1 Y.warmed hpl X.2.2.2.1 hy1 hci.2.2.2.1 (hts _ hw) (hts _ hin) (hts _ hci.1) (f := F0 m pc ls st) rfl hlen hst (by rw [X.2.1]; exact hd)
      exact ⟨mk, vm', hn, hW, hs⟩
    · obtain ⟨mk, _, _, _, vm', hn, -, -, -, -, -, -, -, hW, hs⟩ := Steps.initColdArgsNest (e := e) Y.here X.1 Y.warmed hpl X.2.2.2.1 hy1 hci.2.2.2.1 (hts _ hw) (hts _ hin) (hts _ hci.1) (f := F0 m pc ls st) rfl hlen hst (by rw [X.2.1]; exact hd)
      exact ⟨mk, vm', hn, hW, hs⟩
  obtain ⟨mk, vm', hn, hW, st1⟩ := key
  exact jm_cal X (T1 := T.setVm vm') (As := .ref b :: As) hT hl hr hS (Y.noted hW) hn st1 hd hM hci hrest hR hrm hcs k
def jm_R (v : Option Value) (h1 : jm_H) : Outcome → jm_H → Prop := fun o h2 => o = .returned v ∧ h2 = h1
theorem jm_k1 {v : Value} {h1 : jm_H} (k : jm_W p l e R s m args below meth c S D cl Q nL (pc + 3) lv (v :: rest) h1 dc ds) : ∀ o h2, jm_R (some v) h1 o h2 → jm_K p l e R s m args below meth c S D cl Q nL pc lv rest h2 dc ds o := by
  rintro o h2 ⟨rfl, rfl⟩
  exact k
theorem jm_k0 {h1 : jm_H} (k : jm_W p l e R s m args below meth c S D cl Q nL (pc + 3) lv rest h1 dc ds) : ∀ o h2, jm_R none h1 o h2 → jm_K p l e R s m args below meth c S D cl Q nL pc lv rest h2 dc ds o := by
  rintro o h2 ⟨rfl, rfl⟩
  exact k
end JM4
section JM5
variable {p : Program} {l : Launch} {e : Env} {R : Room} {s : State} {m : MethodId} {args : Array Value} {below : List Frame} {meth : Method} {c : Code} {Q : State → Prop}
variable {S : State} {D : va_G} {cl : List vw_C} {tys : List (ClassId × FieldType)} {G : List Cond} {cc : ByteArray} {nL pc dc ds : Nat} {own : String} {lv : List (Nat × Value)} {rest st : List Value} {h : jm_H}
theorem jm_rebase {T : State} {locs : List Loc} (X : Stand p l e R s m args below meth c T locs dc ds) (h1 : dc ≤ R.cells) (h2 : ds ≤ R.slots) : Stand p l e { R with cells := R.cells - dc, slots := R.slots - ds } (T.setFrames (.invoking m args :: below)) m args below meth c T [] 0 0 := by
  obtain ⟨g₀, hfr⟩ := X.frames_eq
  have hcur : T.cur < T.threads.size := State.cur_lt_of_frames hfr
  have hf : (T.setFrames (.invoking m args :: below)).frames = .invoking m args :: below := State.frames_setFrames _ hcur
  have hm : (T.setFrames (.invoking m args :: below)).vm.method? m = some meth := X.method'
  have hlo : (T.setFrames (.invoking m args :: below)).localsInUse = s.localsInUse := by
    rw [State.localsInUse_invoking hf hm X.code, State.localsInUse_invoking X.frames X.method X.code]
  have hlim : e.platform.stackLimits (T.setFrames (.invoking m args :: below)).me = e.platform.stackLimits s.me := by rw [State.stackLimits_setFrames, X.limits]
  have hby : (T.setFrames (.invoking m args :: below)).me.stackBytes = s.me.stackBytes := by rw [State.stackBytes_setFrames, X.bytes]
  have hcur2 : (T.setFrames (.invoking m args :: below)).cur < (T.setFrames (.invoking m args :: below)).threads.size := State.cur_lt_of_frames hf
  obtain ⟨t, ht, -⟩ := State.frames_cons hf
  obtain ⟨t0, ht0, -⟩ := State.frames_cons hfr
  refine ⟨X.admits, X.cas, X.clock, hf, ?_, ?_, hm, X.code, X.here, X.tail, State.WarmedH.refl _, ?_, ?_, ?_⟩
  · have hr := X.room
    have a1 := X.heapSize
    have a2 := X.used
    have a3 := X.book
    simp only [State.hasRoom, Bool.and_eq_true, decide_eq_true_eq] at hr ⊢
    rw [hlo, hlim, hby, hf]
    rw [X.frames] at hr
    refine ⟨⟨⟨⟨hr.1.1.1.1, hr.1.1.1.2⟩, ?_⟩, ?_⟩, ?_⟩
    · show T.heap.size + (R.cells - dc) ≤ _
      have := hr.1.1.2
      omega
    · show T.slotsUsed + (R.slots - ds) ≤ _
      have := hr.1.2
      omega
    · exact a3
  · have hv : ∀ x, T.vm.method? x = s.vm.method? x := fun x => X.warmed.alike.method? x
    have hq := X.hears
    have e1 : (T.setFrames (.invoking m args :: below)).hears m below = s.hears m below := by
      cases below with
      | nil => simp [State.hears, State.setFrames, hv]
      | cons f r => cases f <;> simp [State.hears, State.setFrames, State.code?_eq, hv]
    rw [e1]
    exact hq
  · rw [State.stackLimits_setFrames]
  · rw [State.stackBytes_setFrames]
  · have hs := (State.sameButNew.refl (T.setFrames (.invoking m args :: below)) ht).setFrames T.frames hcur2
    rw [State.setFrames_setFrames, State.setFrames_self ht0] at hs
    exact hs
theorem jm_sameOf {s U : State} {L : List Loc} {k n : Nat} (hs : s.sameButNew ({ U with vm := s.vm } : State) [] k n) : s.heap.size ≤ U.heap.size ∧ ∀ q : Nat, q < s.heap.size → U.heap[q]? = s.heap[q]? := by
  obtain ⟨-, h2, -, -, -, h6⟩ := hs
  refine ⟨h2, fun q hq => ?_⟩
  obtain ⟨x, hx⟩ : ∃ x, s.heap[q]? = some x := ⟨s.heap[q], Array.getElem?_eq_getElem hq⟩
  obtain ⟨x', h3, h4, h5, h7⟩ := h6 q x hx
  have h3 : U.heap[q]? = some x' := h3
  have e1 : x'.slots = x.slots := by
    apply Array.ext_getElem?
    intro i
    exact h7 i (by simp)
  rw [h3, hx, h4, e1]
end JM5
end
section
section JM6
def jm_us (h : jm_H) : List (Nat × va_E) → jm_H
  | [] => h
  | (a, x) :: L => jm_up (jm_us h L) a x
theorem jm_us_out {h : jm_H} {L : List (Nat × va_E)} {b : Nat} (hb : b ∉ L.map Prod.fst) : jm_us h L b = h b := by
  induction L with
  | nil => rfl
  | cons q L ih =>
    obtain ⟨a, x⟩ := q
    simp only [List.map_cons, List.mem_cons, not_or] at hb
    show jm_up (jm_us h L) a x b = h b
    rw [jm_up_ne _ _ hb.1]
    exact ih hb.2
theorem jm_us_get {h : jm_H} {L : List (Nat × va_E)} (hnd : (L.map Prod.fst).Nodup) (k : Nat) {a : Nat} {x : va_E} (hk : L[k]? = some (a, x)) : jm_us h L a = some x := by
  induction L generalizing k with
  | nil => simp at hk
  | cons q L ih =>
    obtain ⟨b, y⟩ := q
    simp only [List.map_cons, List.nodup_cons] at hnd
    cases k with
    | zero =>
      simp at hk
      obtain ⟨rfl, rfl⟩ := hk
      exact jm_up_eq _ _ _
    | succ k =>
      have hk : L[k]? = some (a, x) := by simpa using hk
      have hne : a ≠ b := by
        intro e
        subst e
        exact hnd.1 (List.mem_map.mpr ⟨(a, x), List.mem_of_getElem? hk, rfl⟩)
      show jm_up (jm_us h L) b y a = some x
      rw [jm_up_ne _ _ hne]
      exact ih hnd.2 k hk
theorem jm_us_set {h : jm_H} {L L1 : List (Nat × va_E)} (hnd : (L.map Prod.fst).Nodup) (k : Nat) {a : Nat} {x y : va_E} (hk : L[k]? = some (a, x)) (he : L.set k (a, y) = L1) : jm_up (jm_us h L) a y = jm_us h L1 := by
  subst he
  induction L generalizing k with
  | nil => simp at hk
  | cons q L ih =>
    obtain ⟨b, z⟩ := q
    simp only [List.map_cons, List.nodup_cons] at hnd
    cases k with
    | zero =>
      simp at hk
      obtain ⟨rfl, rfl⟩ := hk
      exact jm_up_up _ _ _ _
    | succ k =>
      have hk : L[k]? = some (a, x) := by simpa using hk
      have hne : b ≠ a := by
        intro e
        subst e
        exact hnd.1 (List.mem_map.mpr ⟨(b, x), List.mem_of_getElem? hk, rfl⟩)
      show jm_up (jm_up (jm_us h L) b z) a y = jm_up (jm_us h (L.set k (a, y))) b z
      rw [jm_up_cm _ _ _ hne, ih hnd.2 k hk]
theorem jm_us_id {h : jm_H} {L : List (Nat × va_E)} (hL : ∀ q ∈ L, h q.1 = some q.2) : jm_us h L = h := by
  induction L with
  | nil => rfl
  | cons q L ih =>
    obtain ⟨a, x⟩ := q
    show jm_up (jm_us h L) a x = h
    rw [ih (fun q hq => hL q (List.mem_cons_of_mem _ hq))]
    exact jm_up_id (hL (a, x) List.mem_cons_self)
def jm_wr (L : List (Nat × va_E)) : List (Nat × va_E) → List Nat → List (Nat × va_E)
  | c :: Lc, k :: ks => (jm_wr L Lc ks).set k c
  | _, _ => L
theorem jm_wr_fst {L : List (Nat × va_E)} : ∀ (Lc : List (Nat × va_E)) (ks : List Nat), ks.map (fun k => (L[k]?).map Prod.fst) = Lc.map (fun q => some q.1) → (jm_wr L Lc ks).map Prod.fst = L.map Prod.fst := by
  intro Lc
  induction Lc with
  | nil => intro ks _; simp [jm_wr]
  | cons c Lc ih =>
    intro ks hk
    cases ks with
    | nil => simp [jm_wr]
    | cons k ks =>
      simp only [List.map_cons, List.cons.injEq] at hk
      have ih := ih ks hk.2
      apply List.ext_getElem?
      intro i
      show ((((jm_wr L Lc ks).set k c)).map Prod.fst)[i]? = (L.map Prod.fst)[i]?
      rw [← ih, List.getElem?_map, List.getElem?_map, List.getElem?_set]
      by_cases e : k = i
      · subst e
        have h1 : ((jm_wr L Lc ks).map Prod.fst)[k]? = (L.map Prod.fst)[k]? := by rw [ih]
        rw [List.getElem?_map, List.getElem?_map, hk.1] at h1
        by_cases hl : k < (jm_wr L Lc ks).length
        · rw [List.getElem?_eq_getElem hl] at h1
          simp only [Option.map_some, Option.some.injEq] at h1
          simp [hl, h1]
        · simp [hl]
      · simp [e]
theorem jm_into {h : jm_H} {L Lc L1 : List (Nat × va_E)} (hnd : (L.map Prod.fst).Nodup) (ks : List Nat) (hk : ks.map (fun k => (L[k]?).map Prod.fst) = Lc.map (fun q => some q.1)) (he : jm_wr L Lc ks = L1) : jm_us (jm_us h L) Lc = jm_us h L1 := by
  subst he
  induction Lc generalizing ks with
  | nil => cases ks with
    | nil => rfl
    | cons k ks => simp at hk
  | cons c Lc ih =>
    cases ks with
    | nil => simp at hk
    | cons k ks =>
      obtain ⟨a, x⟩ := c
      simp only [List.map_cons, List.cons.injEq] at hk
      show jm_up (jm_us (jm_us h L) Lc) a x = jm_us h ((jm_wr L Lc ks).set k (a, x))
      rw [ih ks hk.2]
      have h1 := jm_wr_fst Lc ks hk.2
      have h2 : ((jm_wr L Lc ks)[k]?).map Prod.fst = some a := by
        have h3 : ((jm_wr L Lc ks).map Prod.fst)[k]? = (L.map Prod.fst)[k]? := by rw [h1]
        rw [List.getElem?_map, List.getElem?_map] at h3
        rw [h3]; exact hk.1
      obtain ⟨⟨b, z⟩, h4, h5⟩ := Option.map_eq_some_iff.mp h2
      have h5 : b = a := h5
      subst h5
      exact jm_us_set (by rw [h1]; exact hnd) k h4 rfl
theorem jm_pick {l l1 : List Nat} (hnd : l.Nodup) (is : List Nat) (hi : is.Nodup) (he : is.map (fun i => l[i]?) = l1.map some) : l1.Nodup := by
  have hlen : is.length = l1.length := by simpa using congrArg List.length he
  rw [List.nodup_iff_pairwise_ne, List.pairwise_iff_getElem] at *
  intro i j h1 h2 hij e
  have g : ∀ (k : Nat) (hk : k < l1.length) (hk' : k < is.length), l[is[k]]? = some l1[k] := fun k hk hk' => by
    have := congrArg (fun z => z[k]?) he
    simp only [List.getElem?_map] at this
    rw [List.getElem?_eq_getElem hk, List.getElem?_eq_getElem hk'] at this
    simpa using this
  have a1 := g i h1 (by omega)
  have a2 := g j h2 (by omega)
  obtain ⟨b1, b2⟩ := List.getElem?_eq_some_iff.mp a1
  obtain ⟨c1, c2⟩ := List.getElem?_eq_some_iff.mp a2
  have hne := hi i j (by omega) (by omega) hij
  rcases Nat.lt_trichotomy is[i] is[j] with q | q | q
  · exact hnd _ _ b1 c1 q (by rw [b2, c2, e])
  · exact hne q
  · exact hnd _ _ c1 b1 q (by rw [b2, c2, e])
variable {p : Program} {l : Launch} {e : Env} {R : Room} {s : State} {m : MethodId} {args : Array Value} {below : List Frame} {meth : Method} {c : Code} {Q : State → Prop} {S : State} {D : va_G} {cl : List vw_C} {nL pc dc ds : Nat} {lv : List (Nat × Value)} {st : List Value} {h h1 : jm_H}
theorem jm_hq (e1 : h = h1) (k : jm_W p l e R s m args below meth c S D cl Q nL pc lv st h1 dc ds) : jm_W p l e R s m args below meth c S D cl Q nL pc lv st h dc ds := e1 ▸ k
theorem jm_lvs {lv1 : List (Nat × Value)} (ks : List Nat) (he : lv_pick lv ks = lv1) (k : jm_W p l e R s m args below meth c S D cl Q nL pc lv1 st h dc ds) : jm_W p l e R s m args below meth c S D cl Q nL pc lv st h dc ds := fun H ls locs hl hr hS => k H ls locs (lv_sub hl ks he) hr hS
end JM6
end
section
section JM7
variable {p : Program} {l : Launch} {e : Env} {R : Room} {s : State} {m : MethodId} {args : Array Value} {below : List Frame} {meth : Method} {c : Code} {Q : State → Prop}
variable {S : State} {D : va_G} {cl : List vw_C} {tys : List (ClassId × FieldType)} {G : List Cond} {cc : ByteArray} {nL pc dc ds : Nat} {own : String} {lv : List (Nat × Value)} {rest : List Value} {h : jm_H}
theorem jm_lif_eq (X : jm_cx p s m args c S D cl tys G cc nL own) {x y : Int64} {off : Int} {tgt : Nat} (hd : decode cc pc = .ok (.ifCond .eq off, 3)) (ht : (pc : Int) + off = (tgt : Int)) (kt : x = y → jm_W p l e R s m args below meth c S D cl Q nL (tgt) lv (rest) h dc ds) (kf : ¬ x = y → jm_W p l e R s m args below meth c S D cl Q nL (pc + 3) lv (rest) h dc ds) : jm_W p l e R s m args below meth c S D cl Q nL (pc) lv (.int (lg_cmp x y) :: rest) h dc ds := jm_if_eq X hd ht (fun q => kt ((lg_cmp_eq x y).mp q)) (fun q => kf (fun z => q ((lg_cmp_eq x y).mpr z)))
theorem jm_lif_ne (X : jm_cx p s m args c S D cl tys G cc nL own) {x y : Int64} {off : Int} {tgt : Nat} (hd : decode cc pc = .ok (.ifCond .ne off, 3)) (ht : (pc : Int) + off = (tgt : Int)) (kt : ¬ x = y → jm_W p l e R s m args below meth c S D cl Q nL (tgt) lv (rest) h dc ds) (kf : x = y → jm_W p l e R s m args below meth c S D cl Q nL (pc + 3) lv (rest) h dc ds) : jm_W p l e R s m args below meth c S D cl Q nL (pc) lv (.int (lg_cmp x y) :: rest) h dc ds := jm_if_ne X hd ht (fun q => kt (fun z => q ((lg_cmp_eq x y).mpr z))) (fun q => kf ((lg_cmp_eq x y).mp q))
theorem jm_lif_lt (X : jm_cx p s m args c S D cl tys G cc nL own) {x y : Int64} {off : Int} {tgt : Nat} (hd : decode cc pc = .ok (.ifCond .lt off, 3)) (ht : (pc : Int) + off = (tgt : Int)) (kt : x < y → jm_W p l e R s m args below meth c S D cl Q nL (tgt) lv (rest) h dc ds) (kf : ¬ x < y → jm_W p l e R s m args below meth c S D cl Q nL (pc + 3) lv (rest) h dc ds) : jm_W p l e R s m args below meth c S D cl Q nL (pc) lv (.int (lg_cmp x y) :: rest) h dc ds := jm_if_lt X hd ht (fun q => kt ((lg_cmp_lt x y).mp q)) (fun q => kf (fun z => q ((lg_cmp_lt x y).mpr z)))
theorem jm_lif_ge (X : jm_cx p s m args c S D cl tys G cc nL own) {x y : Int64} {off : Int} {tgt : Nat} (hd : decode cc pc = .ok (.ifCond .ge off, 3)) (ht : (pc : Int) + off = (tgt : Int)) (kt : y ≤ x → jm_W p l e R s m args below meth c S D cl Q nL (tgt) lv (rest) h dc ds) (kf : ¬ y ≤ x → jm_W p l e R s m args below meth c S D cl Q nL (pc + 3) lv (rest) h dc ds) : jm_W p l e R s m args below meth c S D cl Q nL (pc) lv (.int (lg_cmp x y) :: rest) h dc ds := jm_if_ge X hd ht (fun q => kt ((lg_cmp_ge x y).mp q)) (fun q => kf (fun z => q ((lg_cmp_ge x y).mpr z)))
theorem jm_lif_gt (X : jm_cx p s m args c S D cl tys G cc nL own) {x y : Int64} {off : Int} {tgt : Nat} (hd : decode cc pc = .ok (.ifCond .gt off, 3)) (ht : (pc : Int) + off = (tgt : Int)) (kt : y < x → jm_W p l e R s m args below meth c S D cl Q nL (tgt) lv (rest) h dc ds) (kf : ¬ y < x → jm_W p l e R s m args below meth c S D cl Q nL (pc + 3) lv (rest) h dc ds) : jm_W p l e R s m args below meth c S D cl Q nL (pc) lv (.int (lg_cmp x y) :: rest) h dc ds := jm_if_gt X hd ht (fun q => kt ((lg_cmp_gt x y).mp q)) (fun q => kf (fun z => q ((lg_cmp_gt x y).mpr z)))
theorem jm_lif_le (X : jm_cx p s m args c S D cl tys G cc nL own) {x y : Int64} {off : Int} {tgt : Nat} (hd : decode cc pc = .ok (.ifCond .le off, 3)) (ht : (pc : Int) + off = (tgt : Int)) (kt : x ≤ y → jm_W p l e R s m args below meth c S D cl Q nL (tgt) lv (rest) h dc ds) (kf : ¬ x ≤ y → jm_W p l e R s m args below meth c S D cl Q nL (pc + 3) lv (rest) h dc ds) : jm_W p l e R s m args below meth c S D cl Q nL (pc) lv (.int (lg_cmp x y) :: rest) h dc ds := jm_if_le X hd ht (fun q => kt ((lg_cmp_le x y).mp q)) (fun q => kf (fun z => q ((lg_cmp_le x y).mpr z)))
theorem jm_tabEq (X : jm_cx p s m args c S D cl tys G cc nL own) {dflt lo hi : Int} {offs : Array Int} {len : Nat} {x k : Int32} {off : Int} {tgt : Nat} (hd : decode cc pc = .ok (.tableswitch dflt lo hi offs, len)) (hx : x = k) (h1 : ¬ k.toInt < lo) (h2 : ¬ hi < k.toInt) (ho : offs[(k.toInt - lo).toNat]? = some off) (ht : (pc : Int) + off = (tgt : Int)) (kk : jm_W p l e R s m args below meth c S D cl Q nL (tgt) lv (rest) h dc ds) : jm_W p l e R s m args below meth c S D cl Q nL (pc) lv (.int x :: rest) h dc ds := by
  subst hx
  exact jm_tabIn X hd h1 h2 ho ht kk
theorem jm_ofWF {y : MethodName} {maxL : Nat} {ret : Option FieldType} {rm : Room} {As : List Value} {Po : Outcome → jm_H → Prop} {mc ms : Nat} (E : jm_en S D cl tys G) (hy : plainFor y = true) (hL : (lg_sl As).length ≤ maxL)
    (body : ∀ (p : Program) (e : Env) (s : State) (m : MethodId) (below : List Frame) (meth : Method) (c : Code), jm_cx p s m As.toArray c S D cl tys G cc maxL y.cls → meth.sig.returnType = ret → meth.locks = false → meth.name = y.name → c.exceptionTable.isEmpty = true → l.admits e →
      jm_W p l e rm s m As.toArray below meth c S D cl (jm_Q S D cl below s Po mc ms) maxL 0 (lv_args 0 As) [] h 0 0) : jm_M l S D cl y (Cond.code y cc maxL ret) rm As h Po mc ms := by
  refine MetFree.of_bodySF (code := cc) (maxLocals := maxL) (ret := ret) hy ?_ ?_
  · intro args s m hp hn
    obtain ⟨meth, c, h1, h2, h3, h4, h5, h6, -, -⟩ := Cond.code_spec hn (atoms_spec (ws := [Cond.code y cc maxL ret]) hp _ List.mem_cons_self)
    exact ⟨meth, c, h1, h2, h3, h4, h5, h6⟩
  · intro p e s m args below meth c s₁ B hml hP _
    obtain ⟨rfl, hev, hld⟩ := hP
    have hh0 : s₁.heap = s.heap := by rw [B.state]; rfl
    have hcode := atoms_spec (ws := [Cond.code y cc maxL ret]) B.pre _ List.mem_cons_self
    obtain ⟨meth', c', q1, q2, -, -, -, -, q7, -⟩ := Cond.code_spec B.named hcode
    have X := Stand.of_body B
    have e1 : meth' = meth := Option.some.inj (q1.symm.trans B.method)
    subst e1
    have e2 : c' = c := Option.some.inj (q2.symm.trans X.code)
    subst e2
    have hl := lv_entry As (n := maxL) hL
    have hw := body p e s m below meth' c' ⟨B.exec, B.bytes, hml, findClass_of_methodNamed B.named, jm_en_w E hev.1 _, va_K.moved hev.1.alike E.2.2, hev, E⟩ B.returns B.notSynchronized (name_of_methodNamed B.named B.method).1 q7 B.admits s.heap _ [] hl hld va_S.rf
    rw [← lg_entry_eq] at hw
    obtain ⟨t, a1, o, b1, b2, b3⟩ := hw s₁ hh0 X
    exact ⟨t, o, a1, b1, b2, b3⟩
end JM7
end
section
def jm_gn : Cond → Bool
  | .fieldLinkNest _ _ _ _ _ _ => true
  | .methodLinkNest _ _ _ _ => true
  | w => goodWord w
def jm_G : List Cond := lw_tbl.filter jm_gn
theorem jm_gt {w : Cond} (h : w ∈ tables_1) (g : jm_gn w = true) : w ∈ jm_G := List.mem_filter.mpr ⟨List.mem_append_right _ h, g⟩
theorem jm_g0 {w : Cond} (i : Nat) (h : (k2_sels lw_privs)[i]? = some w) (g : jm_gn w = true) : w ∈ jm_G := List.mem_filter.mpr ⟨List.mem_append_left _ (List.mem_of_getElem? h), g⟩
theorem jm_g1 {w : Cond} (i : Nat) (h : tables_1_1[i]? = some w) (g : jm_gn w = true) : w ∈ jm_G := jm_gt (List.mem_append_left _ (List.mem_of_getElem? h)) g
theorem jm_g2 {w : Cond} (i : Nat) (h : tables_1_2[i]? = some w) (g : jm_gn w = true) : w ∈ jm_G := jm_gt (List.mem_append_right _ (List.mem_append_left _ (List.mem_of_getElem? h))) g
theorem jm_g3 {w : Cond} (i : Nat) (h : tables_1_3[i]? = some w) (g : jm_gn w = true) : w ∈ jm_G := jm_gt (List.mem_append_right _ (List.mem_append_right _ (List.mem_append_left _ (List.mem_of_getElem? h)))) g
theorem jm_g4 {w : Cond} (i : Nat) (h : tables_1_4[i]? = some w) (g : jm_gn w = true) : w ∈ jm_G := jm_gt (List.mem_append_right _ (List.mem_append_right _ (List.mem_append_right _ (List.mem_append_left _ (List.mem_of_getElem? h))))) g
theorem jm_g5 {w : Cond} (i : Nat) (h : tables_1_5[i]? = some w) (g : jm_gn w = true) : w ∈ jm_G := jm_gt (List.mem_append_right _ (List.mem_append_right _ (List.mem_append_right _ (List.mem_append_right _ (List.mem_append_left _ (List.mem_of_getElem? h)))))) g
theorem jm_g6 {w : Cond} (i : Nat) (h : tables_1_6[i]? = some w) (g : jm_gn w = true) : w ∈ jm_G := jm_gt (List.mem_append_right _ (List.mem_append_right _ (List.mem_append_right _ (List.mem_append_right _ (List.mem_append_right _ (List.mem_append_left _ (List.mem_of_getElem? h))))))) g
theorem jm_g7 {w : Cond} (i : Nat) (h : tables_1_7[i]? = some w) (g : jm_gn w = true) : w ∈ jm_G := jm_gt (List.mem_append_right _ (List.mem_append_right _ (List.mem_append_right _ (List.mem_append_right _ (List.mem_append_right _ (List.mem_append_right _ ((List.mem_of_getElem? h)))))))) g
theorem jm_G_ok : ∀ w ∈ jm_G, jm_gd w := by
  intro w hw
  have h := (List.mem_filter.mp hw).2
  cases w <;> first | exact Or.inr (Or.inl ⟨_, _, _, _, _, _, rfl⟩) | exact Or.inr (Or.inr ⟨_, _, _, _, rfl⟩) | exact Or.inl (good_of_word h)
def jn_T0 : u_T := fun k => match k with
  | 0 => ("JobHouse", "tape", "LJobHouse$Text;", true)
  | 1 => ("JobHouse", "zones", "[LJobHouse$Zone;", true)
  | 2 => ("JobHouse", "crons", "[LJobHouse$Cron;", true)
  | 3 => ("JobHouse", "calendars", "[LJobHouse$Holidays;", true)
  | 4 => ("JobHouse", "noHolidays", "LJobHouse$Holidays;", true)
  | 5 => ("JobHouse", "fires", "LJobHouse$Fires;", true)
  | 6 => ("JobHouse", "spareZone", "LJobHouse$Zone;", false)
  | 7 => ("JobHouse", "spareCron", "LJobHouse$Cron;", false)
  | 8 => ("JobHouse", "clock", "J", false)
  | 9 => ("JobHouse", "jobs", "[LJobHouse$Job;", true)
  | 10 => ("JobHouse", "slotsUsed", "I", false)
  | 11 => ("JobHouse", "jobCount", "I", false)
  | 12 => ("JobHouse", "nextOrder", "I", false)
  | 13 => ("JobHouse", "running", "[I", true)
  | 14 => ("JobHouse", "runningCount", "I", false)
  | 15 => ("JobHouse", "workerCount", "I", false)
  | 16 => ("JobHouse", "closed", "Z", false)
  | _ => ("JobHouse", "log", "LJobHouse$StartLog;", true)
def jn_y0 : Nat → FieldType := fun k => match k with
  | 0 => .object "JobHouse$Text"
  | 1 => .array (.object "JobHouse$Zone")
  | 2 => .array (.object "JobHouse$Cron")
  | 3 => .array (.object "JobHouse$Holidays")
  | 4 => .object "JobHouse$Holidays"
  | 5 => .object "JobHouse$Fires"
  | 6 => .object "JobHouse$Zone"
  | 7 => .object "JobHouse$Cron"
  | 8 => .long
  | 9 => .array (.object "JobHouse$Job")
  | 10 => .int
  | 11 => .int
  | 12 => .int
  | 13 => .array .int
  | 14 => .int
  | 15 => .int
  | 16 => .boolean
  | _ => .object "JobHouse$StartLog"
theorem jn_n0 : ∀ a, a < 18 → ∀ b, b < 18 → a ≠ b → (jn_T0 a).2.1 ≠ (jn_T0 b).2.1 := by decide +kernel
theorem jn_o0 : ∀ k, k < 18 → parseFieldDescriptor (jn_T0 k).2.2.1 = some (jn_y0 k) := by decide +kernel
theorem jn_i0 : ∀ w ∈ u_ws "JobHouse" jn_T0 18, w ∈ jm_G := by
  intro w hw
  obtain ⟨k, hk, rfl⟩ := List.mem_map.mp hw
  have hk := List.mem_range.mp hk
  match k, hk with
  | 0, _ => exact jm_g2 42 rfl rfl
  | 1, _ => exact jm_g2 44 rfl rfl
  | 2, _ => exact jm_g2 46 rfl rfl
  | 3, _ => exact jm_g2 48 rfl rfl
  | 4, _ => exact jm_g2 50 rfl rfl
  | 5, _ => exact jm_g2 52 rfl rfl
  | 6, _ => exact jm_g2 54 rfl rfl
  | 7, _ => exact jm_g2 56 rfl rfl
  | 8, _ => exact jm_g2 58 rfl rfl
  | 9, _ => exact jm_g2 60 rfl rfl
  | 10, _ => exact jm_g2 62 rfl rfl
  | 11, _ => exact jm_g2 64 rfl rfl
  | 12, _ => exact jm_g2 66 rfl rfl
  | 13, _ => exact jm_g2 68 rfl rfl
  | 14, _ => exact jm_g2 70 rfl rfl
  | 15, _ => exact jm_g2 72 rfl rfl
  | 16, _ => exact jm_g2 74 rfl rfl
  | 17, _ => exact jm_g2 76 rfl rfl
  | k + 18, hk => exact absurd hk (by omega)
def jn_T1 : u_T := fun k => match k with
  | 0 => ("JobHouse$Text", "bytes", "[B", true)
  | 1 => ("JobHouse$Text", "length", "I", false)
  | 2 => ("JobHouse$Text", "at", "I", false)
  | _ => ("JobHouse$Text", "broken", "I", false)
def jn_y1 : Nat → FieldType := fun k => match k with
  | 0 => .array .byte
  | 1 => .int
  | 2 => .int
  | _ => .int
theorem jn_n1 : ∀ a, a < 4 → ∀ b, b < 4 → a ≠ b → (jn_T1 a).2.1 ≠ (jn_T1 b).2.1 := by decide +kernel
theorem jn_o1 : ∀ k, k < 4 → parseFieldDescriptor (jn_T1 k).2.2.1 = some (jn_y1 k) := by decide +kernel
theorem jn_i1 : ∀ w ∈ u_ws "JobHouse$Text" jn_T1 4, w ∈ jm_G := by
  intro w hw
  obtain ⟨k, hk, rfl⟩ := List.mem_map.mp hw
  have hk := List.mem_range.mp hk
  match k, hk with
  | 0, _ => exact jm_g1 49 rfl rfl
  | 1, _ => exact jm_g1 51 rfl rfl
  | 2, _ => exact jm_g1 53 rfl rfl
  | 3, _ => exact jm_g1 55 rfl rfl
  | k + 4, hk => exact absurd hk (by omega)
def jn_T2 : u_T := fun k => match k with
  | 0 => ("JobHouse$Zone", "base", "I", false)
  | 1 => ("JobHouse$Zone", "save", "I", false)
  | 2 => ("JobHouse$Zone", "beginning", "LJobHouse$YearRule;", true)
  | 3 => ("JobHouse$Zone", "ending", "LJobHouse$YearRule;", true)
  | 4 => ("JobHouse$Zone", "since", "J", false)
  | 5 => ("JobHouse$Zone", "until", "J", false)
  | _ => ("JobHouse$Zone", "offset", "I", false)
def jn_y2 : Nat → FieldType := fun k => match k with
  | 0 => .int
  | 1 => .int
  | 2 => .object "JobHouse$YearRule"
  | 3 => .object "JobHouse$YearRule"
  | 4 => .long
  | 5 => .long
  | _ => .int
theorem jn_n2 : ∀ a, a < 7 → ∀ b, b < 7 → a ≠ b → (jn_T2 a).2.1 ≠ (jn_T2 b).2.1 := by decide +kernel
theorem jn_o2 : ∀ k, k < 7 → parseFieldDescriptor (jn_T2 k).2.2.1 = some (jn_y2 k) := by decide +kernel
theorem jn_i2 : ∀ w ∈ u_ws "JobHouse$Zone" jn_T2 7, w ∈ jm_G := by
  intro w hw
  obtain ⟨k, hk, rfl⟩ := List.mem_map.mp hw
  have hk := List.mem_range.mp hk
  match k, hk with
  | 0, _ => exact jm_g1 146 rfl rfl
  | 1, _ => exact jm_g1 148 rfl rfl
  | 2, _ => exact jm_g1 150 rfl rfl
  | 3, _ => exact jm_g1 152 rfl rfl
  | 4, _ => exact jm_g1 154 rfl rfl
  | 5, _ => exact jm_g1 156 rfl rfl
  | 6, _ => exact jm_g1 158 rfl rfl
  | k + 7, hk => exact absurd hk (by omega)
def jn_T3 : u_T := fun k => match k with
  | 0 => ("JobHouse$YearRule", "month", "I", false)
  | 1 => ("JobHouse$YearRule", "week", "I", false)
  | 2 => ("JobHouse$YearRule", "weekday", "I", false)
  | _ => ("JobHouse$YearRule", "minutes", "I", false)
def jn_y3 : Nat → FieldType := fun k => match k with
  | 0 => .int
  | 1 => .int
  | 2 => .int
  | _ => .int
theorem jn_n3 : ∀ a, a < 4 → ∀ b, b < 4 → a ≠ b → (jn_T3 a).2.1 ≠ (jn_T3 b).2.1 := by decide +kernel
theorem jn_o3 : ∀ k, k < 4 → parseFieldDescriptor (jn_T3 k).2.2.1 = some (jn_y3 k) := by decide +kernel
theorem jn_i3 : ∀ w ∈ u_ws "JobHouse$YearRule" jn_T3 4, w ∈ jm_G := by
  intro w hw
  obtain ⟨k, hk, rfl⟩ := List.mem_map.mp hw
  have hk := List.mem_range.mp hk
  match k, hk with
  | 0, _ => exact jm_g1 124 rfl rfl
  | 1, _ => exact jm_g1 126 rfl rfl
  | 2, _ => exact jm_g1 128 rfl rfl
  | 3, _ => exact jm_g1 130 rfl rfl
  | k + 4, hk => exact absurd hk (by omega)
def jn_T4 : u_T := fun k => match k with
  | 0 => ("JobHouse$Cron", "sets", "[J", true)
  | 1 => ("JobHouse$Cron", "dayRule", "I", false)
  | 2 => ("JobHouse$Cron", "value", "I", false)
  | _ => ("JobHouse$Cron", "n", "I", false)
def jn_y4 : Nat → FieldType := fun k => match k with
  | 0 => .array .long
  | 1 => .int
  | 2 => .int
  | _ => .int
theorem jn_n4 : ∀ a, a < 4 → ∀ b, b < 4 → a ≠ b → (jn_T4 a).2.1 ≠ (jn_T4 b).2.1 := by decide +kernel
theorem jn_o4 : ∀ k, k < 4 → parseFieldDescriptor (jn_T4 k).2.2.1 = some (jn_y4 k) := by decide +kernel
theorem jn_i4 : ∀ w ∈ u_ws "JobHouse$Cron" jn_T4 4, w ∈ jm_G := by
  intro w hw
  obtain ⟨k, hk, rfl⟩ := List.mem_map.mp hw
  have hk := List.mem_range.mp hk
  match k, hk with
  | 0, _ => exact jm_g1 98 rfl rfl
  | 1, _ => exact jm_g1 100 rfl rfl
  | 2, _ => exact jm_g1 102 rfl rfl
  | 3, _ => exact jm_g1 104 rfl rfl
  | k + 4, hk => exact absurd hk (by omega)
def jn_T5 : u_T := fun k => match k with
  | 0 => ("JobHouse$Holidays", "days", "[I", true)
  | _ => ("JobHouse$Holidays", "size", "I", false)
def jn_y5 : Nat → FieldType := fun k => match k with
  | 0 => .array .int
  | _ => .int
theorem jn_n5 : ∀ a, a < 2 → ∀ b, b < 2 → a ≠ b → (jn_T5 a).2.1 ≠ (jn_T5 b).2.1 := by decide +kernel
theorem jn_o5 : ∀ k, k < 2 → parseFieldDescriptor (jn_T5 k).2.2.1 = some (jn_y5 k) := by decide +kernel
theorem jn_i5 : ∀ w ∈ u_ws "JobHouse$Holidays" jn_T5 2, w ∈ jm_G := by
  intro w hw
  obtain ⟨k, hk, rfl⟩ := List.mem_map.mp hw
  have hk := List.mem_range.mp hk
  match k, hk with
  | 0, _ => exact jm_g1 73 rfl rfl
  | 1, _ => exact jm_g1 75 rfl rfl
  | k + 2, hk => exact absurd hk (by omega)
def jn_T6 : u_T := fun k => match k with
  | 0 => ("JobHouse$Fires", "cron", "LJobHouse$Cron;", false)
  | 1 => ("JobHouse$Fires", "zone", "LJobHouse$Zone;", false)
  | _ => ("JobHouse$Fires", "holidays", "LJobHouse$Holidays;", false)
def jn_y6 : Nat → FieldType := fun k => match k with
  | 0 => .object "JobHouse$Cron"
  | 1 => .object "JobHouse$Zone"
  | _ => .object "JobHouse$Holidays"
theorem jn_n6 : ∀ a, a < 3 → ∀ b, b < 3 → a ≠ b → (jn_T6 a).2.1 ≠ (jn_T6 b).2.1 := by decide +kernel
theorem jn_o6 : ∀ k, k < 3 → parseFieldDescriptor (jn_T6 k).2.2.1 = some (jn_y6 k) := by decide +kernel
theorem jn_i6 : ∀ w ∈ u_ws "JobHouse$Fires" jn_T6 3, w ∈ jm_G := by
  intro w hw
  obtain ⟨k, hk, rfl⟩ := List.mem_map.mp hw
  have hk := List.mem_range.mp hk
  match k, hk with
  | 0, _ => exact jm_g1 169 rfl rfl
  | 1, _ => exact jm_g1 171 rfl rfl
  | 2, _ => exact jm_g1 173 rfl rfl
  | k + 3, hk => exact absurd hk (by omega)
def jn_T7 : u_T := fun k => match k with
  | 0 => ("JobHouse$Job", "state", "I", false)
  | 1 => ("JobHouse$Job", "kind", "I", false)
  | 2 => ("JobHouse$Job", "order", "I", false)
  | 3 => ("JobHouse$Job", "starts", "I", false)
  | 4 => ("JobHouse$Job", "nominal", "J", false)
  | 5 => ("JobHouse$Job", "endTime", "J", false)
  | 6 => ("JobHouse$Job", "period", "J", false)
  | 7 => ("JobHouse$Job", "duration", "J", false)
  | 8 => ("JobHouse$Job", "priority", "I", false)
  | 9 => ("JobHouse$Job", "policy", "I", false)
  | 10 => ("JobHouse$Job", "fails", "I", false)
  | 11 => ("JobHouse$Job", "cronNumber", "I", false)
  | 12 => ("JobHouse$Job", "zoneNumber", "I", false)
  | _ => ("JobHouse$Job", "calendarNumber", "I", false)
def jn_y7 : Nat → FieldType := fun k => match k with
  | 0 => .int
  | 1 => .int
  | 2 => .int
  | 3 => .int
  | 4 => .long
  | 5 => .long
  | 6 => .long
  | 7 => .long
  | 8 => .int
  | 9 => .int
  | 10 => .int
  | 11 => .int
  | 12 => .int
  | _ => .int
theorem jn_n7 : ∀ a, a < 14 → ∀ b, b < 14 → a ≠ b → (jn_T7 a).2.1 ≠ (jn_T7 b).2.1 := by decide +kernel
theorem jn_o7 : ∀ k, k < 14 → parseFieldDescriptor (jn_T7 k).2.2.1 = some (jn_y7 k) := by decide +kernel
theorem jn_i7 : ∀ w ∈ u_ws "JobHouse$Job" jn_T7 14, w ∈ jm_G := by
  intro w hw
  obtain ⟨k, hk, rfl⟩ := List.mem_map.mp hw
  have hk := List.mem_range.mp hk
  match k, hk with
  | 0, _ => exact jm_g1 235 rfl rfl
  | 1, _ => exact jm_g1 237 rfl rfl
  | 2, _ => exact jm_g1 239 rfl rfl
  | 3, _ => exact jm_g2 1 rfl rfl
  | 4, _ => exact jm_g2 3 rfl rfl
  | 5, _ => exact jm_g2 5 rfl rfl
  | 6, _ => exact jm_g2 7 rfl rfl
  | 7, _ => exact jm_g2 9 rfl rfl
  | 8, _ => exact jm_g2 11 rfl rfl
  | 9, _ => exact jm_g2 13 rfl rfl
  | 10, _ => exact jm_g2 15 rfl rfl
  | 11, _ => exact jm_g2 17 rfl rfl
  | 12, _ => exact jm_g2 19 rfl rfl
  | 13, _ => exact jm_g2 21 rfl rfl
  | k + 14, hk => exact absurd hk (by omega)
def jn_T8 : u_T := fun k => match k with
  | 0 => ("JobHouse$StartLog", "times", "[J", true)
  | 1 => ("JobHouse$StartLog", "slots", "[I", true)
  | 2 => ("JobHouse$StartLog", "nominals", "[J", true)
  | 3 => ("JobHouse$StartLog", "size", "I", false)
  | _ => ("JobHouse$StartLog", "total", "J", false)
def jn_y8 : Nat → FieldType := fun k => match k with
  | 0 => .array .long
  | 1 => .array .int
  | 2 => .array .long
  | 3 => .int
  | _ => .long
theorem jn_n8 : ∀ a, a < 5 → ∀ b, b < 5 → a ≠ b → (jn_T8 a).2.1 ≠ (jn_T8 b).2.1 := by decide +kernel
theorem jn_o8 : ∀ k, k < 5 → parseFieldDescriptor (jn_T8 k).2.2.1 = some (jn_y8 k) := by decide +kernel
theorem jn_i8 : ∀ w ∈ u_ws "JobHouse$StartLog" jn_T8 5, w ∈ jm_G := by
  intro w hw
  obtain ⟨k, hk, rfl⟩ := List.mem_map.mp hw
  have hk := List.mem_range.mp hk
  match k, hk with
  | 0, _ => exact jm_g1 196 rfl rfl
  | 1, _ => exact jm_g1 198 rfl rfl
  | 2, _ => exact jm_g1 200 rfl rfl
  | 3, _ => exact jm_g1 202 rfl rfl
  | 4, _ => exact jm_g1 204 rfl rfl
  | k + 5, hk => exact absurd hk (by omega)
def jn_T9 : u_T := fun k => match k with
  | 0 => ("JobHouseModel", "failed", "I", false)
  | 1 => ("JobHouseModel", "tape", "[B", true)
  | 2 => ("JobHouseModel", "taped", "I", false)
  | 3 => ("JobHouseModel", "place", "I", false)
  | 4 => ("JobHouseModel", "year", "I", false)
  | 5 => ("JobHouseModel", "month", "I", false)
  | 6 => ("JobHouseModel", "day", "I", false)
  | 7 => ("JobHouseModel", "at", "I", false)
  | 8 => ("JobHouseModel", "offsets", "[I", true)
  | 9 => ("JobHouseModel", "saves", "[I", true)
  | 10 => ("JobHouseModel", "events", "[[J", true)
  | 11 => ("JobHouseModel", "begins", "[[Z", true)
  | 12 => ("JobHouseModel", "eventCounts", "[I", true)
  | 13 => ("JobHouseModel", "rule", "[I", true)
  | 14 => ("JobHouseModel", "sets", "[[[Z", true)
  | 15 => ("JobHouseModel", "trial", "[[Z", true)
  | 16 => ("JobHouseModel", "told", "[Z", true)
  | 17 => ("JobHouseModel", "ways", "[[I", true)
  | 18 => ("JobHouseModel", "first", "[[I", true)
  | 19 => ("JobHouseModel", "second", "[[I", true)
  | 20 => ("JobHouseModel", "way", "I", false)
  | 21 => ("JobHouseModel", "one", "I", false)
  | 22 => ("JobHouseModel", "two", "I", false)
  | 23 => ("JobHouseModel", "months", "[Ljava/lang/String;", true)
  | 24 => ("JobHouseModel", "weekdays", "[Ljava/lang/String;", true)
  | 25 => ("JobHouseModel", "holidays", "[[Z", true)
  | 26 => ("JobHouseModel", "holidayCounts", "[I", true)
  | 27 => ("JobHouseModel", "states", "[I", true)
  | 28 => ("JobHouseModel", "kinds", "[I", true)
  | 29 => ("JobHouseModel", "nominals", "[J", true)
  | 30 => ("JobHouseModel", "ends", "[J", true)
  | 31 => ("JobHouseModel", "starts", "[J", true)
  | 32 => ("JobHouseModel", "orders", "[J", true)
  | 33 => ("JobHouseModel", "periods", "[J", true)
  | 34 => ("JobHouseModel", "durations", "[J", true)
  | 35 => ("JobHouseModel", "priorities", "[I", true)
  | 36 => ("JobHouseModel", "policies", "[I", true)
  | 37 => ("JobHouseModel", "fails", "[I", true)
  | 38 => ("JobHouseModel", "crons", "[I", true)
  | 39 => ("JobHouseModel", "zones", "[I", true)
  | 40 => ("JobHouseModel", "calendars", "[I", true)
  | 41 => ("JobHouseModel", "clock", "J", false)
  | 42 => ("JobHouseModel", "workers", "I", false)
  | 43 => ("JobHouseModel", "made", "J", false)
  | 44 => ("JobHouseModel", "allStarts", "J", false)
  | 45 => ("JobHouseModel", "closed", "Z", false)
  | 46 => ("JobHouseModel", "startTimes", "[J", true)
  | 47 => ("JobHouseModel", "startJobs", "[I", true)
  | 48 => ("JobHouseModel", "startNominals", "[J", true)
  | _ => ("JobHouseModel", "started", "I", false)
def jn_y9 : Nat → FieldType := fun k => match k with
  | 0 => .int
  | 1 => .array .byte
  | 2 => .int
  | 3 => .int
  | 4 => .int
  | 5 => .int
  | 6 => .int
  | 7 => .int
  | 8 => .array .int
  | 9 => .array .int
  | 10 => .array (.array .long)
  | 11 => .array (.array .boolean)
  | 12 => .array .int
  | 13 => .array .int
  | 14 => .array (.array (.array .boolean))
  | 15 => .array (.array .boolean)
  | 16 => .array .boolean
  | 17 => .array (.array .int)
  | 18 => .array (.array .int)
  | 19 => .array (.array .int)
  | 20 => .int
  | 21 => .int
  | 22 => .int
  | 23 => .array (.object "java/lang/String")
  | 24 => .array (.object "java/lang/String")
  | 25 => .array (.array .boolean)
  | 26 => .array .int
  | 27 => .array .int
  | 28 => .array .int
  | 29 => .array .long
  | 30 => .array .long
  | 31 => .array .long
  | 32 => .array .long
  | 33 => .array .long
  | 34 => .array .long
  | 35 => .array .int
  | 36 => .array .int
  | 37 => .array .int
  | 38 => .array .int
  | 39 => .array .int
  | 40 => .array .int
  | 41 => .long
  | 42 => .int
  | 43 => .long
  | 44 => .long
  | 45 => .boolean
  | 46 => .array .long
  | 47 => .array .int
  | 48 => .array .long
  | _ => .int
theorem jn_n9 : ∀ a, a < 50 → ∀ b, b < 50 → a ≠ b → (jn_T9 a).2.1 ≠ (jn_T9 b).2.1 := by decide +kernel
theorem jn_o9 : ∀ k, k < 50 → parseFieldDescriptor (jn_T9 k).2.2.1 = some (jn_y9 k) := by decide +kernel
theorem jn_i9 : ∀ w ∈ u_ws "JobHouseModel" jn_T9 50, w ∈ jm_G := by
  intro w hw
  obtain ⟨k, hk, rfl⟩ := List.mem_map.mp hw
  have hk := List.mem_range.mp hk
  match k, hk with
  | 0, _ => exact jm_g5 151 rfl rfl
  | 1, _ => exact jm_g5 153 rfl rfl
  | 2, _ => exact jm_g5 155 rfl rfl
  | 3, _ => exact jm_g5 157 rfl rfl
  | 4, _ => exact jm_g5 159 rfl rfl
  | 5, _ => exact jm_g5 161 rfl rfl
  | 6, _ => exact jm_g5 163 rfl rfl
  | 7, _ => exact jm_g5 165 rfl rfl
  | 8, _ => exact jm_g5 167 rfl rfl
  | 9, _ => exact jm_g5 169 rfl rfl
  | 10, _ => exact jm_g5 171 rfl rfl
  | 11, _ => exact jm_g5 173 rfl rfl
  | 12, _ => exact jm_g5 175 rfl rfl
  | 13, _ => exact jm_g5 177 rfl rfl
  | 14, _ => exact jm_g5 179 rfl rfl
  | 15, _ => exact jm_g5 181 rfl rfl
  | 16, _ => exact jm_g5 183 rfl rfl
  | 17, _ => exact jm_g5 185 rfl rfl
  | 18, _ => exact jm_g5 187 rfl rfl
  | 19, _ => exact jm_g5 189 rfl rfl
  | 20, _ => exact jm_g5 191 rfl rfl
  | 21, _ => exact jm_g5 193 rfl rfl
  | 22, _ => exact jm_g5 195 rfl rfl
  | 23, _ => exact jm_g5 197 rfl rfl
  | 24, _ => exact jm_g5 199 rfl rfl
  | 25, _ => exact jm_g5 201 rfl rfl
  | 26, _ => exact jm_g5 203 rfl rfl
  | 27, _ => exact jm_g5 205 rfl rfl
  | 28, _ => exact jm_g5 207 rfl rfl
  | 29, _ => exact jm_g5 209 rfl rfl
  | 30, _ => exact jm_g5 211 rfl rfl
  | 31, _ => exact jm_g5 213 rfl rfl
  | 32, _ => exact jm_g5 215 rfl rfl
  | 33, _ => exact jm_g5 217 rfl rfl
  | 34, _ => exact jm_g5 219 rfl rfl
  | 35, _ => exact jm_g5 221 rfl rfl
  | 36, _ => exact jm_g5 223 rfl rfl
  | 37, _ => exact jm_g5 225 rfl rfl
  | 38, _ => exact jm_g5 227 rfl rfl
  | 39, _ => exact jm_g5 229 rfl rfl
  | 40, _ => exact jm_g5 231 rfl rfl
  | 41, _ => exact jm_g5 233 rfl rfl
  | 42, _ => exact jm_g5 235 rfl rfl
  | 43, _ => exact jm_g5 237 rfl rfl
  | 44, _ => exact jm_g5 239 rfl rfl
  | 45, _ => exact jm_g6 1 rfl rfl
  | 46, _ => exact jm_g6 3 rfl rfl
  | 47, _ => exact jm_g6 5 rfl rfl
  | 48, _ => exact jm_g6 7 rfl rfl
  | 49, _ => exact jm_g6 9 rfl rfl
  | k + 50, hk => exact absurd hk (by omega)
def jn_E : u_T := fun _ => ("", "", "", false)
def jm_cl : List vw_C := [("JobHouse", jn_T0, 18), ("JobHouse$Text", jn_T1, 4), ("JobHouse$Zone", jn_T2, 7), ("JobHouse$YearRule", jn_T3, 4), ("JobHouse$Cron", jn_T4, 4), ("JobHouse$Holidays", jn_T5, 2), ("JobHouse$Fires", jn_T6, 3), ("JobHouse$Job", jn_T7, 14), ("JobHouse$StartLog", jn_T8, 5), ("JobHouseModel", jn_T9, 50), ("java/lang/IndexOutOfBoundsException", jn_E, 0), ("java/lang/IllegalArgumentException", jn_E, 0), ("java/lang/UnsupportedOperationException", jn_E, 0), ("java/lang/IllegalStateException", jn_E, 0), ("java/util/NoSuchElementException", jn_E, 0)]
def jm_ty (dA : Nat → ClassId) : List (ClassId × FieldType) := [(dA 0, .byte), (dA 1, .boolean), (dA 2, .int), (dA 3, .long), (dA 4, .object "JobHouse$Zone"), (dA 5, .object "JobHouse$Cron"), (dA 6, .object "JobHouse$Holidays"), (dA 7, .object "JobHouse$Job"), (dA 8, .object "java/lang/String"), (dA 9, .array .long), (dA 10, .array .boolean), (dA 11, .array (.array .boolean)), (dA 12, .array .int)]
end
section
def y_Math_min : MethodName := ⟨"java/lang/Math", "min", "(II)I"⟩
abbrev b_Math_min : ByteArray := prog_19_method_69_code
theorem d_Math_min_0 : decode b_Math_min 0 = .ok (.iload_n 0, 1) := by decide +kernel
theorem d_Math_min_1 : decode b_Math_min 1 = .ok (.iload_n 1, 1) := by decide +kernel
theorem d_Math_min_2 : decode b_Math_min 2 = .ok (.if_icmp .gt 7, 3) := by decide +kernel
theorem d_Math_min_5 : decode b_Math_min 5 = .ok (.iload_n 0, 1) := by decide +kernel
theorem d_Math_min_6 : decode b_Math_min 6 = .ok (.goto 4, 3) := by decide +kernel
theorem d_Math_min_9 : decode b_Math_min 9 = .ok (.iload_n 1, 1) := by decide +kernel
theorem d_Math_min_10 : decode b_Math_min 10 = .ok (.ireturn, 1) := by decide +kernel
theorem ci_Math_min : jm_ci jm_G y_Math_min (Cond.code y_Math_min b_Math_min 2 (some FieldType.int)) 2 2 := ⟨jm_g2 226 rfl rfl, Or.inl ⟨_, _, rfl⟩, jm_g1 16 rfl rfl, ⟨by decide, by decide⟩, by decide +kernel⟩
theorem st_Math_min : Cond.static y_Math_min ∈ jm_G := jm_g2 225 rfl rfl
def y_Math_max : MethodName := ⟨"java/lang/Math", "max", "(II)I"⟩
abbrev b_Math_max : ByteArray := prog_19_method_65_code
theorem d_Math_max_0 : decode b_Math_max 0 = .ok (.iload_n 0, 1) := by decide +kernel
theorem d_Math_max_1 : decode b_Math_max 1 = .ok (.iload_n 1, 1) := by decide +kernel
theorem d_Math_max_2 : decode b_Math_max 2 = .ok (.if_icmp .lt 7, 3) := by decide +kernel
theorem d_Math_max_5 : decode b_Math_max 5 = .ok (.iload_n 0, 1) := by decide +kernel
theorem d_Math_max_6 : decode b_Math_max 6 = .ok (.goto 4, 3) := by decide +kernel
theorem d_Math_max_9 : decode b_Math_max 9 = .ok (.iload_n 1, 1) := by decide +kernel
theorem d_Math_max_10 : decode b_Math_max 10 = .ok (.ireturn, 1) := by decide +kernel
theorem ci_Math_max : jm_ci jm_G y_Math_max (Cond.code y_Math_max b_Math_max 2 (some FieldType.int)) 2 2 := ⟨jm_g3 129 rfl rfl, Or.inl ⟨_, _, rfl⟩, jm_g1 16 rfl rfl, ⟨by decide, by decide⟩, by decide +kernel⟩
theorem st_Math_max : Cond.static y_Math_max ∈ jm_G := jm_g3 128 rfl rfl
def y_Math_min2 : MethodName := ⟨"java/lang/Math", "min", "(JJ)J"⟩
abbrev b_Math_min2 : ByteArray := prog_19_method_70_code
theorem d_Math_min2_0 : decode b_Math_min2 0 = .ok (.lload_n 0, 1) := by decide +kernel
theorem d_Math_min2_1 : decode b_Math_min2 1 = .ok (.lload_n 2, 1) := by decide +kernel
theorem d_Math_min2_2 : decode b_Math_min2 2 = .ok (.lcmp, 1) := by decide +kernel
theorem d_Math_min2_3 : decode b_Math_min2 3 = .ok (.ifCond .gt 7, 3) := by decide +kernel
theorem d_Math_min2_6 : decode b_Math_min2 6 = .ok (.lload_n 0, 1) := by decide +kernel
theorem d_Math_min2_7 : decode b_Math_min2 7 = .ok (.goto 4, 3) := by decide +kernel
theorem d_Math_min2_10 : decode b_Math_min2 10 = .ok (.lload_n 2, 1) := by decide +kernel
theorem d_Math_min2_11 : decode b_Math_min2 11 = .ok (.lreturn, 1) := by decide +kernel
theorem ci_Math_min2 : jm_ci jm_G y_Math_min2 (Cond.code y_Math_min2 b_Math_min2 4 (some FieldType.long)) 4 2 := ⟨jm_g4 5 rfl rfl, Or.inl ⟨_, _, rfl⟩, jm_g1 16 rfl rfl, ⟨by decide, by decide⟩, by decide +kernel⟩
theorem st_Math_min2 : Cond.static y_Math_min2 ∈ jm_G := jm_g4 4 rfl rfl
def y_Math_max2 : MethodName := ⟨"java/lang/Math", "max", "(JJ)J"⟩
abbrev b_Math_max2 : ByteArray := prog_19_method_66_code
theorem d_Math_max2_0 : decode b_Math_max2 0 = .ok (.lload_n 0, 1) := by decide +kernel
theorem d_Math_max2_1 : decode b_Math_max2 1 = .ok (.lload_n 2, 1) := by decide +kernel
theorem d_Math_max2_2 : decode b_Math_max2 2 = .ok (.lcmp, 1) := by decide +kernel
theorem d_Math_max2_3 : decode b_Math_max2 3 = .ok (.ifCond .lt 7, 3) := by decide +kernel
theorem d_Math_max2_6 : decode b_Math_max2 6 = .ok (.lload_n 0, 1) := by decide +kernel
theorem d_Math_max2_7 : decode b_Math_max2 7 = .ok (.goto 4, 3) := by decide +kernel
theorem d_Math_max2_10 : decode b_Math_max2 10 = .ok (.lload_n 2, 1) := by decide +kernel
theorem d_Math_max2_11 : decode b_Math_max2 11 = .ok (.lreturn, 1) := by decide +kernel
theorem ci_Math_max2 : jm_ci jm_G y_Math_max2 (Cond.code y_Math_max2 b_Math_max2 4 (some FieldType.long)) 4 2 := ⟨jm_g4 2 rfl rfl, Or.inl ⟨_, _, rfl⟩, jm_g1 16 rfl rfl, ⟨by decide, by decide⟩, by decide +kernel⟩
theorem st_Math_max2 : Cond.static y_Math_max2 ∈ jm_G := jm_g4 1 rfl rfl
def y_Math_floorDiv : MethodName := ⟨"java/lang/Math", "floorDiv", "(II)I"⟩
abbrev b_Math_floorDiv : ByteArray := prog_19_method_47_code
theorem d_Math_floorDiv_0 : decode b_Math_floorDiv 0 = .ok (.iload_n 0, 1) := by decide +kernel
theorem d_Math_floorDiv_1 : decode b_Math_floorDiv 1 = .ok (.iload_n 1, 1) := by decide +kernel
theorem d_Math_floorDiv_2 : decode b_Math_floorDiv 2 = .ok (.idiv, 1) := by decide +kernel
theorem d_Math_floorDiv_3 : decode b_Math_floorDiv 3 = .ok (.istore_n 2, 1) := by decide +kernel
theorem d_Math_floorDiv_4 : decode b_Math_floorDiv 4 = .ok (.iload_n 0, 1) := by decide +kernel
theorem d_Math_floorDiv_5 : decode b_Math_floorDiv 5 = .ok (.iload_n 1, 1) := by decide +kernel
theorem d_Math_floorDiv_6 : decode b_Math_floorDiv 6 = .ok (.ixor, 1) := by decide +kernel
theorem d_Math_floorDiv_7 : decode b_Math_floorDiv 7 = .ok (.ifCond .ge 14, 3) := by decide +kernel
theorem d_Math_floorDiv_10 : decode b_Math_floorDiv 10 = .ok (.iload_n 2, 1) := by decide +kernel
theorem d_Math_floorDiv_11 : decode b_Math_floorDiv 11 = .ok (.iload_n 1, 1) := by decide +kernel
theorem d_Math_floorDiv_12 : decode b_Math_floorDiv 12 = .ok (.imul, 1) := by decide +kernel
theorem d_Math_floorDiv_13 : decode b_Math_floorDiv 13 = .ok (.iload_n 0, 1) := by decide +kernel
theorem d_Math_floorDiv_14 : decode b_Math_floorDiv 14 = .ok (.if_icmp .eq 7, 3) := by decide +kernel
theorem d_Math_floorDiv_17 : decode b_Math_floorDiv 17 = .ok (.iload_n 2, 1) := by decide +kernel
theorem d_Math_floorDiv_18 : decode b_Math_floorDiv 18 = .ok (.iconst 1, 1) := by decide +kernel
theorem d_Math_floorDiv_19 : decode b_Math_floorDiv 19 = .ok (.isub, 1) := by decide +kernel
theorem d_Math_floorDiv_20 : decode b_Math_floorDiv 20 = .ok (.ireturn, 1) := by decide +kernel
theorem d_Math_floorDiv_21 : decode b_Math_floorDiv 21 = .ok (.iload_n 2, 1) := by decide +kernel
theorem d_Math_floorDiv_22 : decode b_Math_floorDiv 22 = .ok (.ireturn, 1) := by decide +kernel
theorem ci_Math_floorDiv : jm_ci jm_G y_Math_floorDiv (Cond.code y_Math_floorDiv b_Math_floorDiv 3 (some FieldType.int)) 3 2 := ⟨jm_g3 208 rfl rfl, Or.inl ⟨_, _, rfl⟩, jm_g1 16 rfl rfl, ⟨by decide, by decide⟩, by decide +kernel⟩
theorem st_Math_floorDiv : Cond.static y_Math_floorDiv ∈ jm_G := jm_g3 207 rfl rfl
def y_Math_floorMod : MethodName := ⟨"java/lang/Math", "floorMod", "(II)I"⟩
abbrev b_Math_floorMod : ByteArray := prog_19_method_50_code
theorem d_Math_floorMod_0 : decode b_Math_floorMod 0 = .ok (.iload_n 0, 1) := by decide +kernel
theorem d_Math_floorMod_1 : decode b_Math_floorMod 1 = .ok (.iload_n 1, 1) := by decide +kernel
theorem d_Math_floorMod_2 : decode b_Math_floorMod 2 = .ok (.irem, 1) := by decide +kernel
theorem d_Math_floorMod_3 : decode b_Math_floorMod 3 = .ok (.istore_n 2, 1) := by decide +kernel
theorem d_Math_floorMod_4 : decode b_Math_floorMod 4 = .ok (.iload_n 0, 1) := by decide +kernel
theorem d_Math_floorMod_5 : decode b_Math_floorMod 5 = .ok (.iload_n 1, 1) := by decide +kernel
theorem d_Math_floorMod_6 : decode b_Math_floorMod 6 = .ok (.ixor, 1) := by decide +kernel
theorem d_Math_floorMod_7 : decode b_Math_floorMod 7 = .ok (.ifCond .ge 11, 3) := by decide +kernel
theorem d_Math_floorMod_10 : decode b_Math_floorMod 10 = .ok (.iload_n 2, 1) := by decide +kernel
theorem d_Math_floorMod_11 : decode b_Math_floorMod 11 = .ok (.ifCond .eq 7, 3) := by decide +kernel
theorem d_Math_floorMod_14 : decode b_Math_floorMod 14 = .ok (.iload_n 2, 1) := by decide +kernel
theorem d_Math_floorMod_15 : decode b_Math_floorMod 15 = .ok (.iload_n 1, 1) := by decide +kernel
theorem d_Math_floorMod_16 : decode b_Math_floorMod 16 = .ok (.iadd, 1) := by decide +kernel
theorem d_Math_floorMod_17 : decode b_Math_floorMod 17 = .ok (.ireturn, 1) := by decide +kernel
theorem d_Math_floorMod_18 : decode b_Math_floorMod 18 = .ok (.iload_n 2, 1) := by decide +kernel
theorem d_Math_floorMod_19 : decode b_Math_floorMod 19 = .ok (.ireturn, 1) := by decide +kernel
theorem ci_Math_floorMod : jm_ci jm_G y_Math_floorMod (Cond.code y_Math_floorMod b_Math_floorMod 3 (some FieldType.int)) 3 2 := ⟨jm_g3 228 rfl rfl, Or.inl ⟨_, _, rfl⟩, jm_g1 16 rfl rfl, ⟨by decide, by decide⟩, by decide +kernel⟩
theorem st_Math_floorMod : Cond.static y_Math_floorMod ∈ jm_G := jm_g3 227 rfl rfl
def y_Math_floorDiv2 : MethodName := ⟨"java/lang/Math", "floorDiv", "(JJ)J"⟩
abbrev b_Math_floorDiv2 : ByteArray := prog_19_method_49_code
theorem d_Math_floorDiv2_0 : decode b_Math_floorDiv2 0 = .ok (.lload_n 0, 1) := by decide +kernel
theorem d_Math_floorDiv2_1 : decode b_Math_floorDiv2 1 = .ok (.lload_n 2, 1) := by decide +kernel
theorem d_Math_floorDiv2_2 : decode b_Math_floorDiv2 2 = .ok (.ldiv, 1) := by decide +kernel
theorem d_Math_floorDiv2_3 : decode b_Math_floorDiv2 3 = .ok (.lstore 4, 2) := by decide +kernel
theorem d_Math_floorDiv2_5 : decode b_Math_floorDiv2 5 = .ok (.lload_n 0, 1) := by decide +kernel
theorem d_Math_floorDiv2_6 : decode b_Math_floorDiv2 6 = .ok (.lload_n 2, 1) := by decide +kernel
theorem d_Math_floorDiv2_7 : decode b_Math_floorDiv2 7 = .ok (.lxor, 1) := by decide +kernel
theorem d_Math_floorDiv2_8 : decode b_Math_floorDiv2 8 = .ok (.lconst 0, 1) := by decide +kernel
theorem d_Math_floorDiv2_9 : decode b_Math_floorDiv2 9 = .ok (.lcmp, 1) := by decide +kernel
theorem d_Math_floorDiv2_10 : decode b_Math_floorDiv2 10 = .ok (.ifCond .ge 17, 3) := by decide +kernel
theorem d_Math_floorDiv2_13 : decode b_Math_floorDiv2 13 = .ok (.lload 4, 2) := by decide +kernel
theorem d_Math_floorDiv2_15 : decode b_Math_floorDiv2 15 = .ok (.lload_n 2, 1) := by decide +kernel
theorem d_Math_floorDiv2_16 : decode b_Math_floorDiv2 16 = .ok (.lmul, 1) := by decide +kernel
theorem d_Math_floorDiv2_17 : decode b_Math_floorDiv2 17 = .ok (.lload_n 0, 1) := by decide +kernel
theorem d_Math_floorDiv2_18 : decode b_Math_floorDiv2 18 = .ok (.lcmp, 1) := by decide +kernel
theorem d_Math_floorDiv2_19 : decode b_Math_floorDiv2 19 = .ok (.ifCond .eq 8, 3) := by decide +kernel
theorem d_Math_floorDiv2_22 : decode b_Math_floorDiv2 22 = .ok (.lload 4, 2) := by decide +kernel
theorem d_Math_floorDiv2_24 : decode b_Math_floorDiv2 24 = .ok (.lconst 1, 1) := by decide +kernel
theorem d_Math_floorDiv2_25 : decode b_Math_floorDiv2 25 = .ok (.lsub, 1) := by decide +kernel
theorem d_Math_floorDiv2_26 : decode b_Math_floorDiv2 26 = .ok (.lreturn, 1) := by decide +kernel
theorem d_Math_floorDiv2_27 : decode b_Math_floorDiv2 27 = .ok (.lload 4, 2) := by decide +kernel
theorem d_Math_floorDiv2_29 : decode b_Math_floorDiv2 29 = .ok (.lreturn, 1) := by decide +kernel
theorem ci_Math_floorDiv2 : jm_ci jm_G y_Math_floorDiv2 (Cond.code y_Math_floorDiv2 b_Math_floorDiv2 6 (some FieldType.long)) 6 2 := ⟨jm_g3 201 rfl rfl, Or.inl ⟨_, _, rfl⟩, jm_g1 16 rfl rfl, ⟨by decide, by decide⟩, by decide +kernel⟩
theorem st_Math_floorDiv2 : Cond.static y_Math_floorDiv2 ∈ jm_G := jm_g3 200 rfl rfl
def y_Math_floorMod2 : MethodName := ⟨"java/lang/Math", "floorMod", "(JJ)J"⟩
abbrev b_Math_floorMod2 : ByteArray := prog_19_method_52_code
theorem d_Math_floorMod2_0 : decode b_Math_floorMod2 0 = .ok (.lload_n 0, 1) := by decide +kernel
theorem d_Math_floorMod2_1 : decode b_Math_floorMod2 1 = .ok (.lload_n 2, 1) := by decide +kernel
theorem d_Math_floorMod2_2 : decode b_Math_floorMod2 2 = .ok (.lrem, 1) := by decide +kernel
theorem d_Math_floorMod2_3 : decode b_Math_floorMod2 3 = .ok (.lstore 4, 2) := by decide +kernel
theorem d_Math_floorMod2_5 : decode b_Math_floorMod2 5 = .ok (.lload_n 0, 1) := by decide +kernel
theorem d_Math_floorMod2_6 : decode b_Math_floorMod2 6 = .ok (.lload_n 2, 1) := by decide +kernel
theorem d_Math_floorMod2_7 : decode b_Math_floorMod2 7 = .ok (.lxor, 1) := by decide +kernel
theorem d_Math_floorMod2_8 : decode b_Math_floorMod2 8 = .ok (.lconst 0, 1) := by decide +kernel
theorem d_Math_floorMod2_9 : decode b_Math_floorMod2 9 = .ok (.lcmp, 1) := by decide +kernel
theorem d_Math_floorMod2_10 : decode b_Math_floorMod2 10 = .ok (.ifCond .ge 15, 3) := by decide +kernel
theorem d_Math_floorMod2_13 : decode b_Math_floorMod2 13 = .ok (.lload 4, 2) := by decide +kernel
theorem d_Math_floorMod2_15 : decode b_Math_floorMod2 15 = .ok (.lconst 0, 1) := by decide +kernel
theorem d_Math_floorMod2_16 : decode b_Math_floorMod2 16 = .ok (.lcmp, 1) := by decide +kernel
theorem d_Math_floorMod2_17 : decode b_Math_floorMod2 17 = .ok (.ifCond .eq 8, 3) := by decide +kernel
theorem d_Math_floorMod2_20 : decode b_Math_floorMod2 20 = .ok (.lload 4, 2) := by decide +kernel
theorem d_Math_floorMod2_22 : decode b_Math_floorMod2 22 = .ok (.lload_n 2, 1) := by decide +kernel
theorem d_Math_floorMod2_23 : decode b_Math_floorMod2 23 = .ok (.ladd, 1) := by decide +kernel
theorem d_Math_floorMod2_24 : decode b_Math_floorMod2 24 = .ok (.lreturn, 1) := by decide +kernel
theorem d_Math_floorMod2_25 : decode b_Math_floorMod2 25 = .ok (.lload 4, 2) := by decide +kernel
theorem d_Math_floorMod2_27 : decode b_Math_floorMod2 27 = .ok (.lreturn, 1) := by decide +kernel
theorem ci_Math_floorMod2 : jm_ci jm_G y_Math_floorMod2 (Cond.code y_Math_floorMod2 b_Math_floorMod2 6 (some FieldType.long)) 6 2 := ⟨jm_g4 119 rfl rfl, Or.inl ⟨_, _, rfl⟩, jm_g1 16 rfl rfl, ⟨by decide, by decide⟩, by decide +kernel⟩
theorem st_Math_floorMod2 : Cond.static y_Math_floorMod2 ∈ jm_G := jm_g4 118 rfl rfl
def y_Long_bitCount : MethodName := ⟨"java/lang/Long", "bitCount", "(J)I"⟩
abbrev b_Long_bitCount : ByteArray := prog_18_method_50_code
theorem d_Long_bitCount_0 : decode b_Long_bitCount 0 = .ok (.lload_n 0, 1) := by decide +kernel
theorem d_Long_bitCount_1 : decode b_Long_bitCount 1 = .ok (.lload_n 0, 1) := by decide +kernel
theorem d_Long_bitCount_2 : decode b_Long_bitCount 2 = .ok (.iconst 1, 1) := by decide +kernel
theorem d_Long_bitCount_3 : decode b_Long_bitCount 3 = .ok (.lushr, 1) := by decide +kernel
theorem d_Long_bitCount_4 : decode b_Long_bitCount 4 = .ok (.ldc2_w 314, 3) := by decide +kernel
theorem d_Long_bitCount_7 : decode b_Long_bitCount 7 = .ok (.land, 1) := by decide +kernel
theorem d_Long_bitCount_8 : decode b_Long_bitCount 8 = .ok (.lsub, 1) := by decide +kernel
theorem d_Long_bitCount_9 : decode b_Long_bitCount 9 = .ok (.lstore_n 0, 1) := by decide +kernel
theorem d_Long_bitCount_10 : decode b_Long_bitCount 10 = .ok (.lload_n 0, 1) := by decide +kernel
theorem d_Long_bitCount_11 : decode b_Long_bitCount 11 = .ok (.ldc2_w 316, 3) := by decide +kernel
theorem d_Long_bitCount_14 : decode b_Long_bitCount 14 = .ok (.land, 1) := by decide +kernel
theorem d_Long_bitCount_15 : decode b_Long_bitCount 15 = .ok (.lload_n 0, 1) := by decide +kernel
theorem d_Long_bitCount_16 : decode b_Long_bitCount 16 = .ok (.iconst 2, 1) := by decide +kernel
theorem d_Long_bitCount_17 : decode b_Long_bitCount 17 = .ok (.lushr, 1) := by decide +kernel
theorem d_Long_bitCount_18 : decode b_Long_bitCount 18 = .ok (.ldc2_w 316, 3) := by decide +kernel
theorem d_Long_bitCount_21 : decode b_Long_bitCount 21 = .ok (.land, 1) := by decide +kernel
theorem d_Long_bitCount_22 : decode b_Long_bitCount 22 = .ok (.ladd, 1) := by decide +kernel
theorem d_Long_bitCount_23 : decode b_Long_bitCount 23 = .ok (.lstore_n 0, 1) := by decide +kernel
theorem d_Long_bitCount_24 : decode b_Long_bitCount 24 = .ok (.lload_n 0, 1) := by decide +kernel
theorem d_Long_bitCount_25 : decode b_Long_bitCount 25 = .ok (.lload_n 0, 1) := by decide +kernel
theorem d_Long_bitCount_26 : decode b_Long_bitCount 26 = .ok (.iconst 4, 1) := by decide +kernel
theorem d_Long_bitCount_27 : decode b_Long_bitCount 27 = .ok (.lushr, 1) := by decide +kernel
theorem d_Long_bitCount_28 : decode b_Long_bitCount 28 = .ok (.ladd, 1) := by decide +kernel
theorem d_Long_bitCount_29 : decode b_Long_bitCount 29 = .ok (.ldc2_w 318, 3) := by decide +kernel
theorem d_Long_bitCount_32 : decode b_Long_bitCount 32 = .ok (.land, 1) := by decide +kernel
theorem d_Long_bitCount_33 : decode b_Long_bitCount 33 = .ok (.lstore_n 0, 1) := by decide +kernel
theorem d_Long_bitCount_34 : decode b_Long_bitCount 34 = .ok (.lload_n 0, 1) := by decide +kernel
theorem d_Long_bitCount_35 : decode b_Long_bitCount 35 = .ok (.lload_n 0, 1) := by decide +kernel
theorem d_Long_bitCount_36 : decode b_Long_bitCount 36 = .ok (.bipush 8, 2) := by decide +kernel
theorem d_Long_bitCount_38 : decode b_Long_bitCount 38 = .ok (.lushr, 1) := by decide +kernel
theorem d_Long_bitCount_39 : decode b_Long_bitCount 39 = .ok (.ladd, 1) := by decide +kernel
theorem d_Long_bitCount_40 : decode b_Long_bitCount 40 = .ok (.lstore_n 0, 1) := by decide +kernel
theorem d_Long_bitCount_41 : decode b_Long_bitCount 41 = .ok (.lload_n 0, 1) := by decide +kernel
theorem d_Long_bitCount_42 : decode b_Long_bitCount 42 = .ok (.lload_n 0, 1) := by decide +kernel
theorem d_Long_bitCount_43 : decode b_Long_bitCount 43 = .ok (.bipush 16, 2) := by decide +kernel
theorem d_Long_bitCount_45 : decode b_Long_bitCount 45 = .ok (.lushr, 1) := by decide +kernel
theorem d_Long_bitCount_46 : decode b_Long_bitCount 46 = .ok (.ladd, 1) := by decide +kernel
theorem d_Long_bitCount_47 : decode b_Long_bitCount 47 = .ok (.lstore_n 0, 1) := by decide +kernel
theorem d_Long_bitCount_48 : decode b_Long_bitCount 48 = .ok (.lload_n 0, 1) := by decide +kernel
theorem d_Long_bitCount_49 : decode b_Long_bitCount 49 = .ok (.lload_n 0, 1) := by decide +kernel
theorem d_Long_bitCount_50 : decode b_Long_bitCount 50 = .ok (.bipush 32, 2) := by decide +kernel
theorem d_Long_bitCount_52 : decode b_Long_bitCount 52 = .ok (.lushr, 1) := by decide +kernel
theorem d_Long_bitCount_53 : decode b_Long_bitCount 53 = .ok (.ladd, 1) := by decide +kernel
theorem d_Long_bitCount_54 : decode b_Long_bitCount 54 = .ok (.lstore_n 0, 1) := by decide +kernel
theorem d_Long_bitCount_55 : decode b_Long_bitCount 55 = .ok (.lload_n 0, 1) := by decide +kernel
theorem d_Long_bitCount_56 : decode b_Long_bitCount 56 = .ok (.l2i, 1) := by decide +kernel
theorem d_Long_bitCount_57 : decode b_Long_bitCount 57 = .ok (.bipush 127, 2) := by decide +kernel
theorem d_Long_bitCount_59 : decode b_Long_bitCount 59 = .ok (.iand, 1) := by decide +kernel
theorem d_Long_bitCount_60 : decode b_Long_bitCount 60 = .ok (.ireturn, 1) := by decide +kernel
theorem ci_Long_bitCount : jm_ci jm_G y_Long_bitCount (Cond.code y_Long_bitCount b_Long_bitCount 2 (some FieldType.int)) 2 1 := ⟨jm_g4 59 rfl rfl, Or.inl ⟨_, _, rfl⟩, jm_g1 25 rfl rfl, ⟨by decide, by decide⟩, by decide +kernel⟩
theorem st_Long_bitCount : Cond.static y_Long_bitCount ∈ jm_G := jm_g4 58 rfl rfl
end
section
def f_Math_min (x : Int32) (y : Int32) : Int32 :=
  let v10 : Int32 := if y < x then y else x
  v10
set_option maxRecDepth 20000 in
set_option maxHeartbeats 4000000 in
theorem k_Math_min {l : Launch} {S : State} {D : va_G} {dA : Nat → ClassId} (E : jm_en S D jm_cl (jm_ty dA) jm_G) (x : Int32) (y : Int32) (h : jm_H)    : jm_M l S D jm_cl y_Math_min (Cond.code y_Math_min b_Math_min 2 (some FieldType.int)) { frames := 0, cells := 0, slots := 0, locals := 0 } [.int x, .int y] h (jm_R (some (.int (f_Math_min x y))) h) 0 0 := by
  refine jm_ofWF E (by decide +kernel) (Nat.le_of_ble_eq_true rfl) (fun p e s m below meth c X hr hk hmn hout hadm => ?_)
  have X : jm_cx p s m ([.int x, .int y] : List Value).toArray c S D jm_cl (jm_ty dA) jm_G b_Math_min 2 "java/lang/Math" := X
  show jm_W p l e ({ frames := 0, cells := 0, slots := 0, locals := 0 }) s m ([.int x, .int y] : List Value).toArray below meth c S D jm_cl (jm_Q S D jm_cl below s (jm_R (some (.int (f_Math_min x y))) h) 0 0) 2 0 [(0, .int x), (1, .int y)] [] (h) 0 0
  refine jm_iload_n X d_Math_min_0 rfl 0 rfl ?_
  refine jm_iload_n X d_Math_min_1 rfl 1 rfl ?_
  have J10_2 : ∀ (v10 : Int32), v10 = (if y < x then y else x : Int32) → jm_W p l e ({ frames := 0, cells := 0, slots := 0, locals := 0 }) s m ([.int x, .int y] : List Value).toArray below meth c S D jm_cl (jm_Q S D jm_cl below s (jm_R (some (.int (f_Math_min x y))) h) 0 0) 2 10 [(0, .int x), (1, .int y)] [.int v10] (h) 0 0 := by
    intro v10 ev10
    exact jm_iret X hr hk d_Math_min_10 ⟨(by show Outcome.returned _ = Outcome.returned _; unfold f_Math_min; subst ev10; rfl), rfl⟩
  refine jm_icmp_gt (tgt := 9) X d_Math_min_2 (by decide) (fun c1 => ?_) (fun c1 => ?_)
  · refine jm_iload_n X d_Math_min_9 rfl 1 rfl ?_
    exact J10_2 _ (by first | (simp only [if_pos c1, reduceIte]; done) | (with_reducible rfl))
  · refine jm_iload_n X d_Math_min_5 rfl 0 rfl ?_
    refine jm_goto (tgt := 10) X d_Math_min_6 (by decide) ?_
    exact J10_2 _ (by first | (simp only [if_neg c1, reduceIte]; done) | (with_reducible rfl))
def f_Math_max (x : Int32) (y : Int32) : Int32 :=
  let v10 : Int32 := if x < y then y else x
  v10
set_option maxRecDepth 20000 in
set_option maxHeartbeats 4000000 in
theorem k_Math_max {l : Launch} {S : State} {D : va_G} {dA : Nat → ClassId} (E : jm_en S D jm_cl (jm_ty dA) jm_G) (x : Int32) (y : Int32) (h : jm_H)    : jm_M l S D jm_cl y_Math_max (Cond.code y_Math_max b_Math_max 2 (some FieldType.int)) { frames := 0, cells := 0, slots := 0, locals := 0 } [.int x, .int y] h (jm_R (some (.int (f_Math_max x y))) h) 0 0 := by
  refine jm_ofWF E (by decide +kernel) (Nat.le_of_ble_eq_true rfl) (fun p e s m below meth c X hr hk hmn hout hadm => ?_)
  have X : jm_cx p s m ([.int x, .int y] : List Value).toArray c S D jm_cl (jm_ty dA) jm_G b_Math_max 2 "java/lang/Math" := X
  show jm_W p l e ({ frames := 0, cells := 0, slots := 0, locals := 0 }) s m ([.int x, .int y] : List Value).toArray below meth c S D jm_cl (jm_Q S D jm_cl below s (jm_R (some (.int (f_Math_max x y))) h) 0 0) 2 0 [(0, .int x), (1, .int y)] [] (h) 0 0
  refine jm_iload_n X d_Math_max_0 rfl 0 rfl ?_
  refine jm_iload_n X d_Math_max_1 rfl 1 rfl ?_
  have J10_2 : ∀ (v10 : Int32), v10 = (if x < y then y else x : Int32) → jm_W p l e ({ frames := 0, cells := 0, slots := 0, locals := 0 }) s m ([.int x, .int y] : List Value).toArray below meth c S D jm_cl (jm_Q S D jm_cl below s (jm_R (some (.int (f_Math_max x y))) h) 0 0) 2 10 [(0, .int x), (1, .int y)] [.int v10] (h) 0 0 := by
    intro v10 ev10
    exact jm_iret X hr hk d_Math_max_10 ⟨(by show Outcome.returned _ = Outcome.returned _; unfold f_Math_max; subst ev10; rfl), rfl⟩
  refine jm_icmp_lt (tgt := 9) X d_Math_max_2 (by decide) (fun c1 => ?_) (fun c1 => ?_)
  · refine jm_iload_n X d_Math_max_9 rfl 1 rfl ?_
    exact J10_2 _ (by first | (simp only [if_pos c1, reduceIte]; done) | (with_reducible rfl))
  · refine jm_iload_n X d_Math_max_5 rfl 0 rfl ?_
    refine jm_goto (tgt := 10) X d_Math_max_6 (by decide) ?_
    exact J10_2 _ (by first | (simp only [if_neg c1, reduceIte]; done) | (with_reducible rfl))
def f_Math_min2 (x : Int64) (y : Int64) : Int64 :=
  let v11 : Int64 := if y < x then y else x
  v11
set_option maxRecDepth 20000 in
set_option maxHeartbeats 4000000 in
theorem k_Math_min2 {l : Launch} {S : State} {D : va_G} {dA : Nat → ClassId} (E : jm_en S D jm_cl (jm_ty dA) jm_G) (x : Int64) (y : Int64) (h : jm_H)    : jm_M l S D jm_cl y_Math_min2 (Cond.code y_Math_min2 b_Math_min2 4 (some FieldType.long)) { frames := 0, cells := 0, slots := 0, locals := 0 } [.long x, .long y] h (jm_R (some (.long (f_Math_min2 x y))) h) 0 0 := by
  refine jm_ofWF E (by decide +kernel) (Nat.le_of_ble_eq_true rfl) (fun p e s m below meth c X hr hk hmn hout hadm => ?_)
  have X : jm_cx p s m ([.long x, .long y] : List Value).toArray c S D jm_cl (jm_ty dA) jm_G b_Math_min2 4 "java/lang/Math" := X
  show jm_W p l e ({ frames := 0, cells := 0, slots := 0, locals := 0 }) s m ([.long x, .long y] : List Value).toArray below meth c S D jm_cl (jm_Q S D jm_cl below s (jm_R (some (.long (f_Math_min2 x y))) h) 0 0) 4 0 [(0, .long x), (2, .long y)] [] (h) 0 0
  refine jm_lload_n X d_Math_min2_0 rfl 0 rfl ?_
  refine jm_lload_n X d_Math_min2_1 rfl 1 rfl ?_
  refine jm_lcmp X d_Math_min2_2 ?_
  have J11_2 : ∀ (v11 : Int64), v11 = (if y < x then y else x : Int64) → jm_W p l e ({ frames := 0, cells := 0, slots := 0, locals := 0 }) s m ([.long x, .long y] : List Value).toArray below meth c S D jm_cl (jm_Q S D jm_cl below s (jm_R (some (.long (f_Math_min2 x y))) h) 0 0) 4 11 [(0, .long x), (2, .long y)] [.long v11] (h) 0 0 := by
    intro v11 ev11
    exact jm_lret X hr hk d_Math_min2_11 ⟨(by show Outcome.returned _ = Outcome.returned _; unfold f_Math_min2; subst ev11; rfl), rfl⟩
  refine jm_lif_gt (tgt := 10) X d_Math_min2_3 (by decide) (fun c1 => ?_) (fun c1 => ?_)
  · refine jm_lload_n X d_Math_min2_10 rfl 1 rfl ?_
    exact J11_2 _ (by first | (simp only [if_pos c1, reduceIte]; done) | (with_reducible rfl))
  · refine jm_lload_n X d_Math_min2_6 rfl 0 rfl ?_
    refine jm_goto (tgt := 11) X d_Math_min2_7 (by decide) ?_
    exact J11_2 _ (by first | (simp only [if_neg c1, reduceIte]; done) | (with_reducible rfl))
def f_Math_max2 (x : Int64) (y : Int64) : Int64 :=
  let v11 : Int64 := if x < y then y else x
  v11
set_option maxRecDepth 20000 in
set_option maxHeartbeats 4000000 in
theorem k_Math_max2 {l : Launch} {S : State} {D : va_G} {dA : Nat → ClassId} (E : jm_en S D jm_cl (jm_ty dA) jm_G) (x : Int64) (y : Int64) (h : jm_H)    : jm_M l S D jm_cl y_Math_max2 (Cond.code y_Math_max2 b_Math_max2 4 (some FieldType.long)) { frames := 0, cells := 0, slots := 0, locals := 0 } [.long x, .long y] h (jm_R (some (.long (f_Math_max2 x y))) h) 0 0 := by
  refine jm_ofWF E (by decide +kernel) (Nat.le_of_ble_eq_true rfl) (fun p e s m below meth c X hr hk hmn hout hadm => ?_)
  have X : jm_cx p s m ([.long x, .long y] : List Value).toArray c S D jm_cl (jm_ty dA) jm_G b_Math_max2 4 "java/lang/Math" := X
  show jm_W p l e ({ frames := 0, cells := 0, slots := 0, locals := 0 }) s m ([.long x, .long y] : List Value).toArray below meth c S D jm_cl (jm_Q S D jm_cl below s (jm_R (some (.long (f_Math_max2 x y))) h) 0 0) 4 0 [(0, .long x), (2, .long y)] [] (h) 0 0
  refine jm_lload_n X d_Math_max2_0 rfl 0 rfl ?_
  refine jm_lload_n X d_Math_max2_1 rfl 1 rfl ?_
  refine jm_lcmp X d_Math_max2_2 ?_
  have J11_2 : ∀ (v11 : Int64), v11 = (if x < y then y else x : Int64) → jm_W p l e ({ frames := 0, cells := 0, slots := 0, locals := 0 }) s m ([.long x, .long y] : List Value).toArray below meth c S D jm_cl (jm_Q S D jm_cl below s (jm_R (some (.long (f_Math_max2 x y))) h) 0 0) 4 11 [(0, .long x), (2, .long y)] [.long v11] (h) 0 0 := by
    intro v11 ev11
    exact jm_lret X hr hk d_Math_max2_11 ⟨(by show Outcome.returned _ = Outcome.returned _; unfold f_Math_max2; subst ev11; rfl), rfl⟩
  refine jm_lif_lt (tgt := 10) X d_Math_max2_3 (by decide) (fun c1 => ?_) (fun c1 => ?_)
  · refine jm_lload_n X d_Math_max2_10 rfl 1 rfl ?_
    exact J11_2 _ (by first | (simp only [if_pos c1, reduceIte]; done) | (with_reducible rfl))
  · refine jm_lload_n X d_Math_max2_6 rfl 0 rfl ?_
    refine jm_goto (tgt := 11) X d_Math_max2_7 (by decide) ?_
    exact J11_2 _ (by first | (simp only [if_neg c1, reduceIte]; done) | (with_reducible rfl))
def f_Math_floorDiv (x : Int32) (y : Int32) : Int32 :=
  if 0 ≤ (x ^^^ y) then (x / y) else (if ((x / y) * y) = x then (x / y) else ((x / y) - 1))
set_option maxRecDepth 20000 in
set_option maxHeartbeats 4000000 in
theorem k_Math_floorDiv {l : Launch} {S : State} {D : va_G} {dA : Nat → ClassId} (E : jm_en S D jm_cl (jm_ty dA) jm_G) (x : Int32) (y : Int32) (h : jm_H)   (p0 : ¬ y = 0) : jm_M l S D jm_cl y_Math_floorDiv (Cond.code y_Math_floorDiv b_Math_floorDiv 3 (some FieldType.int)) { frames := 0, cells := 0, slots := 0, locals := 0 } [.int x, .int y] h (jm_R (some (.int (f_Math_floorDiv x y))) h) 0 0 := by
  refine jm_ofWF E (by decide +kernel) (Nat.le_of_ble_eq_true rfl) (fun p e s m below meth c X hr hk hmn hout hadm => ?_)
  have X : jm_cx p s m ([.int x, .int y] : List Value).toArray c S D jm_cl (jm_ty dA) jm_G b_Math_floorDiv 3 "java/lang/Math" := X
  show jm_W p l e ({ frames := 0, cells := 0, slots := 0, locals := 0 }) s m ([.int x, .int y] : List Value).toArray below meth c S D jm_cl (jm_Q S D jm_cl below s (jm_R (some (.int (f_Math_floorDiv x y))) h) 0 0) 3 0 [(0, .int x), (1, .int y)] [] (h) 0 0
  refine jm_iload_n X d_Math_floorDiv_0 rfl 0 rfl ?_
  refine jm_iload_n X d_Math_floorDiv_1 rfl 1 rfl ?_
  refine jm_idiv X d_Math_floorDiv_2 (by with_reducible assumption) ?_
  refine jm_istore_n X d_Math_floorDiv_3 rfl (by decide) (lv1 := [(2, .int (x / y)), (0, .int x), (1, .int y)]) rfl ?_
  refine jm_iload_n X d_Math_floorDiv_4 rfl 1 rfl ?_
  refine jm_iload_n X d_Math_floorDiv_5 rfl 2 rfl ?_
  refine jm_ixor X d_Math_floorDiv_6 ?_
  refine jm_if_ge (tgt := 21) X d_Math_floorDiv_7 (by decide) (fun c1 => ?_) (fun c1 => ?_)
  · refine jm_iload_n X d_Math_floorDiv_21 rfl 0 rfl ?_
    exact jm_iret X hr hk d_Math_floorDiv_22 ⟨(by show Outcome.returned _ = Outcome.returned _; unfold f_Math_floorDiv; first | (simp only [if_pos c1, reduceIte]; done) | (simp only [if_pos c1, reduceIte]; rfl) | rfl), rfl⟩
  · refine jm_iload_n X d_Math_floorDiv_10 rfl 0 rfl ?_
    refine jm_iload_n X d_Math_floorDiv_11 rfl 2 rfl ?_
    refine jm_imul X d_Math_floorDiv_12 ?_
    refine jm_iload_n X d_Math_floorDiv_13 rfl 1 rfl ?_
    refine jm_icmp_eq (tgt := 21) X d_Math_floorDiv_14 (by decide) (fun c2 => ?_) (fun c2 => ?_)
    · refine jm_iload_n X d_Math_floorDiv_21 rfl 0 rfl ?_
      exact jm_iret X hr hk d_Math_floorDiv_22 ⟨(by show Outcome.returned _ = Outcome.returned _; unfold f_Math_floorDiv; first | (simp only [if_neg c1, if_pos c2, reduceIte]; done) | (simp only [if_neg c1, if_pos c2, reduceIte]; rfl) | rfl), rfl⟩
    · refine jm_iload_n X d_Math_floorDiv_17 rfl 0 rfl ?_
      refine jm_iconst (v := 1) X d_Math_floorDiv_18 (by decide) ?_
      refine jm_isub X d_Math_floorDiv_19 ?_
      exact jm_iret X hr hk d_Math_floorDiv_20 ⟨(by show Outcome.returned _ = Outcome.returned _; unfold f_Math_floorDiv; first | (simp only [if_neg c1, if_neg c2, reduceIte]; done) | (simp only [if_neg c1, if_neg c2, reduceIte]; rfl) | rfl), rfl⟩
def f_Math_floorMod (x : Int32) (y : Int32) : Int32 :=
  if 0 ≤ (x ^^^ y) then (x - x / y * y) else (if (x - x / y * y) = 0 then (x - x / y * y) else ((x - x / y * y) + y))
set_option maxRecDepth 20000 in
set_option maxHeartbeats 4000000 in
theorem k_Math_floorMod {l : Launch} {S : State} {D : va_G} {dA : Nat → ClassId} (E : jm_en S D jm_cl (jm_ty dA) jm_G) (x : Int32) (y : Int32) (h : jm_H)   (p0 : ¬ y = 0) : jm_M l S D jm_cl y_Math_floorMod (Cond.code y_Math_floorMod b_Math_floorMod 3 (some FieldType.int)) { frames := 0, cells := 0, slots := 0, locals := 0 } [.int x, .int y] h (jm_R (some (.int (f_Math_floorMod x y))) h) 0 0 := by
  refine jm_ofWF E (by decide +kernel) (Nat.le_of_ble_eq_true rfl) (fun p e s m below meth c X hr hk hmn hout hadm => ?_)
  have X : jm_cx p s m ([.int x, .int y] : List Value).toArray c S D jm_cl (jm_ty dA) jm_G b_Math_floorMod 3 "java/lang/Math" := X
  show jm_W p l e ({ frames := 0, cells := 0, slots := 0, locals := 0 }) s m ([.int x, .int y] : List Value).toArray below meth c S D jm_cl (jm_Q S D jm_cl below s (jm_R (some (.int (f_Math_floorMod x y))) h) 0 0) 3 0 [(0, .int x), (1, .int y)] [] (h) 0 0
  refine jm_iload_n X d_Math_floorMod_0 rfl 0 rfl ?_
  refine jm_iload_n X d_Math_floorMod_1 rfl 1 rfl ?_
  refine jm_irem X d_Math_floorMod_2 (by with_reducible assumption) ?_
  refine jm_istore_n X d_Math_floorMod_3 rfl (by decide) (lv1 := [(2, .int (x - x / y * y)), (0, .int x), (1, .int y)]) rfl ?_
  refine jm_iload_n X d_Math_floorMod_4 rfl 1 rfl ?_
  refine jm_iload_n X d_Math_floorMod_5 rfl 2 rfl ?_
  refine jm_ixor X d_Math_floorMod_6 ?_
  refine jm_if_ge (tgt := 18) X d_Math_floorMod_7 (by decide) (fun c1 => ?_) (fun c1 => ?_)
  · refine jm_iload_n X d_Math_floorMod_18 rfl 0 rfl ?_
    exact jm_iret X hr hk d_Math_floorMod_19 ⟨(by show Outcome.returned _ = Outcome.returned _; unfold f_Math_floorMod; first | (simp only [if_pos c1, reduceIte]; done) | (simp only [if_pos c1, reduceIte]; rfl) | rfl), rfl⟩
  · refine jm_iload_n X d_Math_floorMod_10 rfl 0 rfl ?_
    refine jm_if_eq (tgt := 18) X d_Math_floorMod_11 (by decide) (fun c2 => ?_) (fun c2 => ?_)
    · refine jm_iload_n X d_Math_floorMod_18 rfl 0 rfl ?_
      exact jm_iret X hr hk d_Math_floorMod_19 ⟨(by show Outcome.returned _ = Outcome.returned _; unfold f_Math_floorMod; first | (simp only [if_neg c1, if_pos c2, reduceIte]; done) | (simp only [if_neg c1, if_pos c2, reduceIte]; rfl) | rfl), rfl⟩
    · refine jm_iload_n X d_Math_floorMod_14 rfl 0 rfl ?_
      refine jm_iload_n X d_Math_floorMod_15 rfl 2 rfl ?_
      refine jm_iadd X d_Math_floorMod_16 ?_
      exact jm_iret X hr hk d_Math_floorMod_17 ⟨(by show Outcome.returned _ = Outcome.returned _; unfold f_Math_floorMod; first | (simp only [if_neg c1, if_neg c2, reduceIte]; done) | (simp only [if_neg c1, if_neg c2, reduceIte]; rfl) | rfl), rfl⟩
def f_Math_floorDiv2 (x : Int64) (y : Int64) : Int64 :=
  if ((0 : Int64)) ≤ (x ^^^ y) then (x / y) else (if ((x / y) * y) = x then (x / y) else ((x / y) - 1))
set_option maxRecDepth 20000 in
set_option maxHeartbeats 4000000 in
theorem k_Math_floorDiv2 {l : Launch} {S : State} {D : va_G} {dA : Nat → ClassId} (E : jm_en S D jm_cl (jm_ty dA) jm_G) (x : Int64) (y : Int64) (h : jm_H)   (p0 : ¬ y = 0) : jm_M l S D jm_cl y_Math_floorDiv2 (Cond.code y_Math_floorDiv2 b_Math_floorDiv2 6 (some FieldType.long)) { frames := 0, cells := 0, slots := 0, locals := 0 } [.long x, .long y] h (jm_R (some (.long (f_Math_floorDiv2 x y))) h) 0 0 := by
  refine jm_ofWF E (by decide +kernel) (Nat.le_of_ble_eq_true rfl) (fun p e s m below meth c X hr hk hmn hout hadm => ?_)
  have X : jm_cx p s m ([.long x, .long y] : List Value).toArray c S D jm_cl (jm_ty dA) jm_G b_Math_floorDiv2 6 "java/lang/Math" := X
  show jm_W p l e ({ frames := 0, cells := 0, slots := 0, locals := 0 }) s m ([.long x, .long y] : List Value).toArray below meth c S D jm_cl (jm_Q S D jm_cl below s (jm_R (some (.long (f_Math_floorDiv2 x y))) h) 0 0) 6 0 [(0, .long x), (2, .long y)] [] (h) 0 0
  refine jm_lload_n X d_Math_floorDiv2_0 rfl 0 rfl ?_
  refine jm_lload_n X d_Math_floorDiv2_1 rfl 1 rfl ?_
  refine jm_ldiv X d_Math_floorDiv2_2 (by with_reducible assumption) ?_
  refine jm_lstore X d_Math_floorDiv2_3 (by decide) (lv1 := [(4, .long (x / y)), (0, .long x), (2, .long y)]) rfl ?_
  refine jm_lload_n X d_Math_floorDiv2_5 rfl 1 rfl ?_
  refine jm_lload_n X d_Math_floorDiv2_6 rfl 2 rfl ?_
  refine jm_lxor X d_Math_floorDiv2_7 ?_
  refine jm_lconst (v := 0) X d_Math_floorDiv2_8 (by decide) ?_
  refine jm_lcmp X d_Math_floorDiv2_9 ?_
  refine jm_lif_ge (tgt := 27) X d_Math_floorDiv2_10 (by decide) (fun c1 => ?_) (fun c1 => ?_)
  · refine jm_lload X d_Math_floorDiv2_27 0 rfl ?_
    exact jm_lret X hr hk d_Math_floorDiv2_29 ⟨(by show Outcome.returned _ = Outcome.returned _; unfold f_Math_floorDiv2; first | (simp only [if_pos c1, reduceIte]; done) | (simp only [if_pos c1, reduceIte]; rfl) | rfl), rfl⟩
  · refine jm_lload X d_Math_floorDiv2_13 0 rfl ?_
    refine jm_lload_n X d_Math_floorDiv2_15 rfl 2 rfl ?_
    refine jm_lmul X d_Math_floorDiv2_16 ?_
    refine jm_lload_n X d_Math_floorDiv2_17 rfl 1 rfl ?_
    refine jm_lcmp X d_Math_floorDiv2_18 ?_
    refine jm_lif_eq (tgt := 27) X d_Math_floorDiv2_19 (by decide) (fun c2 => ?_) (fun c2 => ?_)
    · refine jm_lload X d_Math_floorDiv2_27 0 rfl ?_
      exact jm_lret X hr hk d_Math_floorDiv2_29 ⟨(by show Outcome.returned _ = Outcome.returned _; unfold f_Math_floorDiv2; first | (simp only [if_neg c1, if_pos c2, reduceIte]; done) | (simp only [if_neg c1, if_pos c2, reduceIte]; rfl) | rfl), rfl⟩
    · refine jm_lload X d_Math_floorDiv2_22 0 rfl ?_
      refine jm_lconst (v := 1) X d_Math_floorDiv2_24 (by decide) ?_
      refine jm_lsub X d_Math_floorDiv2_25 ?_
      exact jm_lret X hr hk d_Math_floorDiv2_26 ⟨(by show Outcome.returned _ = Outcome.returned _; unfold f_Math_floorDiv2; first | (simp only [if_neg c1, if_neg c2, reduceIte]; done) | (simp only [if_neg c1, if_neg c2, reduceIte]; rfl) | rfl), rfl⟩
def f_Math_floorMod2 (x : Int64) (y : Int64) : Int64 :=
  if ((0 : Int64)) ≤ (x ^^^ y) then (x - x / y * y) else (if (x - x / y * y) = 0 then (x - x / y * y) else ((x - x / y * y) + y))
set_option maxRecDepth 20000 in
set_option maxHeartbeats 4000000 in
theorem k_Math_floorMod2 {l : Launch} {S : State} {D : va_G} {dA : Nat → ClassId} (E : jm_en S D jm_cl (jm_ty dA) jm_G) (x : Int64) (y : Int64) (h : jm_H)   (p0 : ¬ y = 0) : jm_M l S D jm_cl y_Math_floorMod2 (Cond.code y_Math_floorMod2 b_Math_floorMod2 6 (some FieldType.long)) { frames := 0, cells := 0, slots := 0, locals := 0 } [.long x, .long y] h (jm_R (some (.long (f_Math_floorMod2 x y))) h) 0 0 := by
  refine jm_ofWF E (by decide +kernel) (Nat.le_of_ble_eq_true rfl) (fun p e s m below meth c X hr hk hmn hout hadm => ?_)
  have X : jm_cx p s m ([.long x, .long y] : List Value).toArray c S D jm_cl (jm_ty dA) jm_G b_Math_floorMod2 6 "java/lang/Math" := X
  show jm_W p l e ({ frames := 0, cells := 0, slots := 0, locals := 0 }) s m ([.long x, .long y] : List Value).toArray below meth c S D jm_cl (jm_Q S D jm_cl below s (jm_R (some (.long (f_Math_floorMod2 x y))) h) 0 0) 6 0 [(0, .long x), (2, .long y)] [] (h) 0 0
  refine jm_lload_n X d_Math_floorMod2_0 rfl 0 rfl ?_
  refine jm_lload_n X d_Math_floorMod2_1 rfl 1 rfl ?_
  refine jm_lrem X d_Math_floorMod2_2 (by with_reducible assumption) ?_
  refine jm_lstore X d_Math_floorMod2_3 (by decide) (lv1 := [(4, .long (x - x / y * y)), (0, .long x), (2, .long y)]) rfl ?_
  refine jm_lload_n X d_Math_floorMod2_5 rfl 1 rfl ?_
  refine jm_lload_n X d_Math_floorMod2_6 rfl 2 rfl ?_
  refine jm_lxor X d_Math_floorMod2_7 ?_
  refine jm_lconst (v := 0) X d_Math_floorMod2_8 (by decide) ?_
  refine jm_lcmp X d_Math_floorMod2_9 ?_
  refine jm_lif_ge (tgt := 25) X d_Math_floorMod2_10 (by decide) (fun c1 => ?_) (fun c1 => ?_)
  · refine jm_lload X d_Math_floorMod2_25 0 rfl ?_
    exact jm_lret X hr hk d_Math_floorMod2_27 ⟨(by show Outcome.returned _ = Outcome.returned _; unfold f_Math_floorMod2; first | (simp only [if_pos c1, reduceIte]; done) | (simp only [if_pos c1, reduceIte]; rfl) | rfl), rfl⟩
  · refine jm_lload X d_Math_floorMod2_13 0 rfl ?_
    refine jm_lconst (v := 0) X d_Math_floorMod2_15 (by decide) ?_
    refine jm_lcmp X d_Math_floorMod2_16 ?_
    refine jm_lif_eq (tgt := 25) X d_Math_floorMod2_17 (by decide) (fun c2 => ?_) (fun c2 => ?_)
    · refine jm_lload X d_Math_floorMod2_25 0 rfl ?_
      exact jm_lret X hr hk d_Math_floorMod2_27 ⟨(by show Outcome.returned _ = Outcome.returned _; unfold f_Math_floorMod2; first | (simp only [if_neg c1, if_pos c2, reduceIte]; done) | (simp only [if_neg c1, if_pos c2, reduceIte]; rfl) | rfl), rfl⟩
    · refine jm_lload X d_Math_floorMod2_20 0 rfl ?_
      refine jm_lload_n X d_Math_floorMod2_22 rfl 2 rfl ?_
      refine jm_ladd X d_Math_floorMod2_23 ?_
      exact jm_lret X hr hk d_Math_floorMod2_24 ⟨(by show Outcome.returned _ = Outcome.returned _; unfold f_Math_floorMod2; first | (simp only [if_neg c1, if_neg c2, reduceIte]; done) | (simp only [if_neg c1, if_neg c2, reduceIte]; rfl) | rfl), rfl⟩
def f_Long_bitCount (x : Int64) : Int32 :=
  let w9 : Int64 := x - ((((x : Int64).toUInt64 >>> ((1 : Int32).toInt64.toUInt64 &&& Int64.toUInt64 63)).toInt64) &&& 6148914691236517205)
  let w23 : Int64 := (w9 &&& 3689348814741910323) + ((((w9 : Int64).toUInt64 >>> ((2 : Int32).toInt64.toUInt64 &&& Int64.toUInt64 63)).toInt64) &&& 3689348814741910323)
  let w33 : Int64 := (w23 + (((w23 : Int64).toUInt64 >>> ((4 : Int32).toInt64.toUInt64 &&& Int64.toUInt64 63)).toInt64)) &&& 1085102592571150095
  let w40 : Int64 := w33 + (((w33 : Int64).toUInt64 >>> ((8 : Int32).toInt64.toUInt64 &&& Int64.toUInt64 63)).toInt64)
  let w47 : Int64 := w40 + (((w40 : Int64).toUInt64 >>> ((16 : Int32).toInt64.toUInt64 &&& Int64.toUInt64 63)).toInt64)
  let w54 : Int64 := w47 + (((w47 : Int64).toUInt64 >>> ((32 : Int32).toInt64.toUInt64 &&& Int64.toUInt64 63)).toInt64)
  ((w54 : Int64).toInt32) &&& 127
set_option maxRecDepth 20000 in
set_option maxHeartbeats 4000000 in
theorem k_Long_bitCount {l : Launch} {S : State} {D : va_G} {dA : Nat → ClassId} (E : jm_en S D jm_cl (jm_ty dA) jm_G) (x : Int64) (h : jm_H)    : jm_M l S D jm_cl y_Long_bitCount (Cond.code y_Long_bitCount b_Long_bitCount 2 (some FieldType.int)) { frames := 0, cells := 0, slots := 0, locals := 0 } [.long x] h (jm_R (some (.int (f_Long_bitCount x))) h) 0 0 := by
  refine jm_ofWF E (by decide +kernel) (Nat.le_of_ble_eq_true rfl) (fun p e s m below meth c X hr hk hmn hout hadm => ?_)
  have X : jm_cx p s m ([.long x] : List Value).toArray c S D jm_cl (jm_ty dA) jm_G b_Long_bitCount 2 "java/lang/Long" := X
  show jm_W p l e ({ frames := 0, cells := 0, slots := 0, locals := 0 }) s m ([.long x] : List Value).toArray below meth c S D jm_cl (jm_Q S D jm_cl below s (jm_R (some (.int (f_Long_bitCount x))) h) 0 0) 2 0 [(0, .long x)] [] (h) 0 0
  refine jm_lload_n X d_Long_bitCount_0 rfl 0 rfl ?_
  refine jm_lload_n X d_Long_bitCount_1 rfl 0 rfl ?_
  refine jm_iconst (v := 1) X d_Long_bitCount_2 (by decide) ?_
  refine jm_lushr X d_Long_bitCount_3 ?_
  refine jm_ldc2 (v := 6148914691236517205) X d_Long_bitCount_4 (jm_g4 60 rfl rfl) ?_
  refine jm_land X d_Long_bitCount_7 ?_
  refine jm_lsub X d_Long_bitCount_8 ?_
  refine jm_topl (fun w9 ew9 => ?_)
  refine jm_lstore_n X d_Long_bitCount_9 rfl (by decide) (lv1 := [(0, .long w9)]) rfl ?_
  refine jm_lload_n X d_Long_bitCount_10 rfl 0 rfl ?_
  refine jm_ldc2 (v := 3689348814741910323) X d_Long_bitCount_11 (jm_g4 61 rfl rfl) ?_
  refine jm_land X d_Long_bitCount_14 ?_
  refine jm_lload_n X d_Long_bitCount_15 rfl 0 rfl ?_
  refine jm_iconst (v := 2) X d_Long_bitCount_16 (by decide) ?_
  refine jm_lushr X d_Long_bitCount_17 ?_
  refine jm_ldc2 (v := 3689348814741910323) X d_Long_bitCount_18 (jm_g4 61 rfl rfl) ?_
  refine jm_land X d_Long_bitCount_21 ?_
  refine jm_ladd X d_Long_bitCount_22 ?_
  refine jm_topl (fun w23 ew23 => ?_)
  refine jm_lstore_n X d_Long_bitCount_23 rfl (by decide) (lv1 := [(0, .long w23)]) rfl ?_
  refine jm_lload_n X d_Long_bitCount_24 rfl 0 rfl ?_
  refine jm_lload_n X d_Long_bitCount_25 rfl 0 rfl ?_
  refine jm_iconst (v := 4) X d_Long_bitCount_26 (by decide) ?_
  refine jm_lushr X d_Long_bitCount_27 ?_
  refine jm_ladd X d_Long_bitCount_28 ?_
  refine jm_ldc2 (v := 1085102592571150095) X d_Long_bitCount_29 (jm_g4 62 rfl rfl) ?_
  refine jm_land X d_Long_bitCount_32 ?_
  refine jm_topl (fun w33 ew33 => ?_)
  refine jm_lstore_n X d_Long_bitCount_33 rfl (by decide) (lv1 := [(0, .long w33)]) rfl ?_
  refine jm_lload_n X d_Long_bitCount_34 rfl 0 rfl ?_
  refine jm_lload_n X d_Long_bitCount_35 rfl 0 rfl ?_
  refine jm_bipush (v := 8) X d_Long_bitCount_36 (by decide) ?_
  refine jm_lushr X d_Long_bitCount_38 ?_
  refine jm_ladd X d_Long_bitCount_39 ?_
  refine jm_topl (fun w40 ew40 => ?_)
  refine jm_lstore_n X d_Long_bitCount_40 rfl (by decide) (lv1 := [(0, .long w40)]) rfl ?_
  refine jm_lload_n X d_Long_bitCount_41 rfl 0 rfl ?_
  refine jm_lload_n X d_Long_bitCount_42 rfl 0 rfl ?_
  refine jm_bipush (v := 16) X d_Long_bitCount_43 (by decide) ?_
  refine jm_lushr X d_Long_bitCount_45 ?_
  refine jm_ladd X d_Long_bitCount_46 ?_
  refine jm_topl (fun w47 ew47 => ?_)
  refine jm_lstore_n X d_Long_bitCount_47 rfl (by decide) (lv1 := [(0, .long w47)]) rfl ?_
  refine jm_lload_n X d_Long_bitCount_48 rfl 0 rfl ?_
  refine jm_lload_n X d_Long_bitCount_49 rfl 0 rfl ?_
  refine jm_bipush (v := 32) X d_Long_bitCount_50 (by decide) ?_
  refine jm_lushr X d_Long_bitCount_52 ?_
  refine jm_ladd X d_Long_bitCount_53 ?_
  refine jm_topl (fun w54 ew54 => ?_)
  refine jm_lstore_n X d_Long_bitCount_54 rfl (by decide) (lv1 := [(0, .long w54)]) rfl ?_
  refine jm_lload_n X d_Long_bitCount_55 rfl 0 rfl ?_
  refine jm_l2i X d_Long_bitCount_56 ?_
  refine jm_bipush (v := 127) X d_Long_bitCount_57 (by decide) ?_
  refine jm_iand X d_Long_bitCount_59 ?_
  exact jm_iret X hr hk d_Long_bitCount_60 ⟨(by show Outcome.returned _ = Outcome.returned _; unfold f_Long_bitCount; subst ew54; subst ew47; subst ew40; subst ew33; subst ew23; subst ew9; rfl), rfl⟩
end
section
def y_D_firstOfMonth : MethodName := ⟨"JobHouse$Dates", "firstOfMonth", "(II)I"⟩
abbrev b_D_firstOfMonth : ByteArray := prog_4_method_2_code
theorem d_D_firstOfMonth_0 : decode b_D_firstOfMonth 0 = .ok (.iload_n 1, 1) := by decide +kernel
theorem d_D_firstOfMonth_1 : decode b_D_firstOfMonth 1 = .ok (.iconst 2, 1) := by decide +kernel
theorem d_D_firstOfMonth_2 : decode b_D_firstOfMonth 2 = .ok (.if_icmp .le 7, 3) := by decide +kernel
theorem d_D_firstOfMonth_5 : decode b_D_firstOfMonth 5 = .ok (.iload_n 0, 1) := by decide +kernel
theorem d_D_firstOfMonth_6 : decode b_D_firstOfMonth 6 = .ok (.goto 6, 3) := by decide +kernel
theorem d_D_firstOfMonth_9 : decode b_D_firstOfMonth 9 = .ok (.iload_n 0, 1) := by decide +kernel
theorem d_D_firstOfMonth_10 : decode b_D_firstOfMonth 10 = .ok (.iconst 1, 1) := by decide +kernel
theorem d_D_firstOfMonth_11 : decode b_D_firstOfMonth 11 = .ok (.isub, 1) := by decide +kernel
theorem d_D_firstOfMonth_12 : decode b_D_firstOfMonth 12 = .ok (.istore_n 2, 1) := by decide +kernel
theorem d_D_firstOfMonth_13 : decode b_D_firstOfMonth 13 = .ok (.iload_n 1, 1) := by decide +kernel
theorem d_D_firstOfMonth_14 : decode b_D_firstOfMonth 14 = .ok (.iconst 2, 1) := by decide +kernel
theorem d_D_firstOfMonth_15 : decode b_D_firstOfMonth 15 = .ok (.if_icmp .le 9, 3) := by decide +kernel
theorem d_D_firstOfMonth_18 : decode b_D_firstOfMonth 18 = .ok (.iload_n 1, 1) := by decide +kernel
theorem d_D_firstOfMonth_19 : decode b_D_firstOfMonth 19 = .ok (.iconst 3, 1) := by decide +kernel
theorem d_D_firstOfMonth_20 : decode b_D_firstOfMonth 20 = .ok (.isub, 1) := by decide +kernel
theorem d_D_firstOfMonth_21 : decode b_D_firstOfMonth 21 = .ok (.goto 7, 3) := by decide +kernel
theorem d_D_firstOfMonth_24 : decode b_D_firstOfMonth 24 = .ok (.iload_n 1, 1) := by decide +kernel
theorem d_D_firstOfMonth_25 : decode b_D_firstOfMonth 25 = .ok (.bipush 9, 2) := by decide +kernel
theorem d_D_firstOfMonth_27 : decode b_D_firstOfMonth 27 = .ok (.iadd, 1) := by decide +kernel
theorem d_D_firstOfMonth_28 : decode b_D_firstOfMonth 28 = .ok (.istore_n 3, 1) := by decide +kernel
theorem d_D_firstOfMonth_29 : decode b_D_firstOfMonth 29 = .ok (.iload_n 2, 1) := by decide +kernel
theorem d_D_firstOfMonth_30 : decode b_D_firstOfMonth 30 = .ok (.iconst 4, 1) := by decide +kernel
theorem d_D_firstOfMonth_31 : decode b_D_firstOfMonth 31 = .ok (.idiv, 1) := by decide +kernel
theorem d_D_firstOfMonth_32 : decode b_D_firstOfMonth 32 = .ok (.iload_n 2, 1) := by decide +kernel
theorem d_D_firstOfMonth_33 : decode b_D_firstOfMonth 33 = .ok (.bipush 100, 2) := by decide +kernel
theorem d_D_firstOfMonth_35 : decode b_D_firstOfMonth 35 = .ok (.idiv, 1) := by decide +kernel
theorem d_D_firstOfMonth_36 : decode b_D_firstOfMonth 36 = .ok (.isub, 1) := by decide +kernel
theorem d_D_firstOfMonth_37 : decode b_D_firstOfMonth 37 = .ok (.iload_n 2, 1) := by decide +kernel
theorem d_D_firstOfMonth_38 : decode b_D_firstOfMonth 38 = .ok (.sipush 400, 3) := by decide +kernel
theorem d_D_firstOfMonth_41 : decode b_D_firstOfMonth 41 = .ok (.idiv, 1) := by decide +kernel
theorem d_D_firstOfMonth_42 : decode b_D_firstOfMonth 42 = .ok (.iadd, 1) := by decide +kernel
theorem d_D_firstOfMonth_43 : decode b_D_firstOfMonth 43 = .ok (.istore 4, 2) := by decide +kernel
theorem d_D_firstOfMonth_45 : decode b_D_firstOfMonth 45 = .ok (.sipush 365, 3) := by decide +kernel
theorem d_D_firstOfMonth_48 : decode b_D_firstOfMonth 48 = .ok (.iload_n 2, 1) := by decide +kernel
theorem d_D_firstOfMonth_49 : decode b_D_firstOfMonth 49 = .ok (.imul, 1) := by decide +kernel
theorem d_D_firstOfMonth_50 : decode b_D_firstOfMonth 50 = .ok (.iload 4, 2) := by decide +kernel
theorem d_D_firstOfMonth_52 : decode b_D_firstOfMonth 52 = .ok (.iadd, 1) := by decide +kernel
theorem d_D_firstOfMonth_53 : decode b_D_firstOfMonth 53 = .ok (.sipush 153, 3) := by decide +kernel
theorem d_D_firstOfMonth_56 : decode b_D_firstOfMonth 56 = .ok (.iload_n 3, 1) := by decide +kernel
theorem d_D_firstOfMonth_57 : decode b_D_firstOfMonth 57 = .ok (.imul, 1) := by decide +kernel
theorem d_D_firstOfMonth_58 : decode b_D_firstOfMonth 58 = .ok (.iconst 2, 1) := by decide +kernel
theorem d_D_firstOfMonth_59 : decode b_D_firstOfMonth 59 = .ok (.iadd, 1) := by decide +kernel
theorem d_D_firstOfMonth_60 : decode b_D_firstOfMonth 60 = .ok (.iconst 5, 1) := by decide +kernel
theorem d_D_firstOfMonth_61 : decode b_D_firstOfMonth 61 = .ok (.idiv, 1) := by decide +kernel
theorem d_D_firstOfMonth_62 : decode b_D_firstOfMonth 62 = .ok (.iadd, 1) := by decide +kernel
theorem d_D_firstOfMonth_63 : decode b_D_firstOfMonth 63 = .ok (.ldc 9, 2) := by decide +kernel
theorem d_D_firstOfMonth_65 : decode b_D_firstOfMonth 65 = .ok (.isub, 1) := by decide +kernel
theorem d_D_firstOfMonth_66 : decode b_D_firstOfMonth 66 = .ok (.ireturn, 1) := by decide +kernel
theorem ci_D_firstOfMonth : jm_ci jm_G y_D_firstOfMonth (Cond.code y_D_firstOfMonth b_D_firstOfMonth 5 (some FieldType.int)) 5 2 := ⟨jm_g3 211 rfl rfl, Or.inl ⟨_, _, rfl⟩, jm_g1 24 rfl rfl, ⟨by decide, by decide⟩, by decide +kernel⟩
theorem st_D_firstOfMonth : Cond.static y_D_firstOfMonth ∈ jm_G := jm_g3 210 rfl rfl
def y_D_monthLength : MethodName := ⟨"JobHouse$Dates", "monthLength", "(II)I"⟩
abbrev b_D_monthLength : ByteArray := prog_4_method_3_code
theorem d_D_monthLength_0 : decode b_D_monthLength 0 = .ok (.iload_n 1, 1) := by decide +kernel
theorem d_D_monthLength_1 : decode b_D_monthLength 1 = .ok (.iconst 2, 1) := by decide +kernel
theorem d_D_monthLength_2 : decode b_D_monthLength 2 = .ok (.if_icmp .ne 42, 3) := by decide +kernel
theorem d_D_monthLength_5 : decode b_D_monthLength 5 = .ok (.iload_n 0, 1) := by decide +kernel
theorem d_D_monthLength_6 : decode b_D_monthLength 6 = .ok (.iconst 4, 1) := by decide +kernel
theorem d_D_monthLength_7 : decode b_D_monthLength 7 = .ok (.irem, 1) := by decide +kernel
theorem d_D_monthLength_8 : decode b_D_monthLength 8 = .ok (.ifCond .ne 22, 3) := by decide +kernel
theorem d_D_monthLength_11 : decode b_D_monthLength 11 = .ok (.iload_n 0, 1) := by decide +kernel
theorem d_D_monthLength_12 : decode b_D_monthLength 12 = .ok (.bipush 100, 2) := by decide +kernel
theorem d_D_monthLength_14 : decode b_D_monthLength 14 = .ok (.irem, 1) := by decide +kernel
theorem d_D_monthLength_15 : decode b_D_monthLength 15 = .ok (.ifCond .ne 11, 3) := by decide +kernel
theorem d_D_monthLength_18 : decode b_D_monthLength 18 = .ok (.iload_n 0, 1) := by decide +kernel
theorem d_D_monthLength_19 : decode b_D_monthLength 19 = .ok (.sipush 400, 3) := by decide +kernel
theorem d_D_monthLength_22 : decode b_D_monthLength 22 = .ok (.irem, 1) := by decide +kernel
theorem d_D_monthLength_23 : decode b_D_monthLength 23 = .ok (.ifCond .ne 7, 3) := by decide +kernel
theorem d_D_monthLength_26 : decode b_D_monthLength 26 = .ok (.iconst 1, 1) := by decide +kernel
theorem d_D_monthLength_27 : decode b_D_monthLength 27 = .ok (.goto 4, 3) := by decide +kernel
theorem d_D_monthLength_30 : decode b_D_monthLength 30 = .ok (.iconst 0, 1) := by decide +kernel
theorem d_D_monthLength_31 : decode b_D_monthLength 31 = .ok (.istore_n 2, 1) := by decide +kernel
theorem d_D_monthLength_32 : decode b_D_monthLength 32 = .ok (.iload_n 2, 1) := by decide +kernel
theorem d_D_monthLength_33 : decode b_D_monthLength 33 = .ok (.ifCond .eq 8, 3) := by decide +kernel
theorem d_D_monthLength_36 : decode b_D_monthLength 36 = .ok (.bipush 29, 2) := by decide +kernel
theorem d_D_monthLength_38 : decode b_D_monthLength 38 = .ok (.goto 5, 3) := by decide +kernel
theorem d_D_monthLength_41 : decode b_D_monthLength 41 = .ok (.bipush 28, 2) := by decide +kernel
theorem d_D_monthLength_43 : decode b_D_monthLength 43 = .ok (.ireturn, 1) := by decide +kernel
theorem d_D_monthLength_44 : decode b_D_monthLength 44 = .ok (.iload_n 1, 1) := by decide +kernel
theorem d_D_monthLength_45 : decode b_D_monthLength 45 = .ok (.iconst 4, 1) := by decide +kernel
theorem d_D_monthLength_46 : decode b_D_monthLength 46 = .ok (.if_icmp .eq 21, 3) := by decide +kernel
theorem d_D_monthLength_49 : decode b_D_monthLength 49 = .ok (.iload_n 1, 1) := by decide +kernel
theorem d_D_monthLength_50 : decode b_D_monthLength 50 = .ok (.bipush 6, 2) := by decide +kernel
theorem d_D_monthLength_52 : decode b_D_monthLength 52 = .ok (.if_icmp .eq 15, 3) := by decide +kernel
theorem d_D_monthLength_55 : decode b_D_monthLength 55 = .ok (.iload_n 1, 1) := by decide +kernel
theorem d_D_monthLength_56 : decode b_D_monthLength 56 = .ok (.bipush 9, 2) := by decide +kernel
theorem d_D_monthLength_58 : decode b_D_monthLength 58 = .ok (.if_icmp .eq 9, 3) := by decide +kernel
theorem d_D_monthLength_61 : decode b_D_monthLength 61 = .ok (.iload_n 1, 1) := by decide +kernel
theorem d_D_monthLength_62 : decode b_D_monthLength 62 = .ok (.bipush 11, 2) := by decide +kernel
theorem d_D_monthLength_64 : decode b_D_monthLength 64 = .ok (.if_icmp .ne 7, 3) := by decide +kernel
theorem d_D_monthLength_67 : decode b_D_monthLength 67 = .ok (.iconst 1, 1) := by decide +kernel
theorem d_D_monthLength_68 : decode b_D_monthLength 68 = .ok (.goto 4, 3) := by decide +kernel
theorem d_D_monthLength_71 : decode b_D_monthLength 71 = .ok (.iconst 0, 1) := by decide +kernel
theorem d_D_monthLength_72 : decode b_D_monthLength 72 = .ok (.istore_n 2, 1) := by decide +kernel
theorem d_D_monthLength_73 : decode b_D_monthLength 73 = .ok (.iload_n 2, 1) := by decide +kernel
theorem d_D_monthLength_74 : decode b_D_monthLength 74 = .ok (.ifCond .eq 8, 3) := by decide +kernel
theorem d_D_monthLength_77 : decode b_D_monthLength 77 = .ok (.bipush 30, 2) := by decide +kernel
theorem d_D_monthLength_79 : decode b_D_monthLength 79 = .ok (.goto 5, 3) := by decide +kernel
theorem d_D_monthLength_82 : decode b_D_monthLength 82 = .ok (.bipush 31, 2) := by decide +kernel
theorem d_D_monthLength_84 : decode b_D_monthLength 84 = .ok (.ireturn, 1) := by decide +kernel
theorem ci_D_monthLength : jm_ci jm_G y_D_monthLength (Cond.code y_D_monthLength b_D_monthLength 3 (some FieldType.int)) 3 2 := ⟨jm_g3 231 rfl rfl, Or.inl ⟨_, _, rfl⟩, jm_g1 24 rfl rfl, ⟨by decide, by decide⟩, by decide +kernel⟩
theorem st_D_monthLength : Cond.static y_D_monthLength ∈ jm_G := jm_g3 230 rfl rfl
def y_D_dayOf : MethodName := ⟨"JobHouse$Dates", "dayOf", "(J)I"⟩
abbrev b_D_dayOf : ByteArray := prog_4_method_4_code
theorem d_D_dayOf_0 : decode b_D_dayOf 0 = .ok (.lload_n 0, 1) := by decide +kernel
theorem d_D_dayOf_1 : decode b_D_dayOf 1 = .ok (.ldc2_w 10, 3) := by decide +kernel
theorem d_D_dayOf_4 : decode b_D_dayOf 4 = .ok (.invokestatic 12, 3) := by decide +kernel
theorem d_D_dayOf_7 : decode b_D_dayOf 7 = .ok (.l2i, 1) := by decide +kernel
theorem d_D_dayOf_8 : decode b_D_dayOf 8 = .ok (.ireturn, 1) := by decide +kernel
theorem ci_D_dayOf : jm_ci jm_G y_D_dayOf (Cond.code y_D_dayOf b_D_dayOf 2 (some FieldType.int)) 2 1 := ⟨jm_g3 197 rfl rfl, Or.inl ⟨_, _, rfl⟩, jm_g1 24 rfl rfl, ⟨by decide, by decide⟩, by decide +kernel⟩
theorem st_D_dayOf : Cond.static y_D_dayOf ∈ jm_G := jm_g3 196 rfl rfl
def y_D_yearOf : MethodName := ⟨"JobHouse$Dates", "yearOf", "(I)I"⟩
abbrev b_D_yearOf : ByteArray := prog_4_method_5_code
theorem d_D_yearOf_0 : decode b_D_yearOf 0 = .ok (.sipush 1970, 3) := by decide +kernel
theorem d_D_yearOf_3 : decode b_D_yearOf 3 = .ok (.iload_n 0, 1) := by decide +kernel
theorem d_D_yearOf_4 : decode b_D_yearOf 4 = .ok (.sipush 400, 3) := by decide +kernel
theorem d_D_yearOf_7 : decode b_D_yearOf 7 = .ok (.imul, 1) := by decide +kernel
theorem d_D_yearOf_8 : decode b_D_yearOf 8 = .ok (.ldc 18, 2) := by decide +kernel
theorem d_D_yearOf_10 : decode b_D_yearOf 10 = .ok (.invokestatic 19, 3) := by decide +kernel
theorem d_D_yearOf_13 : decode b_D_yearOf 13 = .ok (.iadd, 1) := by decide +kernel
theorem d_D_yearOf_14 : decode b_D_yearOf 14 = .ok (.istore_n 1, 1) := by decide +kernel
theorem d_D_yearOf_15 : decode b_D_yearOf 15 = .ok (.iload_n 1, 1) := by decide +kernel
theorem d_D_yearOf_16 : decode b_D_yearOf 16 = .ok (.iconst 1, 1) := by decide +kernel
theorem d_D_yearOf_17 : decode b_D_yearOf 17 = .ok (.invokestatic 22, 3) := by decide +kernel
theorem d_D_yearOf_20 : decode b_D_yearOf 20 = .ok (.iload_n 0, 1) := by decide +kernel
theorem d_D_yearOf_21 : decode b_D_yearOf 21 = .ok (.if_icmp .le 7, 3) := by decide +kernel
theorem d_D_yearOf_24 : decode b_D_yearOf 24 = .ok (.iload_n 1, 1) := by decide +kernel
theorem d_D_yearOf_25 : decode b_D_yearOf 25 = .ok (.iconst 1, 1) := by decide +kernel
theorem d_D_yearOf_26 : decode b_D_yearOf 26 = .ok (.isub, 1) := by decide +kernel
theorem d_D_yearOf_27 : decode b_D_yearOf 27 = .ok (.ireturn, 1) := by decide +kernel
theorem d_D_yearOf_28 : decode b_D_yearOf 28 = .ok (.iload_n 1, 1) := by decide +kernel
theorem d_D_yearOf_29 : decode b_D_yearOf 29 = .ok (.iconst 1, 1) := by decide +kernel
theorem d_D_yearOf_30 : decode b_D_yearOf 30 = .ok (.iadd, 1) := by decide +kernel
theorem d_D_yearOf_31 : decode b_D_yearOf 31 = .ok (.iconst 1, 1) := by decide +kernel
theorem d_D_yearOf_32 : decode b_D_yearOf 32 = .ok (.invokestatic 22, 3) := by decide +kernel
theorem d_D_yearOf_35 : decode b_D_yearOf 35 = .ok (.iload_n 0, 1) := by decide +kernel
theorem d_D_yearOf_36 : decode b_D_yearOf 36 = .ok (.if_icmp .gt 9, 3) := by decide +kernel
theorem d_D_yearOf_39 : decode b_D_yearOf 39 = .ok (.iload_n 1, 1) := by decide +kernel
theorem d_D_yearOf_40 : decode b_D_yearOf 40 = .ok (.iconst 1, 1) := by decide +kernel
theorem d_D_yearOf_41 : decode b_D_yearOf 41 = .ok (.iadd, 1) := by decide +kernel
theorem d_D_yearOf_42 : decode b_D_yearOf 42 = .ok (.goto 4, 3) := by decide +kernel
theorem d_D_yearOf_45 : decode b_D_yearOf 45 = .ok (.iload_n 1, 1) := by decide +kernel
theorem d_D_yearOf_46 : decode b_D_yearOf 46 = .ok (.ireturn, 1) := by decide +kernel
theorem ci_D_yearOf : jm_ci jm_G y_D_yearOf (Cond.code y_D_yearOf b_D_yearOf 2 (some FieldType.int)) 2 1 := ⟨jm_g3 204 rfl rfl, Or.inl ⟨_, _, rfl⟩, jm_g1 24 rfl rfl, ⟨by decide, by decide⟩, by decide +kernel⟩
theorem st_D_yearOf : Cond.static y_D_yearOf ∈ jm_G := jm_g3 203 rfl rfl
def y_D_monthOf : MethodName := ⟨"JobHouse$Dates", "monthOf", "(II)I"⟩
abbrev b_D_monthOf : ByteArray := prog_4_method_6_code
theorem d_D_monthOf_0 : decode b_D_monthOf 0 = .ok (.iload_n 0, 1) := by decide +kernel
theorem d_D_monthOf_1 : decode b_D_monthOf 1 = .ok (.iload_n 1, 1) := by decide +kernel
theorem d_D_monthOf_2 : decode b_D_monthOf 2 = .ok (.iconst 1, 1) := by decide +kernel
theorem d_D_monthOf_3 : decode b_D_monthOf 3 = .ok (.invokestatic 22, 3) := by decide +kernel
theorem d_D_monthOf_6 : decode b_D_monthOf 6 = .ok (.isub, 1) := by decide +kernel
theorem d_D_monthOf_7 : decode b_D_monthOf 7 = .ok (.bipush 31, 2) := by decide +kernel
theorem d_D_monthOf_9 : decode b_D_monthOf 9 = .ok (.idiv, 1) := by decide +kernel
theorem d_D_monthOf_10 : decode b_D_monthOf 10 = .ok (.iconst 1, 1) := by decide +kernel
theorem d_D_monthOf_11 : decode b_D_monthOf 11 = .ok (.iadd, 1) := by decide +kernel
theorem d_D_monthOf_12 : decode b_D_monthOf 12 = .ok (.istore_n 2, 1) := by decide +kernel
theorem d_D_monthOf_13 : decode b_D_monthOf 13 = .ok (.iload_n 2, 1) := by decide +kernel
theorem d_D_monthOf_14 : decode b_D_monthOf 14 = .ok (.bipush 12, 2) := by decide +kernel
theorem d_D_monthOf_16 : decode b_D_monthOf 16 = .ok (.if_icmp .ge 20, 3) := by decide +kernel
theorem d_D_monthOf_19 : decode b_D_monthOf 19 = .ok (.iload_n 1, 1) := by decide +kernel
theorem d_D_monthOf_20 : decode b_D_monthOf 20 = .ok (.iload_n 2, 1) := by decide +kernel
theorem d_D_monthOf_21 : decode b_D_monthOf 21 = .ok (.iconst 1, 1) := by decide +kernel
theorem d_D_monthOf_22 : decode b_D_monthOf 22 = .ok (.iadd, 1) := by decide +kernel
theorem d_D_monthOf_23 : decode b_D_monthOf 23 = .ok (.invokestatic 22, 3) := by decide +kernel
theorem d_D_monthOf_26 : decode b_D_monthOf 26 = .ok (.iload_n 0, 1) := by decide +kernel
theorem d_D_monthOf_27 : decode b_D_monthOf 27 = .ok (.if_icmp .gt 9, 3) := by decide +kernel
theorem d_D_monthOf_30 : decode b_D_monthOf 30 = .ok (.iload_n 2, 1) := by decide +kernel
theorem d_D_monthOf_31 : decode b_D_monthOf 31 = .ok (.iconst 1, 1) := by decide +kernel
theorem d_D_monthOf_32 : decode b_D_monthOf 32 = .ok (.iadd, 1) := by decide +kernel
theorem d_D_monthOf_33 : decode b_D_monthOf 33 = .ok (.goto 4, 3) := by decide +kernel
theorem d_D_monthOf_36 : decode b_D_monthOf 36 = .ok (.iload_n 2, 1) := by decide +kernel
theorem d_D_monthOf_37 : decode b_D_monthOf 37 = .ok (.ireturn, 1) := by decide +kernel
theorem ci_D_monthOf : jm_ci jm_G y_D_monthOf (Cond.code y_D_monthOf b_D_monthOf 3 (some FieldType.int)) 3 2 := ⟨jm_g4 19 rfl rfl, Or.inl ⟨_, _, rfl⟩, jm_g1 24 rfl rfl, ⟨by decide, by decide⟩, by decide +kernel⟩
theorem st_D_monthOf : Cond.static y_D_monthOf ∈ jm_G := jm_g4 18 rfl rfl
def y_D_weekdayOf : MethodName := ⟨"JobHouse$Dates", "weekdayOf", "(I)I"⟩
abbrev b_D_weekdayOf : ByteArray := prog_4_method_7_code
theorem d_D_weekdayOf_0 : decode b_D_weekdayOf 0 = .ok (.iload_n 0, 1) := by decide +kernel
theorem d_D_weekdayOf_1 : decode b_D_weekdayOf 1 = .ok (.iconst 4, 1) := by decide +kernel
theorem d_D_weekdayOf_2 : decode b_D_weekdayOf 2 = .ok (.iadd, 1) := by decide +kernel
theorem d_D_weekdayOf_3 : decode b_D_weekdayOf 3 = .ok (.bipush 7, 2) := by decide +kernel
theorem d_D_weekdayOf_5 : decode b_D_weekdayOf 5 = .ok (.irem, 1) := by decide +kernel
theorem d_D_weekdayOf_6 : decode b_D_weekdayOf 6 = .ok (.iconst 1, 1) := by decide +kernel
theorem d_D_weekdayOf_7 : decode b_D_weekdayOf 7 = .ok (.iadd, 1) := by decide +kernel
theorem d_D_weekdayOf_8 : decode b_D_weekdayOf 8 = .ok (.ireturn, 1) := by decide +kernel
theorem ci_D_weekdayOf : jm_ci jm_G y_D_weekdayOf (Cond.code y_D_weekdayOf b_D_weekdayOf 1 (some FieldType.int)) 1 1 := ⟨jm_g3 225 rfl rfl, Or.inl ⟨_, _, rfl⟩, jm_g1 24 rfl rfl, ⟨by decide, by decide⟩, by decide +kernel⟩
theorem st_D_weekdayOf : Cond.static y_D_weekdayOf ∈ jm_G := jm_g3 224 rfl rfl
end
section
def f_D_firstOfMonth (y : Int32) (mo : Int32) : Int32 :=
  let v12 : Int32 := if mo ≤ 2 then (y - 1) else y
  let v28 : Int32 := if mo ≤ 2 then (mo + 9) else (mo - 3)
  (((365 * v12) + (((v12 / 4) - (v12 / 100)) + (v12 / 400))) + (((153 * v28) + 2) / 5)) - 719468
set_option maxRecDepth 20000 in
set_option maxHeartbeats 4000000 in
theorem k_D_firstOfMonth {l : Launch} {S : State} {D : va_G} {dA : Nat → ClassId} (E : jm_en S D jm_cl (jm_ty dA) jm_G) (y : Int32) (mo : Int32) (h : jm_H)    : jm_M l S D jm_cl y_D_firstOfMonth (Cond.code y_D_firstOfMonth b_D_firstOfMonth 5 (some FieldType.int)) { frames := 0, cells := 0, slots := 0, locals := 0 } [.int y, .int mo] h (jm_R (some (.int (f_D_firstOfMonth y mo))) h) 0 0 := by
  refine jm_ofW E (by decide) (Nat.le_of_ble_eq_true rfl) (fun p e s m below meth c X hr hk hmn hout hadm => ?_)
  have X : jm_cx p s m ([.int y, .int mo] : List Value).toArray c S D jm_cl (jm_ty dA) jm_G b_D_firstOfMonth 5 "JobHouse$Dates" := X
  show jm_W p l e ({ frames := 0, cells := 0, slots := 0, locals := 0 }) s m ([.int y, .int mo] : List Value).toArray below meth c S D jm_cl (jm_Q S D jm_cl below s (jm_R (some (.int (f_D_firstOfMonth y mo))) h) 0 0) 5 0 [(0, .int y), (1, .int mo)] [] (h) 0 0
  refine jm_iload_n X d_D_firstOfMonth_0 rfl 1 rfl ?_
  refine jm_iconst (v := 2) X d_D_firstOfMonth_1 (by decide) ?_
  have J12_2 : ∀ (v12 : Int32), v12 = (if mo ≤ 2 then (y - 1) else y : Int32) → jm_W p l e ({ frames := 0, cells := 0, slots := 0, locals := 0 }) s m ([.int y, .int mo] : List Value).toArray below meth c S D jm_cl (jm_Q S D jm_cl below s (jm_R (some (.int (f_D_firstOfMonth y mo))) h) 0 0) 5 12 [(0, .int y), (1, .int mo)] [.int v12] (h) 0 0 := by
    intro v12 ev12
    refine jm_istore_n X d_D_firstOfMonth_12 rfl (by decide) (lv1 := [(2, .int v12), (0, .int y), (1, .int mo)]) rfl ?_
    refine jm_iload_n X d_D_firstOfMonth_13 rfl 2 rfl ?_
    refine jm_iconst (v := 2) X d_D_firstOfMonth_14 (by decide) ?_
    have J28_4 : ∀ (v28 : Int32), v28 = (if mo ≤ 2 then (mo + 9) else (mo - 3) : Int32) → jm_W p l e ({ frames := 0, cells := 0, slots := 0, locals := 0 }) s m ([.int y, .int mo] : List Value).toArray below meth c S D jm_cl (jm_Q S D jm_cl below s (jm_R (some (.int (f_D_firstOfMonth y mo))) h) 0 0) 5 28 [(2, .int v12), (0, .int y), (1, .int mo)] [.int v28] (h) 0 0 := by
      intro v28 ev28
      refine jm_istore_n X d_D_firstOfMonth_28 rfl (by decide) (lv1 := [(3, .int v28), (2, .int v12), (0, .int y), (1, .int mo)]) rfl ?_
      refine jm_iload_n X d_D_firstOfMonth_29 rfl 1 rfl ?_
      refine jm_iconst (v := 4) X d_D_firstOfMonth_30 (by decide) ?_
      refine jm_idiv X d_D_firstOfMonth_31 (by decide +kernel) ?_
      refine jm_iload_n X d_D_firstOfMonth_32 rfl 1 rfl ?_
      refine jm_bipush (v := 100) X d_D_firstOfMonth_33 (by decide) ?_
      refine jm_idiv X d_D_firstOfMonth_35 (by decide +kernel) ?_
      refine jm_isub X d_D_firstOfMonth_36 ?_
      refine jm_iload_n X d_D_firstOfMonth_37 rfl 1 rfl ?_
      refine jm_sipush (v := 400) X d_D_firstOfMonth_38 (by decide) ?_
      refine jm_idiv X d_D_firstOfMonth_41 (by decide +kernel) ?_
      refine jm_iadd X d_D_firstOfMonth_42 ?_
      refine jm_istore X d_D_firstOfMonth_43 (by decide) (lv1 := [(4, .int (((v12 / 4) - (v12 / 100)) + (v12 / 400))), (3, .int v28), (2, .int v12), (0, .int y), (1, .int mo)]) rfl ?_
      refine jm_sipush (v := 365) X d_D_firstOfMonth_45 (by decide) ?_
      refine jm_iload_n X d_D_firstOfMonth_48 rfl 2 rfl ?_
      refine jm_imul X d_D_firstOfMonth_49 ?_
      refine jm_iload X d_D_firstOfMonth_50 0 rfl ?_
      refine jm_iadd X d_D_firstOfMonth_52 ?_
      refine jm_sipush (v := 153) X d_D_firstOfMonth_53 (by decide) ?_
      refine jm_iload_n X d_D_firstOfMonth_56 rfl 1 rfl ?_
      refine jm_imul X d_D_firstOfMonth_57 ?_
      refine jm_iconst (v := 2) X d_D_firstOfMonth_58 (by decide) ?_
      refine jm_iadd X d_D_firstOfMonth_59 ?_
      refine jm_iconst (v := 5) X d_D_firstOfMonth_60 (by decide) ?_
      refine jm_idiv X d_D_firstOfMonth_61 (by decide +kernel) ?_
      refine jm_iadd X d_D_firstOfMonth_62 ?_
      refine jm_ldc (v := 719468) X d_D_firstOfMonth_63 (jm_g3 212 rfl rfl) ?_
      refine jm_isub X d_D_firstOfMonth_65 ?_
      exact jm_iret X hr hk d_D_firstOfMonth_66 ⟨(by show Outcome.returned _ = Outcome.returned _; unfold f_D_firstOfMonth; subst ev28; subst ev12; rfl), rfl⟩
    refine jm_icmp_le (tgt := 24) X d_D_firstOfMonth_15 (by decide) (fun c3 => ?_) (fun c3 => ?_)
    · refine jm_iload_n X d_D_firstOfMonth_24 rfl 2 rfl ?_
      refine jm_bipush (v := 9) X d_D_firstOfMonth_25 (by decide) ?_
      refine jm_iadd X d_D_firstOfMonth_27 ?_
      exact J28_4 _ (by first | (simp only [if_pos c3, reduceIte]; done) | (with_reducible rfl))
    · refine jm_iload_n X d_D_firstOfMonth_18 rfl 2 rfl ?_
      refine jm_iconst (v := 3) X d_D_firstOfMonth_19 (by decide) ?_
      refine jm_isub X d_D_firstOfMonth_20 ?_
      refine jm_goto (tgt := 28) X d_D_firstOfMonth_21 (by decide) ?_
      exact J28_4 _ (by first | (simp only [if_neg c3, reduceIte]; done) | (with_reducible rfl))
  refine jm_icmp_le (tgt := 9) X d_D_firstOfMonth_2 (by decide) (fun c1 => ?_) (fun c1 => ?_)
  · refine jm_iload_n X d_D_firstOfMonth_9 rfl 0 rfl ?_
    refine jm_iconst (v := 1) X d_D_firstOfMonth_10 (by decide) ?_
    refine jm_isub X d_D_firstOfMonth_11 ?_
    exact J12_2 _ (by first | (simp only [if_pos c1, reduceIte]; done) | (with_reducible rfl))
  · refine jm_iload_n X d_D_firstOfMonth_5 rfl 0 rfl ?_
    refine jm_goto (tgt := 12) X d_D_firstOfMonth_6 (by decide) ?_
    exact J12_2 _ (by first | (simp only [if_neg c1, reduceIte]; done) | (with_reducible rfl))
def f_D_monthLength (y : Int32) (mo : Int32) : Int32 :=
  let v72 : Int32 := if mo = 4 then 1 else (if mo = 6 then 1 else (if mo = 9 then 1 else (if mo = 11 then 1 else 0)))
  let v84 : Int32 := if v72 = 0 then 31 else 30
  let v31 : Int32 := if (y - y / 4 * 4) = 0 then (if (y - y / 100 * 100) = 0 then (if (y - y / 400 * 400) = 0 then 1 else 0) else 1) else 0
  let v43 : Int32 := if v31 = 0 then 28 else 29
  if mo = 2 then v43 else v84
set_option maxRecDepth 20000 in
set_option maxHeartbeats 4000000 in
theorem k_D_monthLength {l : Launch} {S : State} {D : va_G} {dA : Nat → ClassId} (E : jm_en S D jm_cl (jm_ty dA) jm_G) (y : Int32) (mo : Int32) (h : jm_H)    : jm_M l S D jm_cl y_D_monthLength (Cond.code y_D_monthLength b_D_monthLength 3 (some FieldType.int)) { frames := 0, cells := 0, slots := 0, locals := 0 } [.int y, .int mo] h (jm_R (some (.int (f_D_monthLength y mo))) h) 0 0 := by
  refine jm_ofW E (by decide) (Nat.le_of_ble_eq_true rfl) (fun p e s m below meth c X hr hk hmn hout hadm => ?_)
  have X : jm_cx p s m ([.int y, .int mo] : List Value).toArray c S D jm_cl (jm_ty dA) jm_G b_D_monthLength 3 "JobHouse$Dates" := X
  show jm_W p l e ({ frames := 0, cells := 0, slots := 0, locals := 0 }) s m ([.int y, .int mo] : List Value).toArray below meth c S D jm_cl (jm_Q S D jm_cl below s (jm_R (some (.int (f_D_monthLength y mo))) h) 0 0) 3 0 [(0, .int y), (1, .int mo)] [] (h) 0 0
  refine jm_iload_n X d_D_monthLength_0 rfl 1 rfl ?_
  refine jm_iconst (v := 2) X d_D_monthLength_1 (by decide) ?_
  refine jm_icmp_ne (tgt := 44) X d_D_monthLength_2 (by decide) (fun c1 => ?_) (fun c1 => ?_)
  · refine jm_iload_n X d_D_monthLength_44 rfl 1 rfl ?_
    refine jm_iconst (v := 4) X d_D_monthLength_45 (by decide) ?_
    have J72_3 : ∀ (v72 : Int32), v72 = (if mo = 4 then 1 else (if mo = 6 then 1 else (if mo = 9 then 1 else (if mo = 11 then 1 else 0))) : Int32) → jm_W p l e ({ frames := 0, cells := 0, slots := 0, locals := 0 }) s m ([.int y, .int mo] : List Value).toArray below meth c S D jm_cl (jm_Q S D jm_cl below s (jm_R (some (.int (f_D_monthLength y mo))) h) 0 0) 3 72 [(0, .int y), (1, .int mo)] [.int v72] (h) 0 0 := by
      intro v72 ev72
      refine jm_istore_n X d_D_monthLength_72 rfl (by decide) (lv1 := [(2, .int v72), (0, .int y), (1, .int mo)]) rfl ?_
      refine jm_iload_n X d_D_monthLength_73 rfl 0 rfl ?_
      have J84_5 : ∀ (v84 : Int32), v84 = (if v72 = 0 then 31 else 30 : Int32) → jm_W p l e ({ frames := 0, cells := 0, slots := 0, locals := 0 }) s m ([.int y, .int mo] : List Value).toArray below meth c S D jm_cl (jm_Q S D jm_cl below s (jm_R (some (.int (f_D_monthLength y mo))) h) 0 0) 3 84 [(2, .int v72), (0, .int y), (1, .int mo)] [.int v84] (h) 0 0 := by
        intro v84 ev84
        exact jm_iret X hr hk d_D_monthLength_84 ⟨(by show Outcome.returned _ = Outcome.returned _; unfold f_D_monthLength; subst ev84; subst ev72; first | (simp only [if_neg c1, reduceIte]; done) | (simp only [if_neg c1, reduceIte]; rfl) | rfl), rfl⟩
      refine jm_if_eq (tgt := 82) X d_D_monthLength_74 (by decide) (fun c4 => ?_) (fun c4 => ?_)
      · refine jm_bipush (v := 31) X d_D_monthLength_82 (by decide) ?_
        exact J84_5 _ (by first | (simp only [if_pos c4, reduceIte]; done) | (with_reducible rfl))
      · refine jm_bipush (v := 30) X d_D_monthLength_77 (by decide) ?_
        refine jm_goto (tgt := 84) X d_D_monthLength_79 (by decide) ?_
        exact J84_5 _ (by first | (simp only [if_neg c4, reduceIte]; done) | (with_reducible rfl))
    refine jm_icmp_eq (tgt := 67) X d_D_monthLength_46 (by decide) (fun c2 => ?_) (fun c2 => ?_)
    · refine jm_iconst (v := 1) X d_D_monthLength_67 (by decide) ?_
      refine jm_goto (tgt := 72) X d_D_monthLength_68 (by decide) ?_
      exact J72_3 _ (by first | (simp only [if_pos c2, reduceIte]; done) | (with_reducible rfl))
    · refine jm_iload_n X d_D_monthLength_49 rfl 1 rfl ?_
      refine jm_bipush (v := 6) X d_D_monthLength_50 (by decide) ?_
      refine jm_icmp_eq (tgt := 67) X d_D_monthLength_52 (by decide) (fun c6 => ?_) (fun c6 => ?_)
      · refine jm_iconst (v := 1) X d_D_monthLength_67 (by decide) ?_
        refine jm_goto (tgt := 72) X d_D_monthLength_68 (by decide) ?_
        exact J72_3 _ (by first | (simp only [if_neg c2, if_pos c6, reduceIte]; done) | (with_reducible rfl))
      · refine jm_iload_n X d_D_monthLength_55 rfl 1 rfl ?_
        refine jm_bipush (v := 9) X d_D_monthLength_56 (by decide) ?_
        refine jm_icmp_eq (tgt := 67) X d_D_monthLength_58 (by decide) (fun c7 => ?_) (fun c7 => ?_)
        · refine jm_iconst (v := 1) X d_D_monthLength_67 (by decide) ?_
          refine jm_goto (tgt := 72) X d_D_monthLength_68 (by decide) ?_
          exact J72_3 _ (by first | (simp only [if_neg c2, if_neg c6, if_pos c7, reduceIte]; done) | (with_reducible rfl))
        · refine jm_iload_n X d_D_monthLength_61 rfl 1 rfl ?_
          refine jm_bipush (v := 11) X d_D_monthLength_62 (by decide) ?_
          refine jm_icmp_ne (tgt := 71) X d_D_monthLength_64 (by decide) (fun c8 => ?_) (fun c8 => ?_)
          · refine jm_iconst (v := 0) X d_D_monthLength_71 (by decide) ?_
            exact J72_3 _ (by first | (simp only [if_neg c2, if_neg c6, if_neg c7, if_neg c8, reduceIte]; done) | (with_reducible rfl))
          · refine jm_iconst (v := 1) X d_D_monthLength_67 (by decide) ?_
            refine jm_goto (tgt := 72) X d_D_monthLength_68 (by decide) ?_
            exact J72_3 _ (by first | (simp only [if_neg c2, if_neg c6, if_neg c7, if_pos c8, reduceIte]; done) | (with_reducible rfl))
  · refine jm_iload_n X d_D_monthLength_5 rfl 0 rfl ?_
    refine jm_iconst (v := 4) X d_D_monthLength_6 (by decide) ?_
    refine jm_irem X d_D_monthLength_7 (by decide +kernel) ?_
    have J31_10 : ∀ (v31 : Int32), v31 = (if (y - y / 4 * 4) = 0 then (if (y - y / 100 * 100) = 0 then (if (y - y / 400 * 400) = 0 then 1 else 0) else 1) else 0 : Int32) → jm_W p l e ({ frames := 0, cells := 0, slots := 0, locals := 0 }) s m ([.int y, .int mo] : List Value).toArray below meth c S D jm_cl (jm_Q S D jm_cl below s (jm_R (some (.int (f_D_monthLength y mo))) h) 0 0) 3 31 [(0, .int y), (1, .int mo)] [.int v31] (h) 0 0 := by
      intro v31 ev31
      refine jm_istore_n X d_D_monthLength_31 rfl (by decide) (lv1 := [(2, .int v31), (0, .int y), (1, .int mo)]) rfl ?_
      refine jm_iload_n X d_D_monthLength_32 rfl 0 rfl ?_
      have J43_12 : ∀ (v43 : Int32), v43 = (if v31 = 0 then 28 else 29 : Int32) → jm_W p l e ({ frames := 0, cells := 0, slots := 0, locals := 0 }) s m ([.int y, .int mo] : List Value).toArray below meth c S D jm_cl (jm_Q S D jm_cl below s (jm_R (some (.int (f_D_monthLength y mo))) h) 0 0) 3 43 [(2, .int v31), (0, .int y), (1, .int mo)] [.int v43] (h) 0 0 := by
        intro v43 ev43
        exact jm_iret X hr hk d_D_monthLength_43 ⟨(by show Outcome.returned _ = Outcome.returned _; unfold f_D_monthLength; subst ev43; subst ev31; first | (simp only [if_pos c1, reduceIte]; done) | (simp only [if_pos c1, reduceIte]; rfl) | rfl), rfl⟩
      refine jm_if_eq (tgt := 41) X d_D_monthLength_33 (by decide) (fun c11 => ?_) (fun c11 => ?_)
      · refine jm_bipush (v := 28) X d_D_monthLength_41 (by decide) ?_
        exact J43_12 _ (by first | (simp only [if_pos c11, reduceIte]; done) | (with_reducible rfl))
      · refine jm_bipush (v := 29) X d_D_monthLength_36 (by decide) ?_
        refine jm_goto (tgt := 43) X d_D_monthLength_38 (by decide) ?_
        exact J43_12 _ (by first | (simp only [if_neg c11, reduceIte]; done) | (with_reducible rfl))
    refine jm_if_ne (tgt := 30) X d_D_monthLength_8 (by decide) (fun c9 => ?_) (fun c9 => ?_)
    · refine jm_iconst (v := 0) X d_D_monthLength_30 (by decide) ?_
      exact J31_10 _ (by first | (simp only [if_neg c9, reduceIte]; done) | (with_reducible rfl))
    · refine jm_iload_n X d_D_monthLength_11 rfl 0 rfl ?_
      refine jm_bipush (v := 100) X d_D_monthLength_12 (by decide) ?_
      refine jm_irem X d_D_monthLength_14 (by decide +kernel) ?_
      refine jm_if_ne (tgt := 26) X d_D_monthLength_15 (by decide) (fun c13 => ?_) (fun c13 => ?_)
      · refine jm_iconst (v := 1) X d_D_monthLength_26 (by decide) ?_
        refine jm_goto (tgt := 31) X d_D_monthLength_27 (by decide) ?_
        exact J31_10 _ (by first | (simp only [if_pos c9, if_neg c13, reduceIte]; done) | (with_reducible rfl))
      · refine jm_iload_n X d_D_monthLength_18 rfl 0 rfl ?_
        refine jm_sipush (v := 400) X d_D_monthLength_19 (by decide) ?_
        refine jm_irem X d_D_monthLength_22 (by decide +kernel) ?_
        refine jm_if_ne (tgt := 30) X d_D_monthLength_23 (by decide) (fun c14 => ?_) (fun c14 => ?_)
        · refine jm_iconst (v := 0) X d_D_monthLength_30 (by decide) ?_
          exact J31_10 _ (by first | (simp only [if_pos c9, if_pos c13, if_neg c14, reduceIte]; done) | (with_reducible rfl))
        · refine jm_iconst (v := 1) X d_D_monthLength_26 (by decide) ?_
          refine jm_goto (tgt := 31) X d_D_monthLength_27 (by decide) ?_
          exact J31_10 _ (by first | (simp only [if_pos c9, if_pos c13, if_pos c14, reduceIte]; done) | (with_reducible rfl))
def f_D_weekdayOf (day : Int32) : Int32 :=
  ((day + 4) - (day + 4) / 7 * 7) + 1
set_option maxRecDepth 20000 in
set_option maxHeartbeats 4000000 in
theorem k_D_weekdayOf {l : Launch} {S : State} {D : va_G} {dA : Nat → ClassId} (E : jm_en S D jm_cl (jm_ty dA) jm_G) (day : Int32) (h : jm_H)    : jm_M l S D jm_cl y_D_weekdayOf (Cond.code y_D_weekdayOf b_D_weekdayOf 1 (some FieldType.int)) { frames := 0, cells := 0, slots := 0, locals := 0 } [.int day] h (jm_R (some (.int (f_D_weekdayOf day))) h) 0 0 := by
  refine jm_ofW E (by decide) (Nat.le_of_ble_eq_true rfl) (fun p e s m below meth c X hr hk hmn hout hadm => ?_)
  have X : jm_cx p s m ([.int day] : List Value).toArray c S D jm_cl (jm_ty dA) jm_G b_D_weekdayOf 1 "JobHouse$Dates" := X
  show jm_W p l e ({ frames := 0, cells := 0, slots := 0, locals := 0 }) s m ([.int day] : List Value).toArray below meth c S D jm_cl (jm_Q S D jm_cl below s (jm_R (some (.int (f_D_weekdayOf day))) h) 0 0) 1 0 [(0, .int day)] [] (h) 0 0
  refine jm_iload_n X d_D_weekdayOf_0 rfl 0 rfl ?_
  refine jm_iconst (v := 4) X d_D_weekdayOf_1 (by decide) ?_
  refine jm_iadd X d_D_weekdayOf_2 ?_
  refine jm_bipush (v := 7) X d_D_weekdayOf_3 (by decide) ?_
  refine jm_irem X d_D_weekdayOf_5 (by decide +kernel) ?_
  refine jm_iconst (v := 1) X d_D_weekdayOf_6 (by decide) ?_
  refine jm_iadd X d_D_weekdayOf_7 ?_
  exact jm_iret X hr hk d_D_weekdayOf_8 ⟨(by show Outcome.returned _ = Outcome.returned _; unfold f_D_weekdayOf; rfl), rfl⟩
def f_D_monthOf (day : Int32) (y : Int32) : Int32 :=
  let v37 : Int32 := if 12 ≤ (((day - (f_D_firstOfMonth y 1)) / 31) + 1) then (((day - (f_D_firstOfMonth y 1)) / 31) + 1) else (if day < (f_D_firstOfMonth y ((((day - (f_D_firstOfMonth y 1)) / 31) + 1) + 1)) then (((day - (f_D_firstOfMonth y 1)) / 31) + 1) else ((((day - (f_D_firstOfMonth y 1)) / 31) + 1) + 1))
  v37
set_option maxRecDepth 20000 in
set_option maxHeartbeats 4000000 in
theorem k_D_monthOf {l : Launch} {S : State} {D : va_G} {dA : Nat → ClassId} (E : jm_en S D jm_cl (jm_ty dA) jm_G) (day : Int32) (y : Int32) (h : jm_H)    : jm_M l S D jm_cl y_D_monthOf (Cond.code y_D_monthOf b_D_monthOf 3 (some FieldType.int)) { frames := 1, cells := 0, slots := 0, locals := 24 } [.int day, .int y] h (jm_R (some (.int (f_D_monthOf day y))) h) 0 0 := by
  refine jm_ofW E (by decide) (Nat.le_of_ble_eq_true rfl) (fun p e s m below meth c X hr hk hmn hout hadm => ?_)
  have X : jm_cx p s m ([.int day, .int y] : List Value).toArray c S D jm_cl (jm_ty dA) jm_G b_D_monthOf 3 "JobHouse$Dates" := X
  show jm_W p l e ({ frames := 1, cells := 0, slots := 0, locals := 24 }) s m ([.int day, .int y] : List Value).toArray below meth c S D jm_cl (jm_Q S D jm_cl below s (jm_R (some (.int (f_D_monthOf day y))) h) 0 0) 3 0 [(0, .int day), (1, .int y)] [] (h) 0 0
  refine jm_iload_n X d_D_monthOf_0 rfl 0 rfl ?_
  refine jm_iload_n X d_D_monthOf_1 rfl 1 rfl ?_
  refine jm_iconst (v := 1) X d_D_monthOf_2 (by decide) ?_
  refine jm_callS (rest := [.int day]) X d_D_monthOf_3 (k_D_firstOfMonth E y 1 h  ) ci_D_firstOfMonth (Or.inl (jm_g3 209 rfl rfl)) st_D_firstOfMonth rfl (Nat.le_of_ble_eq_true rfl) ⟨(Nat.le_of_ble_eq_true rfl), (Nat.le_of_ble_eq_true rfl)⟩ ⟨rfl, rfl⟩ ⟨(Nat.le_of_ble_eq_true rfl), (Nat.le_of_ble_eq_true rfl)⟩ (jm_k1 ?_)
  refine jm_isub X d_D_monthOf_6 ?_
  refine jm_bipush (v := 31) X d_D_monthOf_7 (by decide) ?_
  refine jm_idiv X d_D_monthOf_9 (by decide +kernel) ?_
  refine jm_iconst (v := 1) X d_D_monthOf_10 (by decide) ?_
  refine jm_iadd X d_D_monthOf_11 ?_
  refine jm_istore_n X d_D_monthOf_12 rfl (by decide) (lv1 := [(2, .int (((day - (f_D_firstOfMonth y 1)) / 31) + 1)), (0, .int day), (1, .int y)]) rfl ?_
  refine jm_iload_n X d_D_monthOf_13 rfl 0 rfl ?_
  refine jm_bipush (v := 12) X d_D_monthOf_14 (by decide) ?_
  have J37_2 : ∀ (v37 : Int32), v37 = (if 12 ≤ (((day - (f_D_firstOfMonth y 1)) / 31) + 1) then (((day - (f_D_firstOfMonth y 1)) / 31) + 1) else (if day < (f_D_firstOfMonth y ((((day - (f_D_firstOfMonth y 1)) / 31) + 1) + 1)) then (((day - (f_D_firstOfMonth y 1)) / 31) + 1) else ((((day - (f_D_firstOfMonth y 1)) / 31) + 1) + 1)) : Int32) → jm_W p l e ({ frames := 1, cells := 0, slots := 0, locals := 24 }) s m ([.int day, .int y] : List Value).toArray below meth c S D jm_cl (jm_Q S D jm_cl below s (jm_R (some (.int (f_D_monthOf day y))) h) 0 0) 3 37 [(2, .int (((day - (f_D_firstOfMonth y 1)) / 31) + 1)), (0, .int day), (1, .int y)] [.int v37] (h) 0 0 := by
    intro v37 ev37
    exact jm_iret X hr hk d_D_monthOf_37 ⟨(by show Outcome.returned _ = Outcome.returned _; unfold f_D_monthOf; subst ev37; rfl), rfl⟩
  refine jm_icmp_ge (tgt := 36) X d_D_monthOf_16 (by decide) (fun c1 => ?_) (fun c1 => ?_)
  · refine jm_iload_n X d_D_monthOf_36 rfl 0 rfl ?_
    exact J37_2 _ (by first | (simp only [if_pos c1, reduceIte]; done) | (with_reducible rfl))
  · refine jm_iload_n X d_D_monthOf_19 rfl 2 rfl ?_
    refine jm_iload_n X d_D_monthOf_20 rfl 0 rfl ?_
    refine jm_iconst (v := 1) X d_D_monthOf_21 (by decide) ?_
    refine jm_iadd X d_D_monthOf_22 ?_
    refine jm_callS (rest := []) X d_D_monthOf_23 (k_D_firstOfMonth E y ((((day - (f_D_firstOfMonth y 1)) / 31) + 1) + 1) h  ) ci_D_firstOfMonth (Or.inl (jm_g3 209 rfl rfl)) st_D_firstOfMonth rfl (Nat.le_of_ble_eq_true rfl) ⟨(Nat.le_of_ble_eq_true rfl), (Nat.le_of_ble_eq_true rfl)⟩ ⟨rfl, rfl⟩ ⟨(Nat.le_of_ble_eq_true rfl), (Nat.le_of_ble_eq_true rfl)⟩ (jm_k1 ?_)
    refine jm_iload_n X d_D_monthOf_26 rfl 1 rfl ?_
    refine jm_icmp_gt (tgt := 36) X d_D_monthOf_27 (by decide) (fun c3 => ?_) (fun c3 => ?_)
    · refine jm_iload_n X d_D_monthOf_36 rfl 0 rfl ?_
      exact J37_2 _ (by first | (simp only [if_neg c1, if_pos c3, reduceIte]; done) | (with_reducible rfl))
    · refine jm_iload_n X d_D_monthOf_30 rfl 0 rfl ?_
      refine jm_iconst (v := 1) X d_D_monthOf_31 (by decide) ?_
      refine jm_iadd X d_D_monthOf_32 ?_
      refine jm_goto (tgt := 37) X d_D_monthOf_33 (by decide) ?_
      exact J37_2 _ (by first | (simp only [if_neg c1, if_neg c3, reduceIte]; done) | (with_reducible rfl))
end
section
def f_D_dayOf (sec : Int64) : Int32 :=
  (f_Math_floorDiv2 sec 86400 : Int64).toInt32
set_option maxRecDepth 20000 in
set_option maxHeartbeats 4000000 in
theorem k_D_dayOf {l : Launch} {S : State} {D : va_G} {dA : Nat → ClassId} (E : jm_en S D jm_cl (jm_ty dA) jm_G) (sec : Int64) (h : jm_H)    : jm_M l S D jm_cl y_D_dayOf (Cond.code y_D_dayOf b_D_dayOf 2 (some FieldType.int)) { frames := 1, cells := 0, slots := 0, locals := 25 } [.long sec] h (jm_R (some (.int (f_D_dayOf sec))) h) 0 0 := by
  refine jm_ofW E (by decide) (Nat.le_of_ble_eq_true rfl) (fun p e s m below meth c X hr hk hmn hout hadm => ?_)
  have X : jm_cx p s m ([.long sec] : List Value).toArray c S D jm_cl (jm_ty dA) jm_G b_D_dayOf 2 "JobHouse$Dates" := X
  show jm_W p l e ({ frames := 1, cells := 0, slots := 0, locals := 25 }) s m ([.long sec] : List Value).toArray below meth c S D jm_cl (jm_Q S D jm_cl below s (jm_R (some (.int (f_D_dayOf sec))) h) 0 0) 2 0 [(0, .long sec)] [] (h) 0 0
  refine jm_lload_n X d_D_dayOf_0 rfl 0 rfl ?_
  refine jm_ldc2 (v := 86400) X d_D_dayOf_1 (jm_g3 198 rfl rfl) ?_
  refine jm_callS (rest := []) X d_D_dayOf_4 (k_Math_floorDiv2 E sec 86400 h  (by first | with_reducible assumption | decide +kernel)) ci_Math_floorDiv2 (Or.inl (jm_g3 199 rfl rfl)) st_Math_floorDiv2 rfl (Nat.le_of_ble_eq_true rfl) ⟨(Nat.le_of_ble_eq_true rfl), (Nat.le_of_ble_eq_true rfl)⟩ ⟨rfl, rfl⟩ ⟨(Nat.le_of_ble_eq_true rfl), (Nat.le_of_ble_eq_true rfl)⟩ (jm_k1 ?_)
  refine jm_l2i X d_D_dayOf_7 ?_
  exact jm_iret X hr hk d_D_dayOf_8 ⟨(by show Outcome.returned _ = Outcome.returned _; unfold f_D_dayOf; rfl), rfl⟩
def f_D_yearOf (day : Int32) : Int32 :=
  let u17 : Int32 := f_D_firstOfMonth (1970 + (f_Math_floorDiv (day * 400) 146097)) 1
  let u32 : Int32 := f_D_firstOfMonth ((1970 + (f_Math_floorDiv (day * 400) 146097)) + 1) 1
  let v46 : Int32 := if day < u32 then (1970 + (f_Math_floorDiv (day * 400) 146097)) else ((1970 + (f_Math_floorDiv (day * 400) 146097)) + 1)
  if u17 ≤ day then v46 else ((1970 + (f_Math_floorDiv (day * 400) 146097)) - 1)
set_option maxRecDepth 20000 in
set_option maxHeartbeats 4000000 in
theorem k_D_yearOf {l : Launch} {S : State} {D : va_G} {dA : Nat → ClassId} (E : jm_en S D jm_cl (jm_ty dA) jm_G) (day : Int32) (h : jm_H)    : jm_M l S D jm_cl y_D_yearOf (Cond.code y_D_yearOf b_D_yearOf 2 (some FieldType.int)) { frames := 1, cells := 0, slots := 0, locals := 24 } [.int day] h (jm_R (some (.int (f_D_yearOf day))) h) 0 0 := by
  refine jm_ofW E (by decide) (Nat.le_of_ble_eq_true rfl) (fun p e s m below meth c X hr hk hmn hout hadm => ?_)
  have X : jm_cx p s m ([.int day] : List Value).toArray c S D jm_cl (jm_ty dA) jm_G b_D_yearOf 2 "JobHouse$Dates" := X
  show jm_W p l e ({ frames := 1, cells := 0, slots := 0, locals := 24 }) s m ([.int day] : List Value).toArray below meth c S D jm_cl (jm_Q S D jm_cl below s (jm_R (some (.int (f_D_yearOf day))) h) 0 0) 2 0 [(0, .int day)] [] (h) 0 0
  refine jm_sipush (v := 1970) X d_D_yearOf_0 (by decide) ?_
  refine jm_iload_n X d_D_yearOf_3 rfl 0 rfl ?_
  refine jm_sipush (v := 400) X d_D_yearOf_4 (by decide) ?_
  refine jm_imul X d_D_yearOf_7 ?_
  refine jm_ldc (v := 146097) X d_D_yearOf_8 (jm_g3 205 rfl rfl) ?_
  refine jm_callS (rest := [.int 1970]) X d_D_yearOf_10 (k_Math_floorDiv E (day * 400) 146097 h  (by first | with_reducible assumption | decide +kernel)) ci_Math_floorDiv (Or.inl (jm_g3 206 rfl rfl)) st_Math_floorDiv rfl (Nat.le_of_ble_eq_true rfl) ⟨(Nat.le_of_ble_eq_true rfl), (Nat.le_of_ble_eq_true rfl)⟩ ⟨rfl, rfl⟩ ⟨(Nat.le_of_ble_eq_true rfl), (Nat.le_of_ble_eq_true rfl)⟩ (jm_k1 ?_)
  refine jm_iadd X d_D_yearOf_13 ?_
  refine jm_istore_n X d_D_yearOf_14 rfl (by decide) (lv1 := [(1, .int (1970 + (f_Math_floorDiv (day * 400) 146097))), (0, .int day)]) rfl ?_
  refine jm_iload_n X d_D_yearOf_15 rfl 0 rfl ?_
  refine jm_iconst (v := 1) X d_D_yearOf_16 (by decide) ?_
  refine jm_callS (rest := []) X d_D_yearOf_17 (k_D_firstOfMonth E (1970 + (f_Math_floorDiv (day * 400) 146097)) 1 h  ) ci_D_firstOfMonth (Or.inl (jm_g3 209 rfl rfl)) st_D_firstOfMonth rfl (Nat.le_of_ble_eq_true rfl) ⟨(Nat.le_of_ble_eq_true rfl), (Nat.le_of_ble_eq_true rfl)⟩ ⟨rfl, rfl⟩ ⟨(Nat.le_of_ble_eq_true rfl), (Nat.le_of_ble_eq_true rfl)⟩ (jm_k1 ?_)
  obtain ⟨u17, eu17⟩ : ∃ z_ : Int32, z_ = (f_D_firstOfMonth (1970 + (f_Math_floorDiv (day * 400) 146097)) 1) := ⟨_, rfl⟩
  rw [← eu17]
  refine jm_iload_n X d_D_yearOf_20 rfl 1 rfl ?_
  refine jm_icmp_le (tgt := 28) X d_D_yearOf_21 (by decide) (fun c1 => ?_) (fun c1 => ?_)
  · refine jm_iload_n X d_D_yearOf_28 rfl 0 rfl ?_
    refine jm_iconst (v := 1) X d_D_yearOf_29 (by decide) ?_
    refine jm_iadd X d_D_yearOf_30 ?_
    refine jm_iconst (v := 1) X d_D_yearOf_31 (by decide) ?_
    refine jm_callS (rest := []) X d_D_yearOf_32 (k_D_firstOfMonth E ((1970 + (f_Math_floorDiv (day * 400) 146097)) + 1) 1 h  ) ci_D_firstOfMonth (Or.inl (jm_g3 209 rfl rfl)) st_D_firstOfMonth rfl (Nat.le_of_ble_eq_true rfl) ⟨(Nat.le_of_ble_eq_true rfl), (Nat.le_of_ble_eq_true rfl)⟩ ⟨rfl, rfl⟩ ⟨(Nat.le_of_ble_eq_true rfl), (Nat.le_of_ble_eq_true rfl)⟩ (jm_k1 ?_)
    obtain ⟨u32, eu32⟩ : ∃ z_ : Int32, z_ = (f_D_firstOfMonth ((1970 + (f_Math_floorDiv (day * 400) 146097)) + 1) 1) := ⟨_, rfl⟩
    rw [← eu32]
    refine jm_iload_n X d_D_yearOf_35 rfl 1 rfl ?_
    have J46_3 : ∀ (v46 : Int32), v46 = (if day < u32 then (1970 + (f_Math_floorDiv (day * 400) 146097)) else ((1970 + (f_Math_floorDiv (day * 400) 146097)) + 1) : Int32) → jm_W p l e ({ frames := 1, cells := 0, slots := 0, locals := 24 }) s m ([.int day] : List Value).toArray below meth c S D jm_cl (jm_Q S D jm_cl below s (jm_R (some (.int (f_D_yearOf day))) h) 0 0) 2 46 [(1, .int (1970 + (f_Math_floorDiv (day * 400) 146097))), (0, .int day)] [.int v46] (h) 0 0 := by
      intro v46 ev46
      exact jm_iret X hr hk d_D_yearOf_46 ⟨(by show Outcome.returned _ = Outcome.returned _; unfold f_D_yearOf; subst ev46; subst eu32; subst eu17; first | (simp only [if_pos c1, reduceIte]; done) | (simp only [if_pos c1, reduceIte]; rfl) | rfl), rfl⟩
    refine jm_icmp_gt (tgt := 45) X d_D_yearOf_36 (by decide) (fun c2 => ?_) (fun c2 => ?_)
    · refine jm_iload_n X d_D_yearOf_45 rfl 0 rfl ?_
      exact J46_3 _ (by first | (simp only [if_pos c2, reduceIte]; done) | (with_reducible rfl))
    · refine jm_iload_n X d_D_yearOf_39 rfl 0 rfl ?_
      refine jm_iconst (v := 1) X d_D_yearOf_40 (by decide) ?_
      refine jm_iadd X d_D_yearOf_41 ?_
      refine jm_goto (tgt := 46) X d_D_yearOf_42 (by decide) ?_
      exact J46_3 _ (by first | (simp only [if_neg c2, reduceIte]; done) | (with_reducible rfl))
  · refine jm_iload_n X d_D_yearOf_24 rfl 0 rfl ?_
    refine jm_iconst (v := 1) X d_D_yearOf_25 (by decide) ?_
    refine jm_isub X d_D_yearOf_26 ?_
    exact jm_iret X hr hk d_D_yearOf_27 ⟨(by show Outcome.returned _ = Outcome.returned _; unfold f_D_yearOf; subst eu17; first | (simp only [if_neg c1, reduceIte]; done) | (simp only [if_neg c1, reduceIte]; rfl) | rfl), rfl⟩
end
section
def y_T_init : MethodName := ⟨"JobHouse$Text", "<init>", "()V"⟩
abbrev b_T_init : ByteArray := prog_9_method_1_code
theorem d_T_init_0 : decode b_T_init 0 = .ok (.aload_n 0, 1) := by decide +kernel
theorem d_T_init_1 : decode b_T_init 1 = .ok (.invokespecial 3, 3) := by decide +kernel
theorem d_T_init_4 : decode b_T_init 4 = .ok (.aload_n 0, 1) := by decide +kernel
theorem d_T_init_5 : decode b_T_init 5 = .ok (.sipush 400, 3) := by decide +kernel
theorem d_T_init_8 : decode b_T_init 8 = .ok (.newarray .byte, 2) := by decide +kernel
theorem d_T_init_10 : decode b_T_init 10 = .ok (.putfield 9, 3) := by decide +kernel
theorem d_T_init_13 : decode b_T_init 13 = .ok (.aload_n 0, 1) := by decide +kernel
theorem d_T_init_14 : decode b_T_init 14 = .ok (.iconst (-1), 1) := by decide +kernel
theorem d_T_init_15 : decode b_T_init 15 = .ok (.putfield 15, 3) := by decide +kernel
theorem d_T_init_18 : decode b_T_init 18 = .ok (.return_, 1) := by decide +kernel
theorem ci_T_init : jm_ci jm_G y_T_init (Cond.code y_T_init b_T_init 1 (none)) 1 0 := ⟨jm_g1 40 rfl rfl, Or.inl ⟨_, _, rfl⟩, jm_g1 2 rfl rfl, ⟨by decide, by decide⟩, by decide +kernel⟩
theorem im_T_init : Cond.instanceMethod y_T_init ∈ jm_G := jm_g1 39 rfl rfl
def y_T_addWord : MethodName := ⟨"JobHouse$Text", "addWord", "(I)V"⟩
abbrev b_T_addWord : ByteArray := prog_9_method_2_code
theorem d_T_addWord_0 : decode b_T_addWord 0 = .ok (.bipush 24, 2) := by decide +kernel
theorem d_T_addWord_2 : decode b_T_addWord 2 = .ok (.istore_n 2, 1) := by decide +kernel
theorem d_T_addWord_3 : decode b_T_addWord 3 = .ok (.iload_n 2, 1) := by decide +kernel
theorem d_T_addWord_4 : decode b_T_addWord 4 = .ok (.ifCond .lt 42, 3) := by decide +kernel
theorem d_T_addWord_7 : decode b_T_addWord 7 = .ok (.aload_n 0, 1) := by decide +kernel
theorem d_T_addWord_8 : decode b_T_addWord 8 = .ok (.getfield 19, 3) := by decide +kernel
theorem d_T_addWord_11 : decode b_T_addWord 11 = .ok (.sipush 400, 3) := by decide +kernel
theorem d_T_addWord_14 : decode b_T_addWord 14 = .ok (.if_icmp .ge 32, 3) := by decide +kernel
theorem d_T_addWord_17 : decode b_T_addWord 17 = .ok (.aload_n 0, 1) := by decide +kernel
theorem d_T_addWord_18 : decode b_T_addWord 18 = .ok (.getfield 9, 3) := by decide +kernel
theorem d_T_addWord_21 : decode b_T_addWord 21 = .ok (.aload_n 0, 1) := by decide +kernel
theorem d_T_addWord_22 : decode b_T_addWord 22 = .ok (.getfield 19, 3) := by decide +kernel
theorem d_T_addWord_25 : decode b_T_addWord 25 = .ok (.iload_n 1, 1) := by decide +kernel
theorem d_T_addWord_26 : decode b_T_addWord 26 = .ok (.iload_n 2, 1) := by decide +kernel
theorem d_T_addWord_27 : decode b_T_addWord 27 = .ok (.ishr, 1) := by decide +kernel
theorem d_T_addWord_28 : decode b_T_addWord 28 = .ok (.i2b, 1) := by decide +kernel
theorem d_T_addWord_29 : decode b_T_addWord 29 = .ok (.bastore, 1) := by decide +kernel
theorem d_T_addWord_30 : decode b_T_addWord 30 = .ok (.aload_n 0, 1) := by decide +kernel
theorem d_T_addWord_31 : decode b_T_addWord 31 = .ok (.dup, 1) := by decide +kernel
theorem d_T_addWord_32 : decode b_T_addWord 32 = .ok (.getfield 19, 3) := by decide +kernel
theorem d_T_addWord_35 : decode b_T_addWord 35 = .ok (.iconst 1, 1) := by decide +kernel
theorem d_T_addWord_36 : decode b_T_addWord 36 = .ok (.iadd, 1) := by decide +kernel
theorem d_T_addWord_37 : decode b_T_addWord 37 = .ok (.putfield 19, 3) := by decide +kernel
theorem d_T_addWord_40 : decode b_T_addWord 40 = .ok (.iinc 2 (-8), 3) := by decide +kernel
theorem d_T_addWord_43 : decode b_T_addWord 43 = .ok (.goto (-40), 3) := by decide +kernel
theorem d_T_addWord_46 : decode b_T_addWord 46 = .ok (.return_, 1) := by decide +kernel
theorem ci_T_addWord : jm_ci jm_G y_T_addWord (Cond.code y_T_addWord b_T_addWord 3 (none)) 3 1 := ⟨jm_g2 155 rfl rfl, Or.inl ⟨_, _, rfl⟩, jm_g1 2 rfl rfl, ⟨by decide, by decide⟩, by decide +kernel⟩
theorem im_T_addWord : Cond.instanceMethod y_T_addWord ∈ jm_G := jm_g2 153 rfl rfl
theorem se_T_addWord : Cond.selects y_T_addWord.cls y_T_addWord y_T_addWord ∈ jm_G := jm_g2 154 rfl rfl
def y_T_rewind : MethodName := ⟨"JobHouse$Text", "rewind", "()V"⟩
abbrev b_T_rewind : ByteArray := prog_9_method_3_code
theorem d_T_rewind_0 : decode b_T_rewind 0 = .ok (.aload_n 0, 1) := by decide +kernel
theorem d_T_rewind_1 : decode b_T_rewind 1 = .ok (.iconst 0, 1) := by decide +kernel
theorem d_T_rewind_2 : decode b_T_rewind 2 = .ok (.putfield 22, 3) := by decide +kernel
theorem d_T_rewind_5 : decode b_T_rewind 5 = .ok (.aload_n 0, 1) := by decide +kernel
theorem d_T_rewind_6 : decode b_T_rewind 6 = .ok (.iconst (-1), 1) := by decide +kernel
theorem d_T_rewind_7 : decode b_T_rewind 7 = .ok (.putfield 15, 3) := by decide +kernel
theorem d_T_rewind_10 : decode b_T_rewind 10 = .ok (.return_, 1) := by decide +kernel
theorem ci_T_rewind : jm_ci jm_G y_T_rewind (Cond.code y_T_rewind b_T_rewind 1 (none)) 1 0 := ⟨jm_g2 194 rfl rfl, Or.inl ⟨_, _, rfl⟩, jm_g1 2 rfl rfl, ⟨by decide, by decide⟩, by decide +kernel⟩
theorem im_T_rewind : Cond.instanceMethod y_T_rewind ∈ jm_G := jm_g2 192 rfl rfl
theorem se_T_rewind : Cond.selects y_T_rewind.cls y_T_rewind y_T_rewind ∈ jm_G := jm_g2 193 rfl rfl
def y_T_breakAt : MethodName := ⟨"JobHouse$Text", "breakAt", "(I)V"⟩
abbrev b_T_breakAt : ByteArray := prog_9_method_4_code
theorem d_T_breakAt_0 : decode b_T_breakAt 0 = .ok (.aload_n 0, 1) := by decide +kernel
theorem d_T_breakAt_1 : decode b_T_breakAt 1 = .ok (.getfield 15, 3) := by decide +kernel
theorem d_T_breakAt_4 : decode b_T_breakAt 4 = .ok (.iconst (-1), 1) := by decide +kernel
theorem d_T_breakAt_5 : decode b_T_breakAt 5 = .ok (.if_icmp .ne 8, 3) := by decide +kernel
theorem d_T_breakAt_8 : decode b_T_breakAt 8 = .ok (.aload_n 0, 1) := by decide +kernel
theorem d_T_breakAt_9 : decode b_T_breakAt 9 = .ok (.iload_n 1, 1) := by decide +kernel
theorem d_T_breakAt_10 : decode b_T_breakAt 10 = .ok (.putfield 15, 3) := by decide +kernel
theorem d_T_breakAt_13 : decode b_T_breakAt 13 = .ok (.return_, 1) := by decide +kernel
theorem ci_T_breakAt : jm_ci jm_G y_T_breakAt (Cond.code y_T_breakAt b_T_breakAt 2 (none)) 2 1 := ⟨jm_g2 215 rfl rfl, Or.inl ⟨_, _, rfl⟩, jm_g1 2 rfl rfl, ⟨by decide, by decide⟩, by decide +kernel⟩
theorem im_T_breakAt : Cond.instanceMethod y_T_breakAt ∈ jm_G := jm_g2 213 rfl rfl
theorem se_T_breakAt : Cond.selects y_T_breakAt.cls y_T_breakAt y_T_breakAt ∈ jm_G := jm_g2 214 rfl rfl
def y_T_isDone : MethodName := ⟨"JobHouse$Text", "isDone", "()Z"⟩
abbrev b_T_isDone : ByteArray := prog_9_method_5_code
theorem d_T_isDone_0 : decode b_T_isDone 0 = .ok (.aload_n 0, 1) := by decide +kernel
theorem d_T_isDone_1 : decode b_T_isDone 1 = .ok (.invokevirtual 25, 3) := by decide +kernel
theorem d_T_isDone_4 : decode b_T_isDone 4 = .ok (.iconst (-1), 1) := by decide +kernel
theorem d_T_isDone_5 : decode b_T_isDone 5 = .ok (.if_icmp .ne 7, 3) := by decide +kernel
theorem d_T_isDone_8 : decode b_T_isDone 8 = .ok (.iconst 1, 1) := by decide +kernel
theorem d_T_isDone_9 : decode b_T_isDone 9 = .ok (.goto 4, 3) := by decide +kernel
theorem d_T_isDone_12 : decode b_T_isDone 12 = .ok (.iconst 0, 1) := by decide +kernel
theorem d_T_isDone_13 : decode b_T_isDone 13 = .ok (.ireturn, 1) := by decide +kernel
theorem ci_T_isDone : jm_ci jm_G y_T_isDone (Cond.code y_T_isDone b_T_isDone 1 (some FieldType.boolean)) 1 0 := ⟨jm_g2 230 rfl rfl, Or.inl ⟨_, _, rfl⟩, jm_g1 2 rfl rfl, ⟨by decide, by decide⟩, by decide +kernel⟩
theorem im_T_isDone : Cond.instanceMethod y_T_isDone ∈ jm_G := jm_g2 228 rfl rfl
theorem se_T_isDone : Cond.selects y_T_isDone.cls y_T_isDone y_T_isDone ∈ jm_G := jm_g2 229 rfl rfl
def y_T_peek : MethodName := ⟨"JobHouse$Text", "peek", "()I"⟩
abbrev b_T_peek : ByteArray := prog_9_method_6_code
theorem d_T_peek_0 : decode b_T_peek 0 = .ok (.aload_n 0, 1) := by decide +kernel
theorem d_T_peek_1 : decode b_T_peek 1 = .ok (.getfield 15, 3) := by decide +kernel
theorem d_T_peek_4 : decode b_T_peek 4 = .ok (.iconst (-1), 1) := by decide +kernel
theorem d_T_peek_5 : decode b_T_peek 5 = .ok (.if_icmp .ne 14, 3) := by decide +kernel
theorem d_T_peek_8 : decode b_T_peek 8 = .ok (.aload_n 0, 1) := by decide +kernel
theorem d_T_peek_9 : decode b_T_peek 9 = .ok (.getfield 22, 3) := by decide +kernel
theorem d_T_peek_12 : decode b_T_peek 12 = .ok (.aload_n 0, 1) := by decide +kernel
theorem d_T_peek_13 : decode b_T_peek 13 = .ok (.getfield 19, 3) := by decide +kernel
theorem d_T_peek_16 : decode b_T_peek 16 = .ok (.if_icmp .lt 7, 3) := by decide +kernel
theorem d_T_peek_19 : decode b_T_peek 19 = .ok (.iconst (-1), 1) := by decide +kernel
theorem d_T_peek_20 : decode b_T_peek 20 = .ok (.goto 16, 3) := by decide +kernel
theorem d_T_peek_23 : decode b_T_peek 23 = .ok (.aload_n 0, 1) := by decide +kernel
theorem d_T_peek_24 : decode b_T_peek 24 = .ok (.getfield 9, 3) := by decide +kernel
theorem d_T_peek_27 : decode b_T_peek 27 = .ok (.aload_n 0, 1) := by decide +kernel
theorem d_T_peek_28 : decode b_T_peek 28 = .ok (.getfield 22, 3) := by decide +kernel
theorem d_T_peek_31 : decode b_T_peek 31 = .ok (.baload, 1) := by decide +kernel
theorem d_T_peek_32 : decode b_T_peek 32 = .ok (.sipush 255, 3) := by decide +kernel
theorem d_T_peek_35 : decode b_T_peek 35 = .ok (.iand, 1) := by decide +kernel
theorem d_T_peek_36 : decode b_T_peek 36 = .ok (.ireturn, 1) := by decide +kernel
theorem ci_T_peek : jm_ci jm_G y_T_peek (Cond.code y_T_peek b_T_peek 1 (some FieldType.int)) 1 0 := ⟨jm_g2 206 rfl rfl, Or.inl ⟨_, _, rfl⟩, jm_g1 2 rfl rfl, ⟨by decide, by decide⟩, by decide +kernel⟩
theorem im_T_peek : Cond.instanceMethod y_T_peek ∈ jm_G := jm_g2 204 rfl rfl
theorem se_T_peek : Cond.selects y_T_peek.cls y_T_peek y_T_peek ∈ jm_G := jm_g2 205 rfl rfl
def y_T_take : MethodName := ⟨"JobHouse$Text", "take", "(I)Z"⟩
abbrev b_T_take : ByteArray := prog_9_method_7_code
theorem d_T_take_0 : decode b_T_take 0 = .ok (.aload_n 0, 1) := by decide +kernel
theorem d_T_take_1 : decode b_T_take 1 = .ok (.invokevirtual 25, 3) := by decide +kernel
theorem d_T_take_4 : decode b_T_take 4 = .ok (.iload_n 1, 1) := by decide +kernel
theorem d_T_take_5 : decode b_T_take 5 = .ok (.if_icmp .eq 5, 3) := by decide +kernel
theorem d_T_take_8 : decode b_T_take 8 = .ok (.iconst 0, 1) := by decide +kernel
theorem d_T_take_9 : decode b_T_take 9 = .ok (.ireturn, 1) := by decide +kernel
theorem d_T_take_10 : decode b_T_take 10 = .ok (.aload_n 0, 1) := by decide +kernel
theorem d_T_take_11 : decode b_T_take 11 = .ok (.dup, 1) := by decide +kernel
theorem d_T_take_12 : decode b_T_take 12 = .ok (.getfield 22, 3) := by decide +kernel
theorem d_T_take_15 : decode b_T_take 15 = .ok (.iconst 1, 1) := by decide +kernel
theorem d_T_take_16 : decode b_T_take 16 = .ok (.iadd, 1) := by decide +kernel
theorem d_T_take_17 : decode b_T_take 17 = .ok (.putfield 22, 3) := by decide +kernel
theorem d_T_take_20 : decode b_T_take 20 = .ok (.iconst 1, 1) := by decide +kernel
theorem d_T_take_21 : decode b_T_take 21 = .ok (.ireturn, 1) := by decide +kernel
theorem ci_T_take : jm_ci jm_G y_T_take (Cond.code y_T_take b_T_take 2 (some FieldType.boolean)) 2 1 := ⟨jm_g2 202 rfl rfl, Or.inl ⟨_, _, rfl⟩, jm_g1 2 rfl rfl, ⟨by decide, by decide⟩, by decide +kernel⟩
theorem im_T_take : Cond.instanceMethod y_T_take ∈ jm_G := jm_g2 200 rfl rfl
theorem se_T_take : Cond.selects y_T_take.cls y_T_take y_T_take ∈ jm_G := jm_g2 201 rfl rfl
def y_T_require : MethodName := ⟨"JobHouse$Text", "require", "(I)V"⟩
abbrev b_T_require : ByteArray := prog_9_method_8_code
theorem d_T_require_0 : decode b_T_require 0 = .ok (.aload_n 0, 1) := by decide +kernel
theorem d_T_require_1 : decode b_T_require 1 = .ok (.iload_n 1, 1) := by decide +kernel
theorem d_T_require_2 : decode b_T_require 2 = .ok (.invokevirtual 29, 3) := by decide +kernel
theorem d_T_require_5 : decode b_T_require 5 = .ok (.ifCond .ne 11, 3) := by decide +kernel
theorem d_T_require_8 : decode b_T_require 8 = .ok (.aload_n 0, 1) := by decide +kernel
theorem d_T_require_9 : decode b_T_require 9 = .ok (.aload_n 0, 1) := by decide +kernel
theorem d_T_require_10 : decode b_T_require 10 = .ok (.getfield 22, 3) := by decide +kernel
theorem d_T_require_13 : decode b_T_require 13 = .ok (.invokevirtual 33, 3) := by decide +kernel
theorem d_T_require_16 : decode b_T_require 16 = .ok (.return_, 1) := by decide +kernel
theorem ci_T_require : jm_ci jm_G y_T_require (Cond.code y_T_require b_T_require 2 (none)) 2 1 := ⟨jm_g2 210 rfl rfl, Or.inl ⟨_, _, rfl⟩, jm_g1 2 rfl rfl, ⟨by decide, by decide⟩, by decide +kernel⟩
theorem im_T_require : Cond.instanceMethod y_T_require ∈ jm_G := jm_g2 208 rfl rfl
theorem se_T_require : Cond.selects y_T_require.cls y_T_require y_T_require ∈ jm_G := jm_g2 209 rfl rfl
def y_T_requireBlanks : MethodName := ⟨"JobHouse$Text", "requireBlanks", "()V"⟩
abbrev b_T_requireBlanks : ByteArray := prog_9_method_9_code
theorem d_T_requireBlanks_0 : decode b_T_requireBlanks 0 = .ok (.aload_n 0, 1) := by decide +kernel
theorem d_T_requireBlanks_1 : decode b_T_requireBlanks 1 = .ok (.bipush 32, 2) := by decide +kernel
theorem d_T_requireBlanks_3 : decode b_T_requireBlanks 3 = .ok (.invokevirtual 37, 3) := by decide +kernel
theorem d_T_requireBlanks_6 : decode b_T_requireBlanks 6 = .ok (.aload_n 0, 1) := by decide +kernel
theorem d_T_requireBlanks_7 : decode b_T_requireBlanks 7 = .ok (.getfield 22, 3) := by decide +kernel
theorem d_T_requireBlanks_10 : decode b_T_requireBlanks 10 = .ok (.aload_n 0, 1) := by decide +kernel
theorem d_T_requireBlanks_11 : decode b_T_requireBlanks 11 = .ok (.getfield 19, 3) := by decide +kernel
theorem d_T_requireBlanks_14 : decode b_T_requireBlanks 14 = .ok (.if_icmp .ge 30, 3) := by decide +kernel
theorem d_T_requireBlanks_17 : decode b_T_requireBlanks 17 = .ok (.aload_n 0, 1) := by decide +kernel
theorem d_T_requireBlanks_18 : decode b_T_requireBlanks 18 = .ok (.getfield 9, 3) := by decide +kernel
theorem d_T_requireBlanks_21 : decode b_T_requireBlanks 21 = .ok (.aload_n 0, 1) := by decide +kernel
theorem d_T_requireBlanks_22 : decode b_T_requireBlanks 22 = .ok (.getfield 22, 3) := by decide +kernel
theorem d_T_requireBlanks_25 : decode b_T_requireBlanks 25 = .ok (.baload, 1) := by decide +kernel
theorem d_T_requireBlanks_26 : decode b_T_requireBlanks 26 = .ok (.bipush 32, 2) := by decide +kernel
theorem d_T_requireBlanks_28 : decode b_T_requireBlanks 28 = .ok (.if_icmp .ne 16, 3) := by decide +kernel
theorem d_T_requireBlanks_31 : decode b_T_requireBlanks 31 = .ok (.aload_n 0, 1) := by decide +kernel
theorem d_T_requireBlanks_32 : decode b_T_requireBlanks 32 = .ok (.dup, 1) := by decide +kernel
theorem d_T_requireBlanks_33 : decode b_T_requireBlanks 33 = .ok (.getfield 22, 3) := by decide +kernel
theorem d_T_requireBlanks_36 : decode b_T_requireBlanks 36 = .ok (.iconst 1, 1) := by decide +kernel
theorem d_T_requireBlanks_37 : decode b_T_requireBlanks 37 = .ok (.iadd, 1) := by decide +kernel
theorem d_T_requireBlanks_38 : decode b_T_requireBlanks 38 = .ok (.putfield 22, 3) := by decide +kernel
theorem d_T_requireBlanks_41 : decode b_T_requireBlanks 41 = .ok (.goto (-35), 3) := by decide +kernel
theorem d_T_requireBlanks_44 : decode b_T_requireBlanks 44 = .ok (.return_, 1) := by decide +kernel
theorem ci_T_requireBlanks : jm_ci jm_G y_T_requireBlanks (Cond.code y_T_requireBlanks b_T_requireBlanks 1 (none)) 1 0 := ⟨jm_g2 234 rfl rfl, Or.inl ⟨_, _, rfl⟩, jm_g1 2 rfl rfl, ⟨by decide, by decide⟩, by decide +kernel⟩
theorem im_T_requireBlanks : Cond.instanceMethod y_T_requireBlanks ∈ jm_G := jm_g2 232 rfl rfl
theorem se_T_requireBlanks : Cond.selects y_T_requireBlanks.cls y_T_requireBlanks y_T_requireBlanks ∈ jm_G := jm_g2 233 rfl rfl
def y_T_requireEnd : MethodName := ⟨"JobHouse$Text", "requireEnd", "()V"⟩
abbrev b_T_requireEnd : ByteArray := prog_9_method_10_code
theorem d_T_requireEnd_0 : decode b_T_requireEnd 0 = .ok (.aload_n 0, 1) := by decide +kernel
theorem d_T_requireEnd_1 : decode b_T_requireEnd 1 = .ok (.invokevirtual 40, 3) := by decide +kernel
theorem d_T_requireEnd_4 : decode b_T_requireEnd 4 = .ok (.ifCond .ne 11, 3) := by decide +kernel
theorem d_T_requireEnd_7 : decode b_T_requireEnd 7 = .ok (.aload_n 0, 1) := by decide +kernel
theorem d_T_requireEnd_8 : decode b_T_requireEnd 8 = .ok (.aload_n 0, 1) := by decide +kernel
theorem d_T_requireEnd_9 : decode b_T_requireEnd 9 = .ok (.getfield 22, 3) := by decide +kernel
theorem d_T_requireEnd_12 : decode b_T_requireEnd 12 = .ok (.invokevirtual 33, 3) := by decide +kernel
theorem d_T_requireEnd_15 : decode b_T_requireEnd 15 = .ok (.return_, 1) := by decide +kernel
theorem ci_T_requireEnd : jm_ci jm_G y_T_requireEnd (Cond.code y_T_requireEnd b_T_requireEnd 1 (none)) 1 0 := ⟨jm_g3 5 rfl rfl, Or.inl ⟨_, _, rfl⟩, jm_g1 2 rfl rfl, ⟨by decide, by decide⟩, by decide +kernel⟩
theorem im_T_requireEnd : Cond.instanceMethod y_T_requireEnd ∈ jm_G := jm_g3 3 rfl rfl
theorem se_T_requireEnd : Cond.selects y_T_requireEnd.cls y_T_requireEnd y_T_requireEnd ∈ jm_G := jm_g3 4 rfl rfl
def y_T_number : MethodName := ⟨"JobHouse$Text", "number", "(II)I"⟩
abbrev b_T_number : ByteArray := prog_9_method_11_code
theorem d_T_number_0 : decode b_T_number 0 = .ok (.aload_n 0, 1) := by decide +kernel
theorem d_T_number_1 : decode b_T_number 1 = .ok (.getfield 22, 3) := by decide +kernel
theorem d_T_number_4 : decode b_T_number 4 = .ok (.istore_n 3, 1) := by decide +kernel
theorem d_T_number_5 : decode b_T_number 5 = .ok (.iconst 0, 1) := by decide +kernel
theorem d_T_number_6 : decode b_T_number 6 = .ok (.istore 4, 2) := by decide +kernel
theorem d_T_number_8 : decode b_T_number 8 = .ok (.aload_n 0, 1) := by decide +kernel
theorem d_T_number_9 : decode b_T_number 9 = .ok (.invokevirtual 25, 3) := by decide +kernel
theorem d_T_number_12 : decode b_T_number 12 = .ok (.bipush 48, 2) := by decide +kernel
theorem d_T_number_14 : decode b_T_number 14 = .ok (.if_icmp .ne 7, 3) := by decide +kernel
theorem d_T_number_17 : decode b_T_number 17 = .ok (.iconst 1, 1) := by decide +kernel
theorem d_T_number_18 : decode b_T_number 18 = .ok (.goto 4, 3) := by decide +kernel
theorem d_T_number_21 : decode b_T_number 21 = .ok (.iconst 0, 1) := by decide +kernel
theorem d_T_number_22 : decode b_T_number 22 = .ok (.istore 5, 2) := by decide +kernel
theorem d_T_number_24 : decode b_T_number 24 = .ok (.aload_n 0, 1) := by decide +kernel
theorem d_T_number_25 : decode b_T_number 25 = .ok (.getfield 22, 3) := by decide +kernel
theorem d_T_number_28 : decode b_T_number 28 = .ok (.aload_n 0, 1) := by decide +kernel
theorem d_T_number_29 : decode b_T_number 29 = .ok (.getfield 19, 3) := by decide +kernel
theorem d_T_number_32 : decode b_T_number 32 = .ok (.if_icmp .ge 59, 3) := by decide +kernel
theorem d_T_number_35 : decode b_T_number 35 = .ok (.aload_n 0, 1) := by decide +kernel
theorem d_T_number_36 : decode b_T_number 36 = .ok (.invokevirtual 25, 3) := by decide +kernel
theorem d_T_number_39 : decode b_T_number 39 = .ok (.invokestatic 44, 3) := by decide +kernel
theorem d_T_number_42 : decode b_T_number 42 = .ok (.ifCond .eq 49, 3) := by decide +kernel
theorem d_T_number_45 : decode b_T_number 45 = .ok (.iload 5, 2) := by decide +kernel
theorem d_T_number_47 : decode b_T_number 47 = .ok (.ifCond .eq 11, 3) := by decide +kernel
theorem d_T_number_50 : decode b_T_number 50 = .ok (.aload_n 0, 1) := by decide +kernel
theorem d_T_number_51 : decode b_T_number 51 = .ok (.getfield 22, 3) := by decide +kernel
theorem d_T_number_54 : decode b_T_number 54 = .ok (.iload_n 3, 1) := by decide +kernel
theorem d_T_number_55 : decode b_T_number 55 = .ok (.if_icmp .gt 36, 3) := by decide +kernel
theorem d_T_number_58 : decode b_T_number 58 = .ok (.iload 4, 2) := by decide +kernel
theorem d_T_number_60 : decode b_T_number 60 = .ok (.bipush 10, 2) := by decide +kernel
theorem d_T_number_62 : decode b_T_number 62 = .ok (.imul, 1) := by decide +kernel
theorem d_T_number_63 : decode b_T_number 63 = .ok (.aload_n 0, 1) := by decide +kernel
theorem d_T_number_64 : decode b_T_number 64 = .ok (.invokevirtual 25, 3) := by decide +kernel
theorem d_T_number_67 : decode b_T_number 67 = .ok (.iadd, 1) := by decide +kernel
theorem d_T_number_68 : decode b_T_number 68 = .ok (.bipush 48, 2) := by decide +kernel
theorem d_T_number_70 : decode b_T_number 70 = .ok (.isub, 1) := by decide +kernel
theorem d_T_number_71 : decode b_T_number 71 = .ok (.ldc 47, 2) := by decide +kernel
theorem d_T_number_73 : decode b_T_number 73 = .ok (.invokestatic 48, 3) := by decide +kernel
theorem d_T_number_76 : decode b_T_number 76 = .ok (.istore 4, 2) := by decide +kernel
theorem d_T_number_78 : decode b_T_number 78 = .ok (.aload_n 0, 1) := by decide +kernel
theorem d_T_number_79 : decode b_T_number 79 = .ok (.dup, 1) := by decide +kernel
theorem d_T_number_80 : decode b_T_number 80 = .ok (.getfield 22, 3) := by decide +kernel
theorem d_T_number_83 : decode b_T_number 83 = .ok (.iconst 1, 1) := by decide +kernel
theorem d_T_number_84 : decode b_T_number 84 = .ok (.iadd, 1) := by decide +kernel
theorem d_T_number_85 : decode b_T_number 85 = .ok (.putfield 22, 3) := by decide +kernel
theorem d_T_number_88 : decode b_T_number 88 = .ok (.goto (-64), 3) := by decide +kernel
theorem d_T_number_91 : decode b_T_number 91 = .ok (.aload_n 0, 1) := by decide +kernel
theorem d_T_number_92 : decode b_T_number 92 = .ok (.getfield 22, 3) := by decide +kernel
theorem d_T_number_95 : decode b_T_number 95 = .ok (.iload_n 3, 1) := by decide +kernel
theorem d_T_number_96 : decode b_T_number 96 = .ok (.if_icmp .eq 15, 3) := by decide +kernel
theorem d_T_number_99 : decode b_T_number 99 = .ok (.iload 4, 2) := by decide +kernel
theorem d_T_number_101 : decode b_T_number 101 = .ok (.iload_n 1, 1) := by decide +kernel
theorem d_T_number_102 : decode b_T_number 102 = .ok (.if_icmp .lt 9, 3) := by decide +kernel
theorem d_T_number_105 : decode b_T_number 105 = .ok (.iload 4, 2) := by decide +kernel
theorem d_T_number_107 : decode b_T_number 107 = .ok (.iload_n 2, 1) := by decide +kernel
theorem d_T_number_108 : decode b_T_number 108 = .ok (.if_icmp .le 8, 3) := by decide +kernel
theorem d_T_number_111 : decode b_T_number 111 = .ok (.aload_n 0, 1) := by decide +kernel
theorem d_T_number_112 : decode b_T_number 112 = .ok (.iload_n 3, 1) := by decide +kernel
theorem d_T_number_113 : decode b_T_number 113 = .ok (.invokevirtual 33, 3) := by decide +kernel
theorem d_T_number_116 : decode b_T_number 116 = .ok (.aload_n 0, 1) := by decide +kernel
theorem d_T_number_117 : decode b_T_number 117 = .ok (.getfield 15, 3) := by decide +kernel
theorem d_T_number_120 : decode b_T_number 120 = .ok (.iconst (-1), 1) := by decide +kernel
theorem d_T_number_121 : decode b_T_number 121 = .ok (.if_icmp .ne 8, 3) := by decide +kernel
theorem d_T_number_124 : decode b_T_number 124 = .ok (.iload 4, 2) := by decide +kernel
theorem d_T_number_126 : decode b_T_number 126 = .ok (.goto 4, 3) := by decide +kernel
theorem d_T_number_129 : decode b_T_number 129 = .ok (.iload_n 1, 1) := by decide +kernel
theorem d_T_number_130 : decode b_T_number 130 = .ok (.ireturn, 1) := by decide +kernel
theorem ci_T_number : jm_ci jm_G y_T_number (Cond.code y_T_number b_T_number 6 (some FieldType.int)) 6 2 := ⟨jm_g2 219 rfl rfl, Or.inl ⟨_, _, rfl⟩, jm_g1 2 rfl rfl, ⟨by decide, by decide⟩, by decide +kernel⟩
theorem im_T_number : Cond.instanceMethod y_T_number ∈ jm_G := jm_g2 217 rfl rfl
theorem se_T_number : Cond.selects y_T_number.cls y_T_number y_T_number ∈ jm_G := jm_g2 218 rfl rfl
def y_T_takeName : MethodName := ⟨"JobHouse$Text", "takeName", "(Ljava/lang/String;)I"⟩
abbrev b_T_takeName : ByteArray := prog_9_method_12_code
theorem d_T_takeName_0 : decode b_T_takeName 0 = .ok (.aload_n 0, 1) := by decide +kernel
theorem d_T_takeName_1 : decode b_T_takeName 1 = .ok (.getfield 15, 3) := by decide +kernel
theorem d_T_takeName_4 : decode b_T_takeName 4 = .ok (.iconst (-1), 1) := by decide +kernel
theorem d_T_takeName_5 : decode b_T_takeName 5 = .ok (.if_icmp .ne 20, 3) := by decide +kernel
theorem d_T_takeName_8 : decode b_T_takeName 8 = .ok (.aload_n 0, 1) := by decide +kernel
theorem d_T_takeName_9 : decode b_T_takeName 9 = .ok (.getfield 22, 3) := by decide +kernel
theorem d_T_takeName_12 : decode b_T_takeName 12 = .ok (.iconst 3, 1) := by decide +kernel
theorem d_T_takeName_13 : decode b_T_takeName 13 = .ok (.iadd, 1) := by decide +kernel
theorem d_T_takeName_14 : decode b_T_takeName 14 = .ok (.aload_n 0, 1) := by decide +kernel
theorem d_T_takeName_15 : decode b_T_takeName 15 = .ok (.getfield 19, 3) := by decide +kernel
theorem d_T_takeName_18 : decode b_T_takeName 18 = .ok (.if_icmp .gt 7, 3) := by decide +kernel
theorem d_T_takeName_21 : decode b_T_takeName 21 = .ok (.iconst 1, 1) := by decide +kernel
theorem d_T_takeName_22 : decode b_T_takeName 22 = .ok (.goto 4, 3) := by decide +kernel
theorem d_T_takeName_25 : decode b_T_takeName 25 = .ok (.iconst 0, 1) := by decide +kernel
theorem d_T_takeName_26 : decode b_T_takeName 26 = .ok (.istore_n 2, 1) := by decide +kernel
theorem d_T_takeName_27 : decode b_T_takeName 27 = .ok (.iconst 0, 1) := by decide +kernel
theorem d_T_takeName_28 : decode b_T_takeName 28 = .ok (.istore_n 3, 1) := by decide +kernel
theorem d_T_takeName_29 : decode b_T_takeName 29 = .ok (.iload_n 2, 1) := by decide +kernel
theorem d_T_takeName_30 : decode b_T_takeName 30 = .ok (.ifCond .eq 92, 3) := by decide +kernel
theorem d_T_takeName_33 : decode b_T_takeName 33 = .ok (.iload_n 3, 1) := by decide +kernel
theorem d_T_takeName_34 : decode b_T_takeName 34 = .ok (.iconst 3, 1) := by decide +kernel
theorem d_T_takeName_35 : decode b_T_takeName 35 = .ok (.iadd, 1) := by decide +kernel
theorem d_T_takeName_36 : decode b_T_takeName 36 = .ok (.aload_n 1, 1) := by decide +kernel
theorem d_T_takeName_37 : decode b_T_takeName 37 = .ok (.invokevirtual 54, 3) := by decide +kernel
theorem d_T_takeName_40 : decode b_T_takeName 40 = .ok (.if_icmp .gt 82, 3) := by decide +kernel
theorem d_T_takeName_43 : decode b_T_takeName 43 = .ok (.aload_n 0, 1) := by decide +kernel
theorem d_T_takeName_44 : decode b_T_takeName 44 = .ok (.getfield 9, 3) := by decide +kernel
theorem d_T_takeName_47 : decode b_T_takeName 47 = .ok (.aload_n 0, 1) := by decide +kernel
theorem d_T_takeName_48 : decode b_T_takeName 48 = .ok (.getfield 22, 3) := by decide +kernel
theorem d_T_takeName_51 : decode b_T_takeName 51 = .ok (.baload, 1) := by decide +kernel
theorem d_T_takeName_52 : decode b_T_takeName 52 = .ok (.aload_n 1, 1) := by decide +kernel
theorem d_T_takeName_53 : decode b_T_takeName 53 = .ok (.iload_n 3, 1) := by decide +kernel
theorem d_T_takeName_54 : decode b_T_takeName 54 = .ok (.invokevirtual 58, 3) := by decide +kernel
theorem d_T_takeName_57 : decode b_T_takeName 57 = .ok (.if_icmp .ne 59, 3) := by decide +kernel
theorem d_T_takeName_60 : decode b_T_takeName 60 = .ok (.aload_n 0, 1) := by decide +kernel
theorem d_T_takeName_61 : decode b_T_takeName 61 = .ok (.getfield 9, 3) := by decide +kernel
theorem d_T_takeName_64 : decode b_T_takeName 64 = .ok (.aload_n 0, 1) := by decide +kernel
theorem d_T_takeName_65 : decode b_T_takeName 65 = .ok (.getfield 22, 3) := by decide +kernel
theorem d_T_takeName_68 : decode b_T_takeName 68 = .ok (.iconst 1, 1) := by decide +kernel
theorem d_T_takeName_69 : decode b_T_takeName 69 = .ok (.iadd, 1) := by decide +kernel
theorem d_T_takeName_70 : decode b_T_takeName 70 = .ok (.baload, 1) := by decide +kernel
theorem d_T_takeName_71 : decode b_T_takeName 71 = .ok (.aload_n 1, 1) := by decide +kernel
theorem d_T_takeName_72 : decode b_T_takeName 72 = .ok (.iload_n 3, 1) := by decide +kernel
theorem d_T_takeName_73 : decode b_T_takeName 73 = .ok (.iconst 1, 1) := by decide +kernel
theorem d_T_takeName_74 : decode b_T_takeName 74 = .ok (.iadd, 1) := by decide +kernel
theorem d_T_takeName_75 : decode b_T_takeName 75 = .ok (.invokevirtual 58, 3) := by decide +kernel
theorem d_T_takeName_78 : decode b_T_takeName 78 = .ok (.if_icmp .ne 38, 3) := by decide +kernel
theorem d_T_takeName_81 : decode b_T_takeName 81 = .ok (.aload_n 0, 1) := by decide +kernel
theorem d_T_takeName_82 : decode b_T_takeName 82 = .ok (.getfield 9, 3) := by decide +kernel
theorem d_T_takeName_85 : decode b_T_takeName 85 = .ok (.aload_n 0, 1) := by decide +kernel
theorem d_T_takeName_86 : decode b_T_takeName 86 = .ok (.getfield 22, 3) := by decide +kernel
theorem d_T_takeName_89 : decode b_T_takeName 89 = .ok (.iconst 2, 1) := by decide +kernel
theorem d_T_takeName_90 : decode b_T_takeName 90 = .ok (.iadd, 1) := by decide +kernel
theorem d_T_takeName_91 : decode b_T_takeName 91 = .ok (.baload, 1) := by decide +kernel
theorem d_T_takeName_92 : decode b_T_takeName 92 = .ok (.aload_n 1, 1) := by decide +kernel
theorem d_T_takeName_93 : decode b_T_takeName 93 = .ok (.iload_n 3, 1) := by decide +kernel
theorem d_T_takeName_94 : decode b_T_takeName 94 = .ok (.iconst 2, 1) := by decide +kernel
theorem d_T_takeName_95 : decode b_T_takeName 95 = .ok (.iadd, 1) := by decide +kernel
theorem d_T_takeName_96 : decode b_T_takeName 96 = .ok (.invokevirtual 58, 3) := by decide +kernel
theorem d_T_takeName_99 : decode b_T_takeName 99 = .ok (.if_icmp .ne 17, 3) := by decide +kernel
theorem d_T_takeName_102 : decode b_T_takeName 102 = .ok (.aload_n 0, 1) := by decide +kernel
theorem d_T_takeName_103 : decode b_T_takeName 103 = .ok (.dup, 1) := by decide +kernel
theorem d_T_takeName_104 : decode b_T_takeName 104 = .ok (.getfield 22, 3) := by decide +kernel
theorem d_T_takeName_107 : decode b_T_takeName 107 = .ok (.iconst 3, 1) := by decide +kernel
theorem d_T_takeName_108 : decode b_T_takeName 108 = .ok (.iadd, 1) := by decide +kernel
theorem d_T_takeName_109 : decode b_T_takeName 109 = .ok (.putfield 22, 3) := by decide +kernel
theorem d_T_takeName_112 : decode b_T_takeName 112 = .ok (.iload_n 3, 1) := by decide +kernel
theorem d_T_takeName_113 : decode b_T_takeName 113 = .ok (.iconst 3, 1) := by decide +kernel
theorem d_T_takeName_114 : decode b_T_takeName 114 = .ok (.idiv, 1) := by decide +kernel
theorem d_T_takeName_115 : decode b_T_takeName 115 = .ok (.ireturn, 1) := by decide +kernel
theorem d_T_takeName_116 : decode b_T_takeName 116 = .ok (.iinc 3 3, 3) := by decide +kernel
theorem d_T_takeName_119 : decode b_T_takeName 119 = .ok (.goto (-90), 3) := by decide +kernel
theorem d_T_takeName_122 : decode b_T_takeName 122 = .ok (.iconst (-1), 1) := by decide +kernel
theorem d_T_takeName_123 : decode b_T_takeName 123 = .ok (.ireturn, 1) := by decide +kernel
theorem ci_T_takeName : jm_ci jm_G y_T_takeName (Cond.code y_T_takeName b_T_takeName 4 (some FieldType.int)) 4 1 := ⟨jm_g3 61 rfl rfl, Or.inl ⟨_, _, rfl⟩, jm_g1 2 rfl rfl, ⟨by decide, by decide⟩, by decide +kernel⟩
theorem im_T_takeName : Cond.instanceMethod y_T_takeName ∈ jm_G := jm_g3 59 rfl rfl
theorem se_T_takeName : Cond.selects y_T_takeName.cls y_T_takeName y_T_takeName ∈ jm_G := jm_g3 60 rfl rfl
def y_T_isDigit : MethodName := ⟨"JobHouse$Text", "isDigit", "(I)Z"⟩
abbrev b_T_isDigit : ByteArray := prog_9_method_13_code
theorem d_T_isDigit_0 : decode b_T_isDigit 0 = .ok (.iload_n 0, 1) := by decide +kernel
theorem d_T_isDigit_1 : decode b_T_isDigit 1 = .ok (.bipush 48, 2) := by decide +kernel
theorem d_T_isDigit_3 : decode b_T_isDigit 3 = .ok (.if_icmp .lt 13, 3) := by decide +kernel
theorem d_T_isDigit_6 : decode b_T_isDigit 6 = .ok (.iload_n 0, 1) := by decide +kernel
theorem d_T_isDigit_7 : decode b_T_isDigit 7 = .ok (.bipush 57, 2) := by decide +kernel
theorem d_T_isDigit_9 : decode b_T_isDigit 9 = .ok (.if_icmp .gt 7, 3) := by decide +kernel
theorem d_T_isDigit_12 : decode b_T_isDigit 12 = .ok (.iconst 1, 1) := by decide +kernel
theorem d_T_isDigit_13 : decode b_T_isDigit 13 = .ok (.goto 4, 3) := by decide +kernel
theorem d_T_isDigit_16 : decode b_T_isDigit 16 = .ok (.iconst 0, 1) := by decide +kernel
theorem d_T_isDigit_17 : decode b_T_isDigit 17 = .ok (.ireturn, 1) := by decide +kernel
theorem ci_T_isDigit : jm_ci jm_G y_T_isDigit (Cond.code y_T_isDigit b_T_isDigit 1 (some FieldType.boolean)) 1 1 := ⟨jm_g2 222 rfl rfl, Or.inl ⟨_, _, rfl⟩, jm_g1 2 rfl rfl, ⟨by decide, by decide⟩, by decide +kernel⟩
theorem st_T_isDigit : Cond.static y_T_isDigit ∈ jm_G := jm_g2 221 rfl rfl
end
section
theorem fs_T_22 : jm_fs jm_cl jm_G "JobHouse$Text" 22 1 2 (.int) false := ⟨_, jn_T1, 4, jn_y1, rfl, by decide, jn_i1, jn_o1, jn_n1, rfl, rfl, by decide +kernel, Or.inl (jm_g1 45 rfl rfl)⟩
theorem fs_T_15 : jm_fs jm_cl jm_G "JobHouse$Text" 15 1 3 (.int) false := ⟨_, jn_T1, 4, jn_y1, rfl, by decide, jn_i1, jn_o1, jn_n1, rfl, rfl, by decide +kernel, Or.inl (jm_g1 47 rfl rfl)⟩
theorem fs_T_19 : jm_fs jm_cl jm_G "JobHouse$Text" 19 1 1 (.int) false := ⟨_, jn_T1, 4, jn_y1, rfl, by decide, jn_i1, jn_o1, jn_n1, rfl, rfl, by decide +kernel, Or.inl (jm_g1 44 rfl rfl)⟩
theorem fs_T_9 : jm_fs jm_cl jm_G "JobHouse$Text" 9 1 0 (.array .byte) true := ⟨_, jn_T1, 4, jn_y1, rfl, by decide, jn_i1, jn_o1, jn_n1, rfl, rfl, by decide +kernel, Or.inl (jm_g1 42 rfl rfl)⟩
theorem jm_in {N : Nat} {i n M : Int32} (h0 : 0 ≤ i) (h1 : ¬ n ≤ i) (h2 : n ≤ M) (hM : M.toInt = N) : vp_in i N := by
  rw [vp_in_iff]
  simp only [Int32.le_iff_toInt_le] at *
  have h3 : (0 : Int32).toInt = 0 := rfl
  omega
theorem jm_inl {N : Nat} {i n M : Int32} (h0 : 0 ≤ i) (h1 : i < n) (h2 : n ≤ M) (hM : M.toInt = N) : vp_in i N := by
  rw [vp_in_iff]
  simp only [Int32.le_iff_toInt_le, Int32.lt_iff_toInt_lt] at *
  have h3 : (0 : Int32).toInt = 0 := rfl
  omega
def f_T_rewind_a_2 (len : Int32) (at_ : Int32) (br : Int32) (f : Nat → Int32) : Int32 :=
  0
def f_T_rewind_a_3 (len : Int32) (at_ : Int32) (br : Int32) (f : Nat → Int32) : Int32 :=
  -1
set_option maxRecDepth 20000 in
set_option maxHeartbeats 4000000 in
theorem k_T_rewind {l : Launch} {S : State} {D : va_G} {dA : Nat → ClassId} (E : jm_en S D jm_cl (jm_ty dA) jm_G) (a : Nat) (q : Nat) (len : Int32) (at_ : Int32) (br : Int32) (f : Nat → Int32) (h : jm_H) (h_a : h a = some (.inr (1, [.ref q, .int len, .int at_, .int br]))) (h_q : h q = some (.inl (dA 0, 400, .inl f))) (hnd : ([a, q] : List Nat).Nodup)  : jm_M l S D jm_cl y_T_rewind (Cond.code y_T_rewind b_T_rewind 1 (none)) { frames := 0, cells := 0, slots := 0, locals := 0 } [.ref a] h (jm_R none (jm_us h [(a, .inr (1, [.ref q, .int len, .int (f_T_rewind_a_2 len at_ br f), .int (f_T_rewind_a_3 len at_ br f)])), (q, .inl (dA 0, 400, .inl f))])) 0 0 := by
  refine jm_ofW E (by decide) (Nat.le_of_ble_eq_true rfl) (fun p e s m below meth c X hr hk hmn hout hadm => ?_)
  have X : jm_cx p s m ([.ref a] : List Value).toArray c S D jm_cl (jm_ty dA) jm_G b_T_rewind 1 "JobHouse$Text" := X
  have hL : ∀ zz ∈ ([(a, .inr (1, [.ref q, .int len, .int at_, .int br])), (q, .inl (dA 0, 400, .inl f))] : List (Nat × va_E)), h zz.1 = some zz.2 := List.forall_mem_cons.mpr ⟨h_a, List.forall_mem_cons.mpr ⟨h_q, fun _ hz => absurd hz List.not_mem_nil⟩⟩
  refine jm_hq (jm_us_id hL).symm ?_
  show jm_W p l e ({ frames := 0, cells := 0, slots := 0, locals := 0 }) s m ([.ref a] : List Value).toArray below meth c S D jm_cl (jm_Q S D jm_cl below s (jm_R none (jm_us h [(a, .inr (1, [.ref q, .int len, .int (f_T_rewind_a_2 len at_ br f), .int (f_T_rewind_a_3 len at_ br f)])), (q, .inl (dA 0, 400, .inl f))])) 0 0) 1 0 [(0, .ref a)] [] (jm_us h [(a, .inr (1, [.ref q, .int len, .int at_, .int br])), (q, .inl (dA 0, 400, .inl f))]) 0 0
  refine jm_aload_n X d_T_rewind_0 rfl 0 rfl ?_
  refine jm_iconst (v := 0) X d_T_rewind_1 (by decide) ?_
  refine jm_put X d_T_rewind_2 fs_T_22 (by refine jm_us_get ?_ 0 rfl; exact hnd) rfl rfl (Nat.le_of_ble_eq_true rfl) (fs1 := [.ref q, .int len, .int 0, .int br]) rfl (jm_hq (by refine jm_us_set ?_ 0 (L1 := [(a, .inr (1, [.ref q, .int len, .int 0, .int br])), (q, .inl (dA 0, 400, .inl f))]) rfl rfl; exact hnd) ?_)
  refine jm_aload_n X d_T_rewind_5 rfl 0 rfl ?_
  refine jm_iconst (v := (-1)) X d_T_rewind_6 (by decide) ?_
  refine jm_put X d_T_rewind_7 fs_T_15 (by refine jm_us_get ?_ 0 rfl; exact hnd) rfl rfl (Nat.le_of_ble_eq_true rfl) (fs1 := [.ref q, .int len, .int 0, .int (-1)]) rfl (jm_hq (by refine jm_us_set ?_ 0 (L1 := [(a, .inr (1, [.ref q, .int len, .int 0, .int (-1)])), (q, .inl (dA 0, 400, .inl f))]) rfl rfl; exact hnd) ?_)
  exact jm_vret X hr hk d_T_rewind_10 ⟨rfl, (by show jm_us h _ = jm_us h _; unfold f_T_rewind_a_2 f_T_rewind_a_3; rfl)⟩
def f_T_breakAt_a_3 (w : Int32) (len : Int32) (at_ : Int32) (br : Int32) (f : Nat → Int32) : Int32 :=
  let v13 : Int32 := if br = (-1) then w else br
  v13
set_option maxRecDepth 20000 in
set_option maxHeartbeats 4000000 in
theorem k_T_breakAt {l : Launch} {S : State} {D : va_G} {dA : Nat → ClassId} (E : jm_en S D jm_cl (jm_ty dA) jm_G) (a : Nat) (w : Int32) (q : Nat) (len : Int32) (at_ : Int32) (br : Int32) (f : Nat → Int32) (h : jm_H) (h_a : h a = some (.inr (1, [.ref q, .int len, .int at_, .int br]))) (h_q : h q = some (.inl (dA 0, 400, .inl f))) (hnd : ([a, q] : List Nat).Nodup)  : jm_M l S D jm_cl y_T_breakAt (Cond.code y_T_breakAt b_T_breakAt 2 (none)) { frames := 0, cells := 0, slots := 0, locals := 0 } [.ref a, .int w] h (jm_R none (jm_us h [(a, .inr (1, [.ref q, .int len, .int at_, .int (f_T_breakAt_a_3 w len at_ br f)])), (q, .inl (dA 0, 400, .inl f))])) 0 0 := by
  refine jm_ofW E (by decide) (Nat.le_of_ble_eq_true rfl) (fun p e s m below meth c X hr hk hmn hout hadm => ?_)
  have X : jm_cx p s m ([.ref a, .int w] : List Value).toArray c S D jm_cl (jm_ty dA) jm_G b_T_breakAt 2 "JobHouse$Text" := X
  have hL : ∀ zz ∈ ([(a, .inr (1, [.ref q, .int len, .int at_, .int br])), (q, .inl (dA 0, 400, .inl f))] : List (Nat × va_E)), h zz.1 = some zz.2 := List.forall_mem_cons.mpr ⟨h_a, List.forall_mem_cons.mpr ⟨h_q, fun _ hz => absurd hz List.not_mem_nil⟩⟩
  refine jm_hq (jm_us_id hL).symm ?_
  show jm_W p l e ({ frames := 0, cells := 0, slots := 0, locals := 0 }) s m ([.ref a, .int w] : List Value).toArray below meth c S D jm_cl (jm_Q S D jm_cl below s (jm_R none (jm_us h [(a, .inr (1, [.ref q, .int len, .int at_, .int (f_T_breakAt_a_3 w len at_ br f)])), (q, .inl (dA 0, 400, .inl f))])) 0 0) 2 0 [(0, .ref a), (1, .int w)] [] (jm_us h [(a, .inr (1, [.ref q, .int len, .int at_, .int br])), (q, .inl (dA 0, 400, .inl f))]) 0 0
  refine jm_aload_n X d_T_breakAt_0 rfl 0 rfl ?_
  refine jm_get X d_T_breakAt_1 fs_T_15 (by refine jm_us_get ?_ 0 rfl; exact hnd) rfl ?_
  refine jm_iconst (v := (-1)) X d_T_breakAt_4 (by decide) ?_
  have J13_2 : ∀ (v13 : Int32), v13 = (if br = (-1) then w else br : Int32) → jm_W p l e ({ frames := 0, cells := 0, slots := 0, locals := 0 }) s m ([.ref a, .int w] : List Value).toArray below meth c S D jm_cl (jm_Q S D jm_cl below s (jm_R none (jm_us h [(a, .inr (1, [.ref q, .int len, .int at_, .int (f_T_breakAt_a_3 w len at_ br f)])), (q, .inl (dA 0, 400, .inl f))])) 0 0) 2 13 [(0, .ref a), (1, .int w)] [] (jm_us h [(a, .inr (1, [.ref q, .int len, .int at_, .int v13])), (q, .inl (dA 0, 400, .inl f))]) 0 0 := by
    intro v13 ev13
    exact jm_vret X hr hk d_T_breakAt_13 ⟨rfl, (by show jm_us h _ = jm_us h _; unfold f_T_breakAt_a_3; subst ev13; rfl)⟩
  refine jm_icmp_ne (tgt := 13) X d_T_breakAt_5 (by decide) (fun c1 => ?_) (fun c1 => ?_)
  · exact J13_2 _ (by first | (simp only [if_neg c1, reduceIte]; done) | (with_reducible rfl))
  · refine jm_aload_n X d_T_breakAt_8 rfl 0 rfl ?_
    refine jm_iload_n X d_T_breakAt_9 rfl 1 rfl ?_
    refine jm_put X d_T_breakAt_10 fs_T_15 (by refine jm_us_get ?_ 0 rfl; exact hnd) rfl rfl (Nat.le_of_ble_eq_true rfl) (fs1 := [.ref q, .int len, .int at_, .int w]) rfl (jm_hq (by refine jm_us_set ?_ 0 (L1 := [(a, .inr (1, [.ref q, .int len, .int at_, .int w])), (q, .inl (dA 0, 400, .inl f))]) rfl rfl; exact hnd) ?_)
    exact J13_2 _ (by first | (simp only [if_pos c1, reduceIte]; done) | (with_reducible rfl))
def f_T_isDigit (w : Int32) : Int32 :=
  let v17 : Int32 := if w < 48 then 0 else (if 57 < w then 0 else 1)
  v17
set_option maxRecDepth 20000 in
set_option maxHeartbeats 4000000 in
theorem k_T_isDigit {l : Launch} {S : State} {D : va_G} {dA : Nat → ClassId} (E : jm_en S D jm_cl (jm_ty dA) jm_G) (w : Int32) (h : jm_H)    : jm_M l S D jm_cl y_T_isDigit (Cond.code y_T_isDigit b_T_isDigit 1 (some FieldType.boolean)) { frames := 0, cells := 0, slots := 0, locals := 0 } [.int w] h (jm_R (some (.int (f_T_isDigit w))) h) 0 0 := by
  refine jm_ofW E (by decide) (Nat.le_of_ble_eq_true rfl) (fun p e s m below meth c X hr hk hmn hout hadm => ?_)
  have X : jm_cx p s m ([.int w] : List Value).toArray c S D jm_cl (jm_ty dA) jm_G b_T_isDigit 1 "JobHouse$Text" := X
  show jm_W p l e ({ frames := 0, cells := 0, slots := 0, locals := 0 }) s m ([.int w] : List Value).toArray below meth c S D jm_cl (jm_Q S D jm_cl below s (jm_R (some (.int (f_T_isDigit w))) h) 0 0) 1 0 [(0, .int w)] [] (h) 0 0
  refine jm_iload_n X d_T_isDigit_0 rfl 0 rfl ?_
  refine jm_bipush (v := 48) X d_T_isDigit_1 (by decide) ?_
  have J17_2 : ∀ (v17 : Int32), v17 = (if w < 48 then 0 else (if 57 < w then 0 else 1) : Int32) → jm_W p l e ({ frames := 0, cells := 0, slots := 0, locals := 0 }) s m ([.int w] : List Value).toArray below meth c S D jm_cl (jm_Q S D jm_cl below s (jm_R (some (.int (f_T_isDigit w))) h) 0 0) 1 17 [(0, .int w)] [.int v17] (h) 0 0 := by
    intro v17 ev17
    exact jm_zret X hr (by first | rfl | (subst ev17; (repeat' split) <;> rfl)) hk d_T_isDigit_17 ⟨(by show Outcome.returned _ = Outcome.returned _; unfold f_T_isDigit; subst ev17; rfl), rfl⟩
  refine jm_icmp_lt (tgt := 16) X d_T_isDigit_3 (by decide) (fun c1 => ?_) (fun c1 => ?_)
  · refine jm_iconst (v := 0) X d_T_isDigit_16 (by decide) ?_
    exact J17_2 _ (by first | (simp only [if_pos c1, reduceIte]; done) | (with_reducible rfl))
  · refine jm_iload_n X d_T_isDigit_6 rfl 0 rfl ?_
    refine jm_bipush (v := 57) X d_T_isDigit_7 (by decide) ?_
    refine jm_icmp_gt (tgt := 16) X d_T_isDigit_9 (by decide) (fun c3 => ?_) (fun c3 => ?_)
    · refine jm_iconst (v := 0) X d_T_isDigit_16 (by decide) ?_
      exact J17_2 _ (by first | (simp only [if_neg c1, if_pos c3, reduceIte]; done) | (with_reducible rfl))
    · refine jm_iconst (v := 1) X d_T_isDigit_12 (by decide) ?_
      refine jm_goto (tgt := 17) X d_T_isDigit_13 (by decide) ?_
      exact J17_2 _ (by first | (simp only [if_neg c1, if_neg c3, reduceIte]; done) | (with_reducible rfl))
def f_T_peek (len : Int32) (at_ : Int32) (br : Int32) (f : Nat → Int32) : Int32 :=
  let v36 : Int32 := if br = (-1) then (if at_ < len then ((f (at_ : Int32).toNatClampNeg) &&& 255) else (-1)) else (-1)
  v36
set_option maxRecDepth 20000 in
set_option maxHeartbeats 4000000 in
theorem k_T_peek {l : Launch} {S : State} {D : va_G} {dA : Nat → ClassId} (E : jm_en S D jm_cl (jm_ty dA) jm_G) (a : Nat) (q : Nat) (len : Int32) (at_ : Int32) (br : Int32) (f : Nat → Int32) (h : jm_H) (h_a : h a = some (.inr (1, [.ref q, .int len, .int at_, .int br]))) (h_q : h q = some (.inl (dA 0, 400, .inl f))) (hnd : ([a, q] : List Nat).Nodup) (p1 : 0 ≤ at_) (p2 : len ≤ 400) : jm_M l S D jm_cl y_T_peek (Cond.code y_T_peek b_T_peek 1 (some FieldType.int)) { frames := 0, cells := 0, slots := 0, locals := 0 } [.ref a] h (jm_R (some (.int (f_T_peek len at_ br f))) h) 0 0 := by
  refine jm_ofW E (by decide) (Nat.le_of_ble_eq_true rfl) (fun p e s m below meth c X hr hk hmn hout hadm => ?_)
  have X : jm_cx p s m ([.ref a] : List Value).toArray c S D jm_cl (jm_ty dA) jm_G b_T_peek 1 "JobHouse$Text" := X
  have hL : ∀ zz ∈ ([(a, .inr (1, [.ref q, .int len, .int at_, .int br])), (q, .inl (dA 0, 400, .inl f))] : List (Nat × va_E)), h zz.1 = some zz.2 := List.forall_mem_cons.mpr ⟨h_a, List.forall_mem_cons.mpr ⟨h_q, fun _ hz => absurd hz List.not_mem_nil⟩⟩
  refine jm_hq (jm_us_id hL).symm ?_
  show jm_W p l e ({ frames := 0, cells := 0, slots := 0, locals := 0 }) s m ([.ref a] : List Value).toArray below meth c S D jm_cl (jm_Q S D jm_cl below s (jm_R (some (.int (f_T_peek len at_ br f))) h) 0 0) 1 0 [(0, .ref a)] [] (jm_us h [(a, .inr (1, [.ref q, .int len, .int at_, .int br])), (q, .inl (dA 0, 400, .inl f))]) 0 0
  refine jm_aload_n X d_T_peek_0 rfl 0 rfl ?_
  refine jm_get X d_T_peek_1 fs_T_15 (by refine jm_us_get ?_ 0 rfl; exact hnd) rfl ?_
  refine jm_iconst (v := (-1)) X d_T_peek_4 (by decide) ?_
  have J36_2 : ∀ (v36 : Int32), v36 = (if br = (-1) then (if at_ < len then ((f (at_ : Int32).toNatClampNeg) &&& 255) else (-1)) else (-1) : Int32) → jm_W p l e ({ frames := 0, cells := 0, slots := 0, locals := 0 }) s m ([.ref a] : List Value).toArray below meth c S D jm_cl (jm_Q S D jm_cl below s (jm_R (some (.int (f_T_peek len at_ br f))) h) 0 0) 1 36 [(0, .ref a)] [.int v36] (jm_us h [(a, .inr (1, [.ref q, .int len, .int at_, .int br])), (q, .inl (dA 0, 400, .inl f))]) 0 0 := by
    intro v36 ev36
    exact jm_iret X hr hk d_T_peek_36 ⟨(by show Outcome.returned _ = Outcome.returned _; unfold f_T_peek; subst ev36; rfl), (jm_us_id hL)⟩
  refine jm_icmp_ne (tgt := 19) X d_T_peek_5 (by decide) (fun c1 => ?_) (fun c1 => ?_)
  · refine jm_iconst (v := (-1)) X d_T_peek_19 (by decide) ?_
    refine jm_goto (tgt := 36) X d_T_peek_20 (by decide) ?_
    exact J36_2 _ (by first | (simp only [if_neg c1, reduceIte]; done) | (with_reducible rfl))
  · refine jm_aload_n X d_T_peek_8 rfl 0 rfl ?_
    refine jm_get X d_T_peek_9 fs_T_22 (by refine jm_us_get ?_ 0 rfl; exact hnd) rfl ?_
    refine jm_aload_n X d_T_peek_12 rfl 0 rfl ?_
    refine jm_get X d_T_peek_13 fs_T_19 (by refine jm_us_get ?_ 0 rfl; exact hnd) rfl ?_
    refine jm_icmp_lt (tgt := 23) X d_T_peek_16 (by decide) (fun c3 => ?_) (fun c3 => ?_)
    · refine jm_aload_n X d_T_peek_23 rfl 0 rfl ?_
      refine jm_get X d_T_peek_24 fs_T_9 (by refine jm_us_get ?_ 0 rfl; exact hnd) rfl ?_
      refine jm_aload_n X d_T_peek_27 rfl 0 rfl ?_
      refine jm_get X d_T_peek_28 fs_T_22 (by refine jm_us_get ?_ 0 rfl; exact hnd) rfl ?_
      refine jm_bald (t0 := 0) X d_T_peek_31 rfl (by refine jm_us_get ?_ 1 rfl; exact hnd) (jm_inl p1 c3 p2 rfl) ?_
      refine jm_sipush (v := 255) X d_T_peek_32 (by decide) ?_
      refine jm_iand X d_T_peek_35 ?_
      exact J36_2 _ (by first | (simp only [if_pos c1, if_pos c3, reduceIte]; done) | (with_reducible rfl))
    · refine jm_iconst (v := (-1)) X d_T_peek_19 (by decide) ?_
      refine jm_goto (tgt := 36) X d_T_peek_20 (by decide) ?_
      exact J36_2 _ (by first | (simp only [if_pos c1, if_neg c3, reduceIte]; done) | (with_reducible rfl))
def f_T_isDone (len : Int32) (at_ : Int32) (br : Int32) (f : Nat → Int32) : Int32 :=
  let v13 : Int32 := if (f_T_peek len at_ br f) = (-1) then 1 else 0
  v13
set_option maxRecDepth 20000 in
set_option maxHeartbeats 4000000 in
theorem k_T_isDone {l : Launch} {S : State} {D : va_G} {dA : Nat → ClassId} (E : jm_en S D jm_cl (jm_ty dA) jm_G) (a : Nat) (q : Nat) (len : Int32) (at_ : Int32) (br : Int32) (f : Nat → Int32) (h : jm_H) (h_a : h a = some (.inr (1, [.ref q, .int len, .int at_, .int br]))) (h_q : h q = some (.inl (dA 0, 400, .inl f))) (hnd : ([a, q] : List Nat).Nodup) (p1 : 0 ≤ at_) (p2 : len ≤ 400) : jm_M l S D jm_cl y_T_isDone (Cond.code y_T_isDone b_T_isDone 1 (some FieldType.boolean)) { frames := 1, cells := 0, slots := 0, locals := 20 } [.ref a] h (jm_R (some (.int (f_T_isDone len at_ br f))) h) 0 0 := by
  refine jm_ofW E (by decide) (Nat.le_of_ble_eq_true rfl) (fun p e s m below meth c X hr hk hmn hout hadm => ?_)
  have X : jm_cx p s m ([.ref a] : List Value).toArray c S D jm_cl (jm_ty dA) jm_G b_T_isDone 1 "JobHouse$Text" := X
  have hL : ∀ zz ∈ ([(a, .inr (1, [.ref q, .int len, .int at_, .int br])), (q, .inl (dA 0, 400, .inl f))] : List (Nat × va_E)), h zz.1 = some zz.2 := List.forall_mem_cons.mpr ⟨h_a, List.forall_mem_cons.mpr ⟨h_q, fun _ hz => absurd hz List.not_mem_nil⟩⟩
  refine jm_hq (jm_us_id hL).symm ?_
  show jm_W p l e ({ frames := 1, cells := 0, slots := 0, locals := 20 }) s m ([.ref a] : List Value).toArray below meth c S D jm_cl (jm_Q S D jm_cl below s (jm_R (some (.int (f_T_isDone len at_ br f))) h) 0 0) 1 0 [(0, .ref a)] [] (jm_us h [(a, .inr (1, [.ref q, .int len, .int at_, .int br])), (q, .inl (dA 0, 400, .inl f))]) 0 0
  refine jm_aload_n X d_T_isDone_0 rfl 0 rfl ?_
  refine jm_callV (rest := []) X d_T_isDone_1 (k_T_peek E a q len at_ br f (jm_us h [(a, .inr (1, [.ref q, .int len, .int at_, .int br])), (q, .inl (dA 0, 400, .inl f))]) (by refine jm_us_get ?_ 0 rfl; exact hnd) (by refine jm_us_get ?_ 1 rfl; exact hnd) (by exact jm_pick hnd [0, 1] (by decide) rfl) (by first | with_reducible assumption | decide +kernel) (by first | with_reducible assumption | decide +kernel)) ci_T_peek (Or.inl (jm_g2 203 rfl rfl)) im_T_peek se_T_peek (by refine jm_us_get ?_ 0 rfl; exact hnd) rfl rfl (Nat.le_of_ble_eq_true rfl) ⟨(Nat.le_of_ble_eq_true rfl), (Nat.le_of_ble_eq_true rfl)⟩ ⟨rfl, rfl⟩ ⟨(Nat.le_of_ble_eq_true rfl), (Nat.le_of_ble_eq_true rfl)⟩ (jm_k1 ?_)
  refine jm_iconst (v := (-1)) X d_T_isDone_4 (by decide) ?_
  have J13_2 : ∀ (v13 : Int32), v13 = (if (f_T_peek len at_ br f) = (-1) then 1 else 0 : Int32) → jm_W p l e ({ frames := 1, cells := 0, slots := 0, locals := 20 }) s m ([.ref a] : List Value).toArray below meth c S D jm_cl (jm_Q S D jm_cl below s (jm_R (some (.int (f_T_isDone len at_ br f))) h) 0 0) 1 13 [(0, .ref a)] [.int v13] (jm_us h [(a, .inr (1, [.ref q, .int len, .int at_, .int br])), (q, .inl (dA 0, 400, .inl f))]) 0 0 := by
    intro v13 ev13
    exact jm_zret X hr (by first | rfl | (subst ev13; (repeat' split) <;> rfl)) hk d_T_isDone_13 ⟨(by show Outcome.returned _ = Outcome.returned _; unfold f_T_isDone; subst ev13; rfl), (jm_us_id hL)⟩
  refine jm_icmp_ne (tgt := 12) X d_T_isDone_5 (by decide) (fun c1 => ?_) (fun c1 => ?_)
  · refine jm_iconst (v := 0) X d_T_isDone_12 (by decide) ?_
    exact J13_2 _ (by first | (simp only [if_neg c1, reduceIte]; done) | (with_reducible rfl))
  · refine jm_iconst (v := 1) X d_T_isDone_8 (by decide) ?_
    refine jm_goto (tgt := 13) X d_T_isDone_9 (by decide) ?_
    exact J13_2 _ (by first | (simp only [if_pos c1, reduceIte]; done) | (with_reducible rfl))
def f_T_take (w : Int32) (len : Int32) (at_ : Int32) (br : Int32) (f : Nat → Int32) : Int32 :=
  if (f_T_peek len at_ br f) = w then 1 else 0
def f_T_take_a_2 (w : Int32) (len : Int32) (at_ : Int32) (br : Int32) (f : Nat → Int32) : Int32 :=
  if (f_T_peek len at_ br f) = w then (at_ + 1) else at_
set_option maxRecDepth 20000 in
set_option maxHeartbeats 4000000 in
theorem k_T_take {l : Launch} {S : State} {D : va_G} {dA : Nat → ClassId} (E : jm_en S D jm_cl (jm_ty dA) jm_G) (a : Nat) (w : Int32) (q : Nat) (len : Int32) (at_ : Int32) (br : Int32) (f : Nat → Int32) (h : jm_H) (h_a : h a = some (.inr (1, [.ref q, .int len, .int at_, .int br]))) (h_q : h q = some (.inl (dA 0, 400, .inl f))) (hnd : ([a, q] : List Nat).Nodup) (p1 : 0 ≤ at_) (p2 : len ≤ 400) : jm_M l S D jm_cl y_T_take (Cond.code y_T_take b_T_take 2 (some FieldType.boolean)) { frames := 1, cells := 0, slots := 0, locals := 20 } [.ref a, .int w] h (jm_R (some (.int (f_T_take w len at_ br f))) (jm_us h [(a, .inr (1, [.ref q, .int len, .int (f_T_take_a_2 w len at_ br f), .int br])), (q, .inl (dA 0, 400, .inl f))])) 0 0 := by
  refine jm_ofW E (by decide) (Nat.le_of_ble_eq_true rfl) (fun p e s m below meth c X hr hk hmn hout hadm => ?_)
  have X : jm_cx p s m ([.ref a, .int w] : List Value).toArray c S D jm_cl (jm_ty dA) jm_G b_T_take 2 "JobHouse$Text" := X
  have hL : ∀ zz ∈ ([(a, .inr (1, [.ref q, .int len, .int at_, .int br])), (q, .inl (dA 0, 400, .inl f))] : List (Nat × va_E)), h zz.1 = some zz.2 := List.forall_mem_cons.mpr ⟨h_a, List.forall_mem_cons.mpr ⟨h_q, fun _ hz => absurd hz List.not_mem_nil⟩⟩
  refine jm_hq (jm_us_id hL).symm ?_
  show jm_W p l e ({ frames := 1, cells := 0, slots := 0, locals := 20 }) s m ([.ref a, .int w] : List Value).toArray below meth c S D jm_cl (jm_Q S D jm_cl below s (jm_R (some (.int (f_T_take w len at_ br f))) (jm_us h [(a, .inr (1, [.ref q, .int len, .int (f_T_take_a_2 w len at_ br f), .int br])), (q, .inl (dA 0, 400, .inl f))])) 0 0) 2 0 [(0, .ref a), (1, .int w)] [] (jm_us h [(a, .inr (1, [.ref q, .int len, .int at_, .int br])), (q, .inl (dA 0, 400, .inl f))]) 0 0
  refine jm_aload_n X d_T_take_0 rfl 0 rfl ?_
  refine jm_callV (rest := []) X d_T_take_1 (k_T_peek E a q len at_ br f (jm_us h [(a, .inr (1, [.ref q, .int len, .int at_, .int br])), (q, .inl (dA 0, 400, .inl f))]) (by refine jm_us_get ?_ 0 rfl; exact hnd) (by refine jm_us_get ?_ 1 rfl; exact hnd) (by exact jm_pick hnd [0, 1] (by decide) rfl) (by first | with_reducible assumption | decide +kernel) (by first | with_reducible assumption | decide +kernel)) ci_T_peek (Or.inl (jm_g2 203 rfl rfl)) im_T_peek se_T_peek (by refine jm_us_get ?_ 0 rfl; exact hnd) rfl rfl (Nat.le_of_ble_eq_true rfl) ⟨(Nat.le_of_ble_eq_true rfl), (Nat.le_of_ble_eq_true rfl)⟩ ⟨rfl, rfl⟩ ⟨(Nat.le_of_ble_eq_true rfl), (Nat.le_of_ble_eq_true rfl)⟩ (jm_k1 ?_)
  refine jm_iload_n X d_T_take_4 rfl 1 rfl ?_
  refine jm_icmp_eq (tgt := 10) X d_T_take_5 (by decide) (fun c1 => ?_) (fun c1 => ?_)
  · refine jm_aload_n X d_T_take_10 rfl 0 rfl ?_
    refine jm_dup X d_T_take_11 rfl ?_
    refine jm_get X d_T_take_12 fs_T_22 (by refine jm_us_get ?_ 0 rfl; exact hnd) rfl ?_
    refine jm_iconst (v := 1) X d_T_take_15 (by decide) ?_
    refine jm_iadd X d_T_take_16 ?_
    refine jm_put X d_T_take_17 fs_T_22 (by refine jm_us_get ?_ 0 rfl; exact hnd) rfl rfl (Nat.le_of_ble_eq_true rfl) (fs1 := [.ref q, .int len, .int (at_ + 1), .int br]) rfl (jm_hq (by refine jm_us_set ?_ 0 (L1 := [(a, .inr (1, [.ref q, .int len, .int (at_ + 1), .int br])), (q, .inl (dA 0, 400, .inl f))]) rfl rfl; exact hnd) ?_)
    refine jm_iconst (v := 1) X d_T_take_20 (by decide) ?_
    exact jm_zret X hr (by first | rfl | ((repeat' split) <;> rfl)) hk d_T_take_21 ⟨(by show Outcome.returned _ = Outcome.returned _; unfold f_T_take; first | (simp only [if_pos c1, reduceIte]; done) | (simp only [if_pos c1, reduceIte]; rfl) | rfl), (by show jm_us h _ = jm_us h _; unfold f_T_take_a_2; first | (simp only [if_pos c1, reduceIte]; done) | (simp only [if_pos c1, reduceIte]; rfl) | rfl)⟩
  · refine jm_iconst (v := 0) X d_T_take_8 (by decide) ?_
    exact jm_zret X hr (by first | rfl | ((repeat' split) <;> rfl)) hk d_T_take_9 ⟨(by show Outcome.returned _ = Outcome.returned _; unfold f_T_take; first | (simp only [if_neg c1, reduceIte]; done) | (simp only [if_neg c1, reduceIte]; rfl) | rfl), (by show jm_us h _ = jm_us h _; unfold f_T_take_a_2; first | (simp only [if_neg c1, reduceIte]; done) | (simp only [if_neg c1, reduceIte]; rfl) | rfl)⟩
def f_T_require_a_2 (w : Int32) (len : Int32) (at_ : Int32) (br : Int32) (f : Nat → Int32) : Int32 :=
  f_T_take_a_2 w len at_ br f
def f_T_require_a_3 (w : Int32) (len : Int32) (at_ : Int32) (br : Int32) (f : Nat → Int32) : Int32 :=
  let v16 : Int32 := if (f_T_take w len at_ br f) = 0 then (f_T_breakAt_a_3 (f_T_take_a_2 w len at_ br f) len (f_T_take_a_2 w len at_ br f) br f) else br
  v16
set_option maxRecDepth 20000 in
set_option maxHeartbeats 4000000 in
theorem k_T_require {l : Launch} {S : State} {D : va_G} {dA : Nat → ClassId} (E : jm_en S D jm_cl (jm_ty dA) jm_G) (a : Nat) (w : Int32) (q : Nat) (len : Int32) (at_ : Int32) (br : Int32) (f : Nat → Int32) (h : jm_H) (h_a : h a = some (.inr (1, [.ref q, .int len, .int at_, .int br]))) (h_q : h q = some (.inl (dA 0, 400, .inl f))) (hnd : ([a, q] : List Nat).Nodup) (p1 : 0 ≤ at_) (p2 : len ≤ 400) : jm_M l S D jm_cl y_T_require (Cond.code y_T_require b_T_require 2 (none)) { frames := 2, cells := 0, slots := 0, locals := 41 } [.ref a, .int w] h (jm_R none (jm_us h [(a, .inr (1, [.ref q, .int len, .int (f_T_require_a_2 w len at_ br f), .int (f_T_require_a_3 w len at_ br f)])), (q, .inl (dA 0, 400, .inl f))])) 0 0 := by
  refine jm_ofW E (by decide) (Nat.le_of_ble_eq_true rfl) (fun p e s m below meth c X hr hk hmn hout hadm => ?_)
  have X : jm_cx p s m ([.ref a, .int w] : List Value).toArray c S D jm_cl (jm_ty dA) jm_G b_T_require 2 "JobHouse$Text" := X
  have hL : ∀ zz ∈ ([(a, .inr (1, [.ref q, .int len, .int at_, .int br])), (q, .inl (dA 0, 400, .inl f))] : List (Nat × va_E)), h zz.1 = some zz.2 := List.forall_mem_cons.mpr ⟨h_a, List.forall_mem_cons.mpr ⟨h_q, fun _ hz => absurd hz List.not_mem_nil⟩⟩
  refine jm_hq (jm_us_id hL).symm ?_
  show jm_W p l e ({ frames := 2, cells := 0, slots := 0, locals := 41 }) s m ([.ref a, .int w] : List Value).toArray below meth c S D jm_cl (jm_Q S D jm_cl below s (jm_R none (jm_us h [(a, .inr (1, [.ref q, .int len, .int (f_T_require_a_2 w len at_ br f), .int (f_T_require_a_3 w len at_ br f)])), (q, .inl (dA 0, 400, .inl f))])) 0 0) 2 0 [(0, .ref a), (1, .int w)] [] (jm_us h [(a, .inr (1, [.ref q, .int len, .int at_, .int br])), (q, .inl (dA 0, 400, .inl f))]) 0 0
  refine jm_aload_n X d_T_require_0 rfl 0 rfl ?_
  refine jm_iload_n X d_T_require_1 rfl 1 rfl ?_
  refine jm_callV (rest := []) X d_T_require_2 (k_T_take E a w q len at_ br f (jm_us h [(a, .inr (1, [.ref q, .int len, .int at_, .int br])), (q, .inl (dA 0, 400, .inl f))]) (by refine jm_us_get ?_ 0 rfl; exact hnd) (by refine jm_us_get ?_ 1 rfl; exact hnd) (by exact jm_pick hnd [0, 1] (by decide) rfl) (by first | with_reducible assumption | decide +kernel) (by first | with_reducible assumption | decide +kernel)) ci_T_take (Or.inl (jm_g2 211 rfl rfl)) im_T_take se_T_take (by refine jm_us_get ?_ 0 rfl; exact hnd) rfl rfl (Nat.le_of_ble_eq_true rfl) ⟨(Nat.le_of_ble_eq_true rfl), (Nat.le_of_ble_eq_true rfl)⟩ ⟨rfl, rfl⟩ ⟨(Nat.le_of_ble_eq_true rfl), (Nat.le_of_ble_eq_true rfl)⟩ (jm_k1 (jm_hq (by refine jm_into ?_ [0, 1] rfl (L1 := [(a, .inr (1, [.ref q, .int len, .int (f_T_take_a_2 w len at_ br f), .int br])), (q, .inl (dA 0, 400, .inl f))]) rfl; exact hnd) ?_))
  have J16_2 : ∀ (v16 : Int32), v16 = (if (f_T_take w len at_ br f) = 0 then (f_T_breakAt_a_3 (f_T_take_a_2 w len at_ br f) len (f_T_take_a_2 w len at_ br f) br f) else br : Int32) → jm_W p l e ({ frames := 2, cells := 0, slots := 0, locals := 41 }) s m ([.ref a, .int w] : List Value).toArray below meth c S D jm_cl (jm_Q S D jm_cl below s (jm_R none (jm_us h [(a, .inr (1, [.ref q, .int len, .int (f_T_require_a_2 w len at_ br f), .int (f_T_require_a_3 w len at_ br f)])), (q, .inl (dA 0, 400, .inl f))])) 0 0) 2 16 [(0, .ref a), (1, .int w)] [] (jm_us h [(a, .inr (1, [.ref q, .int len, .int (f_T_take_a_2 w len at_ br f), .int v16])), (q, .inl (dA 0, 400, .inl f))]) 0 0 := by
    intro v16 ev16
    exact jm_vret X hr hk d_T_require_16 ⟨rfl, (by show jm_us h _ = jm_us h _; unfold f_T_require_a_2 f_T_require_a_3; subst ev16; rfl)⟩
  refine jm_if_ne (tgt := 16) X d_T_require_5 (by decide) (fun c1 => ?_) (fun c1 => ?_)
  · exact J16_2 _ (by first | (simp only [if_neg c1, reduceIte]; done) | (with_reducible rfl))
  · refine jm_aload_n X d_T_require_8 rfl 0 rfl ?_
    refine jm_aload_n X d_T_require_9 rfl 0 rfl ?_
    refine jm_get X d_T_require_10 fs_T_22 (by refine jm_us_get ?_ 0 rfl; exact hnd) rfl ?_
    refine jm_callV (rest := []) X d_T_require_13 (k_T_breakAt E a (f_T_take_a_2 w len at_ br f) q len (f_T_take_a_2 w len at_ br f) br f (jm_us h [(a, .inr (1, [.ref q, .int len, .int (f_T_take_a_2 w len at_ br f), .int br])), (q, .inl (dA 0, 400, .inl f))]) (by refine jm_us_get ?_ 0 rfl; exact hnd) (by refine jm_us_get ?_ 1 rfl; exact hnd) (by exact jm_pick hnd [0, 1] (by decide) rfl) ) ci_T_breakAt (Or.inl (jm_g2 212 rfl rfl)) im_T_breakAt se_T_breakAt (by refine jm_us_get ?_ 0 rfl; exact hnd) rfl rfl (Nat.le_of_ble_eq_true rfl) ⟨(Nat.le_of_ble_eq_true rfl), (Nat.le_of_ble_eq_true rfl)⟩ ⟨rfl, rfl⟩ ⟨(Nat.le_of_ble_eq_true rfl), (Nat.le_of_ble_eq_true rfl)⟩ (jm_k0 (jm_hq (by refine jm_into ?_ [0, 1] rfl (L1 := [(a, .inr (1, [.ref q, .int len, .int (f_T_take_a_2 w len at_ br f), .int (f_T_breakAt_a_3 (f_T_take_a_2 w len at_ br f) len (f_T_take_a_2 w len at_ br f) br f)])), (q, .inl (dA 0, 400, .inl f))]) rfl; exact hnd) ?_))
    exact J16_2 _ (by first | (simp only [if_pos c1, reduceIte]; done) | (with_reducible rfl))
def f_T_requireEnd_a_3 (len : Int32) (at_ : Int32) (br : Int32) (f : Nat → Int32) : Int32 :=
  let v15 : Int32 := if (f_T_isDone len at_ br f) = 0 then (f_T_breakAt_a_3 at_ len at_ br f) else br
  v15
set_option maxRecDepth 20000 in
set_option maxHeartbeats 4000000 in
theorem k_T_requireEnd {l : Launch} {S : State} {D : va_G} {dA : Nat → ClassId} (E : jm_en S D jm_cl (jm_ty dA) jm_G) (a : Nat) (q : Nat) (len : Int32) (at_ : Int32) (br : Int32) (f : Nat → Int32) (h : jm_H) (h_a : h a = some (.inr (1, [.ref q, .int len, .int at_, .int br]))) (h_q : h q = some (.inl (dA 0, 400, .inl f))) (hnd : ([a, q] : List Nat).Nodup) (p1 : 0 ≤ at_) (p2 : len ≤ 400) : jm_M l S D jm_cl y_T_requireEnd (Cond.code y_T_requireEnd b_T_requireEnd 1 (none)) { frames := 2, cells := 0, slots := 0, locals := 40 } [.ref a] h (jm_R none (jm_us h [(a, .inr (1, [.ref q, .int len, .int at_, .int (f_T_requireEnd_a_3 len at_ br f)])), (q, .inl (dA 0, 400, .inl f))])) 0 0 := by
  refine jm_ofW E (by decide) (Nat.le_of_ble_eq_true rfl) (fun p e s m below meth c X hr hk hmn hout hadm => ?_)
  have X : jm_cx p s m ([.ref a] : List Value).toArray c S D jm_cl (jm_ty dA) jm_G b_T_requireEnd 1 "JobHouse$Text" := X
  have hL : ∀ zz ∈ ([(a, .inr (1, [.ref q, .int len, .int at_, .int br])), (q, .inl (dA 0, 400, .inl f))] : List (Nat × va_E)), h zz.1 = some zz.2 := List.forall_mem_cons.mpr ⟨h_a, List.forall_mem_cons.mpr ⟨h_q, fun _ hz => absurd hz List.not_mem_nil⟩⟩
  refine jm_hq (jm_us_id hL).symm ?_
  show jm_W p l e ({ frames := 2, cells := 0, slots := 0, locals := 40 }) s m ([.ref a] : List Value).toArray below meth c S D jm_cl (jm_Q S D jm_cl below s (jm_R none (jm_us h [(a, .inr (1, [.ref q, .int len, .int at_, .int (f_T_requireEnd_a_3 len at_ br f)])), (q, .inl (dA 0, 400, .inl f))])) 0 0) 1 0 [(0, .ref a)] [] (jm_us h [(a, .inr (1, [.ref q, .int len, .int at_, .int br])), (q, .inl (dA 0, 400, .inl f))]) 0 0
  refine jm_aload_n X d_T_requireEnd_0 rfl 0 rfl ?_
  refine jm_callV (rest := []) X d_T_requireEnd_1 (k_T_isDone E a q len at_ br f (jm_us h [(a, .inr (1, [.ref q, .int len, .int at_, .int br])), (q, .inl (dA 0, 400, .inl f))]) (by refine jm_us_get ?_ 0 rfl; exact hnd) (by refine jm_us_get ?_ 1 rfl; exact hnd) (by exact jm_pick hnd [0, 1] (by decide) rfl) (by first | with_reducible assumption | decide +kernel) (by first | with_reducible assumption | decide +kernel)) ci_T_isDone (Or.inl (jm_g3 6 rfl rfl)) im_T_isDone se_T_isDone (by refine jm_us_get ?_ 0 rfl; exact hnd) rfl rfl (Nat.le_of_ble_eq_true rfl) ⟨(Nat.le_of_ble_eq_true rfl), (Nat.le_of_ble_eq_true rfl)⟩ ⟨rfl, rfl⟩ ⟨(Nat.le_of_ble_eq_true rfl), (Nat.le_of_ble_eq_true rfl)⟩ (jm_k1 ?_)
  have J15_2 : ∀ (v15 : Int32), v15 = (if (f_T_isDone len at_ br f) = 0 then (f_T_breakAt_a_3 at_ len at_ br f) else br : Int32) → jm_W p l e ({ frames := 2, cells := 0, slots := 0, locals := 40 }) s m ([.ref a] : List Value).toArray below meth c S D jm_cl (jm_Q S D jm_cl below s (jm_R none (jm_us h [(a, .inr (1, [.ref q, .int len, .int at_, .int (f_T_requireEnd_a_3 len at_ br f)])), (q, .inl (dA 0, 400, .inl f))])) 0 0) 1 15 [(0, .ref a)] [] (jm_us h [(a, .inr (1, [.ref q, .int len, .int at_, .int v15])), (q, .inl (dA 0, 400, .inl f))]) 0 0 := by
    intro v15 ev15
    exact jm_vret X hr hk d_T_requireEnd_15 ⟨rfl, (by show jm_us h _ = jm_us h _; unfold f_T_requireEnd_a_3; subst ev15; rfl)⟩
  refine jm_if_ne (tgt := 15) X d_T_requireEnd_4 (by decide) (fun c1 => ?_) (fun c1 => ?_)
  · exact J15_2 _ (by first | (simp only [if_neg c1, reduceIte]; done) | (with_reducible rfl))
  · refine jm_aload_n X d_T_requireEnd_7 rfl 0 rfl ?_
    refine jm_aload_n X d_T_requireEnd_8 rfl 0 rfl ?_
    refine jm_get X d_T_requireEnd_9 fs_T_22 (by refine jm_us_get ?_ 0 rfl; exact hnd) rfl ?_
    refine jm_callV (rest := []) X d_T_requireEnd_12 (k_T_breakAt E a at_ q len at_ br f (jm_us h [(a, .inr (1, [.ref q, .int len, .int at_, .int br])), (q, .inl (dA 0, 400, .inl f))]) (by refine jm_us_get ?_ 0 rfl; exact hnd) (by refine jm_us_get ?_ 1 rfl; exact hnd) (by exact jm_pick hnd [0, 1] (by decide) rfl) ) ci_T_breakAt (Or.inl (jm_g2 212 rfl rfl)) im_T_breakAt se_T_breakAt (by refine jm_us_get ?_ 0 rfl; exact hnd) rfl rfl (Nat.le_of_ble_eq_true rfl) ⟨(Nat.le_of_ble_eq_true rfl), (Nat.le_of_ble_eq_true rfl)⟩ ⟨rfl, rfl⟩ ⟨(Nat.le_of_ble_eq_true rfl), (Nat.le_of_ble_eq_true rfl)⟩ (jm_k0 (jm_hq (by refine jm_into ?_ [0, 1] rfl (L1 := [(a, .inr (1, [.ref q, .int len, .int at_, .int (f_T_breakAt_a_3 at_ len at_ br f)])), (q, .inl (dA 0, 400, .inl f))]) rfl; exact hnd) ?_))
    exact J15_2 _ (by first | (simp only [if_pos c1, reduceIte]; done) | (with_reducible rfl))
end
section
def y_C_init : MethodName := ⟨"JobHouse$Cron", "<init>", "()V"⟩
abbrev b_C_init : ByteArray := prog_2_method_1_code
theorem d_C_init_0 : decode b_C_init 0 = .ok (.aload_n 0, 1) := by decide +kernel
theorem d_C_init_1 : decode b_C_init 1 = .ok (.invokespecial 3, 3) := by decide +kernel
theorem d_C_init_4 : decode b_C_init 4 = .ok (.aload_n 0, 1) := by decide +kernel
theorem d_C_init_5 : decode b_C_init 5 = .ok (.bipush 12, 2) := by decide +kernel
theorem d_C_init_7 : decode b_C_init 7 = .ok (.newarray .long, 2) := by decide +kernel
theorem d_C_init_9 : decode b_C_init 9 = .ok (.putfield 11, 3) := by decide +kernel
theorem d_C_init_12 : decode b_C_init 12 = .ok (.return_, 1) := by decide +kernel
theorem ci_C_init : jm_ci jm_G y_C_init (Cond.code y_C_init b_C_init 1 (none)) 1 0 := ⟨jm_g1 89 rfl rfl, Or.inl ⟨_, _, rfl⟩, jm_g1 5 rfl rfl, ⟨by decide, by decide⟩, by decide +kernel⟩
theorem im_C_init : Cond.instanceMethod y_C_init ∈ jm_G := jm_g1 88 rfl rfl
def y_C_lowest : MethodName := ⟨"JobHouse$Cron", "lowest", "(I)I"⟩
abbrev b_C_lowest : ByteArray := prog_2_method_2_code
theorem d_C_lowest_0 : decode b_C_lowest 0 = .ok (.iload_n 0, 1) := by decide +kernel
theorem d_C_lowest_1 : decode b_C_lowest 1 = .ok (.tableswitch 37 3 6 #[31, 31, 31, 33], 31) := by decide +kernel
theorem d_C_lowest_32 : decode b_C_lowest 32 = .ok (.iconst 1, 1) := by decide +kernel
theorem d_C_lowest_33 : decode b_C_lowest 33 = .ok (.ireturn, 1) := by decide +kernel
theorem d_C_lowest_34 : decode b_C_lowest 34 = .ok (.sipush 1970, 3) := by decide +kernel
theorem d_C_lowest_37 : decode b_C_lowest 37 = .ok (.ireturn, 1) := by decide +kernel
theorem d_C_lowest_38 : decode b_C_lowest 38 = .ok (.iconst 0, 1) := by decide +kernel
theorem d_C_lowest_39 : decode b_C_lowest 39 = .ok (.ireturn, 1) := by decide +kernel
theorem ci_C_lowest : jm_ci jm_G y_C_lowest (Cond.code y_C_lowest b_C_lowest 1 (some FieldType.int)) 1 1 := ⟨jm_g3 49 rfl rfl, Or.inl ⟨_, _, rfl⟩, jm_g1 5 rfl rfl, ⟨by decide, by decide⟩, by decide +kernel⟩
theorem st_C_lowest : Cond.static y_C_lowest ∈ jm_G := jm_g3 48 rfl rfl
def y_C_highest : MethodName := ⟨"JobHouse$Cron", "highest", "(I)I"⟩
abbrev b_C_highest : ByteArray := prog_2_method_3_code
theorem d_C_highest_0 : decode b_C_highest 0 = .ok (.iload_n 0, 1) := by decide +kernel
theorem d_C_highest_1 : decode b_C_highest 1 = .ok (.tableswitch 51 2 6 #[35, 38, 41, 44, 47], 35) := by decide +kernel
theorem d_C_highest_36 : decode b_C_highest 36 = .ok (.bipush 23, 2) := by decide +kernel
theorem d_C_highest_38 : decode b_C_highest 38 = .ok (.ireturn, 1) := by decide +kernel
theorem d_C_highest_39 : decode b_C_highest 39 = .ok (.bipush 31, 2) := by decide +kernel
theorem d_C_highest_41 : decode b_C_highest 41 = .ok (.ireturn, 1) := by decide +kernel
theorem d_C_highest_42 : decode b_C_highest 42 = .ok (.bipush 12, 2) := by decide +kernel
theorem d_C_highest_44 : decode b_C_highest 44 = .ok (.ireturn, 1) := by decide +kernel
theorem d_C_highest_45 : decode b_C_highest 45 = .ok (.bipush 7, 2) := by decide +kernel
theorem d_C_highest_47 : decode b_C_highest 47 = .ok (.ireturn, 1) := by decide +kernel
theorem d_C_highest_48 : decode b_C_highest 48 = .ok (.sipush 2299, 3) := by decide +kernel
theorem d_C_highest_51 : decode b_C_highest 51 = .ok (.ireturn, 1) := by decide +kernel
theorem d_C_highest_52 : decode b_C_highest 52 = .ok (.bipush 59, 2) := by decide +kernel
theorem d_C_highest_54 : decode b_C_highest 54 = .ok (.ireturn, 1) := by decide +kernel
theorem ci_C_highest : jm_ci jm_G y_C_highest (Cond.code y_C_highest b_C_highest 1 (some FieldType.int)) 1 1 := ⟨jm_g3 52 rfl rfl, Or.inl ⟨_, _, rfl⟩, jm_g1 5 rfl rfl, ⟨by decide, by decide⟩, by decide +kernel⟩
theorem st_C_highest : Cond.static y_C_highest ∈ jm_G := jm_g3 51 rfl rfl
def y_C_clear : MethodName := ⟨"JobHouse$Cron", "clear", "()V"⟩
abbrev b_C_clear : ByteArray := prog_2_method_4_code
theorem d_C_clear_0 : decode b_C_clear 0 = .ok (.iconst 0, 1) := by decide +kernel
theorem d_C_clear_1 : decode b_C_clear 1 = .ok (.istore_n 1, 1) := by decide +kernel
theorem d_C_clear_2 : decode b_C_clear 2 = .ok (.iload_n 1, 1) := by decide +kernel
theorem d_C_clear_3 : decode b_C_clear 3 = .ok (.bipush 12, 2) := by decide +kernel
theorem d_C_clear_5 : decode b_C_clear 5 = .ok (.if_icmp .ge 16, 3) := by decide +kernel
theorem d_C_clear_8 : decode b_C_clear 8 = .ok (.aload_n 0, 1) := by decide +kernel
theorem d_C_clear_9 : decode b_C_clear 9 = .ok (.getfield 11, 3) := by decide +kernel
theorem d_C_clear_12 : decode b_C_clear 12 = .ok (.iload_n 1, 1) := by decide +kernel
theorem d_C_clear_13 : decode b_C_clear 13 = .ok (.lconst 0, 1) := by decide +kernel
theorem d_C_clear_14 : decode b_C_clear 14 = .ok (.lastore, 1) := by decide +kernel
theorem d_C_clear_15 : decode b_C_clear 15 = .ok (.iinc 1 1, 3) := by decide +kernel
theorem d_C_clear_18 : decode b_C_clear 18 = .ok (.goto (-16), 3) := by decide +kernel
theorem d_C_clear_21 : decode b_C_clear 21 = .ok (.aload_n 0, 1) := by decide +kernel
theorem d_C_clear_22 : decode b_C_clear 22 = .ok (.iconst 0, 1) := by decide +kernel
theorem d_C_clear_23 : decode b_C_clear 23 = .ok (.putfield 15, 3) := by decide +kernel
theorem d_C_clear_26 : decode b_C_clear 26 = .ok (.return_, 1) := by decide +kernel
theorem ci_C_clear : jm_ci jm_G y_C_clear (Cond.code y_C_clear b_C_clear 2 (none)) 2 0 := ⟨jm_g3 40 rfl rfl, Or.inl ⟨_, _, rfl⟩, jm_g1 5 rfl rfl, ⟨by decide, by decide⟩, by decide +kernel⟩
theorem im_C_clear : Cond.instanceMethod y_C_clear ∈ jm_G := jm_g3 38 rfl rfl
theorem se_C_clear : Cond.selects y_C_clear.cls y_C_clear y_C_clear ∈ jm_G := jm_g3 39 rfl rfl
def y_C_add : MethodName := ⟨"JobHouse$Cron", "add", "(II)V"⟩
abbrev b_C_add : ByteArray := prog_2_method_5_code
theorem d_C_add_0 : decode b_C_add 0 = .ok (.iload_n 1, 1) := by decide +kernel
theorem d_C_add_1 : decode b_C_add 1 = .ok (.bipush 6, 2) := by decide +kernel
theorem d_C_add_3 : decode b_C_add 3 = .ok (.if_icmp .ne 33, 3) := by decide +kernel
theorem d_C_add_6 : decode b_C_add 6 = .ok (.iload_n 2, 1) := by decide +kernel
theorem d_C_add_7 : decode b_C_add 7 = .ok (.sipush 1970, 3) := by decide +kernel
theorem d_C_add_10 : decode b_C_add 10 = .ok (.isub, 1) := by decide +kernel
theorem d_C_add_11 : decode b_C_add 11 = .ok (.istore_n 3, 1) := by decide +kernel
theorem d_C_add_12 : decode b_C_add 12 = .ok (.aload_n 0, 1) := by decide +kernel
theorem d_C_add_13 : decode b_C_add 13 = .ok (.getfield 11, 3) := by decide +kernel
theorem d_C_add_16 : decode b_C_add 16 = .ok (.bipush 6, 2) := by decide +kernel
theorem d_C_add_18 : decode b_C_add 18 = .ok (.iload_n 3, 1) := by decide +kernel
theorem d_C_add_19 : decode b_C_add 19 = .ok (.bipush 64, 2) := by decide +kernel
theorem d_C_add_21 : decode b_C_add 21 = .ok (.idiv, 1) := by decide +kernel
theorem d_C_add_22 : decode b_C_add 22 = .ok (.iadd, 1) := by decide +kernel
theorem d_C_add_23 : decode b_C_add 23 = .ok (.dup2, 1) := by decide +kernel
theorem d_C_add_24 : decode b_C_add 24 = .ok (.laload, 1) := by decide +kernel
theorem d_C_add_25 : decode b_C_add 25 = .ok (.lconst 1, 1) := by decide +kernel
theorem d_C_add_26 : decode b_C_add 26 = .ok (.iload_n 3, 1) := by decide +kernel
theorem d_C_add_27 : decode b_C_add 27 = .ok (.bipush 64, 2) := by decide +kernel
theorem d_C_add_29 : decode b_C_add 29 = .ok (.irem, 1) := by decide +kernel
theorem d_C_add_30 : decode b_C_add 30 = .ok (.lshl, 1) := by decide +kernel
theorem d_C_add_31 : decode b_C_add 31 = .ok (.lor, 1) := by decide +kernel
theorem d_C_add_32 : decode b_C_add 32 = .ok (.lastore, 1) := by decide +kernel
theorem d_C_add_33 : decode b_C_add 33 = .ok (.goto 15, 3) := by decide +kernel
theorem d_C_add_36 : decode b_C_add 36 = .ok (.aload_n 0, 1) := by decide +kernel
theorem d_C_add_37 : decode b_C_add 37 = .ok (.getfield 11, 3) := by decide +kernel
theorem d_C_add_40 : decode b_C_add 40 = .ok (.iload_n 1, 1) := by decide +kernel
theorem d_C_add_41 : decode b_C_add 41 = .ok (.dup2, 1) := by decide +kernel
theorem d_C_add_42 : decode b_C_add 42 = .ok (.laload, 1) := by decide +kernel
theorem d_C_add_43 : decode b_C_add 43 = .ok (.lconst 1, 1) := by decide +kernel
theorem d_C_add_44 : decode b_C_add 44 = .ok (.iload_n 2, 1) := by decide +kernel
theorem d_C_add_45 : decode b_C_add 45 = .ok (.lshl, 1) := by decide +kernel
theorem d_C_add_46 : decode b_C_add 46 = .ok (.lor, 1) := by decide +kernel
theorem d_C_add_47 : decode b_C_add 47 = .ok (.lastore, 1) := by decide +kernel
theorem d_C_add_48 : decode b_C_add 48 = .ok (.return_, 1) := by decide +kernel
theorem ci_C_add : jm_ci jm_G y_C_add (Cond.code y_C_add b_C_add 4 (none)) 4 2 := ⟨jm_g3 126 rfl rfl, Or.inl ⟨_, _, rfl⟩, jm_g1 5 rfl rfl, ⟨by decide, by decide⟩, by decide +kernel⟩
theorem im_C_add : Cond.instanceMethod y_C_add ∈ jm_G := jm_g3 124 rfl rfl
theorem se_C_add : Cond.selects y_C_add.cls y_C_add y_C_add ∈ jm_G := jm_g3 125 rfl rfl
def y_C_hasMonth : MethodName := ⟨"JobHouse$Cron", "hasMonth", "(I)Z"⟩
abbrev b_C_hasMonth : ByteArray := prog_2_method_6_code
theorem d_C_hasMonth_0 : decode b_C_hasMonth 0 = .ok (.aload_n 0, 1) := by decide +kernel
theorem d_C_hasMonth_1 : decode b_C_hasMonth 1 = .ok (.getfield 11, 3) := by decide +kernel
theorem d_C_hasMonth_4 : decode b_C_hasMonth 4 = .ok (.iconst 4, 1) := by decide +kernel
theorem d_C_hasMonth_5 : decode b_C_hasMonth 5 = .ok (.laload, 1) := by decide +kernel
theorem d_C_hasMonth_6 : decode b_C_hasMonth 6 = .ok (.iload_n 1, 1) := by decide +kernel
theorem d_C_hasMonth_7 : decode b_C_hasMonth 7 = .ok (.lshr, 1) := by decide +kernel
theorem d_C_hasMonth_8 : decode b_C_hasMonth 8 = .ok (.lconst 1, 1) := by decide +kernel
theorem d_C_hasMonth_9 : decode b_C_hasMonth 9 = .ok (.land, 1) := by decide +kernel
theorem d_C_hasMonth_10 : decode b_C_hasMonth 10 = .ok (.lconst 0, 1) := by decide +kernel
theorem d_C_hasMonth_11 : decode b_C_hasMonth 11 = .ok (.lcmp, 1) := by decide +kernel
theorem d_C_hasMonth_12 : decode b_C_hasMonth 12 = .ok (.ifCond .eq 7, 3) := by decide +kernel
theorem d_C_hasMonth_15 : decode b_C_hasMonth 15 = .ok (.iconst 1, 1) := by decide +kernel
theorem d_C_hasMonth_16 : decode b_C_hasMonth 16 = .ok (.goto 4, 3) := by decide +kernel
theorem d_C_hasMonth_19 : decode b_C_hasMonth 19 = .ok (.iconst 0, 1) := by decide +kernel
theorem d_C_hasMonth_20 : decode b_C_hasMonth 20 = .ok (.ireturn, 1) := by decide +kernel
theorem ci_C_hasMonth : jm_ci jm_G y_C_hasMonth (Cond.code y_C_hasMonth b_C_hasMonth 2 (some FieldType.boolean)) 2 1 := ⟨jm_g4 28 rfl rfl, Or.inl ⟨_, _, rfl⟩, jm_g1 5 rfl rfl, ⟨by decide, by decide⟩, by decide +kernel⟩
theorem im_C_hasMonth : Cond.instanceMethod y_C_hasMonth ∈ jm_G := jm_g4 26 rfl rfl
theorem se_C_hasMonth : Cond.selects y_C_hasMonth.cls y_C_hasMonth y_C_hasMonth ∈ jm_G := jm_g4 27 rfl rfl
def y_C_hasYear : MethodName := ⟨"JobHouse$Cron", "hasYear", "(I)Z"⟩
abbrev b_C_hasYear : ByteArray := prog_2_method_7_code
theorem d_C_hasYear_0 : decode b_C_hasYear 0 = .ok (.iload_n 1, 1) := by decide +kernel
theorem d_C_hasYear_1 : decode b_C_hasYear 1 = .ok (.sipush 1970, 3) := by decide +kernel
theorem d_C_hasYear_4 : decode b_C_hasYear 4 = .ok (.isub, 1) := by decide +kernel
theorem d_C_hasYear_5 : decode b_C_hasYear 5 = .ok (.istore_n 2, 1) := by decide +kernel
theorem d_C_hasYear_6 : decode b_C_hasYear 6 = .ok (.aload_n 0, 1) := by decide +kernel
theorem d_C_hasYear_7 : decode b_C_hasYear 7 = .ok (.getfield 11, 3) := by decide +kernel
theorem d_C_hasYear_10 : decode b_C_hasYear 10 = .ok (.bipush 6, 2) := by decide +kernel
theorem d_C_hasYear_12 : decode b_C_hasYear 12 = .ok (.iload_n 2, 1) := by decide +kernel
theorem d_C_hasYear_13 : decode b_C_hasYear 13 = .ok (.bipush 64, 2) := by decide +kernel
theorem d_C_hasYear_15 : decode b_C_hasYear 15 = .ok (.idiv, 1) := by decide +kernel
theorem d_C_hasYear_16 : decode b_C_hasYear 16 = .ok (.iadd, 1) := by decide +kernel
theorem d_C_hasYear_17 : decode b_C_hasYear 17 = .ok (.laload, 1) := by decide +kernel
theorem d_C_hasYear_18 : decode b_C_hasYear 18 = .ok (.iload_n 2, 1) := by decide +kernel
theorem d_C_hasYear_19 : decode b_C_hasYear 19 = .ok (.bipush 64, 2) := by decide +kernel
theorem d_C_hasYear_21 : decode b_C_hasYear 21 = .ok (.irem, 1) := by decide +kernel
theorem d_C_hasYear_22 : decode b_C_hasYear 22 = .ok (.lshr, 1) := by decide +kernel
theorem d_C_hasYear_23 : decode b_C_hasYear 23 = .ok (.lconst 1, 1) := by decide +kernel
theorem d_C_hasYear_24 : decode b_C_hasYear 24 = .ok (.land, 1) := by decide +kernel
theorem d_C_hasYear_25 : decode b_C_hasYear 25 = .ok (.lconst 0, 1) := by decide +kernel
theorem d_C_hasYear_26 : decode b_C_hasYear 26 = .ok (.lcmp, 1) := by decide +kernel
theorem d_C_hasYear_27 : decode b_C_hasYear 27 = .ok (.ifCond .eq 7, 3) := by decide +kernel
theorem d_C_hasYear_30 : decode b_C_hasYear 30 = .ok (.iconst 1, 1) := by decide +kernel
theorem d_C_hasYear_31 : decode b_C_hasYear 31 = .ok (.goto 4, 3) := by decide +kernel
theorem d_C_hasYear_34 : decode b_C_hasYear 34 = .ok (.iconst 0, 1) := by decide +kernel
theorem d_C_hasYear_35 : decode b_C_hasYear 35 = .ok (.ireturn, 1) := by decide +kernel
theorem ci_C_hasYear : jm_ci jm_G y_C_hasYear (Cond.code y_C_hasYear b_C_hasYear 3 (some FieldType.boolean)) 3 1 := ⟨jm_g4 24 rfl rfl, Or.inl ⟨_, _, rfl⟩, jm_g1 5 rfl rfl, ⟨by decide, by decide⟩, by decide +kernel⟩
theorem im_C_hasYear : Cond.instanceMethod y_C_hasYear ∈ jm_G := jm_g4 22 rfl rfl
theorem se_C_hasYear : Cond.selects y_C_hasYear.cls y_C_hasYear y_C_hasYear ∈ jm_G := jm_g4 23 rfl rfl
def y_C_daysOf : MethodName := ⟨"JobHouse$Cron", "daysOf", "(II)J"⟩
abbrev b_C_daysOf : ByteArray := prog_2_method_8_code
theorem d_C_daysOf_0 : decode b_C_daysOf 0 = .ok (.aload_n 0, 1) := by decide +kernel
theorem d_C_daysOf_1 : decode b_C_daysOf 1 = .ok (.getfield 15, 3) := by decide +kernel
theorem d_C_daysOf_4 : decode b_C_daysOf 4 = .ok (.tableswitch 87 0 4 #[36, 48, 59, 70, 77], 36) := by decide +kernel
theorem d_C_daysOf_40 : decode b_C_daysOf 40 = .ok (.aload_n 0, 1) := by decide +kernel
theorem d_C_daysOf_41 : decode b_C_daysOf 41 = .ok (.getfield 11, 3) := by decide +kernel
theorem d_C_daysOf_44 : decode b_C_daysOf 44 = .ok (.iconst 3, 1) := by decide +kernel
theorem d_C_daysOf_45 : decode b_C_daysOf 45 = .ok (.laload, 1) := by decide +kernel
theorem d_C_daysOf_46 : decode b_C_daysOf 46 = .ok (.iload_n 1, 1) := by decide +kernel
theorem d_C_daysOf_47 : decode b_C_daysOf 47 = .ok (.invokestatic 19, 3) := by decide +kernel
theorem d_C_daysOf_50 : decode b_C_daysOf 50 = .ok (.land, 1) := by decide +kernel
theorem d_C_daysOf_51 : decode b_C_daysOf 51 = .ok (.lreturn, 1) := by decide +kernel
theorem d_C_daysOf_52 : decode b_C_daysOf 52 = .ok (.aload_n 0, 1) := by decide +kernel
theorem d_C_daysOf_53 : decode b_C_daysOf 53 = .ok (.iload_n 2, 1) := by decide +kernel
theorem d_C_daysOf_54 : decode b_C_daysOf 54 = .ok (.invokevirtual 23, 3) := by decide +kernel
theorem d_C_daysOf_57 : decode b_C_daysOf 57 = .ok (.iload_n 1, 1) := by decide +kernel
theorem d_C_daysOf_58 : decode b_C_daysOf 58 = .ok (.invokestatic 19, 3) := by decide +kernel
theorem d_C_daysOf_61 : decode b_C_daysOf 61 = .ok (.land, 1) := by decide +kernel
theorem d_C_daysOf_62 : decode b_C_daysOf 62 = .ok (.lreturn, 1) := by decide +kernel
theorem d_C_daysOf_63 : decode b_C_daysOf 63 = .ok (.iload_n 1, 1) := by decide +kernel
theorem d_C_daysOf_64 : decode b_C_daysOf 64 = .ok (.aload_n 0, 1) := by decide +kernel
theorem d_C_daysOf_65 : decode b_C_daysOf 65 = .ok (.getfield 26, 3) := by decide +kernel
theorem d_C_daysOf_68 : decode b_C_daysOf 68 = .ok (.isub, 1) := by decide +kernel
theorem d_C_daysOf_69 : decode b_C_daysOf 69 = .ok (.iload_n 1, 1) := by decide +kernel
theorem d_C_daysOf_70 : decode b_C_daysOf 70 = .ok (.invokestatic 29, 3) := by decide +kernel
theorem d_C_daysOf_73 : decode b_C_daysOf 73 = .ok (.lreturn, 1) := by decide +kernel
theorem d_C_daysOf_74 : decode b_C_daysOf 74 = .ok (.iload_n 1, 1) := by decide +kernel
theorem d_C_daysOf_75 : decode b_C_daysOf 75 = .ok (.iload_n 1, 1) := by decide +kernel
theorem d_C_daysOf_76 : decode b_C_daysOf 76 = .ok (.iload_n 2, 1) := by decide +kernel
theorem d_C_daysOf_77 : decode b_C_daysOf 77 = .ok (.invokestatic 33, 3) := by decide +kernel
theorem d_C_daysOf_80 : decode b_C_daysOf 80 = .ok (.lreturn, 1) := by decide +kernel
theorem d_C_daysOf_81 : decode b_C_daysOf 81 = .ok (.aload_n 0, 1) := by decide +kernel
theorem d_C_daysOf_82 : decode b_C_daysOf 82 = .ok (.getfield 37, 3) := by decide +kernel
theorem d_C_daysOf_85 : decode b_C_daysOf 85 = .ok (.iload_n 1, 1) := by decide +kernel
theorem d_C_daysOf_86 : decode b_C_daysOf 86 = .ok (.iload_n 2, 1) := by decide +kernel
theorem d_C_daysOf_87 : decode b_C_daysOf 87 = .ok (.invokestatic 33, 3) := by decide +kernel
theorem d_C_daysOf_90 : decode b_C_daysOf 90 = .ok (.lreturn, 1) := by decide +kernel
theorem d_C_daysOf_91 : decode b_C_daysOf 91 = .ok (.iconst 1, 1) := by decide +kernel
theorem d_C_daysOf_92 : decode b_C_daysOf 92 = .ok (.aload_n 0, 1) := by decide +kernel
theorem d_C_daysOf_93 : decode b_C_daysOf 93 = .ok (.getfield 37, 3) := by decide +kernel
theorem d_C_daysOf_96 : decode b_C_daysOf 96 = .ok (.iload_n 2, 1) := by decide +kernel
theorem d_C_daysOf_97 : decode b_C_daysOf 97 = .ok (.isub, 1) := by decide +kernel
theorem d_C_daysOf_98 : decode b_C_daysOf 98 = .ok (.bipush 7, 2) := by decide +kernel
theorem d_C_daysOf_100 : decode b_C_daysOf 100 = .ok (.invokestatic 40, 3) := by decide +kernel
theorem d_C_daysOf_103 : decode b_C_daysOf 103 = .ok (.iadd, 1) := by decide +kernel
theorem d_C_daysOf_104 : decode b_C_daysOf 104 = .ok (.istore_n 3, 1) := by decide +kernel
theorem d_C_daysOf_105 : decode b_C_daysOf 105 = .ok (.aload_n 0, 1) := by decide +kernel
theorem d_C_daysOf_106 : decode b_C_daysOf 106 = .ok (.getfield 15, 3) := by decide +kernel
theorem d_C_daysOf_109 : decode b_C_daysOf 109 = .ok (.iconst 5, 1) := by decide +kernel
theorem d_C_daysOf_110 : decode b_C_daysOf 110 = .ok (.if_icmp .ne 19, 3) := by decide +kernel
theorem d_C_daysOf_113 : decode b_C_daysOf 113 = .ok (.iload_n 3, 1) := by decide +kernel
theorem d_C_daysOf_114 : decode b_C_daysOf 114 = .ok (.iload_n 1, 1) := by decide +kernel
theorem d_C_daysOf_115 : decode b_C_daysOf 115 = .ok (.iload_n 3, 1) := by decide +kernel
theorem d_C_daysOf_116 : decode b_C_daysOf 116 = .ok (.isub, 1) := by decide +kernel
theorem d_C_daysOf_117 : decode b_C_daysOf 117 = .ok (.bipush 7, 2) := by decide +kernel
theorem d_C_daysOf_119 : decode b_C_daysOf 119 = .ok (.idiv, 1) := by decide +kernel
theorem d_C_daysOf_120 : decode b_C_daysOf 120 = .ok (.bipush 7, 2) := by decide +kernel
theorem d_C_daysOf_122 : decode b_C_daysOf 122 = .ok (.imul, 1) := by decide +kernel
theorem d_C_daysOf_123 : decode b_C_daysOf 123 = .ok (.iadd, 1) := by decide +kernel
theorem d_C_daysOf_124 : decode b_C_daysOf 124 = .ok (.iload_n 1, 1) := by decide +kernel
theorem d_C_daysOf_125 : decode b_C_daysOf 125 = .ok (.invokestatic 29, 3) := by decide +kernel
theorem d_C_daysOf_128 : decode b_C_daysOf 128 = .ok (.lreturn, 1) := by decide +kernel
theorem d_C_daysOf_129 : decode b_C_daysOf 129 = .ok (.iload_n 3, 1) := by decide +kernel
theorem d_C_daysOf_130 : decode b_C_daysOf 130 = .ok (.bipush 7, 2) := by decide +kernel
theorem d_C_daysOf_132 : decode b_C_daysOf 132 = .ok (.aload_n 0, 1) := by decide +kernel
theorem d_C_daysOf_133 : decode b_C_daysOf 133 = .ok (.getfield 26, 3) := by decide +kernel
theorem d_C_daysOf_136 : decode b_C_daysOf 136 = .ok (.iconst 1, 1) := by decide +kernel
theorem d_C_daysOf_137 : decode b_C_daysOf 137 = .ok (.isub, 1) := by decide +kernel
theorem d_C_daysOf_138 : decode b_C_daysOf 138 = .ok (.imul, 1) := by decide +kernel
theorem d_C_daysOf_139 : decode b_C_daysOf 139 = .ok (.iadd, 1) := by decide +kernel
theorem d_C_daysOf_140 : decode b_C_daysOf 140 = .ok (.iload_n 1, 1) := by decide +kernel
theorem d_C_daysOf_141 : decode b_C_daysOf 141 = .ok (.invokestatic 29, 3) := by decide +kernel
theorem d_C_daysOf_144 : decode b_C_daysOf 144 = .ok (.lreturn, 1) := by decide +kernel
theorem ci_C_daysOf : jm_ci jm_G y_C_daysOf (Cond.code y_C_daysOf b_C_daysOf 4 (some FieldType.long)) 4 2 := ⟨jm_g4 38 rfl rfl, Or.inl ⟨_, _, rfl⟩, jm_g1 5 rfl rfl, ⟨by decide, by decide⟩, by decide +kernel⟩
theorem im_C_daysOf : Cond.instanceMethod y_C_daysOf ∈ jm_G := jm_g4 36 rfl rfl
theorem se_C_daysOf : Cond.selects y_C_daysOf.cls y_C_daysOf y_C_daysOf ∈ jm_G := jm_g4 37 rfl rfl
def y_C_weekdaysFrom : MethodName := ⟨"JobHouse$Cron", "weekdaysFrom", "(I)J"⟩
abbrev b_C_weekdaysFrom : ByteArray := prog_2_method_9_code
theorem d_C_weekdaysFrom_0 : decode b_C_weekdaysFrom 0 = .ok (.aload_n 0, 1) := by decide +kernel
theorem d_C_weekdaysFrom_1 : decode b_C_weekdaysFrom 1 = .ok (.getfield 11, 3) := by decide +kernel
theorem d_C_weekdaysFrom_4 : decode b_C_weekdaysFrom 4 = .ok (.iconst 5, 1) := by decide +kernel
theorem d_C_weekdaysFrom_5 : decode b_C_weekdaysFrom 5 = .ok (.laload, 1) := by decide +kernel
theorem d_C_weekdaysFrom_6 : decode b_C_weekdaysFrom 6 = .ok (.iload_n 1, 1) := by decide +kernel
theorem d_C_weekdaysFrom_7 : decode b_C_weekdaysFrom 7 = .ok (.lshr, 1) := by decide +kernel
theorem d_C_weekdaysFrom_8 : decode b_C_weekdaysFrom 8 = .ok (.aload_n 0, 1) := by decide +kernel
theorem d_C_weekdaysFrom_9 : decode b_C_weekdaysFrom 9 = .ok (.getfield 11, 3) := by decide +kernel
theorem d_C_weekdaysFrom_12 : decode b_C_weekdaysFrom 12 = .ok (.iconst 5, 1) := by decide +kernel
theorem d_C_weekdaysFrom_13 : decode b_C_weekdaysFrom 13 = .ok (.laload, 1) := by decide +kernel
theorem d_C_weekdaysFrom_14 : decode b_C_weekdaysFrom 14 = .ok (.bipush 7, 2) := by decide +kernel
theorem d_C_weekdaysFrom_16 : decode b_C_weekdaysFrom 16 = .ok (.iload_n 1, 1) := by decide +kernel
theorem d_C_weekdaysFrom_17 : decode b_C_weekdaysFrom 17 = .ok (.isub, 1) := by decide +kernel
theorem d_C_weekdaysFrom_18 : decode b_C_weekdaysFrom 18 = .ok (.lshl, 1) := by decide +kernel
theorem d_C_weekdaysFrom_19 : decode b_C_weekdaysFrom 19 = .ok (.lor, 1) := by decide +kernel
theorem d_C_weekdaysFrom_20 : decode b_C_weekdaysFrom 20 = .ok (.lstore_n 2, 1) := by decide +kernel
theorem d_C_weekdaysFrom_21 : decode b_C_weekdaysFrom 21 = .ok (.lload_n 2, 1) := by decide +kernel
theorem d_C_weekdaysFrom_22 : decode b_C_weekdaysFrom 22 = .ok (.iconst 1, 1) := by decide +kernel
theorem d_C_weekdaysFrom_23 : decode b_C_weekdaysFrom 23 = .ok (.lshl, 1) := by decide +kernel
theorem d_C_weekdaysFrom_24 : decode b_C_weekdaysFrom 24 = .ok (.ldc2_w 46, 3) := by decide +kernel
theorem d_C_weekdaysFrom_27 : decode b_C_weekdaysFrom 27 = .ok (.land, 1) := by decide +kernel
theorem d_C_weekdaysFrom_28 : decode b_C_weekdaysFrom 28 = .ok (.lstore_n 2, 1) := by decide +kernel
theorem d_C_weekdaysFrom_29 : decode b_C_weekdaysFrom 29 = .ok (.lload_n 2, 1) := by decide +kernel
theorem d_C_weekdaysFrom_30 : decode b_C_weekdaysFrom 30 = .ok (.lload_n 2, 1) := by decide +kernel
theorem d_C_weekdaysFrom_31 : decode b_C_weekdaysFrom 31 = .ok (.bipush 7, 2) := by decide +kernel
theorem d_C_weekdaysFrom_33 : decode b_C_weekdaysFrom 33 = .ok (.lshl, 1) := by decide +kernel
theorem d_C_weekdaysFrom_34 : decode b_C_weekdaysFrom 34 = .ok (.lor, 1) := by decide +kernel
theorem d_C_weekdaysFrom_35 : decode b_C_weekdaysFrom 35 = .ok (.lload_n 2, 1) := by decide +kernel
theorem d_C_weekdaysFrom_36 : decode b_C_weekdaysFrom 36 = .ok (.bipush 14, 2) := by decide +kernel
theorem d_C_weekdaysFrom_38 : decode b_C_weekdaysFrom 38 = .ok (.lshl, 1) := by decide +kernel
theorem d_C_weekdaysFrom_39 : decode b_C_weekdaysFrom 39 = .ok (.lor, 1) := by decide +kernel
theorem d_C_weekdaysFrom_40 : decode b_C_weekdaysFrom 40 = .ok (.lload_n 2, 1) := by decide +kernel
theorem d_C_weekdaysFrom_41 : decode b_C_weekdaysFrom 41 = .ok (.bipush 21, 2) := by decide +kernel
theorem d_C_weekdaysFrom_43 : decode b_C_weekdaysFrom 43 = .ok (.lshl, 1) := by decide +kernel
theorem d_C_weekdaysFrom_44 : decode b_C_weekdaysFrom 44 = .ok (.lor, 1) := by decide +kernel
theorem d_C_weekdaysFrom_45 : decode b_C_weekdaysFrom 45 = .ok (.lload_n 2, 1) := by decide +kernel
theorem d_C_weekdaysFrom_46 : decode b_C_weekdaysFrom 46 = .ok (.bipush 28, 2) := by decide +kernel
theorem d_C_weekdaysFrom_48 : decode b_C_weekdaysFrom 48 = .ok (.lshl, 1) := by decide +kernel
theorem d_C_weekdaysFrom_49 : decode b_C_weekdaysFrom 49 = .ok (.lor, 1) := by decide +kernel
theorem d_C_weekdaysFrom_50 : decode b_C_weekdaysFrom 50 = .ok (.lreturn, 1) := by decide +kernel
theorem ci_C_weekdaysFrom : jm_ci jm_G y_C_weekdaysFrom (Cond.code y_C_weekdaysFrom b_C_weekdaysFrom 4 (some FieldType.long)) 4 1 := ⟨jm_g4 45 rfl rfl, Or.inl ⟨_, _, rfl⟩, jm_g1 5 rfl rfl, ⟨by decide, by decide⟩, by decide +kernel⟩
theorem im_C_weekdaysFrom : Cond.instanceMethod y_C_weekdaysFrom ∈ jm_G := jm_g4 44 rfl rfl
theorem se_C_weekdaysFrom : Cond.selects y_C_weekdaysFrom.cls y_C_weekdaysFrom y_C_weekdaysFrom ∈ jm_G := jm_g0 7 rfl rfl
def y_C_workdayNearest : MethodName := ⟨"JobHouse$Cron", "workdayNearest", "(III)J"⟩
abbrev b_C_workdayNearest : ByteArray := prog_2_method_10_code
theorem d_C_workdayNearest_0 : decode b_C_workdayNearest 0 = .ok (.iload_n 2, 1) := by decide +kernel
theorem d_C_workdayNearest_1 : decode b_C_workdayNearest 1 = .ok (.iload_n 0, 1) := by decide +kernel
theorem d_C_workdayNearest_2 : decode b_C_workdayNearest 2 = .ok (.iadd, 1) := by decide +kernel
theorem d_C_workdayNearest_3 : decode b_C_workdayNearest 3 = .ok (.iconst 2, 1) := by decide +kernel
theorem d_C_workdayNearest_4 : decode b_C_workdayNearest 4 = .ok (.isub, 1) := by decide +kernel
theorem d_C_workdayNearest_5 : decode b_C_workdayNearest 5 = .ok (.bipush 7, 2) := by decide +kernel
theorem d_C_workdayNearest_7 : decode b_C_workdayNearest 7 = .ok (.irem, 1) := by decide +kernel
theorem d_C_workdayNearest_8 : decode b_C_workdayNearest 8 = .ok (.iconst 1, 1) := by decide +kernel
theorem d_C_workdayNearest_9 : decode b_C_workdayNearest 9 = .ok (.iadd, 1) := by decide +kernel
theorem d_C_workdayNearest_10 : decode b_C_workdayNearest 10 = .ok (.istore_n 3, 1) := by decide +kernel
theorem d_C_workdayNearest_11 : decode b_C_workdayNearest 11 = .ok (.iload_n 0, 1) := by decide +kernel
theorem d_C_workdayNearest_12 : decode b_C_workdayNearest 12 = .ok (.iload_n 1, 1) := by decide +kernel
theorem d_C_workdayNearest_13 : decode b_C_workdayNearest 13 = .ok (.if_icmp .le 5, 3) := by decide +kernel
theorem d_C_workdayNearest_16 : decode b_C_workdayNearest 16 = .ok (.lconst 0, 1) := by decide +kernel
theorem d_C_workdayNearest_17 : decode b_C_workdayNearest 17 = .ok (.lreturn, 1) := by decide +kernel
theorem d_C_workdayNearest_18 : decode b_C_workdayNearest 18 = .ok (.iload_n 3, 1) := by decide +kernel
theorem d_C_workdayNearest_19 : decode b_C_workdayNearest 19 = .ok (.bipush 7, 2) := by decide +kernel
theorem d_C_workdayNearest_21 : decode b_C_workdayNearest 21 = .ok (.if_icmp .ne 20, 3) := by decide +kernel
theorem d_C_workdayNearest_24 : decode b_C_workdayNearest 24 = .ok (.lconst 1, 1) := by decide +kernel
theorem d_C_workdayNearest_25 : decode b_C_workdayNearest 25 = .ok (.iload_n 0, 1) := by decide +kernel
theorem d_C_workdayNearest_26 : decode b_C_workdayNearest 26 = .ok (.iconst 1, 1) := by decide +kernel
theorem d_C_workdayNearest_27 : decode b_C_workdayNearest 27 = .ok (.if_icmp .le 9, 3) := by decide +kernel
theorem d_C_workdayNearest_30 : decode b_C_workdayNearest 30 = .ok (.iload_n 0, 1) := by decide +kernel
theorem d_C_workdayNearest_31 : decode b_C_workdayNearest 31 = .ok (.iconst 1, 1) := by decide +kernel
theorem d_C_workdayNearest_32 : decode b_C_workdayNearest 32 = .ok (.isub, 1) := by decide +kernel
theorem d_C_workdayNearest_33 : decode b_C_workdayNearest 33 = .ok (.goto 6, 3) := by decide +kernel
theorem d_C_workdayNearest_36 : decode b_C_workdayNearest 36 = .ok (.iload_n 0, 1) := by decide +kernel
theorem d_C_workdayNearest_37 : decode b_C_workdayNearest 37 = .ok (.iconst 2, 1) := by decide +kernel
theorem d_C_workdayNearest_38 : decode b_C_workdayNearest 38 = .ok (.iadd, 1) := by decide +kernel
theorem d_C_workdayNearest_39 : decode b_C_workdayNearest 39 = .ok (.lshl, 1) := by decide +kernel
theorem d_C_workdayNearest_40 : decode b_C_workdayNearest 40 = .ok (.lreturn, 1) := by decide +kernel
theorem d_C_workdayNearest_41 : decode b_C_workdayNearest 41 = .ok (.iload_n 3, 1) := by decide +kernel
theorem d_C_workdayNearest_42 : decode b_C_workdayNearest 42 = .ok (.iconst 1, 1) := by decide +kernel
theorem d_C_workdayNearest_43 : decode b_C_workdayNearest 43 = .ok (.if_icmp .ne 20, 3) := by decide +kernel
theorem d_C_workdayNearest_46 : decode b_C_workdayNearest 46 = .ok (.lconst 1, 1) := by decide +kernel
theorem d_C_workdayNearest_47 : decode b_C_workdayNearest 47 = .ok (.iload_n 0, 1) := by decide +kernel
theorem d_C_workdayNearest_48 : decode b_C_workdayNearest 48 = .ok (.iload_n 1, 1) := by decide +kernel
theorem d_C_workdayNearest_49 : decode b_C_workdayNearest 49 = .ok (.if_icmp .ge 9, 3) := by decide +kernel
theorem d_C_workdayNearest_52 : decode b_C_workdayNearest 52 = .ok (.iload_n 0, 1) := by decide +kernel
theorem d_C_workdayNearest_53 : decode b_C_workdayNearest 53 = .ok (.iconst 1, 1) := by decide +kernel
theorem d_C_workdayNearest_54 : decode b_C_workdayNearest 54 = .ok (.iadd, 1) := by decide +kernel
theorem d_C_workdayNearest_55 : decode b_C_workdayNearest 55 = .ok (.goto 6, 3) := by decide +kernel
theorem d_C_workdayNearest_58 : decode b_C_workdayNearest 58 = .ok (.iload_n 0, 1) := by decide +kernel
theorem d_C_workdayNearest_59 : decode b_C_workdayNearest 59 = .ok (.iconst 2, 1) := by decide +kernel
theorem d_C_workdayNearest_60 : decode b_C_workdayNearest 60 = .ok (.isub, 1) := by decide +kernel
theorem d_C_workdayNearest_61 : decode b_C_workdayNearest 61 = .ok (.lshl, 1) := by decide +kernel
theorem d_C_workdayNearest_62 : decode b_C_workdayNearest 62 = .ok (.lreturn, 1) := by decide +kernel
theorem d_C_workdayNearest_63 : decode b_C_workdayNearest 63 = .ok (.lconst 1, 1) := by decide +kernel
theorem d_C_workdayNearest_64 : decode b_C_workdayNearest 64 = .ok (.iload_n 0, 1) := by decide +kernel
theorem d_C_workdayNearest_65 : decode b_C_workdayNearest 65 = .ok (.lshl, 1) := by decide +kernel
theorem d_C_workdayNearest_66 : decode b_C_workdayNearest 66 = .ok (.lreturn, 1) := by decide +kernel
theorem ci_C_workdayNearest : jm_ci jm_G y_C_workdayNearest (Cond.code y_C_workdayNearest b_C_workdayNearest 4 (some FieldType.long)) 4 3 := ⟨jm_g4 52 rfl rfl, Or.inl ⟨_, _, rfl⟩, jm_g1 5 rfl rfl, ⟨by decide, by decide⟩, by decide +kernel⟩
theorem st_C_workdayNearest : Cond.static y_C_workdayNearest ∈ jm_G := jm_g4 51 rfl rfl
def y_C_bitOf : MethodName := ⟨"JobHouse$Cron", "bitOf", "(II)J"⟩
abbrev b_C_bitOf : ByteArray := prog_2_method_11_code
theorem d_C_bitOf_0 : decode b_C_bitOf 0 = .ok (.iload_n 0, 1) := by decide +kernel
theorem d_C_bitOf_1 : decode b_C_bitOf 1 = .ok (.iconst 1, 1) := by decide +kernel
theorem d_C_bitOf_2 : decode b_C_bitOf 2 = .ok (.if_icmp .lt 8, 3) := by decide +kernel
theorem d_C_bitOf_5 : decode b_C_bitOf 5 = .ok (.iload_n 0, 1) := by decide +kernel
theorem d_C_bitOf_6 : decode b_C_bitOf 6 = .ok (.iload_n 1, 1) := by decide +kernel
theorem d_C_bitOf_7 : decode b_C_bitOf 7 = .ok (.if_icmp .le 7, 3) := by decide +kernel
theorem d_C_bitOf_10 : decode b_C_bitOf 10 = .ok (.lconst 0, 1) := by decide +kernel
theorem d_C_bitOf_11 : decode b_C_bitOf 11 = .ok (.goto 6, 3) := by decide +kernel
theorem d_C_bitOf_14 : decode b_C_bitOf 14 = .ok (.lconst 1, 1) := by decide +kernel
theorem d_C_bitOf_15 : decode b_C_bitOf 15 = .ok (.iload_n 0, 1) := by decide +kernel
theorem d_C_bitOf_16 : decode b_C_bitOf 16 = .ok (.lshl, 1) := by decide +kernel
theorem d_C_bitOf_17 : decode b_C_bitOf 17 = .ok (.lreturn, 1) := by decide +kernel
theorem ci_C_bitOf : jm_ci jm_G y_C_bitOf (Cond.code y_C_bitOf b_C_bitOf 2 (some FieldType.long)) 2 2 := ⟨jm_g4 49 rfl rfl, Or.inl ⟨_, _, rfl⟩, jm_g1 5 rfl rfl, ⟨by decide, by decide⟩, by decide +kernel⟩
theorem st_C_bitOf : Cond.static y_C_bitOf ∈ jm_G := jm_g4 48 rfl rfl
def y_C_bitsUpTo : MethodName := ⟨"JobHouse$Cron", "bitsUpTo", "(I)J"⟩
abbrev b_C_bitsUpTo : ByteArray := prog_2_method_12_code
theorem d_C_bitsUpTo_0 : decode b_C_bitsUpTo 0 = .ok (.lconst 1, 1) := by decide +kernel
theorem d_C_bitsUpTo_1 : decode b_C_bitsUpTo 1 = .ok (.iload_n 0, 1) := by decide +kernel
theorem d_C_bitsUpTo_2 : decode b_C_bitsUpTo 2 = .ok (.iconst 1, 1) := by decide +kernel
theorem d_C_bitsUpTo_3 : decode b_C_bitsUpTo 3 = .ok (.iadd, 1) := by decide +kernel
theorem d_C_bitsUpTo_4 : decode b_C_bitsUpTo 4 = .ok (.lshl, 1) := by decide +kernel
theorem d_C_bitsUpTo_5 : decode b_C_bitsUpTo 5 = .ok (.lconst 1, 1) := by decide +kernel
theorem d_C_bitsUpTo_6 : decode b_C_bitsUpTo 6 = .ok (.lsub, 1) := by decide +kernel
theorem d_C_bitsUpTo_7 : decode b_C_bitsUpTo 7 = .ok (.lreturn, 1) := by decide +kernel
theorem ci_C_bitsUpTo : jm_ci jm_G y_C_bitsUpTo (Cond.code y_C_bitsUpTo b_C_bitsUpTo 1 (some FieldType.long)) 1 1 := ⟨jm_g4 41 rfl rfl, Or.inl ⟨_, _, rfl⟩, jm_g1 5 rfl rfl, ⟨by decide, by decide⟩, by decide +kernel⟩
theorem st_C_bitsUpTo : Cond.static y_C_bitsUpTo ∈ jm_G := jm_g4 40 rfl rfl
def y_C_timeFrom : MethodName := ⟨"JobHouse$Cron", "timeFrom", "(I)I"⟩
abbrev b_C_timeFrom : ByteArray := prog_2_method_13_code
theorem d_C_timeFrom_0 : decode b_C_timeFrom 0 = .ok (.aload_n 0, 1) := by decide +kernel
theorem d_C_timeFrom_1 : decode b_C_timeFrom 1 = .ok (.getfield 11, 3) := by decide +kernel
theorem d_C_timeFrom_4 : decode b_C_timeFrom 4 = .ok (.iconst 2, 1) := by decide +kernel
theorem d_C_timeFrom_5 : decode b_C_timeFrom 5 = .ok (.laload, 1) := by decide +kernel
theorem d_C_timeFrom_6 : decode b_C_timeFrom 6 = .ok (.iload_n 1, 1) := by decide +kernel
theorem d_C_timeFrom_7 : decode b_C_timeFrom 7 = .ok (.sipush 3600, 3) := by decide +kernel
theorem d_C_timeFrom_10 : decode b_C_timeFrom 10 = .ok (.idiv, 1) := by decide +kernel
theorem d_C_timeFrom_11 : decode b_C_timeFrom 11 = .ok (.invokestatic 48, 3) := by decide +kernel
theorem d_C_timeFrom_14 : decode b_C_timeFrom 14 = .ok (.istore_n 2, 1) := by decide +kernel
theorem d_C_timeFrom_15 : decode b_C_timeFrom 15 = .ok (.aload_n 0, 1) := by decide +kernel
theorem d_C_timeFrom_16 : decode b_C_timeFrom 16 = .ok (.getfield 11, 3) := by decide +kernel
theorem d_C_timeFrom_19 : decode b_C_timeFrom 19 = .ok (.iconst 1, 1) := by decide +kernel
theorem d_C_timeFrom_20 : decode b_C_timeFrom 20 = .ok (.laload, 1) := by decide +kernel
theorem d_C_timeFrom_21 : decode b_C_timeFrom 21 = .ok (.iload_n 2, 1) := by decide +kernel
theorem d_C_timeFrom_22 : decode b_C_timeFrom 22 = .ok (.iload_n 1, 1) := by decide +kernel
theorem d_C_timeFrom_23 : decode b_C_timeFrom 23 = .ok (.sipush 3600, 3) := by decide +kernel
theorem d_C_timeFrom_26 : decode b_C_timeFrom 26 = .ok (.idiv, 1) := by decide +kernel
theorem d_C_timeFrom_27 : decode b_C_timeFrom 27 = .ok (.if_icmp .ne 13, 3) := by decide +kernel
theorem d_C_timeFrom_30 : decode b_C_timeFrom 30 = .ok (.iload_n 1, 1) := by decide +kernel
theorem d_C_timeFrom_31 : decode b_C_timeFrom 31 = .ok (.bipush 60, 2) := by decide +kernel
theorem d_C_timeFrom_33 : decode b_C_timeFrom 33 = .ok (.idiv, 1) := by decide +kernel
theorem d_C_timeFrom_34 : decode b_C_timeFrom 34 = .ok (.bipush 60, 2) := by decide +kernel
theorem d_C_timeFrom_36 : decode b_C_timeFrom 36 = .ok (.irem, 1) := by decide +kernel
theorem d_C_timeFrom_37 : decode b_C_timeFrom 37 = .ok (.goto 4, 3) := by decide +kernel
theorem d_C_timeFrom_40 : decode b_C_timeFrom 40 = .ok (.iconst 0, 1) := by decide +kernel
theorem d_C_timeFrom_41 : decode b_C_timeFrom 41 = .ok (.invokestatic 48, 3) := by decide +kernel
theorem d_C_timeFrom_44 : decode b_C_timeFrom 44 = .ok (.istore_n 3, 1) := by decide +kernel
theorem d_C_timeFrom_45 : decode b_C_timeFrom 45 = .ok (.iload_n 2, 1) := by decide +kernel
theorem d_C_timeFrom_46 : decode b_C_timeFrom 46 = .ok (.iload_n 1, 1) := by decide +kernel
theorem d_C_timeFrom_47 : decode b_C_timeFrom 47 = .ok (.sipush 3600, 3) := by decide +kernel
theorem d_C_timeFrom_50 : decode b_C_timeFrom 50 = .ok (.idiv, 1) := by decide +kernel
theorem d_C_timeFrom_51 : decode b_C_timeFrom 51 = .ok (.if_icmp .ne 18, 3) := by decide +kernel
theorem d_C_timeFrom_54 : decode b_C_timeFrom 54 = .ok (.iload_n 3, 1) := by decide +kernel
theorem d_C_timeFrom_55 : decode b_C_timeFrom 55 = .ok (.iload_n 1, 1) := by decide +kernel
theorem d_C_timeFrom_56 : decode b_C_timeFrom 56 = .ok (.bipush 60, 2) := by decide +kernel
theorem d_C_timeFrom_58 : decode b_C_timeFrom 58 = .ok (.idiv, 1) := by decide +kernel
theorem d_C_timeFrom_59 : decode b_C_timeFrom 59 = .ok (.bipush 60, 2) := by decide +kernel
theorem d_C_timeFrom_61 : decode b_C_timeFrom 61 = .ok (.irem, 1) := by decide +kernel
theorem d_C_timeFrom_62 : decode b_C_timeFrom 62 = .ok (.if_icmp .ne 7, 3) := by decide +kernel
theorem d_C_timeFrom_65 : decode b_C_timeFrom 65 = .ok (.iconst 1, 1) := by decide +kernel
theorem d_C_timeFrom_66 : decode b_C_timeFrom 66 = .ok (.goto 4, 3) := by decide +kernel
theorem d_C_timeFrom_69 : decode b_C_timeFrom 69 = .ok (.iconst 0, 1) := by decide +kernel
theorem d_C_timeFrom_70 : decode b_C_timeFrom 70 = .ok (.istore 4, 2) := by decide +kernel
theorem d_C_timeFrom_72 : decode b_C_timeFrom 72 = .ok (.aload_n 0, 1) := by decide +kernel
theorem d_C_timeFrom_73 : decode b_C_timeFrom 73 = .ok (.getfield 11, 3) := by decide +kernel
theorem d_C_timeFrom_76 : decode b_C_timeFrom 76 = .ok (.iconst 0, 1) := by decide +kernel
theorem d_C_timeFrom_77 : decode b_C_timeFrom 77 = .ok (.laload, 1) := by decide +kernel
theorem d_C_timeFrom_78 : decode b_C_timeFrom 78 = .ok (.iload 4, 2) := by decide +kernel
theorem d_C_timeFrom_80 : decode b_C_timeFrom 80 = .ok (.ifCond .eq 10, 3) := by decide +kernel
theorem d_C_timeFrom_83 : decode b_C_timeFrom 83 = .ok (.iload_n 1, 1) := by decide +kernel
theorem d_C_timeFrom_84 : decode b_C_timeFrom 84 = .ok (.bipush 60, 2) := by decide +kernel
theorem d_C_timeFrom_86 : decode b_C_timeFrom 86 = .ok (.irem, 1) := by decide +kernel
theorem d_C_timeFrom_87 : decode b_C_timeFrom 87 = .ok (.goto 4, 3) := by decide +kernel
theorem d_C_timeFrom_90 : decode b_C_timeFrom 90 = .ok (.iconst 0, 1) := by decide +kernel
theorem d_C_timeFrom_91 : decode b_C_timeFrom 91 = .ok (.invokestatic 48, 3) := by decide +kernel
theorem d_C_timeFrom_94 : decode b_C_timeFrom 94 = .ok (.istore 5, 2) := by decide +kernel
theorem d_C_timeFrom_96 : decode b_C_timeFrom 96 = .ok (.iload 5, 2) := by decide +kernel
theorem d_C_timeFrom_98 : decode b_C_timeFrom 98 = .ok (.ifCond .ge 28, 3) := by decide +kernel
theorem d_C_timeFrom_101 : decode b_C_timeFrom 101 = .ok (.aload_n 0, 1) := by decide +kernel
theorem d_C_timeFrom_102 : decode b_C_timeFrom 102 = .ok (.getfield 11, 3) := by decide +kernel
theorem d_C_timeFrom_105 : decode b_C_timeFrom 105 = .ok (.iconst 1, 1) := by decide +kernel
theorem d_C_timeFrom_106 : decode b_C_timeFrom 106 = .ok (.laload, 1) := by decide +kernel
theorem d_C_timeFrom_107 : decode b_C_timeFrom 107 = .ok (.iload_n 3, 1) := by decide +kernel
theorem d_C_timeFrom_108 : decode b_C_timeFrom 108 = .ok (.iconst 1, 1) := by decide +kernel
theorem d_C_timeFrom_109 : decode b_C_timeFrom 109 = .ok (.iadd, 1) := by decide +kernel
theorem d_C_timeFrom_110 : decode b_C_timeFrom 110 = .ok (.invokestatic 48, 3) := by decide +kernel
theorem d_C_timeFrom_113 : decode b_C_timeFrom 113 = .ok (.istore_n 3, 1) := by decide +kernel
theorem d_C_timeFrom_114 : decode b_C_timeFrom 114 = .ok (.aload_n 0, 1) := by decide +kernel
theorem d_C_timeFrom_115 : decode b_C_timeFrom 115 = .ok (.getfield 11, 3) := by decide +kernel
theorem d_C_timeFrom_118 : decode b_C_timeFrom 118 = .ok (.iconst 0, 1) := by decide +kernel
theorem d_C_timeFrom_119 : decode b_C_timeFrom 119 = .ok (.laload, 1) := by decide +kernel
theorem d_C_timeFrom_120 : decode b_C_timeFrom 120 = .ok (.iconst 0, 1) := by decide +kernel
theorem d_C_timeFrom_121 : decode b_C_timeFrom 121 = .ok (.invokestatic 48, 3) := by decide +kernel
theorem d_C_timeFrom_124 : decode b_C_timeFrom 124 = .ok (.istore 5, 2) := by decide +kernel
theorem d_C_timeFrom_126 : decode b_C_timeFrom 126 = .ok (.iload_n 3, 1) := by decide +kernel
theorem d_C_timeFrom_127 : decode b_C_timeFrom 127 = .ok (.ifCond .ge 31, 3) := by decide +kernel
theorem d_C_timeFrom_130 : decode b_C_timeFrom 130 = .ok (.aload_n 0, 1) := by decide +kernel
theorem d_C_timeFrom_131 : decode b_C_timeFrom 131 = .ok (.getfield 11, 3) := by decide +kernel
theorem d_C_timeFrom_134 : decode b_C_timeFrom 134 = .ok (.iconst 2, 1) := by decide +kernel
theorem d_C_timeFrom_135 : decode b_C_timeFrom 135 = .ok (.laload, 1) := by decide +kernel
theorem d_C_timeFrom_136 : decode b_C_timeFrom 136 = .ok (.iload_n 1, 1) := by decide +kernel
theorem d_C_timeFrom_137 : decode b_C_timeFrom 137 = .ok (.sipush 3600, 3) := by decide +kernel
theorem d_C_timeFrom_140 : decode b_C_timeFrom 140 = .ok (.idiv, 1) := by decide +kernel
theorem d_C_timeFrom_141 : decode b_C_timeFrom 141 = .ok (.iconst 1, 1) := by decide +kernel
theorem d_C_timeFrom_142 : decode b_C_timeFrom 142 = .ok (.iadd, 1) := by decide +kernel
theorem d_C_timeFrom_143 : decode b_C_timeFrom 143 = .ok (.invokestatic 48, 3) := by decide +kernel
theorem d_C_timeFrom_146 : decode b_C_timeFrom 146 = .ok (.istore_n 2, 1) := by decide +kernel
theorem d_C_timeFrom_147 : decode b_C_timeFrom 147 = .ok (.aload_n 0, 1) := by decide +kernel
theorem d_C_timeFrom_148 : decode b_C_timeFrom 148 = .ok (.getfield 11, 3) := by decide +kernel
theorem d_C_timeFrom_151 : decode b_C_timeFrom 151 = .ok (.iconst 1, 1) := by decide +kernel
theorem d_C_timeFrom_152 : decode b_C_timeFrom 152 = .ok (.laload, 1) := by decide +kernel
theorem d_C_timeFrom_153 : decode b_C_timeFrom 153 = .ok (.iconst 0, 1) := by decide +kernel
theorem d_C_timeFrom_154 : decode b_C_timeFrom 154 = .ok (.invokestatic 48, 3) := by decide +kernel
theorem d_C_timeFrom_157 : decode b_C_timeFrom 157 = .ok (.istore_n 3, 1) := by decide +kernel
theorem d_C_timeFrom_158 : decode b_C_timeFrom 158 = .ok (.iload_n 2, 1) := by decide +kernel
theorem d_C_timeFrom_159 : decode b_C_timeFrom 159 = .ok (.ifCond .ge 7, 3) := by decide +kernel
theorem d_C_timeFrom_162 : decode b_C_timeFrom 162 = .ok (.iconst (-1), 1) := by decide +kernel
theorem d_C_timeFrom_163 : decode b_C_timeFrom 163 = .ok (.goto 16, 3) := by decide +kernel
theorem d_C_timeFrom_166 : decode b_C_timeFrom 166 = .ok (.iload_n 2, 1) := by decide +kernel
theorem d_C_timeFrom_167 : decode b_C_timeFrom 167 = .ok (.sipush 3600, 3) := by decide +kernel
theorem d_C_timeFrom_170 : decode b_C_timeFrom 170 = .ok (.imul, 1) := by decide +kernel
theorem d_C_timeFrom_171 : decode b_C_timeFrom 171 = .ok (.iload_n 3, 1) := by decide +kernel
theorem d_C_timeFrom_172 : decode b_C_timeFrom 172 = .ok (.bipush 60, 2) := by decide +kernel
theorem d_C_timeFrom_174 : decode b_C_timeFrom 174 = .ok (.imul, 1) := by decide +kernel
theorem d_C_timeFrom_175 : decode b_C_timeFrom 175 = .ok (.iadd, 1) := by decide +kernel
theorem d_C_timeFrom_176 : decode b_C_timeFrom 176 = .ok (.iload 5, 2) := by decide +kernel
theorem d_C_timeFrom_178 : decode b_C_timeFrom 178 = .ok (.iadd, 1) := by decide +kernel
theorem d_C_timeFrom_179 : decode b_C_timeFrom 179 = .ok (.ireturn, 1) := by decide +kernel
theorem ci_C_timeFrom : jm_ci jm_G y_C_timeFrom (Cond.code y_C_timeFrom b_C_timeFrom 6 (some FieldType.int)) 6 1 := ⟨jm_g4 68 rfl rfl, Or.inl ⟨_, _, rfl⟩, jm_g1 5 rfl rfl, ⟨by decide, by decide⟩, by decide +kernel⟩
theorem im_C_timeFrom : Cond.instanceMethod y_C_timeFrom ∈ jm_G := jm_g4 66 rfl rfl
theorem se_C_timeFrom : Cond.selects y_C_timeFrom.cls y_C_timeFrom y_C_timeFrom ∈ jm_G := jm_g4 67 rfl rfl
def y_C_timeUpTo : MethodName := ⟨"JobHouse$Cron", "timeUpTo", "(I)I"⟩
abbrev b_C_timeUpTo : ByteArray := prog_2_method_14_code
theorem d_C_timeUpTo_0 : decode b_C_timeUpTo 0 = .ok (.aload_n 0, 1) := by decide +kernel
theorem d_C_timeUpTo_1 : decode b_C_timeUpTo 1 = .ok (.getfield 11, 3) := by decide +kernel
theorem d_C_timeUpTo_4 : decode b_C_timeUpTo 4 = .ok (.iconst 2, 1) := by decide +kernel
theorem d_C_timeUpTo_5 : decode b_C_timeUpTo 5 = .ok (.laload, 1) := by decide +kernel
theorem d_C_timeUpTo_6 : decode b_C_timeUpTo 6 = .ok (.iload_n 1, 1) := by decide +kernel
theorem d_C_timeUpTo_7 : decode b_C_timeUpTo 7 = .ok (.sipush 3600, 3) := by decide +kernel
theorem d_C_timeUpTo_10 : decode b_C_timeUpTo 10 = .ok (.idiv, 1) := by decide +kernel
theorem d_C_timeUpTo_11 : decode b_C_timeUpTo 11 = .ok (.invokestatic 52, 3) := by decide +kernel
theorem d_C_timeUpTo_14 : decode b_C_timeUpTo 14 = .ok (.istore_n 2, 1) := by decide +kernel
theorem d_C_timeUpTo_15 : decode b_C_timeUpTo 15 = .ok (.aload_n 0, 1) := by decide +kernel
theorem d_C_timeUpTo_16 : decode b_C_timeUpTo 16 = .ok (.getfield 11, 3) := by decide +kernel
theorem d_C_timeUpTo_19 : decode b_C_timeUpTo 19 = .ok (.iconst 1, 1) := by decide +kernel
theorem d_C_timeUpTo_20 : decode b_C_timeUpTo 20 = .ok (.laload, 1) := by decide +kernel
theorem d_C_timeUpTo_21 : decode b_C_timeUpTo 21 = .ok (.iload_n 2, 1) := by decide +kernel
theorem d_C_timeUpTo_22 : decode b_C_timeUpTo 22 = .ok (.iload_n 1, 1) := by decide +kernel
theorem d_C_timeUpTo_23 : decode b_C_timeUpTo 23 = .ok (.sipush 3600, 3) := by decide +kernel
theorem d_C_timeUpTo_26 : decode b_C_timeUpTo 26 = .ok (.idiv, 1) := by decide +kernel
theorem d_C_timeUpTo_27 : decode b_C_timeUpTo 27 = .ok (.if_icmp .ne 13, 3) := by decide +kernel
theorem d_C_timeUpTo_30 : decode b_C_timeUpTo 30 = .ok (.iload_n 1, 1) := by decide +kernel
theorem d_C_timeUpTo_31 : decode b_C_timeUpTo 31 = .ok (.bipush 60, 2) := by decide +kernel
theorem d_C_timeUpTo_33 : decode b_C_timeUpTo 33 = .ok (.idiv, 1) := by decide +kernel
theorem d_C_timeUpTo_34 : decode b_C_timeUpTo 34 = .ok (.bipush 60, 2) := by decide +kernel
theorem d_C_timeUpTo_36 : decode b_C_timeUpTo 36 = .ok (.irem, 1) := by decide +kernel
theorem d_C_timeUpTo_37 : decode b_C_timeUpTo 37 = .ok (.goto 5, 3) := by decide +kernel
theorem d_C_timeUpTo_40 : decode b_C_timeUpTo 40 = .ok (.bipush 59, 2) := by decide +kernel
theorem d_C_timeUpTo_42 : decode b_C_timeUpTo 42 = .ok (.invokestatic 52, 3) := by decide +kernel
theorem d_C_timeUpTo_45 : decode b_C_timeUpTo 45 = .ok (.istore_n 3, 1) := by decide +kernel
theorem d_C_timeUpTo_46 : decode b_C_timeUpTo 46 = .ok (.iload_n 2, 1) := by decide +kernel
theorem d_C_timeUpTo_47 : decode b_C_timeUpTo 47 = .ok (.iload_n 1, 1) := by decide +kernel
theorem d_C_timeUpTo_48 : decode b_C_timeUpTo 48 = .ok (.sipush 3600, 3) := by decide +kernel
theorem d_C_timeUpTo_51 : decode b_C_timeUpTo 51 = .ok (.idiv, 1) := by decide +kernel
theorem d_C_timeUpTo_52 : decode b_C_timeUpTo 52 = .ok (.if_icmp .ne 18, 3) := by decide +kernel
theorem d_C_timeUpTo_55 : decode b_C_timeUpTo 55 = .ok (.iload_n 3, 1) := by decide +kernel
theorem d_C_timeUpTo_56 : decode b_C_timeUpTo 56 = .ok (.iload_n 1, 1) := by decide +kernel
theorem d_C_timeUpTo_57 : decode b_C_timeUpTo 57 = .ok (.bipush 60, 2) := by decide +kernel
theorem d_C_timeUpTo_59 : decode b_C_timeUpTo 59 = .ok (.idiv, 1) := by decide +kernel
theorem d_C_timeUpTo_60 : decode b_C_timeUpTo 60 = .ok (.bipush 60, 2) := by decide +kernel
theorem d_C_timeUpTo_62 : decode b_C_timeUpTo 62 = .ok (.irem, 1) := by decide +kernel
theorem d_C_timeUpTo_63 : decode b_C_timeUpTo 63 = .ok (.if_icmp .ne 7, 3) := by decide +kernel
theorem d_C_timeUpTo_66 : decode b_C_timeUpTo 66 = .ok (.iconst 1, 1) := by decide +kernel
theorem d_C_timeUpTo_67 : decode b_C_timeUpTo 67 = .ok (.goto 4, 3) := by decide +kernel
theorem d_C_timeUpTo_70 : decode b_C_timeUpTo 70 = .ok (.iconst 0, 1) := by decide +kernel
theorem d_C_timeUpTo_71 : decode b_C_timeUpTo 71 = .ok (.istore 4, 2) := by decide +kernel
theorem d_C_timeUpTo_73 : decode b_C_timeUpTo 73 = .ok (.aload_n 0, 1) := by decide +kernel
theorem d_C_timeUpTo_74 : decode b_C_timeUpTo 74 = .ok (.getfield 11, 3) := by decide +kernel
theorem d_C_timeUpTo_77 : decode b_C_timeUpTo 77 = .ok (.iconst 0, 1) := by decide +kernel
theorem d_C_timeUpTo_78 : decode b_C_timeUpTo 78 = .ok (.laload, 1) := by decide +kernel
theorem d_C_timeUpTo_79 : decode b_C_timeUpTo 79 = .ok (.iload 4, 2) := by decide +kernel
theorem d_C_timeUpTo_81 : decode b_C_timeUpTo 81 = .ok (.ifCond .eq 10, 3) := by decide +kernel
theorem d_C_timeUpTo_84 : decode b_C_timeUpTo 84 = .ok (.iload_n 1, 1) := by decide +kernel
theorem d_C_timeUpTo_85 : decode b_C_timeUpTo 85 = .ok (.bipush 60, 2) := by decide +kernel
theorem d_C_timeUpTo_87 : decode b_C_timeUpTo 87 = .ok (.irem, 1) := by decide +kernel
theorem d_C_timeUpTo_88 : decode b_C_timeUpTo 88 = .ok (.goto 5, 3) := by decide +kernel
theorem d_C_timeUpTo_91 : decode b_C_timeUpTo 91 = .ok (.bipush 59, 2) := by decide +kernel
theorem d_C_timeUpTo_93 : decode b_C_timeUpTo 93 = .ok (.invokestatic 52, 3) := by decide +kernel
theorem d_C_timeUpTo_96 : decode b_C_timeUpTo 96 = .ok (.istore 5, 2) := by decide +kernel
theorem d_C_timeUpTo_98 : decode b_C_timeUpTo 98 = .ok (.iload 5, 2) := by decide +kernel
theorem d_C_timeUpTo_100 : decode b_C_timeUpTo 100 = .ok (.ifCond .ge 29, 3) := by decide +kernel
theorem d_C_timeUpTo_103 : decode b_C_timeUpTo 103 = .ok (.aload_n 0, 1) := by decide +kernel
theorem d_C_timeUpTo_104 : decode b_C_timeUpTo 104 = .ok (.getfield 11, 3) := by decide +kernel
theorem d_C_timeUpTo_107 : decode b_C_timeUpTo 107 = .ok (.iconst 1, 1) := by decide +kernel
theorem d_C_timeUpTo_108 : decode b_C_timeUpTo 108 = .ok (.laload, 1) := by decide +kernel
theorem d_C_timeUpTo_109 : decode b_C_timeUpTo 109 = .ok (.iload_n 3, 1) := by decide +kernel
theorem d_C_timeUpTo_110 : decode b_C_timeUpTo 110 = .ok (.iconst 1, 1) := by decide +kernel
theorem d_C_timeUpTo_111 : decode b_C_timeUpTo 111 = .ok (.isub, 1) := by decide +kernel
theorem d_C_timeUpTo_112 : decode b_C_timeUpTo 112 = .ok (.invokestatic 52, 3) := by decide +kernel
theorem d_C_timeUpTo_115 : decode b_C_timeUpTo 115 = .ok (.istore_n 3, 1) := by decide +kernel
theorem d_C_timeUpTo_116 : decode b_C_timeUpTo 116 = .ok (.aload_n 0, 1) := by decide +kernel
theorem d_C_timeUpTo_117 : decode b_C_timeUpTo 117 = .ok (.getfield 11, 3) := by decide +kernel
theorem d_C_timeUpTo_120 : decode b_C_timeUpTo 120 = .ok (.iconst 0, 1) := by decide +kernel
theorem d_C_timeUpTo_121 : decode b_C_timeUpTo 121 = .ok (.laload, 1) := by decide +kernel
theorem d_C_timeUpTo_122 : decode b_C_timeUpTo 122 = .ok (.bipush 59, 2) := by decide +kernel
theorem d_C_timeUpTo_124 : decode b_C_timeUpTo 124 = .ok (.invokestatic 52, 3) := by decide +kernel
theorem d_C_timeUpTo_127 : decode b_C_timeUpTo 127 = .ok (.istore 5, 2) := by decide +kernel
theorem d_C_timeUpTo_129 : decode b_C_timeUpTo 129 = .ok (.iload_n 3, 1) := by decide +kernel
theorem d_C_timeUpTo_130 : decode b_C_timeUpTo 130 = .ok (.ifCond .ge 32, 3) := by decide +kernel
theorem d_C_timeUpTo_133 : decode b_C_timeUpTo 133 = .ok (.aload_n 0, 1) := by decide +kernel
theorem d_C_timeUpTo_134 : decode b_C_timeUpTo 134 = .ok (.getfield 11, 3) := by decide +kernel
theorem d_C_timeUpTo_137 : decode b_C_timeUpTo 137 = .ok (.iconst 2, 1) := by decide +kernel
theorem d_C_timeUpTo_138 : decode b_C_timeUpTo 138 = .ok (.laload, 1) := by decide +kernel
theorem d_C_timeUpTo_139 : decode b_C_timeUpTo 139 = .ok (.iload_n 1, 1) := by decide +kernel
theorem d_C_timeUpTo_140 : decode b_C_timeUpTo 140 = .ok (.sipush 3600, 3) := by decide +kernel
theorem d_C_timeUpTo_143 : decode b_C_timeUpTo 143 = .ok (.idiv, 1) := by decide +kernel
theorem d_C_timeUpTo_144 : decode b_C_timeUpTo 144 = .ok (.iconst 1, 1) := by decide +kernel
theorem d_C_timeUpTo_145 : decode b_C_timeUpTo 145 = .ok (.isub, 1) := by decide +kernel
theorem d_C_timeUpTo_146 : decode b_C_timeUpTo 146 = .ok (.invokestatic 52, 3) := by decide +kernel
theorem d_C_timeUpTo_149 : decode b_C_timeUpTo 149 = .ok (.istore_n 2, 1) := by decide +kernel
theorem d_C_timeUpTo_150 : decode b_C_timeUpTo 150 = .ok (.aload_n 0, 1) := by decide +kernel
theorem d_C_timeUpTo_151 : decode b_C_timeUpTo 151 = .ok (.getfield 11, 3) := by decide +kernel
theorem d_C_timeUpTo_154 : decode b_C_timeUpTo 154 = .ok (.iconst 1, 1) := by decide +kernel
theorem d_C_timeUpTo_155 : decode b_C_timeUpTo 155 = .ok (.laload, 1) := by decide +kernel
theorem d_C_timeUpTo_156 : decode b_C_timeUpTo 156 = .ok (.bipush 59, 2) := by decide +kernel
theorem d_C_timeUpTo_158 : decode b_C_timeUpTo 158 = .ok (.invokestatic 52, 3) := by decide +kernel
theorem d_C_timeUpTo_161 : decode b_C_timeUpTo 161 = .ok (.istore_n 3, 1) := by decide +kernel
theorem d_C_timeUpTo_162 : decode b_C_timeUpTo 162 = .ok (.iload_n 2, 1) := by decide +kernel
theorem d_C_timeUpTo_163 : decode b_C_timeUpTo 163 = .ok (.ifCond .ge 7, 3) := by decide +kernel
theorem d_C_timeUpTo_166 : decode b_C_timeUpTo 166 = .ok (.iconst (-1), 1) := by decide +kernel
theorem d_C_timeUpTo_167 : decode b_C_timeUpTo 167 = .ok (.goto 16, 3) := by decide +kernel
theorem d_C_timeUpTo_170 : decode b_C_timeUpTo 170 = .ok (.iload_n 2, 1) := by decide +kernel
theorem d_C_timeUpTo_171 : decode b_C_timeUpTo 171 = .ok (.sipush 3600, 3) := by decide +kernel
theorem d_C_timeUpTo_174 : decode b_C_timeUpTo 174 = .ok (.imul, 1) := by decide +kernel
theorem d_C_timeUpTo_175 : decode b_C_timeUpTo 175 = .ok (.iload_n 3, 1) := by decide +kernel
theorem d_C_timeUpTo_176 : decode b_C_timeUpTo 176 = .ok (.bipush 60, 2) := by decide +kernel
theorem d_C_timeUpTo_178 : decode b_C_timeUpTo 178 = .ok (.imul, 1) := by decide +kernel
theorem d_C_timeUpTo_179 : decode b_C_timeUpTo 179 = .ok (.iadd, 1) := by decide +kernel
theorem d_C_timeUpTo_180 : decode b_C_timeUpTo 180 = .ok (.iload 5, 2) := by decide +kernel
theorem d_C_timeUpTo_182 : decode b_C_timeUpTo 182 = .ok (.iadd, 1) := by decide +kernel
theorem d_C_timeUpTo_183 : decode b_C_timeUpTo 183 = .ok (.ireturn, 1) := by decide +kernel
theorem ci_C_timeUpTo : jm_ci jm_G y_C_timeUpTo (Cond.code y_C_timeUpTo b_C_timeUpTo 6 (some FieldType.int)) 6 1 := ⟨jm_g4 103 rfl rfl, Or.inl ⟨_, _, rfl⟩, jm_g1 5 rfl rfl, ⟨by decide, by decide⟩, by decide +kernel⟩
theorem im_C_timeUpTo : Cond.instanceMethod y_C_timeUpTo ∈ jm_G := jm_g4 101 rfl rfl
theorem se_C_timeUpTo : Cond.selects y_C_timeUpTo.cls y_C_timeUpTo y_C_timeUpTo ∈ jm_G := jm_g4 102 rfl rfl
def y_C_lowestBit : MethodName := ⟨"JobHouse$Cron", "lowestBit", "(JI)I"⟩
abbrev b_C_lowestBit : ByteArray := prog_2_method_15_code
theorem d_C_lowestBit_0 : decode b_C_lowestBit 0 = .ok (.lload_n 0, 1) := by decide +kernel
theorem d_C_lowestBit_1 : decode b_C_lowestBit 1 = .ok (.iload_n 2, 1) := by decide +kernel
theorem d_C_lowestBit_2 : decode b_C_lowestBit 2 = .ok (.lshr, 1) := by decide +kernel
theorem d_C_lowestBit_3 : decode b_C_lowestBit 3 = .ok (.iload_n 2, 1) := by decide +kernel
theorem d_C_lowestBit_4 : decode b_C_lowestBit 4 = .ok (.lshl, 1) := by decide +kernel
theorem d_C_lowestBit_5 : decode b_C_lowestBit 5 = .ok (.lstore_n 3, 1) := by decide +kernel
theorem d_C_lowestBit_6 : decode b_C_lowestBit 6 = .ok (.lload_n 3, 1) := by decide +kernel
theorem d_C_lowestBit_7 : decode b_C_lowestBit 7 = .ok (.lconst 0, 1) := by decide +kernel
theorem d_C_lowestBit_8 : decode b_C_lowestBit 8 = .ok (.lcmp, 1) := by decide +kernel
theorem d_C_lowestBit_9 : decode b_C_lowestBit 9 = .ok (.ifCond .ne 7, 3) := by decide +kernel
theorem d_C_lowestBit_12 : decode b_C_lowestBit 12 = .ok (.iconst (-1), 1) := by decide +kernel
theorem d_C_lowestBit_13 : decode b_C_lowestBit 13 = .ok (.goto 12, 3) := by decide +kernel
theorem d_C_lowestBit_16 : decode b_C_lowestBit 16 = .ok (.lload_n 3, 1) := by decide +kernel
theorem d_C_lowestBit_17 : decode b_C_lowestBit 17 = .ok (.lload_n 3, 1) := by decide +kernel
theorem d_C_lowestBit_18 : decode b_C_lowestBit 18 = .ok (.lneg, 1) := by decide +kernel
theorem d_C_lowestBit_19 : decode b_C_lowestBit 19 = .ok (.land, 1) := by decide +kernel
theorem d_C_lowestBit_20 : decode b_C_lowestBit 20 = .ok (.lconst 1, 1) := by decide +kernel
theorem d_C_lowestBit_21 : decode b_C_lowestBit 21 = .ok (.lsub, 1) := by decide +kernel
theorem d_C_lowestBit_22 : decode b_C_lowestBit 22 = .ok (.invokestatic 55, 3) := by decide +kernel
theorem d_C_lowestBit_25 : decode b_C_lowestBit 25 = .ok (.ireturn, 1) := by decide +kernel
theorem ci_C_lowestBit : jm_ci jm_G y_C_lowestBit (Cond.code y_C_lowestBit b_C_lowestBit 5 (some FieldType.int)) 5 2 := ⟨jm_g4 56 rfl rfl, Or.inl ⟨_, _, rfl⟩, jm_g1 5 rfl rfl, ⟨by decide, by decide⟩, by decide +kernel⟩
theorem st_C_lowestBit : Cond.static y_C_lowestBit ∈ jm_G := jm_g4 55 rfl rfl
def y_C_highestBit : MethodName := ⟨"JobHouse$Cron", "highestBit", "(JI)I"⟩
abbrev b_C_highestBit : ByteArray := prog_2_method_16_code
theorem d_C_highestBit_0 : decode b_C_highestBit 0 = .ok (.iload_n 2, 1) := by decide +kernel
theorem d_C_highestBit_1 : decode b_C_highestBit 1 = .ok (.ifCond .ge 5, 3) := by decide +kernel
theorem d_C_highestBit_4 : decode b_C_highestBit 4 = .ok (.iconst (-1), 1) := by decide +kernel
theorem d_C_highestBit_5 : decode b_C_highestBit 5 = .ok (.ireturn, 1) := by decide +kernel
theorem d_C_highestBit_6 : decode b_C_highestBit 6 = .ok (.lload_n 0, 1) := by decide +kernel
theorem d_C_highestBit_7 : decode b_C_highestBit 7 = .ok (.iload_n 2, 1) := by decide +kernel
theorem d_C_highestBit_8 : decode b_C_highestBit 8 = .ok (.invokestatic 19, 3) := by decide +kernel
theorem d_C_highestBit_11 : decode b_C_highestBit 11 = .ok (.land, 1) := by decide +kernel
theorem d_C_highestBit_12 : decode b_C_highestBit 12 = .ok (.lstore_n 3, 1) := by decide +kernel
theorem d_C_highestBit_13 : decode b_C_highestBit 13 = .ok (.lload_n 3, 1) := by decide +kernel
theorem d_C_highestBit_14 : decode b_C_highestBit 14 = .ok (.lload_n 3, 1) := by decide +kernel
theorem d_C_highestBit_15 : decode b_C_highestBit 15 = .ok (.iconst 1, 1) := by decide +kernel
theorem d_C_highestBit_16 : decode b_C_highestBit 16 = .ok (.lshr, 1) := by decide +kernel
theorem d_C_highestBit_17 : decode b_C_highestBit 17 = .ok (.lor, 1) := by decide +kernel
theorem d_C_highestBit_18 : decode b_C_highestBit 18 = .ok (.lstore_n 3, 1) := by decide +kernel
theorem d_C_highestBit_19 : decode b_C_highestBit 19 = .ok (.lload_n 3, 1) := by decide +kernel
theorem d_C_highestBit_20 : decode b_C_highestBit 20 = .ok (.lload_n 3, 1) := by decide +kernel
theorem d_C_highestBit_21 : decode b_C_highestBit 21 = .ok (.iconst 2, 1) := by decide +kernel
theorem d_C_highestBit_22 : decode b_C_highestBit 22 = .ok (.lshr, 1) := by decide +kernel
theorem d_C_highestBit_23 : decode b_C_highestBit 23 = .ok (.lor, 1) := by decide +kernel
theorem d_C_highestBit_24 : decode b_C_highestBit 24 = .ok (.lstore_n 3, 1) := by decide +kernel
theorem d_C_highestBit_25 : decode b_C_highestBit 25 = .ok (.lload_n 3, 1) := by decide +kernel
theorem d_C_highestBit_26 : decode b_C_highestBit 26 = .ok (.lload_n 3, 1) := by decide +kernel
theorem d_C_highestBit_27 : decode b_C_highestBit 27 = .ok (.iconst 4, 1) := by decide +kernel
theorem d_C_highestBit_28 : decode b_C_highestBit 28 = .ok (.lshr, 1) := by decide +kernel
theorem d_C_highestBit_29 : decode b_C_highestBit 29 = .ok (.lor, 1) := by decide +kernel
theorem d_C_highestBit_30 : decode b_C_highestBit 30 = .ok (.lstore_n 3, 1) := by decide +kernel
theorem d_C_highestBit_31 : decode b_C_highestBit 31 = .ok (.lload_n 3, 1) := by decide +kernel
theorem d_C_highestBit_32 : decode b_C_highestBit 32 = .ok (.lload_n 3, 1) := by decide +kernel
theorem d_C_highestBit_33 : decode b_C_highestBit 33 = .ok (.bipush 8, 2) := by decide +kernel
theorem d_C_highestBit_35 : decode b_C_highestBit 35 = .ok (.lshr, 1) := by decide +kernel
theorem d_C_highestBit_36 : decode b_C_highestBit 36 = .ok (.lor, 1) := by decide +kernel
theorem d_C_highestBit_37 : decode b_C_highestBit 37 = .ok (.lstore_n 3, 1) := by decide +kernel
theorem d_C_highestBit_38 : decode b_C_highestBit 38 = .ok (.lload_n 3, 1) := by decide +kernel
theorem d_C_highestBit_39 : decode b_C_highestBit 39 = .ok (.lload_n 3, 1) := by decide +kernel
theorem d_C_highestBit_40 : decode b_C_highestBit 40 = .ok (.bipush 16, 2) := by decide +kernel
theorem d_C_highestBit_42 : decode b_C_highestBit 42 = .ok (.lshr, 1) := by decide +kernel
theorem d_C_highestBit_43 : decode b_C_highestBit 43 = .ok (.lor, 1) := by decide +kernel
theorem d_C_highestBit_44 : decode b_C_highestBit 44 = .ok (.lstore_n 3, 1) := by decide +kernel
theorem d_C_highestBit_45 : decode b_C_highestBit 45 = .ok (.lload_n 3, 1) := by decide +kernel
theorem d_C_highestBit_46 : decode b_C_highestBit 46 = .ok (.lload_n 3, 1) := by decide +kernel
theorem d_C_highestBit_47 : decode b_C_highestBit 47 = .ok (.bipush 32, 2) := by decide +kernel
theorem d_C_highestBit_49 : decode b_C_highestBit 49 = .ok (.lshr, 1) := by decide +kernel
theorem d_C_highestBit_50 : decode b_C_highestBit 50 = .ok (.lor, 1) := by decide +kernel
theorem d_C_highestBit_51 : decode b_C_highestBit 51 = .ok (.lstore_n 3, 1) := by decide +kernel
theorem d_C_highestBit_52 : decode b_C_highestBit 52 = .ok (.lload_n 3, 1) := by decide +kernel
theorem d_C_highestBit_53 : decode b_C_highestBit 53 = .ok (.invokestatic 55, 3) := by decide +kernel
theorem d_C_highestBit_56 : decode b_C_highestBit 56 = .ok (.iconst 1, 1) := by decide +kernel
theorem d_C_highestBit_57 : decode b_C_highestBit 57 = .ok (.isub, 1) := by decide +kernel
theorem d_C_highestBit_58 : decode b_C_highestBit 58 = .ok (.ireturn, 1) := by decide +kernel
theorem ci_C_highestBit : jm_ci jm_G y_C_highestBit (Cond.code y_C_highestBit b_C_highestBit 5 (some FieldType.int)) 5 2 := ⟨jm_g4 99 rfl rfl, Or.inl ⟨_, _, rfl⟩, jm_g1 5 rfl rfl, ⟨by decide, by decide⟩, by decide +kernel⟩
theorem st_C_highestBit : Cond.static y_C_highestBit ∈ jm_G := jm_g4 98 rfl rfl
end
section
theorem fs_C_11 : jm_fs jm_cl jm_G "JobHouse$Cron" 11 4 0 (.array .long) true := ⟨_, jn_T4, 4, jn_y4, rfl, by decide, jn_i4, jn_o4, jn_n4, rfl, rfl, by decide +kernel, Or.inl (jm_g1 91 rfl rfl)⟩
theorem fs_C_15 : jm_fs jm_cl jm_G "JobHouse$Cron" 15 4 1 (.int) false := ⟨_, jn_T4, 4, jn_y4, rfl, by decide, jn_i4, jn_o4, jn_n4, rfl, rfl, by decide +kernel, Or.inl (jm_g1 93 rfl rfl)⟩
theorem fs_C_26 : jm_fs jm_cl jm_G "JobHouse$Cron" 26 4 3 (.int) false := ⟨_, jn_T4, 4, jn_y4, rfl, by decide, jn_i4, jn_o4, jn_n4, rfl, rfl, by decide +kernel, Or.inl (jm_g1 97 rfl rfl)⟩
theorem fs_C_37 : jm_fs jm_cl jm_G "JobHouse$Cron" 37 4 2 (.int) false := ⟨_, jn_T4, 4, jn_y4, rfl, by decide, jn_i4, jn_o4, jn_n4, rfl, rfl, by decide +kernel, Or.inl (jm_g1 94 rfl rfl)⟩
def f_C_lowest (fi : Int32) : Int32 :=
  if fi = 3 then 1 else (if fi = 4 then 1 else (if fi = 5 then 1 else (if fi = 6 then 1970 else 0)))
set_option maxRecDepth 20000 in
set_option maxHeartbeats 4000000 in
theorem k_C_lowest {l : Launch} {S : State} {D : va_G} {dA : Nat → ClassId} (E : jm_en S D jm_cl (jm_ty dA) jm_G) (fi : Int32) (h : jm_H)    : jm_M l S D jm_cl y_C_lowest (Cond.code y_C_lowest b_C_lowest 1 (some FieldType.int)) { frames := 0, cells := 0, slots := 0, locals := 0 } [.int fi] h (jm_R (some (.int (f_C_lowest fi))) h) 0 0 := by
  refine jm_ofW E (by decide) (Nat.le_of_ble_eq_true rfl) (fun p e s m below meth c X hr hk hmn hout hadm => ?_)
  have X : jm_cx p s m ([.int fi] : List Value).toArray c S D jm_cl (jm_ty dA) jm_G b_C_lowest 1 "JobHouse$Cron" := X
  show jm_W p l e ({ frames := 0, cells := 0, slots := 0, locals := 0 }) s m ([.int fi] : List Value).toArray below meth c S D jm_cl (jm_Q S D jm_cl below s (jm_R (some (.int (f_C_lowest fi))) h) 0 0) 1 0 [(0, .int fi)] [] (h) 0 0
  refine jm_iload_n X d_C_lowest_0 rfl 0 rfl ?_
  by_cases c1 : fi = 3
  · refine jm_tabEq (tgt := 32) (off := 31) X d_C_lowest_1 c1 (by decide) (by decide) (by decide) (by decide) ?_
    refine jm_iconst (v := 1) X d_C_lowest_32 (by decide) ?_
    exact jm_iret X hr hk d_C_lowest_33 ⟨(by show Outcome.returned _ = Outcome.returned _; unfold f_C_lowest; first | (simp only [if_pos c1, reduceIte]; done) | (simp only [if_pos c1, reduceIte]; rfl) | rfl), rfl⟩
  · skip
    by_cases c2 : fi = 4
    · refine jm_tabEq (tgt := 32) (off := 31) X d_C_lowest_1 c2 (by decide) (by decide) (by decide) (by decide) ?_
      refine jm_iconst (v := 1) X d_C_lowest_32 (by decide) ?_
      exact jm_iret X hr hk d_C_lowest_33 ⟨(by show Outcome.returned _ = Outcome.returned _; unfold f_C_lowest; first | (simp only [if_neg c1, if_pos c2, reduceIte]; done) | (simp only [if_neg c1, if_pos c2, reduceIte]; rfl) | rfl), rfl⟩
    · skip
      by_cases c3 : fi = 5
      · refine jm_tabEq (tgt := 32) (off := 31) X d_C_lowest_1 c3 (by decide) (by decide) (by decide) (by decide) ?_
        refine jm_iconst (v := 1) X d_C_lowest_32 (by decide) ?_
        exact jm_iret X hr hk d_C_lowest_33 ⟨(by show Outcome.returned _ = Outcome.returned _; unfold f_C_lowest; first | (simp only [if_neg c1, if_neg c2, if_pos c3, reduceIte]; done) | (simp only [if_neg c1, if_neg c2, if_pos c3, reduceIte]; rfl) | rfl), rfl⟩
      · skip
        by_cases c4 : fi = 6
        · refine jm_tabEq (tgt := 34) (off := 33) X d_C_lowest_1 c4 (by decide) (by decide) (by decide) (by decide) ?_
          refine jm_sipush (v := 1970) X d_C_lowest_34 (by decide) ?_
          exact jm_iret X hr hk d_C_lowest_37 ⟨(by show Outcome.returned _ = Outcome.returned _; unfold f_C_lowest; first | (simp only [if_neg c1, if_neg c2, if_neg c3, if_pos c4, reduceIte]; done) | (simp only [if_neg c1, if_neg c2, if_neg c3, if_pos c4, reduceIte]; rfl) | rfl), rfl⟩
        · skip
          refine jm_tabOut (tgt := 38) X d_C_lowest_1 (by have q0 := lv_neT c1 (a := 3) rfl; have q1 := lv_neT c2 (a := 4) rfl; have q2 := lv_neT c3 (a := 5) rfl; have q3 := lv_neT c4 (a := 6) rfl; omega) (by decide) ?_
          refine jm_iconst (v := 0) X d_C_lowest_38 (by decide) ?_
          exact jm_iret X hr hk d_C_lowest_39 ⟨(by show Outcome.returned _ = Outcome.returned _; unfold f_C_lowest; first | (simp only [if_neg c1, if_neg c2, if_neg c3, if_neg c4, reduceIte]; done) | (simp only [if_neg c1, if_neg c2, if_neg c3, if_neg c4, reduceIte]; rfl) | rfl), rfl⟩
def f_C_highest (fi : Int32) : Int32 :=
  if fi = 2 then 23 else (if fi = 3 then 31 else (if fi = 4 then 12 else (if fi = 5 then 7 else (if fi = 6 then 2299 else 59))))
set_option maxRecDepth 20000 in
set_option maxHeartbeats 4000000 in
theorem k_C_highest {l : Launch} {S : State} {D : va_G} {dA : Nat → ClassId} (E : jm_en S D jm_cl (jm_ty dA) jm_G) (fi : Int32) (h : jm_H)    : jm_M l S D jm_cl y_C_highest (Cond.code y_C_highest b_C_highest 1 (some FieldType.int)) { frames := 0, cells := 0, slots := 0, locals := 0 } [.int fi] h (jm_R (some (.int (f_C_highest fi))) h) 0 0 := by
  refine jm_ofW E (by decide) (Nat.le_of_ble_eq_true rfl) (fun p e s m below meth c X hr hk hmn hout hadm => ?_)
  have X : jm_cx p s m ([.int fi] : List Value).toArray c S D jm_cl (jm_ty dA) jm_G b_C_highest 1 "JobHouse$Cron" := X
  show jm_W p l e ({ frames := 0, cells := 0, slots := 0, locals := 0 }) s m ([.int fi] : List Value).toArray below meth c S D jm_cl (jm_Q S D jm_cl below s (jm_R (some (.int (f_C_highest fi))) h) 0 0) 1 0 [(0, .int fi)] [] (h) 0 0
  refine jm_iload_n X d_C_highest_0 rfl 0 rfl ?_
  by_cases c1 : fi = 2
  · refine jm_tabEq (tgt := 36) (off := 35) X d_C_highest_1 c1 (by decide) (by decide) (by decide) (by decide) ?_
    refine jm_bipush (v := 23) X d_C_highest_36 (by decide) ?_
    exact jm_iret X hr hk d_C_highest_38 ⟨(by show Outcome.returned _ = Outcome.returned _; unfold f_C_highest; first | (simp only [if_pos c1, reduceIte]; done) | (simp only [if_pos c1, reduceIte]; rfl) | rfl), rfl⟩
  · skip
    by_cases c2 : fi = 3
    · refine jm_tabEq (tgt := 39) (off := 38) X d_C_highest_1 c2 (by decide) (by decide) (by decide) (by decide) ?_
      refine jm_bipush (v := 31) X d_C_highest_39 (by decide) ?_
      exact jm_iret X hr hk d_C_highest_41 ⟨(by show Outcome.returned _ = Outcome.returned _; unfold f_C_highest; first | (simp only [if_neg c1, if_pos c2, reduceIte]; done) | (simp only [if_neg c1, if_pos c2, reduceIte]; rfl) | rfl), rfl⟩
    · skip
      by_cases c3 : fi = 4
      · refine jm_tabEq (tgt := 42) (off := 41) X d_C_highest_1 c3 (by decide) (by decide) (by decide) (by decide) ?_
        refine jm_bipush (v := 12) X d_C_highest_42 (by decide) ?_
        exact jm_iret X hr hk d_C_highest_44 ⟨(by show Outcome.returned _ = Outcome.returned _; unfold f_C_highest; first | (simp only [if_neg c1, if_neg c2, if_pos c3, reduceIte]; done) | (simp only [if_neg c1, if_neg c2, if_pos c3, reduceIte]; rfl) | rfl), rfl⟩
      · skip
        by_cases c4 : fi = 5
        · refine jm_tabEq (tgt := 45) (off := 44) X d_C_highest_1 c4 (by decide) (by decide) (by decide) (by decide) ?_
          refine jm_bipush (v := 7) X d_C_highest_45 (by decide) ?_
          exact jm_iret X hr hk d_C_highest_47 ⟨(by show Outcome.returned _ = Outcome.returned _; unfold f_C_highest; first | (simp only [if_neg c1, if_neg c2, if_neg c3, if_pos c4, reduceIte]; done) | (simp only [if_neg c1, if_neg c2, if_neg c3, if_pos c4, reduceIte]; rfl) | rfl), rfl⟩
        · skip
          by_cases c5 : fi = 6
          · refine jm_tabEq (tgt := 48) (off := 47) X d_C_highest_1 c5 (by decide) (by decide) (by decide) (by decide) ?_
            refine jm_sipush (v := 2299) X d_C_highest_48 (by decide) ?_
            exact jm_iret X hr hk d_C_highest_51 ⟨(by show Outcome.returned _ = Outcome.returned _; unfold f_C_highest; first | (simp only [if_neg c1, if_neg c2, if_neg c3, if_neg c4, if_pos c5, reduceIte]; done) | (simp only [if_neg c1, if_neg c2, if_neg c3, if_neg c4, if_pos c5, reduceIte]; rfl) | rfl), rfl⟩
          · skip
            refine jm_tabOut (tgt := 52) X d_C_highest_1 (by have q0 := lv_neT c1 (a := 2) rfl; have q1 := lv_neT c2 (a := 3) rfl; have q2 := lv_neT c3 (a := 4) rfl; have q3 := lv_neT c4 (a := 5) rfl; have q4 := lv_neT c5 (a := 6) rfl; omega) (by decide) ?_
            refine jm_bipush (v := 59) X d_C_highest_52 (by decide) ?_
            exact jm_iret X hr hk d_C_highest_54 ⟨(by show Outcome.returned _ = Outcome.returned _; unfold f_C_highest; first | (simp only [if_neg c1, if_neg c2, if_neg c3, if_neg c4, if_neg c5, reduceIte]; done) | (simp only [if_neg c1, if_neg c2, if_neg c3, if_neg c4, if_neg c5, reduceIte]; rfl) | rfl), rfl⟩
def f_C_bitsUpTo (hi : Int32) : Int64 :=
  ((1 : Int64) <<< ((hi + 1 : Int32).toInt64 &&& 63)) - 1
set_option maxRecDepth 20000 in
set_option maxHeartbeats 4000000 in
theorem k_C_bitsUpTo {l : Launch} {S : State} {D : va_G} {dA : Nat → ClassId} (E : jm_en S D jm_cl (jm_ty dA) jm_G) (hi : Int32) (h : jm_H)    : jm_M l S D jm_cl y_C_bitsUpTo (Cond.code y_C_bitsUpTo b_C_bitsUpTo 1 (some FieldType.long)) { frames := 0, cells := 0, slots := 0, locals := 0 } [.int hi] h (jm_R (some (.long (f_C_bitsUpTo hi))) h) 0 0 := by
  refine jm_ofW E (by decide) (Nat.le_of_ble_eq_true rfl) (fun p e s m below meth c X hr hk hmn hout hadm => ?_)
  have X : jm_cx p s m ([.int hi] : List Value).toArray c S D jm_cl (jm_ty dA) jm_G b_C_bitsUpTo 1 "JobHouse$Cron" := X
  show jm_W p l e ({ frames := 0, cells := 0, slots := 0, locals := 0 }) s m ([.int hi] : List Value).toArray below meth c S D jm_cl (jm_Q S D jm_cl below s (jm_R (some (.long (f_C_bitsUpTo hi))) h) 0 0) 1 0 [(0, .int hi)] [] (h) 0 0
  refine jm_lconst (v := 1) X d_C_bitsUpTo_0 (by decide) ?_
  refine jm_iload_n X d_C_bitsUpTo_1 rfl 0 rfl ?_
  refine jm_iconst (v := 1) X d_C_bitsUpTo_2 (by decide) ?_
  refine jm_iadd X d_C_bitsUpTo_3 ?_
  refine jm_lshl X d_C_bitsUpTo_4 ?_
  refine jm_lconst (v := 1) X d_C_bitsUpTo_5 (by decide) ?_
  refine jm_lsub X d_C_bitsUpTo_6 ?_
  exact jm_lret X hr hk d_C_bitsUpTo_7 ⟨(by show Outcome.returned _ = Outcome.returned _; unfold f_C_bitsUpTo; rfl), rfl⟩
def f_C_bitOf (da : Int32) (le : Int32) : Int64 :=
  let v17 : Int64 := if da < 1 then 0 else (if da ≤ le then ((1 : Int64) <<< ((da : Int32).toInt64 &&& 63)) else 0)
  v17
set_option maxRecDepth 20000 in
set_option maxHeartbeats 4000000 in
theorem k_C_bitOf {l : Launch} {S : State} {D : va_G} {dA : Nat → ClassId} (E : jm_en S D jm_cl (jm_ty dA) jm_G) (da : Int32) (le : Int32) (h : jm_H)    : jm_M l S D jm_cl y_C_bitOf (Cond.code y_C_bitOf b_C_bitOf 2 (some FieldType.long)) { frames := 0, cells := 0, slots := 0, locals := 0 } [.int da, .int le] h (jm_R (some (.long (f_C_bitOf da le))) h) 0 0 := by
  refine jm_ofW E (by decide) (Nat.le_of_ble_eq_true rfl) (fun p e s m below meth c X hr hk hmn hout hadm => ?_)
  have X : jm_cx p s m ([.int da, .int le] : List Value).toArray c S D jm_cl (jm_ty dA) jm_G b_C_bitOf 2 "JobHouse$Cron" := X
  show jm_W p l e ({ frames := 0, cells := 0, slots := 0, locals := 0 }) s m ([.int da, .int le] : List Value).toArray below meth c S D jm_cl (jm_Q S D jm_cl below s (jm_R (some (.long (f_C_bitOf da le))) h) 0 0) 2 0 [(0, .int da), (1, .int le)] [] (h) 0 0
  refine jm_iload_n X d_C_bitOf_0 rfl 0 rfl ?_
  refine jm_iconst (v := 1) X d_C_bitOf_1 (by decide) ?_
  have J17_2 : ∀ (v17 : Int64), v17 = (if da < 1 then 0 else (if da ≤ le then ((1 : Int64) <<< ((da : Int32).toInt64 &&& 63)) else 0) : Int64) → jm_W p l e ({ frames := 0, cells := 0, slots := 0, locals := 0 }) s m ([.int da, .int le] : List Value).toArray below meth c S D jm_cl (jm_Q S D jm_cl below s (jm_R (some (.long (f_C_bitOf da le))) h) 0 0) 2 17 [(0, .int da), (1, .int le)] [.long v17] (h) 0 0 := by
    intro v17 ev17
    exact jm_lret X hr hk d_C_bitOf_17 ⟨(by show Outcome.returned _ = Outcome.returned _; unfold f_C_bitOf; subst ev17; rfl), rfl⟩
  refine jm_icmp_lt (tgt := 10) X d_C_bitOf_2 (by decide) (fun c1 => ?_) (fun c1 => ?_)
  · refine jm_lconst (v := 0) X d_C_bitOf_10 (by decide) ?_
    refine jm_goto (tgt := 17) X d_C_bitOf_11 (by decide) ?_
    exact J17_2 _ (by first | (simp only [if_pos c1, reduceIte]; done) | (with_reducible rfl))
  · refine jm_iload_n X d_C_bitOf_5 rfl 0 rfl ?_
    refine jm_iload_n X d_C_bitOf_6 rfl 1 rfl ?_
    refine jm_icmp_le (tgt := 14) X d_C_bitOf_7 (by decide) (fun c3 => ?_) (fun c3 => ?_)
    · refine jm_lconst (v := 1) X d_C_bitOf_14 (by decide) ?_
      refine jm_iload_n X d_C_bitOf_15 rfl 0 rfl ?_
      refine jm_lshl X d_C_bitOf_16 ?_
      exact J17_2 _ (by first | (simp only [if_neg c1, if_pos c3, reduceIte]; done) | (with_reducible rfl))
    · refine jm_lconst (v := 0) X d_C_bitOf_10 (by decide) ?_
      refine jm_goto (tgt := 17) X d_C_bitOf_11 (by decide) ?_
      exact J17_2 _ (by first | (simp only [if_neg c1, if_neg c3, reduceIte]; done) | (with_reducible rfl))
def f_C_workdayNearest (da : Int32) (le : Int32) (fw : Int32) : Int64 :=
  let w10 : Int32 := (((fw + da) - 2) - ((fw + da) - 2) / 7 * 7) + 1
  let v61 : Int32 := if le ≤ da then (da - 2) else (da + 1)
  let v39 : Int32 := if da ≤ 1 then (da + 2) else (da - 1)
  if da ≤ le then (if w10 = 7 then ((1 : Int64) <<< ((v39 : Int32).toInt64 &&& 63)) else (if w10 = 1 then ((1 : Int64) <<< ((v61 : Int32).toInt64 &&& 63)) else ((1 : Int64) <<< ((da : Int32).toInt64 &&& 63)))) else 0
set_option maxRecDepth 20000 in
set_option maxHeartbeats 4000000 in
theorem k_C_workdayNearest {l : Launch} {S : State} {D : va_G} {dA : Nat → ClassId} (E : jm_en S D jm_cl (jm_ty dA) jm_G) (da : Int32) (le : Int32) (fw : Int32) (h : jm_H)    : jm_M l S D jm_cl y_C_workdayNearest (Cond.code y_C_workdayNearest b_C_workdayNearest 4 (some FieldType.long)) { frames := 0, cells := 0, slots := 0, locals := 0 } [.int da, .int le, .int fw] h (jm_R (some (.long (f_C_workdayNearest da le fw))) h) 0 0 := by
  refine jm_ofW E (by decide) (Nat.le_of_ble_eq_true rfl) (fun p e s m below meth c X hr hk hmn hout hadm => ?_)
  have X : jm_cx p s m ([.int da, .int le, .int fw] : List Value).toArray c S D jm_cl (jm_ty dA) jm_G b_C_workdayNearest 4 "JobHouse$Cron" := X
  show jm_W p l e ({ frames := 0, cells := 0, slots := 0, locals := 0 }) s m ([.int da, .int le, .int fw] : List Value).toArray below meth c S D jm_cl (jm_Q S D jm_cl below s (jm_R (some (.long (f_C_workdayNearest da le fw))) h) 0 0) 4 0 [(0, .int da), (1, .int le), (2, .int fw)] [] (h) 0 0
  refine jm_iload_n X d_C_workdayNearest_0 rfl 2 rfl ?_
  refine jm_iload_n X d_C_workdayNearest_1 rfl 0 rfl ?_
  refine jm_iadd X d_C_workdayNearest_2 ?_
  refine jm_iconst (v := 2) X d_C_workdayNearest_3 (by decide) ?_
  refine jm_isub X d_C_workdayNearest_4 ?_
  refine jm_bipush (v := 7) X d_C_workdayNearest_5 (by decide) ?_
  refine jm_irem X d_C_workdayNearest_7 (by decide +kernel) ?_
  refine jm_iconst (v := 1) X d_C_workdayNearest_8 (by decide) ?_
  refine jm_iadd X d_C_workdayNearest_9 ?_
  refine jm_topi (fun w10 ew10 => ?_)
  refine jm_istore_n X d_C_workdayNearest_10 rfl (by decide) (lv1 := [(3, .int w10), (0, .int da), (1, .int le), (2, .int fw)]) rfl ?_
  refine jm_iload_n X d_C_workdayNearest_11 rfl 1 rfl ?_
  refine jm_iload_n X d_C_workdayNearest_12 rfl 2 rfl ?_
  refine jm_icmp_le (tgt := 18) X d_C_workdayNearest_13 (by decide) (fun c1 => ?_) (fun c1 => ?_)
  · refine jm_iload_n X d_C_workdayNearest_18 rfl 0 rfl ?_
    refine jm_bipush (v := 7) X d_C_workdayNearest_19 (by decide) ?_
    refine jm_icmp_ne (tgt := 41) X d_C_workdayNearest_21 (by decide) (fun c2 => ?_) (fun c2 => ?_)
    · refine jm_iload_n X d_C_workdayNearest_41 rfl 0 rfl ?_
      refine jm_iconst (v := 1) X d_C_workdayNearest_42 (by decide) ?_
      refine jm_icmp_ne (tgt := 63) X d_C_workdayNearest_43 (by decide) (fun c3 => ?_) (fun c3 => ?_)
      · refine jm_lconst (v := 1) X d_C_workdayNearest_63 (by decide) ?_
        refine jm_iload_n X d_C_workdayNearest_64 rfl 1 rfl ?_
        refine jm_lshl X d_C_workdayNearest_65 ?_
        exact jm_lret X hr hk d_C_workdayNearest_66 ⟨(by show Outcome.returned _ = Outcome.returned _; unfold f_C_workdayNearest; subst ew10; first | (simp only [if_pos c1, if_neg c2, if_neg c3, reduceIte]; done) | (simp only [if_pos c1, if_neg c2, if_neg c3, reduceIte]; rfl) | rfl), rfl⟩
      · refine jm_lconst (v := 1) X d_C_workdayNearest_46 (by decide) ?_
        refine jm_iload_n X d_C_workdayNearest_47 rfl 1 rfl ?_
        refine jm_iload_n X d_C_workdayNearest_48 rfl 2 rfl ?_
        have J61_5 : ∀ (v61 : Int32), v61 = (if le ≤ da then (da - 2) else (da + 1) : Int32) → jm_W p l e ({ frames := 0, cells := 0, slots := 0, locals := 0 }) s m ([.int da, .int le, .int fw] : List Value).toArray below meth c S D jm_cl (jm_Q S D jm_cl below s (jm_R (some (.long (f_C_workdayNearest da le fw))) h) 0 0) 4 61 [(3, .int w10), (0, .int da), (1, .int le), (2, .int fw)] [.int v61, .long 1] (h) 0 0 := by
          intro v61 ev61
          refine jm_lshl X d_C_workdayNearest_61 ?_
          exact jm_lret X hr hk d_C_workdayNearest_62 ⟨(by show Outcome.returned _ = Outcome.returned _; unfold f_C_workdayNearest; subst ev61; subst ew10; first | (simp only [if_pos c1, if_neg c2, if_pos c3, reduceIte]; done) | (simp only [if_pos c1, if_neg c2, if_pos c3, reduceIte]; rfl) | rfl), rfl⟩
        refine jm_icmp_ge (tgt := 58) X d_C_workdayNearest_49 (by decide) (fun c4 => ?_) (fun c4 => ?_)
        · refine jm_iload_n X d_C_workdayNearest_58 rfl 1 rfl ?_
          refine jm_iconst (v := 2) X d_C_workdayNearest_59 (by decide) ?_
          refine jm_isub X d_C_workdayNearest_60 ?_
          exact J61_5 _ (by first | (simp only [if_pos c4, reduceIte]; done) | (with_reducible rfl))
        · refine jm_iload_n X d_C_workdayNearest_52 rfl 1 rfl ?_
          refine jm_iconst (v := 1) X d_C_workdayNearest_53 (by decide) ?_
          refine jm_iadd X d_C_workdayNearest_54 ?_
          refine jm_goto (tgt := 61) X d_C_workdayNearest_55 (by decide) ?_
          exact J61_5 _ (by first | (simp only [if_neg c4, reduceIte]; done) | (with_reducible rfl))
    · refine jm_lconst (v := 1) X d_C_workdayNearest_24 (by decide) ?_
      refine jm_iload_n X d_C_workdayNearest_25 rfl 1 rfl ?_
      refine jm_iconst (v := 1) X d_C_workdayNearest_26 (by decide) ?_
      have J39_7 : ∀ (v39 : Int32), v39 = (if da ≤ 1 then (da + 2) else (da - 1) : Int32) → jm_W p l e ({ frames := 0, cells := 0, slots := 0, locals := 0 }) s m ([.int da, .int le, .int fw] : List Value).toArray below meth c S D jm_cl (jm_Q S D jm_cl below s (jm_R (some (.long (f_C_workdayNearest da le fw))) h) 0 0) 4 39 [(3, .int w10), (0, .int da), (1, .int le), (2, .int fw)] [.int v39, .long 1] (h) 0 0 := by
        intro v39 ev39
        refine jm_lshl X d_C_workdayNearest_39 ?_
        exact jm_lret X hr hk d_C_workdayNearest_40 ⟨(by show Outcome.returned _ = Outcome.returned _; unfold f_C_workdayNearest; subst ev39; subst ew10; first | (simp only [if_pos c1, if_pos c2, reduceIte]; done) | (simp only [if_pos c1, if_pos c2, reduceIte]; rfl) | rfl), rfl⟩
      refine jm_icmp_le (tgt := 36) X d_C_workdayNearest_27 (by decide) (fun c6 => ?_) (fun c6 => ?_)
      · refine jm_iload_n X d_C_workdayNearest_36 rfl 1 rfl ?_
        refine jm_iconst (v := 2) X d_C_workdayNearest_37 (by decide) ?_
        refine jm_iadd X d_C_workdayNearest_38 ?_
        exact J39_7 _ (by first | (simp only [if_pos c6, reduceIte]; done) | (with_reducible rfl))
      · refine jm_iload_n X d_C_workdayNearest_30 rfl 1 rfl ?_
        refine jm_iconst (v := 1) X d_C_workdayNearest_31 (by decide) ?_
        refine jm_isub X d_C_workdayNearest_32 ?_
        refine jm_goto (tgt := 39) X d_C_workdayNearest_33 (by decide) ?_
        exact J39_7 _ (by first | (simp only [if_neg c6, reduceIte]; done) | (with_reducible rfl))
  · refine jm_lconst (v := 0) X d_C_workdayNearest_16 (by decide) ?_
    exact jm_lret X hr hk d_C_workdayNearest_17 ⟨(by show Outcome.returned _ = Outcome.returned _; unfold f_C_workdayNearest; subst ew10; first | (simp only [if_neg c1, reduceIte]; done) | (simp only [if_neg c1, reduceIte]; rfl) | rfl), rfl⟩
def f_C_lowestBit (se : Int64) (lo : Int32) : Int32 :=
  let w5 : Int64 := ((se : Int64) >>> ((lo : Int32).toInt64 &&& 63) : Int64) <<< ((lo : Int32).toInt64 &&& 63)
  let v25 : Int32 := if w5 = 0 then (-1) else (f_Long_bitCount ((w5 &&& (-w5)) - 1))
  v25
set_option maxRecDepth 20000 in
set_option maxHeartbeats 4000000 in
theorem k_C_lowestBit {l : Launch} {S : State} {D : va_G} {dA : Nat → ClassId} (E : jm_en S D jm_cl (jm_ty dA) jm_G) (se : Int64) (lo : Int32) (h : jm_H)    : jm_M l S D jm_cl y_C_lowestBit (Cond.code y_C_lowestBit b_C_lowestBit 5 (some FieldType.int)) { frames := 1, cells := 0, slots := 0, locals := 21 } [.long se, .int lo] h (jm_R (some (.int (f_C_lowestBit se lo))) h) 0 0 := by
  refine jm_ofW E (by decide) (Nat.le_of_ble_eq_true rfl) (fun p e s m below meth c X hr hk hmn hout hadm => ?_)
  have X : jm_cx p s m ([.long se, .int lo] : List Value).toArray c S D jm_cl (jm_ty dA) jm_G b_C_lowestBit 5 "JobHouse$Cron" := X
  show jm_W p l e ({ frames := 1, cells := 0, slots := 0, locals := 21 }) s m ([.long se, .int lo] : List Value).toArray below meth c S D jm_cl (jm_Q S D jm_cl below s (jm_R (some (.int (f_C_lowestBit se lo))) h) 0 0) 5 0 [(0, .long se), (2, .int lo)] [] (h) 0 0
  refine jm_lload_n X d_C_lowestBit_0 rfl 0 rfl ?_
  refine jm_iload_n X d_C_lowestBit_1 rfl 1 rfl ?_
  refine jm_lshr X d_C_lowestBit_2 ?_
  refine jm_iload_n X d_C_lowestBit_3 rfl 1 rfl ?_
  refine jm_lshl X d_C_lowestBit_4 ?_
  refine jm_topl (fun w5 ew5 => ?_)
  refine jm_lstore_n X d_C_lowestBit_5 rfl (by decide) (lv1 := [(3, .long w5), (0, .long se), (2, .int lo)]) rfl ?_
  refine jm_lload_n X d_C_lowestBit_6 rfl 0 rfl ?_
  refine jm_lconst (v := 0) X d_C_lowestBit_7 (by decide) ?_
  refine jm_lcmp X d_C_lowestBit_8 ?_
  have J25_2 : ∀ (v25 : Int32), v25 = (if w5 = 0 then (-1) else (f_Long_bitCount ((w5 &&& (-w5)) - 1)) : Int32) → jm_W p l e ({ frames := 1, cells := 0, slots := 0, locals := 21 }) s m ([.long se, .int lo] : List Value).toArray below meth c S D jm_cl (jm_Q S D jm_cl below s (jm_R (some (.int (f_C_lowestBit se lo))) h) 0 0) 5 25 [(3, .long w5), (0, .long se), (2, .int lo)] [.int v25] (h) 0 0 := by
    intro v25 ev25
    exact jm_iret X hr hk d_C_lowestBit_25 ⟨(by show Outcome.returned _ = Outcome.returned _; unfold f_C_lowestBit; subst ev25; subst ew5; rfl), rfl⟩
  refine jm_lif_ne (tgt := 16) X d_C_lowestBit_9 (by decide) (fun c1 => ?_) (fun c1 => ?_)
  · refine jm_lload_n X d_C_lowestBit_16 rfl 0 rfl ?_
    refine jm_lload_n X d_C_lowestBit_17 rfl 0 rfl ?_
    refine jm_lneg X d_C_lowestBit_18 ?_
    refine jm_land X d_C_lowestBit_19 ?_
    refine jm_lconst (v := 1) X d_C_lowestBit_20 (by decide) ?_
    refine jm_lsub X d_C_lowestBit_21 ?_
    refine jm_callS (rest := []) X d_C_lowestBit_22 (k_Long_bitCount E ((w5 &&& (-w5)) - 1) h  ) ci_Long_bitCount (Or.inl (jm_g4 57 rfl rfl)) st_Long_bitCount rfl (Nat.le_of_ble_eq_true rfl) ⟨(Nat.le_of_ble_eq_true rfl), (Nat.le_of_ble_eq_true rfl)⟩ ⟨rfl, rfl⟩ ⟨(Nat.le_of_ble_eq_true rfl), (Nat.le_of_ble_eq_true rfl)⟩ (jm_k1 ?_)
    exact J25_2 _ (by first | (simp only [if_neg c1, reduceIte]; done) | (with_reducible rfl))
  · refine jm_iconst (v := (-1)) X d_C_lowestBit_12 (by decide) ?_
    refine jm_goto (tgt := 25) X d_C_lowestBit_13 (by decide) ?_
    exact J25_2 _ (by first | (simp only [if_pos c1, reduceIte]; done) | (with_reducible rfl))
def f_C_highestBit (se : Int64) (hi : Int32) : Int32 :=
  let w18 : Int64 := (se &&& (f_C_bitsUpTo hi)) ||| ((se &&& (f_C_bitsUpTo hi) : Int64) >>> ((1 : Int32).toInt64 &&& 63))
  let w24 : Int64 := w18 ||| ((w18 : Int64) >>> ((2 : Int32).toInt64 &&& 63))
  let w30 : Int64 := w24 ||| ((w24 : Int64) >>> ((4 : Int32).toInt64 &&& 63))
  let w37 : Int64 := w30 ||| ((w30 : Int64) >>> ((8 : Int32).toInt64 &&& 63))
  let w44 : Int64 := w37 ||| ((w37 : Int64) >>> ((16 : Int32).toInt64 &&& 63))
  let w51 : Int64 := w44 ||| ((w44 : Int64) >>> ((32 : Int32).toInt64 &&& 63))
  if 0 ≤ hi then ((f_Long_bitCount w51) - 1) else (-1)
set_option maxRecDepth 20000 in
set_option maxHeartbeats 4000000 in
theorem k_C_highestBit {l : Launch} {S : State} {D : va_G} {dA : Nat → ClassId} (E : jm_en S D jm_cl (jm_ty dA) jm_G) (se : Int64) (hi : Int32) (h : jm_H)    : jm_M l S D jm_cl y_C_highestBit (Cond.code y_C_highestBit b_C_highestBit 5 (some FieldType.int)) { frames := 1, cells := 0, slots := 0, locals := 21 } [.long se, .int hi] h (jm_R (some (.int (f_C_highestBit se hi))) h) 0 0 := by
  refine jm_ofW E (by decide) (Nat.le_of_ble_eq_true rfl) (fun p e s m below meth c X hr hk hmn hout hadm => ?_)
  have X : jm_cx p s m ([.long se, .int hi] : List Value).toArray c S D jm_cl (jm_ty dA) jm_G b_C_highestBit 5 "JobHouse$Cron" := X
  show jm_W p l e ({ frames := 1, cells := 0, slots := 0, locals := 21 }) s m ([.long se, .int hi] : List Value).toArray below meth c S D jm_cl (jm_Q S D jm_cl below s (jm_R (some (.int (f_C_highestBit se hi))) h) 0 0) 5 0 [(0, .long se), (2, .int hi)] [] (h) 0 0
  refine jm_iload_n X d_C_highestBit_0 rfl 1 rfl ?_
  refine jm_if_ge (tgt := 6) X d_C_highestBit_1 (by decide) (fun c1 => ?_) (fun c1 => ?_)
  · refine jm_lload_n X d_C_highestBit_6 rfl 0 rfl ?_
    refine jm_iload_n X d_C_highestBit_7 rfl 1 rfl ?_
    refine jm_callS (rest := [.long se]) X d_C_highestBit_8 (k_C_bitsUpTo E hi h  ) ci_C_bitsUpTo (Or.inl (jm_g4 39 rfl rfl)) st_C_bitsUpTo rfl (Nat.le_of_ble_eq_true rfl) ⟨(Nat.le_of_ble_eq_true rfl), (Nat.le_of_ble_eq_true rfl)⟩ ⟨rfl, rfl⟩ ⟨(Nat.le_of_ble_eq_true rfl), (Nat.le_of_ble_eq_true rfl)⟩ (jm_k1 ?_)
    refine jm_land X d_C_highestBit_11 ?_
    refine jm_lstore_n X d_C_highestBit_12 rfl (by decide) (lv1 := [(3, .long (se &&& (f_C_bitsUpTo hi))), (0, .long se), (2, .int hi)]) rfl ?_
    refine jm_lload_n X d_C_highestBit_13 rfl 0 rfl ?_
    refine jm_lload_n X d_C_highestBit_14 rfl 0 rfl ?_
    refine jm_iconst (v := 1) X d_C_highestBit_15 (by decide) ?_
    refine jm_lshr X d_C_highestBit_16 ?_
    refine jm_lor X d_C_highestBit_17 ?_
    refine jm_topl (fun w18 ew18 => ?_)
    refine jm_lstore_n X d_C_highestBit_18 rfl (by decide) (lv1 := [(3, .long w18), (0, .long se), (2, .int hi)]) rfl ?_
    refine jm_lload_n X d_C_highestBit_19 rfl 0 rfl ?_
    refine jm_lload_n X d_C_highestBit_20 rfl 0 rfl ?_
    refine jm_iconst (v := 2) X d_C_highestBit_21 (by decide) ?_
    refine jm_lshr X d_C_highestBit_22 ?_
    refine jm_lor X d_C_highestBit_23 ?_
    refine jm_topl (fun w24 ew24 => ?_)
    refine jm_lstore_n X d_C_highestBit_24 rfl (by decide) (lv1 := [(3, .long w24), (0, .long se), (2, .int hi)]) rfl ?_
    refine jm_lload_n X d_C_highestBit_25 rfl 0 rfl ?_
    refine jm_lload_n X d_C_highestBit_26 rfl 0 rfl ?_
    refine jm_iconst (v := 4) X d_C_highestBit_27 (by decide) ?_
    refine jm_lshr X d_C_highestBit_28 ?_
    refine jm_lor X d_C_highestBit_29 ?_
    refine jm_topl (fun w30 ew30 => ?_)
    refine jm_lstore_n X d_C_highestBit_30 rfl (by decide) (lv1 := [(3, .long w30), (0, .long se), (2, .int hi)]) rfl ?_
    refine jm_lload_n X d_C_highestBit_31 rfl 0 rfl ?_
    refine jm_lload_n X d_C_highestBit_32 rfl 0 rfl ?_
    refine jm_bipush (v := 8) X d_C_highestBit_33 (by decide) ?_
    refine jm_lshr X d_C_highestBit_35 ?_
    refine jm_lor X d_C_highestBit_36 ?_
    refine jm_topl (fun w37 ew37 => ?_)
    refine jm_lstore_n X d_C_highestBit_37 rfl (by decide) (lv1 := [(3, .long w37), (0, .long se), (2, .int hi)]) rfl ?_
    refine jm_lload_n X d_C_highestBit_38 rfl 0 rfl ?_
    refine jm_lload_n X d_C_highestBit_39 rfl 0 rfl ?_
    refine jm_bipush (v := 16) X d_C_highestBit_40 (by decide) ?_
    refine jm_lshr X d_C_highestBit_42 ?_
    refine jm_lor X d_C_highestBit_43 ?_
    refine jm_topl (fun w44 ew44 => ?_)
    refine jm_lstore_n X d_C_highestBit_44 rfl (by decide) (lv1 := [(3, .long w44), (0, .long se), (2, .int hi)]) rfl ?_
    refine jm_lload_n X d_C_highestBit_45 rfl 0 rfl ?_
    refine jm_lload_n X d_C_highestBit_46 rfl 0 rfl ?_
    refine jm_bipush (v := 32) X d_C_highestBit_47 (by decide) ?_
    refine jm_lshr X d_C_highestBit_49 ?_
    refine jm_lor X d_C_highestBit_50 ?_
    refine jm_topl (fun w51 ew51 => ?_)
    refine jm_lstore_n X d_C_highestBit_51 rfl (by decide) (lv1 := [(3, .long w51), (0, .long se), (2, .int hi)]) rfl ?_
    refine jm_lload_n X d_C_highestBit_52 rfl 0 rfl ?_
    refine jm_callS (rest := []) X d_C_highestBit_53 (k_Long_bitCount E w51 h  ) ci_Long_bitCount (Or.inl (jm_g4 57 rfl rfl)) st_Long_bitCount rfl (Nat.le_of_ble_eq_true rfl) ⟨(Nat.le_of_ble_eq_true rfl), (Nat.le_of_ble_eq_true rfl)⟩ ⟨rfl, rfl⟩ ⟨(Nat.le_of_ble_eq_true rfl), (Nat.le_of_ble_eq_true rfl)⟩ (jm_k1 ?_)
    refine jm_iconst (v := 1) X d_C_highestBit_56 (by decide) ?_
    refine jm_isub X d_C_highestBit_57 ?_
    exact jm_iret X hr hk d_C_highestBit_58 ⟨(by show Outcome.returned _ = Outcome.returned _; unfold f_C_highestBit; subst ew51; subst ew44; subst ew37; subst ew30; subst ew24; subst ew18; first | (simp only [if_pos c1, reduceIte]; done) | (simp only [if_pos c1, reduceIte]; rfl) | rfl), rfl⟩
  · refine jm_iconst (v := (-1)) X d_C_highestBit_4 (by decide) ?_
    exact jm_iret X hr hk d_C_highestBit_5 ⟨(by show Outcome.returned _ = Outcome.returned _; unfold f_C_highestBit; first | (simp only [if_neg c1, reduceIte]; done) | (simp only [if_neg c1, reduceIte]; rfl) | rfl), rfl⟩
def f_C_weekdaysFrom (fw : Int32) (dr : Int32) (vl : Int32) (nn : Int32) (st : Nat → Int64) : Int64 :=
  let w20 : Int64 := ((st (5 : Int32).toNatClampNeg : Int64) >>> ((fw : Int32).toInt64 &&& 63)) ||| ((st (5 : Int32).toNatClampNeg : Int64) <<< ((7 - fw : Int32).toInt64 &&& 63))
  let w28 : Int64 := ((w20 : Int64) <<< ((1 : Int32).toInt64 &&& 63)) &&& 254
  (((w28 ||| ((w28 : Int64) <<< ((7 : Int32).toInt64 &&& 63))) ||| ((w28 : Int64) <<< ((14 : Int32).toInt64 &&& 63))) ||| ((w28 : Int64) <<< ((21 : Int32).toInt64 &&& 63))) ||| ((w28 : Int64) <<< ((28 : Int32).toInt64 &&& 63))
set_option maxRecDepth 20000 in
set_option maxHeartbeats 4000000 in
theorem k_C_weekdaysFrom {l : Launch} {S : State} {D : va_G} {dA : Nat → ClassId} (E : jm_en S D jm_cl (jm_ty dA) jm_G) (a : Nat) (fw : Int32) (sq : Nat) (dr : Int32) (vl : Int32) (nn : Int32) (st : Nat → Int64) (h : jm_H) (h_a : h a = some (.inr (4, [.ref sq, .int dr, .int vl, .int nn]))) (h_sq : h sq = some (.inl (dA 3, 12, .inr (.inl st)))) (hnd : ([a, sq] : List Nat).Nodup)  : jm_M l S D jm_cl y_C_weekdaysFrom (Cond.code y_C_weekdaysFrom b_C_weekdaysFrom 4 (some FieldType.long)) { frames := 0, cells := 0, slots := 0, locals := 0 } [.ref a, .int fw] h (jm_R (some (.long (f_C_weekdaysFrom fw dr vl nn st))) h) 0 0 := by
  refine jm_ofW E (by decide) (Nat.le_of_ble_eq_true rfl) (fun p e s m below meth c X hr hk hmn hout hadm => ?_)
  have X : jm_cx p s m ([.ref a, .int fw] : List Value).toArray c S D jm_cl (jm_ty dA) jm_G b_C_weekdaysFrom 4 "JobHouse$Cron" := X
  have hL : ∀ zz ∈ ([(a, .inr (4, [.ref sq, .int dr, .int vl, .int nn])), (sq, .inl (dA 3, 12, .inr (.inl st)))] : List (Nat × va_E)), h zz.1 = some zz.2 := List.forall_mem_cons.mpr ⟨h_a, List.forall_mem_cons.mpr ⟨h_sq, fun _ hz => absurd hz List.not_mem_nil⟩⟩
  refine jm_hq (jm_us_id hL).symm ?_
  show jm_W p l e ({ frames := 0, cells := 0, slots := 0, locals := 0 }) s m ([.ref a, .int fw] : List Value).toArray below meth c S D jm_cl (jm_Q S D jm_cl below s (jm_R (some (.long (f_C_weekdaysFrom fw dr vl nn st))) h) 0 0) 4 0 [(0, .ref a), (1, .int fw)] [] (jm_us h [(a, .inr (4, [.ref sq, .int dr, .int vl, .int nn])), (sq, .inl (dA 3, 12, .inr (.inl st)))]) 0 0
  refine jm_aload_n X d_C_weekdaysFrom_0 rfl 0 rfl ?_
  refine jm_get X d_C_weekdaysFrom_1 fs_C_11 (by refine jm_us_get ?_ 0 rfl; exact hnd) rfl ?_
  refine jm_iconst (v := 5) X d_C_weekdaysFrom_4 (by decide) ?_
  refine jm_lald (t0 := 3) X d_C_weekdaysFrom_5 rfl (by refine jm_us_get ?_ 1 rfl; exact hnd) (by unfold vp_in; decide) ?_
  refine jm_iload_n X d_C_weekdaysFrom_6 rfl 1 rfl ?_
  refine jm_lshr X d_C_weekdaysFrom_7 ?_
  refine jm_aload_n X d_C_weekdaysFrom_8 rfl 0 rfl ?_
  refine jm_get X d_C_weekdaysFrom_9 fs_C_11 (by refine jm_us_get ?_ 0 rfl; exact hnd) rfl ?_
  refine jm_iconst (v := 5) X d_C_weekdaysFrom_12 (by decide) ?_
  refine jm_lald (t0 := 3) X d_C_weekdaysFrom_13 rfl (by refine jm_us_get ?_ 1 rfl; exact hnd) (by unfold vp_in; decide) ?_
  refine jm_bipush (v := 7) X d_C_weekdaysFrom_14 (by decide) ?_
  refine jm_iload_n X d_C_weekdaysFrom_16 rfl 1 rfl ?_
  refine jm_isub X d_C_weekdaysFrom_17 ?_
  refine jm_lshl X d_C_weekdaysFrom_18 ?_
  refine jm_lor X d_C_weekdaysFrom_19 ?_
  refine jm_topl (fun w20 ew20 => ?_)
  refine jm_lstore_n X d_C_weekdaysFrom_20 rfl (by decide) (lv1 := [(2, .long w20), (0, .ref a), (1, .int fw)]) rfl ?_
  refine jm_lload_n X d_C_weekdaysFrom_21 rfl 0 rfl ?_
  refine jm_iconst (v := 1) X d_C_weekdaysFrom_22 (by decide) ?_
  refine jm_lshl X d_C_weekdaysFrom_23 ?_
  refine jm_ldc2 (v := 254) X d_C_weekdaysFrom_24 (jm_g4 46 rfl rfl) ?_
  refine jm_land X d_C_weekdaysFrom_27 ?_
  refine jm_topl (fun w28 ew28 => ?_)
  refine jm_lstore_n X d_C_weekdaysFrom_28 rfl (by decide) (lv1 := [(2, .long w28), (0, .ref a), (1, .int fw)]) rfl ?_
  refine jm_lload_n X d_C_weekdaysFrom_29 rfl 0 rfl ?_
  refine jm_lload_n X d_C_weekdaysFrom_30 rfl 0 rfl ?_
  refine jm_bipush (v := 7) X d_C_weekdaysFrom_31 (by decide) ?_
  refine jm_lshl X d_C_weekdaysFrom_33 ?_
  refine jm_lor X d_C_weekdaysFrom_34 ?_
  refine jm_lload_n X d_C_weekdaysFrom_35 rfl 0 rfl ?_
  refine jm_bipush (v := 14) X d_C_weekdaysFrom_36 (by decide) ?_
  refine jm_lshl X d_C_weekdaysFrom_38 ?_
  refine jm_lor X d_C_weekdaysFrom_39 ?_
  refine jm_lload_n X d_C_weekdaysFrom_40 rfl 0 rfl ?_
  refine jm_bipush (v := 21) X d_C_weekdaysFrom_41 (by decide) ?_
  refine jm_lshl X d_C_weekdaysFrom_43 ?_
  refine jm_lor X d_C_weekdaysFrom_44 ?_
  refine jm_lload_n X d_C_weekdaysFrom_45 rfl 0 rfl ?_
  refine jm_bipush (v := 28) X d_C_weekdaysFrom_46 (by decide) ?_
  refine jm_lshl X d_C_weekdaysFrom_48 ?_
  refine jm_lor X d_C_weekdaysFrom_49 ?_
  exact jm_lret X hr hk d_C_weekdaysFrom_50 ⟨(by show Outcome.returned _ = Outcome.returned _; unfold f_C_weekdaysFrom; subst ew28; subst ew20; rfl), (jm_us_id hL)⟩
def f_C_hasMonth (mo : Int32) (dr : Int32) (vl : Int32) (nn : Int32) (st : Nat → Int64) : Int32 :=
  let v20 : Int32 := if (((st (4 : Int32).toNatClampNeg : Int64) >>> ((mo : Int32).toInt64 &&& 63)) &&& 1) = 0 then 0 else 1
  v20
set_option maxRecDepth 20000 in
set_option maxHeartbeats 4000000 in
theorem k_C_hasMonth {l : Launch} {S : State} {D : va_G} {dA : Nat → ClassId} (E : jm_en S D jm_cl (jm_ty dA) jm_G) (a : Nat) (mo : Int32) (sq : Nat) (dr : Int32) (vl : Int32) (nn : Int32) (st : Nat → Int64) (h : jm_H) (h_a : h a = some (.inr (4, [.ref sq, .int dr, .int vl, .int nn]))) (h_sq : h sq = some (.inl (dA 3, 12, .inr (.inl st)))) (hnd : ([a, sq] : List Nat).Nodup)  : jm_M l S D jm_cl y_C_hasMonth (Cond.code y_C_hasMonth b_C_hasMonth 2 (some FieldType.boolean)) { frames := 0, cells := 0, slots := 0, locals := 0 } [.ref a, .int mo] h (jm_R (some (.int (f_C_hasMonth mo dr vl nn st))) h) 0 0 := by
  refine jm_ofW E (by decide) (Nat.le_of_ble_eq_true rfl) (fun p e s m below meth c X hr hk hmn hout hadm => ?_)
  have X : jm_cx p s m ([.ref a, .int mo] : List Value).toArray c S D jm_cl (jm_ty dA) jm_G b_C_hasMonth 2 "JobHouse$Cron" := X
  have hL : ∀ zz ∈ ([(a, .inr (4, [.ref sq, .int dr, .int vl, .int nn])), (sq, .inl (dA 3, 12, .inr (.inl st)))] : List (Nat × va_E)), h zz.1 = some zz.2 := List.forall_mem_cons.mpr ⟨h_a, List.forall_mem_cons.mpr ⟨h_sq, fun _ hz => absurd hz List.not_mem_nil⟩⟩
  refine jm_hq (jm_us_id hL).symm ?_
  show jm_W p l e ({ frames := 0, cells := 0, slots := 0, locals := 0 }) s m ([.ref a, .int mo] : List Value).toArray below meth c S D jm_cl (jm_Q S D jm_cl below s (jm_R (some (.int (f_C_hasMonth mo dr vl nn st))) h) 0 0) 2 0 [(0, .ref a), (1, .int mo)] [] (jm_us h [(a, .inr (4, [.ref sq, .int dr, .int vl, .int nn])), (sq, .inl (dA 3, 12, .inr (.inl st)))]) 0 0
  refine jm_aload_n X d_C_hasMonth_0 rfl 0 rfl ?_
  refine jm_get X d_C_hasMonth_1 fs_C_11 (by refine jm_us_get ?_ 0 rfl; exact hnd) rfl ?_
  refine jm_iconst (v := 4) X d_C_hasMonth_4 (by decide) ?_
  refine jm_lald (t0 := 3) X d_C_hasMonth_5 rfl (by refine jm_us_get ?_ 1 rfl; exact hnd) (by unfold vp_in; decide) ?_
  refine jm_iload_n X d_C_hasMonth_6 rfl 1 rfl ?_
  refine jm_lshr X d_C_hasMonth_7 ?_
  refine jm_lconst (v := 1) X d_C_hasMonth_8 (by decide) ?_
  refine jm_land X d_C_hasMonth_9 ?_
  refine jm_lconst (v := 0) X d_C_hasMonth_10 (by decide) ?_
  refine jm_lcmp X d_C_hasMonth_11 ?_
  have J20_2 : ∀ (v20 : Int32), v20 = (if (((st (4 : Int32).toNatClampNeg : Int64) >>> ((mo : Int32).toInt64 &&& 63)) &&& 1) = 0 then 0 else 1 : Int32) → jm_W p l e ({ frames := 0, cells := 0, slots := 0, locals := 0 }) s m ([.ref a, .int mo] : List Value).toArray below meth c S D jm_cl (jm_Q S D jm_cl below s (jm_R (some (.int (f_C_hasMonth mo dr vl nn st))) h) 0 0) 2 20 [(0, .ref a), (1, .int mo)] [.int v20] (jm_us h [(a, .inr (4, [.ref sq, .int dr, .int vl, .int nn])), (sq, .inl (dA 3, 12, .inr (.inl st)))]) 0 0 := by
    intro v20 ev20
    exact jm_zret X hr (by first | rfl | (subst ev20; (repeat' split) <;> rfl)) hk d_C_hasMonth_20 ⟨(by show Outcome.returned _ = Outcome.returned _; unfold f_C_hasMonth; subst ev20; rfl), (jm_us_id hL)⟩
  refine jm_lif_eq (tgt := 19) X d_C_hasMonth_12 (by decide) (fun c1 => ?_) (fun c1 => ?_)
  · refine jm_iconst (v := 0) X d_C_hasMonth_19 (by decide) ?_
    exact J20_2 _ (by first | (simp only [if_pos c1, reduceIte]; done) | (with_reducible rfl))
  · refine jm_iconst (v := 1) X d_C_hasMonth_15 (by decide) ?_
    refine jm_goto (tgt := 20) X d_C_hasMonth_16 (by decide) ?_
    exact J20_2 _ (by first | (simp only [if_neg c1, reduceIte]; done) | (with_reducible rfl))
def f_C_hasYear (ye : Int32) (dr : Int32) (vl : Int32) (nn : Int32) (st : Nat → Int64) : Int32 :=
  let v35 : Int32 := if (((st (6 + ((ye - 1970) / 64) : Int32).toNatClampNeg : Int64) >>> (((ye - 1970) - (ye - 1970) / 64 * 64 : Int32).toInt64 &&& 63)) &&& 1) = 0 then 0 else 1
  v35
set_option maxRecDepth 20000 in
set_option maxHeartbeats 4000000 in
theorem k_C_hasYear {l : Launch} {S : State} {D : va_G} {dA : Nat → ClassId} (E : jm_en S D jm_cl (jm_ty dA) jm_G) (a : Nat) (ye : Int32) (sq : Nat) (dr : Int32) (vl : Int32) (nn : Int32) (st : Nat → Int64) (h : jm_H) (h_a : h a = some (.inr (4, [.ref sq, .int dr, .int vl, .int nn]))) (h_sq : h sq = some (.inl (dA 3, 12, .inr (.inl st)))) (hnd : ([a, sq] : List Nat).Nodup) (p1 : vp_in (6 + (ye - 1970) / 64) 12) : jm_M l S D jm_cl y_C_hasYear (Cond.code y_C_hasYear b_C_hasYear 3 (some FieldType.boolean)) { frames := 0, cells := 0, slots := 0, locals := 0 } [.ref a, .int ye] h (jm_R (some (.int (f_C_hasYear ye dr vl nn st))) h) 0 0 := by
  refine jm_ofW E (by decide) (Nat.le_of_ble_eq_true rfl) (fun p e s m below meth c X hr hk hmn hout hadm => ?_)
  have X : jm_cx p s m ([.ref a, .int ye] : List Value).toArray c S D jm_cl (jm_ty dA) jm_G b_C_hasYear 3 "JobHouse$Cron" := X
  have hL : ∀ zz ∈ ([(a, .inr (4, [.ref sq, .int dr, .int vl, .int nn])), (sq, .inl (dA 3, 12, .inr (.inl st)))] : List (Nat × va_E)), h zz.1 = some zz.2 := List.forall_mem_cons.mpr ⟨h_a, List.forall_mem_cons.mpr ⟨h_sq, fun _ hz => absurd hz List.not_mem_nil⟩⟩
  refine jm_hq (jm_us_id hL).symm ?_
  show jm_W p l e ({ frames := 0, cells := 0, slots := 0, locals := 0 }) s m ([.ref a, .int ye] : List Value).toArray below meth c S D jm_cl (jm_Q S D jm_cl below s (jm_R (some (.int (f_C_hasYear ye dr vl nn st))) h) 0 0) 3 0 [(0, .ref a), (1, .int ye)] [] (jm_us h [(a, .inr (4, [.ref sq, .int dr, .int vl, .int nn])), (sq, .inl (dA 3, 12, .inr (.inl st)))]) 0 0
  refine jm_iload_n X d_C_hasYear_0 rfl 1 rfl ?_
  refine jm_sipush (v := 1970) X d_C_hasYear_1 (by decide) ?_
  refine jm_isub X d_C_hasYear_4 ?_
  refine jm_istore_n X d_C_hasYear_5 rfl (by decide) (lv1 := [(2, .int (ye - 1970)), (0, .ref a), (1, .int ye)]) rfl ?_
  refine jm_aload_n X d_C_hasYear_6 rfl 1 rfl ?_
  refine jm_get X d_C_hasYear_7 fs_C_11 (by refine jm_us_get ?_ 0 rfl; exact hnd) rfl ?_
  refine jm_bipush (v := 6) X d_C_hasYear_10 (by decide) ?_
  refine jm_iload_n X d_C_hasYear_12 rfl 0 rfl ?_
  refine jm_bipush (v := 64) X d_C_hasYear_13 (by decide) ?_
  refine jm_idiv X d_C_hasYear_15 (by decide +kernel) ?_
  refine jm_iadd X d_C_hasYear_16 ?_
  refine jm_lald (t0 := 3) X d_C_hasYear_17 rfl (by refine jm_us_get ?_ 1 rfl; exact hnd) (by with_reducible assumption) ?_
  refine jm_iload_n X d_C_hasYear_18 rfl 0 rfl ?_
  refine jm_bipush (v := 64) X d_C_hasYear_19 (by decide) ?_
  refine jm_irem X d_C_hasYear_21 (by decide +kernel) ?_
  refine jm_lshr X d_C_hasYear_22 ?_
  refine jm_lconst (v := 1) X d_C_hasYear_23 (by decide) ?_
  refine jm_land X d_C_hasYear_24 ?_
  refine jm_lconst (v := 0) X d_C_hasYear_25 (by decide) ?_
  refine jm_lcmp X d_C_hasYear_26 ?_
  have J35_2 : ∀ (v35 : Int32), v35 = (if (((st (6 + ((ye - 1970) / 64) : Int32).toNatClampNeg : Int64) >>> (((ye - 1970) - (ye - 1970) / 64 * 64 : Int32).toInt64 &&& 63)) &&& 1) = 0 then 0 else 1 : Int32) → jm_W p l e ({ frames := 0, cells := 0, slots := 0, locals := 0 }) s m ([.ref a, .int ye] : List Value).toArray below meth c S D jm_cl (jm_Q S D jm_cl below s (jm_R (some (.int (f_C_hasYear ye dr vl nn st))) h) 0 0) 3 35 [(2, .int (ye - 1970)), (0, .ref a), (1, .int ye)] [.int v35] (jm_us h [(a, .inr (4, [.ref sq, .int dr, .int vl, .int nn])), (sq, .inl (dA 3, 12, .inr (.inl st)))]) 0 0 := by
    intro v35 ev35
    exact jm_zret X hr (by first | rfl | (subst ev35; (repeat' split) <;> rfl)) hk d_C_hasYear_35 ⟨(by show Outcome.returned _ = Outcome.returned _; unfold f_C_hasYear; subst ev35; rfl), (jm_us_id hL)⟩
  refine jm_lif_eq (tgt := 34) X d_C_hasYear_27 (by decide) (fun c1 => ?_) (fun c1 => ?_)
  · refine jm_iconst (v := 0) X d_C_hasYear_34 (by decide) ?_
    exact J35_2 _ (by first | (simp only [if_pos c1, reduceIte]; done) | (with_reducible rfl))
  · refine jm_iconst (v := 1) X d_C_hasYear_30 (by decide) ?_
    refine jm_goto (tgt := 35) X d_C_hasYear_31 (by decide) ?_
    exact J35_2 _ (by first | (simp only [if_neg c1, reduceIte]; done) | (with_reducible rfl))
def f_C_add_sq (fi : Int32) (nu : Int32) (dr : Int32) (vl : Int32) (nn : Int32) (st : Nat → Int64) : Nat → Int64 :=
  let v48 : Nat → Int64 := if fi = 6 then (vp_updL st (6 + ((nu - 1970) / 64) : Int32).toNatClampNeg ((st (6 + ((nu - 1970) / 64) : Int32).toNatClampNeg) ||| ((1 : Int64) <<< (((nu - 1970) - (nu - 1970) / 64 * 64 : Int32).toInt64 &&& 63)))) else (vp_updL st (fi : Int32).toNatClampNeg ((st (fi : Int32).toNatClampNeg) ||| ((1 : Int64) <<< ((nu : Int32).toInt64 &&& 63))))
  v48
set_option maxRecDepth 20000 in
set_option maxHeartbeats 4000000 in
theorem k_C_add {l : Launch} {S : State} {D : va_G} {dA : Nat → ClassId} (E : jm_en S D jm_cl (jm_ty dA) jm_G) (a : Nat) (fi : Int32) (nu : Int32) (sq : Nat) (dr : Int32) (vl : Int32) (nn : Int32) (st : Nat → Int64) (h : jm_H) (h_a : h a = some (.inr (4, [.ref sq, .int dr, .int vl, .int nn]))) (h_sq : h sq = some (.inl (dA 3, 12, .inr (.inl st)))) (hnd : ([a, sq] : List Nat).Nodup) (p1 : fi = 6 → vp_in (6 + (nu - 1970) / 64) 12) (p2 : ¬ fi = 6 → vp_in fi 12) : jm_M l S D jm_cl y_C_add (Cond.code y_C_add b_C_add 4 (none)) { frames := 0, cells := 0, slots := 0, locals := 0 } [.ref a, .int fi, .int nu] h (jm_R none (jm_us h [(a, .inr (4, [.ref sq, .int dr, .int vl, .int nn])), (sq, .inl (dA 3, 12, .inr (.inl (f_C_add_sq fi nu dr vl nn st))))])) 0 0 := by
  refine jm_ofW E (by decide) (Nat.le_of_ble_eq_true rfl) (fun p e s m below meth c X hr hk hmn hout hadm => ?_)
  have X : jm_cx p s m ([.ref a, .int fi, .int nu] : List Value).toArray c S D jm_cl (jm_ty dA) jm_G b_C_add 4 "JobHouse$Cron" := X
  have hL : ∀ zz ∈ ([(a, .inr (4, [.ref sq, .int dr, .int vl, .int nn])), (sq, .inl (dA 3, 12, .inr (.inl st)))] : List (Nat × va_E)), h zz.1 = some zz.2 := List.forall_mem_cons.mpr ⟨h_a, List.forall_mem_cons.mpr ⟨h_sq, fun _ hz => absurd hz List.not_mem_nil⟩⟩
  refine jm_hq (jm_us_id hL).symm ?_
  show jm_W p l e ({ frames := 0, cells := 0, slots := 0, locals := 0 }) s m ([.ref a, .int fi, .int nu] : List Value).toArray below meth c S D jm_cl (jm_Q S D jm_cl below s (jm_R none (jm_us h [(a, .inr (4, [.ref sq, .int dr, .int vl, .int nn])), (sq, .inl (dA 3, 12, .inr (.inl (f_C_add_sq fi nu dr vl nn st))))])) 0 0) 4 0 [(0, .ref a), (1, .int fi), (2, .int nu)] [] (jm_us h [(a, .inr (4, [.ref sq, .int dr, .int vl, .int nn])), (sq, .inl (dA 3, 12, .inr (.inl st)))]) 0 0
  refine jm_iload_n X d_C_add_0 rfl 1 rfl ?_
  refine jm_bipush (v := 6) X d_C_add_1 (by decide) ?_
  have J48_2 : ∀ (v48 : Nat → Int64), v48 = (if fi = 6 then (vp_updL st (6 + ((nu - 1970) / 64) : Int32).toNatClampNeg ((st (6 + ((nu - 1970) / 64) : Int32).toNatClampNeg) ||| ((1 : Int64) <<< (((nu - 1970) - (nu - 1970) / 64 * 64 : Int32).toInt64 &&& 63)))) else (vp_updL st (fi : Int32).toNatClampNeg ((st (fi : Int32).toNatClampNeg) ||| ((1 : Int64) <<< ((nu : Int32).toInt64 &&& 63)))) : Nat → Int64) → jm_W p l e ({ frames := 0, cells := 0, slots := 0, locals := 0 }) s m ([.ref a, .int fi, .int nu] : List Value).toArray below meth c S D jm_cl (jm_Q S D jm_cl below s (jm_R none (jm_us h [(a, .inr (4, [.ref sq, .int dr, .int vl, .int nn])), (sq, .inl (dA 3, 12, .inr (.inl (f_C_add_sq fi nu dr vl nn st))))])) 0 0) 4 48 [(0, .ref a), (1, .int fi), (2, .int nu)] [] (jm_us h [(a, .inr (4, [.ref sq, .int dr, .int vl, .int nn])), (sq, .inl (dA 3, 12, .inr (.inl v48)))]) 0 0 := by
    intro v48 ev48
    exact jm_vret X hr hk d_C_add_48 ⟨rfl, (by show jm_us h _ = jm_us h _; unfold f_C_add_sq; subst ev48; rfl)⟩
  refine jm_icmp_ne (tgt := 36) X d_C_add_3 (by decide) (fun c1 => ?_) (fun c1 => ?_)
  · refine jm_aload_n X d_C_add_36 rfl 0 rfl ?_
    refine jm_get X d_C_add_37 fs_C_11 (by refine jm_us_get ?_ 0 rfl; exact hnd) rfl ?_
    refine jm_iload_n X d_C_add_40 rfl 1 rfl ?_
    refine jm_dup2_11 X d_C_add_41 rfl rfl ?_
    refine jm_lald (t0 := 3) X d_C_add_42 rfl (by refine jm_us_get ?_ 1 rfl; exact hnd) (p2 c1) ?_
    refine jm_lconst (v := 1) X d_C_add_43 (by decide) ?_
    refine jm_iload_n X d_C_add_44 rfl 2 rfl ?_
    refine jm_lshl X d_C_add_45 ?_
    refine jm_lor X d_C_add_46 ?_
    refine jm_last (t0 := 3) X d_C_add_47 rfl (by refine jm_us_get ?_ 1 rfl; exact hnd) (p2 c1) (jm_hq (by refine jm_us_set ?_ 1 (L1 := [(a, .inr (4, [.ref sq, .int dr, .int vl, .int nn])), (sq, .inl (dA 3, 12, .inr (.inl (vp_updL st (fi : Int32).toNatClampNeg ((st (fi : Int32).toNatClampNeg) ||| ((1 : Int64) <<< ((nu : Int32).toInt64 &&& 63)))))))]) rfl rfl; exact hnd) ?_)
    refine jm_lvs [0, 1, 2] (lv1 := [(0, .ref a), (1, .int fi), (2, .int nu)]) rfl ?_
    exact J48_2 _ (by first | (simp only [if_neg c1, reduceIte]; done) | (with_reducible rfl))
  · refine jm_iload_n X d_C_add_6 rfl 2 rfl ?_
    refine jm_sipush (v := 1970) X d_C_add_7 (by decide) ?_
    refine jm_isub X d_C_add_10 ?_
    refine jm_istore_n X d_C_add_11 rfl (by decide) (lv1 := [(3, .int (nu - 1970)), (0, .ref a), (1, .int fi), (2, .int nu)]) rfl ?_
    refine jm_aload_n X d_C_add_12 rfl 1 rfl ?_
    refine jm_get X d_C_add_13 fs_C_11 (by refine jm_us_get ?_ 0 rfl; exact hnd) rfl ?_
    refine jm_bipush (v := 6) X d_C_add_16 (by decide) ?_
    refine jm_iload_n X d_C_add_18 rfl 0 rfl ?_
    refine jm_bipush (v := 64) X d_C_add_19 (by decide) ?_
    refine jm_idiv X d_C_add_21 (by decide +kernel) ?_
    refine jm_iadd X d_C_add_22 ?_
    refine jm_dup2_11 X d_C_add_23 rfl rfl ?_
    refine jm_lald (t0 := 3) X d_C_add_24 rfl (by refine jm_us_get ?_ 1 rfl; exact hnd) (p1 c1) ?_
    refine jm_lconst (v := 1) X d_C_add_25 (by decide) ?_
    refine jm_iload_n X d_C_add_26 rfl 0 rfl ?_
    refine jm_bipush (v := 64) X d_C_add_27 (by decide) ?_
    refine jm_irem X d_C_add_29 (by decide +kernel) ?_
    refine jm_lshl X d_C_add_30 ?_
    refine jm_lor X d_C_add_31 ?_
    refine jm_last (t0 := 3) X d_C_add_32 rfl (by refine jm_us_get ?_ 1 rfl; exact hnd) (p1 c1) (jm_hq (by refine jm_us_set ?_ 1 (L1 := [(a, .inr (4, [.ref sq, .int dr, .int vl, .int nn])), (sq, .inl (dA 3, 12, .inr (.inl (vp_updL st (6 + ((nu - 1970) / 64) : Int32).toNatClampNeg ((st (6 + ((nu - 1970) / 64) : Int32).toNatClampNeg) ||| ((1 : Int64) <<< (((nu - 1970) - (nu - 1970) / 64 * 64 : Int32).toInt64 &&& 63)))))))]) rfl rfl; exact hnd) ?_)
    refine jm_goto (tgt := 48) X d_C_add_33 (by decide) ?_
    refine jm_lvs [1, 2, 3] (lv1 := [(0, .ref a), (1, .int fi), (2, .int nu)]) rfl ?_
    exact J48_2 _ (by first | (simp only [if_pos c1, reduceIte]; done) | (with_reducible rfl))
def f_C_daysOf (le : Int32) (fw : Int32) (dr : Int32) (vl : Int32) (nn : Int32) (st : Nat → Int64) : Int64 :=
  let u141 : Int64 := f_C_bitOf ((1 + (f_Math_floorMod (vl - fw) 7)) + (7 * (nn - 1))) le
  let u125 : Int64 := f_C_bitOf ((1 + (f_Math_floorMod (vl - fw) 7)) + (((le - (1 + (f_Math_floorMod (vl - fw) 7))) / 7) * 7)) le
  if dr = 0 then ((st (3 : Int32).toNatClampNeg) &&& (f_C_bitsUpTo le)) else (if dr = 1 then ((f_C_weekdaysFrom fw dr vl nn st) &&& (f_C_bitsUpTo le)) else (if dr = 2 then (f_C_bitOf (le - nn) le) else (if dr = 3 then (f_C_workdayNearest le le fw) else (if dr = 4 then (f_C_workdayNearest vl le fw) else (if dr = 5 then u125 else u141)))))
set_option maxRecDepth 20000 in
set_option maxHeartbeats 4000000 in
theorem k_C_daysOf {l : Launch} {S : State} {D : va_G} {dA : Nat → ClassId} (E : jm_en S D jm_cl (jm_ty dA) jm_G) (a : Nat) (le : Int32) (fw : Int32) (sq : Nat) (dr : Int32) (vl : Int32) (nn : Int32) (st : Nat → Int64) (h : jm_H) (h_a : h a = some (.inr (4, [.ref sq, .int dr, .int vl, .int nn]))) (h_sq : h sq = some (.inl (dA 3, 12, .inr (.inl st)))) (hnd : ([a, sq] : List Nat).Nodup)  : jm_M l S D jm_cl y_C_daysOf (Cond.code y_C_daysOf b_C_daysOf 4 (some FieldType.long)) { frames := 1, cells := 0, slots := 0, locals := 23 } [.ref a, .int le, .int fw] h (jm_R (some (.long (f_C_daysOf le fw dr vl nn st))) h) 0 0 := by
  refine jm_ofW E (by decide) (Nat.le_of_ble_eq_true rfl) (fun p e s m below meth c X hr hk hmn hout hadm => ?_)
  have X : jm_cx p s m ([.ref a, .int le, .int fw] : List Value).toArray c S D jm_cl (jm_ty dA) jm_G b_C_daysOf 4 "JobHouse$Cron" := X
  have hL : ∀ zz ∈ ([(a, .inr (4, [.ref sq, .int dr, .int vl, .int nn])), (sq, .inl (dA 3, 12, .inr (.inl st)))] : List (Nat × va_E)), h zz.1 = some zz.2 := List.forall_mem_cons.mpr ⟨h_a, List.forall_mem_cons.mpr ⟨h_sq, fun _ hz => absurd hz List.not_mem_nil⟩⟩
  refine jm_hq (jm_us_id hL).symm ?_
  show jm_W p l e ({ frames := 1, cells := 0, slots := 0, locals := 23 }) s m ([.ref a, .int le, .int fw] : List Value).toArray below meth c S D jm_cl (jm_Q S D jm_cl below s (jm_R (some (.long (f_C_daysOf le fw dr vl nn st))) h) 0 0) 4 0 [(0, .ref a), (1, .int le), (2, .int fw)] [] (jm_us h [(a, .inr (4, [.ref sq, .int dr, .int vl, .int nn])), (sq, .inl (dA 3, 12, .inr (.inl st)))]) 0 0
  refine jm_aload_n X d_C_daysOf_0 rfl 0 rfl ?_
  refine jm_get X d_C_daysOf_1 fs_C_15 (by refine jm_us_get ?_ 0 rfl; exact hnd) rfl ?_
  by_cases c1 : dr = 0
  · refine jm_tabEq (tgt := 40) (off := 36) X d_C_daysOf_4 c1 (by decide) (by decide) (by decide) (by decide) ?_
    refine jm_aload_n X d_C_daysOf_40 rfl 0 rfl ?_
    refine jm_get X d_C_daysOf_41 fs_C_11 (by refine jm_us_get ?_ 0 rfl; exact hnd) rfl ?_
    refine jm_iconst (v := 3) X d_C_daysOf_44 (by decide) ?_
    refine jm_lald (t0 := 3) X d_C_daysOf_45 rfl (by refine jm_us_get ?_ 1 rfl; exact hnd) (by unfold vp_in; decide) ?_
    refine jm_iload_n X d_C_daysOf_46 rfl 1 rfl ?_
    refine jm_callS (rest := [.long (st (3 : Int32).toNatClampNeg)]) X d_C_daysOf_47 (k_C_bitsUpTo E le (jm_us h [(a, .inr (4, [.ref sq, .int dr, .int vl, .int nn])), (sq, .inl (dA 3, 12, .inr (.inl st)))])  ) ci_C_bitsUpTo (Or.inl (jm_g4 39 rfl rfl)) st_C_bitsUpTo rfl (Nat.le_of_ble_eq_true rfl) ⟨(Nat.le_of_ble_eq_true rfl), (Nat.le_of_ble_eq_true rfl)⟩ ⟨rfl, rfl⟩ ⟨(Nat.le_of_ble_eq_true rfl), (Nat.le_of_ble_eq_true rfl)⟩ (jm_k1 ?_)
    refine jm_land X d_C_daysOf_50 ?_
    exact jm_lret X hr hk d_C_daysOf_51 ⟨(by show Outcome.returned _ = Outcome.returned _; unfold f_C_daysOf; first | (simp only [if_pos c1, reduceIte]; done) | (simp only [if_pos c1, reduceIte]; rfl) | rfl), (jm_us_id hL)⟩
  · skip
    by_cases c2 : dr = 1
    · refine jm_tabEq (tgt := 52) (off := 48) X d_C_daysOf_4 c2 (by decide) (by decide) (by decide) (by decide) ?_
      refine jm_aload_n X d_C_daysOf_52 rfl 0 rfl ?_
      refine jm_iload_n X d_C_daysOf_53 rfl 2 rfl ?_
      refine jm_callV (rest := []) X d_C_daysOf_54 (k_C_weekdaysFrom E a fw sq dr vl nn st (jm_us h [(a, .inr (4, [.ref sq, .int dr, .int vl, .int nn])), (sq, .inl (dA 3, 12, .inr (.inl st)))]) (by refine jm_us_get ?_ 0 rfl; exact hnd) (by refine jm_us_get ?_ 1 rfl; exact hnd) (by exact jm_pick hnd [0, 1] (by decide) rfl) ) ci_C_weekdaysFrom (Or.inl (jm_g4 42 rfl rfl)) im_C_weekdaysFrom se_C_weekdaysFrom (by refine jm_us_get ?_ 0 rfl; exact hnd) rfl rfl (Nat.le_of_ble_eq_true rfl) ⟨(Nat.le_of_ble_eq_true rfl), (Nat.le_of_ble_eq_true rfl)⟩ ⟨rfl, rfl⟩ ⟨(Nat.le_of_ble_eq_true rfl), (Nat.le_of_ble_eq_true rfl)⟩ (jm_k1 ?_)
      refine jm_iload_n X d_C_daysOf_57 rfl 1 rfl ?_
      refine jm_callS (rest := [.long (f_C_weekdaysFrom fw dr vl nn st)]) X d_C_daysOf_58 (k_C_bitsUpTo E le (jm_us h [(a, .inr (4, [.ref sq, .int dr, .int vl, .int nn])), (sq, .inl (dA 3, 12, .inr (.inl st)))])  ) ci_C_bitsUpTo (Or.inl (jm_g4 39 rfl rfl)) st_C_bitsUpTo rfl (Nat.le_of_ble_eq_true rfl) ⟨(Nat.le_of_ble_eq_true rfl), (Nat.le_of_ble_eq_true rfl)⟩ ⟨rfl, rfl⟩ ⟨(Nat.le_of_ble_eq_true rfl), (Nat.le_of_ble_eq_true rfl)⟩ (jm_k1 ?_)
      refine jm_land X d_C_daysOf_61 ?_
      exact jm_lret X hr hk d_C_daysOf_62 ⟨(by show Outcome.returned _ = Outcome.returned _; unfold f_C_daysOf; first | (simp only [if_neg c1, if_pos c2, reduceIte]; done) | (simp only [if_neg c1, if_pos c2, reduceIte]; rfl) | rfl), (jm_us_id hL)⟩
    · skip
      by_cases c3 : dr = 2
      · refine jm_tabEq (tgt := 63) (off := 59) X d_C_daysOf_4 c3 (by decide) (by decide) (by decide) (by decide) ?_
        refine jm_iload_n X d_C_daysOf_63 rfl 1 rfl ?_
        refine jm_aload_n X d_C_daysOf_64 rfl 0 rfl ?_
        refine jm_get X d_C_daysOf_65 fs_C_26 (by refine jm_us_get ?_ 0 rfl; exact hnd) rfl ?_
        refine jm_isub X d_C_daysOf_68 ?_
        refine jm_iload_n X d_C_daysOf_69 rfl 1 rfl ?_
        refine jm_callS (rest := []) X d_C_daysOf_70 (k_C_bitOf E (le - nn) le (jm_us h [(a, .inr (4, [.ref sq, .int dr, .int vl, .int nn])), (sq, .inl (dA 3, 12, .inr (.inl st)))])  ) ci_C_bitOf (Or.inl (jm_g4 47 rfl rfl)) st_C_bitOf rfl (Nat.le_of_ble_eq_true rfl) ⟨(Nat.le_of_ble_eq_true rfl), (Nat.le_of_ble_eq_true rfl)⟩ ⟨rfl, rfl⟩ ⟨(Nat.le_of_ble_eq_true rfl), (Nat.le_of_ble_eq_true rfl)⟩ (jm_k1 ?_)
        exact jm_lret X hr hk d_C_daysOf_73 ⟨(by show Outcome.returned _ = Outcome.returned _; unfold f_C_daysOf; first | (simp only [if_neg c1, if_neg c2, if_pos c3, reduceIte]; done) | (simp only [if_neg c1, if_neg c2, if_pos c3, reduceIte]; rfl) | rfl), (jm_us_id hL)⟩
      · skip
        by_cases c4 : dr = 3
        · refine jm_tabEq (tgt := 74) (off := 70) X d_C_daysOf_4 c4 (by decide) (by decide) (by decide) (by decide) ?_
          refine jm_iload_n X d_C_daysOf_74 rfl 1 rfl ?_
          refine jm_iload_n X d_C_daysOf_75 rfl 1 rfl ?_
          refine jm_iload_n X d_C_daysOf_76 rfl 2 rfl ?_
          refine jm_callS (rest := []) X d_C_daysOf_77 (k_C_workdayNearest E le le fw (jm_us h [(a, .inr (4, [.ref sq, .int dr, .int vl, .int nn])), (sq, .inl (dA 3, 12, .inr (.inl st)))])  ) ci_C_workdayNearest (Or.inl (jm_g4 50 rfl rfl)) st_C_workdayNearest rfl (Nat.le_of_ble_eq_true rfl) ⟨(Nat.le_of_ble_eq_true rfl), (Nat.le_of_ble_eq_true rfl)⟩ ⟨rfl, rfl⟩ ⟨(Nat.le_of_ble_eq_true rfl), (Nat.le_of_ble_eq_true rfl)⟩ (jm_k1 ?_)
          exact jm_lret X hr hk d_C_daysOf_80 ⟨(by show Outcome.returned _ = Outcome.returned _; unfold f_C_daysOf; first | (simp only [if_neg c1, if_neg c2, if_neg c3, if_pos c4, reduceIte]; done) | (simp only [if_neg c1, if_neg c2, if_neg c3, if_pos c4, reduceIte]; rfl) | rfl), (jm_us_id hL)⟩
        · skip
          by_cases c5 : dr = 4
          · refine jm_tabEq (tgt := 81) (off := 77) X d_C_daysOf_4 c5 (by decide) (by decide) (by decide) (by decide) ?_
            refine jm_aload_n X d_C_daysOf_81 rfl 0 rfl ?_
            refine jm_get X d_C_daysOf_82 fs_C_37 (by refine jm_us_get ?_ 0 rfl; exact hnd) rfl ?_
            refine jm_iload_n X d_C_daysOf_85 rfl 1 rfl ?_
            refine jm_iload_n X d_C_daysOf_86 rfl 2 rfl ?_
            refine jm_callS (rest := []) X d_C_daysOf_87 (k_C_workdayNearest E vl le fw (jm_us h [(a, .inr (4, [.ref sq, .int dr, .int vl, .int nn])), (sq, .inl (dA 3, 12, .inr (.inl st)))])  ) ci_C_workdayNearest (Or.inl (jm_g4 50 rfl rfl)) st_C_workdayNearest rfl (Nat.le_of_ble_eq_true rfl) ⟨(Nat.le_of_ble_eq_true rfl), (Nat.le_of_ble_eq_true rfl)⟩ ⟨rfl, rfl⟩ ⟨(Nat.le_of_ble_eq_true rfl), (Nat.le_of_ble_eq_true rfl)⟩ (jm_k1 ?_)
            exact jm_lret X hr hk d_C_daysOf_90 ⟨(by show Outcome.returned _ = Outcome.returned _; unfold f_C_daysOf; first | (simp only [if_neg c1, if_neg c2, if_neg c3, if_neg c4, if_pos c5, reduceIte]; done) | (simp only [if_neg c1, if_neg c2, if_neg c3, if_neg c4, if_pos c5, reduceIte]; rfl) | rfl), (jm_us_id hL)⟩
          · skip
            refine jm_tabOut (tgt := 91) X d_C_daysOf_4 (by have q0 := lv_neT c1 (a := 0) rfl; have q1 := lv_neT c2 (a := 1) rfl; have q2 := lv_neT c3 (a := 2) rfl; have q3 := lv_neT c4 (a := 3) rfl; have q4 := lv_neT c5 (a := 4) rfl; omega) (by decide) ?_
            refine jm_iconst (v := 1) X d_C_daysOf_91 (by decide) ?_
            refine jm_aload_n X d_C_daysOf_92 rfl 0 rfl ?_
            refine jm_get X d_C_daysOf_93 fs_C_37 (by refine jm_us_get ?_ 0 rfl; exact hnd) rfl ?_
            refine jm_iload_n X d_C_daysOf_96 rfl 2 rfl ?_
            refine jm_isub X d_C_daysOf_97 ?_
            refine jm_bipush (v := 7) X d_C_daysOf_98 (by decide) ?_
            refine jm_callS (rest := [.int 1]) X d_C_daysOf_100 (k_Math_floorMod E (vl - fw) 7 (jm_us h [(a, .inr (4, [.ref sq, .int dr, .int vl, .int nn])), (sq, .inl (dA 3, 12, .inr (.inl st)))])  (by first | with_reducible assumption | decide +kernel)) ci_Math_floorMod (Or.inl (jm_g4 53 rfl rfl)) st_Math_floorMod rfl (Nat.le_of_ble_eq_true rfl) ⟨(Nat.le_of_ble_eq_true rfl), (Nat.le_of_ble_eq_true rfl)⟩ ⟨rfl, rfl⟩ ⟨(Nat.le_of_ble_eq_true rfl), (Nat.le_of_ble_eq_true rfl)⟩ (jm_k1 ?_)
            refine jm_iadd X d_C_daysOf_103 ?_
            refine jm_istore_n X d_C_daysOf_104 rfl (by decide) (lv1 := [(3, .int (1 + (f_Math_floorMod (vl - fw) 7))), (0, .ref a), (1, .int le), (2, .int fw)]) rfl ?_
            refine jm_aload_n X d_C_daysOf_105 rfl 1 rfl ?_
            refine jm_get X d_C_daysOf_106 fs_C_15 (by refine jm_us_get ?_ 0 rfl; exact hnd) rfl ?_
            refine jm_iconst (v := 5) X d_C_daysOf_109 (by decide) ?_
            refine jm_icmp_ne (tgt := 129) X d_C_daysOf_110 (by decide) (fun c6 => ?_) (fun c6 => ?_)
            · refine jm_iload_n X d_C_daysOf_129 rfl 0 rfl ?_
              refine jm_bipush (v := 7) X d_C_daysOf_130 (by decide) ?_
              refine jm_aload_n X d_C_daysOf_132 rfl 1 rfl ?_
              refine jm_get X d_C_daysOf_133 fs_C_26 (by refine jm_us_get ?_ 0 rfl; exact hnd) rfl ?_
              refine jm_iconst (v := 1) X d_C_daysOf_136 (by decide) ?_
              refine jm_isub X d_C_daysOf_137 ?_
              refine jm_imul X d_C_daysOf_138 ?_
              refine jm_iadd X d_C_daysOf_139 ?_
              refine jm_iload_n X d_C_daysOf_140 rfl 2 rfl ?_
              refine jm_callS (rest := []) X d_C_daysOf_141 (k_C_bitOf E ((1 + (f_Math_floorMod (vl - fw) 7)) + (7 * (nn - 1))) le (jm_us h [(a, .inr (4, [.ref sq, .int dr, .int vl, .int nn])), (sq, .inl (dA 3, 12, .inr (.inl st)))])  ) ci_C_bitOf (Or.inl (jm_g4 47 rfl rfl)) st_C_bitOf rfl (Nat.le_of_ble_eq_true rfl) ⟨(Nat.le_of_ble_eq_true rfl), (Nat.le_of_ble_eq_true rfl)⟩ ⟨rfl, rfl⟩ ⟨(Nat.le_of_ble_eq_true rfl), (Nat.le_of_ble_eq_true rfl)⟩ (jm_k1 ?_)
              obtain ⟨u141, eu141⟩ : ∃ z_ : Int64, z_ = (f_C_bitOf ((1 + (f_Math_floorMod (vl - fw) 7)) + (7 * (nn - 1))) le) := ⟨_, rfl⟩
              rw [← eu141]
              exact jm_lret X hr hk d_C_daysOf_144 ⟨(by show Outcome.returned _ = Outcome.returned _; unfold f_C_daysOf; subst eu141; first | (simp only [if_neg c1, if_neg c2, if_neg c3, if_neg c4, if_neg c5, if_neg c6, reduceIte]; done) | (simp only [if_neg c1, if_neg c2, if_neg c3, if_neg c4, if_neg c5, if_neg c6, reduceIte]; rfl) | rfl), (jm_us_id hL)⟩
            · refine jm_iload_n X d_C_daysOf_113 rfl 0 rfl ?_
              refine jm_iload_n X d_C_daysOf_114 rfl 2 rfl ?_
              refine jm_iload_n X d_C_daysOf_115 rfl 0 rfl ?_
              refine jm_isub X d_C_daysOf_116 ?_
              refine jm_bipush (v := 7) X d_C_daysOf_117 (by decide) ?_
              refine jm_idiv X d_C_daysOf_119 (by decide +kernel) ?_
              refine jm_bipush (v := 7) X d_C_daysOf_120 (by decide) ?_
              refine jm_imul X d_C_daysOf_122 ?_
              refine jm_iadd X d_C_daysOf_123 ?_
              refine jm_iload_n X d_C_daysOf_124 rfl 2 rfl ?_
              refine jm_callS (rest := []) X d_C_daysOf_125 (k_C_bitOf E ((1 + (f_Math_floorMod (vl - fw) 7)) + (((le - (1 + (f_Math_floorMod (vl - fw) 7))) / 7) * 7)) le (jm_us h [(a, .inr (4, [.ref sq, .int dr, .int vl, .int nn])), (sq, .inl (dA 3, 12, .inr (.inl st)))])  ) ci_C_bitOf (Or.inl (jm_g4 47 rfl rfl)) st_C_bitOf rfl (Nat.le_of_ble_eq_true rfl) ⟨(Nat.le_of_ble_eq_true rfl), (Nat.le_of_ble_eq_true rfl)⟩ ⟨rfl, rfl⟩ ⟨(Nat.le_of_ble_eq_true rfl), (Nat.le_of_ble_eq_true rfl)⟩ (jm_k1 ?_)
              obtain ⟨u125, eu125⟩ : ∃ z_ : Int64, z_ = (f_C_bitOf ((1 + (f_Math_floorMod (vl - fw) 7)) + (((le - (1 + (f_Math_floorMod (vl - fw) 7))) / 7) * 7)) le) := ⟨_, rfl⟩
              rw [← eu125]
              exact jm_lret X hr hk d_C_daysOf_128 ⟨(by show Outcome.returned _ = Outcome.returned _; unfold f_C_daysOf; subst eu125; first | (simp only [if_neg c1, if_neg c2, if_neg c3, if_neg c4, if_neg c5, if_pos c6, reduceIte]; done) | (simp only [if_neg c1, if_neg c2, if_neg c3, if_neg c4, if_neg c5, if_pos c6, reduceIte]; rfl) | rfl), (jm_us_id hL)⟩
def f_C_timeFrom (ti : Int32) (dr : Int32) (vl : Int32) (nn : Int32) (st : Nat → Int64) : Int32 :=
  let u11 : Int32 := f_C_lowestBit (st (2 : Int32).toNatClampNeg) (ti / 3600)
  let v41 : Int32 := if u11 = (ti / 3600) then ((ti / 60) - (ti / 60) / 60 * 60) else 0
  let u41 : Int32 := f_C_lowestBit (st (1 : Int32).toNatClampNeg) v41
  let v70 : Int32 := if u11 = (ti / 3600) then (if u41 = ((ti / 60) - (ti / 60) / 60 * 60) then 1 else 0) else 0
  let v91 : Int32 := if v70 = 0 then 0 else (ti - ti / 60 * 60)
  let u91 : Int32 := f_C_lowestBit (st (0 : Int32).toNatClampNeg) v91
  let v126 : Int32 := if 0 ≤ u91 then u41 else (f_C_lowestBit (st (1 : Int32).toNatClampNeg) (u41 + 1))
  let v126_1 : Int32 := if 0 ≤ u91 then u91 else (f_C_lowestBit (st (0 : Int32).toNatClampNeg) 0)
  let v158 : Int32 := if 0 ≤ v126 then u11 else (f_C_lowestBit (st (2 : Int32).toNatClampNeg) ((ti / 3600) + 1))
  let v158_1 : Int32 := if 0 ≤ v126 then v126 else (f_C_lowestBit (st (1 : Int32).toNatClampNeg) 0)
  let v179 : Int32 := if 0 ≤ v158 then (((v158 * 3600) + (v158_1 * 60)) + v126_1) else (-1)
  v179
set_option maxRecDepth 20000 in
set_option maxHeartbeats 4000000 in
theorem k_C_timeFrom {l : Launch} {S : State} {D : va_G} {dA : Nat → ClassId} (E : jm_en S D jm_cl (jm_ty dA) jm_G) (a : Nat) (ti : Int32) (sq : Nat) (dr : Int32) (vl : Int32) (nn : Int32) (st : Nat → Int64) (h : jm_H) (h_a : h a = some (.inr (4, [.ref sq, .int dr, .int vl, .int nn]))) (h_sq : h sq = some (.inl (dA 3, 12, .inr (.inl st)))) (hnd : ([a, sq] : List Nat).Nodup)  : jm_M l S D jm_cl y_C_timeFrom (Cond.code y_C_timeFrom b_C_timeFrom 6 (some FieldType.int)) { frames := 2, cells := 0, slots := 0, locals := 45 } [.ref a, .int ti] h (jm_R (some (.int (f_C_timeFrom ti dr vl nn st))) h) 0 0 := by
  refine jm_ofW E (by decide) (Nat.le_of_ble_eq_true rfl) (fun p e s m below meth c X hr hk hmn hout hadm => ?_)
  have X : jm_cx p s m ([.ref a, .int ti] : List Value).toArray c S D jm_cl (jm_ty dA) jm_G b_C_timeFrom 6 "JobHouse$Cron" := X
  have hL : ∀ zz ∈ ([(a, .inr (4, [.ref sq, .int dr, .int vl, .int nn])), (sq, .inl (dA 3, 12, .inr (.inl st)))] : List (Nat × va_E)), h zz.1 = some zz.2 := List.forall_mem_cons.mpr ⟨h_a, List.forall_mem_cons.mpr ⟨h_sq, fun _ hz => absurd hz List.not_mem_nil⟩⟩
  refine jm_hq (jm_us_id hL).symm ?_
  show jm_W p l e ({ frames := 2, cells := 0, slots := 0, locals := 45 }) s m ([.ref a, .int ti] : List Value).toArray below meth c S D jm_cl (jm_Q S D jm_cl below s (jm_R (some (.int (f_C_timeFrom ti dr vl nn st))) h) 0 0) 6 0 [(0, .ref a), (1, .int ti)] [] (jm_us h [(a, .inr (4, [.ref sq, .int dr, .int vl, .int nn])), (sq, .inl (dA 3, 12, .inr (.inl st)))]) 0 0
  refine jm_aload_n X d_C_timeFrom_0 rfl 0 rfl ?_
  refine jm_get X d_C_timeFrom_1 fs_C_11 (by refine jm_us_get ?_ 0 rfl; exact hnd) rfl ?_
  refine jm_iconst (v := 2) X d_C_timeFrom_4 (by decide) ?_
  refine jm_lald (t0 := 3) X d_C_timeFrom_5 rfl (by refine jm_us_get ?_ 1 rfl; exact hnd) (by unfold vp_in; decide) ?_
  refine jm_iload_n X d_C_timeFrom_6 rfl 1 rfl ?_
  refine jm_sipush (v := 3600) X d_C_timeFrom_7 (by decide) ?_
  refine jm_idiv X d_C_timeFrom_10 (by decide +kernel) ?_
  refine jm_callS (rest := []) X d_C_timeFrom_11 (k_C_lowestBit E (st (2 : Int32).toNatClampNeg) (ti / 3600) (jm_us h [(a, .inr (4, [.ref sq, .int dr, .int vl, .int nn])), (sq, .inl (dA 3, 12, .inr (.inl st)))])  ) ci_C_lowestBit (Or.inl (jm_g4 69 rfl rfl)) st_C_lowestBit rfl (Nat.le_of_ble_eq_true rfl) ⟨(Nat.le_of_ble_eq_true rfl), (Nat.le_of_ble_eq_true rfl)⟩ ⟨rfl, rfl⟩ ⟨(Nat.le_of_ble_eq_true rfl), (Nat.le_of_ble_eq_true rfl)⟩ (jm_k1 ?_)
  obtain ⟨u11, eu11⟩ : ∃ z_ : Int32, z_ = (f_C_lowestBit (st (2 : Int32).toNatClampNeg) (ti / 3600)) := ⟨_, rfl⟩
  rw [← eu11]
  refine jm_istore_n X d_C_timeFrom_14 rfl (by decide) (lv1 := [(2, .int u11), (0, .ref a), (1, .int ti)]) rfl ?_
  refine jm_aload_n X d_C_timeFrom_15 rfl 1 rfl ?_
  refine jm_get X d_C_timeFrom_16 fs_C_11 (by refine jm_us_get ?_ 0 rfl; exact hnd) rfl ?_
  refine jm_iconst (v := 1) X d_C_timeFrom_19 (by decide) ?_
  refine jm_lald (t0 := 3) X d_C_timeFrom_20 rfl (by refine jm_us_get ?_ 1 rfl; exact hnd) (by unfold vp_in; decide) ?_
  refine jm_iload_n X d_C_timeFrom_21 rfl 0 rfl ?_
  refine jm_iload_n X d_C_timeFrom_22 rfl 2 rfl ?_
  refine jm_sipush (v := 3600) X d_C_timeFrom_23 (by decide) ?_
  refine jm_idiv X d_C_timeFrom_26 (by decide +kernel) ?_
  have J41_2 : ∀ (v41 : Int32), v41 = (if u11 = (ti / 3600) then ((ti / 60) - (ti / 60) / 60 * 60) else 0 : Int32) → jm_W p l e ({ frames := 2, cells := 0, slots := 0, locals := 45 }) s m ([.ref a, .int ti] : List Value).toArray below meth c S D jm_cl (jm_Q S D jm_cl below s (jm_R (some (.int (f_C_timeFrom ti dr vl nn st))) h) 0 0) 6 41 [(2, .int u11), (0, .ref a), (1, .int ti)] [.int v41, .long (st (1 : Int32).toNatClampNeg)] (jm_us h [(a, .inr (4, [.ref sq, .int dr, .int vl, .int nn])), (sq, .inl (dA 3, 12, .inr (.inl st)))]) 0 0 := by
    intro v41 ev41
    refine jm_callS (rest := []) X d_C_timeFrom_41 (k_C_lowestBit E (st (1 : Int32).toNatClampNeg) v41 (jm_us h [(a, .inr (4, [.ref sq, .int dr, .int vl, .int nn])), (sq, .inl (dA 3, 12, .inr (.inl st)))])  ) ci_C_lowestBit (Or.inl (jm_g4 69 rfl rfl)) st_C_lowestBit rfl (Nat.le_of_ble_eq_true rfl) ⟨(Nat.le_of_ble_eq_true rfl), (Nat.le_of_ble_eq_true rfl)⟩ ⟨rfl, rfl⟩ ⟨(Nat.le_of_ble_eq_true rfl), (Nat.le_of_ble_eq_true rfl)⟩ (jm_k1 ?_)
    obtain ⟨u41, eu41⟩ : ∃ z_ : Int32, z_ = (f_C_lowestBit (st (1 : Int32).toNatClampNeg) v41) := ⟨_, rfl⟩
    rw [← eu41]
    refine jm_istore_n X d_C_timeFrom_44 rfl (by decide) (lv1 := [(3, .int u41), (2, .int u11), (0, .ref a), (1, .int ti)]) rfl ?_
    refine jm_iload_n X d_C_timeFrom_45 rfl 1 rfl ?_
    refine jm_iload_n X d_C_timeFrom_46 rfl 3 rfl ?_
    refine jm_sipush (v := 3600) X d_C_timeFrom_47 (by decide) ?_
    refine jm_idiv X d_C_timeFrom_50 (by decide +kernel) ?_
    have J70_4 : ∀ (v70 : Int32), v70 = (if u11 = (ti / 3600) then (if u41 = ((ti / 60) - (ti / 60) / 60 * 60) then 1 else 0) else 0 : Int32) → jm_W p l e ({ frames := 2, cells := 0, slots := 0, locals := 45 }) s m ([.ref a, .int ti] : List Value).toArray below meth c S D jm_cl (jm_Q S D jm_cl below s (jm_R (some (.int (f_C_timeFrom ti dr vl nn st))) h) 0 0) 6 70 [(3, .int u41), (2, .int u11), (0, .ref a), (1, .int ti)] [.int v70] (jm_us h [(a, .inr (4, [.ref sq, .int dr, .int vl, .int nn])), (sq, .inl (dA 3, 12, .inr (.inl st)))]) 0 0 := by
      intro v70 ev70
      refine jm_istore X d_C_timeFrom_70 (by decide) (lv1 := [(4, .int v70), (3, .int u41), (2, .int u11), (0, .ref a), (1, .int ti)]) rfl ?_
      refine jm_aload_n X d_C_timeFrom_72 rfl 3 rfl ?_
      refine jm_get X d_C_timeFrom_73 fs_C_11 (by refine jm_us_get ?_ 0 rfl; exact hnd) rfl ?_
      refine jm_iconst (v := 0) X d_C_timeFrom_76 (by decide) ?_
      refine jm_lald (t0 := 3) X d_C_timeFrom_77 rfl (by refine jm_us_get ?_ 1 rfl; exact hnd) (by unfold vp_in; decide) ?_
      refine jm_iload X d_C_timeFrom_78 0 rfl ?_
      have J91_6 : ∀ (v91 : Int32), v91 = (if v70 = 0 then 0 else (ti - ti / 60 * 60) : Int32) → jm_W p l e ({ frames := 2, cells := 0, slots := 0, locals := 45 }) s m ([.ref a, .int ti] : List Value).toArray below meth c S D jm_cl (jm_Q S D jm_cl below s (jm_R (some (.int (f_C_timeFrom ti dr vl nn st))) h) 0 0) 6 91 [(4, .int v70), (3, .int u41), (2, .int u11), (0, .ref a), (1, .int ti)] [.int v91, .long (st (0 : Int32).toNatClampNeg)] (jm_us h [(a, .inr (4, [.ref sq, .int dr, .int vl, .int nn])), (sq, .inl (dA 3, 12, .inr (.inl st)))]) 0 0 := by
        intro v91 ev91
        refine jm_callS (rest := []) X d_C_timeFrom_91 (k_C_lowestBit E (st (0 : Int32).toNatClampNeg) v91 (jm_us h [(a, .inr (4, [.ref sq, .int dr, .int vl, .int nn])), (sq, .inl (dA 3, 12, .inr (.inl st)))])  ) ci_C_lowestBit (Or.inl (jm_g4 69 rfl rfl)) st_C_lowestBit rfl (Nat.le_of_ble_eq_true rfl) ⟨(Nat.le_of_ble_eq_true rfl), (Nat.le_of_ble_eq_true rfl)⟩ ⟨rfl, rfl⟩ ⟨(Nat.le_of_ble_eq_true rfl), (Nat.le_of_ble_eq_true rfl)⟩ (jm_k1 ?_)
        obtain ⟨u91, eu91⟩ : ∃ z_ : Int32, z_ = (f_C_lowestBit (st (0 : Int32).toNatClampNeg) v91) := ⟨_, rfl⟩
        rw [← eu91]
        refine jm_istore X d_C_timeFrom_94 (by decide) (lv1 := [(5, .int u91), (4, .int v70), (3, .int u41), (2, .int u11), (0, .ref a), (1, .int ti)]) rfl ?_
        refine jm_iload X d_C_timeFrom_96 0 rfl ?_
        have J126_8 : ∀ (v126 : Int32) (v126_1 : Int32), v126 = (if 0 ≤ u91 then u41 else (f_C_lowestBit (st (1 : Int32).toNatClampNeg) (u41 + 1)) : Int32) → v126_1 = (if 0 ≤ u91 then u91 else (f_C_lowestBit (st (0 : Int32).toNatClampNeg) 0) : Int32) → jm_W p l e ({ frames := 2, cells := 0, slots := 0, locals := 45 }) s m ([.ref a, .int ti] : List Value).toArray below meth c S D jm_cl (jm_Q S D jm_cl below s (jm_R (some (.int (f_C_timeFrom ti dr vl nn st))) h) 0 0) 6 126 [(0, .ref a), (1, .int ti), (2, .int u11), (3, .int v126), (4, .int v70), (5, .int v126_1)] [] (jm_us h [(a, .inr (4, [.ref sq, .int dr, .int vl, .int nn])), (sq, .inl (dA 3, 12, .inr (.inl st)))]) 0 0 := by
          intro v126 v126_1 ev126 ev126_1
          refine jm_iload_n X d_C_timeFrom_126 rfl 3 rfl ?_
          have J158_10 : ∀ (v158 : Int32) (v158_1 : Int32), v158 = (if 0 ≤ v126 then u11 else (f_C_lowestBit (st (2 : Int32).toNatClampNeg) ((ti / 3600) + 1)) : Int32) → v158_1 = (if 0 ≤ v126 then v126 else (f_C_lowestBit (st (1 : Int32).toNatClampNeg) 0) : Int32) → jm_W p l e ({ frames := 2, cells := 0, slots := 0, locals := 45 }) s m ([.ref a, .int ti] : List Value).toArray below meth c S D jm_cl (jm_Q S D jm_cl below s (jm_R (some (.int (f_C_timeFrom ti dr vl nn st))) h) 0 0) 6 158 [(0, .ref a), (1, .int ti), (2, .int v158), (3, .int v158_1), (4, .int v70), (5, .int v126_1)] [] (jm_us h [(a, .inr (4, [.ref sq, .int dr, .int vl, .int nn])), (sq, .inl (dA 3, 12, .inr (.inl st)))]) 0 0 := by
            intro v158 v158_1 ev158 ev158_1
            refine jm_iload_n X d_C_timeFrom_158 rfl 2 rfl ?_
            have J179_12 : ∀ (v179 : Int32), v179 = (if 0 ≤ v158 then (((v158 * 3600) + (v158_1 * 60)) + v126_1) else (-1) : Int32) → jm_W p l e ({ frames := 2, cells := 0, slots := 0, locals := 45 }) s m ([.ref a, .int ti] : List Value).toArray below meth c S D jm_cl (jm_Q S D jm_cl below s (jm_R (some (.int (f_C_timeFrom ti dr vl nn st))) h) 0 0) 6 179 [(0, .ref a), (1, .int ti), (2, .int v158), (3, .int v158_1), (4, .int v70), (5, .int v126_1)] [.int v179] (jm_us h [(a, .inr (4, [.ref sq, .int dr, .int vl, .int nn])), (sq, .inl (dA 3, 12, .inr (.inl st)))]) 0 0 := by
              intro v179 ev179
              exact jm_iret X hr hk d_C_timeFrom_179 ⟨(by show Outcome.returned _ = Outcome.returned _; unfold f_C_timeFrom; subst ev179; subst ev158_1; subst ev158; subst ev126_1; subst ev126; subst eu91; subst ev91; subst ev70; subst eu41; subst ev41; subst eu11; rfl), (jm_us_id hL)⟩
            refine jm_if_ge (tgt := 166) X d_C_timeFrom_159 (by decide) (fun c11 => ?_) (fun c11 => ?_)
            · refine jm_iload_n X d_C_timeFrom_166 rfl 2 rfl ?_
              refine jm_sipush (v := 3600) X d_C_timeFrom_167 (by decide) ?_
              refine jm_imul X d_C_timeFrom_170 ?_
              refine jm_iload_n X d_C_timeFrom_171 rfl 3 rfl ?_
              refine jm_bipush (v := 60) X d_C_timeFrom_172 (by decide) ?_
              refine jm_imul X d_C_timeFrom_174 ?_
              refine jm_iadd X d_C_timeFrom_175 ?_
              refine jm_iload X d_C_timeFrom_176 5 rfl ?_
              refine jm_iadd X d_C_timeFrom_178 ?_
              exact J179_12 _ (by first | (simp only [if_pos c11, reduceIte]; done) | (with_reducible rfl))
            · refine jm_iconst (v := (-1)) X d_C_timeFrom_162 (by decide) ?_
              refine jm_goto (tgt := 179) X d_C_timeFrom_163 (by decide) ?_
              exact J179_12 _ (by first | (simp only [if_neg c11, reduceIte]; done) | (with_reducible rfl))
          refine jm_if_ge (tgt := 158) X d_C_timeFrom_127 (by decide) (fun c9 => ?_) (fun c9 => ?_)
          · refine jm_lvs [0, 1, 2, 3, 4, 5] (lv1 := [(0, .ref a), (1, .int ti), (2, .int u11), (3, .int v126), (4, .int v70), (5, .int v126_1)]) rfl ?_
            exact J158_10 _ _ (by first | (simp only [if_pos c9, reduceIte]; done) | (with_reducible rfl)) (by first | (simp only [if_pos c9, reduceIte]; done) | (with_reducible rfl))
          · refine jm_aload_n X d_C_timeFrom_130 rfl 0 rfl ?_
            refine jm_get X d_C_timeFrom_131 fs_C_11 (by refine jm_us_get ?_ 0 rfl; exact hnd) rfl ?_
            refine jm_iconst (v := 2) X d_C_timeFrom_134 (by decide) ?_
            refine jm_lald (t0 := 3) X d_C_timeFrom_135 rfl (by refine jm_us_get ?_ 1 rfl; exact hnd) (by unfold vp_in; decide) ?_
            refine jm_iload_n X d_C_timeFrom_136 rfl 1 rfl ?_
            refine jm_sipush (v := 3600) X d_C_timeFrom_137 (by decide) ?_
            refine jm_idiv X d_C_timeFrom_140 (by decide +kernel) ?_
            refine jm_iconst (v := 1) X d_C_timeFrom_141 (by decide) ?_
            refine jm_iadd X d_C_timeFrom_142 ?_
            refine jm_callS (rest := []) X d_C_timeFrom_143 (k_C_lowestBit E (st (2 : Int32).toNatClampNeg) ((ti / 3600) + 1) (jm_us h [(a, .inr (4, [.ref sq, .int dr, .int vl, .int nn])), (sq, .inl (dA 3, 12, .inr (.inl st)))])  ) ci_C_lowestBit (Or.inl (jm_g4 69 rfl rfl)) st_C_lowestBit rfl (Nat.le_of_ble_eq_true rfl) ⟨(Nat.le_of_ble_eq_true rfl), (Nat.le_of_ble_eq_true rfl)⟩ ⟨rfl, rfl⟩ ⟨(Nat.le_of_ble_eq_true rfl), (Nat.le_of_ble_eq_true rfl)⟩ (jm_k1 ?_)
            refine jm_istore_n X d_C_timeFrom_146 rfl (by decide) (lv1 := [(2, .int (f_C_lowestBit (st (2 : Int32).toNatClampNeg) ((ti / 3600) + 1))), (0, .ref a), (1, .int ti), (3, .int v126), (4, .int v70), (5, .int v126_1)]) rfl ?_
            refine jm_aload_n X d_C_timeFrom_147 rfl 1 rfl ?_
            refine jm_get X d_C_timeFrom_148 fs_C_11 (by refine jm_us_get ?_ 0 rfl; exact hnd) rfl ?_
            refine jm_iconst (v := 1) X d_C_timeFrom_151 (by decide) ?_
            refine jm_lald (t0 := 3) X d_C_timeFrom_152 rfl (by refine jm_us_get ?_ 1 rfl; exact hnd) (by unfold vp_in; decide) ?_
            refine jm_iconst (v := 0) X d_C_timeFrom_153 (by decide) ?_
            refine jm_callS (rest := []) X d_C_timeFrom_154 (k_C_lowestBit E (st (1 : Int32).toNatClampNeg) 0 (jm_us h [(a, .inr (4, [.ref sq, .int dr, .int vl, .int nn])), (sq, .inl (dA 3, 12, .inr (.inl st)))])  ) ci_C_lowestBit (Or.inl (jm_g4 69 rfl rfl)) st_C_lowestBit rfl (Nat.le_of_ble_eq_true rfl) ⟨(Nat.le_of_ble_eq_true rfl), (Nat.le_of_ble_eq_true rfl)⟩ ⟨rfl, rfl⟩ ⟨(Nat.le_of_ble_eq_true rfl), (Nat.le_of_ble_eq_true rfl)⟩ (jm_k1 ?_)
            refine jm_istore_n X d_C_timeFrom_157 rfl (by decide) (lv1 := [(3, .int (f_C_lowestBit (st (1 : Int32).toNatClampNeg) 0)), (2, .int (f_C_lowestBit (st (2 : Int32).toNatClampNeg) ((ti / 3600) + 1))), (0, .ref a), (1, .int ti), (4, .int v70), (5, .int v126_1)]) rfl ?_
            refine jm_lvs [2, 3, 1, 0, 4, 5] (lv1 := [(0, .ref a), (1, .int ti), (2, .int (f_C_lowestBit (st (2 : Int32).toNatClampNeg) ((ti / 3600) + 1))), (3, .int (f_C_lowestBit (st (1 : Int32).toNatClampNeg) 0)), (4, .int v70), (5, .int v126_1)]) rfl ?_
            exact J158_10 _ _ (by first | (simp only [if_neg c9, reduceIte]; done) | (with_reducible rfl)) (by first | (simp only [if_neg c9, reduceIte]; done) | (with_reducible rfl))
        refine jm_if_ge (tgt := 126) X d_C_timeFrom_98 (by decide) (fun c7 => ?_) (fun c7 => ?_)
        · refine jm_lvs [4, 5, 3, 2, 1, 0] (lv1 := [(0, .ref a), (1, .int ti), (2, .int u11), (3, .int u41), (4, .int v70), (5, .int u91)]) rfl ?_
          exact J126_8 _ _ (by first | (simp only [if_pos c7, reduceIte]; done) | (with_reducible rfl)) (by first | (simp only [if_pos c7, reduceIte]; done) | (with_reducible rfl))
        · refine jm_aload_n X d_C_timeFrom_101 rfl 4 rfl ?_
          refine jm_get X d_C_timeFrom_102 fs_C_11 (by refine jm_us_get ?_ 0 rfl; exact hnd) rfl ?_
          refine jm_iconst (v := 1) X d_C_timeFrom_105 (by decide) ?_
          refine jm_lald (t0 := 3) X d_C_timeFrom_106 rfl (by refine jm_us_get ?_ 1 rfl; exact hnd) (by unfold vp_in; decide) ?_
          refine jm_iload_n X d_C_timeFrom_107 rfl 2 rfl ?_
          refine jm_iconst (v := 1) X d_C_timeFrom_108 (by decide) ?_
          refine jm_iadd X d_C_timeFrom_109 ?_
          refine jm_callS (rest := []) X d_C_timeFrom_110 (k_C_lowestBit E (st (1 : Int32).toNatClampNeg) (u41 + 1) (jm_us h [(a, .inr (4, [.ref sq, .int dr, .int vl, .int nn])), (sq, .inl (dA 3, 12, .inr (.inl st)))])  ) ci_C_lowestBit (Or.inl (jm_g4 69 rfl rfl)) st_C_lowestBit rfl (Nat.le_of_ble_eq_true rfl) ⟨(Nat.le_of_ble_eq_true rfl), (Nat.le_of_ble_eq_true rfl)⟩ ⟨rfl, rfl⟩ ⟨(Nat.le_of_ble_eq_true rfl), (Nat.le_of_ble_eq_true rfl)⟩ (jm_k1 ?_)
          refine jm_istore_n X d_C_timeFrom_113 rfl (by decide) (lv1 := [(3, .int (f_C_lowestBit (st (1 : Int32).toNatClampNeg) (u41 + 1))), (5, .int u91), (4, .int v70), (2, .int u11), (0, .ref a), (1, .int ti)]) rfl ?_
          refine jm_aload_n X d_C_timeFrom_114 rfl 4 rfl ?_
          refine jm_get X d_C_timeFrom_115 fs_C_11 (by refine jm_us_get ?_ 0 rfl; exact hnd) rfl ?_
          refine jm_iconst (v := 0) X d_C_timeFrom_118 (by decide) ?_
          refine jm_lald (t0 := 3) X d_C_timeFrom_119 rfl (by refine jm_us_get ?_ 1 rfl; exact hnd) (by unfold vp_in; decide) ?_
          refine jm_iconst (v := 0) X d_C_timeFrom_120 (by decide) ?_
          refine jm_callS (rest := []) X d_C_timeFrom_121 (k_C_lowestBit E (st (0 : Int32).toNatClampNeg) 0 (jm_us h [(a, .inr (4, [.ref sq, .int dr, .int vl, .int nn])), (sq, .inl (dA 3, 12, .inr (.inl st)))])  ) ci_C_lowestBit (Or.inl (jm_g4 69 rfl rfl)) st_C_lowestBit rfl (Nat.le_of_ble_eq_true rfl) ⟨(Nat.le_of_ble_eq_true rfl), (Nat.le_of_ble_eq_true rfl)⟩ ⟨rfl, rfl⟩ ⟨(Nat.le_of_ble_eq_true rfl), (Nat.le_of_ble_eq_true rfl)⟩ (jm_k1 ?_)
          refine jm_istore X d_C_timeFrom_124 (by decide) (lv1 := [(5, .int (f_C_lowestBit (st (0 : Int32).toNatClampNeg) 0)), (3, .int (f_C_lowestBit (st (1 : Int32).toNatClampNeg) (u41 + 1))), (4, .int v70), (2, .int u11), (0, .ref a), (1, .int ti)]) rfl ?_
          refine jm_lvs [4, 5, 3, 1, 2, 0] (lv1 := [(0, .ref a), (1, .int ti), (2, .int u11), (3, .int (f_C_lowestBit (st (1 : Int32).toNatClampNeg) (u41 + 1))), (4, .int v70), (5, .int (f_C_lowestBit (st (0 : Int32).toNatClampNeg) 0))]) rfl ?_
          exact J126_8 _ _ (by first | (simp only [if_neg c7, reduceIte]; done) | (with_reducible rfl)) (by first | (simp only [if_neg c7, reduceIte]; done) | (with_reducible rfl))
      refine jm_if_eq (tgt := 90) X d_C_timeFrom_80 (by decide) (fun c5 => ?_) (fun c5 => ?_)
      · refine jm_iconst (v := 0) X d_C_timeFrom_90 (by decide) ?_
        exact J91_6 _ (by first | (simp only [if_pos c5, reduceIte]; done) | (with_reducible rfl))
      · refine jm_iload_n X d_C_timeFrom_83 rfl 4 rfl ?_
        refine jm_bipush (v := 60) X d_C_timeFrom_84 (by decide) ?_
        refine jm_irem X d_C_timeFrom_86 (by decide +kernel) ?_
        refine jm_goto (tgt := 91) X d_C_timeFrom_87 (by decide) ?_
        exact J91_6 _ (by first | (simp only [if_neg c5, reduceIte]; done) | (with_reducible rfl))
    refine jm_icmp_ne (tgt := 69) X d_C_timeFrom_51 (by decide) (fun c3 => ?_) (fun c3 => ?_)
    · refine jm_iconst (v := 0) X d_C_timeFrom_69 (by decide) ?_
      exact J70_4 _ (by first | (simp only [if_neg c3, reduceIte]; done) | (with_reducible rfl))
    · refine jm_iload_n X d_C_timeFrom_54 rfl 0 rfl ?_
      refine jm_iload_n X d_C_timeFrom_55 rfl 3 rfl ?_
      refine jm_bipush (v := 60) X d_C_timeFrom_56 (by decide) ?_
      refine jm_idiv X d_C_timeFrom_58 (by decide +kernel) ?_
      refine jm_bipush (v := 60) X d_C_timeFrom_59 (by decide) ?_
      refine jm_irem X d_C_timeFrom_61 (by decide +kernel) ?_
      refine jm_icmp_ne (tgt := 69) X d_C_timeFrom_62 (by decide) (fun c13 => ?_) (fun c13 => ?_)
      · refine jm_iconst (v := 0) X d_C_timeFrom_69 (by decide) ?_
        exact J70_4 _ (by first | (simp only [if_pos c3, if_neg c13, reduceIte]; done) | (with_reducible rfl))
      · refine jm_iconst (v := 1) X d_C_timeFrom_65 (by decide) ?_
        refine jm_goto (tgt := 70) X d_C_timeFrom_66 (by decide) ?_
        exact J70_4 _ (by first | (simp only [if_pos c3, if_pos c13, reduceIte]; done) | (with_reducible rfl))
  refine jm_icmp_ne (tgt := 40) X d_C_timeFrom_27 (by decide) (fun c1 => ?_) (fun c1 => ?_)
  · refine jm_iconst (v := 0) X d_C_timeFrom_40 (by decide) ?_
    exact J41_2 _ (by first | (simp only [if_neg c1, reduceIte]; done) | (with_reducible rfl))
  · refine jm_iload_n X d_C_timeFrom_30 rfl 2 rfl ?_
    refine jm_bipush (v := 60) X d_C_timeFrom_31 (by decide) ?_
    refine jm_idiv X d_C_timeFrom_33 (by decide +kernel) ?_
    refine jm_bipush (v := 60) X d_C_timeFrom_34 (by decide) ?_
    refine jm_irem X d_C_timeFrom_36 (by decide +kernel) ?_
    refine jm_goto (tgt := 41) X d_C_timeFrom_37 (by decide) ?_
    exact J41_2 _ (by first | (simp only [if_pos c1, reduceIte]; done) | (with_reducible rfl))
def f_C_timeUpTo (ti : Int32) (dr : Int32) (vl : Int32) (nn : Int32) (st : Nat → Int64) : Int32 :=
  let u11 : Int32 := f_C_highestBit (st (2 : Int32).toNatClampNeg) (ti / 3600)
  let v42 : Int32 := if u11 = (ti / 3600) then ((ti / 60) - (ti / 60) / 60 * 60) else 59
  let u42 : Int32 := f_C_highestBit (st (1 : Int32).toNatClampNeg) v42
  let v71 : Int32 := if u11 = (ti / 3600) then (if u42 = ((ti / 60) - (ti / 60) / 60 * 60) then 1 else 0) else 0
  let v93 : Int32 := if v71 = 0 then 59 else (ti - ti / 60 * 60)
  let u93 : Int32 := f_C_highestBit (st (0 : Int32).toNatClampNeg) v93
  let v129 : Int32 := if 0 ≤ u93 then u42 else (f_C_highestBit (st (1 : Int32).toNatClampNeg) (u42 - 1))
  let v129_1 : Int32 := if 0 ≤ u93 then u93 else (f_C_highestBit (st (0 : Int32).toNatClampNeg) 59)
  let v162 : Int32 := if 0 ≤ v129 then u11 else (f_C_highestBit (st (2 : Int32).toNatClampNeg) ((ti / 3600) - 1))
  let v162_1 : Int32 := if 0 ≤ v129 then v129 else (f_C_highestBit (st (1 : Int32).toNatClampNeg) 59)
  let v183 : Int32 := if 0 ≤ v162 then (((v162 * 3600) + (v162_1 * 60)) + v129_1) else (-1)
  v183
set_option maxRecDepth 20000 in
set_option maxHeartbeats 4000000 in
theorem k_C_timeUpTo {l : Launch} {S : State} {D : va_G} {dA : Nat → ClassId} (E : jm_en S D jm_cl (jm_ty dA) jm_G) (a : Nat) (ti : Int32) (sq : Nat) (dr : Int32) (vl : Int32) (nn : Int32) (st : Nat → Int64) (h : jm_H) (h_a : h a = some (.inr (4, [.ref sq, .int dr, .int vl, .int nn]))) (h_sq : h sq = some (.inl (dA 3, 12, .inr (.inl st)))) (hnd : ([a, sq] : List Nat).Nodup)  : jm_M l S D jm_cl y_C_timeUpTo (Cond.code y_C_timeUpTo b_C_timeUpTo 6 (some FieldType.int)) { frames := 2, cells := 0, slots := 0, locals := 45 } [.ref a, .int ti] h (jm_R (some (.int (f_C_timeUpTo ti dr vl nn st))) h) 0 0 := by
  refine jm_ofW E (by decide) (Nat.le_of_ble_eq_true rfl) (fun p e s m below meth c X hr hk hmn hout hadm => ?_)
  have X : jm_cx p s m ([.ref a, .int ti] : List Value).toArray c S D jm_cl (jm_ty dA) jm_G b_C_timeUpTo 6 "JobHouse$Cron" := X
  have hL : ∀ zz ∈ ([(a, .inr (4, [.ref sq, .int dr, .int vl, .int nn])), (sq, .inl (dA 3, 12, .inr (.inl st)))] : List (Nat × va_E)), h zz.1 = some zz.2 := List.forall_mem_cons.mpr ⟨h_a, List.forall_mem_cons.mpr ⟨h_sq, fun _ hz => absurd hz List.not_mem_nil⟩⟩
  refine jm_hq (jm_us_id hL).symm ?_
  show jm_W p l e ({ frames := 2, cells := 0, slots := 0, locals := 45 }) s m ([.ref a, .int ti] : List Value).toArray below meth c S D jm_cl (jm_Q S D jm_cl below s (jm_R (some (.int (f_C_timeUpTo ti dr vl nn st))) h) 0 0) 6 0 [(0, .ref a), (1, .int ti)] [] (jm_us h [(a, .inr (4, [.ref sq, .int dr, .int vl, .int nn])), (sq, .inl (dA 3, 12, .inr (.inl st)))]) 0 0
  refine jm_aload_n X d_C_timeUpTo_0 rfl 0 rfl ?_
  refine jm_get X d_C_timeUpTo_1 fs_C_11 (by refine jm_us_get ?_ 0 rfl; exact hnd) rfl ?_
  refine jm_iconst (v := 2) X d_C_timeUpTo_4 (by decide) ?_
  refine jm_lald (t0 := 3) X d_C_timeUpTo_5 rfl (by refine jm_us_get ?_ 1 rfl; exact hnd) (by unfold vp_in; decide) ?_
  refine jm_iload_n X d_C_timeUpTo_6 rfl 1 rfl ?_
  refine jm_sipush (v := 3600) X d_C_timeUpTo_7 (by decide) ?_
  refine jm_idiv X d_C_timeUpTo_10 (by decide +kernel) ?_
  refine jm_callS (rest := []) X d_C_timeUpTo_11 (k_C_highestBit E (st (2 : Int32).toNatClampNeg) (ti / 3600) (jm_us h [(a, .inr (4, [.ref sq, .int dr, .int vl, .int nn])), (sq, .inl (dA 3, 12, .inr (.inl st)))])  ) ci_C_highestBit (Or.inl (jm_g4 104 rfl rfl)) st_C_highestBit rfl (Nat.le_of_ble_eq_true rfl) ⟨(Nat.le_of_ble_eq_true rfl), (Nat.le_of_ble_eq_true rfl)⟩ ⟨rfl, rfl⟩ ⟨(Nat.le_of_ble_eq_true rfl), (Nat.le_of_ble_eq_true rfl)⟩ (jm_k1 ?_)
  obtain ⟨u11, eu11⟩ : ∃ z_ : Int32, z_ = (f_C_highestBit (st (2 : Int32).toNatClampNeg) (ti / 3600)) := ⟨_, rfl⟩
  rw [← eu11]
  refine jm_istore_n X d_C_timeUpTo_14 rfl (by decide) (lv1 := [(2, .int u11), (0, .ref a), (1, .int ti)]) rfl ?_
  refine jm_aload_n X d_C_timeUpTo_15 rfl 1 rfl ?_
  refine jm_get X d_C_timeUpTo_16 fs_C_11 (by refine jm_us_get ?_ 0 rfl; exact hnd) rfl ?_
  refine jm_iconst (v := 1) X d_C_timeUpTo_19 (by decide) ?_
  refine jm_lald (t0 := 3) X d_C_timeUpTo_20 rfl (by refine jm_us_get ?_ 1 rfl; exact hnd) (by unfold vp_in; decide) ?_
  refine jm_iload_n X d_C_timeUpTo_21 rfl 0 rfl ?_
  refine jm_iload_n X d_C_timeUpTo_22 rfl 2 rfl ?_
  refine jm_sipush (v := 3600) X d_C_timeUpTo_23 (by decide) ?_
  refine jm_idiv X d_C_timeUpTo_26 (by decide +kernel) ?_
  have J42_2 : ∀ (v42 : Int32), v42 = (if u11 = (ti / 3600) then ((ti / 60) - (ti / 60) / 60 * 60) else 59 : Int32) → jm_W p l e ({ frames := 2, cells := 0, slots := 0, locals := 45 }) s m ([.ref a, .int ti] : List Value).toArray below meth c S D jm_cl (jm_Q S D jm_cl below s (jm_R (some (.int (f_C_timeUpTo ti dr vl nn st))) h) 0 0) 6 42 [(2, .int u11), (0, .ref a), (1, .int ti)] [.int v42, .long (st (1 : Int32).toNatClampNeg)] (jm_us h [(a, .inr (4, [.ref sq, .int dr, .int vl, .int nn])), (sq, .inl (dA 3, 12, .inr (.inl st)))]) 0 0 := by
    intro v42 ev42
    refine jm_callS (rest := []) X d_C_timeUpTo_42 (k_C_highestBit E (st (1 : Int32).toNatClampNeg) v42 (jm_us h [(a, .inr (4, [.ref sq, .int dr, .int vl, .int nn])), (sq, .inl (dA 3, 12, .inr (.inl st)))])  ) ci_C_highestBit (Or.inl (jm_g4 104 rfl rfl)) st_C_highestBit rfl (Nat.le_of_ble_eq_true rfl) ⟨(Nat.le_of_ble_eq_true rfl), (Nat.le_of_ble_eq_true rfl)⟩ ⟨rfl, rfl⟩ ⟨(Nat.le_of_ble_eq_true rfl), (Nat.le_of_ble_eq_true rfl)⟩ (jm_k1 ?_)
    obtain ⟨u42, eu42⟩ : ∃ z_ : Int32, z_ = (f_C_highestBit (st (1 : Int32).toNatClampNeg) v42) := ⟨_, rfl⟩
    rw [← eu42]
    refine jm_istore_n X d_C_timeUpTo_45 rfl (by decide) (lv1 := [(3, .int u42), (2, .int u11), (0, .ref a), (1, .int ti)]) rfl ?_
    refine jm_iload_n X d_C_timeUpTo_46 rfl 1 rfl ?_
    refine jm_iload_n X d_C_timeUpTo_47 rfl 3 rfl ?_
    refine jm_sipush (v := 3600) X d_C_timeUpTo_48 (by decide) ?_
    refine jm_idiv X d_C_timeUpTo_51 (by decide +kernel) ?_
    have J71_4 : ∀ (v71 : Int32), v71 = (if u11 = (ti / 3600) then (if u42 = ((ti / 60) - (ti / 60) / 60 * 60) then 1 else 0) else 0 : Int32) → jm_W p l e ({ frames := 2, cells := 0, slots := 0, locals := 45 }) s m ([.ref a, .int ti] : List Value).toArray below meth c S D jm_cl (jm_Q S D jm_cl below s (jm_R (some (.int (f_C_timeUpTo ti dr vl nn st))) h) 0 0) 6 71 [(3, .int u42), (2, .int u11), (0, .ref a), (1, .int ti)] [.int v71] (jm_us h [(a, .inr (4, [.ref sq, .int dr, .int vl, .int nn])), (sq, .inl (dA 3, 12, .inr (.inl st)))]) 0 0 := by
      intro v71 ev71
      refine jm_istore X d_C_timeUpTo_71 (by decide) (lv1 := [(4, .int v71), (3, .int u42), (2, .int u11), (0, .ref a), (1, .int ti)]) rfl ?_
      refine jm_aload_n X d_C_timeUpTo_73 rfl 3 rfl ?_
      refine jm_get X d_C_timeUpTo_74 fs_C_11 (by refine jm_us_get ?_ 0 rfl; exact hnd) rfl ?_
      refine jm_iconst (v := 0) X d_C_timeUpTo_77 (by decide) ?_
      refine jm_lald (t0 := 3) X d_C_timeUpTo_78 rfl (by refine jm_us_get ?_ 1 rfl; exact hnd) (by unfold vp_in; decide) ?_
      refine jm_iload X d_C_timeUpTo_79 0 rfl ?_
      have J93_6 : ∀ (v93 : Int32), v93 = (if v71 = 0 then 59 else (ti - ti / 60 * 60) : Int32) → jm_W p l e ({ frames := 2, cells := 0, slots := 0, locals := 45 }) s m ([.ref a, .int ti] : List Value).toArray below meth c S D jm_cl (jm_Q S D jm_cl below s (jm_R (some (.int (f_C_timeUpTo ti dr vl nn st))) h) 0 0) 6 93 [(4, .int v71), (3, .int u42), (2, .int u11), (0, .ref a), (1, .int ti)] [.int v93, .long (st (0 : Int32).toNatClampNeg)] (jm_us h [(a, .inr (4, [.ref sq, .int dr, .int vl, .int nn])), (sq, .inl (dA 3, 12, .inr (.inl st)))]) 0 0 := by
        intro v93 ev93
        refine jm_callS (rest := []) X d_C_timeUpTo_93 (k_C_highestBit E (st (0 : Int32).toNatClampNeg) v93 (jm_us h [(a, .inr (4, [.ref sq, .int dr, .int vl, .int nn])), (sq, .inl (dA 3, 12, .inr (.inl st)))])  ) ci_C_highestBit (Or.inl (jm_g4 104 rfl rfl)) st_C_highestBit rfl (Nat.le_of_ble_eq_true rfl) ⟨(Nat.le_of_ble_eq_true rfl), (Nat.le_of_ble_eq_true rfl)⟩ ⟨rfl, rfl⟩ ⟨(Nat.le_of_ble_eq_true rfl), (Nat.le_of_ble_eq_true rfl)⟩ (jm_k1 ?_)
        obtain ⟨u93, eu93⟩ : ∃ z_ : Int32, z_ = (f_C_highestBit (st (0 : Int32).toNatClampNeg) v93) := ⟨_, rfl⟩
        rw [← eu93]
        refine jm_istore X d_C_timeUpTo_96 (by decide) (lv1 := [(5, .int u93), (4, .int v71), (3, .int u42), (2, .int u11), (0, .ref a), (1, .int ti)]) rfl ?_
        refine jm_iload X d_C_timeUpTo_98 0 rfl ?_
        have J129_8 : ∀ (v129 : Int32) (v129_1 : Int32), v129 = (if 0 ≤ u93 then u42 else (f_C_highestBit (st (1 : Int32).toNatClampNeg) (u42 - 1)) : Int32) → v129_1 = (if 0 ≤ u93 then u93 else (f_C_highestBit (st (0 : Int32).toNatClampNeg) 59) : Int32) → jm_W p l e ({ frames := 2, cells := 0, slots := 0, locals := 45 }) s m ([.ref a, .int ti] : List Value).toArray below meth c S D jm_cl (jm_Q S D jm_cl below s (jm_R (some (.int (f_C_timeUpTo ti dr vl nn st))) h) 0 0) 6 129 [(0, .ref a), (1, .int ti), (2, .int u11), (3, .int v129), (4, .int v71), (5, .int v129_1)] [] (jm_us h [(a, .inr (4, [.ref sq, .int dr, .int vl, .int nn])), (sq, .inl (dA 3, 12, .inr (.inl st)))]) 0 0 := by
          intro v129 v129_1 ev129 ev129_1
          refine jm_iload_n X d_C_timeUpTo_129 rfl 3 rfl ?_
          have J162_10 : ∀ (v162 : Int32) (v162_1 : Int32), v162 = (if 0 ≤ v129 then u11 else (f_C_highestBit (st (2 : Int32).toNatClampNeg) ((ti / 3600) - 1)) : Int32) → v162_1 = (if 0 ≤ v129 then v129 else (f_C_highestBit (st (1 : Int32).toNatClampNeg) 59) : Int32) → jm_W p l e ({ frames := 2, cells := 0, slots := 0, locals := 45 }) s m ([.ref a, .int ti] : List Value).toArray below meth c S D jm_cl (jm_Q S D jm_cl below s (jm_R (some (.int (f_C_timeUpTo ti dr vl nn st))) h) 0 0) 6 162 [(0, .ref a), (1, .int ti), (2, .int v162), (3, .int v162_1), (4, .int v71), (5, .int v129_1)] [] (jm_us h [(a, .inr (4, [.ref sq, .int dr, .int vl, .int nn])), (sq, .inl (dA 3, 12, .inr (.inl st)))]) 0 0 := by
            intro v162 v162_1 ev162 ev162_1
            refine jm_iload_n X d_C_timeUpTo_162 rfl 2 rfl ?_
            have J183_12 : ∀ (v183 : Int32), v183 = (if 0 ≤ v162 then (((v162 * 3600) + (v162_1 * 60)) + v129_1) else (-1) : Int32) → jm_W p l e ({ frames := 2, cells := 0, slots := 0, locals := 45 }) s m ([.ref a, .int ti] : List Value).toArray below meth c S D jm_cl (jm_Q S D jm_cl below s (jm_R (some (.int (f_C_timeUpTo ti dr vl nn st))) h) 0 0) 6 183 [(0, .ref a), (1, .int ti), (2, .int v162), (3, .int v162_1), (4, .int v71), (5, .int v129_1)] [.int v183] (jm_us h [(a, .inr (4, [.ref sq, .int dr, .int vl, .int nn])), (sq, .inl (dA 3, 12, .inr (.inl st)))]) 0 0 := by
              intro v183 ev183
              exact jm_iret X hr hk d_C_timeUpTo_183 ⟨(by show Outcome.returned _ = Outcome.returned _; unfold f_C_timeUpTo; subst ev183; subst ev162_1; subst ev162; subst ev129_1; subst ev129; subst eu93; subst ev93; subst ev71; subst eu42; subst ev42; subst eu11; rfl), (jm_us_id hL)⟩
            refine jm_if_ge (tgt := 170) X d_C_timeUpTo_163 (by decide) (fun c11 => ?_) (fun c11 => ?_)
            · refine jm_iload_n X d_C_timeUpTo_170 rfl 2 rfl ?_
              refine jm_sipush (v := 3600) X d_C_timeUpTo_171 (by decide) ?_
              refine jm_imul X d_C_timeUpTo_174 ?_
              refine jm_iload_n X d_C_timeUpTo_175 rfl 3 rfl ?_
              refine jm_bipush (v := 60) X d_C_timeUpTo_176 (by decide) ?_
              refine jm_imul X d_C_timeUpTo_178 ?_
              refine jm_iadd X d_C_timeUpTo_179 ?_
              refine jm_iload X d_C_timeUpTo_180 5 rfl ?_
              refine jm_iadd X d_C_timeUpTo_182 ?_
              exact J183_12 _ (by first | (simp only [if_pos c11, reduceIte]; done) | (with_reducible rfl))
            · refine jm_iconst (v := (-1)) X d_C_timeUpTo_166 (by decide) ?_
              refine jm_goto (tgt := 183) X d_C_timeUpTo_167 (by decide) ?_
              exact J183_12 _ (by first | (simp only [if_neg c11, reduceIte]; done) | (with_reducible rfl))
          refine jm_if_ge (tgt := 162) X d_C_timeUpTo_130 (by decide) (fun c9 => ?_) (fun c9 => ?_)
          · refine jm_lvs [0, 1, 2, 3, 4, 5] (lv1 := [(0, .ref a), (1, .int ti), (2, .int u11), (3, .int v129), (4, .int v71), (5, .int v129_1)]) rfl ?_
            exact J162_10 _ _ (by first | (simp only [if_pos c9, reduceIte]; done) | (with_reducible rfl)) (by first | (simp only [if_pos c9, reduceIte]; done) | (with_reducible rfl))
          · refine jm_aload_n X d_C_timeUpTo_133 rfl 0 rfl ?_
            refine jm_get X d_C_timeUpTo_134 fs_C_11 (by refine jm_us_get ?_ 0 rfl; exact hnd) rfl ?_
            refine jm_iconst (v := 2) X d_C_timeUpTo_137 (by decide) ?_
            refine jm_lald (t0 := 3) X d_C_timeUpTo_138 rfl (by refine jm_us_get ?_ 1 rfl; exact hnd) (by unfold vp_in; decide) ?_
            refine jm_iload_n X d_C_timeUpTo_139 rfl 1 rfl ?_
            refine jm_sipush (v := 3600) X d_C_timeUpTo_140 (by decide) ?_
            refine jm_idiv X d_C_timeUpTo_143 (by decide +kernel) ?_
            refine jm_iconst (v := 1) X d_C_timeUpTo_144 (by decide) ?_
            refine jm_isub X d_C_timeUpTo_145 ?_
            refine jm_callS (rest := []) X d_C_timeUpTo_146 (k_C_highestBit E (st (2 : Int32).toNatClampNeg) ((ti / 3600) - 1) (jm_us h [(a, .inr (4, [.ref sq, .int dr, .int vl, .int nn])), (sq, .inl (dA 3, 12, .inr (.inl st)))])  ) ci_C_highestBit (Or.inl (jm_g4 104 rfl rfl)) st_C_highestBit rfl (Nat.le_of_ble_eq_true rfl) ⟨(Nat.le_of_ble_eq_true rfl), (Nat.le_of_ble_eq_true rfl)⟩ ⟨rfl, rfl⟩ ⟨(Nat.le_of_ble_eq_true rfl), (Nat.le_of_ble_eq_true rfl)⟩ (jm_k1 ?_)
            refine jm_istore_n X d_C_timeUpTo_149 rfl (by decide) (lv1 := [(2, .int (f_C_highestBit (st (2 : Int32).toNatClampNeg) ((ti / 3600) - 1))), (0, .ref a), (1, .int ti), (3, .int v129), (4, .int v71), (5, .int v129_1)]) rfl ?_
            refine jm_aload_n X d_C_timeUpTo_150 rfl 1 rfl ?_
            refine jm_get X d_C_timeUpTo_151 fs_C_11 (by refine jm_us_get ?_ 0 rfl; exact hnd) rfl ?_
            refine jm_iconst (v := 1) X d_C_timeUpTo_154 (by decide) ?_
            refine jm_lald (t0 := 3) X d_C_timeUpTo_155 rfl (by refine jm_us_get ?_ 1 rfl; exact hnd) (by unfold vp_in; decide) ?_
            refine jm_bipush (v := 59) X d_C_timeUpTo_156 (by decide) ?_
            refine jm_callS (rest := []) X d_C_timeUpTo_158 (k_C_highestBit E (st (1 : Int32).toNatClampNeg) 59 (jm_us h [(a, .inr (4, [.ref sq, .int dr, .int vl, .int nn])), (sq, .inl (dA 3, 12, .inr (.inl st)))])  ) ci_C_highestBit (Or.inl (jm_g4 104 rfl rfl)) st_C_highestBit rfl (Nat.le_of_ble_eq_true rfl) ⟨(Nat.le_of_ble_eq_true rfl), (Nat.le_of_ble_eq_true rfl)⟩ ⟨rfl, rfl⟩ ⟨(Nat.le_of_ble_eq_true rfl), (Nat.le_of_ble_eq_true rfl)⟩ (jm_k1 ?_)
            refine jm_istore_n X d_C_timeUpTo_161 rfl (by decide) (lv1 := [(3, .int (f_C_highestBit (st (1 : Int32).toNatClampNeg) 59)), (2, .int (f_C_highestBit (st (2 : Int32).toNatClampNeg) ((ti / 3600) - 1))), (0, .ref a), (1, .int ti), (4, .int v71), (5, .int v129_1)]) rfl ?_
            refine jm_lvs [2, 3, 1, 0, 4, 5] (lv1 := [(0, .ref a), (1, .int ti), (2, .int (f_C_highestBit (st (2 : Int32).toNatClampNeg) ((ti / 3600) - 1))), (3, .int (f_C_highestBit (st (1 : Int32).toNatClampNeg) 59)), (4, .int v71), (5, .int v129_1)]) rfl ?_
            exact J162_10 _ _ (by first | (simp only [if_neg c9, reduceIte]; done) | (with_reducible rfl)) (by first | (simp only [if_neg c9, reduceIte]; done) | (with_reducible rfl))
        refine jm_if_ge (tgt := 129) X d_C_timeUpTo_100 (by decide) (fun c7 => ?_) (fun c7 => ?_)
        · refine jm_lvs [4, 5, 3, 2, 1, 0] (lv1 := [(0, .ref a), (1, .int ti), (2, .int u11), (3, .int u42), (4, .int v71), (5, .int u93)]) rfl ?_
          exact J129_8 _ _ (by first | (simp only [if_pos c7, reduceIte]; done) | (with_reducible rfl)) (by first | (simp only [if_pos c7, reduceIte]; done) | (with_reducible rfl))
        · refine jm_aload_n X d_C_timeUpTo_103 rfl 4 rfl ?_
          refine jm_get X d_C_timeUpTo_104 fs_C_11 (by refine jm_us_get ?_ 0 rfl; exact hnd) rfl ?_
          refine jm_iconst (v := 1) X d_C_timeUpTo_107 (by decide) ?_
          refine jm_lald (t0 := 3) X d_C_timeUpTo_108 rfl (by refine jm_us_get ?_ 1 rfl; exact hnd) (by unfold vp_in; decide) ?_
          refine jm_iload_n X d_C_timeUpTo_109 rfl 2 rfl ?_
          refine jm_iconst (v := 1) X d_C_timeUpTo_110 (by decide) ?_
          refine jm_isub X d_C_timeUpTo_111 ?_
          refine jm_callS (rest := []) X d_C_timeUpTo_112 (k_C_highestBit E (st (1 : Int32).toNatClampNeg) (u42 - 1) (jm_us h [(a, .inr (4, [.ref sq, .int dr, .int vl, .int nn])), (sq, .inl (dA 3, 12, .inr (.inl st)))])  ) ci_C_highestBit (Or.inl (jm_g4 104 rfl rfl)) st_C_highestBit rfl (Nat.le_of_ble_eq_true rfl) ⟨(Nat.le_of_ble_eq_true rfl), (Nat.le_of_ble_eq_true rfl)⟩ ⟨rfl, rfl⟩ ⟨(Nat.le_of_ble_eq_true rfl), (Nat.le_of_ble_eq_true rfl)⟩ (jm_k1 ?_)
          refine jm_istore_n X d_C_timeUpTo_115 rfl (by decide) (lv1 := [(3, .int (f_C_highestBit (st (1 : Int32).toNatClampNeg) (u42 - 1))), (5, .int u93), (4, .int v71), (2, .int u11), (0, .ref a), (1, .int ti)]) rfl ?_
          refine jm_aload_n X d_C_timeUpTo_116 rfl 4 rfl ?_
          refine jm_get X d_C_timeUpTo_117 fs_C_11 (by refine jm_us_get ?_ 0 rfl; exact hnd) rfl ?_
          refine jm_iconst (v := 0) X d_C_timeUpTo_120 (by decide) ?_
          refine jm_lald (t0 := 3) X d_C_timeUpTo_121 rfl (by refine jm_us_get ?_ 1 rfl; exact hnd) (by unfold vp_in; decide) ?_
          refine jm_bipush (v := 59) X d_C_timeUpTo_122 (by decide) ?_
          refine jm_callS (rest := []) X d_C_timeUpTo_124 (k_C_highestBit E (st (0 : Int32).toNatClampNeg) 59 (jm_us h [(a, .inr (4, [.ref sq, .int dr, .int vl, .int nn])), (sq, .inl (dA 3, 12, .inr (.inl st)))])  ) ci_C_highestBit (Or.inl (jm_g4 104 rfl rfl)) st_C_highestBit rfl (Nat.le_of_ble_eq_true rfl) ⟨(Nat.le_of_ble_eq_true rfl), (Nat.le_of_ble_eq_true rfl)⟩ ⟨rfl, rfl⟩ ⟨(Nat.le_of_ble_eq_true rfl), (Nat.le_of_ble_eq_true rfl)⟩ (jm_k1 ?_)
          refine jm_istore X d_C_timeUpTo_127 (by decide) (lv1 := [(5, .int (f_C_highestBit (st (0 : Int32).toNatClampNeg) 59)), (3, .int (f_C_highestBit (st (1 : Int32).toNatClampNeg) (u42 - 1))), (4, .int v71), (2, .int u11), (0, .ref a), (1, .int ti)]) rfl ?_
          refine jm_lvs [4, 5, 3, 1, 2, 0] (lv1 := [(0, .ref a), (1, .int ti), (2, .int u11), (3, .int (f_C_highestBit (st (1 : Int32).toNatClampNeg) (u42 - 1))), (4, .int v71), (5, .int (f_C_highestBit (st (0 : Int32).toNatClampNeg) 59))]) rfl ?_
          exact J129_8 _ _ (by first | (simp only [if_neg c7, reduceIte]; done) | (with_reducible rfl)) (by first | (simp only [if_neg c7, reduceIte]; done) | (with_reducible rfl))
      refine jm_if_eq (tgt := 91) X d_C_timeUpTo_81 (by decide) (fun c5 => ?_) (fun c5 => ?_)
      · refine jm_bipush (v := 59) X d_C_timeUpTo_91 (by decide) ?_
        exact J93_6 _ (by first | (simp only [if_pos c5, reduceIte]; done) | (with_reducible rfl))
      · refine jm_iload_n X d_C_timeUpTo_84 rfl 4 rfl ?_
        refine jm_bipush (v := 60) X d_C_timeUpTo_85 (by decide) ?_
        refine jm_irem X d_C_timeUpTo_87 (by decide +kernel) ?_
        refine jm_goto (tgt := 93) X d_C_timeUpTo_88 (by decide) ?_
        exact J93_6 _ (by first | (simp only [if_neg c5, reduceIte]; done) | (with_reducible rfl))
    refine jm_icmp_ne (tgt := 70) X d_C_timeUpTo_52 (by decide) (fun c3 => ?_) (fun c3 => ?_)
    · refine jm_iconst (v := 0) X d_C_timeUpTo_70 (by decide) ?_
      exact J71_4 _ (by first | (simp only [if_neg c3, reduceIte]; done) | (with_reducible rfl))
    · refine jm_iload_n X d_C_timeUpTo_55 rfl 0 rfl ?_
      refine jm_iload_n X d_C_timeUpTo_56 rfl 3 rfl ?_
      refine jm_bipush (v := 60) X d_C_timeUpTo_57 (by decide) ?_
      refine jm_idiv X d_C_timeUpTo_59 (by decide +kernel) ?_
      refine jm_bipush (v := 60) X d_C_timeUpTo_60 (by decide) ?_
      refine jm_irem X d_C_timeUpTo_62 (by decide +kernel) ?_
      refine jm_icmp_ne (tgt := 70) X d_C_timeUpTo_63 (by decide) (fun c13 => ?_) (fun c13 => ?_)
      · refine jm_iconst (v := 0) X d_C_timeUpTo_70 (by decide) ?_
        exact J71_4 _ (by first | (simp only [if_pos c3, if_neg c13, reduceIte]; done) | (with_reducible rfl))
      · refine jm_iconst (v := 1) X d_C_timeUpTo_66 (by decide) ?_
        refine jm_goto (tgt := 71) X d_C_timeUpTo_67 (by decide) ?_
        exact J71_4 _ (by first | (simp only [if_pos c3, if_pos c13, reduceIte]; done) | (with_reducible rfl))
  refine jm_icmp_ne (tgt := 40) X d_C_timeUpTo_27 (by decide) (fun c1 => ?_) (fun c1 => ?_)
  · refine jm_bipush (v := 59) X d_C_timeUpTo_40 (by decide) ?_
    exact J42_2 _ (by first | (simp only [if_neg c1, reduceIte]; done) | (with_reducible rfl))
  · refine jm_iload_n X d_C_timeUpTo_30 rfl 2 rfl ?_
    refine jm_bipush (v := 60) X d_C_timeUpTo_31 (by decide) ?_
    refine jm_idiv X d_C_timeUpTo_33 (by decide +kernel) ?_
    refine jm_bipush (v := 60) X d_C_timeUpTo_34 (by decide) ?_
    refine jm_irem X d_C_timeUpTo_36 (by decide +kernel) ?_
    refine jm_goto (tgt := 42) X d_C_timeUpTo_37 (by decide) ?_
    exact J42_2 _ (by first | (simp only [if_pos c1, reduceIte]; done) | (with_reducible rfl))
end
section
def y_B_init : MethodName := ⟨"JobHouse$Job", "<init>", "()V"⟩
abbrev b_B_init : ByteArray := prog_7_method_1_code
theorem d_B_init_0 : decode b_B_init 0 = .ok (.aload_n 0, 1) := by decide +kernel
theorem d_B_init_1 : decode b_B_init 1 = .ok (.invokespecial 3, 3) := by decide +kernel
theorem d_B_init_4 : decode b_B_init 4 = .ok (.return_, 1) := by decide +kernel
theorem ci_B_init : jm_ci jm_G y_B_init (Cond.code y_B_init b_B_init 1 (none)) 1 0 := ⟨jm_g1 210 rfl rfl, Or.inl ⟨_, _, rfl⟩, jm_g1 9 rfl rfl, ⟨by decide, by decide⟩, by decide +kernel⟩
theorem im_B_init : Cond.instanceMethod y_B_init ∈ jm_G := jm_g1 209 rfl rfl
def y_B_isAheadOf : MethodName := ⟨"JobHouse$Job", "isAheadOf", "(LJobHouse$Job;)Z"⟩
abbrev b_B_isAheadOf : ByteArray := prog_7_method_2_code
theorem d_B_isAheadOf_0 : decode b_B_isAheadOf 0 = .ok (.aload_n 0, 1) := by decide +kernel
theorem d_B_isAheadOf_1 : decode b_B_isAheadOf 1 = .ok (.getfield 9, 3) := by decide +kernel
theorem d_B_isAheadOf_4 : decode b_B_isAheadOf 4 = .ok (.aload_n 1, 1) := by decide +kernel
theorem d_B_isAheadOf_5 : decode b_B_isAheadOf 5 = .ok (.getfield 9, 3) := by decide +kernel
theorem d_B_isAheadOf_8 : decode b_B_isAheadOf 8 = .ok (.lcmp, 1) := by decide +kernel
theorem d_B_isAheadOf_9 : decode b_B_isAheadOf 9 = .ok (.ifCond .eq 21, 3) := by decide +kernel
theorem d_B_isAheadOf_12 : decode b_B_isAheadOf 12 = .ok (.aload_n 0, 1) := by decide +kernel
theorem d_B_isAheadOf_13 : decode b_B_isAheadOf 13 = .ok (.getfield 9, 3) := by decide +kernel
theorem d_B_isAheadOf_16 : decode b_B_isAheadOf 16 = .ok (.aload_n 1, 1) := by decide +kernel
theorem d_B_isAheadOf_17 : decode b_B_isAheadOf 17 = .ok (.getfield 9, 3) := by decide +kernel
theorem d_B_isAheadOf_20 : decode b_B_isAheadOf 20 = .ok (.lcmp, 1) := by decide +kernel
theorem d_B_isAheadOf_21 : decode b_B_isAheadOf 21 = .ok (.ifCond .ge 7, 3) := by decide +kernel
theorem d_B_isAheadOf_24 : decode b_B_isAheadOf 24 = .ok (.iconst 1, 1) := by decide +kernel
theorem d_B_isAheadOf_25 : decode b_B_isAheadOf 25 = .ok (.goto 4, 3) := by decide +kernel
theorem d_B_isAheadOf_28 : decode b_B_isAheadOf 28 = .ok (.iconst 0, 1) := by decide +kernel
theorem d_B_isAheadOf_29 : decode b_B_isAheadOf 29 = .ok (.ireturn, 1) := by decide +kernel
theorem d_B_isAheadOf_30 : decode b_B_isAheadOf 30 = .ok (.aload_n 0, 1) := by decide +kernel
theorem d_B_isAheadOf_31 : decode b_B_isAheadOf 31 = .ok (.getfield 15, 3) := by decide +kernel
theorem d_B_isAheadOf_34 : decode b_B_isAheadOf 34 = .ok (.aload_n 1, 1) := by decide +kernel
theorem d_B_isAheadOf_35 : decode b_B_isAheadOf 35 = .ok (.getfield 15, 3) := by decide +kernel
theorem d_B_isAheadOf_38 : decode b_B_isAheadOf 38 = .ok (.if_icmp .eq 20, 3) := by decide +kernel
theorem d_B_isAheadOf_41 : decode b_B_isAheadOf 41 = .ok (.aload_n 0, 1) := by decide +kernel
theorem d_B_isAheadOf_42 : decode b_B_isAheadOf 42 = .ok (.getfield 15, 3) := by decide +kernel
theorem d_B_isAheadOf_45 : decode b_B_isAheadOf 45 = .ok (.aload_n 1, 1) := by decide +kernel
theorem d_B_isAheadOf_46 : decode b_B_isAheadOf 46 = .ok (.getfield 15, 3) := by decide +kernel
theorem d_B_isAheadOf_49 : decode b_B_isAheadOf 49 = .ok (.if_icmp .le 7, 3) := by decide +kernel
theorem d_B_isAheadOf_52 : decode b_B_isAheadOf 52 = .ok (.iconst 1, 1) := by decide +kernel
theorem d_B_isAheadOf_53 : decode b_B_isAheadOf 53 = .ok (.goto 4, 3) := by decide +kernel
theorem d_B_isAheadOf_56 : decode b_B_isAheadOf 56 = .ok (.iconst 0, 1) := by decide +kernel
theorem d_B_isAheadOf_57 : decode b_B_isAheadOf 57 = .ok (.ireturn, 1) := by decide +kernel
theorem d_B_isAheadOf_58 : decode b_B_isAheadOf 58 = .ok (.aload_n 0, 1) := by decide +kernel
theorem d_B_isAheadOf_59 : decode b_B_isAheadOf 59 = .ok (.getfield 19, 3) := by decide +kernel
theorem d_B_isAheadOf_62 : decode b_B_isAheadOf 62 = .ok (.aload_n 1, 1) := by decide +kernel
theorem d_B_isAheadOf_63 : decode b_B_isAheadOf 63 = .ok (.getfield 19, 3) := by decide +kernel
theorem d_B_isAheadOf_66 : decode b_B_isAheadOf 66 = .ok (.if_icmp .ge 7, 3) := by decide +kernel
theorem d_B_isAheadOf_69 : decode b_B_isAheadOf 69 = .ok (.iconst 1, 1) := by decide +kernel
theorem d_B_isAheadOf_70 : decode b_B_isAheadOf 70 = .ok (.goto 4, 3) := by decide +kernel
theorem d_B_isAheadOf_73 : decode b_B_isAheadOf 73 = .ok (.iconst 0, 1) := by decide +kernel
theorem d_B_isAheadOf_74 : decode b_B_isAheadOf 74 = .ok (.ireturn, 1) := by decide +kernel
theorem ci_B_isAheadOf : jm_ci jm_G y_B_isAheadOf (Cond.code y_B_isAheadOf b_B_isAheadOf 2 (some FieldType.boolean)) 2 1 := ⟨jm_g5 15 rfl rfl, Or.inl ⟨_, _, rfl⟩, jm_g1 9 rfl rfl, ⟨by decide, by decide⟩, by decide +kernel⟩
theorem im_B_isAheadOf : Cond.instanceMethod y_B_isAheadOf ∈ jm_G := jm_g5 13 rfl rfl
theorem se_B_isAheadOf : Cond.selects y_B_isAheadOf.cls y_B_isAheadOf y_B_isAheadOf ∈ jm_G := jm_g5 14 rfl rfl
def y_B_isOver : MethodName := ⟨"JobHouse$Job", "isOver", "()Z"⟩
abbrev b_B_isOver : ByteArray := prog_7_method_3_code
theorem d_B_isOver_0 : decode b_B_isOver 0 = .ok (.aload_n 0, 1) := by decide +kernel
theorem d_B_isOver_1 : decode b_B_isOver 1 = .ok (.getfield 22, 3) := by decide +kernel
theorem d_B_isOver_4 : decode b_B_isOver 4 = .ok (.iconst 3, 1) := by decide +kernel
theorem d_B_isOver_5 : decode b_B_isOver 5 = .ok (.if_icmp .eq 21, 3) := by decide +kernel
theorem d_B_isOver_8 : decode b_B_isOver 8 = .ok (.aload_n 0, 1) := by decide +kernel
theorem d_B_isOver_9 : decode b_B_isOver 9 = .ok (.getfield 25, 3) := by decide +kernel
theorem d_B_isOver_12 : decode b_B_isOver 12 = .ok (.ifCond .eq 14, 3) := by decide +kernel
theorem d_B_isOver_15 : decode b_B_isOver 15 = .ok (.aload_n 0, 1) := by decide +kernel
theorem d_B_isOver_16 : decode b_B_isOver 16 = .ok (.getfield 28, 3) := by decide +kernel
theorem d_B_isOver_19 : decode b_B_isOver 19 = .ok (.aload_n 0, 1) := by decide +kernel
theorem d_B_isOver_20 : decode b_B_isOver 20 = .ok (.getfield 31, 3) := by decide +kernel
theorem d_B_isOver_23 : decode b_B_isOver 23 = .ok (.if_icmp .ne 7, 3) := by decide +kernel
theorem d_B_isOver_26 : decode b_B_isOver 26 = .ok (.iconst 1, 1) := by decide +kernel
theorem d_B_isOver_27 : decode b_B_isOver 27 = .ok (.goto 4, 3) := by decide +kernel
theorem d_B_isOver_30 : decode b_B_isOver 30 = .ok (.iconst 0, 1) := by decide +kernel
theorem d_B_isOver_31 : decode b_B_isOver 31 = .ok (.ireturn, 1) := by decide +kernel
theorem ci_B_isOver : jm_ci jm_G y_B_isOver (Cond.code y_B_isOver b_B_isOver 1 (some FieldType.boolean)) 1 0 := ⟨jm_g4 238 rfl rfl, Or.inl ⟨_, _, rfl⟩, jm_g1 9 rfl rfl, ⟨by decide, by decide⟩, by decide +kernel⟩
theorem im_B_isOver : Cond.instanceMethod y_B_isOver ∈ jm_G := jm_g4 236 rfl rfl
theorem se_B_isOver : Cond.selects y_B_isOver.cls y_B_isOver y_B_isOver ∈ jm_G := jm_g4 237 rfl rfl
def y_B_rateTimeBehind : MethodName := ⟨"JobHouse$Job", "rateTimeBehind", "(J)J"⟩
abbrev b_B_rateTimeBehind : ByteArray := prog_7_method_4_code
theorem d_B_rateTimeBehind_0 : decode b_B_rateTimeBehind 0 = .ok (.aload_n 0, 1) := by decide +kernel
theorem d_B_rateTimeBehind_1 : decode b_B_rateTimeBehind 1 = .ok (.getfield 34, 3) := by decide +kernel
theorem d_B_rateTimeBehind_4 : decode b_B_rateTimeBehind 4 = .ok (.lconst 1, 1) := by decide +kernel
theorem d_B_rateTimeBehind_5 : decode b_B_rateTimeBehind 5 = .ok (.lcmp, 1) := by decide +kernel
theorem d_B_rateTimeBehind_6 : decode b_B_rateTimeBehind 6 = .ok (.ifCond .ge 7, 3) := by decide +kernel
theorem d_B_rateTimeBehind_9 : decode b_B_rateTimeBehind 9 = .ok (.ldc2_w 37, 3) := by decide +kernel
theorem d_B_rateTimeBehind_12 : decode b_B_rateTimeBehind 12 = .ok (.lreturn, 1) := by decide +kernel
theorem d_B_rateTimeBehind_13 : decode b_B_rateTimeBehind 13 = .ok (.lload_n 1, 1) := by decide +kernel
theorem d_B_rateTimeBehind_14 : decode b_B_rateTimeBehind 14 = .ok (.aload_n 0, 1) := by decide +kernel
theorem d_B_rateTimeBehind_15 : decode b_B_rateTimeBehind 15 = .ok (.getfield 9, 3) := by decide +kernel
theorem d_B_rateTimeBehind_18 : decode b_B_rateTimeBehind 18 = .ok (.lsub, 1) := by decide +kernel
theorem d_B_rateTimeBehind_19 : decode b_B_rateTimeBehind 19 = .ok (.aload_n 0, 1) := by decide +kernel
theorem d_B_rateTimeBehind_20 : decode b_B_rateTimeBehind 20 = .ok (.getfield 34, 3) := by decide +kernel
theorem d_B_rateTimeBehind_23 : decode b_B_rateTimeBehind 23 = .ok (.ldiv, 1) := by decide +kernel
theorem d_B_rateTimeBehind_24 : decode b_B_rateTimeBehind 24 = .ok (.lstore_n 3, 1) := by decide +kernel
theorem d_B_rateTimeBehind_25 : decode b_B_rateTimeBehind 25 = .ok (.aload_n 0, 1) := by decide +kernel
theorem d_B_rateTimeBehind_26 : decode b_B_rateTimeBehind 26 = .ok (.getfield 39, 3) := by decide +kernel
theorem d_B_rateTimeBehind_29 : decode b_B_rateTimeBehind 29 = .ok (.iconst 2, 1) := by decide +kernel
theorem d_B_rateTimeBehind_30 : decode b_B_rateTimeBehind 30 = .ok (.if_icmp .ne 17, 3) := by decide +kernel
theorem d_B_rateTimeBehind_33 : decode b_B_rateTimeBehind 33 = .ok (.aload_n 0, 1) := by decide +kernel
theorem d_B_rateTimeBehind_34 : decode b_B_rateTimeBehind 34 = .ok (.getfield 9, 3) := by decide +kernel
theorem d_B_rateTimeBehind_37 : decode b_B_rateTimeBehind 37 = .ok (.lload_n 3, 1) := by decide +kernel
theorem d_B_rateTimeBehind_38 : decode b_B_rateTimeBehind 38 = .ok (.lconst 1, 1) := by decide +kernel
theorem d_B_rateTimeBehind_39 : decode b_B_rateTimeBehind 39 = .ok (.ladd, 1) := by decide +kernel
theorem d_B_rateTimeBehind_40 : decode b_B_rateTimeBehind 40 = .ok (.aload_n 0, 1) := by decide +kernel
theorem d_B_rateTimeBehind_41 : decode b_B_rateTimeBehind 41 = .ok (.getfield 34, 3) := by decide +kernel
theorem d_B_rateTimeBehind_44 : decode b_B_rateTimeBehind 44 = .ok (.lmul, 1) := by decide +kernel
theorem d_B_rateTimeBehind_45 : decode b_B_rateTimeBehind 45 = .ok (.ladd, 1) := by decide +kernel
theorem d_B_rateTimeBehind_46 : decode b_B_rateTimeBehind 46 = .ok (.lreturn, 1) := by decide +kernel
theorem d_B_rateTimeBehind_47 : decode b_B_rateTimeBehind 47 = .ok (.aload_n 0, 1) := by decide +kernel
theorem d_B_rateTimeBehind_48 : decode b_B_rateTimeBehind 48 = .ok (.getfield 39, 3) := by decide +kernel
theorem d_B_rateTimeBehind_51 : decode b_B_rateTimeBehind 51 = .ok (.iconst 1, 1) := by decide +kernel
theorem d_B_rateTimeBehind_52 : decode b_B_rateTimeBehind 52 = .ok (.if_icmp .ne 21, 3) := by decide +kernel
theorem d_B_rateTimeBehind_55 : decode b_B_rateTimeBehind 55 = .ok (.lload_n 3, 1) := by decide +kernel
theorem d_B_rateTimeBehind_56 : decode b_B_rateTimeBehind 56 = .ok (.lconst 1, 1) := by decide +kernel
theorem d_B_rateTimeBehind_57 : decode b_B_rateTimeBehind 57 = .ok (.lcmp, 1) := by decide +kernel
theorem d_B_rateTimeBehind_58 : decode b_B_rateTimeBehind 58 = .ok (.ifCond .le 15, 3) := by decide +kernel
theorem d_B_rateTimeBehind_61 : decode b_B_rateTimeBehind 61 = .ok (.aload_n 0, 1) := by decide +kernel
theorem d_B_rateTimeBehind_62 : decode b_B_rateTimeBehind 62 = .ok (.getfield 9, 3) := by decide +kernel
theorem d_B_rateTimeBehind_65 : decode b_B_rateTimeBehind 65 = .ok (.lload_n 3, 1) := by decide +kernel
theorem d_B_rateTimeBehind_66 : decode b_B_rateTimeBehind 66 = .ok (.aload_n 0, 1) := by decide +kernel
theorem d_B_rateTimeBehind_67 : decode b_B_rateTimeBehind 67 = .ok (.getfield 34, 3) := by decide +kernel
theorem d_B_rateTimeBehind_70 : decode b_B_rateTimeBehind 70 = .ok (.lmul, 1) := by decide +kernel
theorem d_B_rateTimeBehind_71 : decode b_B_rateTimeBehind 71 = .ok (.ladd, 1) := by decide +kernel
theorem d_B_rateTimeBehind_72 : decode b_B_rateTimeBehind 72 = .ok (.lreturn, 1) := by decide +kernel
theorem d_B_rateTimeBehind_73 : decode b_B_rateTimeBehind 73 = .ok (.aload_n 0, 1) := by decide +kernel
theorem d_B_rateTimeBehind_74 : decode b_B_rateTimeBehind 74 = .ok (.getfield 9, 3) := by decide +kernel
theorem d_B_rateTimeBehind_77 : decode b_B_rateTimeBehind 77 = .ok (.aload_n 0, 1) := by decide +kernel
theorem d_B_rateTimeBehind_78 : decode b_B_rateTimeBehind 78 = .ok (.getfield 34, 3) := by decide +kernel
theorem d_B_rateTimeBehind_81 : decode b_B_rateTimeBehind 81 = .ok (.ladd, 1) := by decide +kernel
theorem d_B_rateTimeBehind_82 : decode b_B_rateTimeBehind 82 = .ok (.lreturn, 1) := by decide +kernel
theorem ci_B_rateTimeBehind : jm_ci jm_G y_B_rateTimeBehind (Cond.code y_B_rateTimeBehind b_B_rateTimeBehind 5 (some FieldType.long)) 5 1 := ⟨jm_g5 2 rfl rfl, Or.inl ⟨_, _, rfl⟩, jm_g1 9 rfl rfl, ⟨by decide, by decide⟩, by decide +kernel⟩
theorem im_B_rateTimeBehind : Cond.instanceMethod y_B_rateTimeBehind ∈ jm_G := jm_g5 0 rfl rfl
theorem se_B_rateTimeBehind : Cond.selects y_B_rateTimeBehind.cls y_B_rateTimeBehind y_B_rateTimeBehind ∈ jm_G := jm_g5 1 rfl rfl
def y_L_init : MethodName := ⟨"JobHouse$StartLog", "<init>", "()V"⟩
abbrev b_L_init : ByteArray := prog_8_method_1_code
theorem d_L_init_0 : decode b_L_init 0 = .ok (.aload_n 0, 1) := by decide +kernel
theorem d_L_init_1 : decode b_L_init 1 = .ok (.invokespecial 3, 3) := by decide +kernel
theorem d_L_init_4 : decode b_L_init 4 = .ok (.aload_n 0, 1) := by decide +kernel
theorem d_L_init_5 : decode b_L_init 5 = .ok (.sipush 500, 3) := by decide +kernel
theorem d_L_init_8 : decode b_L_init 8 = .ok (.newarray .long, 2) := by decide +kernel
theorem d_L_init_10 : decode b_L_init 10 = .ok (.putfield 9, 3) := by decide +kernel
theorem d_L_init_13 : decode b_L_init 13 = .ok (.aload_n 0, 1) := by decide +kernel
theorem d_L_init_14 : decode b_L_init 14 = .ok (.sipush 500, 3) := by decide +kernel
theorem d_L_init_17 : decode b_L_init 17 = .ok (.newarray .int, 2) := by decide +kernel
theorem d_L_init_19 : decode b_L_init 19 = .ok (.putfield 15, 3) := by decide +kernel
theorem d_L_init_22 : decode b_L_init 22 = .ok (.aload_n 0, 1) := by decide +kernel
theorem d_L_init_23 : decode b_L_init 23 = .ok (.sipush 500, 3) := by decide +kernel
theorem d_L_init_26 : decode b_L_init 26 = .ok (.newarray .long, 2) := by decide +kernel
theorem d_L_init_28 : decode b_L_init 28 = .ok (.putfield 19, 3) := by decide +kernel
theorem d_L_init_31 : decode b_L_init 31 = .ok (.return_, 1) := by decide +kernel
theorem ci_L_init : jm_ci jm_G y_L_init (Cond.code y_L_init b_L_init 1 (none)) 1 0 := ⟨jm_g1 184 rfl rfl, Or.inl ⟨_, _, rfl⟩, jm_g1 8 rfl rfl, ⟨by decide, by decide⟩, by decide +kernel⟩
theorem im_L_init : Cond.instanceMethod y_L_init ∈ jm_G := jm_g1 183 rfl rfl
def y_L_add : MethodName := ⟨"JobHouse$StartLog", "add", "(JIJ)V"⟩
abbrev b_L_add : ByteArray := prog_8_method_2_code
theorem d_L_add_0 : decode b_L_add 0 = .ok (.aload_n 0, 1) := by decide +kernel
theorem d_L_add_1 : decode b_L_add 1 = .ok (.getfield 22, 3) := by decide +kernel
theorem d_L_add_4 : decode b_L_add 4 = .ok (.sipush 500, 3) := by decide +kernel
theorem d_L_add_7 : decode b_L_add 7 = .ok (.if_icmp .ge 54, 3) := by decide +kernel
theorem d_L_add_10 : decode b_L_add 10 = .ok (.aload_n 0, 1) := by decide +kernel
theorem d_L_add_11 : decode b_L_add 11 = .ok (.getfield 9, 3) := by decide +kernel
theorem d_L_add_14 : decode b_L_add 14 = .ok (.aload_n 0, 1) := by decide +kernel
theorem d_L_add_15 : decode b_L_add 15 = .ok (.getfield 22, 3) := by decide +kernel
theorem d_L_add_18 : decode b_L_add 18 = .ok (.lload_n 1, 1) := by decide +kernel
theorem d_L_add_19 : decode b_L_add 19 = .ok (.lastore, 1) := by decide +kernel
theorem d_L_add_20 : decode b_L_add 20 = .ok (.aload_n 0, 1) := by decide +kernel
theorem d_L_add_21 : decode b_L_add 21 = .ok (.getfield 15, 3) := by decide +kernel
theorem d_L_add_24 : decode b_L_add 24 = .ok (.aload_n 0, 1) := by decide +kernel
theorem d_L_add_25 : decode b_L_add 25 = .ok (.getfield 22, 3) := by decide +kernel
theorem d_L_add_28 : decode b_L_add 28 = .ok (.iload_n 3, 1) := by decide +kernel
theorem d_L_add_29 : decode b_L_add 29 = .ok (.iastore, 1) := by decide +kernel
theorem d_L_add_30 : decode b_L_add 30 = .ok (.aload_n 0, 1) := by decide +kernel
theorem d_L_add_31 : decode b_L_add 31 = .ok (.getfield 19, 3) := by decide +kernel
theorem d_L_add_34 : decode b_L_add 34 = .ok (.aload_n 0, 1) := by decide +kernel
theorem d_L_add_35 : decode b_L_add 35 = .ok (.getfield 22, 3) := by decide +kernel
theorem d_L_add_38 : decode b_L_add 38 = .ok (.lload 4, 2) := by decide +kernel
theorem d_L_add_40 : decode b_L_add 40 = .ok (.lastore, 1) := by decide +kernel
theorem d_L_add_41 : decode b_L_add 41 = .ok (.aload_n 0, 1) := by decide +kernel
theorem d_L_add_42 : decode b_L_add 42 = .ok (.dup, 1) := by decide +kernel
theorem d_L_add_43 : decode b_L_add 43 = .ok (.getfield 22, 3) := by decide +kernel
theorem d_L_add_46 : decode b_L_add 46 = .ok (.iconst 1, 1) := by decide +kernel
theorem d_L_add_47 : decode b_L_add 47 = .ok (.iadd, 1) := by decide +kernel
theorem d_L_add_48 : decode b_L_add 48 = .ok (.putfield 22, 3) := by decide +kernel
theorem d_L_add_51 : decode b_L_add 51 = .ok (.aload_n 0, 1) := by decide +kernel
theorem d_L_add_52 : decode b_L_add 52 = .ok (.dup, 1) := by decide +kernel
theorem d_L_add_53 : decode b_L_add 53 = .ok (.getfield 26, 3) := by decide +kernel
theorem d_L_add_56 : decode b_L_add 56 = .ok (.lconst 1, 1) := by decide +kernel
theorem d_L_add_57 : decode b_L_add 57 = .ok (.ladd, 1) := by decide +kernel
theorem d_L_add_58 : decode b_L_add 58 = .ok (.putfield 26, 3) := by decide +kernel
theorem d_L_add_61 : decode b_L_add 61 = .ok (.return_, 1) := by decide +kernel
theorem ci_L_add : jm_ci jm_G y_L_add (Cond.code y_L_add b_L_add 6 (none)) 6 3 := ⟨jm_g5 23 rfl rfl, Or.inl ⟨_, _, rfl⟩, jm_g1 8 rfl rfl, ⟨by decide, by decide⟩, by decide +kernel⟩
theorem im_L_add : Cond.instanceMethod y_L_add ∈ jm_G := jm_g5 21 rfl rfl
theorem se_L_add : Cond.selects y_L_add.cls y_L_add y_L_add ∈ jm_G := jm_g5 22 rfl rfl
def y_Y_init : MethodName := ⟨"JobHouse$YearRule", "<init>", "()V"⟩
abbrev b_Y_init : ByteArray := prog_10_method_1_code
theorem d_Y_init_0 : decode b_Y_init 0 = .ok (.aload_n 0, 1) := by decide +kernel
theorem d_Y_init_1 : decode b_Y_init 1 = .ok (.invokespecial 3, 3) := by decide +kernel
theorem d_Y_init_4 : decode b_Y_init 4 = .ok (.return_, 1) := by decide +kernel
theorem ci_Y_init : jm_ci jm_G y_Y_init (Cond.code y_Y_init b_Y_init 1 (none)) 1 0 := ⟨jm_g1 118 rfl rfl, Or.inl ⟨_, _, rfl⟩, jm_g1 7 rfl rfl, ⟨by decide, by decide⟩, by decide +kernel⟩
theorem im_Y_init : Cond.instanceMethod y_Y_init ∈ jm_G := jm_g1 117 rfl rfl
def y_Y_readFrom : MethodName := ⟨"JobHouse$YearRule", "readFrom", "(LJobHouse$Text;)V"⟩
abbrev b_Y_readFrom : ByteArray := prog_10_method_2_code
theorem d_Y_readFrom_0 : decode b_Y_readFrom 0 = .ok (.aload_n 1, 1) := by decide +kernel
theorem d_Y_readFrom_1 : decode b_Y_readFrom 1 = .ok (.bipush 77, 2) := by decide +kernel
theorem d_Y_readFrom_3 : decode b_Y_readFrom 3 = .ok (.invokevirtual 9, 3) := by decide +kernel
theorem d_Y_readFrom_6 : decode b_Y_readFrom 6 = .ok (.aload_n 0, 1) := by decide +kernel
theorem d_Y_readFrom_7 : decode b_Y_readFrom 7 = .ok (.aload_n 1, 1) := by decide +kernel
theorem d_Y_readFrom_8 : decode b_Y_readFrom 8 = .ok (.iconst 1, 1) := by decide +kernel
theorem d_Y_readFrom_9 : decode b_Y_readFrom 9 = .ok (.bipush 12, 2) := by decide +kernel
theorem d_Y_readFrom_11 : decode b_Y_readFrom 11 = .ok (.invokevirtual 15, 3) := by decide +kernel
theorem d_Y_readFrom_14 : decode b_Y_readFrom 14 = .ok (.putfield 19, 3) := by decide +kernel
theorem d_Y_readFrom_17 : decode b_Y_readFrom 17 = .ok (.aload_n 1, 1) := by decide +kernel
theorem d_Y_readFrom_18 : decode b_Y_readFrom 18 = .ok (.bipush 46, 2) := by decide +kernel
theorem d_Y_readFrom_20 : decode b_Y_readFrom 20 = .ok (.invokevirtual 9, 3) := by decide +kernel
theorem d_Y_readFrom_23 : decode b_Y_readFrom 23 = .ok (.aload_n 0, 1) := by decide +kernel
theorem d_Y_readFrom_24 : decode b_Y_readFrom 24 = .ok (.aload_n 1, 1) := by decide +kernel
theorem d_Y_readFrom_25 : decode b_Y_readFrom 25 = .ok (.iconst 1, 1) := by decide +kernel
theorem d_Y_readFrom_26 : decode b_Y_readFrom 26 = .ok (.iconst 5, 1) := by decide +kernel
theorem d_Y_readFrom_27 : decode b_Y_readFrom 27 = .ok (.invokevirtual 15, 3) := by decide +kernel
theorem d_Y_readFrom_30 : decode b_Y_readFrom 30 = .ok (.putfield 25, 3) := by decide +kernel
theorem d_Y_readFrom_33 : decode b_Y_readFrom 33 = .ok (.aload_n 1, 1) := by decide +kernel
theorem d_Y_readFrom_34 : decode b_Y_readFrom 34 = .ok (.bipush 46, 2) := by decide +kernel
theorem d_Y_readFrom_36 : decode b_Y_readFrom 36 = .ok (.invokevirtual 9, 3) := by decide +kernel
theorem d_Y_readFrom_39 : decode b_Y_readFrom 39 = .ok (.aload_n 0, 1) := by decide +kernel
theorem d_Y_readFrom_40 : decode b_Y_readFrom 40 = .ok (.aload_n 1, 1) := by decide +kernel
theorem d_Y_readFrom_41 : decode b_Y_readFrom 41 = .ok (.iconst 0, 1) := by decide +kernel
theorem d_Y_readFrom_42 : decode b_Y_readFrom 42 = .ok (.bipush 6, 2) := by decide +kernel
theorem d_Y_readFrom_44 : decode b_Y_readFrom 44 = .ok (.invokevirtual 15, 3) := by decide +kernel
theorem d_Y_readFrom_47 : decode b_Y_readFrom 47 = .ok (.putfield 28, 3) := by decide +kernel
theorem d_Y_readFrom_50 : decode b_Y_readFrom 50 = .ok (.aload_n 1, 1) := by decide +kernel
theorem d_Y_readFrom_51 : decode b_Y_readFrom 51 = .ok (.bipush 47, 2) := by decide +kernel
theorem d_Y_readFrom_53 : decode b_Y_readFrom 53 = .ok (.invokevirtual 9, 3) := by decide +kernel
theorem d_Y_readFrom_56 : decode b_Y_readFrom 56 = .ok (.aload_n 0, 1) := by decide +kernel
theorem d_Y_readFrom_57 : decode b_Y_readFrom 57 = .ok (.aload_n 1, 1) := by decide +kernel
theorem d_Y_readFrom_58 : decode b_Y_readFrom 58 = .ok (.iconst 0, 1) := by decide +kernel
theorem d_Y_readFrom_59 : decode b_Y_readFrom 59 = .ok (.sipush 1439, 3) := by decide +kernel
theorem d_Y_readFrom_62 : decode b_Y_readFrom 62 = .ok (.invokevirtual 15, 3) := by decide +kernel
theorem d_Y_readFrom_65 : decode b_Y_readFrom 65 = .ok (.putfield 31, 3) := by decide +kernel
theorem d_Y_readFrom_68 : decode b_Y_readFrom 68 = .ok (.return_, 1) := by decide +kernel
theorem ci_Y_readFrom : jm_ci jm_G y_Y_readFrom (Cond.code y_Y_readFrom b_Y_readFrom 2 (none)) 2 1 := ⟨jm_g2 239 rfl rfl, Or.inl ⟨_, _, rfl⟩, jm_g1 7 rfl rfl, ⟨by decide, by decide⟩, by decide +kernel⟩
theorem im_Y_readFrom : Cond.instanceMethod y_Y_readFrom ∈ jm_G := jm_g2 237 rfl rfl
theorem se_Y_readFrom : Cond.selects y_Y_readFrom.cls y_Y_readFrom y_Y_readFrom ∈ jm_G := jm_g2 238 rfl rfl
def y_Y_secondIn : MethodName := ⟨"JobHouse$YearRule", "secondIn", "(I)J"⟩
abbrev b_Y_secondIn : ByteArray := prog_10_method_3_code
theorem d_Y_secondIn_0 : decode b_Y_secondIn 0 = .ok (.iload_n 1, 1) := by decide +kernel
theorem d_Y_secondIn_1 : decode b_Y_secondIn 1 = .ok (.aload_n 0, 1) := by decide +kernel
theorem d_Y_secondIn_2 : decode b_Y_secondIn 2 = .ok (.getfield 19, 3) := by decide +kernel
theorem d_Y_secondIn_5 : decode b_Y_secondIn 5 = .ok (.invokestatic 34, 3) := by decide +kernel
theorem d_Y_secondIn_8 : decode b_Y_secondIn 8 = .ok (.istore_n 2, 1) := by decide +kernel
theorem d_Y_secondIn_9 : decode b_Y_secondIn 9 = .ok (.aload_n 0, 1) := by decide +kernel
theorem d_Y_secondIn_10 : decode b_Y_secondIn 10 = .ok (.getfield 28, 3) := by decide +kernel
theorem d_Y_secondIn_13 : decode b_Y_secondIn 13 = .ok (.iconst 1, 1) := by decide +kernel
theorem d_Y_secondIn_14 : decode b_Y_secondIn 14 = .ok (.iadd, 1) := by decide +kernel
theorem d_Y_secondIn_15 : decode b_Y_secondIn 15 = .ok (.iload_n 2, 1) := by decide +kernel
theorem d_Y_secondIn_16 : decode b_Y_secondIn 16 = .ok (.invokestatic 39, 3) := by decide +kernel
theorem d_Y_secondIn_19 : decode b_Y_secondIn 19 = .ok (.isub, 1) := by decide +kernel
theorem d_Y_secondIn_20 : decode b_Y_secondIn 20 = .ok (.bipush 7, 2) := by decide +kernel
theorem d_Y_secondIn_22 : decode b_Y_secondIn 22 = .ok (.invokestatic 43, 3) := by decide +kernel
theorem d_Y_secondIn_25 : decode b_Y_secondIn 25 = .ok (.istore_n 3, 1) := by decide +kernel
theorem d_Y_secondIn_26 : decode b_Y_secondIn 26 = .ok (.iload_n 3, 1) := by decide +kernel
theorem d_Y_secondIn_27 : decode b_Y_secondIn 27 = .ok (.bipush 7, 2) := by decide +kernel
theorem d_Y_secondIn_29 : decode b_Y_secondIn 29 = .ok (.aload_n 0, 1) := by decide +kernel
theorem d_Y_secondIn_30 : decode b_Y_secondIn 30 = .ok (.getfield 25, 3) := by decide +kernel
theorem d_Y_secondIn_33 : decode b_Y_secondIn 33 = .ok (.iconst 1, 1) := by decide +kernel
theorem d_Y_secondIn_34 : decode b_Y_secondIn 34 = .ok (.isub, 1) := by decide +kernel
theorem d_Y_secondIn_35 : decode b_Y_secondIn 35 = .ok (.imul, 1) := by decide +kernel
theorem d_Y_secondIn_36 : decode b_Y_secondIn 36 = .ok (.iadd, 1) := by decide +kernel
theorem d_Y_secondIn_37 : decode b_Y_secondIn 37 = .ok (.istore 4, 2) := by decide +kernel
theorem d_Y_secondIn_39 : decode b_Y_secondIn 39 = .ok (.iload 4, 2) := by decide +kernel
theorem d_Y_secondIn_41 : decode b_Y_secondIn 41 = .ok (.iload_n 1, 1) := by decide +kernel
theorem d_Y_secondIn_42 : decode b_Y_secondIn 42 = .ok (.aload_n 0, 1) := by decide +kernel
theorem d_Y_secondIn_43 : decode b_Y_secondIn 43 = .ok (.getfield 19, 3) := by decide +kernel
theorem d_Y_secondIn_46 : decode b_Y_secondIn 46 = .ok (.invokestatic 48, 3) := by decide +kernel
theorem d_Y_secondIn_49 : decode b_Y_secondIn 49 = .ok (.if_icmp .lt 6, 3) := by decide +kernel
theorem d_Y_secondIn_52 : decode b_Y_secondIn 52 = .ok (.iinc 4 (-7), 3) := by decide +kernel
theorem d_Y_secondIn_55 : decode b_Y_secondIn 55 = .ok (.iload_n 2, 1) := by decide +kernel
theorem d_Y_secondIn_56 : decode b_Y_secondIn 56 = .ok (.iload 4, 2) := by decide +kernel
theorem d_Y_secondIn_58 : decode b_Y_secondIn 58 = .ok (.iadd, 1) := by decide +kernel
theorem d_Y_secondIn_59 : decode b_Y_secondIn 59 = .ok (.i2l, 1) := by decide +kernel
theorem d_Y_secondIn_60 : decode b_Y_secondIn 60 = .ok (.ldc2_w 51, 3) := by decide +kernel
theorem d_Y_secondIn_63 : decode b_Y_secondIn 63 = .ok (.lmul, 1) := by decide +kernel
theorem d_Y_secondIn_64 : decode b_Y_secondIn 64 = .ok (.aload_n 0, 1) := by decide +kernel
theorem d_Y_secondIn_65 : decode b_Y_secondIn 65 = .ok (.getfield 31, 3) := by decide +kernel
theorem d_Y_secondIn_68 : decode b_Y_secondIn 68 = .ok (.bipush 60, 2) := by decide +kernel
theorem d_Y_secondIn_70 : decode b_Y_secondIn 70 = .ok (.imul, 1) := by decide +kernel
theorem d_Y_secondIn_71 : decode b_Y_secondIn 71 = .ok (.i2l, 1) := by decide +kernel
theorem d_Y_secondIn_72 : decode b_Y_secondIn 72 = .ok (.ladd, 1) := by decide +kernel
theorem d_Y_secondIn_73 : decode b_Y_secondIn 73 = .ok (.lreturn, 1) := by decide +kernel
theorem ci_Y_secondIn : jm_ci jm_G y_Y_secondIn (Cond.code y_Y_secondIn b_Y_secondIn 5 (some FieldType.long)) 5 1 := ⟨jm_g3 221 rfl rfl, Or.inl ⟨_, _, rfl⟩, jm_g1 7 rfl rfl, ⟨by decide, by decide⟩, by decide +kernel⟩
theorem im_Y_secondIn : Cond.instanceMethod y_Y_secondIn ∈ jm_G := jm_g3 219 rfl rfl
theorem se_Y_secondIn : Cond.selects y_Y_secondIn.cls y_Y_secondIn y_Y_secondIn ∈ jm_G := jm_g3 220 rfl rfl
def y_Y_latestUpTo : MethodName := ⟨"JobHouse$YearRule", "latestUpTo", "(JII)J"⟩
abbrev b_Y_latestUpTo : ByteArray := prog_10_method_4_code
theorem d_Y_latestUpTo_0 : decode b_Y_latestUpTo 0 = .ok (.iload 4, 2) := by decide +kernel
theorem d_Y_latestUpTo_2 : decode b_Y_latestUpTo 2 = .ok (.sipush 2299, 3) := by decide +kernel
theorem d_Y_latestUpTo_5 : decode b_Y_latestUpTo 5 = .ok (.invokestatic 53, 3) := by decide +kernel
theorem d_Y_latestUpTo_8 : decode b_Y_latestUpTo 8 = .ok (.istore 5, 2) := by decide +kernel
theorem d_Y_latestUpTo_10 : decode b_Y_latestUpTo 10 = .ok (.iload 5, 2) := by decide +kernel
theorem d_Y_latestUpTo_12 : decode b_Y_latestUpTo 12 = .ok (.sipush 1970, 3) := by decide +kernel
theorem d_Y_latestUpTo_15 : decode b_Y_latestUpTo 15 = .ok (.if_icmp .lt 20, 3) := by decide +kernel
theorem d_Y_latestUpTo_18 : decode b_Y_latestUpTo 18 = .ok (.aload_n 0, 1) := by decide +kernel
theorem d_Y_latestUpTo_19 : decode b_Y_latestUpTo 19 = .ok (.iload 5, 2) := by decide +kernel
theorem d_Y_latestUpTo_21 : decode b_Y_latestUpTo 21 = .ok (.invokevirtual 56, 3) := by decide +kernel
theorem d_Y_latestUpTo_24 : decode b_Y_latestUpTo 24 = .ok (.iload_n 3, 1) := by decide +kernel
theorem d_Y_latestUpTo_25 : decode b_Y_latestUpTo 25 = .ok (.i2l, 1) := by decide +kernel
theorem d_Y_latestUpTo_26 : decode b_Y_latestUpTo 26 = .ok (.lsub, 1) := by decide +kernel
theorem d_Y_latestUpTo_27 : decode b_Y_latestUpTo 27 = .ok (.lload_n 1, 1) := by decide +kernel
theorem d_Y_latestUpTo_28 : decode b_Y_latestUpTo 28 = .ok (.lcmp, 1) := by decide +kernel
theorem d_Y_latestUpTo_29 : decode b_Y_latestUpTo 29 = .ok (.ifCond .le 6, 3) := by decide +kernel
theorem d_Y_latestUpTo_32 : decode b_Y_latestUpTo 32 = .ok (.iinc 5 (-1), 3) := by decide +kernel
theorem d_Y_latestUpTo_35 : decode b_Y_latestUpTo 35 = .ok (.iload 5, 2) := by decide +kernel
theorem d_Y_latestUpTo_37 : decode b_Y_latestUpTo 37 = .ok (.sipush 1970, 3) := by decide +kernel
theorem d_Y_latestUpTo_40 : decode b_Y_latestUpTo 40 = .ok (.if_icmp .ge 9, 3) := by decide +kernel
theorem d_Y_latestUpTo_43 : decode b_Y_latestUpTo 43 = .ok (.ldc2_w 60, 3) := by decide +kernel
theorem d_Y_latestUpTo_46 : decode b_Y_latestUpTo 46 = .ok (.goto 12, 3) := by decide +kernel
theorem d_Y_latestUpTo_49 : decode b_Y_latestUpTo 49 = .ok (.aload_n 0, 1) := by decide +kernel
theorem d_Y_latestUpTo_50 : decode b_Y_latestUpTo 50 = .ok (.iload 5, 2) := by decide +kernel
theorem d_Y_latestUpTo_52 : decode b_Y_latestUpTo 52 = .ok (.invokevirtual 56, 3) := by decide +kernel
theorem d_Y_latestUpTo_55 : decode b_Y_latestUpTo 55 = .ok (.iload_n 3, 1) := by decide +kernel
theorem d_Y_latestUpTo_56 : decode b_Y_latestUpTo 56 = .ok (.i2l, 1) := by decide +kernel
theorem d_Y_latestUpTo_57 : decode b_Y_latestUpTo 57 = .ok (.lsub, 1) := by decide +kernel
theorem d_Y_latestUpTo_58 : decode b_Y_latestUpTo 58 = .ok (.lreturn, 1) := by decide +kernel
theorem ci_Y_latestUpTo : jm_ci jm_G y_Y_latestUpTo (Cond.code y_Y_latestUpTo b_Y_latestUpTo 6 (some FieldType.long)) 6 3 := ⟨jm_g3 216 rfl rfl, Or.inl ⟨_, _, rfl⟩, jm_g1 7 rfl rfl, ⟨by decide, by decide⟩, by decide +kernel⟩
theorem im_Y_latestUpTo : Cond.instanceMethod y_Y_latestUpTo ∈ jm_G := jm_g3 214 rfl rfl
theorem se_Y_latestUpTo : Cond.selects y_Y_latestUpTo.cls y_Y_latestUpTo y_Y_latestUpTo ∈ jm_G := jm_g3 215 rfl rfl
def y_Y_firstBehind : MethodName := ⟨"JobHouse$YearRule", "firstBehind", "(JII)J"⟩
abbrev b_Y_firstBehind : ByteArray := prog_10_method_5_code
theorem d_Y_firstBehind_0 : decode b_Y_firstBehind 0 = .ok (.iload 4, 2) := by decide +kernel
theorem d_Y_firstBehind_2 : decode b_Y_firstBehind 2 = .ok (.sipush 1970, 3) := by decide +kernel
theorem d_Y_firstBehind_5 : decode b_Y_firstBehind 5 = .ok (.invokestatic 62, 3) := by decide +kernel
theorem d_Y_firstBehind_8 : decode b_Y_firstBehind 8 = .ok (.istore 5, 2) := by decide +kernel
theorem d_Y_firstBehind_10 : decode b_Y_firstBehind 10 = .ok (.iload 5, 2) := by decide +kernel
theorem d_Y_firstBehind_12 : decode b_Y_firstBehind 12 = .ok (.sipush 2299, 3) := by decide +kernel
theorem d_Y_firstBehind_15 : decode b_Y_firstBehind 15 = .ok (.if_icmp .gt 20, 3) := by decide +kernel
theorem d_Y_firstBehind_18 : decode b_Y_firstBehind 18 = .ok (.aload_n 0, 1) := by decide +kernel
theorem d_Y_firstBehind_19 : decode b_Y_firstBehind 19 = .ok (.iload 5, 2) := by decide +kernel
theorem d_Y_firstBehind_21 : decode b_Y_firstBehind 21 = .ok (.invokevirtual 56, 3) := by decide +kernel
theorem d_Y_firstBehind_24 : decode b_Y_firstBehind 24 = .ok (.iload_n 3, 1) := by decide +kernel
theorem d_Y_firstBehind_25 : decode b_Y_firstBehind 25 = .ok (.i2l, 1) := by decide +kernel
theorem d_Y_firstBehind_26 : decode b_Y_firstBehind 26 = .ok (.lsub, 1) := by decide +kernel
theorem d_Y_firstBehind_27 : decode b_Y_firstBehind 27 = .ok (.lload_n 1, 1) := by decide +kernel
theorem d_Y_firstBehind_28 : decode b_Y_firstBehind 28 = .ok (.lcmp, 1) := by decide +kernel
theorem d_Y_firstBehind_29 : decode b_Y_firstBehind 29 = .ok (.ifCond .gt 6, 3) := by decide +kernel
theorem d_Y_firstBehind_32 : decode b_Y_firstBehind 32 = .ok (.iinc 5 1, 3) := by decide +kernel
theorem d_Y_firstBehind_35 : decode b_Y_firstBehind 35 = .ok (.iload 5, 2) := by decide +kernel
theorem d_Y_firstBehind_37 : decode b_Y_firstBehind 37 = .ok (.sipush 2299, 3) := by decide +kernel
theorem d_Y_firstBehind_40 : decode b_Y_firstBehind 40 = .ok (.if_icmp .le 9, 3) := by decide +kernel
theorem d_Y_firstBehind_43 : decode b_Y_firstBehind 43 = .ok (.ldc2_w 65, 3) := by decide +kernel
theorem d_Y_firstBehind_46 : decode b_Y_firstBehind 46 = .ok (.goto 12, 3) := by decide +kernel
theorem d_Y_firstBehind_49 : decode b_Y_firstBehind 49 = .ok (.aload_n 0, 1) := by decide +kernel
theorem d_Y_firstBehind_50 : decode b_Y_firstBehind 50 = .ok (.iload 5, 2) := by decide +kernel
theorem d_Y_firstBehind_52 : decode b_Y_firstBehind 52 = .ok (.invokevirtual 56, 3) := by decide +kernel
theorem d_Y_firstBehind_55 : decode b_Y_firstBehind 55 = .ok (.iload_n 3, 1) := by decide +kernel
theorem d_Y_firstBehind_56 : decode b_Y_firstBehind 56 = .ok (.i2l, 1) := by decide +kernel
theorem d_Y_firstBehind_57 : decode b_Y_firstBehind 57 = .ok (.lsub, 1) := by decide +kernel
theorem d_Y_firstBehind_58 : decode b_Y_firstBehind 58 = .ok (.lreturn, 1) := by decide +kernel
theorem ci_Y_firstBehind : jm_ci jm_G y_Y_firstBehind (Cond.code y_Y_firstBehind b_Y_firstBehind 6 (some FieldType.long)) 6 3 := ⟨jm_g3 237 rfl rfl, Or.inl ⟨_, _, rfl⟩, jm_g1 7 rfl rfl, ⟨by decide, by decide⟩, by decide +kernel⟩
theorem im_Y_firstBehind : Cond.instanceMethod y_Y_firstBehind ∈ jm_G := jm_g3 235 rfl rfl
theorem se_Y_firstBehind : Cond.selects y_Y_firstBehind.cls y_Y_firstBehind y_Y_firstBehind ∈ jm_G := jm_g3 236 rfl rfl
def y_Z_init : MethodName := ⟨"JobHouse$Zone", "<init>", "()V"⟩
abbrev b_Z_init : ByteArray := prog_11_method_1_code
theorem d_Z_init_0 : decode b_Z_init 0 = .ok (.aload_n 0, 1) := by decide +kernel
theorem d_Z_init_1 : decode b_Z_init 1 = .ok (.invokespecial 3, 3) := by decide +kernel
theorem d_Z_init_4 : decode b_Z_init 4 = .ok (.aload_n 0, 1) := by decide +kernel
theorem d_Z_init_5 : decode b_Z_init 5 = .ok (.new 9, 3) := by decide +kernel
theorem d_Z_init_8 : decode b_Z_init 8 = .ok (.dup, 1) := by decide +kernel
theorem d_Z_init_9 : decode b_Z_init 9 = .ok (.invokespecial 11, 3) := by decide +kernel
theorem d_Z_init_12 : decode b_Z_init 12 = .ok (.putfield 12, 3) := by decide +kernel
theorem d_Z_init_15 : decode b_Z_init 15 = .ok (.aload_n 0, 1) := by decide +kernel
theorem d_Z_init_16 : decode b_Z_init 16 = .ok (.new 9, 3) := by decide +kernel
theorem d_Z_init_19 : decode b_Z_init 19 = .ok (.dup, 1) := by decide +kernel
theorem d_Z_init_20 : decode b_Z_init 20 = .ok (.invokespecial 11, 3) := by decide +kernel
theorem d_Z_init_23 : decode b_Z_init 23 = .ok (.putfield 18, 3) := by decide +kernel
theorem d_Z_init_26 : decode b_Z_init 26 = .ok (.aload_n 0, 1) := by decide +kernel
theorem d_Z_init_27 : decode b_Z_init 27 = .ok (.ldc2_w 21, 3) := by decide +kernel
theorem d_Z_init_30 : decode b_Z_init 30 = .ok (.putfield 23, 3) := by decide +kernel
theorem d_Z_init_33 : decode b_Z_init 33 = .ok (.return_, 1) := by decide +kernel
theorem ci_Z_init : jm_ci jm_G y_Z_init (Cond.code y_Z_init b_Z_init 1 (none)) 1 0 := ⟨jm_g1 112 rfl rfl, Or.inl ⟨_, _, rfl⟩, jm_g1 6 rfl rfl, ⟨by decide, by decide⟩, by decide +kernel⟩
theorem im_Z_init : Cond.instanceMethod y_Z_init ∈ jm_G := jm_g1 111 rfl rfl
def y_Z_readFrom : MethodName := ⟨"JobHouse$Zone", "readFrom", "(LJobHouse$Text;)V"⟩
abbrev b_Z_readFrom : ByteArray := prog_11_method_2_code
theorem d_Z_readFrom_0 : decode b_Z_readFrom 0 = .ok (.aload_n 0, 1) := by decide +kernel
theorem d_Z_readFrom_1 : decode b_Z_readFrom 1 = .ok (.ldc2_w 21, 3) := by decide +kernel
theorem d_Z_readFrom_4 : decode b_Z_readFrom 4 = .ok (.putfield 23, 3) := by decide +kernel
theorem d_Z_readFrom_7 : decode b_Z_readFrom 7 = .ok (.aload_n 0, 1) := by decide +kernel
theorem d_Z_readFrom_8 : decode b_Z_readFrom 8 = .ok (.iconst 0, 1) := by decide +kernel
theorem d_Z_readFrom_9 : decode b_Z_readFrom 9 = .ok (.putfield 27, 3) := by decide +kernel
theorem d_Z_readFrom_12 : decode b_Z_readFrom 12 = .ok (.aload_n 1, 1) := by decide +kernel
theorem d_Z_readFrom_13 : decode b_Z_readFrom 13 = .ok (.bipush 45, 2) := by decide +kernel
theorem d_Z_readFrom_15 : decode b_Z_readFrom 15 = .ok (.invokevirtual 31, 3) := by decide +kernel
theorem d_Z_readFrom_18 : decode b_Z_readFrom 18 = .ok (.istore_n 2, 1) := by decide +kernel
theorem d_Z_readFrom_19 : decode b_Z_readFrom 19 = .ok (.iload_n 2, 1) := by decide +kernel
theorem d_Z_readFrom_20 : decode b_Z_readFrom 20 = .ok (.ifCond .ne 9, 3) := by decide +kernel
theorem d_Z_readFrom_23 : decode b_Z_readFrom 23 = .ok (.aload_n 1, 1) := by decide +kernel
theorem d_Z_readFrom_24 : decode b_Z_readFrom 24 = .ok (.bipush 43, 2) := by decide +kernel
theorem d_Z_readFrom_26 : decode b_Z_readFrom 26 = .ok (.invokevirtual 37, 3) := by decide +kernel
theorem d_Z_readFrom_29 : decode b_Z_readFrom 29 = .ok (.aload_n 1, 1) := by decide +kernel
theorem d_Z_readFrom_30 : decode b_Z_readFrom 30 = .ok (.iconst 0, 1) := by decide +kernel
theorem d_Z_readFrom_31 : decode b_Z_readFrom 31 = .ok (.sipush 840, 3) := by decide +kernel
theorem d_Z_readFrom_34 : decode b_Z_readFrom 34 = .ok (.invokevirtual 41, 3) := by decide +kernel
theorem d_Z_readFrom_37 : decode b_Z_readFrom 37 = .ok (.istore_n 3, 1) := by decide +kernel
theorem d_Z_readFrom_38 : decode b_Z_readFrom 38 = .ok (.aload_n 0, 1) := by decide +kernel
theorem d_Z_readFrom_39 : decode b_Z_readFrom 39 = .ok (.iload_n 2, 1) := by decide +kernel
theorem d_Z_readFrom_40 : decode b_Z_readFrom 40 = .ok (.ifCond .eq 8, 3) := by decide +kernel
theorem d_Z_readFrom_43 : decode b_Z_readFrom 43 = .ok (.iload_n 3, 1) := by decide +kernel
theorem d_Z_readFrom_44 : decode b_Z_readFrom 44 = .ok (.ineg, 1) := by decide +kernel
theorem d_Z_readFrom_45 : decode b_Z_readFrom 45 = .ok (.goto 4, 3) := by decide +kernel
theorem d_Z_readFrom_48 : decode b_Z_readFrom 48 = .ok (.iload_n 3, 1) := by decide +kernel
theorem d_Z_readFrom_49 : decode b_Z_readFrom 49 = .ok (.bipush 60, 2) := by decide +kernel
theorem d_Z_readFrom_51 : decode b_Z_readFrom 51 = .ok (.imul, 1) := by decide +kernel
theorem d_Z_readFrom_52 : decode b_Z_readFrom 52 = .ok (.putfield 45, 3) := by decide +kernel
theorem d_Z_readFrom_55 : decode b_Z_readFrom 55 = .ok (.aload_n 1, 1) := by decide +kernel
theorem d_Z_readFrom_56 : decode b_Z_readFrom 56 = .ok (.invokevirtual 48, 3) := by decide +kernel
theorem d_Z_readFrom_59 : decode b_Z_readFrom 59 = .ok (.ifCond .eq 4, 3) := by decide +kernel
theorem d_Z_readFrom_62 : decode b_Z_readFrom 62 = .ok (.return_, 1) := by decide +kernel
theorem d_Z_readFrom_63 : decode b_Z_readFrom 63 = .ok (.aload_n 1, 1) := by decide +kernel
theorem d_Z_readFrom_64 : decode b_Z_readFrom 64 = .ok (.invokevirtual 52, 3) := by decide +kernel
theorem d_Z_readFrom_67 : decode b_Z_readFrom 67 = .ok (.aload_n 0, 1) := by decide +kernel
theorem d_Z_readFrom_68 : decode b_Z_readFrom 68 = .ok (.aload_n 1, 1) := by decide +kernel
theorem d_Z_readFrom_69 : decode b_Z_readFrom 69 = .ok (.iconst 1, 1) := by decide +kernel
theorem d_Z_readFrom_70 : decode b_Z_readFrom 70 = .ok (.bipush 120, 2) := by decide +kernel
theorem d_Z_readFrom_72 : decode b_Z_readFrom 72 = .ok (.invokevirtual 41, 3) := by decide +kernel
theorem d_Z_readFrom_75 : decode b_Z_readFrom 75 = .ok (.bipush 60, 2) := by decide +kernel
theorem d_Z_readFrom_77 : decode b_Z_readFrom 77 = .ok (.imul, 1) := by decide +kernel
theorem d_Z_readFrom_78 : decode b_Z_readFrom 78 = .ok (.putfield 27, 3) := by decide +kernel
theorem d_Z_readFrom_81 : decode b_Z_readFrom 81 = .ok (.aload_n 1, 1) := by decide +kernel
theorem d_Z_readFrom_82 : decode b_Z_readFrom 82 = .ok (.invokevirtual 52, 3) := by decide +kernel
theorem d_Z_readFrom_85 : decode b_Z_readFrom 85 = .ok (.aload_n 0, 1) := by decide +kernel
theorem d_Z_readFrom_86 : decode b_Z_readFrom 86 = .ok (.getfield 12, 3) := by decide +kernel
theorem d_Z_readFrom_89 : decode b_Z_readFrom 89 = .ok (.aload_n 1, 1) := by decide +kernel
theorem d_Z_readFrom_90 : decode b_Z_readFrom 90 = .ok (.invokevirtual 55, 3) := by decide +kernel
theorem d_Z_readFrom_93 : decode b_Z_readFrom 93 = .ok (.aload_n 1, 1) := by decide +kernel
theorem d_Z_readFrom_94 : decode b_Z_readFrom 94 = .ok (.invokevirtual 52, 3) := by decide +kernel
theorem d_Z_readFrom_97 : decode b_Z_readFrom 97 = .ok (.aload_n 0, 1) := by decide +kernel
theorem d_Z_readFrom_98 : decode b_Z_readFrom 98 = .ok (.getfield 18, 3) := by decide +kernel
theorem d_Z_readFrom_101 : decode b_Z_readFrom 101 = .ok (.aload_n 1, 1) := by decide +kernel
theorem d_Z_readFrom_102 : decode b_Z_readFrom 102 = .ok (.invokevirtual 55, 3) := by decide +kernel
theorem d_Z_readFrom_105 : decode b_Z_readFrom 105 = .ok (.aload_n 1, 1) := by decide +kernel
theorem d_Z_readFrom_106 : decode b_Z_readFrom 106 = .ok (.invokevirtual 59, 3) := by decide +kernel
theorem d_Z_readFrom_109 : decode b_Z_readFrom 109 = .ok (.return_, 1) := by decide +kernel
theorem ci_Z_readFrom : jm_ci jm_G y_Z_readFrom (Cond.code y_Z_readFrom b_Z_readFrom 4 (none)) 4 1 := ⟨jm_g2 198 rfl rfl, Or.inl ⟨_, _, rfl⟩, jm_g1 6 rfl rfl, ⟨by decide, by decide⟩, by decide +kernel⟩
theorem im_Z_readFrom : Cond.instanceMethod y_Z_readFrom ∈ jm_G := jm_g2 196 rfl rfl
theorem se_Z_readFrom : Cond.selects y_Z_readFrom.cls y_Z_readFrom y_Z_readFrom ∈ jm_G := jm_g2 197 rfl rfl
def y_Z_offsetAt : MethodName := ⟨"JobHouse$Zone", "offsetAt", "(J)I"⟩
abbrev b_Z_offsetAt : ByteArray := prog_11_method_3_code
theorem d_Z_offsetAt_0 : decode b_Z_offsetAt 0 = .ok (.lload_n 1, 1) := by decide +kernel
theorem d_Z_offsetAt_1 : decode b_Z_offsetAt 1 = .ok (.aload_n 0, 1) := by decide +kernel
theorem d_Z_offsetAt_2 : decode b_Z_offsetAt 2 = .ok (.getfield 62, 3) := by decide +kernel
theorem d_Z_offsetAt_5 : decode b_Z_offsetAt 5 = .ok (.lcmp, 1) := by decide +kernel
theorem d_Z_offsetAt_6 : decode b_Z_offsetAt 6 = .ok (.ifCond .lt 12, 3) := by decide +kernel
theorem d_Z_offsetAt_9 : decode b_Z_offsetAt 9 = .ok (.lload_n 1, 1) := by decide +kernel
theorem d_Z_offsetAt_10 : decode b_Z_offsetAt 10 = .ok (.aload_n 0, 1) := by decide +kernel
theorem d_Z_offsetAt_11 : decode b_Z_offsetAt 11 = .ok (.getfield 23, 3) := by decide +kernel
theorem d_Z_offsetAt_14 : decode b_Z_offsetAt 14 = .ok (.lcmp, 1) := by decide +kernel
theorem d_Z_offsetAt_15 : decode b_Z_offsetAt 15 = .ok (.ifCond .lt 8, 3) := by decide +kernel
theorem d_Z_offsetAt_18 : decode b_Z_offsetAt 18 = .ok (.aload_n 0, 1) := by decide +kernel
theorem d_Z_offsetAt_19 : decode b_Z_offsetAt 19 = .ok (.lload_n 1, 1) := by decide +kernel
theorem d_Z_offsetAt_20 : decode b_Z_offsetAt 20 = .ok (.invokevirtual 65, 3) := by decide +kernel
theorem d_Z_offsetAt_23 : decode b_Z_offsetAt 23 = .ok (.aload_n 0, 1) := by decide +kernel
theorem d_Z_offsetAt_24 : decode b_Z_offsetAt 24 = .ok (.getfield 69, 3) := by decide +kernel
theorem d_Z_offsetAt_27 : decode b_Z_offsetAt 27 = .ok (.ireturn, 1) := by decide +kernel
theorem ci_Z_offsetAt : jm_ci jm_G y_Z_offsetAt (Cond.code y_Z_offsetAt b_Z_offsetAt 3 (some FieldType.int)) 3 1 := ⟨jm_g3 189 rfl rfl, Or.inl ⟨_, _, rfl⟩, jm_g1 6 rfl rfl, ⟨by decide, by decide⟩, by decide +kernel⟩
theorem im_Z_offsetAt : Cond.instanceMethod y_Z_offsetAt ∈ jm_G := jm_g3 187 rfl rfl
theorem se_Z_offsetAt : Cond.selects y_Z_offsetAt.cls y_Z_offsetAt y_Z_offsetAt ∈ jm_G := jm_g3 188 rfl rfl
def y_Z_findStretch : MethodName := ⟨"JobHouse$Zone", "findStretch", "(J)V"⟩
abbrev b_Z_findStretch : ByteArray := prog_11_method_4_code
theorem d_Z_findStretch_0 : decode b_Z_findStretch 0 = .ok (.aload_n 0, 1) := by decide +kernel
theorem d_Z_findStretch_1 : decode b_Z_findStretch 1 = .ok (.getfield 27, 3) := by decide +kernel
theorem d_Z_findStretch_4 : decode b_Z_findStretch 4 = .ok (.ifCond .ne 26, 3) := by decide +kernel
theorem d_Z_findStretch_7 : decode b_Z_findStretch 7 = .ok (.aload_n 0, 1) := by decide +kernel
theorem d_Z_findStretch_8 : decode b_Z_findStretch 8 = .ok (.ldc2_w 21, 3) := by decide +kernel
theorem d_Z_findStretch_11 : decode b_Z_findStretch 11 = .ok (.putfield 62, 3) := by decide +kernel
theorem d_Z_findStretch_14 : decode b_Z_findStretch 14 = .ok (.aload_n 0, 1) := by decide +kernel
theorem d_Z_findStretch_15 : decode b_Z_findStretch 15 = .ok (.ldc2_w 72, 3) := by decide +kernel
theorem d_Z_findStretch_18 : decode b_Z_findStretch 18 = .ok (.putfield 23, 3) := by decide +kernel
theorem d_Z_findStretch_21 : decode b_Z_findStretch 21 = .ok (.aload_n 0, 1) := by decide +kernel
theorem d_Z_findStretch_22 : decode b_Z_findStretch 22 = .ok (.aload_n 0, 1) := by decide +kernel
theorem d_Z_findStretch_23 : decode b_Z_findStretch 23 = .ok (.getfield 45, 3) := by decide +kernel
theorem d_Z_findStretch_26 : decode b_Z_findStretch 26 = .ok (.putfield 69, 3) := by decide +kernel
theorem d_Z_findStretch_29 : decode b_Z_findStretch 29 = .ok (.return_, 1) := by decide +kernel
theorem d_Z_findStretch_30 : decode b_Z_findStretch 30 = .ok (.aload_n 0, 1) := by decide +kernel
theorem d_Z_findStretch_31 : decode b_Z_findStretch 31 = .ok (.getfield 45, 3) := by decide +kernel
theorem d_Z_findStretch_34 : decode b_Z_findStretch 34 = .ok (.aload_n 0, 1) := by decide +kernel
theorem d_Z_findStretch_35 : decode b_Z_findStretch 35 = .ok (.getfield 27, 3) := by decide +kernel
theorem d_Z_findStretch_38 : decode b_Z_findStretch 38 = .ok (.iadd, 1) := by decide +kernel
theorem d_Z_findStretch_39 : decode b_Z_findStretch 39 = .ok (.istore_n 3, 1) := by decide +kernel
theorem d_Z_findStretch_40 : decode b_Z_findStretch 40 = .ok (.lload_n 1, 1) := by decide +kernel
theorem d_Z_findStretch_41 : decode b_Z_findStretch 41 = .ok (.aload_n 0, 1) := by decide +kernel
theorem d_Z_findStretch_42 : decode b_Z_findStretch 42 = .ok (.getfield 45, 3) := by decide +kernel
theorem d_Z_findStretch_45 : decode b_Z_findStretch 45 = .ok (.i2l, 1) := by decide +kernel
theorem d_Z_findStretch_46 : decode b_Z_findStretch 46 = .ok (.ladd, 1) := by decide +kernel
theorem d_Z_findStretch_47 : decode b_Z_findStretch 47 = .ok (.invokestatic 74, 3) := by decide +kernel
theorem d_Z_findStretch_50 : decode b_Z_findStretch 50 = .ok (.invokestatic 80, 3) := by decide +kernel
theorem d_Z_findStretch_53 : decode b_Z_findStretch 53 = .ok (.istore 4, 2) := by decide +kernel
theorem d_Z_findStretch_55 : decode b_Z_findStretch 55 = .ok (.lload_n 1, 1) := by decide +kernel
theorem d_Z_findStretch_56 : decode b_Z_findStretch 56 = .ok (.iload_n 3, 1) := by decide +kernel
theorem d_Z_findStretch_57 : decode b_Z_findStretch 57 = .ok (.i2l, 1) := by decide +kernel
theorem d_Z_findStretch_58 : decode b_Z_findStretch 58 = .ok (.ladd, 1) := by decide +kernel
theorem d_Z_findStretch_59 : decode b_Z_findStretch 59 = .ok (.invokestatic 74, 3) := by decide +kernel
theorem d_Z_findStretch_62 : decode b_Z_findStretch 62 = .ok (.invokestatic 80, 3) := by decide +kernel
theorem d_Z_findStretch_65 : decode b_Z_findStretch 65 = .ok (.istore 5, 2) := by decide +kernel
theorem d_Z_findStretch_67 : decode b_Z_findStretch 67 = .ok (.aload_n 0, 1) := by decide +kernel
theorem d_Z_findStretch_68 : decode b_Z_findStretch 68 = .ok (.getfield 12, 3) := by decide +kernel
theorem d_Z_findStretch_71 : decode b_Z_findStretch 71 = .ok (.lload_n 1, 1) := by decide +kernel
theorem d_Z_findStretch_72 : decode b_Z_findStretch 72 = .ok (.aload_n 0, 1) := by decide +kernel
theorem d_Z_findStretch_73 : decode b_Z_findStretch 73 = .ok (.getfield 45, 3) := by decide +kernel
theorem d_Z_findStretch_76 : decode b_Z_findStretch 76 = .ok (.iload 4, 2) := by decide +kernel
theorem d_Z_findStretch_78 : decode b_Z_findStretch 78 = .ok (.invokevirtual 84, 3) := by decide +kernel
theorem d_Z_findStretch_81 : decode b_Z_findStretch 81 = .ok (.lstore 6, 2) := by decide +kernel
theorem d_Z_findStretch_83 : decode b_Z_findStretch 83 = .ok (.aload_n 0, 1) := by decide +kernel
theorem d_Z_findStretch_84 : decode b_Z_findStretch 84 = .ok (.getfield 18, 3) := by decide +kernel
theorem d_Z_findStretch_87 : decode b_Z_findStretch 87 = .ok (.lload_n 1, 1) := by decide +kernel
theorem d_Z_findStretch_88 : decode b_Z_findStretch 88 = .ok (.iload_n 3, 1) := by decide +kernel
theorem d_Z_findStretch_89 : decode b_Z_findStretch 89 = .ok (.iload 5, 2) := by decide +kernel
theorem d_Z_findStretch_91 : decode b_Z_findStretch 91 = .ok (.invokevirtual 84, 3) := by decide +kernel
theorem d_Z_findStretch_94 : decode b_Z_findStretch 94 = .ok (.lstore 8, 2) := by decide +kernel
theorem d_Z_findStretch_96 : decode b_Z_findStretch 96 = .ok (.aload_n 0, 1) := by decide +kernel
theorem d_Z_findStretch_97 : decode b_Z_findStretch 97 = .ok (.getfield 12, 3) := by decide +kernel
theorem d_Z_findStretch_100 : decode b_Z_findStretch 100 = .ok (.lload_n 1, 1) := by decide +kernel
theorem d_Z_findStretch_101 : decode b_Z_findStretch 101 = .ok (.aload_n 0, 1) := by decide +kernel
theorem d_Z_findStretch_102 : decode b_Z_findStretch 102 = .ok (.getfield 45, 3) := by decide +kernel
theorem d_Z_findStretch_105 : decode b_Z_findStretch 105 = .ok (.iload 4, 2) := by decide +kernel
theorem d_Z_findStretch_107 : decode b_Z_findStretch 107 = .ok (.invokevirtual 88, 3) := by decide +kernel
theorem d_Z_findStretch_110 : decode b_Z_findStretch 110 = .ok (.lstore 10, 2) := by decide +kernel
theorem d_Z_findStretch_112 : decode b_Z_findStretch 112 = .ok (.aload_n 0, 1) := by decide +kernel
theorem d_Z_findStretch_113 : decode b_Z_findStretch 113 = .ok (.getfield 18, 3) := by decide +kernel
theorem d_Z_findStretch_116 : decode b_Z_findStretch 116 = .ok (.lload_n 1, 1) := by decide +kernel
theorem d_Z_findStretch_117 : decode b_Z_findStretch 117 = .ok (.iload_n 3, 1) := by decide +kernel
theorem d_Z_findStretch_118 : decode b_Z_findStretch 118 = .ok (.iload 5, 2) := by decide +kernel
theorem d_Z_findStretch_120 : decode b_Z_findStretch 120 = .ok (.invokevirtual 88, 3) := by decide +kernel
theorem d_Z_findStretch_123 : decode b_Z_findStretch 123 = .ok (.lstore 12, 2) := by decide +kernel
theorem d_Z_findStretch_125 : decode b_Z_findStretch 125 = .ok (.aload_n 0, 1) := by decide +kernel
theorem d_Z_findStretch_126 : decode b_Z_findStretch 126 = .ok (.lload 6, 2) := by decide +kernel
theorem d_Z_findStretch_128 : decode b_Z_findStretch 128 = .ok (.lload 8, 2) := by decide +kernel
theorem d_Z_findStretch_130 : decode b_Z_findStretch 130 = .ok (.invokestatic 91, 3) := by decide +kernel
theorem d_Z_findStretch_133 : decode b_Z_findStretch 133 = .ok (.putfield 62, 3) := by decide +kernel
theorem d_Z_findStretch_136 : decode b_Z_findStretch 136 = .ok (.aload_n 0, 1) := by decide +kernel
theorem d_Z_findStretch_137 : decode b_Z_findStretch 137 = .ok (.lload 10, 2) := by decide +kernel
theorem d_Z_findStretch_139 : decode b_Z_findStretch 139 = .ok (.lload 12, 2) := by decide +kernel
theorem d_Z_findStretch_141 : decode b_Z_findStretch 141 = .ok (.invokestatic 97, 3) := by decide +kernel
theorem d_Z_findStretch_144 : decode b_Z_findStretch 144 = .ok (.putfield 23, 3) := by decide +kernel
theorem d_Z_findStretch_147 : decode b_Z_findStretch 147 = .ok (.aload_n 0, 1) := by decide +kernel
theorem d_Z_findStretch_148 : decode b_Z_findStretch 148 = .ok (.lload 6, 2) := by decide +kernel
theorem d_Z_findStretch_150 : decode b_Z_findStretch 150 = .ok (.lload 8, 2) := by decide +kernel
theorem d_Z_findStretch_152 : decode b_Z_findStretch 152 = .ok (.lcmp, 1) := by decide +kernel
theorem d_Z_findStretch_153 : decode b_Z_findStretch 153 = .ok (.ifCond .le 7, 3) := by decide +kernel
theorem d_Z_findStretch_156 : decode b_Z_findStretch 156 = .ok (.iload_n 3, 1) := by decide +kernel
theorem d_Z_findStretch_157 : decode b_Z_findStretch 157 = .ok (.goto 7, 3) := by decide +kernel
theorem d_Z_findStretch_160 : decode b_Z_findStretch 160 = .ok (.aload_n 0, 1) := by decide +kernel
theorem d_Z_findStretch_161 : decode b_Z_findStretch 161 = .ok (.getfield 45, 3) := by decide +kernel
theorem d_Z_findStretch_164 : decode b_Z_findStretch 164 = .ok (.putfield 69, 3) := by decide +kernel
theorem d_Z_findStretch_167 : decode b_Z_findStretch 167 = .ok (.return_, 1) := by decide +kernel
theorem ci_Z_findStretch : jm_ci jm_G y_Z_findStretch (Cond.code y_Z_findStretch b_Z_findStretch 14 (none)) 14 1 := ⟨jm_g3 193 rfl rfl, Or.inl ⟨_, _, rfl⟩, jm_g1 6 rfl rfl, ⟨by decide, by decide⟩, by decide +kernel⟩
theorem im_Z_findStretch : Cond.instanceMethod y_Z_findStretch ∈ jm_G := jm_g3 192 rfl rfl
theorem se_Z_findStretch : Cond.selects y_Z_findStretch.cls y_Z_findStretch y_Z_findStretch ∈ jm_G := jm_g0 3 rfl rfl
end
section
theorem fs_B_9 : jm_fs jm_cl jm_G "JobHouse$Job" 9 7 4 (.long) false := ⟨_, jn_T7, 14, jn_y7, rfl, by decide, jn_i7, jn_o7, jn_n7, rfl, rfl, by decide +kernel, Or.inl (jm_g1 220 rfl rfl)⟩
theorem fs_B_15 : jm_fs jm_cl jm_G "JobHouse$Job" 15 7 8 (.int) false := ⟨_, jn_T7, 14, jn_y7, rfl, by decide, jn_i7, jn_o7, jn_n7, rfl, rfl, by decide +kernel, Or.inl (jm_g1 226 rfl rfl)⟩
theorem fs_B_19 : jm_fs jm_cl jm_G "JobHouse$Job" 19 7 2 (.int) false := ⟨_, jn_T7, 14, jn_y7, rfl, by decide, jn_i7, jn_o7, jn_n7, rfl, rfl, by decide +kernel, Or.inl (jm_g1 216 rfl rfl)⟩
theorem fs_B_22 : jm_fs jm_cl jm_G "JobHouse$Job" 22 7 0 (.int) false := ⟨_, jn_T7, 14, jn_y7, rfl, by decide, jn_i7, jn_o7, jn_n7, rfl, rfl, by decide +kernel, Or.inl (jm_g1 212 rfl rfl)⟩
theorem fs_B_25 : jm_fs jm_cl jm_G "JobHouse$Job" 25 7 1 (.int) false := ⟨_, jn_T7, 14, jn_y7, rfl, by decide, jn_i7, jn_o7, jn_n7, rfl, rfl, by decide +kernel, Or.inl (jm_g1 214 rfl rfl)⟩
theorem fs_B_28 : jm_fs jm_cl jm_G "JobHouse$Job" 28 7 3 (.int) false := ⟨_, jn_T7, 14, jn_y7, rfl, by decide, jn_i7, jn_o7, jn_n7, rfl, rfl, by decide +kernel, Or.inl (jm_g1 218 rfl rfl)⟩
theorem fs_B_31 : jm_fs jm_cl jm_G "JobHouse$Job" 31 7 10 (.int) false := ⟨_, jn_T7, 14, jn_y7, rfl, by decide, jn_i7, jn_o7, jn_n7, rfl, rfl, by decide +kernel, Or.inl (jm_g1 230 rfl rfl)⟩
theorem fs_B_34 : jm_fs jm_cl jm_G "JobHouse$Job" 34 7 6 (.long) false := ⟨_, jn_T7, 14, jn_y7, rfl, by decide, jn_i7, jn_o7, jn_n7, rfl, rfl, by decide +kernel, Or.inl (jm_g1 223 rfl rfl)⟩
theorem fs_B_39 : jm_fs jm_cl jm_G "JobHouse$Job" 39 7 9 (.int) false := ⟨_, jn_T7, 14, jn_y7, rfl, by decide, jn_i7, jn_o7, jn_n7, rfl, rfl, by decide +kernel, Or.inl (jm_g1 228 rfl rfl)⟩
theorem fs_L_22 : jm_fs jm_cl jm_G "JobHouse$StartLog" 22 8 3 (.int) false := ⟨_, jn_T8, 5, jn_y8, rfl, by decide, jn_i8, jn_o8, jn_n8, rfl, rfl, by decide +kernel, Or.inl (jm_g1 192 rfl rfl)⟩
theorem fs_L_9 : jm_fs jm_cl jm_G "JobHouse$StartLog" 9 8 0 (.array .long) true := ⟨_, jn_T8, 5, jn_y8, rfl, by decide, jn_i8, jn_o8, jn_n8, rfl, rfl, by decide +kernel, Or.inl (jm_g1 186 rfl rfl)⟩
theorem fs_L_15 : jm_fs jm_cl jm_G "JobHouse$StartLog" 15 8 1 (.array .int) true := ⟨_, jn_T8, 5, jn_y8, rfl, by decide, jn_i8, jn_o8, jn_n8, rfl, rfl, by decide +kernel, Or.inl (jm_g1 188 rfl rfl)⟩
theorem fs_L_19 : jm_fs jm_cl jm_G "JobHouse$StartLog" 19 8 2 (.array .long) true := ⟨_, jn_T8, 5, jn_y8, rfl, by decide, jn_i8, jn_o8, jn_n8, rfl, rfl, by decide +kernel, Or.inl (jm_g1 190 rfl rfl)⟩
theorem fs_L_26 : jm_fs jm_cl jm_G "JobHouse$StartLog" 26 8 4 (.long) false := ⟨_, jn_T8, 5, jn_y8, rfl, by decide, jn_i8, jn_o8, jn_n8, rfl, rfl, by decide +kernel, Or.inl (jm_g1 194 rfl rfl)⟩
def f_B_isAheadOf (sta : Int32) (kin : Int32) (ord : Int32) (sts : Int32) (nom : Int64) (end_ : Int64) (per : Int64) (dur : Int64) (pri : Int32) (pol : Int32) (fai : Int32) (cro : Int32) (zon : Int32) (cal : Int32) (osta : Int32) (okin : Int32) (oord : Int32) (osts : Int32) (onom : Int64) (oend_ : Int64) (oper : Int64) (odur : Int64) (opri : Int32) (opol : Int32) (ofai : Int32) (ocro : Int32) (ozon : Int32) (ocal : Int32) : Int32 :=
  let v74 : Int32 := if oord ≤ ord then 0 else 1
  let v57 : Int32 := if pri ≤ opri then 0 else 1
  let v29 : Int32 := if onom ≤ nom then 0 else 1
  if nom = onom then (if pri = opri then v74 else v57) else v29
set_option maxRecDepth 20000 in
set_option maxHeartbeats 4000000 in
theorem k_B_isAheadOf {l : Launch} {S : State} {D : va_G} {dA : Nat → ClassId} (E : jm_en S D jm_cl (jm_ty dA) jm_G) (a : Nat) (b : Nat) (sta : Int32) (kin : Int32) (ord : Int32) (sts : Int32) (nom : Int64) (end_ : Int64) (per : Int64) (dur : Int64) (pri : Int32) (pol : Int32) (fai : Int32) (cro : Int32) (zon : Int32) (cal : Int32) (osta : Int32) (okin : Int32) (oord : Int32) (osts : Int32) (onom : Int64) (oend_ : Int64) (oper : Int64) (odur : Int64) (opri : Int32) (opol : Int32) (ofai : Int32) (ocro : Int32) (ozon : Int32) (ocal : Int32) (h : jm_H) (h_a : h a = some (.inr (7, [.int sta, .int kin, .int ord, .int sts, .long nom, .long end_, .long per, .long dur, .int pri, .int pol, .int fai, .int cro, .int zon, .int cal]))) (h_b : h b = some (.inr (7, [.int osta, .int okin, .int oord, .int osts, .long onom, .long oend_, .long oper, .long odur, .int opri, .int opol, .int ofai, .int ocro, .int ozon, .int ocal]))) (hnd : ([a, b] : List Nat).Nodup)  : jm_M l S D jm_cl y_B_isAheadOf (Cond.code y_B_isAheadOf b_B_isAheadOf 2 (some FieldType.boolean)) { frames := 0, cells := 0, slots := 0, locals := 0 } [.ref a, .ref b] h (jm_R (some (.int (f_B_isAheadOf sta kin ord sts nom end_ per dur pri pol fai cro zon cal osta okin oord osts onom oend_ oper odur opri opol ofai ocro ozon ocal))) h) 0 0 := by
  refine jm_ofW E (by decide) (Nat.le_of_ble_eq_true rfl) (fun p e s m below meth c X hr hk hmn hout hadm => ?_)
  have X : jm_cx p s m ([.ref a, .ref b] : List Value).toArray c S D jm_cl (jm_ty dA) jm_G b_B_isAheadOf 2 "JobHouse$Job" := X
  have hL : ∀ zz ∈ ([(a, .inr (7, [.int sta, .int kin, .int ord, .int sts, .long nom, .long end_, .long per, .long dur, .int pri, .int pol, .int fai, .int cro, .int zon, .int cal])), (b, .inr (7, [.int osta, .int okin, .int oord, .int osts, .long onom, .long oend_, .long oper, .long odur, .int opri, .int opol, .int ofai, .int ocro, .int ozon, .int ocal]))] : List (Nat × va_E)), h zz.1 = some zz.2 := List.forall_mem_cons.mpr ⟨h_a, List.forall_mem_cons.mpr ⟨h_b, fun _ hz => absurd hz List.not_mem_nil⟩⟩
  refine jm_hq (jm_us_id hL).symm ?_
  show jm_W p l e ({ frames := 0, cells := 0, slots := 0, locals := 0 }) s m ([.ref a, .ref b] : List Value).toArray below meth c S D jm_cl (jm_Q S D jm_cl below s (jm_R (some (.int (f_B_isAheadOf sta kin ord sts nom end_ per dur pri pol fai cro zon cal osta okin oord osts onom oend_ oper odur opri opol ofai ocro ozon ocal))) h) 0 0) 2 0 [(0, .ref a), (1, .ref b)] [] (jm_us h [(a, .inr (7, [.int sta, .int kin, .int ord, .int sts, .long nom, .long end_, .long per, .long dur, .int pri, .int pol, .int fai, .int cro, .int zon, .int cal])), (b, .inr (7, [.int osta, .int okin, .int oord, .int osts, .long onom, .long oend_, .long oper, .long odur, .int opri, .int opol, .int ofai, .int ocro, .int ozon, .int ocal]))]) 0 0
  refine jm_aload_n X d_B_isAheadOf_0 rfl 0 rfl ?_
  refine jm_get X d_B_isAheadOf_1 fs_B_9 (by refine jm_us_get ?_ 0 rfl; exact hnd) rfl ?_
  refine jm_aload_n X d_B_isAheadOf_4 rfl 1 rfl ?_
  refine jm_get X d_B_isAheadOf_5 fs_B_9 (by refine jm_us_get ?_ 1 rfl; exact hnd) rfl ?_
  refine jm_lcmp X d_B_isAheadOf_8 ?_
  refine jm_lif_eq (tgt := 30) X d_B_isAheadOf_9 (by decide) (fun c1 => ?_) (fun c1 => ?_)
  · refine jm_aload_n X d_B_isAheadOf_30 rfl 0 rfl ?_
    refine jm_get X d_B_isAheadOf_31 fs_B_15 (by refine jm_us_get ?_ 0 rfl; exact hnd) rfl ?_
    refine jm_aload_n X d_B_isAheadOf_34 rfl 1 rfl ?_
    refine jm_get X d_B_isAheadOf_35 fs_B_15 (by refine jm_us_get ?_ 1 rfl; exact hnd) rfl ?_
    refine jm_icmp_eq (tgt := 58) X d_B_isAheadOf_38 (by decide) (fun c2 => ?_) (fun c2 => ?_)
    · refine jm_aload_n X d_B_isAheadOf_58 rfl 0 rfl ?_
      refine jm_get X d_B_isAheadOf_59 fs_B_19 (by refine jm_us_get ?_ 0 rfl; exact hnd) rfl ?_
      refine jm_aload_n X d_B_isAheadOf_62 rfl 1 rfl ?_
      refine jm_get X d_B_isAheadOf_63 fs_B_19 (by refine jm_us_get ?_ 1 rfl; exact hnd) rfl ?_
      have J74_4 : ∀ (v74 : Int32), v74 = (if oord ≤ ord then 0 else 1 : Int32) → jm_W p l e ({ frames := 0, cells := 0, slots := 0, locals := 0 }) s m ([.ref a, .ref b] : List Value).toArray below meth c S D jm_cl (jm_Q S D jm_cl below s (jm_R (some (.int (f_B_isAheadOf sta kin ord sts nom end_ per dur pri pol fai cro zon cal osta okin oord osts onom oend_ oper odur opri opol ofai ocro ozon ocal))) h) 0 0) 2 74 [(0, .ref a), (1, .ref b)] [.int v74] (jm_us h [(a, .inr (7, [.int sta, .int kin, .int ord, .int sts, .long nom, .long end_, .long per, .long dur, .int pri, .int pol, .int fai, .int cro, .int zon, .int cal])), (b, .inr (7, [.int osta, .int okin, .int oord, .int osts, .long onom, .long oend_, .long oper, .long odur, .int opri, .int opol, .int ofai, .int ocro, .int ozon, .int ocal]))]) 0 0 := by
        intro v74 ev74
        exact jm_zret X hr (by first | rfl | (subst ev74; (repeat' split) <;> rfl)) hk d_B_isAheadOf_74 ⟨(by show Outcome.returned _ = Outcome.returned _; unfold f_B_isAheadOf; subst ev74; first | (simp only [if_pos c1, if_pos c2, reduceIte]; done) | (simp only [if_pos c1, if_pos c2, reduceIte]; rfl) | rfl), (jm_us_id hL)⟩
      refine jm_icmp_ge (tgt := 73) X d_B_isAheadOf_66 (by decide) (fun c3 => ?_) (fun c3 => ?_)
      · refine jm_iconst (v := 0) X d_B_isAheadOf_73 (by decide) ?_
        exact J74_4 _ (by first | (simp only [if_pos c3, reduceIte]; done) | (with_reducible rfl))
      · refine jm_iconst (v := 1) X d_B_isAheadOf_69 (by decide) ?_
        refine jm_goto (tgt := 74) X d_B_isAheadOf_70 (by decide) ?_
        exact J74_4 _ (by first | (simp only [if_neg c3, reduceIte]; done) | (with_reducible rfl))
    · refine jm_aload_n X d_B_isAheadOf_41 rfl 0 rfl ?_
      refine jm_get X d_B_isAheadOf_42 fs_B_15 (by refine jm_us_get ?_ 0 rfl; exact hnd) rfl ?_
      refine jm_aload_n X d_B_isAheadOf_45 rfl 1 rfl ?_
      refine jm_get X d_B_isAheadOf_46 fs_B_15 (by refine jm_us_get ?_ 1 rfl; exact hnd) rfl ?_
      have J57_6 : ∀ (v57 : Int32), v57 = (if pri ≤ opri then 0 else 1 : Int32) → jm_W p l e ({ frames := 0, cells := 0, slots := 0, locals := 0 }) s m ([.ref a, .ref b] : List Value).toArray below meth c S D jm_cl (jm_Q S D jm_cl below s (jm_R (some (.int (f_B_isAheadOf sta kin ord sts nom end_ per dur pri pol fai cro zon cal osta okin oord osts onom oend_ oper odur opri opol ofai ocro ozon ocal))) h) 0 0) 2 57 [(0, .ref a), (1, .ref b)] [.int v57] (jm_us h [(a, .inr (7, [.int sta, .int kin, .int ord, .int sts, .long nom, .long end_, .long per, .long dur, .int pri, .int pol, .int fai, .int cro, .int zon, .int cal])), (b, .inr (7, [.int osta, .int okin, .int oord, .int osts, .long onom, .long oend_, .long oper, .long odur, .int opri, .int opol, .int ofai, .int ocro, .int ozon, .int ocal]))]) 0 0 := by
        intro v57 ev57
        exact jm_zret X hr (by first | rfl | (subst ev57; (repeat' split) <;> rfl)) hk d_B_isAheadOf_57 ⟨(by show Outcome.returned _ = Outcome.returned _; unfold f_B_isAheadOf; subst ev57; first | (simp only [if_pos c1, if_neg c2, reduceIte]; done) | (simp only [if_pos c1, if_neg c2, reduceIte]; rfl) | rfl), (jm_us_id hL)⟩
      refine jm_icmp_le (tgt := 56) X d_B_isAheadOf_49 (by decide) (fun c5 => ?_) (fun c5 => ?_)
      · refine jm_iconst (v := 0) X d_B_isAheadOf_56 (by decide) ?_
        exact J57_6 _ (by first | (simp only [if_pos c5, reduceIte]; done) | (with_reducible rfl))
      · refine jm_iconst (v := 1) X d_B_isAheadOf_52 (by decide) ?_
        refine jm_goto (tgt := 57) X d_B_isAheadOf_53 (by decide) ?_
        exact J57_6 _ (by first | (simp only [if_neg c5, reduceIte]; done) | (with_reducible rfl))
  · refine jm_aload_n X d_B_isAheadOf_12 rfl 0 rfl ?_
    refine jm_get X d_B_isAheadOf_13 fs_B_9 (by refine jm_us_get ?_ 0 rfl; exact hnd) rfl ?_
    refine jm_aload_n X d_B_isAheadOf_16 rfl 1 rfl ?_
    refine jm_get X d_B_isAheadOf_17 fs_B_9 (by refine jm_us_get ?_ 1 rfl; exact hnd) rfl ?_
    refine jm_lcmp X d_B_isAheadOf_20 ?_
    have J29_8 : ∀ (v29 : Int32), v29 = (if onom ≤ nom then 0 else 1 : Int32) → jm_W p l e ({ frames := 0, cells := 0, slots := 0, locals := 0 }) s m ([.ref a, .ref b] : List Value).toArray below meth c S D jm_cl (jm_Q S D jm_cl below s (jm_R (some (.int (f_B_isAheadOf sta kin ord sts nom end_ per dur pri pol fai cro zon cal osta okin oord osts onom oend_ oper odur opri opol ofai ocro ozon ocal))) h) 0 0) 2 29 [(0, .ref a), (1, .ref b)] [.int v29] (jm_us h [(a, .inr (7, [.int sta, .int kin, .int ord, .int sts, .long nom, .long end_, .long per, .long dur, .int pri, .int pol, .int fai, .int cro, .int zon, .int cal])), (b, .inr (7, [.int osta, .int okin, .int oord, .int osts, .long onom, .long oend_, .long oper, .long odur, .int opri, .int opol, .int ofai, .int ocro, .int ozon, .int ocal]))]) 0 0 := by
      intro v29 ev29
      exact jm_zret X hr (by first | rfl | (subst ev29; (repeat' split) <;> rfl)) hk d_B_isAheadOf_29 ⟨(by show Outcome.returned _ = Outcome.returned _; unfold f_B_isAheadOf; subst ev29; first | (simp only [if_neg c1, reduceIte]; done) | (simp only [if_neg c1, reduceIte]; rfl) | rfl), (jm_us_id hL)⟩
    refine jm_lif_ge (tgt := 28) X d_B_isAheadOf_21 (by decide) (fun c7 => ?_) (fun c7 => ?_)
    · refine jm_iconst (v := 0) X d_B_isAheadOf_28 (by decide) ?_
      exact J29_8 _ (by first | (simp only [if_pos c7, reduceIte]; done) | (with_reducible rfl))
    · refine jm_iconst (v := 1) X d_B_isAheadOf_24 (by decide) ?_
      refine jm_goto (tgt := 29) X d_B_isAheadOf_25 (by decide) ?_
      exact J29_8 _ (by first | (simp only [if_neg c7, reduceIte]; done) | (with_reducible rfl))
def f_B_isOver (sta : Int32) (kin : Int32) (ord : Int32) (sts : Int32) (nom : Int64) (end_ : Int64) (per : Int64) (dur : Int64) (pri : Int32) (pol : Int32) (fai : Int32) (cro : Int32) (zon : Int32) (cal : Int32) : Int32 :=
  let v31 : Int32 := if sta = 3 then 1 else (if kin = 0 then 1 else (if sts = fai then 1 else 0))
  v31
set_option maxRecDepth 20000 in
set_option maxHeartbeats 4000000 in
theorem k_B_isOver {l : Launch} {S : State} {D : va_G} {dA : Nat → ClassId} (E : jm_en S D jm_cl (jm_ty dA) jm_G) (a : Nat) (sta : Int32) (kin : Int32) (ord : Int32) (sts : Int32) (nom : Int64) (end_ : Int64) (per : Int64) (dur : Int64) (pri : Int32) (pol : Int32) (fai : Int32) (cro : Int32) (zon : Int32) (cal : Int32) (h : jm_H) (h_a : h a = some (.inr (7, [.int sta, .int kin, .int ord, .int sts, .long nom, .long end_, .long per, .long dur, .int pri, .int pol, .int fai, .int cro, .int zon, .int cal]))) (hnd : ([a] : List Nat).Nodup)  : jm_M l S D jm_cl y_B_isOver (Cond.code y_B_isOver b_B_isOver 1 (some FieldType.boolean)) { frames := 0, cells := 0, slots := 0, locals := 0 } [.ref a] h (jm_R (some (.int (f_B_isOver sta kin ord sts nom end_ per dur pri pol fai cro zon cal))) h) 0 0 := by
  refine jm_ofW E (by decide) (Nat.le_of_ble_eq_true rfl) (fun p e s m below meth c X hr hk hmn hout hadm => ?_)
  have X : jm_cx p s m ([.ref a] : List Value).toArray c S D jm_cl (jm_ty dA) jm_G b_B_isOver 1 "JobHouse$Job" := X
  have hL : ∀ zz ∈ ([(a, .inr (7, [.int sta, .int kin, .int ord, .int sts, .long nom, .long end_, .long per, .long dur, .int pri, .int pol, .int fai, .int cro, .int zon, .int cal]))] : List (Nat × va_E)), h zz.1 = some zz.2 := List.forall_mem_cons.mpr ⟨h_a, fun _ hz => absurd hz List.not_mem_nil⟩
  refine jm_hq (jm_us_id hL).symm ?_
  show jm_W p l e ({ frames := 0, cells := 0, slots := 0, locals := 0 }) s m ([.ref a] : List Value).toArray below meth c S D jm_cl (jm_Q S D jm_cl below s (jm_R (some (.int (f_B_isOver sta kin ord sts nom end_ per dur pri pol fai cro zon cal))) h) 0 0) 1 0 [(0, .ref a)] [] (jm_us h [(a, .inr (7, [.int sta, .int kin, .int ord, .int sts, .long nom, .long end_, .long per, .long dur, .int pri, .int pol, .int fai, .int cro, .int zon, .int cal]))]) 0 0
  refine jm_aload_n X d_B_isOver_0 rfl 0 rfl ?_
  refine jm_get X d_B_isOver_1 fs_B_22 (by refine jm_us_get ?_ 0 rfl; exact hnd) rfl ?_
  refine jm_iconst (v := 3) X d_B_isOver_4 (by decide) ?_
  have J31_2 : ∀ (v31 : Int32), v31 = (if sta = 3 then 1 else (if kin = 0 then 1 else (if sts = fai then 1 else 0)) : Int32) → jm_W p l e ({ frames := 0, cells := 0, slots := 0, locals := 0 }) s m ([.ref a] : List Value).toArray below meth c S D jm_cl (jm_Q S D jm_cl below s (jm_R (some (.int (f_B_isOver sta kin ord sts nom end_ per dur pri pol fai cro zon cal))) h) 0 0) 1 31 [(0, .ref a)] [.int v31] (jm_us h [(a, .inr (7, [.int sta, .int kin, .int ord, .int sts, .long nom, .long end_, .long per, .long dur, .int pri, .int pol, .int fai, .int cro, .int zon, .int cal]))]) 0 0 := by
    intro v31 ev31
    exact jm_zret X hr (by first | rfl | (subst ev31; (repeat' split) <;> rfl)) hk d_B_isOver_31 ⟨(by show Outcome.returned _ = Outcome.returned _; unfold f_B_isOver; subst ev31; rfl), (jm_us_id hL)⟩
  refine jm_icmp_eq (tgt := 26) X d_B_isOver_5 (by decide) (fun c1 => ?_) (fun c1 => ?_)
  · refine jm_iconst (v := 1) X d_B_isOver_26 (by decide) ?_
    refine jm_goto (tgt := 31) X d_B_isOver_27 (by decide) ?_
    exact J31_2 _ (by first | (simp only [if_pos c1, reduceIte]; done) | (with_reducible rfl))
  · refine jm_aload_n X d_B_isOver_8 rfl 0 rfl ?_
    refine jm_get X d_B_isOver_9 fs_B_25 (by refine jm_us_get ?_ 0 rfl; exact hnd) rfl ?_
    refine jm_if_eq (tgt := 26) X d_B_isOver_12 (by decide) (fun c3 => ?_) (fun c3 => ?_)
    · refine jm_iconst (v := 1) X d_B_isOver_26 (by decide) ?_
      refine jm_goto (tgt := 31) X d_B_isOver_27 (by decide) ?_
      exact J31_2 _ (by first | (simp only [if_neg c1, if_pos c3, reduceIte]; done) | (with_reducible rfl))
    · refine jm_aload_n X d_B_isOver_15 rfl 0 rfl ?_
      refine jm_get X d_B_isOver_16 fs_B_28 (by refine jm_us_get ?_ 0 rfl; exact hnd) rfl ?_
      refine jm_aload_n X d_B_isOver_19 rfl 0 rfl ?_
      refine jm_get X d_B_isOver_20 fs_B_31 (by refine jm_us_get ?_ 0 rfl; exact hnd) rfl ?_
      refine jm_icmp_ne (tgt := 30) X d_B_isOver_23 (by decide) (fun c4 => ?_) (fun c4 => ?_)
      · refine jm_iconst (v := 0) X d_B_isOver_30 (by decide) ?_
        exact J31_2 _ (by first | (simp only [if_neg c1, if_neg c3, if_neg c4, reduceIte]; done) | (with_reducible rfl))
      · refine jm_iconst (v := 1) X d_B_isOver_26 (by decide) ?_
        refine jm_goto (tgt := 31) X d_B_isOver_27 (by decide) ?_
        exact J31_2 _ (by first | (simp only [if_neg c1, if_neg c3, if_pos c4, reduceIte]; done) | (with_reducible rfl))
def f_B_rateTimeBehind (ti : Int64) (sta : Int32) (kin : Int32) (ord : Int32) (sts : Int32) (nom : Int64) (end_ : Int64) (per : Int64) (dur : Int64) (pri : Int32) (pol : Int32) (fai : Int32) (cro : Int32) (zon : Int32) (cal : Int32) : Int64 :=
  if ((1 : Int64)) ≤ per then (if pol = 2 then (nom + ((((ti - nom) / per) + 1) * per)) else (if pol = 1 then (if ((ti - nom) / per) ≤ 1 then (nom + per) else (nom + (((ti - nom) / per) * per))) else (nom + per))) else (-1)
set_option maxRecDepth 20000 in
set_option maxHeartbeats 4000000 in
theorem k_B_rateTimeBehind {l : Launch} {S : State} {D : va_G} {dA : Nat → ClassId} (E : jm_en S D jm_cl (jm_ty dA) jm_G) (a : Nat) (ti : Int64) (sta : Int32) (kin : Int32) (ord : Int32) (sts : Int32) (nom : Int64) (end_ : Int64) (per : Int64) (dur : Int64) (pri : Int32) (pol : Int32) (fai : Int32) (cro : Int32) (zon : Int32) (cal : Int32) (h : jm_H) (h_a : h a = some (.inr (7, [.int sta, .int kin, .int ord, .int sts, .long nom, .long end_, .long per, .long dur, .int pri, .int pol, .int fai, .int cro, .int zon, .int cal]))) (hnd : ([a] : List Nat).Nodup)  : jm_M l S D jm_cl y_B_rateTimeBehind (Cond.code y_B_rateTimeBehind b_B_rateTimeBehind 5 (some FieldType.long)) { frames := 0, cells := 0, slots := 0, locals := 0 } [.ref a, .long ti] h (jm_R (some (.long (f_B_rateTimeBehind ti sta kin ord sts nom end_ per dur pri pol fai cro zon cal))) h) 0 0 := by
  refine jm_ofW E (by decide) (Nat.le_of_ble_eq_true rfl) (fun p e s m below meth c X hr hk hmn hout hadm => ?_)
  have X : jm_cx p s m ([.ref a, .long ti] : List Value).toArray c S D jm_cl (jm_ty dA) jm_G b_B_rateTimeBehind 5 "JobHouse$Job" := X
  have hL : ∀ zz ∈ ([(a, .inr (7, [.int sta, .int kin, .int ord, .int sts, .long nom, .long end_, .long per, .long dur, .int pri, .int pol, .int fai, .int cro, .int zon, .int cal]))] : List (Nat × va_E)), h zz.1 = some zz.2 := List.forall_mem_cons.mpr ⟨h_a, fun _ hz => absurd hz List.not_mem_nil⟩
  refine jm_hq (jm_us_id hL).symm ?_
  show jm_W p l e ({ frames := 0, cells := 0, slots := 0, locals := 0 }) s m ([.ref a, .long ti] : List Value).toArray below meth c S D jm_cl (jm_Q S D jm_cl below s (jm_R (some (.long (f_B_rateTimeBehind ti sta kin ord sts nom end_ per dur pri pol fai cro zon cal))) h) 0 0) 5 0 [(0, .ref a), (1, .long ti)] [] (jm_us h [(a, .inr (7, [.int sta, .int kin, .int ord, .int sts, .long nom, .long end_, .long per, .long dur, .int pri, .int pol, .int fai, .int cro, .int zon, .int cal]))]) 0 0
  refine jm_aload_n X d_B_rateTimeBehind_0 rfl 0 rfl ?_
  refine jm_get X d_B_rateTimeBehind_1 fs_B_34 (by refine jm_us_get ?_ 0 rfl; exact hnd) rfl ?_
  refine jm_lconst (v := 1) X d_B_rateTimeBehind_4 (by decide) ?_
  refine jm_lcmp X d_B_rateTimeBehind_5 ?_
  refine jm_lif_ge (tgt := 13) X d_B_rateTimeBehind_6 (by decide) (fun c1 => ?_) (fun c1 => ?_)
  · refine jm_lload_n X d_B_rateTimeBehind_13 rfl 1 rfl ?_
    refine jm_aload_n X d_B_rateTimeBehind_14 rfl 0 rfl ?_
    refine jm_get X d_B_rateTimeBehind_15 fs_B_9 (by refine jm_us_get ?_ 0 rfl; exact hnd) rfl ?_
    refine jm_lsub X d_B_rateTimeBehind_18 ?_
    refine jm_aload_n X d_B_rateTimeBehind_19 rfl 0 rfl ?_
    refine jm_get X d_B_rateTimeBehind_20 fs_B_34 (by refine jm_us_get ?_ 0 rfl; exact hnd) rfl ?_
    refine jm_ldiv X d_B_rateTimeBehind_23 (by intro q; rw [q] at c1; revert c1; decide) ?_
    refine jm_lstore_n X d_B_rateTimeBehind_24 rfl (by decide) (lv1 := [(3, .long ((ti - nom) / per)), (0, .ref a), (1, .long ti)]) rfl ?_
    refine jm_aload_n X d_B_rateTimeBehind_25 rfl 1 rfl ?_
    refine jm_get X d_B_rateTimeBehind_26 fs_B_39 (by refine jm_us_get ?_ 0 rfl; exact hnd) rfl ?_
    refine jm_iconst (v := 2) X d_B_rateTimeBehind_29 (by decide) ?_
    refine jm_icmp_ne (tgt := 47) X d_B_rateTimeBehind_30 (by decide) (fun c2 => ?_) (fun c2 => ?_)
    · refine jm_aload_n X d_B_rateTimeBehind_47 rfl 1 rfl ?_
      refine jm_get X d_B_rateTimeBehind_48 fs_B_39 (by refine jm_us_get ?_ 0 rfl; exact hnd) rfl ?_
      refine jm_iconst (v := 1) X d_B_rateTimeBehind_51 (by decide) ?_
      refine jm_icmp_ne (tgt := 73) X d_B_rateTimeBehind_52 (by decide) (fun c3 => ?_) (fun c3 => ?_)
      · refine jm_aload_n X d_B_rateTimeBehind_73 rfl 1 rfl ?_
        refine jm_get X d_B_rateTimeBehind_74 fs_B_9 (by refine jm_us_get ?_ 0 rfl; exact hnd) rfl ?_
        refine jm_aload_n X d_B_rateTimeBehind_77 rfl 1 rfl ?_
        refine jm_get X d_B_rateTimeBehind_78 fs_B_34 (by refine jm_us_get ?_ 0 rfl; exact hnd) rfl ?_
        refine jm_ladd X d_B_rateTimeBehind_81 ?_
        exact jm_lret X hr hk d_B_rateTimeBehind_82 ⟨(by show Outcome.returned _ = Outcome.returned _; unfold f_B_rateTimeBehind; first | (simp only [if_pos c1, if_neg c2, if_neg c3, reduceIte]; done) | (simp only [if_pos c1, if_neg c2, if_neg c3, reduceIte]; rfl) | rfl), (jm_us_id hL)⟩
      · refine jm_lload_n X d_B_rateTimeBehind_55 rfl 0 rfl ?_
        refine jm_lconst (v := 1) X d_B_rateTimeBehind_56 (by decide) ?_
        refine jm_lcmp X d_B_rateTimeBehind_57 ?_
        refine jm_lif_le (tgt := 73) X d_B_rateTimeBehind_58 (by decide) (fun c4 => ?_) (fun c4 => ?_)
        · refine jm_aload_n X d_B_rateTimeBehind_73 rfl 1 rfl ?_
          refine jm_get X d_B_rateTimeBehind_74 fs_B_9 (by refine jm_us_get ?_ 0 rfl; exact hnd) rfl ?_
          refine jm_aload_n X d_B_rateTimeBehind_77 rfl 1 rfl ?_
          refine jm_get X d_B_rateTimeBehind_78 fs_B_34 (by refine jm_us_get ?_ 0 rfl; exact hnd) rfl ?_
          refine jm_ladd X d_B_rateTimeBehind_81 ?_
          exact jm_lret X hr hk d_B_rateTimeBehind_82 ⟨(by show Outcome.returned _ = Outcome.returned _; unfold f_B_rateTimeBehind; first | (simp only [if_pos c1, if_neg c2, if_pos c3, if_pos c4, reduceIte]; done) | (simp only [if_pos c1, if_neg c2, if_pos c3, if_pos c4, reduceIte]; rfl) | rfl), (jm_us_id hL)⟩
        · refine jm_aload_n X d_B_rateTimeBehind_61 rfl 1 rfl ?_
          refine jm_get X d_B_rateTimeBehind_62 fs_B_9 (by refine jm_us_get ?_ 0 rfl; exact hnd) rfl ?_
          refine jm_lload_n X d_B_rateTimeBehind_65 rfl 0 rfl ?_
          refine jm_aload_n X d_B_rateTimeBehind_66 rfl 1 rfl ?_
          refine jm_get X d_B_rateTimeBehind_67 fs_B_34 (by refine jm_us_get ?_ 0 rfl; exact hnd) rfl ?_
          refine jm_lmul X d_B_rateTimeBehind_70 ?_
          refine jm_ladd X d_B_rateTimeBehind_71 ?_
          exact jm_lret X hr hk d_B_rateTimeBehind_72 ⟨(by show Outcome.returned _ = Outcome.returned _; unfold f_B_rateTimeBehind; first | (simp only [if_pos c1, if_neg c2, if_pos c3, if_neg c4, reduceIte]; done) | (simp only [if_pos c1, if_neg c2, if_pos c3, if_neg c4, reduceIte]; rfl) | rfl), (jm_us_id hL)⟩
    · refine jm_aload_n X d_B_rateTimeBehind_33 rfl 1 rfl ?_
      refine jm_get X d_B_rateTimeBehind_34 fs_B_9 (by refine jm_us_get ?_ 0 rfl; exact hnd) rfl ?_
      refine jm_lload_n X d_B_rateTimeBehind_37 rfl 0 rfl ?_
      refine jm_lconst (v := 1) X d_B_rateTimeBehind_38 (by decide) ?_
      refine jm_ladd X d_B_rateTimeBehind_39 ?_
      refine jm_aload_n X d_B_rateTimeBehind_40 rfl 1 rfl ?_
      refine jm_get X d_B_rateTimeBehind_41 fs_B_34 (by refine jm_us_get ?_ 0 rfl; exact hnd) rfl ?_
      refine jm_lmul X d_B_rateTimeBehind_44 ?_
      refine jm_ladd X d_B_rateTimeBehind_45 ?_
      exact jm_lret X hr hk d_B_rateTimeBehind_46 ⟨(by show Outcome.returned _ = Outcome.returned _; unfold f_B_rateTimeBehind; first | (simp only [if_pos c1, if_pos c2, reduceIte]; done) | (simp only [if_pos c1, if_pos c2, reduceIte]; rfl) | rfl), (jm_us_id hL)⟩
  · refine jm_ldc2 (v := (-1)) X d_B_rateTimeBehind_9 (jm_g5 3 rfl rfl) ?_
    exact jm_lret X hr hk d_B_rateTimeBehind_12 ⟨(by show Outcome.returned _ = Outcome.returned _; unfold f_B_rateTimeBehind; first | (simp only [if_neg c1, reduceIte]; done) | (simp only [if_neg c1, reduceIte]; rfl) | rfl), (jm_us_id hL)⟩
def f_L_add_a_3 (ti : Int64) (sl : Int32) (no : Int64) (siz : Int32) (tot : Int64) (tf : Nat → Int64) (sf : Nat → Int32) (nf : Nat → Int64) : Int32 :=
  let v61 : Int32 := if 500 ≤ siz then siz else (siz + 1)
  v61
def f_L_add_a_4 (ti : Int64) (sl : Int32) (no : Int64) (siz : Int32) (tot : Int64) (tf : Nat → Int64) (sf : Nat → Int32) (nf : Nat → Int64) : Int64 :=
  let v61_1 : Int64 := if 500 ≤ siz then tot else (tot + 1)
  v61_1
def f_L_add_tq (ti : Int64) (sl : Int32) (no : Int64) (siz : Int32) (tot : Int64) (tf : Nat → Int64) (sf : Nat → Int32) (nf : Nat → Int64) : Nat → Int64 :=
  let v61_2 : Nat → Int64 := if 500 ≤ siz then tf else (vp_updL tf (siz : Int32).toNatClampNeg ti)
  v61_2
def f_L_add_sq (ti : Int64) (sl : Int32) (no : Int64) (siz : Int32) (tot : Int64) (tf : Nat → Int64) (sf : Nat → Int32) (nf : Nat → Int64) : Nat → Int32 :=
  let v61_3 : Nat → Int32 := if 500 ≤ siz then sf else (upd sf (siz : Int32).toNatClampNeg sl)
  v61_3
def f_L_add_nq (ti : Int64) (sl : Int32) (no : Int64) (siz : Int32) (tot : Int64) (tf : Nat → Int64) (sf : Nat → Int32) (nf : Nat → Int64) : Nat → Int64 :=
  let v61_4 : Nat → Int64 := if 500 ≤ siz then nf else (vp_updL nf (siz : Int32).toNatClampNeg no)
  v61_4
set_option maxRecDepth 20000 in
set_option maxHeartbeats 4000000 in
theorem k_L_add {l : Launch} {S : State} {D : va_G} {dA : Nat → ClassId} (E : jm_en S D jm_cl (jm_ty dA) jm_G) (a : Nat) (ti : Int64) (sl : Int32) (no : Int64) (tq : Nat) (sq : Nat) (nq : Nat) (siz : Int32) (tot : Int64) (tf : Nat → Int64) (sf : Nat → Int32) (nf : Nat → Int64) (h : jm_H) (h_a : h a = some (.inr (8, [.ref tq, .ref sq, .ref nq, .int siz, .long tot]))) (h_tq : h tq = some (.inl (dA 3, 500, .inr (.inl tf)))) (h_sq : h sq = some (.inl (dA 2, 500, .inl sf))) (h_nq : h nq = some (.inl (dA 3, 500, .inr (.inl nf)))) (hnd : ([a, tq, sq, nq] : List Nat).Nodup) (p1 : 0 ≤ siz) : jm_M l S D jm_cl y_L_add (Cond.code y_L_add b_L_add 6 (none)) { frames := 0, cells := 0, slots := 0, locals := 0 } [.ref a, .long ti, .int sl, .long no] h (jm_R none (jm_us h [(a, .inr (8, [.ref tq, .ref sq, .ref nq, .int (f_L_add_a_3 ti sl no siz tot tf sf nf), .long (f_L_add_a_4 ti sl no siz tot tf sf nf)])), (tq, .inl (dA 3, 500, .inr (.inl (f_L_add_tq ti sl no siz tot tf sf nf)))), (sq, .inl (dA 2, 500, .inl (f_L_add_sq ti sl no siz tot tf sf nf))), (nq, .inl (dA 3, 500, .inr (.inl (f_L_add_nq ti sl no siz tot tf sf nf))))])) 0 0 := by
  refine jm_ofW E (by decide) (Nat.le_of_ble_eq_true rfl) (fun p e s m below meth c X hr hk hmn hout hadm => ?_)
  have X : jm_cx p s m ([.ref a, .long ti, .int sl, .long no] : List Value).toArray c S D jm_cl (jm_ty dA) jm_G b_L_add 6 "JobHouse$StartLog" := X
  have hL : ∀ zz ∈ ([(a, .inr (8, [.ref tq, .ref sq, .ref nq, .int siz, .long tot])), (tq, .inl (dA 3, 500, .inr (.inl tf))), (sq, .inl (dA 2, 500, .inl sf)), (nq, .inl (dA 3, 500, .inr (.inl nf)))] : List (Nat × va_E)), h zz.1 = some zz.2 := List.forall_mem_cons.mpr ⟨h_a, List.forall_mem_cons.mpr ⟨h_tq, List.forall_mem_cons.mpr ⟨h_sq, List.forall_mem_cons.mpr ⟨h_nq, fun _ hz => absurd hz List.not_mem_nil⟩⟩⟩⟩
  refine jm_hq (jm_us_id hL).symm ?_
  show jm_W p l e ({ frames := 0, cells := 0, slots := 0, locals := 0 }) s m ([.ref a, .long ti, .int sl, .long no] : List Value).toArray below meth c S D jm_cl (jm_Q S D jm_cl below s (jm_R none (jm_us h [(a, .inr (8, [.ref tq, .ref sq, .ref nq, .int (f_L_add_a_3 ti sl no siz tot tf sf nf), .long (f_L_add_a_4 ti sl no siz tot tf sf nf)])), (tq, .inl (dA 3, 500, .inr (.inl (f_L_add_tq ti sl no siz tot tf sf nf)))), (sq, .inl (dA 2, 500, .inl (f_L_add_sq ti sl no siz tot tf sf nf))), (nq, .inl (dA 3, 500, .inr (.inl (f_L_add_nq ti sl no siz tot tf sf nf))))])) 0 0) 6 0 [(0, .ref a), (1, .long ti), (3, .int sl), (4, .long no)] [] (jm_us h [(a, .inr (8, [.ref tq, .ref sq, .ref nq, .int siz, .long tot])), (tq, .inl (dA 3, 500, .inr (.inl tf))), (sq, .inl (dA 2, 500, .inl sf)), (nq, .inl (dA 3, 500, .inr (.inl nf)))]) 0 0
  refine jm_aload_n X d_L_add_0 rfl 0 rfl ?_
  refine jm_get X d_L_add_1 fs_L_22 (by refine jm_us_get ?_ 0 rfl; exact hnd) rfl ?_
  refine jm_sipush (v := 500) X d_L_add_4 (by decide) ?_
  have J61_2 : ∀ (v61 : Int32) (v61_1 : Int64) (v61_2 : Nat → Int64) (v61_3 : Nat → Int32) (v61_4 : Nat → Int64), v61 = (if 500 ≤ siz then siz else (siz + 1) : Int32) → v61_1 = (if 500 ≤ siz then tot else (tot + 1) : Int64) → v61_2 = (if 500 ≤ siz then tf else (vp_updL tf (siz : Int32).toNatClampNeg ti) : Nat → Int64) → v61_3 = (if 500 ≤ siz then sf else (upd sf (siz : Int32).toNatClampNeg sl) : Nat → Int32) → v61_4 = (if 500 ≤ siz then nf else (vp_updL nf (siz : Int32).toNatClampNeg no) : Nat → Int64) → jm_W p l e ({ frames := 0, cells := 0, slots := 0, locals := 0 }) s m ([.ref a, .long ti, .int sl, .long no] : List Value).toArray below meth c S D jm_cl (jm_Q S D jm_cl below s (jm_R none (jm_us h [(a, .inr (8, [.ref tq, .ref sq, .ref nq, .int (f_L_add_a_3 ti sl no siz tot tf sf nf), .long (f_L_add_a_4 ti sl no siz tot tf sf nf)])), (tq, .inl (dA 3, 500, .inr (.inl (f_L_add_tq ti sl no siz tot tf sf nf)))), (sq, .inl (dA 2, 500, .inl (f_L_add_sq ti sl no siz tot tf sf nf))), (nq, .inl (dA 3, 500, .inr (.inl (f_L_add_nq ti sl no siz tot tf sf nf))))])) 0 0) 6 61 [(0, .ref a), (1, .long ti), (3, .int sl), (4, .long no)] [] (jm_us h [(a, .inr (8, [.ref tq, .ref sq, .ref nq, .int v61, .long v61_1])), (tq, .inl (dA 3, 500, .inr (.inl v61_2))), (sq, .inl (dA 2, 500, .inl v61_3)), (nq, .inl (dA 3, 500, .inr (.inl v61_4)))]) 0 0 := by
    intro v61 v61_1 v61_2 v61_3 v61_4 ev61 ev61_1 ev61_2 ev61_3 ev61_4
    exact jm_vret X hr hk d_L_add_61 ⟨rfl, (by show jm_us h _ = jm_us h _; unfold f_L_add_a_3 f_L_add_a_4 f_L_add_tq f_L_add_sq f_L_add_nq; subst ev61_4; subst ev61_3; subst ev61_2; subst ev61_1; subst ev61; rfl)⟩
  refine jm_icmp_ge (tgt := 61) X d_L_add_7 (by decide) (fun c1 => ?_) (fun c1 => ?_)
  · exact J61_2 _ _ _ _ _ (by first | (simp only [if_pos c1, reduceIte]; done) | (with_reducible rfl)) (by first | (simp only [if_pos c1, reduceIte]; done) | (with_reducible rfl)) (by first | (simp only [if_pos c1, reduceIte]; done) | (with_reducible rfl)) (by first | (simp only [if_pos c1, reduceIte]; done) | (with_reducible rfl)) (by first | (simp only [if_pos c1, reduceIte]; done) | (with_reducible rfl))
  · refine jm_aload_n X d_L_add_10 rfl 0 rfl ?_
    refine jm_get X d_L_add_11 fs_L_9 (by refine jm_us_get ?_ 0 rfl; exact hnd) rfl ?_
    refine jm_aload_n X d_L_add_14 rfl 0 rfl ?_
    refine jm_get X d_L_add_15 fs_L_22 (by refine jm_us_get ?_ 0 rfl; exact hnd) rfl ?_
    refine jm_lload_n X d_L_add_18 rfl 1 rfl ?_
    refine jm_last (t0 := 3) X d_L_add_19 rfl (by refine jm_us_get ?_ 1 rfl; exact hnd) (jm_in (M := 500) p1 c1 (by decide) rfl) (jm_hq (by refine jm_us_set ?_ 1 (L1 := [(a, .inr (8, [.ref tq, .ref sq, .ref nq, .int siz, .long tot])), (tq, .inl (dA 3, 500, .inr (.inl (vp_updL tf (siz : Int32).toNatClampNeg ti)))), (sq, .inl (dA 2, 500, .inl sf)), (nq, .inl (dA 3, 500, .inr (.inl nf)))]) rfl rfl; exact hnd) ?_)
    refine jm_aload_n X d_L_add_20 rfl 0 rfl ?_
    refine jm_get X d_L_add_21 fs_L_15 (by refine jm_us_get ?_ 0 rfl; exact hnd) rfl ?_
    refine jm_aload_n X d_L_add_24 rfl 0 rfl ?_
    refine jm_get X d_L_add_25 fs_L_22 (by refine jm_us_get ?_ 0 rfl; exact hnd) rfl ?_
    refine jm_iload_n X d_L_add_28 rfl 2 rfl ?_
    refine jm_iast (t0 := 2) X d_L_add_29 rfl (by refine jm_us_get ?_ 2 rfl; exact hnd) (jm_in (M := 500) p1 c1 (by decide) rfl) (jm_hq (by refine jm_us_set ?_ 2 (L1 := [(a, .inr (8, [.ref tq, .ref sq, .ref nq, .int siz, .long tot])), (tq, .inl (dA 3, 500, .inr (.inl (vp_updL tf (siz : Int32).toNatClampNeg ti)))), (sq, .inl (dA 2, 500, .inl (upd sf (siz : Int32).toNatClampNeg sl))), (nq, .inl (dA 3, 500, .inr (.inl nf)))]) rfl rfl; exact hnd) ?_)
    refine jm_aload_n X d_L_add_30 rfl 0 rfl ?_
    refine jm_get X d_L_add_31 fs_L_19 (by refine jm_us_get ?_ 0 rfl; exact hnd) rfl ?_
    refine jm_aload_n X d_L_add_34 rfl 0 rfl ?_
    refine jm_get X d_L_add_35 fs_L_22 (by refine jm_us_get ?_ 0 rfl; exact hnd) rfl ?_
    refine jm_lload X d_L_add_38 3 rfl ?_
    refine jm_last (t0 := 3) X d_L_add_40 rfl (by refine jm_us_get ?_ 3 rfl; exact hnd) (jm_in (M := 500) p1 c1 (by decide) rfl) (jm_hq (by refine jm_us_set ?_ 3 (L1 := [(a, .inr (8, [.ref tq, .ref sq, .ref nq, .int siz, .long tot])), (tq, .inl (dA 3, 500, .inr (.inl (vp_updL tf (siz : Int32).toNatClampNeg ti)))), (sq, .inl (dA 2, 500, .inl (upd sf (siz : Int32).toNatClampNeg sl))), (nq, .inl (dA 3, 500, .inr (.inl (vp_updL nf (siz : Int32).toNatClampNeg no))))]) rfl rfl; exact hnd) ?_)
    refine jm_aload_n X d_L_add_41 rfl 0 rfl ?_
    refine jm_dup X d_L_add_42 rfl ?_
    refine jm_get X d_L_add_43 fs_L_22 (by refine jm_us_get ?_ 0 rfl; exact hnd) rfl ?_
    refine jm_iconst (v := 1) X d_L_add_46 (by decide) ?_
    refine jm_iadd X d_L_add_47 ?_
    refine jm_put X d_L_add_48 fs_L_22 (by refine jm_us_get ?_ 0 rfl; exact hnd) rfl rfl (Nat.le_of_ble_eq_true rfl) (fs1 := [.ref tq, .ref sq, .ref nq, .int (siz + 1), .long tot]) rfl (jm_hq (by refine jm_us_set ?_ 0 (L1 := [(a, .inr (8, [.ref tq, .ref sq, .ref nq, .int (siz + 1), .long tot])), (tq, .inl (dA 3, 500, .inr (.inl (vp_updL tf (siz : Int32).toNatClampNeg ti)))), (sq, .inl (dA 2, 500, .inl (upd sf (siz : Int32).toNatClampNeg sl))), (nq, .inl (dA 3, 500, .inr (.inl (vp_updL nf (siz : Int32).toNatClampNeg no))))]) rfl rfl; exact hnd) ?_)
    refine jm_aload_n X d_L_add_51 rfl 0 rfl ?_
    refine jm_dup X d_L_add_52 rfl ?_
    refine jm_get X d_L_add_53 fs_L_26 (by refine jm_us_get ?_ 0 rfl; exact hnd) rfl ?_
    refine jm_lconst (v := 1) X d_L_add_56 (by decide) ?_
    refine jm_ladd X d_L_add_57 ?_
    refine jm_put X d_L_add_58 fs_L_26 (by refine jm_us_get ?_ 0 rfl; exact hnd) rfl rfl (Nat.le_of_ble_eq_true rfl) (fs1 := [.ref tq, .ref sq, .ref nq, .int (siz + 1), .long (tot + 1)]) rfl (jm_hq (by refine jm_us_set ?_ 0 (L1 := [(a, .inr (8, [.ref tq, .ref sq, .ref nq, .int (siz + 1), .long (tot + 1)])), (tq, .inl (dA 3, 500, .inr (.inl (vp_updL tf (siz : Int32).toNatClampNeg ti)))), (sq, .inl (dA 2, 500, .inl (upd sf (siz : Int32).toNatClampNeg sl))), (nq, .inl (dA 3, 500, .inr (.inl (vp_updL nf (siz : Int32).toNatClampNeg no))))]) rfl rfl; exact hnd) ?_)
    exact J61_2 _ _ _ _ _ (by first | (simp only [if_neg c1, reduceIte]; done) | (with_reducible rfl)) (by first | (simp only [if_neg c1, reduceIte]; done) | (with_reducible rfl)) (by first | (simp only [if_neg c1, reduceIte]; done) | (with_reducible rfl)) (by first | (simp only [if_neg c1, reduceIte]; done) | (with_reducible rfl)) (by first | (simp only [if_neg c1, reduceIte]; done) | (with_reducible rfl))
end
section
theorem fs_Y_19 : jm_fs jm_cl jm_G "JobHouse$YearRule" 19 3 0 (.int) false := ⟨_, jn_T3, 4, jn_y3, rfl, by decide, jn_i3, jn_o3, jn_n3, rfl, rfl, by decide +kernel, Or.inl (jm_g1 120 rfl rfl)⟩
theorem fs_Y_28 : jm_fs jm_cl jm_G "JobHouse$YearRule" 28 3 2 (.int) false := ⟨_, jn_T3, 4, jn_y3, rfl, by decide, jn_i3, jn_o3, jn_n3, rfl, rfl, by decide +kernel, Or.inl (jm_g1 122 rfl rfl)⟩
theorem fs_Y_25 : jm_fs jm_cl jm_G "JobHouse$YearRule" 25 3 1 (.int) false := ⟨_, jn_T3, 4, jn_y3, rfl, by decide, jn_i3, jn_o3, jn_n3, rfl, rfl, by decide +kernel, Or.inl (jm_g1 121 rfl rfl)⟩
theorem fs_Y_31 : jm_fs jm_cl jm_G "JobHouse$YearRule" 31 3 3 (.int) false := ⟨_, jn_T3, 4, jn_y3, rfl, by decide, jn_i3, jn_o3, jn_n3, rfl, rfl, by decide +kernel, Or.inl (jm_g1 123 rfl rfl)⟩
theorem fs_Z_27 : jm_fs jm_cl jm_G "JobHouse$Zone" 27 2 1 (.int) false := ⟨_, jn_T2, 7, jn_y2, rfl, by decide, jn_i2, jn_o2, jn_n2, rfl, rfl, by decide +kernel, Or.inl (jm_g1 136 rfl rfl)⟩
theorem fs_Z_45 : jm_fs jm_cl jm_G "JobHouse$Zone" 45 2 0 (.int) false := ⟨_, jn_T2, 7, jn_y2, rfl, by decide, jn_i2, jn_o2, jn_n2, rfl, rfl, by decide +kernel, Or.inl (jm_g1 134 rfl rfl)⟩
theorem fs_Z_12 : jm_fs jm_cl jm_G "JobHouse$Zone" 12 2 2 (.object "JobHouse$YearRule") true := ⟨_, jn_T2, 7, jn_y2, rfl, by decide, jn_i2, jn_o2, jn_n2, rfl, rfl, by decide +kernel, Or.inl (jm_g1 138 rfl rfl)⟩
theorem fs_Z_18 : jm_fs jm_cl jm_G "JobHouse$Zone" 18 2 3 (.object "JobHouse$YearRule") true := ⟨_, jn_T2, 7, jn_y2, rfl, by decide, jn_i2, jn_o2, jn_n2, rfl, rfl, by decide +kernel, Or.inl (jm_g1 139 rfl rfl)⟩
theorem fs_Z_62 : jm_fs jm_cl jm_G "JobHouse$Zone" 62 2 4 (.long) false := ⟨_, jn_T2, 7, jn_y2, rfl, by decide, jn_i2, jn_o2, jn_n2, rfl, rfl, by decide +kernel, Or.inl (jm_g1 140 rfl rfl)⟩
theorem fs_Z_23 : jm_fs jm_cl jm_G "JobHouse$Zone" 23 2 5 (.long) false := ⟨_, jn_T2, 7, jn_y2, rfl, by decide, jn_i2, jn_o2, jn_n2, rfl, rfl, by decide +kernel, Or.inl (jm_g1 142 rfl rfl)⟩
theorem fs_Z_69 : jm_fs jm_cl jm_G "JobHouse$Zone" 69 2 6 (.int) false := ⟨_, jn_T2, 7, jn_y2, rfl, by decide, jn_i2, jn_o2, jn_n2, rfl, rfl, by decide +kernel, Or.inl (jm_g1 145 rfl rfl)⟩
def f_Y_secondIn (ye : Int32) (mo : Int32) (wk : Int32) (wd : Int32) (mi : Int32) : Int64 :=
  let u22 : Int32 := f_Math_floorMod ((wd + 1) - (f_D_weekdayOf (f_D_firstOfMonth ye mo))) 7
  let v55 : Int32 := if (u22 + (7 * (wk - 1))) < (f_D_monthLength ye mo) then (u22 + (7 * (wk - 1))) else ((u22 + (7 * (wk - 1))) + (-7))
  ((((f_D_firstOfMonth ye mo) + v55 : Int32).toInt64) * 86400) + ((mi * 60 : Int32).toInt64)
set_option maxRecDepth 20000 in
set_option maxHeartbeats 4000000 in
theorem k_Y_secondIn {l : Launch} {S : State} {D : va_G} {dA : Nat → ClassId} (E : jm_en S D jm_cl (jm_ty dA) jm_G) (a : Nat) (ye : Int32) (mo : Int32) (wk : Int32) (wd : Int32) (mi : Int32) (h : jm_H) (h_a : h a = some (.inr (3, [.int mo, .int wk, .int wd, .int mi]))) (hnd : ([a] : List Nat).Nodup)  : jm_M l S D jm_cl y_Y_secondIn (Cond.code y_Y_secondIn b_Y_secondIn 5 (some FieldType.long)) { frames := 1, cells := 0, slots := 0, locals := 24 } [.ref a, .int ye] h (jm_R (some (.long (f_Y_secondIn ye mo wk wd mi))) h) 0 0 := by
  refine jm_ofW E (by decide) (Nat.le_of_ble_eq_true rfl) (fun p e s m below meth c X hr hk hmn hout hadm => ?_)
  have X : jm_cx p s m ([.ref a, .int ye] : List Value).toArray c S D jm_cl (jm_ty dA) jm_G b_Y_secondIn 5 "JobHouse$YearRule" := X
  have hL : ∀ zz ∈ ([(a, .inr (3, [.int mo, .int wk, .int wd, .int mi]))] : List (Nat × va_E)), h zz.1 = some zz.2 := List.forall_mem_cons.mpr ⟨h_a, fun _ hz => absurd hz List.not_mem_nil⟩
  refine jm_hq (jm_us_id hL).symm ?_
  show jm_W p l e ({ frames := 1, cells := 0, slots := 0, locals := 24 }) s m ([.ref a, .int ye] : List Value).toArray below meth c S D jm_cl (jm_Q S D jm_cl below s (jm_R (some (.long (f_Y_secondIn ye mo wk wd mi))) h) 0 0) 5 0 [(0, .ref a), (1, .int ye)] [] (jm_us h [(a, .inr (3, [.int mo, .int wk, .int wd, .int mi]))]) 0 0
  refine jm_iload_n X d_Y_secondIn_0 rfl 1 rfl ?_
  refine jm_aload_n X d_Y_secondIn_1 rfl 0 rfl ?_
  refine jm_get X d_Y_secondIn_2 fs_Y_19 (by refine jm_us_get ?_ 0 rfl; exact hnd) rfl ?_
  refine jm_callS (rest := []) X d_Y_secondIn_5 (k_D_firstOfMonth E ye mo (jm_us h [(a, .inr (3, [.int mo, .int wk, .int wd, .int mi]))])  ) ci_D_firstOfMonth (Or.inl (jm_g3 222 rfl rfl)) st_D_firstOfMonth rfl (Nat.le_of_ble_eq_true rfl) ⟨(Nat.le_of_ble_eq_true rfl), (Nat.le_of_ble_eq_true rfl)⟩ ⟨rfl, rfl⟩ ⟨(Nat.le_of_ble_eq_true rfl), (Nat.le_of_ble_eq_true rfl)⟩ (jm_k1 ?_)
  refine jm_istore_n X d_Y_secondIn_8 rfl (by decide) (lv1 := [(2, .int (f_D_firstOfMonth ye mo)), (0, .ref a), (1, .int ye)]) rfl ?_
  refine jm_aload_n X d_Y_secondIn_9 rfl 1 rfl ?_
  refine jm_get X d_Y_secondIn_10 fs_Y_28 (by refine jm_us_get ?_ 0 rfl; exact hnd) rfl ?_
  refine jm_iconst (v := 1) X d_Y_secondIn_13 (by decide) ?_
  refine jm_iadd X d_Y_secondIn_14 ?_
  refine jm_iload_n X d_Y_secondIn_15 rfl 0 rfl ?_
  refine jm_callS (rest := [.int (wd + 1)]) X d_Y_secondIn_16 (k_D_weekdayOf E (f_D_firstOfMonth ye mo) (jm_us h [(a, .inr (3, [.int mo, .int wk, .int wd, .int mi]))])  ) ci_D_weekdayOf (Or.inl (jm_g3 223 rfl rfl)) st_D_weekdayOf rfl (Nat.le_of_ble_eq_true rfl) ⟨(Nat.le_of_ble_eq_true rfl), (Nat.le_of_ble_eq_true rfl)⟩ ⟨rfl, rfl⟩ ⟨(Nat.le_of_ble_eq_true rfl), (Nat.le_of_ble_eq_true rfl)⟩ (jm_k1 ?_)
  refine jm_isub X d_Y_secondIn_19 ?_
  refine jm_bipush (v := 7) X d_Y_secondIn_20 (by decide) ?_
  refine jm_callS (rest := []) X d_Y_secondIn_22 (k_Math_floorMod E ((wd + 1) - (f_D_weekdayOf (f_D_firstOfMonth ye mo))) 7 (jm_us h [(a, .inr (3, [.int mo, .int wk, .int wd, .int mi]))])  (by first | with_reducible assumption | decide +kernel)) ci_Math_floorMod (Or.inl (jm_g3 226 rfl rfl)) st_Math_floorMod rfl (Nat.le_of_ble_eq_true rfl) ⟨(Nat.le_of_ble_eq_true rfl), (Nat.le_of_ble_eq_true rfl)⟩ ⟨rfl, rfl⟩ ⟨(Nat.le_of_ble_eq_true rfl), (Nat.le_of_ble_eq_true rfl)⟩ (jm_k1 ?_)
  obtain ⟨u22, eu22⟩ : ∃ z_ : Int32, z_ = (f_Math_floorMod ((wd + 1) - (f_D_weekdayOf (f_D_firstOfMonth ye mo))) 7) := ⟨_, rfl⟩
  rw [← eu22]
  refine jm_istore_n X d_Y_secondIn_25 rfl (by decide) (lv1 := [(3, .int u22), (2, .int (f_D_firstOfMonth ye mo)), (0, .ref a), (1, .int ye)]) rfl ?_
  refine jm_iload_n X d_Y_secondIn_26 rfl 0 rfl ?_
  refine jm_bipush (v := 7) X d_Y_secondIn_27 (by decide) ?_
  refine jm_aload_n X d_Y_secondIn_29 rfl 2 rfl ?_
  refine jm_get X d_Y_secondIn_30 fs_Y_25 (by refine jm_us_get ?_ 0 rfl; exact hnd) rfl ?_
  refine jm_iconst (v := 1) X d_Y_secondIn_33 (by decide) ?_
  refine jm_isub X d_Y_secondIn_34 ?_
  refine jm_imul X d_Y_secondIn_35 ?_
  refine jm_iadd X d_Y_secondIn_36 ?_
  refine jm_istore X d_Y_secondIn_37 (by decide) (lv1 := [(4, .int (u22 + (7 * (wk - 1)))), (3, .int u22), (2, .int (f_D_firstOfMonth ye mo)), (0, .ref a), (1, .int ye)]) rfl ?_
  refine jm_iload X d_Y_secondIn_39 0 rfl ?_
  refine jm_iload_n X d_Y_secondIn_41 rfl 4 rfl ?_
  refine jm_aload_n X d_Y_secondIn_42 rfl 3 rfl ?_
  refine jm_get X d_Y_secondIn_43 fs_Y_19 (by refine jm_us_get ?_ 0 rfl; exact hnd) rfl ?_
  refine jm_callS (rest := [.int (u22 + (7 * (wk - 1)))]) X d_Y_secondIn_46 (k_D_monthLength E ye mo (jm_us h [(a, .inr (3, [.int mo, .int wk, .int wd, .int mi]))])  ) ci_D_monthLength (Or.inl (jm_g3 229 rfl rfl)) st_D_monthLength rfl (Nat.le_of_ble_eq_true rfl) ⟨(Nat.le_of_ble_eq_true rfl), (Nat.le_of_ble_eq_true rfl)⟩ ⟨rfl, rfl⟩ ⟨(Nat.le_of_ble_eq_true rfl), (Nat.le_of_ble_eq_true rfl)⟩ (jm_k1 ?_)
  have J55_2 : ∀ (v55 : Int32), v55 = (if (u22 + (7 * (wk - 1))) < (f_D_monthLength ye mo) then (u22 + (7 * (wk - 1))) else ((u22 + (7 * (wk - 1))) + (-7)) : Int32) → jm_W p l e ({ frames := 1, cells := 0, slots := 0, locals := 24 }) s m ([.ref a, .int ye] : List Value).toArray below meth c S D jm_cl (jm_Q S D jm_cl below s (jm_R (some (.long (f_Y_secondIn ye mo wk wd mi))) h) 0 0) 5 55 [(0, .ref a), (1, .int ye), (2, .int (f_D_firstOfMonth ye mo)), (3, .int u22), (4, .int v55)] [] (jm_us h [(a, .inr (3, [.int mo, .int wk, .int wd, .int mi]))]) 0 0 := by
    intro v55 ev55
    refine jm_iload_n X d_Y_secondIn_55 rfl 2 rfl ?_
    refine jm_iload X d_Y_secondIn_56 4 rfl ?_
    refine jm_iadd X d_Y_secondIn_58 ?_
    refine jm_i2l X d_Y_secondIn_59 ?_
    refine jm_ldc2 (v := 86400) X d_Y_secondIn_60 (jm_g3 232 rfl rfl) ?_
    refine jm_lmul X d_Y_secondIn_63 ?_
    refine jm_aload_n X d_Y_secondIn_64 rfl 0 rfl ?_
    refine jm_get X d_Y_secondIn_65 fs_Y_31 (by refine jm_us_get ?_ 0 rfl; exact hnd) rfl ?_
    refine jm_bipush (v := 60) X d_Y_secondIn_68 (by decide) ?_
    refine jm_imul X d_Y_secondIn_70 ?_
    refine jm_i2l X d_Y_secondIn_71 ?_
    refine jm_ladd X d_Y_secondIn_72 ?_
    exact jm_lret X hr hk d_Y_secondIn_73 ⟨(by show Outcome.returned _ = Outcome.returned _; unfold f_Y_secondIn; subst ev55; subst eu22; rfl), (jm_us_id hL)⟩
  refine jm_icmp_lt (tgt := 55) X d_Y_secondIn_49 (by decide) (fun c1 => ?_) (fun c1 => ?_)
  · refine jm_lvs [3, 4, 2, 1, 0] (lv1 := [(0, .ref a), (1, .int ye), (2, .int (f_D_firstOfMonth ye mo)), (3, .int u22), (4, .int (u22 + (7 * (wk - 1))))]) rfl ?_
    exact J55_2 _ (by first | (simp only [if_pos c1, reduceIte]; done) | (with_reducible rfl))
  · refine jm_iinc X d_Y_secondIn_52 0 rfl (v := (u22 + (7 * (wk - 1))) + (-7)) (by rfl) (by decide) (lv1 := [(4, .int ((u22 + (7 * (wk - 1))) + (-7))), (3, .int u22), (2, .int (f_D_firstOfMonth ye mo)), (0, .ref a), (1, .int ye)]) rfl ?_
    refine jm_lvs [3, 4, 2, 1, 0] (lv1 := [(0, .ref a), (1, .int ye), (2, .int (f_D_firstOfMonth ye mo)), (3, .int u22), (4, .int ((u22 + (7 * (wk - 1))) + (-7)))]) rfl ?_
    exact J55_2 _ (by first | (simp only [if_neg c1, reduceIte]; done) | (with_reducible rfl))
def f_Y_latestUpTo (se : Int64) (of_ : Int32) (ly : Int32) (mo : Int32) (wk : Int32) (wd : Int32) (mi : Int32) : Int64 :=
  let v35 : Int32 := if (f_Math_min ly 2299) < 1970 then (f_Math_min ly 2299) else (if ((f_Y_secondIn (f_Math_min ly 2299) mo wk wd mi) - ((of_ : Int32).toInt64)) ≤ se then (f_Math_min ly 2299) else ((f_Math_min ly 2299) + (-1)))
  let v58 : Int64 := if 1970 ≤ v35 then ((f_Y_secondIn v35 mo wk wd mi) - ((of_ : Int32).toInt64)) else (-1152921504606846976)
  v58
set_option maxRecDepth 20000 in
set_option maxHeartbeats 4000000 in
theorem k_Y_latestUpTo {l : Launch} {S : State} {D : va_G} {dA : Nat → ClassId} (E : jm_en S D jm_cl (jm_ty dA) jm_G) (a : Nat) (se : Int64) (of_ : Int32) (ly : Int32) (mo : Int32) (wk : Int32) (wd : Int32) (mi : Int32) (h : jm_H) (h_a : h a = some (.inr (3, [.int mo, .int wk, .int wd, .int mi]))) (hnd : ([a] : List Nat).Nodup)  : jm_M l S D jm_cl y_Y_latestUpTo (Cond.code y_Y_latestUpTo b_Y_latestUpTo 6 (some FieldType.long)) { frames := 2, cells := 0, slots := 0, locals := 48 } [.ref a, .long se, .int of_, .int ly] h (jm_R (some (.long (f_Y_latestUpTo se of_ ly mo wk wd mi))) h) 0 0 := by
  refine jm_ofW E (by decide) (Nat.le_of_ble_eq_true rfl) (fun p e s m below meth c X hr hk hmn hout hadm => ?_)
  have X : jm_cx p s m ([.ref a, .long se, .int of_, .int ly] : List Value).toArray c S D jm_cl (jm_ty dA) jm_G b_Y_latestUpTo 6 "JobHouse$YearRule" := X
  have hL : ∀ zz ∈ ([(a, .inr (3, [.int mo, .int wk, .int wd, .int mi]))] : List (Nat × va_E)), h zz.1 = some zz.2 := List.forall_mem_cons.mpr ⟨h_a, fun _ hz => absurd hz List.not_mem_nil⟩
  refine jm_hq (jm_us_id hL).symm ?_
  show jm_W p l e ({ frames := 2, cells := 0, slots := 0, locals := 48 }) s m ([.ref a, .long se, .int of_, .int ly] : List Value).toArray below meth c S D jm_cl (jm_Q S D jm_cl below s (jm_R (some (.long (f_Y_latestUpTo se of_ ly mo wk wd mi))) h) 0 0) 6 0 [(0, .ref a), (1, .long se), (3, .int of_), (4, .int ly)] [] (jm_us h [(a, .inr (3, [.int mo, .int wk, .int wd, .int mi]))]) 0 0
  refine jm_iload X d_Y_latestUpTo_0 3 rfl ?_
  refine jm_sipush (v := 2299) X d_Y_latestUpTo_2 (by decide) ?_
  refine jm_callS (rest := []) X d_Y_latestUpTo_5 (k_Math_min E ly 2299 (jm_us h [(a, .inr (3, [.int mo, .int wk, .int wd, .int mi]))])  ) ci_Math_min (Or.inl (jm_g3 217 rfl rfl)) st_Math_min rfl (Nat.le_of_ble_eq_true rfl) ⟨(Nat.le_of_ble_eq_true rfl), (Nat.le_of_ble_eq_true rfl)⟩ ⟨rfl, rfl⟩ ⟨(Nat.le_of_ble_eq_true rfl), (Nat.le_of_ble_eq_true rfl)⟩ (jm_k1 ?_)
  refine jm_istore X d_Y_latestUpTo_8 (by decide) (lv1 := [(5, .int (f_Math_min ly 2299)), (0, .ref a), (1, .long se), (3, .int of_), (4, .int ly)]) rfl ?_
  refine jm_iload X d_Y_latestUpTo_10 0 rfl ?_
  refine jm_sipush (v := 1970) X d_Y_latestUpTo_12 (by decide) ?_
  have J35_2 : ∀ (v35 : Int32), v35 = (if (f_Math_min ly 2299) < 1970 then (f_Math_min ly 2299) else (if ((f_Y_secondIn (f_Math_min ly 2299) mo wk wd mi) - ((of_ : Int32).toInt64)) ≤ se then (f_Math_min ly 2299) else ((f_Math_min ly 2299) + (-1))) : Int32) → jm_W p l e ({ frames := 2, cells := 0, slots := 0, locals := 48 }) s m ([.ref a, .long se, .int of_, .int ly] : List Value).toArray below meth c S D jm_cl (jm_Q S D jm_cl below s (jm_R (some (.long (f_Y_latestUpTo se of_ ly mo wk wd mi))) h) 0 0) 6 35 [(0, .ref a), (1, .long se), (3, .int of_), (4, .int ly), (5, .int v35)] [] (jm_us h [(a, .inr (3, [.int mo, .int wk, .int wd, .int mi]))]) 0 0 := by
    intro v35 ev35
    refine jm_iload X d_Y_latestUpTo_35 4 rfl ?_
    refine jm_sipush (v := 1970) X d_Y_latestUpTo_37 (by decide) ?_
    have J58_4 : ∀ (v58 : Int64), v58 = (if 1970 ≤ v35 then ((f_Y_secondIn v35 mo wk wd mi) - ((of_ : Int32).toInt64)) else (-1152921504606846976) : Int64) → jm_W p l e ({ frames := 2, cells := 0, slots := 0, locals := 48 }) s m ([.ref a, .long se, .int of_, .int ly] : List Value).toArray below meth c S D jm_cl (jm_Q S D jm_cl below s (jm_R (some (.long (f_Y_latestUpTo se of_ ly mo wk wd mi))) h) 0 0) 6 58 [(0, .ref a), (1, .long se), (3, .int of_), (4, .int ly), (5, .int v35)] [.long v58] (jm_us h [(a, .inr (3, [.int mo, .int wk, .int wd, .int mi]))]) 0 0 := by
      intro v58 ev58
      exact jm_lret X hr hk d_Y_latestUpTo_58 ⟨(by show Outcome.returned _ = Outcome.returned _; unfold f_Y_latestUpTo; subst ev58; subst ev35; rfl), (jm_us_id hL)⟩
    refine jm_icmp_ge (tgt := 49) X d_Y_latestUpTo_40 (by decide) (fun c3 => ?_) (fun c3 => ?_)
    · refine jm_aload_n X d_Y_latestUpTo_49 rfl 0 rfl ?_
      refine jm_iload X d_Y_latestUpTo_50 4 rfl ?_
      refine jm_callV (rest := []) X d_Y_latestUpTo_52 (k_Y_secondIn E a v35 mo wk wd mi (jm_us h [(a, .inr (3, [.int mo, .int wk, .int wd, .int mi]))]) (by refine jm_us_get ?_ 0 rfl; exact hnd) (by exact jm_pick hnd [0] (by decide) rfl) ) ci_Y_secondIn (Or.inl (jm_g3 218 rfl rfl)) im_Y_secondIn se_Y_secondIn (by refine jm_us_get ?_ 0 rfl; exact hnd) rfl rfl (Nat.le_of_ble_eq_true rfl) ⟨(Nat.le_of_ble_eq_true rfl), (Nat.le_of_ble_eq_true rfl)⟩ ⟨rfl, rfl⟩ ⟨(Nat.le_of_ble_eq_true rfl), (Nat.le_of_ble_eq_true rfl)⟩ (jm_k1 ?_)
      refine jm_iload_n X d_Y_latestUpTo_55 rfl 2 rfl ?_
      refine jm_i2l X d_Y_latestUpTo_56 ?_
      refine jm_lsub X d_Y_latestUpTo_57 ?_
      exact J58_4 _ (by first | (simp only [if_pos c3, reduceIte]; done) | (with_reducible rfl))
    · refine jm_ldc2 (v := (-1152921504606846976)) X d_Y_latestUpTo_43 (jm_g3 233 rfl rfl) ?_
      refine jm_goto (tgt := 58) X d_Y_latestUpTo_46 (by decide) ?_
      exact J58_4 _ (by first | (simp only [if_neg c3, reduceIte]; done) | (with_reducible rfl))
  refine jm_icmp_lt (tgt := 35) X d_Y_latestUpTo_15 (by decide) (fun c1 => ?_) (fun c1 => ?_)
  · refine jm_lvs [1, 2, 3, 4, 0] (lv1 := [(0, .ref a), (1, .long se), (3, .int of_), (4, .int ly), (5, .int (f_Math_min ly 2299))]) rfl ?_
    exact J35_2 _ (by first | (simp only [if_pos c1, reduceIte]; done) | (with_reducible rfl))
  · refine jm_aload_n X d_Y_latestUpTo_18 rfl 1 rfl ?_
    refine jm_iload X d_Y_latestUpTo_19 0 rfl ?_
    refine jm_callV (rest := []) X d_Y_latestUpTo_21 (k_Y_secondIn E a (f_Math_min ly 2299) mo wk wd mi (jm_us h [(a, .inr (3, [.int mo, .int wk, .int wd, .int mi]))]) (by refine jm_us_get ?_ 0 rfl; exact hnd) (by exact jm_pick hnd [0] (by decide) rfl) ) ci_Y_secondIn (Or.inl (jm_g3 218 rfl rfl)) im_Y_secondIn se_Y_secondIn (by refine jm_us_get ?_ 0 rfl; exact hnd) rfl rfl (Nat.le_of_ble_eq_true rfl) ⟨(Nat.le_of_ble_eq_true rfl), (Nat.le_of_ble_eq_true rfl)⟩ ⟨rfl, rfl⟩ ⟨(Nat.le_of_ble_eq_true rfl), (Nat.le_of_ble_eq_true rfl)⟩ (jm_k1 ?_)
    refine jm_iload_n X d_Y_latestUpTo_24 rfl 3 rfl ?_
    refine jm_i2l X d_Y_latestUpTo_25 ?_
    refine jm_lsub X d_Y_latestUpTo_26 ?_
    refine jm_lload_n X d_Y_latestUpTo_27 rfl 2 rfl ?_
    refine jm_lcmp X d_Y_latestUpTo_28 ?_
    refine jm_lif_le (tgt := 35) X d_Y_latestUpTo_29 (by decide) (fun c5 => ?_) (fun c5 => ?_)
    · refine jm_lvs [1, 2, 3, 4, 0] (lv1 := [(0, .ref a), (1, .long se), (3, .int of_), (4, .int ly), (5, .int (f_Math_min ly 2299))]) rfl ?_
      exact J35_2 _ (by first | (simp only [if_neg c1, if_pos c5, reduceIte]; done) | (with_reducible rfl))
    · refine jm_iinc X d_Y_latestUpTo_32 0 rfl (v := (f_Math_min ly 2299) + (-1)) (by rfl) (by decide) (lv1 := [(5, .int ((f_Math_min ly 2299) + (-1))), (0, .ref a), (1, .long se), (3, .int of_), (4, .int ly)]) rfl ?_
      refine jm_lvs [1, 2, 3, 4, 0] (lv1 := [(0, .ref a), (1, .long se), (3, .int of_), (4, .int ly), (5, .int ((f_Math_min ly 2299) + (-1)))]) rfl ?_
      exact J35_2 _ (by first | (simp only [if_neg c1, if_neg c5, reduceIte]; done) | (with_reducible rfl))
def f_Y_firstBehind (se : Int64) (of_ : Int32) (ly : Int32) (mo : Int32) (wk : Int32) (wd : Int32) (mi : Int32) : Int64 :=
  let v35 : Int32 := if 2299 < (f_Math_max ly 1970) then (f_Math_max ly 1970) else (if se < ((f_Y_secondIn (f_Math_max ly 1970) mo wk wd mi) - ((of_ : Int32).toInt64)) then (f_Math_max ly 1970) else ((f_Math_max ly 1970) + 1))
  let v58 : Int64 := if v35 ≤ 2299 then ((f_Y_secondIn v35 mo wk wd mi) - ((of_ : Int32).toInt64)) else 1152921504606846976
  v58
set_option maxRecDepth 20000 in
set_option maxHeartbeats 4000000 in
theorem k_Y_firstBehind {l : Launch} {S : State} {D : va_G} {dA : Nat → ClassId} (E : jm_en S D jm_cl (jm_ty dA) jm_G) (a : Nat) (se : Int64) (of_ : Int32) (ly : Int32) (mo : Int32) (wk : Int32) (wd : Int32) (mi : Int32) (h : jm_H) (h_a : h a = some (.inr (3, [.int mo, .int wk, .int wd, .int mi]))) (hnd : ([a] : List Nat).Nodup)  : jm_M l S D jm_cl y_Y_firstBehind (Cond.code y_Y_firstBehind b_Y_firstBehind 6 (some FieldType.long)) { frames := 2, cells := 0, slots := 0, locals := 48 } [.ref a, .long se, .int of_, .int ly] h (jm_R (some (.long (f_Y_firstBehind se of_ ly mo wk wd mi))) h) 0 0 := by
  refine jm_ofW E (by decide) (Nat.le_of_ble_eq_true rfl) (fun p e s m below meth c X hr hk hmn hout hadm => ?_)
  have X : jm_cx p s m ([.ref a, .long se, .int of_, .int ly] : List Value).toArray c S D jm_cl (jm_ty dA) jm_G b_Y_firstBehind 6 "JobHouse$YearRule" := X
  have hL : ∀ zz ∈ ([(a, .inr (3, [.int mo, .int wk, .int wd, .int mi]))] : List (Nat × va_E)), h zz.1 = some zz.2 := List.forall_mem_cons.mpr ⟨h_a, fun _ hz => absurd hz List.not_mem_nil⟩
  refine jm_hq (jm_us_id hL).symm ?_
  show jm_W p l e ({ frames := 2, cells := 0, slots := 0, locals := 48 }) s m ([.ref a, .long se, .int of_, .int ly] : List Value).toArray below meth c S D jm_cl (jm_Q S D jm_cl below s (jm_R (some (.long (f_Y_firstBehind se of_ ly mo wk wd mi))) h) 0 0) 6 0 [(0, .ref a), (1, .long se), (3, .int of_), (4, .int ly)] [] (jm_us h [(a, .inr (3, [.int mo, .int wk, .int wd, .int mi]))]) 0 0
  refine jm_iload X d_Y_firstBehind_0 3 rfl ?_
  refine jm_sipush (v := 1970) X d_Y_firstBehind_2 (by decide) ?_
  refine jm_callS (rest := []) X d_Y_firstBehind_5 (k_Math_max E ly 1970 (jm_us h [(a, .inr (3, [.int mo, .int wk, .int wd, .int mi]))])  ) ci_Math_max (Or.inl (jm_g3 238 rfl rfl)) st_Math_max rfl (Nat.le_of_ble_eq_true rfl) ⟨(Nat.le_of_ble_eq_true rfl), (Nat.le_of_ble_eq_true rfl)⟩ ⟨rfl, rfl⟩ ⟨(Nat.le_of_ble_eq_true rfl), (Nat.le_of_ble_eq_true rfl)⟩ (jm_k1 ?_)
  refine jm_istore X d_Y_firstBehind_8 (by decide) (lv1 := [(5, .int (f_Math_max ly 1970)), (0, .ref a), (1, .long se), (3, .int of_), (4, .int ly)]) rfl ?_
  refine jm_iload X d_Y_firstBehind_10 0 rfl ?_
  refine jm_sipush (v := 2299) X d_Y_firstBehind_12 (by decide) ?_
  have J35_2 : ∀ (v35 : Int32), v35 = (if 2299 < (f_Math_max ly 1970) then (f_Math_max ly 1970) else (if se < ((f_Y_secondIn (f_Math_max ly 1970) mo wk wd mi) - ((of_ : Int32).toInt64)) then (f_Math_max ly 1970) else ((f_Math_max ly 1970) + 1)) : Int32) → jm_W p l e ({ frames := 2, cells := 0, slots := 0, locals := 48 }) s m ([.ref a, .long se, .int of_, .int ly] : List Value).toArray below meth c S D jm_cl (jm_Q S D jm_cl below s (jm_R (some (.long (f_Y_firstBehind se of_ ly mo wk wd mi))) h) 0 0) 6 35 [(0, .ref a), (1, .long se), (3, .int of_), (4, .int ly), (5, .int v35)] [] (jm_us h [(a, .inr (3, [.int mo, .int wk, .int wd, .int mi]))]) 0 0 := by
    intro v35 ev35
    refine jm_iload X d_Y_firstBehind_35 4 rfl ?_
    refine jm_sipush (v := 2299) X d_Y_firstBehind_37 (by decide) ?_
    have J58_4 : ∀ (v58 : Int64), v58 = (if v35 ≤ 2299 then ((f_Y_secondIn v35 mo wk wd mi) - ((of_ : Int32).toInt64)) else 1152921504606846976 : Int64) → jm_W p l e ({ frames := 2, cells := 0, slots := 0, locals := 48 }) s m ([.ref a, .long se, .int of_, .int ly] : List Value).toArray below meth c S D jm_cl (jm_Q S D jm_cl below s (jm_R (some (.long (f_Y_firstBehind se of_ ly mo wk wd mi))) h) 0 0) 6 58 [(0, .ref a), (1, .long se), (3, .int of_), (4, .int ly), (5, .int v35)] [.long v58] (jm_us h [(a, .inr (3, [.int mo, .int wk, .int wd, .int mi]))]) 0 0 := by
      intro v58 ev58
      exact jm_lret X hr hk d_Y_firstBehind_58 ⟨(by show Outcome.returned _ = Outcome.returned _; unfold f_Y_firstBehind; subst ev58; subst ev35; rfl), (jm_us_id hL)⟩
    refine jm_icmp_le (tgt := 49) X d_Y_firstBehind_40 (by decide) (fun c3 => ?_) (fun c3 => ?_)
    · refine jm_aload_n X d_Y_firstBehind_49 rfl 0 rfl ?_
      refine jm_iload X d_Y_firstBehind_50 4 rfl ?_
      refine jm_callV (rest := []) X d_Y_firstBehind_52 (k_Y_secondIn E a v35 mo wk wd mi (jm_us h [(a, .inr (3, [.int mo, .int wk, .int wd, .int mi]))]) (by refine jm_us_get ?_ 0 rfl; exact hnd) (by exact jm_pick hnd [0] (by decide) rfl) ) ci_Y_secondIn (Or.inl (jm_g3 218 rfl rfl)) im_Y_secondIn se_Y_secondIn (by refine jm_us_get ?_ 0 rfl; exact hnd) rfl rfl (Nat.le_of_ble_eq_true rfl) ⟨(Nat.le_of_ble_eq_true rfl), (Nat.le_of_ble_eq_true rfl)⟩ ⟨rfl, rfl⟩ ⟨(Nat.le_of_ble_eq_true rfl), (Nat.le_of_ble_eq_true rfl)⟩ (jm_k1 ?_)
      refine jm_iload_n X d_Y_firstBehind_55 rfl 2 rfl ?_
      refine jm_i2l X d_Y_firstBehind_56 ?_
      refine jm_lsub X d_Y_firstBehind_57 ?_
      exact J58_4 _ (by first | (simp only [if_pos c3, reduceIte]; done) | (with_reducible rfl))
    · refine jm_ldc2 (v := 1152921504606846976) X d_Y_firstBehind_43 (jm_g3 239 rfl rfl) ?_
      refine jm_goto (tgt := 58) X d_Y_firstBehind_46 (by decide) ?_
      exact J58_4 _ (by first | (simp only [if_neg c3, reduceIte]; done) | (with_reducible rfl))
  refine jm_icmp_gt (tgt := 35) X d_Y_firstBehind_15 (by decide) (fun c1 => ?_) (fun c1 => ?_)
  · refine jm_lvs [1, 2, 3, 4, 0] (lv1 := [(0, .ref a), (1, .long se), (3, .int of_), (4, .int ly), (5, .int (f_Math_max ly 1970))]) rfl ?_
    exact J35_2 _ (by first | (simp only [if_pos c1, reduceIte]; done) | (with_reducible rfl))
  · refine jm_aload_n X d_Y_firstBehind_18 rfl 1 rfl ?_
    refine jm_iload X d_Y_firstBehind_19 0 rfl ?_
    refine jm_callV (rest := []) X d_Y_firstBehind_21 (k_Y_secondIn E a (f_Math_max ly 1970) mo wk wd mi (jm_us h [(a, .inr (3, [.int mo, .int wk, .int wd, .int mi]))]) (by refine jm_us_get ?_ 0 rfl; exact hnd) (by exact jm_pick hnd [0] (by decide) rfl) ) ci_Y_secondIn (Or.inl (jm_g3 218 rfl rfl)) im_Y_secondIn se_Y_secondIn (by refine jm_us_get ?_ 0 rfl; exact hnd) rfl rfl (Nat.le_of_ble_eq_true rfl) ⟨(Nat.le_of_ble_eq_true rfl), (Nat.le_of_ble_eq_true rfl)⟩ ⟨rfl, rfl⟩ ⟨(Nat.le_of_ble_eq_true rfl), (Nat.le_of_ble_eq_true rfl)⟩ (jm_k1 ?_)
    refine jm_iload_n X d_Y_firstBehind_24 rfl 3 rfl ?_
    refine jm_i2l X d_Y_firstBehind_25 ?_
    refine jm_lsub X d_Y_firstBehind_26 ?_
    refine jm_lload_n X d_Y_firstBehind_27 rfl 2 rfl ?_
    refine jm_lcmp X d_Y_firstBehind_28 ?_
    refine jm_lif_gt (tgt := 35) X d_Y_firstBehind_29 (by decide) (fun c5 => ?_) (fun c5 => ?_)
    · refine jm_lvs [1, 2, 3, 4, 0] (lv1 := [(0, .ref a), (1, .long se), (3, .int of_), (4, .int ly), (5, .int (f_Math_max ly 1970))]) rfl ?_
      exact J35_2 _ (by first | (simp only [if_neg c1, if_pos c5, reduceIte]; done) | (with_reducible rfl))
    · refine jm_iinc X d_Y_firstBehind_32 0 rfl (v := (f_Math_max ly 1970) + 1) (by rfl) (by decide) (lv1 := [(5, .int ((f_Math_max ly 1970) + 1)), (0, .ref a), (1, .long se), (3, .int of_), (4, .int ly)]) rfl ?_
      refine jm_lvs [1, 2, 3, 4, 0] (lv1 := [(0, .ref a), (1, .long se), (3, .int of_), (4, .int ly), (5, .int ((f_Math_max ly 1970) + 1))]) rfl ?_
      exact J35_2 _ (by first | (simp only [if_neg c1, if_neg c5, reduceIte]; done) | (with_reducible rfl))
def f_Z_findStretch_a_4 (se : Int64) (ba : Int32) (sv : Int32) (si : Int64) (un : Int64) (of : Int32) (bmo : Int32) (bwk : Int32) (bwd : Int32) (bmi : Int32) (emo : Int32) (ewk : Int32) (ewd : Int32) (emi : Int32) : Int64 :=
  let u50 : Int32 := f_D_yearOf (f_D_dayOf (se + ((ba : Int32).toInt64)))
  let u59 : Int32 := f_D_dayOf (se + ((ba + sv : Int32).toInt64))
  let u91 : Int64 := f_Y_latestUpTo se (ba + sv) (f_D_yearOf u59) emo ewk ewd emi
  let u130 : Int64 := f_Math_max2 (f_Y_latestUpTo se ba u50 bmo bwk bwd bmi) u91
  if sv = 0 then (-1152921504606846976) else u130
def f_Z_findStretch_a_5 (se : Int64) (ba : Int32) (sv : Int32) (si : Int64) (un : Int64) (of : Int32) (bmo : Int32) (bwk : Int32) (bwd : Int32) (bmi : Int32) (emo : Int32) (ewk : Int32) (ewd : Int32) (emi : Int32) : Int64 :=
  let u50 : Int32 := f_D_yearOf (f_D_dayOf (se + ((ba : Int32).toInt64)))
  let u59 : Int32 := f_D_dayOf (se + ((ba + sv : Int32).toInt64))
  let u107 : Int64 := f_Y_firstBehind se ba u50 bmo bwk bwd bmi
  let u120 : Int64 := f_Y_firstBehind se (ba + sv) (f_D_yearOf u59) emo ewk ewd emi
  if sv = 0 then 1152921504606846976 else (f_Math_min2 u107 u120)
def f_Z_findStretch_a_6 (se : Int64) (ba : Int32) (sv : Int32) (si : Int64) (un : Int64) (of : Int32) (bmo : Int32) (bwk : Int32) (bwd : Int32) (bmi : Int32) (emo : Int32) (ewk : Int32) (ewd : Int32) (emi : Int32) : Int32 :=
  let u50 : Int32 := f_D_yearOf (f_D_dayOf (se + ((ba : Int32).toInt64)))
  let u59 : Int32 := f_D_dayOf (se + ((ba + sv : Int32).toInt64))
  let u91 : Int64 := f_Y_latestUpTo se (ba + sv) (f_D_yearOf u59) emo ewk ewd emi
  let v164 : Int32 := if (f_Y_latestUpTo se ba u50 bmo bwk bwd bmi) ≤ u91 then ba else (ba + sv)
  if sv = 0 then ba else v164
set_option maxRecDepth 20000 in
set_option maxHeartbeats 4000000 in
theorem k_Z_findStretch {l : Launch} {S : State} {D : va_G} {dA : Nat → ClassId} (E : jm_en S D jm_cl (jm_ty dA) jm_G) (a : Nat) (se : Int64) (ba : Int32) (sv : Int32) (bq : Nat) (eq : Nat) (si : Int64) (un : Int64) (of : Int32) (bmo : Int32) (bwk : Int32) (bwd : Int32) (bmi : Int32) (emo : Int32) (ewk : Int32) (ewd : Int32) (emi : Int32) (h : jm_H) (h_a : h a = some (.inr (2, [.int ba, .int sv, .ref bq, .ref eq, .long si, .long un, .int of]))) (h_bq : h bq = some (.inr (3, [.int bmo, .int bwk, .int bwd, .int bmi]))) (h_eq : h eq = some (.inr (3, [.int emo, .int ewk, .int ewd, .int emi]))) (hnd : ([a, bq, eq] : List Nat).Nodup)  : jm_M l S D jm_cl y_Z_findStretch (Cond.code y_Z_findStretch b_Z_findStretch 14 (none)) { frames := 3, cells := 0, slots := 0, locals := 73 } [.ref a, .long se] h (jm_R none (jm_us h [(a, .inr (2, [.int ba, .int sv, .ref bq, .ref eq, .long (f_Z_findStretch_a_4 se ba sv si un of bmo bwk bwd bmi emo ewk ewd emi), .long (f_Z_findStretch_a_5 se ba sv si un of bmo bwk bwd bmi emo ewk ewd emi), .int (f_Z_findStretch_a_6 se ba sv si un of bmo bwk bwd bmi emo ewk ewd emi)])), (bq, .inr (3, [.int bmo, .int bwk, .int bwd, .int bmi])), (eq, .inr (3, [.int emo, .int ewk, .int ewd, .int emi]))])) 0 0 := by
  refine jm_ofW E (by decide) (Nat.le_of_ble_eq_true rfl) (fun p e s m below meth c X hr hk hmn hout hadm => ?_)
  have X : jm_cx p s m ([.ref a, .long se] : List Value).toArray c S D jm_cl (jm_ty dA) jm_G b_Z_findStretch 14 "JobHouse$Zone" := X
  have hL : ∀ zz ∈ ([(a, .inr (2, [.int ba, .int sv, .ref bq, .ref eq, .long si, .long un, .int of])), (bq, .inr (3, [.int bmo, .int bwk, .int bwd, .int bmi])), (eq, .inr (3, [.int emo, .int ewk, .int ewd, .int emi]))] : List (Nat × va_E)), h zz.1 = some zz.2 := List.forall_mem_cons.mpr ⟨h_a, List.forall_mem_cons.mpr ⟨h_bq, List.forall_mem_cons.mpr ⟨h_eq, fun _ hz => absurd hz List.not_mem_nil⟩⟩⟩
  refine jm_hq (jm_us_id hL).symm ?_
  show jm_W p l e ({ frames := 3, cells := 0, slots := 0, locals := 73 }) s m ([.ref a, .long se] : List Value).toArray below meth c S D jm_cl (jm_Q S D jm_cl below s (jm_R none (jm_us h [(a, .inr (2, [.int ba, .int sv, .ref bq, .ref eq, .long (f_Z_findStretch_a_4 se ba sv si un of bmo bwk bwd bmi emo ewk ewd emi), .long (f_Z_findStretch_a_5 se ba sv si un of bmo bwk bwd bmi emo ewk ewd emi), .int (f_Z_findStretch_a_6 se ba sv si un of bmo bwk bwd bmi emo ewk ewd emi)])), (bq, .inr (3, [.int bmo, .int bwk, .int bwd, .int bmi])), (eq, .inr (3, [.int emo, .int ewk, .int ewd, .int emi]))])) 0 0) 14 0 [(0, .ref a), (1, .long se)] [] (jm_us h [(a, .inr (2, [.int ba, .int sv, .ref bq, .ref eq, .long si, .long un, .int of])), (bq, .inr (3, [.int bmo, .int bwk, .int bwd, .int bmi])), (eq, .inr (3, [.int emo, .int ewk, .int ewd, .int emi]))]) 0 0
  refine jm_aload_n X d_Z_findStretch_0 rfl 0 rfl ?_
  refine jm_get X d_Z_findStretch_1 fs_Z_27 (by refine jm_us_get ?_ 0 rfl; exact hnd) rfl ?_
  refine jm_if_ne (tgt := 30) X d_Z_findStretch_4 (by decide) (fun c1 => ?_) (fun c1 => ?_)
  · refine jm_aload_n X d_Z_findStretch_30 rfl 0 rfl ?_
    refine jm_get X d_Z_findStretch_31 fs_Z_45 (by refine jm_us_get ?_ 0 rfl; exact hnd) rfl ?_
    refine jm_aload_n X d_Z_findStretch_34 rfl 0 rfl ?_
    refine jm_get X d_Z_findStretch_35 fs_Z_27 (by refine jm_us_get ?_ 0 rfl; exact hnd) rfl ?_
    refine jm_iadd X d_Z_findStretch_38 ?_
    refine jm_istore_n X d_Z_findStretch_39 rfl (by decide) (lv1 := [(3, .int (ba + sv)), (0, .ref a), (1, .long se)]) rfl ?_
    refine jm_lload_n X d_Z_findStretch_40 rfl 2 rfl ?_
    refine jm_aload_n X d_Z_findStretch_41 rfl 1 rfl ?_
    refine jm_get X d_Z_findStretch_42 fs_Z_45 (by refine jm_us_get ?_ 0 rfl; exact hnd) rfl ?_
    refine jm_i2l X d_Z_findStretch_45 ?_
    refine jm_ladd X d_Z_findStretch_46 ?_
    refine jm_callS (rest := []) X d_Z_findStretch_47 (k_D_dayOf E (se + ((ba : Int32).toInt64)) (jm_us h [(a, .inr (2, [.int ba, .int sv, .ref bq, .ref eq, .long si, .long un, .int of])), (bq, .inr (3, [.int bmo, .int bwk, .int bwd, .int bmi])), (eq, .inr (3, [.int emo, .int ewk, .int ewd, .int emi]))])  ) ci_D_dayOf (Or.inl (jm_g3 195 rfl rfl)) st_D_dayOf rfl (Nat.le_of_ble_eq_true rfl) ⟨(Nat.le_of_ble_eq_true rfl), (Nat.le_of_ble_eq_true rfl)⟩ ⟨rfl, rfl⟩ ⟨(Nat.le_of_ble_eq_true rfl), (Nat.le_of_ble_eq_true rfl)⟩ (jm_k1 ?_)
    refine jm_callS (rest := []) X d_Z_findStretch_50 (k_D_yearOf E (f_D_dayOf (se + ((ba : Int32).toInt64))) (jm_us h [(a, .inr (2, [.int ba, .int sv, .ref bq, .ref eq, .long si, .long un, .int of])), (bq, .inr (3, [.int bmo, .int bwk, .int bwd, .int bmi])), (eq, .inr (3, [.int emo, .int ewk, .int ewd, .int emi]))])  ) ci_D_yearOf (Or.inl (jm_g3 202 rfl rfl)) st_D_yearOf rfl (Nat.le_of_ble_eq_true rfl) ⟨(Nat.le_of_ble_eq_true rfl), (Nat.le_of_ble_eq_true rfl)⟩ ⟨rfl, rfl⟩ ⟨(Nat.le_of_ble_eq_true rfl), (Nat.le_of_ble_eq_true rfl)⟩ (jm_k1 ?_)
    obtain ⟨u50, eu50⟩ : ∃ z_ : Int32, z_ = (f_D_yearOf (f_D_dayOf (se + ((ba : Int32).toInt64)))) := ⟨_, rfl⟩
    rw [← eu50]
    refine jm_istore X d_Z_findStretch_53 (by decide) (lv1 := [(4, .int u50), (3, .int (ba + sv)), (0, .ref a), (1, .long se)]) rfl ?_
    refine jm_lload_n X d_Z_findStretch_55 rfl 3 rfl ?_
    refine jm_iload_n X d_Z_findStretch_56 rfl 1 rfl ?_
    refine jm_i2l X d_Z_findStretch_57 ?_
    refine jm_ladd X d_Z_findStretch_58 ?_
    refine jm_callS (rest := []) X d_Z_findStretch_59 (k_D_dayOf E (se + ((ba + sv : Int32).toInt64)) (jm_us h [(a, .inr (2, [.int ba, .int sv, .ref bq, .ref eq, .long si, .long un, .int of])), (bq, .inr (3, [.int bmo, .int bwk, .int bwd, .int bmi])), (eq, .inr (3, [.int emo, .int ewk, .int ewd, .int emi]))])  ) ci_D_dayOf (Or.inl (jm_g3 195 rfl rfl)) st_D_dayOf rfl (Nat.le_of_ble_eq_true rfl) ⟨(Nat.le_of_ble_eq_true rfl), (Nat.le_of_ble_eq_true rfl)⟩ ⟨rfl, rfl⟩ ⟨(Nat.le_of_ble_eq_true rfl), (Nat.le_of_ble_eq_true rfl)⟩ (jm_k1 ?_)
    obtain ⟨u59, eu59⟩ : ∃ z_ : Int32, z_ = (f_D_dayOf (se + ((ba + sv : Int32).toInt64))) := ⟨_, rfl⟩
    rw [← eu59]
    refine jm_callS (rest := []) X d_Z_findStretch_62 (k_D_yearOf E u59 (jm_us h [(a, .inr (2, [.int ba, .int sv, .ref bq, .ref eq, .long si, .long un, .int of])), (bq, .inr (3, [.int bmo, .int bwk, .int bwd, .int bmi])), (eq, .inr (3, [.int emo, .int ewk, .int ewd, .int emi]))])  ) ci_D_yearOf (Or.inl (jm_g3 202 rfl rfl)) st_D_yearOf rfl (Nat.le_of_ble_eq_true rfl) ⟨(Nat.le_of_ble_eq_true rfl), (Nat.le_of_ble_eq_true rfl)⟩ ⟨rfl, rfl⟩ ⟨(Nat.le_of_ble_eq_true rfl), (Nat.le_of_ble_eq_true rfl)⟩ (jm_k1 ?_)
    refine jm_istore X d_Z_findStretch_65 (by decide) (lv1 := [(5, .int (f_D_yearOf u59)), (4, .int u50), (3, .int (ba + sv)), (0, .ref a), (1, .long se)]) rfl ?_
    refine jm_aload_n X d_Z_findStretch_67 rfl 3 rfl ?_
    refine jm_get X d_Z_findStretch_68 fs_Z_12 (by refine jm_us_get ?_ 0 rfl; exact hnd) rfl ?_
    refine jm_lload_n X d_Z_findStretch_71 rfl 4 rfl ?_
    refine jm_aload_n X d_Z_findStretch_72 rfl 3 rfl ?_
    refine jm_get X d_Z_findStretch_73 fs_Z_45 (by refine jm_us_get ?_ 0 rfl; exact hnd) rfl ?_
    refine jm_iload X d_Z_findStretch_76 1 rfl ?_
    refine jm_callV (rest := []) X d_Z_findStretch_78 (k_Y_latestUpTo E bq se ba u50 bmo bwk bwd bmi (jm_us h [(a, .inr (2, [.int ba, .int sv, .ref bq, .ref eq, .long si, .long un, .int of])), (bq, .inr (3, [.int bmo, .int bwk, .int bwd, .int bmi])), (eq, .inr (3, [.int emo, .int ewk, .int ewd, .int emi]))]) (by refine jm_us_get ?_ 1 rfl; exact hnd) (by exact jm_pick hnd [1] (by decide) rfl) ) ci_Y_latestUpTo (Or.inl (jm_g3 213 rfl rfl)) im_Y_latestUpTo se_Y_latestUpTo (by refine jm_us_get ?_ 1 rfl; exact hnd) rfl rfl (Nat.le_of_ble_eq_true rfl) ⟨(Nat.le_of_ble_eq_true rfl), (Nat.le_of_ble_eq_true rfl)⟩ ⟨rfl, rfl⟩ ⟨(Nat.le_of_ble_eq_true rfl), (Nat.le_of_ble_eq_true rfl)⟩ (jm_k1 ?_)
    refine jm_lstore X d_Z_findStretch_81 (by decide) (lv1 := [(6, .long (f_Y_latestUpTo se ba u50 bmo bwk bwd bmi)), (5, .int (f_D_yearOf u59)), (4, .int u50), (3, .int (ba + sv)), (0, .ref a), (1, .long se)]) rfl ?_
    refine jm_aload_n X d_Z_findStretch_83 rfl 4 rfl ?_
    refine jm_get X d_Z_findStretch_84 fs_Z_18 (by refine jm_us_get ?_ 0 rfl; exact hnd) rfl ?_
    refine jm_lload_n X d_Z_findStretch_87 rfl 5 rfl ?_
    refine jm_iload_n X d_Z_findStretch_88 rfl 3 rfl ?_
    refine jm_iload X d_Z_findStretch_89 1 rfl ?_
    refine jm_callV (rest := []) X d_Z_findStretch_91 (k_Y_latestUpTo E eq se (ba + sv) (f_D_yearOf u59) emo ewk ewd emi (jm_us h [(a, .inr (2, [.int ba, .int sv, .ref bq, .ref eq, .long si, .long un, .int of])), (bq, .inr (3, [.int bmo, .int bwk, .int bwd, .int bmi])), (eq, .inr (3, [.int emo, .int ewk, .int ewd, .int emi]))]) (by refine jm_us_get ?_ 2 rfl; exact hnd) (by exact jm_pick hnd [2] (by decide) rfl) ) ci_Y_latestUpTo (Or.inl (jm_g3 213 rfl rfl)) im_Y_latestUpTo se_Y_latestUpTo (by refine jm_us_get ?_ 2 rfl; exact hnd) rfl rfl (Nat.le_of_ble_eq_true rfl) ⟨(Nat.le_of_ble_eq_true rfl), (Nat.le_of_ble_eq_true rfl)⟩ ⟨rfl, rfl⟩ ⟨(Nat.le_of_ble_eq_true rfl), (Nat.le_of_ble_eq_true rfl)⟩ (jm_k1 ?_)
    obtain ⟨u91, eu91⟩ : ∃ z_ : Int64, z_ = (f_Y_latestUpTo se (ba + sv) (f_D_yearOf u59) emo ewk ewd emi) := ⟨_, rfl⟩
    rw [← eu91]
    refine jm_lstore X d_Z_findStretch_94 (by decide) (lv1 := [(8, .long u91), (6, .long (f_Y_latestUpTo se ba u50 bmo bwk bwd bmi)), (5, .int (f_D_yearOf u59)), (4, .int u50), (3, .int (ba + sv)), (0, .ref a), (1, .long se)]) rfl ?_
    refine jm_aload_n X d_Z_findStretch_96 rfl 5 rfl ?_
    refine jm_get X d_Z_findStretch_97 fs_Z_12 (by refine jm_us_get ?_ 0 rfl; exact hnd) rfl ?_
    refine jm_lload_n X d_Z_findStretch_100 rfl 6 rfl ?_
    refine jm_aload_n X d_Z_findStretch_101 rfl 5 rfl ?_
    refine jm_get X d_Z_findStretch_102 fs_Z_45 (by refine jm_us_get ?_ 0 rfl; exact hnd) rfl ?_
    refine jm_iload X d_Z_findStretch_105 3 rfl ?_
    refine jm_callV (rest := []) X d_Z_findStretch_107 (k_Y_firstBehind E bq se ba u50 bmo bwk bwd bmi (jm_us h [(a, .inr (2, [.int ba, .int sv, .ref bq, .ref eq, .long si, .long un, .int of])), (bq, .inr (3, [.int bmo, .int bwk, .int bwd, .int bmi])), (eq, .inr (3, [.int emo, .int ewk, .int ewd, .int emi]))]) (by refine jm_us_get ?_ 1 rfl; exact hnd) (by exact jm_pick hnd [1] (by decide) rfl) ) ci_Y_firstBehind (Or.inl (jm_g3 234 rfl rfl)) im_Y_firstBehind se_Y_firstBehind (by refine jm_us_get ?_ 1 rfl; exact hnd) rfl rfl (Nat.le_of_ble_eq_true rfl) ⟨(Nat.le_of_ble_eq_true rfl), (Nat.le_of_ble_eq_true rfl)⟩ ⟨rfl, rfl⟩ ⟨(Nat.le_of_ble_eq_true rfl), (Nat.le_of_ble_eq_true rfl)⟩ (jm_k1 ?_)
    obtain ⟨u107, eu107⟩ : ∃ z_ : Int64, z_ = (f_Y_firstBehind se ba u50 bmo bwk bwd bmi) := ⟨_, rfl⟩
    rw [← eu107]
    refine jm_lstore X d_Z_findStretch_110 (by decide) (lv1 := [(10, .long u107), (8, .long u91), (6, .long (f_Y_latestUpTo se ba u50 bmo bwk bwd bmi)), (5, .int (f_D_yearOf u59)), (4, .int u50), (3, .int (ba + sv)), (0, .ref a), (1, .long se)]) rfl ?_
    refine jm_aload_n X d_Z_findStretch_112 rfl 6 rfl ?_
    refine jm_get X d_Z_findStretch_113 fs_Z_18 (by refine jm_us_get ?_ 0 rfl; exact hnd) rfl ?_
    refine jm_lload_n X d_Z_findStretch_116 rfl 7 rfl ?_
    refine jm_iload_n X d_Z_findStretch_117 rfl 5 rfl ?_
    refine jm_iload X d_Z_findStretch_118 3 rfl ?_
    refine jm_callV (rest := []) X d_Z_findStretch_120 (k_Y_firstBehind E eq se (ba + sv) (f_D_yearOf u59) emo ewk ewd emi (jm_us h [(a, .inr (2, [.int ba, .int sv, .ref bq, .ref eq, .long si, .long un, .int of])), (bq, .inr (3, [.int bmo, .int bwk, .int bwd, .int bmi])), (eq, .inr (3, [.int emo, .int ewk, .int ewd, .int emi]))]) (by refine jm_us_get ?_ 2 rfl; exact hnd) (by exact jm_pick hnd [2] (by decide) rfl) ) ci_Y_firstBehind (Or.inl (jm_g3 234 rfl rfl)) im_Y_firstBehind se_Y_firstBehind (by refine jm_us_get ?_ 2 rfl; exact hnd) rfl rfl (Nat.le_of_ble_eq_true rfl) ⟨(Nat.le_of_ble_eq_true rfl), (Nat.le_of_ble_eq_true rfl)⟩ ⟨rfl, rfl⟩ ⟨(Nat.le_of_ble_eq_true rfl), (Nat.le_of_ble_eq_true rfl)⟩ (jm_k1 ?_)
    obtain ⟨u120, eu120⟩ : ∃ z_ : Int64, z_ = (f_Y_firstBehind se (ba + sv) (f_D_yearOf u59) emo ewk ewd emi) := ⟨_, rfl⟩
    rw [← eu120]
    refine jm_lstore X d_Z_findStretch_123 (by decide) (lv1 := [(12, .long u120), (10, .long u107), (8, .long u91), (6, .long (f_Y_latestUpTo se ba u50 bmo bwk bwd bmi)), (5, .int (f_D_yearOf u59)), (4, .int u50), (3, .int (ba + sv)), (0, .ref a), (1, .long se)]) rfl ?_
    refine jm_aload_n X d_Z_findStretch_125 rfl 7 rfl ?_
    refine jm_lload X d_Z_findStretch_126 3 rfl ?_
    refine jm_lload X d_Z_findStretch_128 2 rfl ?_
    refine jm_callS (rest := [.ref a]) X d_Z_findStretch_130 (k_Math_max2 E (f_Y_latestUpTo se ba u50 bmo bwk bwd bmi) u91 (jm_us h [(a, .inr (2, [.int ba, .int sv, .ref bq, .ref eq, .long si, .long un, .int of])), (bq, .inr (3, [.int bmo, .int bwk, .int bwd, .int bmi])), (eq, .inr (3, [.int emo, .int ewk, .int ewd, .int emi]))])  ) ci_Math_max2 (Or.inl (jm_g4 0 rfl rfl)) st_Math_max2 rfl (Nat.le_of_ble_eq_true rfl) ⟨(Nat.le_of_ble_eq_true rfl), (Nat.le_of_ble_eq_true rfl)⟩ ⟨rfl, rfl⟩ ⟨(Nat.le_of_ble_eq_true rfl), (Nat.le_of_ble_eq_true rfl)⟩ (jm_k1 ?_)
    obtain ⟨u130, eu130⟩ : ∃ z_ : Int64, z_ = (f_Math_max2 (f_Y_latestUpTo se ba u50 bmo bwk bwd bmi) u91) := ⟨_, rfl⟩
    rw [← eu130]
    refine jm_put X d_Z_findStretch_133 fs_Z_62 (by refine jm_us_get ?_ 0 rfl; exact hnd) rfl rfl (Nat.le_of_ble_eq_true rfl) (fs1 := [.int ba, .int sv, .ref bq, .ref eq, .long u130, .long un, .int of]) rfl (jm_hq (by refine jm_us_set ?_ 0 (L1 := [(a, .inr (2, [.int ba, .int sv, .ref bq, .ref eq, .long u130, .long un, .int of])), (bq, .inr (3, [.int bmo, .int bwk, .int bwd, .int bmi])), (eq, .inr (3, [.int emo, .int ewk, .int ewd, .int emi]))]) rfl rfl; exact hnd) ?_)
    refine jm_aload_n X d_Z_findStretch_136 rfl 7 rfl ?_
    refine jm_lload X d_Z_findStretch_137 1 rfl ?_
    refine jm_lload X d_Z_findStretch_139 0 rfl ?_
    refine jm_callS (rest := [.ref a]) X d_Z_findStretch_141 (k_Math_min2 E u107 u120 (jm_us h [(a, .inr (2, [.int ba, .int sv, .ref bq, .ref eq, .long u130, .long un, .int of])), (bq, .inr (3, [.int bmo, .int bwk, .int bwd, .int bmi])), (eq, .inr (3, [.int emo, .int ewk, .int ewd, .int emi]))])  ) ci_Math_min2 (Or.inl (jm_g4 3 rfl rfl)) st_Math_min2 rfl (Nat.le_of_ble_eq_true rfl) ⟨(Nat.le_of_ble_eq_true rfl), (Nat.le_of_ble_eq_true rfl)⟩ ⟨rfl, rfl⟩ ⟨(Nat.le_of_ble_eq_true rfl), (Nat.le_of_ble_eq_true rfl)⟩ (jm_k1 ?_)
    refine jm_put X d_Z_findStretch_144 fs_Z_23 (by refine jm_us_get ?_ 0 rfl; exact hnd) rfl rfl (Nat.le_of_ble_eq_true rfl) (fs1 := [.int ba, .int sv, .ref bq, .ref eq, .long u130, .long (f_Math_min2 u107 u120), .int of]) rfl (jm_hq (by refine jm_us_set ?_ 0 (L1 := [(a, .inr (2, [.int ba, .int sv, .ref bq, .ref eq, .long u130, .long (f_Math_min2 u107 u120), .int of])), (bq, .inr (3, [.int bmo, .int bwk, .int bwd, .int bmi])), (eq, .inr (3, [.int emo, .int ewk, .int ewd, .int emi]))]) rfl rfl; exact hnd) ?_)
    refine jm_aload_n X d_Z_findStretch_147 rfl 7 rfl ?_
    refine jm_lload X d_Z_findStretch_148 3 rfl ?_
    refine jm_lload X d_Z_findStretch_150 2 rfl ?_
    refine jm_lcmp X d_Z_findStretch_152 ?_
    have J164_3 : ∀ (v164 : Int32), v164 = (if (f_Y_latestUpTo se ba u50 bmo bwk bwd bmi) ≤ u91 then ba else (ba + sv) : Int32) → jm_W p l e ({ frames := 3, cells := 0, slots := 0, locals := 73 }) s m ([.ref a, .long se] : List Value).toArray below meth c S D jm_cl (jm_Q S D jm_cl below s (jm_R none (jm_us h [(a, .inr (2, [.int ba, .int sv, .ref bq, .ref eq, .long (f_Z_findStretch_a_4 se ba sv si un of bmo bwk bwd bmi emo ewk ewd emi), .long (f_Z_findStretch_a_5 se ba sv si un of bmo bwk bwd bmi emo ewk ewd emi), .int (f_Z_findStretch_a_6 se ba sv si un of bmo bwk bwd bmi emo ewk ewd emi)])), (bq, .inr (3, [.int bmo, .int bwk, .int bwd, .int bmi])), (eq, .inr (3, [.int emo, .int ewk, .int ewd, .int emi]))])) 0 0) 14 164 [(12, .long u120), (10, .long u107), (8, .long u91), (6, .long (f_Y_latestUpTo se ba u50 bmo bwk bwd bmi)), (5, .int (f_D_yearOf u59)), (4, .int u50), (3, .int (ba + sv)), (0, .ref a), (1, .long se)] [.int v164, .ref a] (jm_us h [(a, .inr (2, [.int ba, .int sv, .ref bq, .ref eq, .long u130, .long (f_Math_min2 u107 u120), .int of])), (bq, .inr (3, [.int bmo, .int bwk, .int bwd, .int bmi])), (eq, .inr (3, [.int emo, .int ewk, .int ewd, .int emi]))]) 0 0 := by
      intro v164 ev164
      refine jm_put X d_Z_findStretch_164 fs_Z_69 (by refine jm_us_get ?_ 0 rfl; exact hnd) rfl rfl (Nat.le_of_ble_eq_true rfl) (fs1 := [.int ba, .int sv, .ref bq, .ref eq, .long u130, .long (f_Math_min2 u107 u120), .int v164]) rfl (jm_hq (by refine jm_us_set ?_ 0 (L1 := [(a, .inr (2, [.int ba, .int sv, .ref bq, .ref eq, .long u130, .long (f_Math_min2 u107 u120), .int v164])), (bq, .inr (3, [.int bmo, .int bwk, .int bwd, .int bmi])), (eq, .inr (3, [.int emo, .int ewk, .int ewd, .int emi]))]) rfl rfl; exact hnd) ?_)
      exact jm_vret X hr hk d_Z_findStretch_167 ⟨rfl, (by show jm_us h _ = jm_us h _; unfold f_Z_findStretch_a_4 f_Z_findStretch_a_5 f_Z_findStretch_a_6; subst ev164; subst eu130; subst eu120; subst eu107; subst eu91; subst eu59; subst eu50; first | (simp only [if_neg c1, reduceIte]; done) | (simp only [if_neg c1, reduceIte]; rfl) | rfl)⟩
    refine jm_lif_le (tgt := 160) X d_Z_findStretch_153 (by decide) (fun c2 => ?_) (fun c2 => ?_)
    · refine jm_aload_n X d_Z_findStretch_160 rfl 7 rfl ?_
      refine jm_get X d_Z_findStretch_161 fs_Z_45 (by refine jm_us_get ?_ 0 rfl; exact hnd) rfl ?_
      exact J164_3 _ (by first | (simp only [if_pos c2, reduceIte]; done) | (with_reducible rfl))
    · refine jm_iload_n X d_Z_findStretch_156 rfl 6 rfl ?_
      refine jm_goto (tgt := 164) X d_Z_findStretch_157 (by decide) ?_
      exact J164_3 _ (by first | (simp only [if_neg c2, reduceIte]; done) | (with_reducible rfl))
  · refine jm_aload_n X d_Z_findStretch_7 rfl 0 rfl ?_
    refine jm_ldc2 (v := (-1152921504606846976)) X d_Z_findStretch_8 (jm_g1 133 rfl rfl) ?_
    refine jm_put X d_Z_findStretch_11 fs_Z_62 (by refine jm_us_get ?_ 0 rfl; exact hnd) rfl rfl (Nat.le_of_ble_eq_true rfl) (fs1 := [.int ba, .int sv, .ref bq, .ref eq, .long (-1152921504606846976), .long un, .int of]) rfl (jm_hq (by refine jm_us_set ?_ 0 (L1 := [(a, .inr (2, [.int ba, .int sv, .ref bq, .ref eq, .long (-1152921504606846976), .long un, .int of])), (bq, .inr (3, [.int bmo, .int bwk, .int bwd, .int bmi])), (eq, .inr (3, [.int emo, .int ewk, .int ewd, .int emi]))]) rfl rfl; exact hnd) ?_)
    refine jm_aload_n X d_Z_findStretch_14 rfl 0 rfl ?_
    refine jm_ldc2 (v := 1152921504606846976) X d_Z_findStretch_15 (jm_g3 194 rfl rfl) ?_
    refine jm_put X d_Z_findStretch_18 fs_Z_23 (by refine jm_us_get ?_ 0 rfl; exact hnd) rfl rfl (Nat.le_of_ble_eq_true rfl) (fs1 := [.int ba, .int sv, .ref bq, .ref eq, .long (-1152921504606846976), .long 1152921504606846976, .int of]) rfl (jm_hq (by refine jm_us_set ?_ 0 (L1 := [(a, .inr (2, [.int ba, .int sv, .ref bq, .ref eq, .long (-1152921504606846976), .long 1152921504606846976, .int of])), (bq, .inr (3, [.int bmo, .int bwk, .int bwd, .int bmi])), (eq, .inr (3, [.int emo, .int ewk, .int ewd, .int emi]))]) rfl rfl; exact hnd) ?_)
    refine jm_aload_n X d_Z_findStretch_21 rfl 0 rfl ?_
    refine jm_aload_n X d_Z_findStretch_22 rfl 0 rfl ?_
    refine jm_get X d_Z_findStretch_23 fs_Z_45 (by refine jm_us_get ?_ 0 rfl; exact hnd) rfl ?_
    refine jm_put X d_Z_findStretch_26 fs_Z_69 (by refine jm_us_get ?_ 0 rfl; exact hnd) rfl rfl (Nat.le_of_ble_eq_true rfl) (fs1 := [.int ba, .int sv, .ref bq, .ref eq, .long (-1152921504606846976), .long 1152921504606846976, .int ba]) rfl (jm_hq (by refine jm_us_set ?_ 0 (L1 := [(a, .inr (2, [.int ba, .int sv, .ref bq, .ref eq, .long (-1152921504606846976), .long 1152921504606846976, .int ba])), (bq, .inr (3, [.int bmo, .int bwk, .int bwd, .int bmi])), (eq, .inr (3, [.int emo, .int ewk, .int ewd, .int emi]))]) rfl rfl; exact hnd) ?_)
    exact jm_vret X hr hk d_Z_findStretch_29 ⟨rfl, (by show jm_us h _ = jm_us h _; unfold f_Z_findStretch_a_4 f_Z_findStretch_a_5 f_Z_findStretch_a_6; first | (simp only [if_pos c1, reduceIte]; done) | (simp only [if_pos c1, reduceIte]; rfl) | rfl)⟩
def f_Z_offsetAt (se : Int64) (ba : Int32) (sv : Int32) (si : Int64) (un : Int64) (of : Int32) (bmo : Int32) (bwk : Int32) (bwd : Int32) (bmi : Int32) (emo : Int32) (ewk : Int32) (ewd : Int32) (emi : Int32) : Int32 :=
  let v23_2 : Int32 := if se < si then (f_Z_findStretch_a_6 se ba sv si un of bmo bwk bwd bmi emo ewk ewd emi) else (if se < un then of else (f_Z_findStretch_a_6 se ba sv si un of bmo bwk bwd bmi emo ewk ewd emi))
  v23_2
def f_Z_offsetAt_a_4 (se : Int64) (ba : Int32) (sv : Int32) (si : Int64) (un : Int64) (of : Int32) (bmo : Int32) (bwk : Int32) (bwd : Int32) (bmi : Int32) (emo : Int32) (ewk : Int32) (ewd : Int32) (emi : Int32) : Int64 :=
  let v23 : Int64 := if se < si then (f_Z_findStretch_a_4 se ba sv si un of bmo bwk bwd bmi emo ewk ewd emi) else (if se < un then si else (f_Z_findStretch_a_4 se ba sv si un of bmo bwk bwd bmi emo ewk ewd emi))
  v23
def f_Z_offsetAt_a_5 (se : Int64) (ba : Int32) (sv : Int32) (si : Int64) (un : Int64) (of : Int32) (bmo : Int32) (bwk : Int32) (bwd : Int32) (bmi : Int32) (emo : Int32) (ewk : Int32) (ewd : Int32) (emi : Int32) : Int64 :=
  let v23_1 : Int64 := if se < si then (f_Z_findStretch_a_5 se ba sv si un of bmo bwk bwd bmi emo ewk ewd emi) else (if se < un then un else (f_Z_findStretch_a_5 se ba sv si un of bmo bwk bwd bmi emo ewk ewd emi))
  v23_1
def f_Z_offsetAt_a_6 (se : Int64) (ba : Int32) (sv : Int32) (si : Int64) (un : Int64) (of : Int32) (bmo : Int32) (bwk : Int32) (bwd : Int32) (bmi : Int32) (emo : Int32) (ewk : Int32) (ewd : Int32) (emi : Int32) : Int32 :=
  let v23_2 : Int32 := if se < si then (f_Z_findStretch_a_6 se ba sv si un of bmo bwk bwd bmi emo ewk ewd emi) else (if se < un then of else (f_Z_findStretch_a_6 se ba sv si un of bmo bwk bwd bmi emo ewk ewd emi))
  v23_2
set_option maxRecDepth 20000 in
set_option maxHeartbeats 4000000 in
theorem k_Z_offsetAt {l : Launch} {S : State} {D : va_G} {dA : Nat → ClassId} (E : jm_en S D jm_cl (jm_ty dA) jm_G) (a : Nat) (se : Int64) (ba : Int32) (sv : Int32) (bq : Nat) (eq : Nat) (si : Int64) (un : Int64) (of : Int32) (bmo : Int32) (bwk : Int32) (bwd : Int32) (bmi : Int32) (emo : Int32) (ewk : Int32) (ewd : Int32) (emi : Int32) (h : jm_H) (h_a : h a = some (.inr (2, [.int ba, .int sv, .ref bq, .ref eq, .long si, .long un, .int of]))) (h_bq : h bq = some (.inr (3, [.int bmo, .int bwk, .int bwd, .int bmi]))) (h_eq : h eq = some (.inr (3, [.int emo, .int ewk, .int ewd, .int emi]))) (hnd : ([a, bq, eq] : List Nat).Nodup)  : jm_M l S D jm_cl y_Z_offsetAt (Cond.code y_Z_offsetAt b_Z_offsetAt 3 (some FieldType.int)) { frames := 4, cells := 0, slots := 0, locals := 106 } [.ref a, .long se] h (jm_R (some (.int (f_Z_offsetAt se ba sv si un of bmo bwk bwd bmi emo ewk ewd emi))) (jm_us h [(a, .inr (2, [.int ba, .int sv, .ref bq, .ref eq, .long (f_Z_offsetAt_a_4 se ba sv si un of bmo bwk bwd bmi emo ewk ewd emi), .long (f_Z_offsetAt_a_5 se ba sv si un of bmo bwk bwd bmi emo ewk ewd emi), .int (f_Z_offsetAt_a_6 se ba sv si un of bmo bwk bwd bmi emo ewk ewd emi)])), (bq, .inr (3, [.int bmo, .int bwk, .int bwd, .int bmi])), (eq, .inr (3, [.int emo, .int ewk, .int ewd, .int emi]))])) 0 0 := by
  refine jm_ofW E (by decide) (Nat.le_of_ble_eq_true rfl) (fun p e s m below meth c X hr hk hmn hout hadm => ?_)
  have X : jm_cx p s m ([.ref a, .long se] : List Value).toArray c S D jm_cl (jm_ty dA) jm_G b_Z_offsetAt 3 "JobHouse$Zone" := X
  have hL : ∀ zz ∈ ([(a, .inr (2, [.int ba, .int sv, .ref bq, .ref eq, .long si, .long un, .int of])), (bq, .inr (3, [.int bmo, .int bwk, .int bwd, .int bmi])), (eq, .inr (3, [.int emo, .int ewk, .int ewd, .int emi]))] : List (Nat × va_E)), h zz.1 = some zz.2 := List.forall_mem_cons.mpr ⟨h_a, List.forall_mem_cons.mpr ⟨h_bq, List.forall_mem_cons.mpr ⟨h_eq, fun _ hz => absurd hz List.not_mem_nil⟩⟩⟩
  refine jm_hq (jm_us_id hL).symm ?_
  show jm_W p l e ({ frames := 4, cells := 0, slots := 0, locals := 106 }) s m ([.ref a, .long se] : List Value).toArray below meth c S D jm_cl (jm_Q S D jm_cl below s (jm_R (some (.int (f_Z_offsetAt se ba sv si un of bmo bwk bwd bmi emo ewk ewd emi))) (jm_us h [(a, .inr (2, [.int ba, .int sv, .ref bq, .ref eq, .long (f_Z_offsetAt_a_4 se ba sv si un of bmo bwk bwd bmi emo ewk ewd emi), .long (f_Z_offsetAt_a_5 se ba sv si un of bmo bwk bwd bmi emo ewk ewd emi), .int (f_Z_offsetAt_a_6 se ba sv si un of bmo bwk bwd bmi emo ewk ewd emi)])), (bq, .inr (3, [.int bmo, .int bwk, .int bwd, .int bmi])), (eq, .inr (3, [.int emo, .int ewk, .int ewd, .int emi]))])) 0 0) 3 0 [(0, .ref a), (1, .long se)] [] (jm_us h [(a, .inr (2, [.int ba, .int sv, .ref bq, .ref eq, .long si, .long un, .int of])), (bq, .inr (3, [.int bmo, .int bwk, .int bwd, .int bmi])), (eq, .inr (3, [.int emo, .int ewk, .int ewd, .int emi]))]) 0 0
  refine jm_lload_n X d_Z_offsetAt_0 rfl 1 rfl ?_
  refine jm_aload_n X d_Z_offsetAt_1 rfl 0 rfl ?_
  refine jm_get X d_Z_offsetAt_2 fs_Z_62 (by refine jm_us_get ?_ 0 rfl; exact hnd) rfl ?_
  refine jm_lcmp X d_Z_offsetAt_5 ?_
  have J23_2 : ∀ (v23 : Int64) (v23_1 : Int64) (v23_2 : Int32), v23 = (if se < si then (f_Z_findStretch_a_4 se ba sv si un of bmo bwk bwd bmi emo ewk ewd emi) else (if se < un then si else (f_Z_findStretch_a_4 se ba sv si un of bmo bwk bwd bmi emo ewk ewd emi)) : Int64) → v23_1 = (if se < si then (f_Z_findStretch_a_5 se ba sv si un of bmo bwk bwd bmi emo ewk ewd emi) else (if se < un then un else (f_Z_findStretch_a_5 se ba sv si un of bmo bwk bwd bmi emo ewk ewd emi)) : Int64) → v23_2 = (if se < si then (f_Z_findStretch_a_6 se ba sv si un of bmo bwk bwd bmi emo ewk ewd emi) else (if se < un then of else (f_Z_findStretch_a_6 se ba sv si un of bmo bwk bwd bmi emo ewk ewd emi)) : Int32) → jm_W p l e ({ frames := 4, cells := 0, slots := 0, locals := 106 }) s m ([.ref a, .long se] : List Value).toArray below meth c S D jm_cl (jm_Q S D jm_cl below s (jm_R (some (.int (f_Z_offsetAt se ba sv si un of bmo bwk bwd bmi emo ewk ewd emi))) (jm_us h [(a, .inr (2, [.int ba, .int sv, .ref bq, .ref eq, .long (f_Z_offsetAt_a_4 se ba sv si un of bmo bwk bwd bmi emo ewk ewd emi), .long (f_Z_offsetAt_a_5 se ba sv si un of bmo bwk bwd bmi emo ewk ewd emi), .int (f_Z_offsetAt_a_6 se ba sv si un of bmo bwk bwd bmi emo ewk ewd emi)])), (bq, .inr (3, [.int bmo, .int bwk, .int bwd, .int bmi])), (eq, .inr (3, [.int emo, .int ewk, .int ewd, .int emi]))])) 0 0) 3 23 [(0, .ref a), (1, .long se)] [] (jm_us h [(a, .inr (2, [.int ba, .int sv, .ref bq, .ref eq, .long v23, .long v23_1, .int v23_2])), (bq, .inr (3, [.int bmo, .int bwk, .int bwd, .int bmi])), (eq, .inr (3, [.int emo, .int ewk, .int ewd, .int emi]))]) 0 0 := by
    intro v23 v23_1 v23_2 ev23 ev23_1 ev23_2
    refine jm_aload_n X d_Z_offsetAt_23 rfl 0 rfl ?_
    refine jm_get X d_Z_offsetAt_24 fs_Z_69 (by refine jm_us_get ?_ 0 rfl; exact hnd) rfl ?_
    exact jm_iret X hr hk d_Z_offsetAt_27 ⟨(by show Outcome.returned _ = Outcome.returned _; unfold f_Z_offsetAt; subst ev23_2; subst ev23_1; subst ev23; rfl), (by show jm_us h _ = jm_us h _; unfold f_Z_offsetAt_a_4 f_Z_offsetAt_a_5 f_Z_offsetAt_a_6; subst ev23_2; subst ev23_1; subst ev23; rfl)⟩
  refine jm_lif_lt (tgt := 18) X d_Z_offsetAt_6 (by decide) (fun c1 => ?_) (fun c1 => ?_)
  · refine jm_aload_n X d_Z_offsetAt_18 rfl 0 rfl ?_
    refine jm_lload_n X d_Z_offsetAt_19 rfl 1 rfl ?_
    refine jm_callV (rest := []) X d_Z_offsetAt_20 (k_Z_findStretch E a se ba sv bq eq si un of bmo bwk bwd bmi emo ewk ewd emi (jm_us h [(a, .inr (2, [.int ba, .int sv, .ref bq, .ref eq, .long si, .long un, .int of])), (bq, .inr (3, [.int bmo, .int bwk, .int bwd, .int bmi])), (eq, .inr (3, [.int emo, .int ewk, .int ewd, .int emi]))]) (by refine jm_us_get ?_ 0 rfl; exact hnd) (by refine jm_us_get ?_ 1 rfl; exact hnd) (by refine jm_us_get ?_ 2 rfl; exact hnd) (by exact jm_pick hnd [0, 1, 2] (by decide) rfl) ) ci_Z_findStretch (Or.inl (jm_g3 190 rfl rfl)) im_Z_findStretch se_Z_findStretch (by refine jm_us_get ?_ 0 rfl; exact hnd) rfl rfl (Nat.le_of_ble_eq_true rfl) ⟨(Nat.le_of_ble_eq_true rfl), (Nat.le_of_ble_eq_true rfl)⟩ ⟨rfl, rfl⟩ ⟨(Nat.le_of_ble_eq_true rfl), (Nat.le_of_ble_eq_true rfl)⟩ (jm_k0 (jm_hq (by refine jm_into ?_ [0, 1, 2] rfl (L1 := [(a, .inr (2, [.int ba, .int sv, .ref bq, .ref eq, .long (f_Z_findStretch_a_4 se ba sv si un of bmo bwk bwd bmi emo ewk ewd emi), .long (f_Z_findStretch_a_5 se ba sv si un of bmo bwk bwd bmi emo ewk ewd emi), .int (f_Z_findStretch_a_6 se ba sv si un of bmo bwk bwd bmi emo ewk ewd emi)])), (bq, .inr (3, [.int bmo, .int bwk, .int bwd, .int bmi])), (eq, .inr (3, [.int emo, .int ewk, .int ewd, .int emi]))]) rfl; exact hnd) ?_))
    exact J23_2 _ _ _ (by first | (simp only [if_pos c1, reduceIte]; done) | (with_reducible rfl)) (by first | (simp only [if_pos c1, reduceIte]; done) | (with_reducible rfl)) (by first | (simp only [if_pos c1, reduceIte]; done) | (with_reducible rfl))
  · refine jm_lload_n X d_Z_offsetAt_9 rfl 1 rfl ?_
    refine jm_aload_n X d_Z_offsetAt_10 rfl 0 rfl ?_
    refine jm_get X d_Z_offsetAt_11 fs_Z_23 (by refine jm_us_get ?_ 0 rfl; exact hnd) rfl ?_
    refine jm_lcmp X d_Z_offsetAt_14 ?_
    refine jm_lif_lt (tgt := 23) X d_Z_offsetAt_15 (by decide) (fun c3 => ?_) (fun c3 => ?_)
    · exact J23_2 _ _ _ (by first | (simp only [if_neg c1, if_pos c3, reduceIte]; done) | (with_reducible rfl)) (by first | (simp only [if_neg c1, if_pos c3, reduceIte]; done) | (with_reducible rfl)) (by first | (simp only [if_neg c1, if_pos c3, reduceIte]; done) | (with_reducible rfl))
    · refine jm_aload_n X d_Z_offsetAt_18 rfl 0 rfl ?_
      refine jm_lload_n X d_Z_offsetAt_19 rfl 1 rfl ?_
      refine jm_callV (rest := []) X d_Z_offsetAt_20 (k_Z_findStretch E a se ba sv bq eq si un of bmo bwk bwd bmi emo ewk ewd emi (jm_us h [(a, .inr (2, [.int ba, .int sv, .ref bq, .ref eq, .long si, .long un, .int of])), (bq, .inr (3, [.int bmo, .int bwk, .int bwd, .int bmi])), (eq, .inr (3, [.int emo, .int ewk, .int ewd, .int emi]))]) (by refine jm_us_get ?_ 0 rfl; exact hnd) (by refine jm_us_get ?_ 1 rfl; exact hnd) (by refine jm_us_get ?_ 2 rfl; exact hnd) (by exact jm_pick hnd [0, 1, 2] (by decide) rfl) ) ci_Z_findStretch (Or.inl (jm_g3 190 rfl rfl)) im_Z_findStretch se_Z_findStretch (by refine jm_us_get ?_ 0 rfl; exact hnd) rfl rfl (Nat.le_of_ble_eq_true rfl) ⟨(Nat.le_of_ble_eq_true rfl), (Nat.le_of_ble_eq_true rfl)⟩ ⟨rfl, rfl⟩ ⟨(Nat.le_of_ble_eq_true rfl), (Nat.le_of_ble_eq_true rfl)⟩ (jm_k0 (jm_hq (by refine jm_into ?_ [0, 1, 2] rfl (L1 := [(a, .inr (2, [.int ba, .int sv, .ref bq, .ref eq, .long (f_Z_findStretch_a_4 se ba sv si un of bmo bwk bwd bmi emo ewk ewd emi), .long (f_Z_findStretch_a_5 se ba sv si un of bmo bwk bwd bmi emo ewk ewd emi), .int (f_Z_findStretch_a_6 se ba sv si un of bmo bwk bwd bmi emo ewk ewd emi)])), (bq, .inr (3, [.int bmo, .int bwk, .int bwd, .int bmi])), (eq, .inr (3, [.int emo, .int ewk, .int ewd, .int emi]))]) rfl; exact hnd) ?_))
      exact J23_2 _ _ _ (by first | (simp only [if_neg c1, if_neg c3, reduceIte]; done) | (with_reducible rfl)) (by first | (simp only [if_neg c1, if_neg c3, reduceIte]; done) | (with_reducible rfl)) (by first | (simp only [if_neg c1, if_neg c3, reduceIte]; done) | (with_reducible rfl))
end
section
theorem jm_inc {x n : Int32} (h : x < n) : (x + 1).toInt = x.toInt + 1 := by
  have h1 := Int32.lt_iff_toInt_lt.mp h
  have h2 := Int32.toInt_lt n
  have h3 := Int32.le_toInt x
  rw [Int32.toInt_add, show (1 : Int32).toInt = 1 from rfl]
  simp only [Int.bmod]
  omega
theorem jm_nl {x n : Int32} (h : ¬ n ≤ x) : x < n := by
  simp only [Int32.le_iff_toInt_le, Int32.lt_iff_toInt_lt] at *
  omega
theorem jm_inc0 {x n : Int32} (h0 : 0 ≤ x) (h : x < n) : 0 ≤ x + 1 := by
  have h1 := jm_inc h
  simp only [Int32.le_iff_toInt_le] at *
  have h3 : (0 : Int32).toInt = 0 := rfl
  omega
theorem jm_dec {x n : Int32} {k : Nat} (h : x < n) (hm : (n.toInt - x.toInt).toNat < k + 1) : (n.toInt - (x + 1).toInt).toNat < k := by
  have h1 := jm_inc h
  have h2 := Int32.lt_iff_toInt_lt.mp h
  omega
theorem jm_m0 {x n M : Int32} {k : Nat} (h0 : 0 ≤ x) (h1 : n ≤ M) (hk : M.toInt < k) (hk0 : 0 < k) : (n.toInt - x.toInt).toNat < k := by
  simp only [Int32.le_iff_toInt_le] at *
  have h3 : (0 : Int32).toInt = 0 := rfl
  omega
theorem jm_peek_lt {len at_ br : Int32} {f : Nat → Int32} (h : ¬ f_T_peek len at_ br f = -1) : at_ < len := by
  unfold f_T_peek at h
  by_cases c : at_ < len
  · exact c
  · exact absurd (by simp only [if_neg c, ite_self]) h
theorem jm_take_at {w len at_ br : Int32} {f : Nat → Int32} (hw : ¬ w = -1) (p1 : 0 ≤ at_) : 0 ≤ f_T_take_a_2 w len at_ br f := by
  unfold f_T_take_a_2
  by_cases c : f_T_peek len at_ br f = w
  · simp only [if_pos c]
    exact jm_inc0 p1 (jm_peek_lt (by rw [c]; exact hw))
  · simp only [if_neg c]
    exact p1
theorem jm_req_at {w len at_ br : Int32} {f : Nat → Int32} (hw : ¬ w = -1) (p1 : 0 ≤ at_) : 0 ≤ f_T_require_a_2 w len at_ br f := by
  unfold f_T_require_a_2
  exact jm_take_at hw p1
def F_T_requireBlanks_6 (len : Int32) (at_ : Int32) (br : Int32) (f : Nat → Int32) : Nat → (Int32) → Int32 × Int32
  | 0, _ => (0, 0)
  | n + 1, x =>
    if len ≤ x then ((x, f_T_require_a_3 32 len at_ br f)) else (if (f (x : Int32).toNatClampNeg) = 32 then (F_T_requireBlanks_6 len at_ br f n (x + 1)) else ((x, f_T_require_a_3 32 len at_ br f)))
termination_by n _ => n
def f_T_requireBlanks_a_2 (len : Int32) (at_ : Int32) (br : Int32) (f : Nat → Int32) : Int32 :=
  (F_T_requireBlanks_6 len at_ br f 401 (f_T_require_a_2 32 len at_ br f)).1
def f_T_requireBlanks_a_3 (len : Int32) (at_ : Int32) (br : Int32) (f : Nat → Int32) : Int32 :=
  (F_T_requireBlanks_6 len at_ br f 401 (f_T_require_a_2 32 len at_ br f)).2
set_option maxRecDepth 20000 in
set_option maxHeartbeats 4000000 in
theorem k_T_requireBlanks {l : Launch} {S : State} {D : va_G} {dA : Nat → ClassId} (E : jm_en S D jm_cl (jm_ty dA) jm_G) (a : Nat) (q : Nat) (len : Int32) (at_ : Int32) (br : Int32) (f : Nat → Int32) (h : jm_H) (h_a : h a = some (.inr (1, [.ref q, .int len, .int at_, .int br]))) (h_q : h q = some (.inl (dA 0, 400, .inl f))) (hnd : ([a, q] : List Nat).Nodup) (p1 : 0 ≤ at_) (p2 : len ≤ 400) : jm_M l S D jm_cl y_T_requireBlanks (Cond.code y_T_requireBlanks b_T_requireBlanks 1 (none)) { frames := 3, cells := 0, slots := 0, locals := 62 } [.ref a] h (jm_R none (jm_us h [(a, .inr (1, [.ref q, .int len, .int (f_T_requireBlanks_a_2 len at_ br f), .int (f_T_requireBlanks_a_3 len at_ br f)])), (q, .inl (dA 0, 400, .inl f))])) 0 0 := by
  refine jm_ofW E (by decide) (Nat.le_of_ble_eq_true rfl) (fun p e s m below meth c X hr hk hmn hout hadm => ?_)
  have X : jm_cx p s m ([.ref a] : List Value).toArray c S D jm_cl (jm_ty dA) jm_G b_T_requireBlanks 1 "JobHouse$Text" := X
  have hL : ∀ zz ∈ ([(a, .inr (1, [.ref q, .int len, .int at_, .int br])), (q, .inl (dA 0, 400, .inl f))] : List (Nat × va_E)), h zz.1 = some zz.2 := List.forall_mem_cons.mpr ⟨h_a, List.forall_mem_cons.mpr ⟨h_q, fun _ hz => absurd hz List.not_mem_nil⟩⟩
  refine jm_hq (jm_us_id hL).symm ?_
  show jm_W p l e ({ frames := 3, cells := 0, slots := 0, locals := 62 }) s m ([.ref a] : List Value).toArray below meth c S D jm_cl (jm_Q S D jm_cl below s (jm_R none (jm_us h [(a, .inr (1, [.ref q, .int len, .int (f_T_requireBlanks_a_2 len at_ br f), .int (f_T_requireBlanks_a_3 len at_ br f)])), (q, .inl (dA 0, 400, .inl f))])) 0 0) 1 0 [(0, .ref a)] [] (jm_us h [(a, .inr (1, [.ref q, .int len, .int at_, .int br])), (q, .inl (dA 0, 400, .inl f))]) 0 0
  refine jm_aload_n X d_T_requireBlanks_0 rfl 0 rfl ?_
  refine jm_bipush (v := 32) X d_T_requireBlanks_1 (by decide) ?_
  refine jm_callV (rest := []) X d_T_requireBlanks_3 (k_T_require E a 32 q len at_ br f (jm_us h [(a, .inr (1, [.ref q, .int len, .int at_, .int br])), (q, .inl (dA 0, 400, .inl f))]) (by refine jm_us_get ?_ 0 rfl; exact hnd) (by refine jm_us_get ?_ 1 rfl; exact hnd) (by exact jm_pick hnd [0, 1] (by decide) rfl) (by first | with_reducible assumption | decide +kernel) (by first | with_reducible assumption | decide +kernel)) ci_T_require (Or.inl (jm_g2 235 rfl rfl)) im_T_require se_T_require (by refine jm_us_get ?_ 0 rfl; exact hnd) rfl rfl (Nat.le_of_ble_eq_true rfl) ⟨(Nat.le_of_ble_eq_true rfl), (Nat.le_of_ble_eq_true rfl)⟩ ⟨rfl, rfl⟩ ⟨(Nat.le_of_ble_eq_true rfl), (Nat.le_of_ble_eq_true rfl)⟩ (jm_k0 (jm_hq (by refine jm_into ?_ [0, 1] rfl (L1 := [(a, .inr (1, [.ref q, .int len, .int (f_T_require_a_2 32 len at_ br f), .int (f_T_require_a_3 32 len at_ br f)])), (q, .inl (dA 0, 400, .inl f))]) rfl; exact hnd) ?_))
  obtain ⟨ro, hro⟩ : ∃ ro, ro = F_T_requireBlanks_6 len at_ br f 401 (f_T_require_a_2 32 len at_ br f) := ⟨_, rfl⟩
  have LP6 : ∀ (n : Nat) (x : Int32), (0 ≤ x) → (len.toInt - x.toInt).toNat < n → F_T_requireBlanks_6 len at_ br f n x = ro → jm_W p l e ({ frames := 3, cells := 0, slots := 0, locals := 62 }) s m ([.ref a] : List Value).toArray below meth c S D jm_cl (jm_Q S D jm_cl below s (jm_R none (jm_us h [(a, .inr (1, [.ref q, .int len, .int (f_T_requireBlanks_a_2 len at_ br f), .int (f_T_requireBlanks_a_3 len at_ br f)])), (q, .inl (dA 0, 400, .inl f))])) 0 0) 1 6 [(0, .ref a)] [] (jm_us h [(a, .inr (1, [.ref q, .int len, .int x, .int (f_T_require_a_3 32 len at_ br f)])), (q, .inl (dA 0, 400, .inl f))]) 0 0 := by
    intro n
    induction n with
    | zero => intro x i1 hm _; exact absurd hm (Nat.not_lt_zero _)
    | succ n ih =>
      intro x i1 hm hF
      simp only [F_T_requireBlanks_6] at hF
      refine jm_aload_n X d_T_requireBlanks_6 rfl 0 rfl ?_
      refine jm_get X d_T_requireBlanks_7 fs_T_22 (by refine jm_us_get ?_ 0 rfl; exact hnd) rfl ?_
      refine jm_aload_n X d_T_requireBlanks_10 rfl 0 rfl ?_
      refine jm_get X d_T_requireBlanks_11 fs_T_19 (by refine jm_us_get ?_ 0 rfl; exact hnd) rfl ?_
      refine jm_icmp_ge (tgt := 44) X d_T_requireBlanks_14 (by decide) (fun c1 => ?_) (fun c1 => ?_)
      · exact jm_vret X hr hk d_T_requireBlanks_44 ⟨rfl, (by show jm_us h _ = jm_us h _; simp only [if_pos c1, reduceIte] at hF; unfold f_T_requireBlanks_a_2 f_T_requireBlanks_a_3; (try dsimp only); rw [← hro, ← hF])⟩
      · refine jm_aload_n X d_T_requireBlanks_17 rfl 0 rfl ?_
        refine jm_get X d_T_requireBlanks_18 fs_T_9 (by refine jm_us_get ?_ 0 rfl; exact hnd) rfl ?_
        refine jm_aload_n X d_T_requireBlanks_21 rfl 0 rfl ?_
        refine jm_get X d_T_requireBlanks_22 fs_T_22 (by refine jm_us_get ?_ 0 rfl; exact hnd) rfl ?_
        refine jm_bald (t0 := 0) X d_T_requireBlanks_25 rfl (by refine jm_us_get ?_ 1 rfl; exact hnd) (jm_in i1 c1 p2 rfl) ?_
        refine jm_bipush (v := 32) X d_T_requireBlanks_26 (by decide) ?_
        refine jm_icmp_ne (tgt := 44) X d_T_requireBlanks_28 (by decide) (fun c2 => ?_) (fun c2 => ?_)
        · exact jm_vret X hr hk d_T_requireBlanks_44 ⟨rfl, (by show jm_us h _ = jm_us h _; simp only [if_neg c1, if_neg c2, reduceIte] at hF; unfold f_T_requireBlanks_a_2 f_T_requireBlanks_a_3; (try dsimp only); rw [← hro, ← hF])⟩
        · refine jm_aload_n X d_T_requireBlanks_31 rfl 0 rfl ?_
          refine jm_dup X d_T_requireBlanks_32 rfl ?_
          refine jm_get X d_T_requireBlanks_33 fs_T_22 (by refine jm_us_get ?_ 0 rfl; exact hnd) rfl ?_
          refine jm_iconst (v := 1) X d_T_requireBlanks_36 (by decide) ?_
          refine jm_iadd X d_T_requireBlanks_37 ?_
          refine jm_put X d_T_requireBlanks_38 fs_T_22 (by refine jm_us_get ?_ 0 rfl; exact hnd) rfl rfl (Nat.le_of_ble_eq_true rfl) (fs1 := [.ref q, .int len, .int (x + 1), .int (f_T_require_a_3 32 len at_ br f)]) rfl (jm_hq (by refine jm_us_set ?_ 0 (L1 := [(a, .inr (1, [.ref q, .int len, .int (x + 1), .int (f_T_require_a_3 32 len at_ br f)])), (q, .inl (dA 0, 400, .inl f))]) rfl rfl; exact hnd) ?_)
          refine jm_goto (tgt := 6) X d_T_requireBlanks_41 (by decide) ?_
          exact ih (x + 1) (jm_inc0 i1 (jm_nl c1)) (jm_dec (jm_nl c1) hm) (by simp only [if_neg c1, if_pos c2, reduceIte] at hF; exact hF)
  exact LP6 401 (f_T_require_a_2 32 len at_ br f) (jm_req_at (by decide) p1) (jm_m0 (jm_req_at (by decide) p1) p2 (by decide) (by decide)) hro.symm
def F_T_number_24 (lo : Int32) (hi : Int32) (len : Int32) (at_ : Int32) (br : Int32) (f : Nat → Int32) (v22 : Int32) : Nat → (Int32) → (Int32) → Int32 × Int32 × Int32
  | 0, _, _ => (0, 0, 0)
  | n + 1, x, nu =>
    let v116 : Int32 := if x = at_ then (f_T_breakAt_a_3 at_ len x br f) else (if nu < lo then (f_T_breakAt_a_3 at_ len x br f) else (if nu ≤ hi then br else (f_T_breakAt_a_3 at_ len x br f)))
    let v130 : Int32 := if v116 = (-1) then nu else lo
    let v116x : Int32 := if x = at_ then (f_T_breakAt_a_3 at_ len x br f) else (if nu < lo then (f_T_breakAt_a_3 at_ len x br f) else (if nu ≤ hi then br else (f_T_breakAt_a_3 at_ len x br f)))
    let v130x : Int32 := if v116x = (-1) then nu else lo
    let u73 : Int32 := f_Math_min (((nu * 10) + (f_T_peek len x br f)) - 48) 1000000
    let v116xx : Int32 := if x = at_ then (f_T_breakAt_a_3 at_ len x br f) else (if nu < lo then (f_T_breakAt_a_3 at_ len x br f) else (if nu ≤ hi then br else (f_T_breakAt_a_3 at_ len x br f)))
    let v130xx : Int32 := if v116xx = (-1) then nu else lo
    let u73x : Int32 := f_Math_min (((nu * 10) + (f_T_peek len x br f)) - 48) 1000000
    if len ≤ x then ((v130, x, v116)) else (if (f_T_isDigit (f_T_peek len x br f)) = 0 then ((v130x, x, v116x)) else (if v22 = 0 then (F_T_number_24 lo hi len at_ br f v22 n (x + 1) u73) else (if at_ < x then ((v130xx, x, v116xx)) else (F_T_number_24 lo hi len at_ br f v22 n (x + 1) u73x))))
termination_by n _ _ => n
def f_T_number (lo : Int32) (hi : Int32) (len : Int32) (at_ : Int32) (br : Int32) (f : Nat → Int32) : Int32 :=
  let v22 : Int32 := if (f_T_peek len at_ br f) = 48 then 1 else 0
  (F_T_number_24 lo hi len at_ br f v22 401 at_ 0).1
def f_T_number_a_2 (lo : Int32) (hi : Int32) (len : Int32) (at_ : Int32) (br : Int32) (f : Nat → Int32) : Int32 :=
  let v22 : Int32 := if (f_T_peek len at_ br f) = 48 then 1 else 0
  (F_T_number_24 lo hi len at_ br f v22 401 at_ 0).2.1
def f_T_number_a_3 (lo : Int32) (hi : Int32) (len : Int32) (at_ : Int32) (br : Int32) (f : Nat → Int32) : Int32 :=
  let v22 : Int32 := if (f_T_peek len at_ br f) = 48 then 1 else 0
  (F_T_number_24 lo hi len at_ br f v22 401 at_ 0).2.2
set_option maxRecDepth 20000 in
set_option maxHeartbeats 4000000 in
theorem k_T_number {l : Launch} {S : State} {D : va_G} {dA : Nat → ClassId} (E : jm_en S D jm_cl (jm_ty dA) jm_G) (a : Nat) (lo : Int32) (hi : Int32) (q : Nat) (len : Int32) (at_ : Int32) (br : Int32) (f : Nat → Int32) (h : jm_H) (h_a : h a = some (.inr (1, [.ref q, .int len, .int at_, .int br]))) (h_q : h q = some (.inl (dA 0, 400, .inl f))) (hnd : ([a, q] : List Nat).Nodup) (p1 : 0 ≤ at_) (p2 : len ≤ 400) : jm_M l S D jm_cl y_T_number (Cond.code y_T_number b_T_number 6 (some FieldType.int)) { frames := 1, cells := 0, slots := 0, locals := 21 } [.ref a, .int lo, .int hi] h (jm_R (some (.int (f_T_number lo hi len at_ br f))) (jm_us h [(a, .inr (1, [.ref q, .int len, .int (f_T_number_a_2 lo hi len at_ br f), .int (f_T_number_a_3 lo hi len at_ br f)])), (q, .inl (dA 0, 400, .inl f))])) 0 0 := by
  refine jm_ofW E (by decide) (Nat.le_of_ble_eq_true rfl) (fun p e s m below meth c X hr hk hmn hout hadm => ?_)
  have X : jm_cx p s m ([.ref a, .int lo, .int hi] : List Value).toArray c S D jm_cl (jm_ty dA) jm_G b_T_number 6 "JobHouse$Text" := X
  have hL : ∀ zz ∈ ([(a, .inr (1, [.ref q, .int len, .int at_, .int br])), (q, .inl (dA 0, 400, .inl f))] : List (Nat × va_E)), h zz.1 = some zz.2 := List.forall_mem_cons.mpr ⟨h_a, List.forall_mem_cons.mpr ⟨h_q, fun _ hz => absurd hz List.not_mem_nil⟩⟩
  refine jm_hq (jm_us_id hL).symm ?_
  show jm_W p l e ({ frames := 1, cells := 0, slots := 0, locals := 21 }) s m ([.ref a, .int lo, .int hi] : List Value).toArray below meth c S D jm_cl (jm_Q S D jm_cl below s (jm_R (some (.int (f_T_number lo hi len at_ br f))) (jm_us h [(a, .inr (1, [.ref q, .int len, .int (f_T_number_a_2 lo hi len at_ br f), .int (f_T_number_a_3 lo hi len at_ br f)])), (q, .inl (dA 0, 400, .inl f))])) 0 0) 6 0 [(0, .ref a), (1, .int lo), (2, .int hi)] [] (jm_us h [(a, .inr (1, [.ref q, .int len, .int at_, .int br])), (q, .inl (dA 0, 400, .inl f))]) 0 0
  refine jm_aload_n X d_T_number_0 rfl 0 rfl ?_
  refine jm_get X d_T_number_1 fs_T_22 (by refine jm_us_get ?_ 0 rfl; exact hnd) rfl ?_
  refine jm_istore_n X d_T_number_4 rfl (by decide) (lv1 := [(3, .int at_), (0, .ref a), (1, .int lo), (2, .int hi)]) rfl ?_
  refine jm_iconst (v := 0) X d_T_number_5 (by decide) ?_
  refine jm_istore X d_T_number_6 (by decide) (lv1 := [(4, .int 0), (3, .int at_), (0, .ref a), (1, .int lo), (2, .int hi)]) rfl ?_
  refine jm_aload_n X d_T_number_8 rfl 2 rfl ?_
  refine jm_callV (rest := []) X d_T_number_9 (k_T_peek E a q len at_ br f (jm_us h [(a, .inr (1, [.ref q, .int len, .int at_, .int br])), (q, .inl (dA 0, 400, .inl f))]) (by refine jm_us_get ?_ 0 rfl; exact hnd) (by refine jm_us_get ?_ 1 rfl; exact hnd) (by exact jm_pick hnd [0, 1] (by decide) rfl) (by first | with_reducible assumption | decide +kernel) (by first | with_reducible assumption | decide +kernel)) ci_T_peek (Or.inl (jm_g2 203 rfl rfl)) im_T_peek se_T_peek (by refine jm_us_get ?_ 0 rfl; exact hnd) rfl rfl (Nat.le_of_ble_eq_true rfl) ⟨(Nat.le_of_ble_eq_true rfl), (Nat.le_of_ble_eq_true rfl)⟩ ⟨rfl, rfl⟩ ⟨(Nat.le_of_ble_eq_true rfl), (Nat.le_of_ble_eq_true rfl)⟩ (jm_k1 ?_)
  refine jm_bipush (v := 48) X d_T_number_12 (by decide) ?_
  have J22_2 : ∀ (v22 : Int32), v22 = (if (f_T_peek len at_ br f) = 48 then 1 else 0 : Int32) → jm_W p l e ({ frames := 1, cells := 0, slots := 0, locals := 21 }) s m ([.ref a, .int lo, .int hi] : List Value).toArray below meth c S D jm_cl (jm_Q S D jm_cl below s (jm_R (some (.int (f_T_number lo hi len at_ br f))) (jm_us h [(a, .inr (1, [.ref q, .int len, .int (f_T_number_a_2 lo hi len at_ br f), .int (f_T_number_a_3 lo hi len at_ br f)])), (q, .inl (dA 0, 400, .inl f))])) 0 0) 6 22 [(4, .int 0), (3, .int at_), (0, .ref a), (1, .int lo), (2, .int hi)] [.int v22] (jm_us h [(a, .inr (1, [.ref q, .int len, .int at_, .int br])), (q, .inl (dA 0, 400, .inl f))]) 0 0 := by
    intro v22 ev22
    refine jm_istore X d_T_number_22 (by decide) (lv1 := [(5, .int v22), (4, .int 0), (3, .int at_), (0, .ref a), (1, .int lo), (2, .int hi)]) rfl ?_
    refine jm_lvs [3, 4, 5, 2, 1, 0] (lv1 := [(0, .ref a), (1, .int lo), (2, .int hi), (3, .int at_), (4, .int 0), (5, .int v22)]) rfl ?_
    obtain ⟨ro, hro⟩ : ∃ ro, ro = F_T_number_24 lo hi len at_ br f v22 401 at_ 0 := ⟨_, rfl⟩
    have LP24 : ∀ (n : Nat) (x : Int32) (nu : Int32), (0 ≤ x) → (len.toInt - x.toInt).toNat < n → F_T_number_24 lo hi len at_ br f v22 n x nu = ro → jm_W p l e ({ frames := 1, cells := 0, slots := 0, locals := 21 }) s m ([.ref a, .int lo, .int hi] : List Value).toArray below meth c S D jm_cl (jm_Q S D jm_cl below s (jm_R (some (.int (f_T_number lo hi len at_ br f))) (jm_us h [(a, .inr (1, [.ref q, .int len, .int (f_T_number_a_2 lo hi len at_ br f), .int (f_T_number_a_3 lo hi len at_ br f)])), (q, .inl (dA 0, 400, .inl f))])) 0 0) 6 24 [(0, .ref a), (1, .int lo), (2, .int hi), (3, .int at_), (4, .int nu), (5, .int v22)] [] (jm_us h [(a, .inr (1, [.ref q, .int len, .int x, .int br])), (q, .inl (dA 0, 400, .inl f))]) 0 0 := by
      intro n
      induction n with
      | zero => intro x nu i1 hm _; exact absurd hm (Nat.not_lt_zero _)
      | succ n ih =>
        intro x nu i1 hm hF
        simp only [F_T_number_24] at hF
        refine jm_aload_n X d_T_number_24 rfl 0 rfl ?_
        refine jm_get X d_T_number_25 fs_T_22 (by refine jm_us_get ?_ 0 rfl; exact hnd) rfl ?_
        refine jm_aload_n X d_T_number_28 rfl 0 rfl ?_
        refine jm_get X d_T_number_29 fs_T_19 (by refine jm_us_get ?_ 0 rfl; exact hnd) rfl ?_
        refine jm_icmp_ge (tgt := 91) X d_T_number_32 (by decide) (fun c3 => ?_) (fun c3 => ?_)
        · refine jm_aload_n X d_T_number_91 rfl 0 rfl ?_
          refine jm_get X d_T_number_92 fs_T_22 (by refine jm_us_get ?_ 0 rfl; exact hnd) rfl ?_
          refine jm_iload_n X d_T_number_95 rfl 3 rfl ?_
          have J116_5 : ∀ (v116 : Int32), v116 = (if x = at_ then (f_T_breakAt_a_3 at_ len x br f) else (if nu < lo then (f_T_breakAt_a_3 at_ len x br f) else (if nu ≤ hi then br else (f_T_breakAt_a_3 at_ len x br f))) : Int32) → jm_W p l e ({ frames := 1, cells := 0, slots := 0, locals := 21 }) s m ([.ref a, .int lo, .int hi] : List Value).toArray below meth c S D jm_cl (jm_Q S D jm_cl below s (jm_R (some (.int (f_T_number lo hi len at_ br f))) (jm_us h [(a, .inr (1, [.ref q, .int len, .int (f_T_number_a_2 lo hi len at_ br f), .int (f_T_number_a_3 lo hi len at_ br f)])), (q, .inl (dA 0, 400, .inl f))])) 0 0) 6 116 [(0, .ref a), (1, .int lo), (2, .int hi), (3, .int at_), (4, .int nu), (5, .int v22)] [] (jm_us h [(a, .inr (1, [.ref q, .int len, .int x, .int v116])), (q, .inl (dA 0, 400, .inl f))]) 0 0 := by
            intro v116 ev116
            refine jm_aload_n X d_T_number_116 rfl 0 rfl ?_
            refine jm_get X d_T_number_117 fs_T_15 (by refine jm_us_get ?_ 0 rfl; exact hnd) rfl ?_
            refine jm_iconst (v := (-1)) X d_T_number_120 (by decide) ?_
            have J130_7 : ∀ (v130 : Int32), v130 = (if v116 = (-1) then nu else lo : Int32) → jm_W p l e ({ frames := 1, cells := 0, slots := 0, locals := 21 }) s m ([.ref a, .int lo, .int hi] : List Value).toArray below meth c S D jm_cl (jm_Q S D jm_cl below s (jm_R (some (.int (f_T_number lo hi len at_ br f))) (jm_us h [(a, .inr (1, [.ref q, .int len, .int (f_T_number_a_2 lo hi len at_ br f), .int (f_T_number_a_3 lo hi len at_ br f)])), (q, .inl (dA 0, 400, .inl f))])) 0 0) 6 130 [(0, .ref a), (1, .int lo), (2, .int hi), (3, .int at_), (4, .int nu), (5, .int v22)] [.int v130] (jm_us h [(a, .inr (1, [.ref q, .int len, .int x, .int v116])), (q, .inl (dA 0, 400, .inl f))]) 0 0 := by
              intro v130 ev130
              exact jm_iret X hr hk d_T_number_130 ⟨(by show Outcome.returned _ = Outcome.returned _; subst ev130; subst ev116; subst ev22; simp only [if_pos c3, reduceIte] at hF; unfold f_T_number; (try dsimp only); rw [← hro, ← hF]), (by show jm_us h _ = jm_us h _; subst ev130; subst ev116; subst ev22; simp only [if_pos c3, reduceIte] at hF; unfold f_T_number_a_2 f_T_number_a_3; (try dsimp only); rw [← hro, ← hF])⟩
            refine jm_icmp_ne (tgt := 129) X d_T_number_121 (by decide) (fun c6 => ?_) (fun c6 => ?_)
            · refine jm_iload_n X d_T_number_129 rfl 1 rfl ?_
              exact J130_7 _ (by first | (simp only [if_neg c6, reduceIte]; done) | (with_reducible rfl))
            · refine jm_iload X d_T_number_124 4 rfl ?_
              refine jm_goto (tgt := 130) X d_T_number_126 (by decide) ?_
              exact J130_7 _ (by first | (simp only [if_pos c6, reduceIte]; done) | (with_reducible rfl))
          refine jm_icmp_eq (tgt := 111) X d_T_number_96 (by decide) (fun c4 => ?_) (fun c4 => ?_)
          · refine jm_aload_n X d_T_number_111 rfl 0 rfl ?_
            refine jm_iload_n X d_T_number_112 rfl 3 rfl ?_
            refine jm_callV (rest := []) X d_T_number_113 (k_T_breakAt E a at_ q len x br f (jm_us h [(a, .inr (1, [.ref q, .int len, .int x, .int br])), (q, .inl (dA 0, 400, .inl f))]) (by refine jm_us_get ?_ 0 rfl; exact hnd) (by refine jm_us_get ?_ 1 rfl; exact hnd) (by exact jm_pick hnd [0, 1] (by decide) rfl) ) ci_T_breakAt (Or.inl (jm_g2 212 rfl rfl)) im_T_breakAt se_T_breakAt (by refine jm_us_get ?_ 0 rfl; exact hnd) rfl rfl (Nat.le_of_ble_eq_true rfl) ⟨(Nat.le_of_ble_eq_true rfl), (Nat.le_of_ble_eq_true rfl)⟩ ⟨rfl, rfl⟩ ⟨(Nat.le_of_ble_eq_true rfl), (Nat.le_of_ble_eq_true rfl)⟩ (jm_k0 (jm_hq (by refine jm_into ?_ [0, 1] rfl (L1 := [(a, .inr (1, [.ref q, .int len, .int x, .int (f_T_breakAt_a_3 at_ len x br f)])), (q, .inl (dA 0, 400, .inl f))]) rfl; exact hnd) ?_))
            exact J116_5 _ (by first | (simp only [if_pos c4, reduceIte]; done) | (with_reducible rfl))
          · refine jm_iload X d_T_number_99 4 rfl ?_
            refine jm_iload_n X d_T_number_101 rfl 1 rfl ?_
            refine jm_icmp_lt (tgt := 111) X d_T_number_102 (by decide) (fun c8 => ?_) (fun c8 => ?_)
            · refine jm_aload_n X d_T_number_111 rfl 0 rfl ?_
              refine jm_iload_n X d_T_number_112 rfl 3 rfl ?_
              refine jm_callV (rest := []) X d_T_number_113 (k_T_breakAt E a at_ q len x br f (jm_us h [(a, .inr (1, [.ref q, .int len, .int x, .int br])), (q, .inl (dA 0, 400, .inl f))]) (by refine jm_us_get ?_ 0 rfl; exact hnd) (by refine jm_us_get ?_ 1 rfl; exact hnd) (by exact jm_pick hnd [0, 1] (by decide) rfl) ) ci_T_breakAt (Or.inl (jm_g2 212 rfl rfl)) im_T_breakAt se_T_breakAt (by refine jm_us_get ?_ 0 rfl; exact hnd) rfl rfl (Nat.le_of_ble_eq_true rfl) ⟨(Nat.le_of_ble_eq_true rfl), (Nat.le_of_ble_eq_true rfl)⟩ ⟨rfl, rfl⟩ ⟨(Nat.le_of_ble_eq_true rfl), (Nat.le_of_ble_eq_true rfl)⟩ (jm_k0 (jm_hq (by refine jm_into ?_ [0, 1] rfl (L1 := [(a, .inr (1, [.ref q, .int len, .int x, .int (f_T_breakAt_a_3 at_ len x br f)])), (q, .inl (dA 0, 400, .inl f))]) rfl; exact hnd) ?_))
              exact J116_5 _ (by first | (simp only [if_neg c4, if_pos c8, reduceIte]; done) | (with_reducible rfl))
            · refine jm_iload X d_T_number_105 4 rfl ?_
              refine jm_iload_n X d_T_number_107 rfl 2 rfl ?_
              refine jm_icmp_le (tgt := 116) X d_T_number_108 (by decide) (fun c9 => ?_) (fun c9 => ?_)
              · exact J116_5 _ (by first | (simp only [if_neg c4, if_neg c8, if_pos c9, reduceIte]; done) | (with_reducible rfl))
              · refine jm_aload_n X d_T_number_111 rfl 0 rfl ?_
                refine jm_iload_n X d_T_number_112 rfl 3 rfl ?_
                refine jm_callV (rest := []) X d_T_number_113 (k_T_breakAt E a at_ q len x br f (jm_us h [(a, .inr (1, [.ref q, .int len, .int x, .int br])), (q, .inl (dA 0, 400, .inl f))]) (by refine jm_us_get ?_ 0 rfl; exact hnd) (by refine jm_us_get ?_ 1 rfl; exact hnd) (by exact jm_pick hnd [0, 1] (by decide) rfl) ) ci_T_breakAt (Or.inl (jm_g2 212 rfl rfl)) im_T_breakAt se_T_breakAt (by refine jm_us_get ?_ 0 rfl; exact hnd) rfl rfl (Nat.le_of_ble_eq_true rfl) ⟨(Nat.le_of_ble_eq_true rfl), (Nat.le_of_ble_eq_true rfl)⟩ ⟨rfl, rfl⟩ ⟨(Nat.le_of_ble_eq_true rfl), (Nat.le_of_ble_eq_true rfl)⟩ (jm_k0 (jm_hq (by refine jm_into ?_ [0, 1] rfl (L1 := [(a, .inr (1, [.ref q, .int len, .int x, .int (f_T_breakAt_a_3 at_ len x br f)])), (q, .inl (dA 0, 400, .inl f))]) rfl; exact hnd) ?_))
                exact J116_5 _ (by first | (simp only [if_neg c4, if_neg c8, if_neg c9, reduceIte]; done) | (with_reducible rfl))
        · refine jm_aload_n X d_T_number_35 rfl 0 rfl ?_
          refine jm_callV (rest := []) X d_T_number_36 (k_T_peek E a q len x br f (jm_us h [(a, .inr (1, [.ref q, .int len, .int x, .int br])), (q, .inl (dA 0, 400, .inl f))]) (by refine jm_us_get ?_ 0 rfl; exact hnd) (by refine jm_us_get ?_ 1 rfl; exact hnd) (by exact jm_pick hnd [0, 1] (by decide) rfl) (by first | with_reducible assumption | decide +kernel) (by first | with_reducible assumption | decide +kernel)) ci_T_peek (Or.inl (jm_g2 203 rfl rfl)) im_T_peek se_T_peek (by refine jm_us_get ?_ 0 rfl; exact hnd) rfl rfl (Nat.le_of_ble_eq_true rfl) ⟨(Nat.le_of_ble_eq_true rfl), (Nat.le_of_ble_eq_true rfl)⟩ ⟨rfl, rfl⟩ ⟨(Nat.le_of_ble_eq_true rfl), (Nat.le_of_ble_eq_true rfl)⟩ (jm_k1 ?_)
          refine jm_callS (rest := []) X d_T_number_39 (k_T_isDigit E (f_T_peek len x br f) (jm_us h [(a, .inr (1, [.ref q, .int len, .int x, .int br])), (q, .inl (dA 0, 400, .inl f))])  ) ci_T_isDigit (Or.inl (jm_g2 220 rfl rfl)) st_T_isDigit rfl (Nat.le_of_ble_eq_true rfl) ⟨(Nat.le_of_ble_eq_true rfl), (Nat.le_of_ble_eq_true rfl)⟩ ⟨rfl, rfl⟩ ⟨(Nat.le_of_ble_eq_true rfl), (Nat.le_of_ble_eq_true rfl)⟩ (jm_k1 ?_)
          refine jm_if_eq (tgt := 91) X d_T_number_42 (by decide) (fun c10 => ?_) (fun c10 => ?_)
          · refine jm_aload_n X d_T_number_91 rfl 0 rfl ?_
            refine jm_get X d_T_number_92 fs_T_22 (by refine jm_us_get ?_ 0 rfl; exact hnd) rfl ?_
            refine jm_iload_n X d_T_number_95 rfl 3 rfl ?_
            have J116_12 : ∀ (v116x : Int32), v116x = (if x = at_ then (f_T_breakAt_a_3 at_ len x br f) else (if nu < lo then (f_T_breakAt_a_3 at_ len x br f) else (if nu ≤ hi then br else (f_T_breakAt_a_3 at_ len x br f))) : Int32) → jm_W p l e ({ frames := 1, cells := 0, slots := 0, locals := 21 }) s m ([.ref a, .int lo, .int hi] : List Value).toArray below meth c S D jm_cl (jm_Q S D jm_cl below s (jm_R (some (.int (f_T_number lo hi len at_ br f))) (jm_us h [(a, .inr (1, [.ref q, .int len, .int (f_T_number_a_2 lo hi len at_ br f), .int (f_T_number_a_3 lo hi len at_ br f)])), (q, .inl (dA 0, 400, .inl f))])) 0 0) 6 116 [(0, .ref a), (1, .int lo), (2, .int hi), (3, .int at_), (4, .int nu), (5, .int v22)] [] (jm_us h [(a, .inr (1, [.ref q, .int len, .int x, .int v116x])), (q, .inl (dA 0, 400, .inl f))]) 0 0 := by
              intro v116x ev116x
              refine jm_aload_n X d_T_number_116 rfl 0 rfl ?_
              refine jm_get X d_T_number_117 fs_T_15 (by refine jm_us_get ?_ 0 rfl; exact hnd) rfl ?_
              refine jm_iconst (v := (-1)) X d_T_number_120 (by decide) ?_
              have J130_14 : ∀ (v130x : Int32), v130x = (if v116x = (-1) then nu else lo : Int32) → jm_W p l e ({ frames := 1, cells := 0, slots := 0, locals := 21 }) s m ([.ref a, .int lo, .int hi] : List Value).toArray below meth c S D jm_cl (jm_Q S D jm_cl below s (jm_R (some (.int (f_T_number lo hi len at_ br f))) (jm_us h [(a, .inr (1, [.ref q, .int len, .int (f_T_number_a_2 lo hi len at_ br f), .int (f_T_number_a_3 lo hi len at_ br f)])), (q, .inl (dA 0, 400, .inl f))])) 0 0) 6 130 [(0, .ref a), (1, .int lo), (2, .int hi), (3, .int at_), (4, .int nu), (5, .int v22)] [.int v130x] (jm_us h [(a, .inr (1, [.ref q, .int len, .int x, .int v116x])), (q, .inl (dA 0, 400, .inl f))]) 0 0 := by
                intro v130x ev130x
                exact jm_iret X hr hk d_T_number_130 ⟨(by show Outcome.returned _ = Outcome.returned _; subst ev130x; subst ev116x; subst ev22; simp only [if_neg c3, if_pos c10, reduceIte] at hF; unfold f_T_number; (try dsimp only); rw [← hro, ← hF]), (by show jm_us h _ = jm_us h _; subst ev130x; subst ev116x; subst ev22; simp only [if_neg c3, if_pos c10, reduceIte] at hF; unfold f_T_number_a_2 f_T_number_a_3; (try dsimp only); rw [← hro, ← hF])⟩
              refine jm_icmp_ne (tgt := 129) X d_T_number_121 (by decide) (fun c13 => ?_) (fun c13 => ?_)
              · refine jm_iload_n X d_T_number_129 rfl 1 rfl ?_
                exact J130_14 _ (by first | (simp only [if_neg c13, reduceIte]; done) | (with_reducible rfl))
              · refine jm_iload X d_T_number_124 4 rfl ?_
                refine jm_goto (tgt := 130) X d_T_number_126 (by decide) ?_
                exact J130_14 _ (by first | (simp only [if_pos c13, reduceIte]; done) | (with_reducible rfl))
            refine jm_icmp_eq (tgt := 111) X d_T_number_96 (by decide) (fun c11 => ?_) (fun c11 => ?_)
            · refine jm_aload_n X d_T_number_111 rfl 0 rfl ?_
              refine jm_iload_n X d_T_number_112 rfl 3 rfl ?_
              refine jm_callV (rest := []) X d_T_number_113 (k_T_breakAt E a at_ q len x br f (jm_us h [(a, .inr (1, [.ref q, .int len, .int x, .int br])), (q, .inl (dA 0, 400, .inl f))]) (by refine jm_us_get ?_ 0 rfl; exact hnd) (by refine jm_us_get ?_ 1 rfl; exact hnd) (by exact jm_pick hnd [0, 1] (by decide) rfl) ) ci_T_breakAt (Or.inl (jm_g2 212 rfl rfl)) im_T_breakAt se_T_breakAt (by refine jm_us_get ?_ 0 rfl; exact hnd) rfl rfl (Nat.le_of_ble_eq_true rfl) ⟨(Nat.le_of_ble_eq_true rfl), (Nat.le_of_ble_eq_true rfl)⟩ ⟨rfl, rfl⟩ ⟨(Nat.le_of_ble_eq_true rfl), (Nat.le_of_ble_eq_true rfl)⟩ (jm_k0 (jm_hq (by refine jm_into ?_ [0, 1] rfl (L1 := [(a, .inr (1, [.ref q, .int len, .int x, .int (f_T_breakAt_a_3 at_ len x br f)])), (q, .inl (dA 0, 400, .inl f))]) rfl; exact hnd) ?_))
              exact J116_12 _ (by first | (simp only [if_pos c11, reduceIte]; done) | (with_reducible rfl))
            · refine jm_iload X d_T_number_99 4 rfl ?_
              refine jm_iload_n X d_T_number_101 rfl 1 rfl ?_
              refine jm_icmp_lt (tgt := 111) X d_T_number_102 (by decide) (fun c15 => ?_) (fun c15 => ?_)
              · refine jm_aload_n X d_T_number_111 rfl 0 rfl ?_
                refine jm_iload_n X d_T_number_112 rfl 3 rfl ?_
                refine jm_callV (rest := []) X d_T_number_113 (k_T_breakAt E a at_ q len x br f (jm_us h [(a, .inr (1, [.ref q, .int len, .int x, .int br])), (q, .inl (dA 0, 400, .inl f))]) (by refine jm_us_get ?_ 0 rfl; exact hnd) (by refine jm_us_get ?_ 1 rfl; exact hnd) (by exact jm_pick hnd [0, 1] (by decide) rfl) ) ci_T_breakAt (Or.inl (jm_g2 212 rfl rfl)) im_T_breakAt se_T_breakAt (by refine jm_us_get ?_ 0 rfl; exact hnd) rfl rfl (Nat.le_of_ble_eq_true rfl) ⟨(Nat.le_of_ble_eq_true rfl), (Nat.le_of_ble_eq_true rfl)⟩ ⟨rfl, rfl⟩ ⟨(Nat.le_of_ble_eq_true rfl), (Nat.le_of_ble_eq_true rfl)⟩ (jm_k0 (jm_hq (by refine jm_into ?_ [0, 1] rfl (L1 := [(a, .inr (1, [.ref q, .int len, .int x, .int (f_T_breakAt_a_3 at_ len x br f)])), (q, .inl (dA 0, 400, .inl f))]) rfl; exact hnd) ?_))
                exact J116_12 _ (by first | (simp only [if_neg c11, if_pos c15, reduceIte]; done) | (with_reducible rfl))
              · refine jm_iload X d_T_number_105 4 rfl ?_
                refine jm_iload_n X d_T_number_107 rfl 2 rfl ?_
                refine jm_icmp_le (tgt := 116) X d_T_number_108 (by decide) (fun c16 => ?_) (fun c16 => ?_)
                · exact J116_12 _ (by first | (simp only [if_neg c11, if_neg c15, if_pos c16, reduceIte]; done) | (with_reducible rfl))
                · refine jm_aload_n X d_T_number_111 rfl 0 rfl ?_
                  refine jm_iload_n X d_T_number_112 rfl 3 rfl ?_
                  refine jm_callV (rest := []) X d_T_number_113 (k_T_breakAt E a at_ q len x br f (jm_us h [(a, .inr (1, [.ref q, .int len, .int x, .int br])), (q, .inl (dA 0, 400, .inl f))]) (by refine jm_us_get ?_ 0 rfl; exact hnd) (by refine jm_us_get ?_ 1 rfl; exact hnd) (by exact jm_pick hnd [0, 1] (by decide) rfl) ) ci_T_breakAt (Or.inl (jm_g2 212 rfl rfl)) im_T_breakAt se_T_breakAt (by refine jm_us_get ?_ 0 rfl; exact hnd) rfl rfl (Nat.le_of_ble_eq_true rfl) ⟨(Nat.le_of_ble_eq_true rfl), (Nat.le_of_ble_eq_true rfl)⟩ ⟨rfl, rfl⟩ ⟨(Nat.le_of_ble_eq_true rfl), (Nat.le_of_ble_eq_true rfl)⟩ (jm_k0 (jm_hq (by refine jm_into ?_ [0, 1] rfl (L1 := [(a, .inr (1, [.ref q, .int len, .int x, .int (f_T_breakAt_a_3 at_ len x br f)])), (q, .inl (dA 0, 400, .inl f))]) rfl; exact hnd) ?_))
                  exact J116_12 _ (by first | (simp only [if_neg c11, if_neg c15, if_neg c16, reduceIte]; done) | (with_reducible rfl))
          · refine jm_iload X d_T_number_45 5 rfl ?_
            refine jm_if_eq (tgt := 58) X d_T_number_47 (by decide) (fun c17 => ?_) (fun c17 => ?_)
            · refine jm_iload X d_T_number_58 4 rfl ?_
              refine jm_bipush (v := 10) X d_T_number_60 (by decide) ?_
              refine jm_imul X d_T_number_62 ?_
              refine jm_aload_n X d_T_number_63 rfl 0 rfl ?_
              refine jm_callV (rest := [.int (nu * 10)]) X d_T_number_64 (k_T_peek E a q len x br f (jm_us h [(a, .inr (1, [.ref q, .int len, .int x, .int br])), (q, .inl (dA 0, 400, .inl f))]) (by refine jm_us_get ?_ 0 rfl; exact hnd) (by refine jm_us_get ?_ 1 rfl; exact hnd) (by exact jm_pick hnd [0, 1] (by decide) rfl) (by first | with_reducible assumption | decide +kernel) (by first | with_reducible assumption | decide +kernel)) ci_T_peek (Or.inl (jm_g2 203 rfl rfl)) im_T_peek se_T_peek (by refine jm_us_get ?_ 0 rfl; exact hnd) rfl rfl (Nat.le_of_ble_eq_true rfl) ⟨(Nat.le_of_ble_eq_true rfl), (Nat.le_of_ble_eq_true rfl)⟩ ⟨rfl, rfl⟩ ⟨(Nat.le_of_ble_eq_true rfl), (Nat.le_of_ble_eq_true rfl)⟩ (jm_k1 ?_)
              refine jm_iadd X d_T_number_67 ?_
              refine jm_bipush (v := 48) X d_T_number_68 (by decide) ?_
              refine jm_isub X d_T_number_70 ?_
              refine jm_ldc (v := 1000000) X d_T_number_71 (jm_g2 223 rfl rfl) ?_
              refine jm_callS (rest := []) X d_T_number_73 (k_Math_min E (((nu * 10) + (f_T_peek len x br f)) - 48) 1000000 (jm_us h [(a, .inr (1, [.ref q, .int len, .int x, .int br])), (q, .inl (dA 0, 400, .inl f))])  ) ci_Math_min (Or.inl (jm_g2 224 rfl rfl)) st_Math_min rfl (Nat.le_of_ble_eq_true rfl) ⟨(Nat.le_of_ble_eq_true rfl), (Nat.le_of_ble_eq_true rfl)⟩ ⟨rfl, rfl⟩ ⟨(Nat.le_of_ble_eq_true rfl), (Nat.le_of_ble_eq_true rfl)⟩ (jm_k1 ?_)
              obtain ⟨u73, eu73⟩ : ∃ z_ : Int32, z_ = (f_Math_min (((nu * 10) + (f_T_peek len x br f)) - 48) 1000000) := ⟨_, rfl⟩
              rw [← eu73]
              refine jm_istore X d_T_number_76 (by decide) (lv1 := [(4, .int u73), (0, .ref a), (1, .int lo), (2, .int hi), (3, .int at_), (5, .int v22)]) rfl ?_
              refine jm_aload_n X d_T_number_78 rfl 1 rfl ?_
              refine jm_dup X d_T_number_79 rfl ?_
              refine jm_get X d_T_number_80 fs_T_22 (by refine jm_us_get ?_ 0 rfl; exact hnd) rfl ?_
              refine jm_iconst (v := 1) X d_T_number_83 (by decide) ?_
              refine jm_iadd X d_T_number_84 ?_
              refine jm_put X d_T_number_85 fs_T_22 (by refine jm_us_get ?_ 0 rfl; exact hnd) rfl rfl (Nat.le_of_ble_eq_true rfl) (fs1 := [.ref q, .int len, .int (x + 1), .int br]) rfl (jm_hq (by refine jm_us_set ?_ 0 (L1 := [(a, .inr (1, [.ref q, .int len, .int (x + 1), .int br])), (q, .inl (dA 0, 400, .inl f))]) rfl rfl; exact hnd) ?_)
              refine jm_goto (tgt := 24) X d_T_number_88 (by decide) ?_
              refine jm_lvs [1, 2, 3, 4, 0, 5] (lv1 := [(0, .ref a), (1, .int lo), (2, .int hi), (3, .int at_), (4, .int u73), (5, .int v22)]) rfl ?_
              exact ih (x + 1) u73 (jm_inc0 i1 (jm_nl c3)) (jm_dec (jm_nl c3) hm) (by subst eu73; simp only [if_neg c3, if_neg c10, if_pos c17, reduceIte] at hF; exact hF)
            · refine jm_aload_n X d_T_number_50 rfl 0 rfl ?_
              refine jm_get X d_T_number_51 fs_T_22 (by refine jm_us_get ?_ 0 rfl; exact hnd) rfl ?_
              refine jm_iload_n X d_T_number_54 rfl 3 rfl ?_
              refine jm_icmp_gt (tgt := 91) X d_T_number_55 (by decide) (fun c18 => ?_) (fun c18 => ?_)
              · refine jm_aload_n X d_T_number_91 rfl 0 rfl ?_
                refine jm_get X d_T_number_92 fs_T_22 (by refine jm_us_get ?_ 0 rfl; exact hnd) rfl ?_
                refine jm_iload_n X d_T_number_95 rfl 3 rfl ?_
                have J116_20 : ∀ (v116xx : Int32), v116xx = (if x = at_ then (f_T_breakAt_a_3 at_ len x br f) else (if nu < lo then (f_T_breakAt_a_3 at_ len x br f) else (if nu ≤ hi then br else (f_T_breakAt_a_3 at_ len x br f))) : Int32) → jm_W p l e ({ frames := 1, cells := 0, slots := 0, locals := 21 }) s m ([.ref a, .int lo, .int hi] : List Value).toArray below meth c S D jm_cl (jm_Q S D jm_cl below s (jm_R (some (.int (f_T_number lo hi len at_ br f))) (jm_us h [(a, .inr (1, [.ref q, .int len, .int (f_T_number_a_2 lo hi len at_ br f), .int (f_T_number_a_3 lo hi len at_ br f)])), (q, .inl (dA 0, 400, .inl f))])) 0 0) 6 116 [(0, .ref a), (1, .int lo), (2, .int hi), (3, .int at_), (4, .int nu), (5, .int v22)] [] (jm_us h [(a, .inr (1, [.ref q, .int len, .int x, .int v116xx])), (q, .inl (dA 0, 400, .inl f))]) 0 0 := by
                  intro v116xx ev116xx
                  refine jm_aload_n X d_T_number_116 rfl 0 rfl ?_
                  refine jm_get X d_T_number_117 fs_T_15 (by refine jm_us_get ?_ 0 rfl; exact hnd) rfl ?_
                  refine jm_iconst (v := (-1)) X d_T_number_120 (by decide) ?_
                  have J130_22 : ∀ (v130xx : Int32), v130xx = (if v116xx = (-1) then nu else lo : Int32) → jm_W p l e ({ frames := 1, cells := 0, slots := 0, locals := 21 }) s m ([.ref a, .int lo, .int hi] : List Value).toArray below meth c S D jm_cl (jm_Q S D jm_cl below s (jm_R (some (.int (f_T_number lo hi len at_ br f))) (jm_us h [(a, .inr (1, [.ref q, .int len, .int (f_T_number_a_2 lo hi len at_ br f), .int (f_T_number_a_3 lo hi len at_ br f)])), (q, .inl (dA 0, 400, .inl f))])) 0 0) 6 130 [(0, .ref a), (1, .int lo), (2, .int hi), (3, .int at_), (4, .int nu), (5, .int v22)] [.int v130xx] (jm_us h [(a, .inr (1, [.ref q, .int len, .int x, .int v116xx])), (q, .inl (dA 0, 400, .inl f))]) 0 0 := by
                    intro v130xx ev130xx
                    exact jm_iret X hr hk d_T_number_130 ⟨(by show Outcome.returned _ = Outcome.returned _; subst ev130xx; subst ev116xx; subst ev22; simp only [if_neg c3, if_neg c10, if_neg c17, if_pos c18, reduceIte] at hF; unfold f_T_number; (try dsimp only); rw [← hro, ← hF]), (by show jm_us h _ = jm_us h _; subst ev130xx; subst ev116xx; subst ev22; simp only [if_neg c3, if_neg c10, if_neg c17, if_pos c18, reduceIte] at hF; unfold f_T_number_a_2 f_T_number_a_3; (try dsimp only); rw [← hro, ← hF])⟩
                  refine jm_icmp_ne (tgt := 129) X d_T_number_121 (by decide) (fun c21 => ?_) (fun c21 => ?_)
                  · refine jm_iload_n X d_T_number_129 rfl 1 rfl ?_
                    exact J130_22 _ (by first | (simp only [if_neg c21, reduceIte]; done) | (with_reducible rfl))
                  · refine jm_iload X d_T_number_124 4 rfl ?_
                    refine jm_goto (tgt := 130) X d_T_number_126 (by decide) ?_
                    exact J130_22 _ (by first | (simp only [if_pos c21, reduceIte]; done) | (with_reducible rfl))
                refine jm_icmp_eq (tgt := 111) X d_T_number_96 (by decide) (fun c19 => ?_) (fun c19 => ?_)
                · refine jm_aload_n X d_T_number_111 rfl 0 rfl ?_
                  refine jm_iload_n X d_T_number_112 rfl 3 rfl ?_
                  refine jm_callV (rest := []) X d_T_number_113 (k_T_breakAt E a at_ q len x br f (jm_us h [(a, .inr (1, [.ref q, .int len, .int x, .int br])), (q, .inl (dA 0, 400, .inl f))]) (by refine jm_us_get ?_ 0 rfl; exact hnd) (by refine jm_us_get ?_ 1 rfl; exact hnd) (by exact jm_pick hnd [0, 1] (by decide) rfl) ) ci_T_breakAt (Or.inl (jm_g2 212 rfl rfl)) im_T_breakAt se_T_breakAt (by refine jm_us_get ?_ 0 rfl; exact hnd) rfl rfl (Nat.le_of_ble_eq_true rfl) ⟨(Nat.le_of_ble_eq_true rfl), (Nat.le_of_ble_eq_true rfl)⟩ ⟨rfl, rfl⟩ ⟨(Nat.le_of_ble_eq_true rfl), (Nat.le_of_ble_eq_true rfl)⟩ (jm_k0 (jm_hq (by refine jm_into ?_ [0, 1] rfl (L1 := [(a, .inr (1, [.ref q, .int len, .int x, .int (f_T_breakAt_a_3 at_ len x br f)])), (q, .inl (dA 0, 400, .inl f))]) rfl; exact hnd) ?_))
                  exact J116_20 _ (by first | (simp only [if_pos c19, reduceIte]; done) | (with_reducible rfl))
                · refine jm_iload X d_T_number_99 4 rfl ?_
                  refine jm_iload_n X d_T_number_101 rfl 1 rfl ?_
                  refine jm_icmp_lt (tgt := 111) X d_T_number_102 (by decide) (fun c23 => ?_) (fun c23 => ?_)
                  · refine jm_aload_n X d_T_number_111 rfl 0 rfl ?_
                    refine jm_iload_n X d_T_number_112 rfl 3 rfl ?_
                    refine jm_callV (rest := []) X d_T_number_113 (k_T_breakAt E a at_ q len x br f (jm_us h [(a, .inr (1, [.ref q, .int len, .int x, .int br])), (q, .inl (dA 0, 400, .inl f))]) (by refine jm_us_get ?_ 0 rfl; exact hnd) (by refine jm_us_get ?_ 1 rfl; exact hnd) (by exact jm_pick hnd [0, 1] (by decide) rfl) ) ci_T_breakAt (Or.inl (jm_g2 212 rfl rfl)) im_T_breakAt se_T_breakAt (by refine jm_us_get ?_ 0 rfl; exact hnd) rfl rfl (Nat.le_of_ble_eq_true rfl) ⟨(Nat.le_of_ble_eq_true rfl), (Nat.le_of_ble_eq_true rfl)⟩ ⟨rfl, rfl⟩ ⟨(Nat.le_of_ble_eq_true rfl), (Nat.le_of_ble_eq_true rfl)⟩ (jm_k0 (jm_hq (by refine jm_into ?_ [0, 1] rfl (L1 := [(a, .inr (1, [.ref q, .int len, .int x, .int (f_T_breakAt_a_3 at_ len x br f)])), (q, .inl (dA 0, 400, .inl f))]) rfl; exact hnd) ?_))
                    exact J116_20 _ (by first | (simp only [if_neg c19, if_pos c23, reduceIte]; done) | (with_reducible rfl))
                  · refine jm_iload X d_T_number_105 4 rfl ?_
                    refine jm_iload_n X d_T_number_107 rfl 2 rfl ?_
                    refine jm_icmp_le (tgt := 116) X d_T_number_108 (by decide) (fun c24 => ?_) (fun c24 => ?_)
                    · exact J116_20 _ (by first | (simp only [if_neg c19, if_neg c23, if_pos c24, reduceIte]; done) | (with_reducible rfl))
                    · refine jm_aload_n X d_T_number_111 rfl 0 rfl ?_
                      refine jm_iload_n X d_T_number_112 rfl 3 rfl ?_
                      refine jm_callV (rest := []) X d_T_number_113 (k_T_breakAt E a at_ q len x br f (jm_us h [(a, .inr (1, [.ref q, .int len, .int x, .int br])), (q, .inl (dA 0, 400, .inl f))]) (by refine jm_us_get ?_ 0 rfl; exact hnd) (by refine jm_us_get ?_ 1 rfl; exact hnd) (by exact jm_pick hnd [0, 1] (by decide) rfl) ) ci_T_breakAt (Or.inl (jm_g2 212 rfl rfl)) im_T_breakAt se_T_breakAt (by refine jm_us_get ?_ 0 rfl; exact hnd) rfl rfl (Nat.le_of_ble_eq_true rfl) ⟨(Nat.le_of_ble_eq_true rfl), (Nat.le_of_ble_eq_true rfl)⟩ ⟨rfl, rfl⟩ ⟨(Nat.le_of_ble_eq_true rfl), (Nat.le_of_ble_eq_true rfl)⟩ (jm_k0 (jm_hq (by refine jm_into ?_ [0, 1] rfl (L1 := [(a, .inr (1, [.ref q, .int len, .int x, .int (f_T_breakAt_a_3 at_ len x br f)])), (q, .inl (dA 0, 400, .inl f))]) rfl; exact hnd) ?_))
                      exact J116_20 _ (by first | (simp only [if_neg c19, if_neg c23, if_neg c24, reduceIte]; done) | (with_reducible rfl))
              · refine jm_iload X d_T_number_58 4 rfl ?_
                refine jm_bipush (v := 10) X d_T_number_60 (by decide) ?_
                refine jm_imul X d_T_number_62 ?_
                refine jm_aload_n X d_T_number_63 rfl 0 rfl ?_
                refine jm_callV (rest := [.int (nu * 10)]) X d_T_number_64 (k_T_peek E a q len x br f (jm_us h [(a, .inr (1, [.ref q, .int len, .int x, .int br])), (q, .inl (dA 0, 400, .inl f))]) (by refine jm_us_get ?_ 0 rfl; exact hnd) (by refine jm_us_get ?_ 1 rfl; exact hnd) (by exact jm_pick hnd [0, 1] (by decide) rfl) (by first | with_reducible assumption | decide +kernel) (by first | with_reducible assumption | decide +kernel)) ci_T_peek (Or.inl (jm_g2 203 rfl rfl)) im_T_peek se_T_peek (by refine jm_us_get ?_ 0 rfl; exact hnd) rfl rfl (Nat.le_of_ble_eq_true rfl) ⟨(Nat.le_of_ble_eq_true rfl), (Nat.le_of_ble_eq_true rfl)⟩ ⟨rfl, rfl⟩ ⟨(Nat.le_of_ble_eq_true rfl), (Nat.le_of_ble_eq_true rfl)⟩ (jm_k1 ?_)
                refine jm_iadd X d_T_number_67 ?_
                refine jm_bipush (v := 48) X d_T_number_68 (by decide) ?_
                refine jm_isub X d_T_number_70 ?_
                refine jm_ldc (v := 1000000) X d_T_number_71 (jm_g2 223 rfl rfl) ?_
                refine jm_callS (rest := []) X d_T_number_73 (k_Math_min E (((nu * 10) + (f_T_peek len x br f)) - 48) 1000000 (jm_us h [(a, .inr (1, [.ref q, .int len, .int x, .int br])), (q, .inl (dA 0, 400, .inl f))])  ) ci_Math_min (Or.inl (jm_g2 224 rfl rfl)) st_Math_min rfl (Nat.le_of_ble_eq_true rfl) ⟨(Nat.le_of_ble_eq_true rfl), (Nat.le_of_ble_eq_true rfl)⟩ ⟨rfl, rfl⟩ ⟨(Nat.le_of_ble_eq_true rfl), (Nat.le_of_ble_eq_true rfl)⟩ (jm_k1 ?_)
                obtain ⟨u73x, eu73x⟩ : ∃ z_ : Int32, z_ = (f_Math_min (((nu * 10) + (f_T_peek len x br f)) - 48) 1000000) := ⟨_, rfl⟩
                rw [← eu73x]
                refine jm_istore X d_T_number_76 (by decide) (lv1 := [(4, .int u73x), (0, .ref a), (1, .int lo), (2, .int hi), (3, .int at_), (5, .int v22)]) rfl ?_
                refine jm_aload_n X d_T_number_78 rfl 1 rfl ?_
                refine jm_dup X d_T_number_79 rfl ?_
                refine jm_get X d_T_number_80 fs_T_22 (by refine jm_us_get ?_ 0 rfl; exact hnd) rfl ?_
                refine jm_iconst (v := 1) X d_T_number_83 (by decide) ?_
                refine jm_iadd X d_T_number_84 ?_
                refine jm_put X d_T_number_85 fs_T_22 (by refine jm_us_get ?_ 0 rfl; exact hnd) rfl rfl (Nat.le_of_ble_eq_true rfl) (fs1 := [.ref q, .int len, .int (x + 1), .int br]) rfl (jm_hq (by refine jm_us_set ?_ 0 (L1 := [(a, .inr (1, [.ref q, .int len, .int (x + 1), .int br])), (q, .inl (dA 0, 400, .inl f))]) rfl rfl; exact hnd) ?_)
                refine jm_goto (tgt := 24) X d_T_number_88 (by decide) ?_
                refine jm_lvs [1, 2, 3, 4, 0, 5] (lv1 := [(0, .ref a), (1, .int lo), (2, .int hi), (3, .int at_), (4, .int u73x), (5, .int v22)]) rfl ?_
                exact ih (x + 1) u73x (jm_inc0 i1 (jm_nl c3)) (jm_dec (jm_nl c3) hm) (by subst eu73x; simp only [if_neg c3, if_neg c10, if_neg c17, if_neg c18, reduceIte] at hF; exact hF)
    exact LP24 401 at_ 0 p1 (jm_m0 p1 p2 (by decide) (by decide)) hro.symm
  refine jm_icmp_ne (tgt := 21) X d_T_number_14 (by decide) (fun c1 => ?_) (fun c1 => ?_)
  · refine jm_iconst (v := 0) X d_T_number_21 (by decide) ?_
    exact J22_2 _ (by first | (simp only [if_neg c1, reduceIte]; done) | (with_reducible rfl))
  · refine jm_iconst (v := 1) X d_T_number_17 (by decide) ?_
    refine jm_goto (tgt := 22) X d_T_number_18 (by decide) ?_
    exact J22_2 _ (by first | (simp only [if_pos c1, reduceIte]; done) | (with_reducible rfl))
theorem jm_s8 {x : Int32} (h0 : ¬ x < 0) (h1 : x ≤ 24) : (x + (-8)).toInt = x.toInt - 8 := by
  simp only [Int32.le_iff_toInt_le, Int32.lt_iff_toInt_lt] at *
  have h3 : (0 : Int32).toInt = 0 := rfl
  have h4 : (24 : Int32).toInt = 24 := rfl
  rw [Int32.toInt_add, show (-8 : Int32).toInt = -8 from rfl]
  simp only [Int.bmod]
  omega
theorem jm_s8a {x : Int32} (h0 : ¬ x < 0) (h1 : x ≤ 24) : x + (-8) ≤ 24 := by
  have h2 := jm_s8 h0 h1
  simp only [Int32.le_iff_toInt_le] at *
  have h4 : (24 : Int32).toInt = 24 := rfl
  omega
theorem jm_s8m {x : Int32} {k : Nat} (h0 : ¬ x < 0) (h1 : x ≤ 24) (hm : (x.toInt + 8).toNat < k + 1) : ((x + (-8)).toInt + 8).toNat < k := by
  have h2 := jm_s8 h0 h1
  simp only [Int32.le_iff_toInt_le, Int32.lt_iff_toInt_lt] at *
  have h3 : (0 : Int32).toInt = 0 := rfl
  omega
def F_T_addWord_3 (w : Int32) (len : Int32) (at_ : Int32) (br : Int32) (f : Nat → Int32) : Nat → (Int32) → (Int32) → (Nat → Int32) → Int32 × (Nat → Int32)
  | 0, _, _, _ => (0, (fun _ => 0))
  | n + 1, sh, ln, g_ =>
    if sh < 0 then ((ln, g_)) else (if 400 ≤ ln then ((ln, g_)) else (F_T_addWord_3 w len at_ br f n (sh + (-8)) (ln + 1) (upd g_ (ln : Int32).toNatClampNeg (vp_nar .byte (((w : Int32) >>> (sh &&& 31) : Int32).toInt8.toInt32)))))
termination_by n _ _ _ => n
def f_T_addWord_a_1 (w : Int32) (len : Int32) (at_ : Int32) (br : Int32) (f : Nat → Int32) : Int32 :=
  (F_T_addWord_3 w len at_ br f 33 24 len f).1
def f_T_addWord_q (w : Int32) (len : Int32) (at_ : Int32) (br : Int32) (f : Nat → Int32) : Nat → Int32 :=
  (F_T_addWord_3 w len at_ br f 33 24 len f).2
set_option maxRecDepth 20000 in
set_option maxHeartbeats 4000000 in
theorem k_T_addWord {l : Launch} {S : State} {D : va_G} {dA : Nat → ClassId} (E : jm_en S D jm_cl (jm_ty dA) jm_G) (a : Nat) (w : Int32) (q : Nat) (len : Int32) (at_ : Int32) (br : Int32) (f : Nat → Int32) (h : jm_H) (h_a : h a = some (.inr (1, [.ref q, .int len, .int at_, .int br]))) (h_q : h q = some (.inl (dA 0, 400, .inl f))) (hnd : ([a, q] : List Nat).Nodup) (p0 : 0 ≤ len) : jm_M l S D jm_cl y_T_addWord (Cond.code y_T_addWord b_T_addWord 3 (none)) { frames := 0, cells := 0, slots := 0, locals := 0 } [.ref a, .int w] h (jm_R none (jm_us h [(a, .inr (1, [.ref q, .int (f_T_addWord_a_1 w len at_ br f), .int at_, .int br])), (q, .inl (dA 0, 400, .inl (f_T_addWord_q w len at_ br f)))])) 0 0 := by
  refine jm_ofW E (by decide) (Nat.le_of_ble_eq_true rfl) (fun p e s m below meth c X hr hk hmn hout hadm => ?_)
  have X : jm_cx p s m ([.ref a, .int w] : List Value).toArray c S D jm_cl (jm_ty dA) jm_G b_T_addWord 3 "JobHouse$Text" := X
  have hL : ∀ zz ∈ ([(a, .inr (1, [.ref q, .int len, .int at_, .int br])), (q, .inl (dA 0, 400, .inl f))] : List (Nat × va_E)), h zz.1 = some zz.2 := List.forall_mem_cons.mpr ⟨h_a, List.forall_mem_cons.mpr ⟨h_q, fun _ hz => absurd hz List.not_mem_nil⟩⟩
  refine jm_hq (jm_us_id hL).symm ?_
  show jm_W p l e ({ frames := 0, cells := 0, slots := 0, locals := 0 }) s m ([.ref a, .int w] : List Value).toArray below meth c S D jm_cl (jm_Q S D jm_cl below s (jm_R none (jm_us h [(a, .inr (1, [.ref q, .int (f_T_addWord_a_1 w len at_ br f), .int at_, .int br])), (q, .inl (dA 0, 400, .inl (f_T_addWord_q w len at_ br f)))])) 0 0) 3 0 [(0, .ref a), (1, .int w)] [] (jm_us h [(a, .inr (1, [.ref q, .int len, .int at_, .int br])), (q, .inl (dA 0, 400, .inl f))]) 0 0
  refine jm_bipush (v := 24) X d_T_addWord_0 (by decide) ?_
  refine jm_istore_n X d_T_addWord_2 rfl (by decide) (lv1 := [(2, .int 24), (0, .ref a), (1, .int w)]) rfl ?_
  refine jm_lvs [1, 2, 0] (lv1 := [(0, .ref a), (1, .int w), (2, .int 24)]) rfl ?_
  obtain ⟨ro, hro⟩ : ∃ ro, ro = F_T_addWord_3 w len at_ br f 33 24 len f := ⟨_, rfl⟩
  have LP3 : ∀ (n : Nat) (sh : Int32) (ln : Int32) (g_ : Nat → Int32), (0 ≤ ln) → (sh ≤ 24) → (sh.toInt + 8).toNat < n → F_T_addWord_3 w len at_ br f n sh ln g_ = ro → jm_W p l e ({ frames := 0, cells := 0, slots := 0, locals := 0 }) s m ([.ref a, .int w] : List Value).toArray below meth c S D jm_cl (jm_Q S D jm_cl below s (jm_R none (jm_us h [(a, .inr (1, [.ref q, .int (f_T_addWord_a_1 w len at_ br f), .int at_, .int br])), (q, .inl (dA 0, 400, .inl (f_T_addWord_q w len at_ br f)))])) 0 0) 3 3 [(0, .ref a), (1, .int w), (2, .int sh)] [] (jm_us h [(a, .inr (1, [.ref q, .int ln, .int at_, .int br])), (q, .inl (dA 0, 400, .inl g_))]) 0 0 := by
    intro n
    induction n with
    | zero => intro sh ln g_ i1 i2 hm _; exact absurd hm (Nat.not_lt_zero _)
    | succ n ih =>
      intro sh ln g_ i1 i2 hm hF
      simp only [F_T_addWord_3] at hF
      refine jm_iload_n X d_T_addWord_3 rfl 2 rfl ?_
      refine jm_if_lt (tgt := 46) X d_T_addWord_4 (by decide) (fun c1 => ?_) (fun c1 => ?_)
      · exact jm_vret X hr hk d_T_addWord_46 ⟨rfl, (by show jm_us h _ = jm_us h _; simp only [if_pos c1, reduceIte] at hF; unfold f_T_addWord_a_1 f_T_addWord_q; (try dsimp only); rw [← hro, ← hF])⟩
      · refine jm_aload_n X d_T_addWord_7 rfl 0 rfl ?_
        refine jm_get X d_T_addWord_8 fs_T_19 (by refine jm_us_get ?_ 0 rfl; exact hnd) rfl ?_
        refine jm_sipush (v := 400) X d_T_addWord_11 (by decide) ?_
        refine jm_icmp_ge (tgt := 46) X d_T_addWord_14 (by decide) (fun c2 => ?_) (fun c2 => ?_)
        · exact jm_vret X hr hk d_T_addWord_46 ⟨rfl, (by show jm_us h _ = jm_us h _; simp only [if_neg c1, if_pos c2, reduceIte] at hF; unfold f_T_addWord_a_1 f_T_addWord_q; (try dsimp only); rw [← hro, ← hF])⟩
        · refine jm_aload_n X d_T_addWord_17 rfl 0 rfl ?_
          refine jm_get X d_T_addWord_18 fs_T_9 (by refine jm_us_get ?_ 0 rfl; exact hnd) rfl ?_
          refine jm_aload_n X d_T_addWord_21 rfl 0 rfl ?_
          refine jm_get X d_T_addWord_22 fs_T_19 (by refine jm_us_get ?_ 0 rfl; exact hnd) rfl ?_
          refine jm_iload_n X d_T_addWord_25 rfl 1 rfl ?_
          refine jm_iload_n X d_T_addWord_26 rfl 2 rfl ?_
          refine jm_ishr X d_T_addWord_27 ?_
          refine jm_i2b X d_T_addWord_28 ?_
          refine jm_bast (t0 := 0) X d_T_addWord_29 rfl (by refine jm_us_get ?_ 1 rfl; exact hnd) (jm_in (M := 400) i1 c2 (by decide) rfl) (jm_hq (by refine jm_us_set ?_ 1 (L1 := [(a, .inr (1, [.ref q, .int ln, .int at_, .int br])), (q, .inl (dA 0, 400, .inl (upd g_ (ln : Int32).toNatClampNeg (vp_nar .byte (((w : Int32) >>> (sh &&& 31) : Int32).toInt8.toInt32)))))]) rfl rfl; exact hnd) ?_)
          refine jm_aload_n X d_T_addWord_30 rfl 0 rfl ?_
          refine jm_dup X d_T_addWord_31 rfl ?_
          refine jm_get X d_T_addWord_32 fs_T_19 (by refine jm_us_get ?_ 0 rfl; exact hnd) rfl ?_
          refine jm_iconst (v := 1) X d_T_addWord_35 (by decide) ?_
          refine jm_iadd X d_T_addWord_36 ?_
          refine jm_put X d_T_addWord_37 fs_T_19 (by refine jm_us_get ?_ 0 rfl; exact hnd) rfl rfl (Nat.le_of_ble_eq_true rfl) (fs1 := [.ref q, .int (ln + 1), .int at_, .int br]) rfl (jm_hq (by refine jm_us_set ?_ 0 (L1 := [(a, .inr (1, [.ref q, .int (ln + 1), .int at_, .int br])), (q, .inl (dA 0, 400, .inl (upd g_ (ln : Int32).toNatClampNeg (vp_nar .byte (((w : Int32) >>> (sh &&& 31) : Int32).toInt8.toInt32)))))]) rfl rfl; exact hnd) ?_)
          refine jm_iinc X d_T_addWord_40 2 rfl (v := sh + (-8)) (by rfl) (by decide) (lv1 := [(2, .int (sh + (-8))), (0, .ref a), (1, .int w)]) rfl ?_
          refine jm_goto (tgt := 3) X d_T_addWord_43 (by decide) ?_
          refine jm_lvs [1, 2, 0] (lv1 := [(0, .ref a), (1, .int w), (2, .int (sh + (-8)))]) rfl ?_
          exact ih (sh + (-8)) (ln + 1) (upd g_ (ln : Int32).toNatClampNeg (vp_nar .byte (((w : Int32) >>> (sh &&& 31) : Int32).toInt8.toInt32))) (jm_inc0 i1 (jm_nl c2)) (jm_s8a c1 i2) (jm_s8m c1 i2 hm) (by simp only [if_neg c1, if_neg c2, reduceIte] at hF; exact hF)
  exact LP3 33 24 len f p0 (by decide) (by decide) hro.symm
end
section
def y_H_init : MethodName := ⟨"JobHouse$Holidays", "<init>", "(I)V"⟩
abbrev b_H_init : ByteArray := prog_6_method_1_code
theorem d_H_init_0 : decode b_H_init 0 = .ok (.aload_n 0, 1) := by decide +kernel
theorem d_H_init_1 : decode b_H_init 1 = .ok (.invokespecial 1, 3) := by decide +kernel
theorem d_H_init_4 : decode b_H_init 4 = .ok (.aload_n 0, 1) := by decide +kernel
theorem d_H_init_5 : decode b_H_init 5 = .ok (.iload_n 1, 1) := by decide +kernel
theorem d_H_init_6 : decode b_H_init 6 = .ok (.newarray .int, 2) := by decide +kernel
theorem d_H_init_8 : decode b_H_init 8 = .ok (.putfield 7, 3) := by decide +kernel
theorem d_H_init_11 : decode b_H_init 11 = .ok (.return_, 1) := by decide +kernel
theorem ci_H_init : jm_ci jm_G y_H_init (Cond.code y_H_init b_H_init 2 (none)) 2 1 := ⟨jm_g1 68 rfl rfl, Or.inl ⟨_, _, rfl⟩, jm_g1 3 rfl rfl, ⟨by decide, by decide⟩, by decide +kernel⟩
theorem im_H_init : Cond.instanceMethod y_H_init ∈ jm_G := jm_g1 67 rfl rfl
def y_H_placeOf : MethodName := ⟨"JobHouse$Holidays", "placeOf", "(I)I"⟩
abbrev b_H_placeOf : ByteArray := prog_6_method_2_code
theorem d_H_placeOf_0 : decode b_H_placeOf 0 = .ok (.iconst 0, 1) := by decide +kernel
theorem d_H_placeOf_1 : decode b_H_placeOf 1 = .ok (.istore_n 2, 1) := by decide +kernel
theorem d_H_placeOf_2 : decode b_H_placeOf 2 = .ok (.aload_n 0, 1) := by decide +kernel
theorem d_H_placeOf_3 : decode b_H_placeOf 3 = .ok (.getfield 13, 3) := by decide +kernel
theorem d_H_placeOf_6 : decode b_H_placeOf 6 = .ok (.istore_n 3, 1) := by decide +kernel
theorem d_H_placeOf_7 : decode b_H_placeOf 7 = .ok (.iload_n 2, 1) := by decide +kernel
theorem d_H_placeOf_8 : decode b_H_placeOf 8 = .ok (.iload_n 3, 1) := by decide +kernel
theorem d_H_placeOf_9 : decode b_H_placeOf 9 = .ok (.if_icmp .ge 35, 3) := by decide +kernel
theorem d_H_placeOf_12 : decode b_H_placeOf 12 = .ok (.iload_n 2, 1) := by decide +kernel
theorem d_H_placeOf_13 : decode b_H_placeOf 13 = .ok (.iload_n 3, 1) := by decide +kernel
theorem d_H_placeOf_14 : decode b_H_placeOf 14 = .ok (.iadd, 1) := by decide +kernel
theorem d_H_placeOf_15 : decode b_H_placeOf 15 = .ok (.iconst 2, 1) := by decide +kernel
theorem d_H_placeOf_16 : decode b_H_placeOf 16 = .ok (.idiv, 1) := by decide +kernel
theorem d_H_placeOf_17 : decode b_H_placeOf 17 = .ok (.istore 4, 2) := by decide +kernel
theorem d_H_placeOf_19 : decode b_H_placeOf 19 = .ok (.aload_n 0, 1) := by decide +kernel
theorem d_H_placeOf_20 : decode b_H_placeOf 20 = .ok (.getfield 7, 3) := by decide +kernel
theorem d_H_placeOf_23 : decode b_H_placeOf 23 = .ok (.iload 4, 2) := by decide +kernel
theorem d_H_placeOf_25 : decode b_H_placeOf 25 = .ok (.iaload, 1) := by decide +kernel
theorem d_H_placeOf_26 : decode b_H_placeOf 26 = .ok (.iload_n 1, 1) := by decide +kernel
theorem d_H_placeOf_27 : decode b_H_placeOf 27 = .ok (.if_icmp .ge 11, 3) := by decide +kernel
theorem d_H_placeOf_30 : decode b_H_placeOf 30 = .ok (.iload 4, 2) := by decide +kernel
theorem d_H_placeOf_32 : decode b_H_placeOf 32 = .ok (.iconst 1, 1) := by decide +kernel
theorem d_H_placeOf_33 : decode b_H_placeOf 33 = .ok (.iadd, 1) := by decide +kernel
theorem d_H_placeOf_34 : decode b_H_placeOf 34 = .ok (.istore_n 2, 1) := by decide +kernel
theorem d_H_placeOf_35 : decode b_H_placeOf 35 = .ok (.goto 6, 3) := by decide +kernel
theorem d_H_placeOf_38 : decode b_H_placeOf 38 = .ok (.iload 4, 2) := by decide +kernel
theorem d_H_placeOf_40 : decode b_H_placeOf 40 = .ok (.istore_n 3, 1) := by decide +kernel
theorem d_H_placeOf_41 : decode b_H_placeOf 41 = .ok (.goto (-34), 3) := by decide +kernel
theorem d_H_placeOf_44 : decode b_H_placeOf 44 = .ok (.iload_n 2, 1) := by decide +kernel
theorem d_H_placeOf_45 : decode b_H_placeOf 45 = .ok (.aload_n 0, 1) := by decide +kernel
theorem d_H_placeOf_46 : decode b_H_placeOf 46 = .ok (.getfield 13, 3) := by decide +kernel
theorem d_H_placeOf_49 : decode b_H_placeOf 49 = .ok (.if_icmp .ge 17, 3) := by decide +kernel
theorem d_H_placeOf_52 : decode b_H_placeOf 52 = .ok (.aload_n 0, 1) := by decide +kernel
theorem d_H_placeOf_53 : decode b_H_placeOf 53 = .ok (.getfield 7, 3) := by decide +kernel
theorem d_H_placeOf_56 : decode b_H_placeOf 56 = .ok (.iload_n 2, 1) := by decide +kernel
theorem d_H_placeOf_57 : decode b_H_placeOf 57 = .ok (.iaload, 1) := by decide +kernel
theorem d_H_placeOf_58 : decode b_H_placeOf 58 = .ok (.iload_n 1, 1) := by decide +kernel
theorem d_H_placeOf_59 : decode b_H_placeOf 59 = .ok (.if_icmp .ne 7, 3) := by decide +kernel
theorem d_H_placeOf_62 : decode b_H_placeOf 62 = .ok (.iload_n 2, 1) := by decide +kernel
theorem d_H_placeOf_63 : decode b_H_placeOf 63 = .ok (.goto 6, 3) := by decide +kernel
theorem d_H_placeOf_66 : decode b_H_placeOf 66 = .ok (.iconst (-1), 1) := by decide +kernel
theorem d_H_placeOf_67 : decode b_H_placeOf 67 = .ok (.iload_n 2, 1) := by decide +kernel
theorem d_H_placeOf_68 : decode b_H_placeOf 68 = .ok (.isub, 1) := by decide +kernel
theorem d_H_placeOf_69 : decode b_H_placeOf 69 = .ok (.ireturn, 1) := by decide +kernel
theorem ci_H_placeOf : jm_ci jm_G y_H_placeOf (Cond.code y_H_placeOf b_H_placeOf 5 (some FieldType.int)) 5 1 := ⟨jm_g3 152 rfl rfl, Or.inl ⟨_, _, rfl⟩, jm_g1 3 rfl rfl, ⟨by decide, by decide⟩, by decide +kernel⟩
theorem im_H_placeOf : Cond.instanceMethod y_H_placeOf ∈ jm_G := jm_g3 150 rfl rfl
theorem se_H_placeOf : Cond.selects y_H_placeOf.cls y_H_placeOf y_H_placeOf ∈ jm_G := jm_g3 151 rfl rfl
def y_H_insert : MethodName := ⟨"JobHouse$Holidays", "insert", "(II)V"⟩
abbrev b_H_insert : ByteArray := prog_6_method_3_code
theorem d_H_insert_0 : decode b_H_insert 0 = .ok (.aload_n 0, 1) := by decide +kernel
theorem d_H_insert_1 : decode b_H_insert 1 = .ok (.getfield 7, 3) := by decide +kernel
theorem d_H_insert_4 : decode b_H_insert 4 = .ok (.iload_n 1, 1) := by decide +kernel
theorem d_H_insert_5 : decode b_H_insert 5 = .ok (.aload_n 0, 1) := by decide +kernel
theorem d_H_insert_6 : decode b_H_insert 6 = .ok (.getfield 7, 3) := by decide +kernel
theorem d_H_insert_9 : decode b_H_insert 9 = .ok (.iload_n 1, 1) := by decide +kernel
theorem d_H_insert_10 : decode b_H_insert 10 = .ok (.iconst 1, 1) := by decide +kernel
theorem d_H_insert_11 : decode b_H_insert 11 = .ok (.iadd, 1) := by decide +kernel
theorem d_H_insert_12 : decode b_H_insert 12 = .ok (.aload_n 0, 1) := by decide +kernel
theorem d_H_insert_13 : decode b_H_insert 13 = .ok (.getfield 13, 3) := by decide +kernel
theorem d_H_insert_16 : decode b_H_insert 16 = .ok (.iload_n 1, 1) := by decide +kernel
theorem d_H_insert_17 : decode b_H_insert 17 = .ok (.isub, 1) := by decide +kernel
theorem d_H_insert_18 : decode b_H_insert 18 = .ok (.invokestatic 17, 3) := by decide +kernel
theorem d_H_insert_21 : decode b_H_insert 21 = .ok (.aload_n 0, 1) := by decide +kernel
theorem d_H_insert_22 : decode b_H_insert 22 = .ok (.getfield 7, 3) := by decide +kernel
theorem d_H_insert_25 : decode b_H_insert 25 = .ok (.iload_n 1, 1) := by decide +kernel
theorem d_H_insert_26 : decode b_H_insert 26 = .ok (.iload_n 2, 1) := by decide +kernel
theorem d_H_insert_27 : decode b_H_insert 27 = .ok (.iastore, 1) := by decide +kernel
theorem d_H_insert_28 : decode b_H_insert 28 = .ok (.aload_n 0, 1) := by decide +kernel
theorem d_H_insert_29 : decode b_H_insert 29 = .ok (.dup, 1) := by decide +kernel
theorem d_H_insert_30 : decode b_H_insert 30 = .ok (.getfield 13, 3) := by decide +kernel
theorem d_H_insert_33 : decode b_H_insert 33 = .ok (.iconst 1, 1) := by decide +kernel
theorem d_H_insert_34 : decode b_H_insert 34 = .ok (.iadd, 1) := by decide +kernel
theorem d_H_insert_35 : decode b_H_insert 35 = .ok (.putfield 13, 3) := by decide +kernel
theorem d_H_insert_38 : decode b_H_insert 38 = .ok (.return_, 1) := by decide +kernel
theorem ci_H_insert : jm_ci jm_G y_H_insert (Cond.code y_H_insert b_H_insert 3 (none)) 3 2 := ⟨jm_g3 156 rfl rfl, Or.inl ⟨_, _, rfl⟩, jm_g1 3 rfl rfl, ⟨by decide, by decide⟩, by decide +kernel⟩
theorem im_H_insert : Cond.instanceMethod y_H_insert ∈ jm_G := jm_g3 154 rfl rfl
theorem se_H_insert : Cond.selects y_H_insert.cls y_H_insert y_H_insert ∈ jm_G := jm_g3 155 rfl rfl
def y_H_removeAt : MethodName := ⟨"JobHouse$Holidays", "removeAt", "(I)V"⟩
abbrev b_H_removeAt : ByteArray := prog_6_method_4_code
theorem d_H_removeAt_0 : decode b_H_removeAt 0 = .ok (.aload_n 0, 1) := by decide +kernel
theorem d_H_removeAt_1 : decode b_H_removeAt 1 = .ok (.getfield 7, 3) := by decide +kernel
theorem d_H_removeAt_4 : decode b_H_removeAt 4 = .ok (.iload_n 1, 1) := by decide +kernel
theorem d_H_removeAt_5 : decode b_H_removeAt 5 = .ok (.iconst 1, 1) := by decide +kernel
theorem d_H_removeAt_6 : decode b_H_removeAt 6 = .ok (.iadd, 1) := by decide +kernel
theorem d_H_removeAt_7 : decode b_H_removeAt 7 = .ok (.aload_n 0, 1) := by decide +kernel
theorem d_H_removeAt_8 : decode b_H_removeAt 8 = .ok (.getfield 7, 3) := by decide +kernel
theorem d_H_removeAt_11 : decode b_H_removeAt 11 = .ok (.iload_n 1, 1) := by decide +kernel
theorem d_H_removeAt_12 : decode b_H_removeAt 12 = .ok (.aload_n 0, 1) := by decide +kernel
theorem d_H_removeAt_13 : decode b_H_removeAt 13 = .ok (.getfield 13, 3) := by decide +kernel
theorem d_H_removeAt_16 : decode b_H_removeAt 16 = .ok (.iload_n 1, 1) := by decide +kernel
theorem d_H_removeAt_17 : decode b_H_removeAt 17 = .ok (.isub, 1) := by decide +kernel
theorem d_H_removeAt_18 : decode b_H_removeAt 18 = .ok (.iconst 1, 1) := by decide +kernel
theorem d_H_removeAt_19 : decode b_H_removeAt 19 = .ok (.isub, 1) := by decide +kernel
theorem d_H_removeAt_20 : decode b_H_removeAt 20 = .ok (.invokestatic 17, 3) := by decide +kernel
theorem d_H_removeAt_23 : decode b_H_removeAt 23 = .ok (.aload_n 0, 1) := by decide +kernel
theorem d_H_removeAt_24 : decode b_H_removeAt 24 = .ok (.dup, 1) := by decide +kernel
theorem d_H_removeAt_25 : decode b_H_removeAt 25 = .ok (.getfield 13, 3) := by decide +kernel
theorem d_H_removeAt_28 : decode b_H_removeAt 28 = .ok (.iconst 1, 1) := by decide +kernel
theorem d_H_removeAt_29 : decode b_H_removeAt 29 = .ok (.isub, 1) := by decide +kernel
theorem d_H_removeAt_30 : decode b_H_removeAt 30 = .ok (.putfield 13, 3) := by decide +kernel
theorem d_H_removeAt_33 : decode b_H_removeAt 33 = .ok (.return_, 1) := by decide +kernel
theorem ci_H_removeAt : jm_ci jm_G y_H_removeAt (Cond.code y_H_removeAt b_H_removeAt 2 (none)) 2 1 := ⟨jm_g3 163 rfl rfl, Or.inl ⟨_, _, rfl⟩, jm_g1 3 rfl rfl, ⟨by decide, by decide⟩, by decide +kernel⟩
theorem im_H_removeAt : Cond.instanceMethod y_H_removeAt ∈ jm_G := jm_g3 161 rfl rfl
theorem se_H_removeAt : Cond.selects y_H_removeAt.cls y_H_removeAt y_H_removeAt ∈ jm_G := jm_g3 162 rfl rfl
end
section
theorem fs_H_13 : jm_fs jm_cl jm_G "JobHouse$Holidays" 13 5 1 (.int) false := ⟨_, jn_T5, 2, jn_y5, rfl, by decide, jn_i5, jn_o5, jn_n5, rfl, rfl, by decide +kernel, Or.inl (jm_g1 71 rfl rfl)⟩
theorem fs_H_7 : jm_fs jm_cl jm_G "JobHouse$Holidays" 7 5 0 (.array .int) true := ⟨_, jn_T5, 2, jn_y5, rfl, by decide, jn_i5, jn_o5, jn_n5, rfl, rfl, by decide +kernel, Or.inl (jm_g1 70 rfl rfl)⟩
theorem jm_mid {lo hi siz : Int32} (i1 : 0 ≤ lo) (c : ¬ hi ≤ lo) (i3 : hi ≤ siz) (p3 : siz ≤ 200) : ((lo + hi) / 2).toInt = (lo.toInt + hi.toInt) / 2 ∧ ((lo + hi) / 2 + 1).toInt = (lo.toInt + hi.toInt) / 2 + 1 := by
  simp only [Int32.le_iff_toInt_le] at *
  have h0 : (0 : Int32).toInt = 0 := rfl
  have h2 : (2 : Int32).toInt = 2 := rfl
  have h200 : (200 : Int32).toInt = 200 := rfl
  have e1 : (lo + hi).toInt = lo.toInt + hi.toInt := by
    rw [Int32.toInt_add]; simp only [Int.bmod]; omega
  have e2 : ((lo + hi) / 2).toInt = (lo.toInt + hi.toInt) / 2 := by
    rw [Int32.toInt_div, e1, h2, Int.tdiv_eq_ediv_of_nonneg (by omega)]
    simp only [Int.bmod]; omega
  refine ⟨e2, ?_⟩
  rw [Int32.toInt_add, e2, show (1 : Int32).toInt = 1 from rfl]
  simp only [Int.bmod]; omega
theorem jm_midin {lo hi siz : Int32} {hn : Nat} (i1 : 0 ≤ lo) (c : ¬ hi ≤ lo) (i3 : hi ≤ siz) (p3 : siz ≤ 200) (p2 : siz.toInt ≤ hn) : vp_in ((lo + hi) / 2) hn := by
  have e := (jm_mid i1 c i3 p3).1
  rw [vp_in_iff]
  simp only [Int32.le_iff_toInt_le] at *
  have h0 : (0 : Int32).toInt = 0 := rfl
  omega
theorem jm_bs {lo hi siz : Int32} {P : Prop} [Decidable P] {k : Nat} (i1 : 0 ≤ lo) (c : ¬ hi ≤ lo) (i3 : hi ≤ siz) (p3 : siz ≤ 200) (hm : (hi.toInt - lo.toInt).toNat < k + 1) : 0 ≤ (if P then lo else (lo + hi) / 2 + 1) ∧ (if P then lo else (lo + hi) / 2 + 1) ≤ (if P then (lo + hi) / 2 else hi) ∧ (if P then (lo + hi) / 2 else hi) ≤ siz ∧ ((if P then (lo + hi) / 2 else hi).toInt - (if P then lo else (lo + hi) / 2 + 1).toInt).toNat < k := by
  obtain ⟨e1, e2⟩ := jm_mid i1 c i3 p3
  simp only [Int32.le_iff_toInt_le] at *
  have h0 : (0 : Int32).toInt = 0 := rfl
  by_cases q : P
  · simp only [if_pos q, e1]; omega
  · simp only [if_neg q, e2]; omega
theorem jm_zz {lo hi : Int32} {n : Nat} (i2 : lo ≤ hi) (h : hi.toInt < n) (h0 : 0 ≤ lo) : (hi.toInt - lo.toInt).toNat < n := by
  simp only [Int32.le_iff_toInt_le] at *
  have h0 : (0 : Int32).toInt = 0 := rfl
  omega
theorem jm_lt200 {x : Int32} (h : x ≤ 200) : x.toInt < (201 : Nat) := by
  simp only [Int32.le_iff_toInt_le] at *
  have h200 : (200 : Int32).toInt = 200 := rfl
  omega
theorem jm_inN {i n : Int32} {N : Nat} (h0 : 0 ≤ i) (h1 : ¬ n ≤ i) (h2 : n.toInt ≤ N) : vp_in i N := by
  rw [vp_in_iff]
  simp only [Int32.le_iff_toInt_le] at *
  have h3 : (0 : Int32).toInt = 0 := rfl
  omega
def F_H_placeOf_7 (da : Int32) (siz : Int32) (hf : Nat → Int32) : Nat → (Int32) → (Int32) → Int32
  | 0, _, _ => 0
  | n + 1, lo, hi =>
    let v69 : Int32 := if siz ≤ lo then ((-1) - lo) else (if (hf (lo : Int32).toNatClampNeg) = da then lo else ((-1) - lo))
    let v41 : Int32 := if da ≤ (hf ((lo + hi) / 2 : Int32).toNatClampNeg) then lo else (((lo + hi) / 2) + 1)
    let v41_1 : Int32 := if da ≤ (hf ((lo + hi) / 2 : Int32).toNatClampNeg) then ((lo + hi) / 2) else hi
    if hi ≤ lo then v69 else (F_H_placeOf_7 da siz hf n v41 v41_1)
termination_by n _ _ => n
def f_H_placeOf (da : Int32) (siz : Int32) (hf : Nat → Int32) : Int32 :=
  F_H_placeOf_7 da siz hf 201 0 siz
set_option maxRecDepth 20000 in
set_option maxHeartbeats 4000000 in
theorem k_H_placeOf {l : Launch} {S : State} {D : va_G} {dA : Nat → ClassId} (E : jm_en S D jm_cl (jm_ty dA) jm_G) (a : Nat) (da : Int32) (hq : Nat) (siz : Int32) (hn : Nat) (hf : Nat → Int32) (h : jm_H) (h_a : h a = some (.inr (5, [.ref hq, .int siz]))) (h_hq : h hq = some (.inl (dA 2, hn, .inl hf))) (hnd : ([a, hq] : List Nat).Nodup) (p1 : 0 ≤ siz) (p2 : siz.toInt ≤ hn) (p3 : siz ≤ 200) : jm_M l S D jm_cl y_H_placeOf (Cond.code y_H_placeOf b_H_placeOf 5 (some FieldType.int)) { frames := 0, cells := 0, slots := 0, locals := 0 } [.ref a, .int da] h (jm_R (some (.int (f_H_placeOf da siz hf))) h) 0 0 := by
  refine jm_ofW E (by decide) (Nat.le_of_ble_eq_true rfl) (fun p e s m below meth c X hr hk hmn hout hadm => ?_)
  have X : jm_cx p s m ([.ref a, .int da] : List Value).toArray c S D jm_cl (jm_ty dA) jm_G b_H_placeOf 5 "JobHouse$Holidays" := X
  have hL : ∀ zz ∈ ([(a, .inr (5, [.ref hq, .int siz])), (hq, .inl (dA 2, hn, .inl hf))] : List (Nat × va_E)), h zz.1 = some zz.2 := List.forall_mem_cons.mpr ⟨h_a, List.forall_mem_cons.mpr ⟨h_hq, fun _ hz => absurd hz List.not_mem_nil⟩⟩
  refine jm_hq (jm_us_id hL).symm ?_
  show jm_W p l e ({ frames := 0, cells := 0, slots := 0, locals := 0 }) s m ([.ref a, .int da] : List Value).toArray below meth c S D jm_cl (jm_Q S D jm_cl below s (jm_R (some (.int (f_H_placeOf da siz hf))) h) 0 0) 5 0 [(0, .ref a), (1, .int da)] [] (jm_us h [(a, .inr (5, [.ref hq, .int siz])), (hq, .inl (dA 2, hn, .inl hf))]) 0 0
  refine jm_iconst (v := 0) X d_H_placeOf_0 (by decide) ?_
  refine jm_istore_n X d_H_placeOf_1 rfl (by decide) (lv1 := [(2, .int 0), (0, .ref a), (1, .int da)]) rfl ?_
  refine jm_aload_n X d_H_placeOf_2 rfl 1 rfl ?_
  refine jm_get X d_H_placeOf_3 fs_H_13 (by refine jm_us_get ?_ 0 rfl; exact hnd) rfl ?_
  refine jm_istore_n X d_H_placeOf_6 rfl (by decide) (lv1 := [(3, .int siz), (2, .int 0), (0, .ref a), (1, .int da)]) rfl ?_
  refine jm_lvs [2, 3, 1, 0] (lv1 := [(0, .ref a), (1, .int da), (2, .int 0), (3, .int siz)]) rfl ?_
  obtain ⟨ro, hro⟩ : ∃ ro, ro = F_H_placeOf_7 da siz hf 201 0 siz := ⟨_, rfl⟩
  have LP7 : ∀ (n : Nat) (lo : Int32) (hi : Int32), (0 ≤ lo) → (lo ≤ hi) → (hi ≤ siz) → (hi.toInt - lo.toInt).toNat < n → F_H_placeOf_7 da siz hf n lo hi = ro → jm_W p l e ({ frames := 0, cells := 0, slots := 0, locals := 0 }) s m ([.ref a, .int da] : List Value).toArray below meth c S D jm_cl (jm_Q S D jm_cl below s (jm_R (some (.int (f_H_placeOf da siz hf))) h) 0 0) 5 7 [(0, .ref a), (1, .int da), (2, .int lo), (3, .int hi)] [] (jm_us h [(a, .inr (5, [.ref hq, .int siz])), (hq, .inl (dA 2, hn, .inl hf))]) 0 0 := by
    intro n
    induction n with
    | zero => intro lo hi i1 i2 i3 hm _; exact absurd hm (Nat.not_lt_zero _)
    | succ n ih =>
      intro lo hi i1 i2 i3 hm hF
      simp only [F_H_placeOf_7] at hF
      refine jm_iload_n X d_H_placeOf_7 rfl 2 rfl ?_
      refine jm_iload_n X d_H_placeOf_8 rfl 3 rfl ?_
      refine jm_icmp_ge (tgt := 44) X d_H_placeOf_9 (by decide) (fun c1 => ?_) (fun c1 => ?_)
      · refine jm_iload_n X d_H_placeOf_44 rfl 2 rfl ?_
        refine jm_aload_n X d_H_placeOf_45 rfl 0 rfl ?_
        refine jm_get X d_H_placeOf_46 fs_H_13 (by refine jm_us_get ?_ 0 rfl; exact hnd) rfl ?_
        have J69_3 : ∀ (v69 : Int32), v69 = (if siz ≤ lo then ((-1) - lo) else (if (hf (lo : Int32).toNatClampNeg) = da then lo else ((-1) - lo)) : Int32) → jm_W p l e ({ frames := 0, cells := 0, slots := 0, locals := 0 }) s m ([.ref a, .int da] : List Value).toArray below meth c S D jm_cl (jm_Q S D jm_cl below s (jm_R (some (.int (f_H_placeOf da siz hf))) h) 0 0) 5 69 [(0, .ref a), (1, .int da), (2, .int lo), (3, .int hi)] [.int v69] (jm_us h [(a, .inr (5, [.ref hq, .int siz])), (hq, .inl (dA 2, hn, .inl hf))]) 0 0 := by
          intro v69 ev69
          exact jm_iret X hr hk d_H_placeOf_69 ⟨(by show Outcome.returned _ = Outcome.returned _; subst ev69; simp only [if_pos c1, reduceIte] at hF; unfold f_H_placeOf; (try dsimp only); rw [← hro, ← hF]), (jm_us_id hL)⟩
        refine jm_icmp_ge (tgt := 66) X d_H_placeOf_49 (by decide) (fun c2 => ?_) (fun c2 => ?_)
        · refine jm_iconst (v := (-1)) X d_H_placeOf_66 (by decide) ?_
          refine jm_iload_n X d_H_placeOf_67 rfl 2 rfl ?_
          refine jm_isub X d_H_placeOf_68 ?_
          exact J69_3 _ (by first | (simp only [if_pos c2, reduceIte]; done) | (with_reducible rfl))
        · refine jm_aload_n X d_H_placeOf_52 rfl 0 rfl ?_
          refine jm_get X d_H_placeOf_53 fs_H_7 (by refine jm_us_get ?_ 0 rfl; exact hnd) rfl ?_
          refine jm_iload_n X d_H_placeOf_56 rfl 2 rfl ?_
          refine jm_iald (t0 := 2) X d_H_placeOf_57 rfl (by refine jm_us_get ?_ 1 rfl; exact hnd) (by first | exact jm_inN i1 c2 p2 | exact jm_inN i1 c3 p2) ?_
          refine jm_iload_n X d_H_placeOf_58 rfl 1 rfl ?_
          refine jm_icmp_ne (tgt := 66) X d_H_placeOf_59 (by decide) (fun c4 => ?_) (fun c4 => ?_)
          · refine jm_iconst (v := (-1)) X d_H_placeOf_66 (by decide) ?_
            refine jm_iload_n X d_H_placeOf_67 rfl 2 rfl ?_
            refine jm_isub X d_H_placeOf_68 ?_
            exact J69_3 _ (by first | (simp only [if_neg c2, if_neg c4, reduceIte]; done) | (with_reducible rfl))
          · refine jm_iload_n X d_H_placeOf_62 rfl 2 rfl ?_
            refine jm_goto (tgt := 69) X d_H_placeOf_63 (by decide) ?_
            exact J69_3 _ (by first | (simp only [if_neg c2, if_pos c4, reduceIte]; done) | (with_reducible rfl))
      · refine jm_iload_n X d_H_placeOf_12 rfl 2 rfl ?_
        refine jm_iload_n X d_H_placeOf_13 rfl 3 rfl ?_
        refine jm_iadd X d_H_placeOf_14 ?_
        refine jm_iconst (v := 2) X d_H_placeOf_15 (by decide) ?_
        refine jm_idiv X d_H_placeOf_16 (by decide +kernel) ?_
        refine jm_istore X d_H_placeOf_17 (by decide) (lv1 := [(4, .int ((lo + hi) / 2)), (0, .ref a), (1, .int da), (2, .int lo), (3, .int hi)]) rfl ?_
        refine jm_aload_n X d_H_placeOf_19 rfl 1 rfl ?_
        refine jm_get X d_H_placeOf_20 fs_H_7 (by refine jm_us_get ?_ 0 rfl; exact hnd) rfl ?_
        refine jm_iload X d_H_placeOf_23 0 rfl ?_
        refine jm_iald (t0 := 2) X d_H_placeOf_25 rfl (by refine jm_us_get ?_ 1 rfl; exact hnd) (jm_midin i1 c1 i3 p3 p2) ?_
        refine jm_iload_n X d_H_placeOf_26 rfl 2 rfl ?_
        have J41_6 : ∀ (v41 : Int32) (v41_1 : Int32), v41 = (if da ≤ (hf ((lo + hi) / 2 : Int32).toNatClampNeg) then lo else (((lo + hi) / 2) + 1) : Int32) → v41_1 = (if da ≤ (hf ((lo + hi) / 2 : Int32).toNatClampNeg) then ((lo + hi) / 2) else hi : Int32) → jm_W p l e ({ frames := 0, cells := 0, slots := 0, locals := 0 }) s m ([.ref a, .int da] : List Value).toArray below meth c S D jm_cl (jm_Q S D jm_cl below s (jm_R (some (.int (f_H_placeOf da siz hf))) h) 0 0) 5 41 [(0, .ref a), (1, .int da), (2, .int v41), (3, .int v41_1), (4, .int ((lo + hi) / 2))] [] (jm_us h [(a, .inr (5, [.ref hq, .int siz])), (hq, .inl (dA 2, hn, .inl hf))]) 0 0 := by
          intro v41 v41_1 ev41 ev41_1
          refine jm_goto (tgt := 7) X d_H_placeOf_41 (by decide) ?_
          refine jm_lvs [0, 1, 2, 3] (lv1 := [(0, .ref a), (1, .int da), (2, .int v41), (3, .int v41_1)]) rfl ?_
          exact ih v41 v41_1 (by subst ev41; exact (jm_bs (P := da ≤ hf (((lo + hi) / 2 : Int32).toNatClampNeg)) i1 c1 i3 p3 hm).1) (by subst ev41; subst ev41_1; exact (jm_bs (P := da ≤ hf (((lo + hi) / 2 : Int32).toNatClampNeg)) i1 c1 i3 p3 hm).2.1) (by subst ev41_1; exact (jm_bs (P := da ≤ hf (((lo + hi) / 2 : Int32).toNatClampNeg)) i1 c1 i3 p3 hm).2.2.1) (by subst ev41; subst ev41_1; exact (jm_bs (P := da ≤ hf (((lo + hi) / 2 : Int32).toNatClampNeg)) i1 c1 i3 p3 hm).2.2.2) (by subst ev41_1; subst ev41; simp only [if_neg c1, reduceIte] at hF; exact hF)
        refine jm_icmp_ge (tgt := 38) X d_H_placeOf_27 (by decide) (fun c5 => ?_) (fun c5 => ?_)
        · refine jm_iload X d_H_placeOf_38 0 rfl ?_
          refine jm_istore_n X d_H_placeOf_40 rfl (by decide) (lv1 := [(3, .int ((lo + hi) / 2)), (4, .int ((lo + hi) / 2)), (0, .ref a), (1, .int da), (2, .int lo)]) rfl ?_
          refine jm_lvs [2, 3, 4, 0, 1] (lv1 := [(0, .ref a), (1, .int da), (2, .int lo), (3, .int ((lo + hi) / 2)), (4, .int ((lo + hi) / 2))]) rfl ?_
          exact J41_6 _ _ (by first | (simp only [if_pos c5, reduceIte]; done) | (with_reducible rfl)) (by first | (simp only [if_pos c5, reduceIte]; done) | (with_reducible rfl))
        · refine jm_iload X d_H_placeOf_30 0 rfl ?_
          refine jm_iconst (v := 1) X d_H_placeOf_32 (by decide) ?_
          refine jm_iadd X d_H_placeOf_33 ?_
          refine jm_istore_n X d_H_placeOf_34 rfl (by decide) (lv1 := [(2, .int (((lo + hi) / 2) + 1)), (4, .int ((lo + hi) / 2)), (0, .ref a), (1, .int da), (3, .int hi)]) rfl ?_
          refine jm_goto (tgt := 41) X d_H_placeOf_35 (by decide) ?_
          refine jm_lvs [2, 3, 0, 4, 1] (lv1 := [(0, .ref a), (1, .int da), (2, .int (((lo + hi) / 2) + 1)), (3, .int hi), (4, .int ((lo + hi) / 2))]) rfl ?_
          exact J41_6 _ _ (by first | (simp only [if_neg c5, reduceIte]; done) | (with_reducible rfl)) (by first | (simp only [if_neg c5, reduceIte]; done) | (with_reducible rfl))
  exact LP7 201 0 siz (by decide) p1 (Int32.le_refl siz) (jm_zz p1 (jm_lt200 p3) (by decide)) hro.symm
end
section
def y_CR_readCron : MethodName := ⟨"JobHouse$CronReader", "readCron", "(LJobHouse$Text;LJobHouse$Cron;)V"⟩
abbrev b_CR_readCron : ByteArray := prog_3_method_2_code
theorem d_CR_readCron_0 : decode b_CR_readCron 0 = .ok (.aload_n 1, 1) := by decide +kernel
theorem d_CR_readCron_1 : decode b_CR_readCron 1 = .ok (.invokevirtual 9, 3) := by decide +kernel
theorem d_CR_readCron_4 : decode b_CR_readCron 4 = .ok (.aload_n 0, 1) := by decide +kernel
theorem d_CR_readCron_5 : decode b_CR_readCron 5 = .ok (.aload_n 1, 1) := by decide +kernel
theorem d_CR_readCron_6 : decode b_CR_readCron 6 = .ok (.iconst 0, 1) := by decide +kernel
theorem d_CR_readCron_7 : decode b_CR_readCron 7 = .ok (.invokestatic 14, 3) := by decide +kernel
theorem d_CR_readCron_10 : decode b_CR_readCron 10 = .ok (.aload_n 0, 1) := by decide +kernel
theorem d_CR_readCron_11 : decode b_CR_readCron 11 = .ok (.invokevirtual 20, 3) := by decide +kernel
theorem d_CR_readCron_14 : decode b_CR_readCron 14 = .ok (.aload_n 0, 1) := by decide +kernel
theorem d_CR_readCron_15 : decode b_CR_readCron 15 = .ok (.aload_n 1, 1) := by decide +kernel
theorem d_CR_readCron_16 : decode b_CR_readCron 16 = .ok (.iconst 1, 1) := by decide +kernel
theorem d_CR_readCron_17 : decode b_CR_readCron 17 = .ok (.invokestatic 14, 3) := by decide +kernel
theorem d_CR_readCron_20 : decode b_CR_readCron 20 = .ok (.aload_n 0, 1) := by decide +kernel
theorem d_CR_readCron_21 : decode b_CR_readCron 21 = .ok (.invokevirtual 20, 3) := by decide +kernel
theorem d_CR_readCron_24 : decode b_CR_readCron 24 = .ok (.aload_n 0, 1) := by decide +kernel
theorem d_CR_readCron_25 : decode b_CR_readCron 25 = .ok (.aload_n 1, 1) := by decide +kernel
theorem d_CR_readCron_26 : decode b_CR_readCron 26 = .ok (.iconst 2, 1) := by decide +kernel
theorem d_CR_readCron_27 : decode b_CR_readCron 27 = .ok (.invokestatic 14, 3) := by decide +kernel
theorem d_CR_readCron_30 : decode b_CR_readCron 30 = .ok (.aload_n 0, 1) := by decide +kernel
theorem d_CR_readCron_31 : decode b_CR_readCron 31 = .ok (.invokevirtual 20, 3) := by decide +kernel
theorem d_CR_readCron_34 : decode b_CR_readCron 34 = .ok (.aload_n 0, 1) := by decide +kernel
theorem d_CR_readCron_35 : decode b_CR_readCron 35 = .ok (.aload_n 1, 1) := by decide +kernel
theorem d_CR_readCron_36 : decode b_CR_readCron 36 = .ok (.invokestatic 25, 3) := by decide +kernel
theorem d_CR_readCron_39 : decode b_CR_readCron 39 = .ok (.ifCond .ne 9, 3) := by decide +kernel
theorem d_CR_readCron_42 : decode b_CR_readCron 42 = .ok (.aload_n 0, 1) := by decide +kernel
theorem d_CR_readCron_43 : decode b_CR_readCron 43 = .ok (.aload_n 1, 1) := by decide +kernel
theorem d_CR_readCron_44 : decode b_CR_readCron 44 = .ok (.iconst 3, 1) := by decide +kernel
theorem d_CR_readCron_45 : decode b_CR_readCron 45 = .ok (.invokestatic 14, 3) := by decide +kernel
theorem d_CR_readCron_48 : decode b_CR_readCron 48 = .ok (.aload_n 0, 1) := by decide +kernel
theorem d_CR_readCron_49 : decode b_CR_readCron 49 = .ok (.invokevirtual 20, 3) := by decide +kernel
theorem d_CR_readCron_52 : decode b_CR_readCron 52 = .ok (.aload_n 0, 1) := by decide +kernel
theorem d_CR_readCron_53 : decode b_CR_readCron 53 = .ok (.aload_n 1, 1) := by decide +kernel
theorem d_CR_readCron_54 : decode b_CR_readCron 54 = .ok (.iconst 4, 1) := by decide +kernel
theorem d_CR_readCron_55 : decode b_CR_readCron 55 = .ok (.invokestatic 14, 3) := by decide +kernel
theorem d_CR_readCron_58 : decode b_CR_readCron 58 = .ok (.aload_n 0, 1) := by decide +kernel
theorem d_CR_readCron_59 : decode b_CR_readCron 59 = .ok (.invokevirtual 20, 3) := by decide +kernel
theorem d_CR_readCron_62 : decode b_CR_readCron 62 = .ok (.aload_n 0, 1) := by decide +kernel
theorem d_CR_readCron_63 : decode b_CR_readCron 63 = .ok (.aload_n 1, 1) := by decide +kernel
theorem d_CR_readCron_64 : decode b_CR_readCron 64 = .ok (.invokestatic 29, 3) := by decide +kernel
theorem d_CR_readCron_67 : decode b_CR_readCron 67 = .ok (.ifCond .ne 9, 3) := by decide +kernel
theorem d_CR_readCron_70 : decode b_CR_readCron 70 = .ok (.aload_n 0, 1) := by decide +kernel
theorem d_CR_readCron_71 : decode b_CR_readCron 71 = .ok (.aload_n 1, 1) := by decide +kernel
theorem d_CR_readCron_72 : decode b_CR_readCron 72 = .ok (.iconst 5, 1) := by decide +kernel
theorem d_CR_readCron_73 : decode b_CR_readCron 73 = .ok (.invokestatic 14, 3) := by decide +kernel
theorem d_CR_readCron_76 : decode b_CR_readCron 76 = .ok (.aload_n 0, 1) := by decide +kernel
theorem d_CR_readCron_77 : decode b_CR_readCron 77 = .ok (.invokevirtual 32, 3) := by decide +kernel
theorem d_CR_readCron_80 : decode b_CR_readCron 80 = .ok (.ifCond .eq 17, 3) := by decide +kernel
theorem d_CR_readCron_83 : decode b_CR_readCron 83 = .ok (.aload_n 1, 1) := by decide +kernel
theorem d_CR_readCron_84 : decode b_CR_readCron 84 = .ok (.bipush 6, 2) := by decide +kernel
theorem d_CR_readCron_86 : decode b_CR_readCron 86 = .ok (.sipush 1970, 3) := by decide +kernel
theorem d_CR_readCron_89 : decode b_CR_readCron 89 = .ok (.sipush 2299, 3) := by decide +kernel
theorem d_CR_readCron_92 : decode b_CR_readCron 92 = .ok (.iconst 1, 1) := by decide +kernel
theorem d_CR_readCron_93 : decode b_CR_readCron 93 = .ok (.invokestatic 36, 3) := by decide +kernel
theorem d_CR_readCron_96 : decode b_CR_readCron 96 = .ok (.return_, 1) := by decide +kernel
theorem d_CR_readCron_97 : decode b_CR_readCron 97 = .ok (.aload_n 0, 1) := by decide +kernel
theorem d_CR_readCron_98 : decode b_CR_readCron 98 = .ok (.invokevirtual 20, 3) := by decide +kernel
theorem d_CR_readCron_101 : decode b_CR_readCron 101 = .ok (.aload_n 0, 1) := by decide +kernel
theorem d_CR_readCron_102 : decode b_CR_readCron 102 = .ok (.aload_n 1, 1) := by decide +kernel
theorem d_CR_readCron_103 : decode b_CR_readCron 103 = .ok (.bipush 6, 2) := by decide +kernel
theorem d_CR_readCron_105 : decode b_CR_readCron 105 = .ok (.invokestatic 14, 3) := by decide +kernel
theorem d_CR_readCron_108 : decode b_CR_readCron 108 = .ok (.aload_n 0, 1) := by decide +kernel
theorem d_CR_readCron_109 : decode b_CR_readCron 109 = .ok (.invokevirtual 40, 3) := by decide +kernel
theorem d_CR_readCron_112 : decode b_CR_readCron 112 = .ok (.return_, 1) := by decide +kernel
theorem ci_CR_readCron : jm_ci jm_G y_CR_readCron (Cond.code y_CR_readCron b_CR_readCron 2 (none)) 2 2 := ⟨jm_g3 36 rfl rfl, Or.inl ⟨_, _, rfl⟩, jm_g1 18 rfl rfl, ⟨by decide, by decide⟩, by decide +kernel⟩
theorem st_CR_readCron : Cond.static y_CR_readCron ∈ jm_G := jm_g3 35 rfl rfl
def y_CR_takeDayRule : MethodName := ⟨"JobHouse$CronReader", "takeDayRule", "(LJobHouse$Text;LJobHouse$Cron;)Z"⟩
abbrev b_CR_takeDayRule : ByteArray := prog_3_method_3_code
theorem d_CR_takeDayRule_0 : decode b_CR_takeDayRule 0 = .ok (.aload_n 0, 1) := by decide +kernel
theorem d_CR_takeDayRule_1 : decode b_CR_takeDayRule 1 = .ok (.bipush 63, 2) := by decide +kernel
theorem d_CR_takeDayRule_3 : decode b_CR_takeDayRule 3 = .ok (.invokevirtual 43, 3) := by decide +kernel
theorem d_CR_takeDayRule_6 : decode b_CR_takeDayRule 6 = .ok (.ifCond .eq 10, 3) := by decide +kernel
theorem d_CR_takeDayRule_9 : decode b_CR_takeDayRule 9 = .ok (.aload_n 1, 1) := by decide +kernel
theorem d_CR_takeDayRule_10 : decode b_CR_takeDayRule 10 = .ok (.iconst 1, 1) := by decide +kernel
theorem d_CR_takeDayRule_11 : decode b_CR_takeDayRule 11 = .ok (.putfield 47, 3) := by decide +kernel
theorem d_CR_takeDayRule_14 : decode b_CR_takeDayRule 14 = .ok (.iconst 1, 1) := by decide +kernel
theorem d_CR_takeDayRule_15 : decode b_CR_takeDayRule 15 = .ok (.ireturn, 1) := by decide +kernel
theorem d_CR_takeDayRule_16 : decode b_CR_takeDayRule 16 = .ok (.aload_n 0, 1) := by decide +kernel
theorem d_CR_takeDayRule_17 : decode b_CR_takeDayRule 17 = .ok (.bipush 76, 2) := by decide +kernel
theorem d_CR_takeDayRule_19 : decode b_CR_takeDayRule 19 = .ok (.invokevirtual 43, 3) := by decide +kernel
theorem d_CR_takeDayRule_22 : decode b_CR_takeDayRule 22 = .ok (.ifCond .ne 5, 3) := by decide +kernel
theorem d_CR_takeDayRule_25 : decode b_CR_takeDayRule 25 = .ok (.iconst 0, 1) := by decide +kernel
theorem d_CR_takeDayRule_26 : decode b_CR_takeDayRule 26 = .ok (.ireturn, 1) := by decide +kernel
theorem d_CR_takeDayRule_27 : decode b_CR_takeDayRule 27 = .ok (.aload_n 0, 1) := by decide +kernel
theorem d_CR_takeDayRule_28 : decode b_CR_takeDayRule 28 = .ok (.bipush 87, 2) := by decide +kernel
theorem d_CR_takeDayRule_30 : decode b_CR_takeDayRule 30 = .ok (.invokevirtual 43, 3) := by decide +kernel
theorem d_CR_takeDayRule_33 : decode b_CR_takeDayRule 33 = .ok (.ifCond .eq 11, 3) := by decide +kernel
theorem d_CR_takeDayRule_36 : decode b_CR_takeDayRule 36 = .ok (.aload_n 1, 1) := by decide +kernel
theorem d_CR_takeDayRule_37 : decode b_CR_takeDayRule 37 = .ok (.iconst 3, 1) := by decide +kernel
theorem d_CR_takeDayRule_38 : decode b_CR_takeDayRule 38 = .ok (.putfield 47, 3) := by decide +kernel
theorem d_CR_takeDayRule_41 : decode b_CR_takeDayRule 41 = .ok (.goto 32, 3) := by decide +kernel
theorem d_CR_takeDayRule_44 : decode b_CR_takeDayRule 44 = .ok (.aload_n 1, 1) := by decide +kernel
theorem d_CR_takeDayRule_45 : decode b_CR_takeDayRule 45 = .ok (.iconst 2, 1) := by decide +kernel
theorem d_CR_takeDayRule_46 : decode b_CR_takeDayRule 46 = .ok (.putfield 47, 3) := by decide +kernel
theorem d_CR_takeDayRule_49 : decode b_CR_takeDayRule 49 = .ok (.aload_n 1, 1) := by decide +kernel
theorem d_CR_takeDayRule_50 : decode b_CR_takeDayRule 50 = .ok (.aload_n 0, 1) := by decide +kernel
theorem d_CR_takeDayRule_51 : decode b_CR_takeDayRule 51 = .ok (.bipush 45, 2) := by decide +kernel
theorem d_CR_takeDayRule_53 : decode b_CR_takeDayRule 53 = .ok (.invokevirtual 43, 3) := by decide +kernel
theorem d_CR_takeDayRule_56 : decode b_CR_takeDayRule 56 = .ok (.ifCond .eq 13, 3) := by decide +kernel
theorem d_CR_takeDayRule_59 : decode b_CR_takeDayRule 59 = .ok (.aload_n 0, 1) := by decide +kernel
theorem d_CR_takeDayRule_60 : decode b_CR_takeDayRule 60 = .ok (.iconst 1, 1) := by decide +kernel
theorem d_CR_takeDayRule_61 : decode b_CR_takeDayRule 61 = .ok (.bipush 30, 2) := by decide +kernel
theorem d_CR_takeDayRule_63 : decode b_CR_takeDayRule 63 = .ok (.invokevirtual 51, 3) := by decide +kernel
theorem d_CR_takeDayRule_66 : decode b_CR_takeDayRule 66 = .ok (.goto 4, 3) := by decide +kernel
theorem d_CR_takeDayRule_69 : decode b_CR_takeDayRule 69 = .ok (.iconst 0, 1) := by decide +kernel
theorem d_CR_takeDayRule_70 : decode b_CR_takeDayRule 70 = .ok (.putfield 55, 3) := by decide +kernel
theorem d_CR_takeDayRule_73 : decode b_CR_takeDayRule 73 = .ok (.iconst 1, 1) := by decide +kernel
theorem d_CR_takeDayRule_74 : decode b_CR_takeDayRule 74 = .ok (.ireturn, 1) := by decide +kernel
theorem ci_CR_takeDayRule : jm_ci jm_G y_CR_takeDayRule (Cond.code y_CR_takeDayRule b_CR_takeDayRule 2 (some FieldType.boolean)) 2 2 := ⟨jm_g3 133 rfl rfl, Or.inl ⟨_, _, rfl⟩, jm_g1 18 rfl rfl, ⟨by decide, by decide⟩, by decide +kernel⟩
theorem st_CR_takeDayRule : Cond.static y_CR_takeDayRule ∈ jm_G := jm_g3 132 rfl rfl
def y_CR_takeWeekdayRule : MethodName := ⟨"JobHouse$CronReader", "takeWeekdayRule", "(LJobHouse$Text;LJobHouse$Cron;)Z"⟩
abbrev b_CR_takeWeekdayRule : ByteArray := prog_3_method_4_code
theorem d_CR_takeWeekdayRule_0 : decode b_CR_takeWeekdayRule 0 = .ok (.aload_n 1, 1) := by decide +kernel
theorem d_CR_takeWeekdayRule_1 : decode b_CR_takeWeekdayRule 1 = .ok (.getfield 47, 3) := by decide +kernel
theorem d_CR_takeWeekdayRule_4 : decode b_CR_takeWeekdayRule 4 = .ok (.iconst 1, 1) := by decide +kernel
theorem d_CR_takeWeekdayRule_5 : decode b_CR_takeWeekdayRule 5 = .ok (.if_icmp .eq 11, 3) := by decide +kernel
theorem d_CR_takeWeekdayRule_8 : decode b_CR_takeWeekdayRule 8 = .ok (.aload_n 0, 1) := by decide +kernel
theorem d_CR_takeWeekdayRule_9 : decode b_CR_takeWeekdayRule 9 = .ok (.bipush 63, 2) := by decide +kernel
theorem d_CR_takeWeekdayRule_11 : decode b_CR_takeWeekdayRule 11 = .ok (.invokevirtual 58, 3) := by decide +kernel
theorem d_CR_takeWeekdayRule_14 : decode b_CR_takeWeekdayRule 14 = .ok (.iconst 1, 1) := by decide +kernel
theorem d_CR_takeWeekdayRule_15 : decode b_CR_takeWeekdayRule 15 = .ok (.ireturn, 1) := by decide +kernel
theorem d_CR_takeWeekdayRule_16 : decode b_CR_takeWeekdayRule 16 = .ok (.aload_n 0, 1) := by decide +kernel
theorem d_CR_takeWeekdayRule_17 : decode b_CR_takeWeekdayRule 17 = .ok (.bipush 76, 2) := by decide +kernel
theorem d_CR_takeWeekdayRule_19 : decode b_CR_takeWeekdayRule 19 = .ok (.invokevirtual 43, 3) := by decide +kernel
theorem d_CR_takeWeekdayRule_22 : decode b_CR_takeWeekdayRule 22 = .ok (.ifCond .eq 12, 3) := by decide +kernel
theorem d_CR_takeWeekdayRule_25 : decode b_CR_takeWeekdayRule 25 = .ok (.aload_n 1, 1) := by decide +kernel
theorem d_CR_takeWeekdayRule_26 : decode b_CR_takeWeekdayRule 26 = .ok (.iconst 5, 1) := by decide +kernel
theorem d_CR_takeWeekdayRule_27 : decode b_CR_takeWeekdayRule 27 = .ok (.bipush 7, 2) := by decide +kernel
theorem d_CR_takeWeekdayRule_29 : decode b_CR_takeWeekdayRule 29 = .ok (.invokevirtual 62, 3) := by decide +kernel
theorem d_CR_takeWeekdayRule_32 : decode b_CR_takeWeekdayRule 32 = .ok (.iconst 1, 1) := by decide +kernel
theorem d_CR_takeWeekdayRule_33 : decode b_CR_takeWeekdayRule 33 = .ok (.ireturn, 1) := by decide +kernel
theorem d_CR_takeWeekdayRule_34 : decode b_CR_takeWeekdayRule 34 = .ok (.iconst 0, 1) := by decide +kernel
theorem d_CR_takeWeekdayRule_35 : decode b_CR_takeWeekdayRule 35 = .ok (.ireturn, 1) := by decide +kernel
theorem ci_CR_takeWeekdayRule : jm_ci jm_G y_CR_takeWeekdayRule (Cond.code y_CR_takeWeekdayRule b_CR_takeWeekdayRule 2 (some FieldType.boolean)) 2 2 := ⟨jm_g3 136 rfl rfl, Or.inl ⟨_, _, rfl⟩, jm_g1 18 rfl rfl, ⟨by decide, by decide⟩, by decide +kernel⟩
theorem st_CR_takeWeekdayRule : Cond.static y_CR_takeWeekdayRule ∈ jm_G := jm_g3 135 rfl rfl
def y_CR_readItems : MethodName := ⟨"JobHouse$CronReader", "readItems", "(LJobHouse$Text;LJobHouse$Cron;I)V"⟩
abbrev b_CR_readItems : ByteArray := prog_3_method_5_code
theorem d_CR_readItems_0 : decode b_CR_readItems 0 = .ok (.iconst 1, 1) := by decide +kernel
theorem d_CR_readItems_1 : decode b_CR_readItems 1 = .ok (.istore_n 3, 1) := by decide +kernel
theorem d_CR_readItems_2 : decode b_CR_readItems 2 = .ok (.iconst 0, 1) := by decide +kernel
theorem d_CR_readItems_3 : decode b_CR_readItems 3 = .ok (.istore 4, 2) := by decide +kernel
theorem d_CR_readItems_5 : decode b_CR_readItems 5 = .ok (.iload_n 3, 1) := by decide +kernel
theorem d_CR_readItems_6 : decode b_CR_readItems 6 = .ok (.ifCond .eq 51, 3) := by decide +kernel
theorem d_CR_readItems_9 : decode b_CR_readItems 9 = .ok (.iload 4, 2) := by decide +kernel
theorem d_CR_readItems_11 : decode b_CR_readItems 11 = .ok (.sipush 400, 3) := by decide +kernel
theorem d_CR_readItems_14 : decode b_CR_readItems 14 = .ok (.if_icmp .ge 43, 3) := by decide +kernel
theorem d_CR_readItems_17 : decode b_CR_readItems 17 = .ok (.aload_n 0, 1) := by decide +kernel
theorem d_CR_readItems_18 : decode b_CR_readItems 18 = .ok (.aload_n 1, 1) := by decide +kernel
theorem d_CR_readItems_19 : decode b_CR_readItems 19 = .ok (.iload_n 2, 1) := by decide +kernel
theorem d_CR_readItems_20 : decode b_CR_readItems 20 = .ok (.iload 4, 2) := by decide +kernel
theorem d_CR_readItems_22 : decode b_CR_readItems 22 = .ok (.ifCond .ne 7, 3) := by decide +kernel
theorem d_CR_readItems_25 : decode b_CR_readItems 25 = .ok (.iconst 1, 1) := by decide +kernel
theorem d_CR_readItems_26 : decode b_CR_readItems 26 = .ok (.goto 4, 3) := by decide +kernel
theorem d_CR_readItems_29 : decode b_CR_readItems 29 = .ok (.iconst 0, 1) := by decide +kernel
theorem d_CR_readItems_30 : decode b_CR_readItems 30 = .ok (.invokestatic 66, 3) := by decide +kernel
theorem d_CR_readItems_33 : decode b_CR_readItems 33 = .ok (.ifCond .eq 16, 3) := by decide +kernel
theorem d_CR_readItems_36 : decode b_CR_readItems 36 = .ok (.aload_n 0, 1) := by decide +kernel
theorem d_CR_readItems_37 : decode b_CR_readItems 37 = .ok (.bipush 44, 2) := by decide +kernel
theorem d_CR_readItems_39 : decode b_CR_readItems 39 = .ok (.invokevirtual 43, 3) := by decide +kernel
theorem d_CR_readItems_42 : decode b_CR_readItems 42 = .ok (.ifCond .eq 7, 3) := by decide +kernel
theorem d_CR_readItems_45 : decode b_CR_readItems 45 = .ok (.iconst 1, 1) := by decide +kernel
theorem d_CR_readItems_46 : decode b_CR_readItems 46 = .ok (.goto 4, 3) := by decide +kernel
theorem d_CR_readItems_49 : decode b_CR_readItems 49 = .ok (.iconst 0, 1) := by decide +kernel
theorem d_CR_readItems_50 : decode b_CR_readItems 50 = .ok (.istore_n 3, 1) := by decide +kernel
theorem d_CR_readItems_51 : decode b_CR_readItems 51 = .ok (.iinc 4 1, 3) := by decide +kernel
theorem d_CR_readItems_54 : decode b_CR_readItems 54 = .ok (.goto (-49), 3) := by decide +kernel
theorem d_CR_readItems_57 : decode b_CR_readItems 57 = .ok (.return_, 1) := by decide +kernel
theorem ci_CR_readItems : jm_ci jm_G y_CR_readItems (Cond.code y_CR_readItems b_CR_readItems 5 (none)) 5 3 := ⟨jm_g3 43 rfl rfl, Or.inl ⟨_, _, rfl⟩, jm_g1 18 rfl rfl, ⟨by decide, by decide⟩, by decide +kernel⟩
theorem st_CR_readItems : Cond.static y_CR_readItems ∈ jm_G := jm_g3 42 rfl rfl
def y_CR_readItem : MethodName := ⟨"JobHouse$CronReader", "readItem", "(LJobHouse$Text;LJobHouse$Cron;IZ)Z"⟩
abbrev b_CR_readItem : ByteArray := prog_3_method_6_code
theorem d_CR_readItem_0 : decode b_CR_readItem 0 = .ok (.iload_n 2, 1) := by decide +kernel
theorem d_CR_readItem_1 : decode b_CR_readItem 1 = .ok (.invokestatic 70, 3) := by decide +kernel
theorem d_CR_readItem_4 : decode b_CR_readItem 4 = .ok (.istore 4, 2) := by decide +kernel
theorem d_CR_readItem_6 : decode b_CR_readItem 6 = .ok (.iload_n 2, 1) := by decide +kernel
theorem d_CR_readItem_7 : decode b_CR_readItem 7 = .ok (.invokestatic 74, 3) := by decide +kernel
theorem d_CR_readItem_10 : decode b_CR_readItem 10 = .ok (.istore 5, 2) := by decide +kernel
theorem d_CR_readItem_12 : decode b_CR_readItem 12 = .ok (.aload_n 0, 1) := by decide +kernel
theorem d_CR_readItem_13 : decode b_CR_readItem 13 = .ok (.bipush 42, 2) := by decide +kernel
theorem d_CR_readItem_15 : decode b_CR_readItem 15 = .ok (.invokevirtual 43, 3) := by decide +kernel
theorem d_CR_readItem_18 : decode b_CR_readItem 18 = .ok (.ifCond .ne 59, 3) := by decide +kernel
theorem d_CR_readItem_21 : decode b_CR_readItem 21 = .ok (.aload_n 0, 1) := by decide +kernel
theorem d_CR_readItem_22 : decode b_CR_readItem 22 = .ok (.iload_n 2, 1) := by decide +kernel
theorem d_CR_readItem_23 : decode b_CR_readItem 23 = .ok (.invokestatic 77, 3) := by decide +kernel
theorem d_CR_readItem_26 : decode b_CR_readItem 26 = .ok (.istore 4, 2) := by decide +kernel
theorem d_CR_readItem_28 : decode b_CR_readItem 28 = .ok (.iload_n 3, 1) := by decide +kernel
theorem d_CR_readItem_29 : decode b_CR_readItem 29 = .ok (.ifCond .eq 16, 3) := by decide +kernel
theorem d_CR_readItem_32 : decode b_CR_readItem 32 = .ok (.aload_n 0, 1) := by decide +kernel
theorem d_CR_readItem_33 : decode b_CR_readItem 33 = .ok (.aload_n 1, 1) := by decide +kernel
theorem d_CR_readItem_34 : decode b_CR_readItem 34 = .ok (.iload_n 2, 1) := by decide +kernel
theorem d_CR_readItem_35 : decode b_CR_readItem 35 = .ok (.iload 4, 2) := by decide +kernel
theorem d_CR_readItem_37 : decode b_CR_readItem 37 = .ok (.invokestatic 81, 3) := by decide +kernel
theorem d_CR_readItem_40 : decode b_CR_readItem 40 = .ok (.ifCond .eq 5, 3) := by decide +kernel
theorem d_CR_readItem_43 : decode b_CR_readItem 43 = .ok (.iconst 0, 1) := by decide +kernel
theorem d_CR_readItem_44 : decode b_CR_readItem 44 = .ok (.ireturn, 1) := by decide +kernel
theorem d_CR_readItem_45 : decode b_CR_readItem 45 = .ok (.aload_n 0, 1) := by decide +kernel
theorem d_CR_readItem_46 : decode b_CR_readItem 46 = .ok (.invokevirtual 85, 3) := by decide +kernel
theorem d_CR_readItem_49 : decode b_CR_readItem 49 = .ok (.bipush 47, 2) := by decide +kernel
theorem d_CR_readItem_51 : decode b_CR_readItem 51 = .ok (.if_icmp .eq 26, 3) := by decide +kernel
theorem d_CR_readItem_54 : decode b_CR_readItem 54 = .ok (.aload_n 0, 1) := by decide +kernel
theorem d_CR_readItem_55 : decode b_CR_readItem 55 = .ok (.bipush 45, 2) := by decide +kernel
theorem d_CR_readItem_57 : decode b_CR_readItem 57 = .ok (.invokevirtual 43, 3) := by decide +kernel
theorem d_CR_readItem_60 : decode b_CR_readItem 60 = .ok (.ifCond .eq 13, 3) := by decide +kernel
theorem d_CR_readItem_63 : decode b_CR_readItem 63 = .ok (.aload_n 0, 1) := by decide +kernel
theorem d_CR_readItem_64 : decode b_CR_readItem 64 = .ok (.iload_n 2, 1) := by decide +kernel
theorem d_CR_readItem_65 : decode b_CR_readItem 65 = .ok (.iload 4, 2) := by decide +kernel
theorem d_CR_readItem_67 : decode b_CR_readItem 67 = .ok (.invokestatic 89, 3) := by decide +kernel
theorem d_CR_readItem_70 : decode b_CR_readItem 70 = .ok (.goto 5, 3) := by decide +kernel
theorem d_CR_readItem_73 : decode b_CR_readItem 73 = .ok (.iload 4, 2) := by decide +kernel
theorem d_CR_readItem_75 : decode b_CR_readItem 75 = .ok (.istore 5, 2) := by decide +kernel
theorem d_CR_readItem_77 : decode b_CR_readItem 77 = .ok (.aload_n 0, 1) := by decide +kernel
theorem d_CR_readItem_78 : decode b_CR_readItem 78 = .ok (.bipush 47, 2) := by decide +kernel
theorem d_CR_readItem_80 : decode b_CR_readItem 80 = .ok (.invokevirtual 43, 3) := by decide +kernel
theorem d_CR_readItem_83 : decode b_CR_readItem 83 = .ok (.ifCond .eq 13, 3) := by decide +kernel
theorem d_CR_readItem_86 : decode b_CR_readItem 86 = .ok (.aload_n 0, 1) := by decide +kernel
theorem d_CR_readItem_87 : decode b_CR_readItem 87 = .ok (.iconst 1, 1) := by decide +kernel
theorem d_CR_readItem_88 : decode b_CR_readItem 88 = .ok (.bipush 99, 2) := by decide +kernel
theorem d_CR_readItem_90 : decode b_CR_readItem 90 = .ok (.invokevirtual 51, 3) := by decide +kernel
theorem d_CR_readItem_93 : decode b_CR_readItem 93 = .ok (.goto 4, 3) := by decide +kernel
theorem d_CR_readItem_96 : decode b_CR_readItem 96 = .ok (.iconst 1, 1) := by decide +kernel
theorem d_CR_readItem_97 : decode b_CR_readItem 97 = .ok (.istore 6, 2) := by decide +kernel
theorem d_CR_readItem_99 : decode b_CR_readItem 99 = .ok (.aload_n 1, 1) := by decide +kernel
theorem d_CR_readItem_100 : decode b_CR_readItem 100 = .ok (.iload_n 2, 1) := by decide +kernel
theorem d_CR_readItem_101 : decode b_CR_readItem 101 = .ok (.iload 4, 2) := by decide +kernel
theorem d_CR_readItem_103 : decode b_CR_readItem 103 = .ok (.iload 5, 2) := by decide +kernel
theorem d_CR_readItem_105 : decode b_CR_readItem 105 = .ok (.iload 6, 2) := by decide +kernel
theorem d_CR_readItem_107 : decode b_CR_readItem 107 = .ok (.invokestatic 36, 3) := by decide +kernel
theorem d_CR_readItem_110 : decode b_CR_readItem 110 = .ok (.iconst 1, 1) := by decide +kernel
theorem d_CR_readItem_111 : decode b_CR_readItem 111 = .ok (.ireturn, 1) := by decide +kernel
theorem ci_CR_readItem : jm_ci jm_G y_CR_readItem (Cond.code y_CR_readItem b_CR_readItem 7 (some FieldType.boolean)) 7 4 := ⟨jm_g3 46 rfl rfl, Or.inl ⟨_, _, rfl⟩, jm_g1 18 rfl rfl, ⟨by decide, by decide⟩, by decide +kernel⟩
theorem st_CR_readItem : Cond.static y_CR_readItem ∈ jm_G := jm_g3 45 rfl rfl
def y_CR_readValue : MethodName := ⟨"JobHouse$CronReader", "readValue", "(LJobHouse$Text;I)I"⟩
abbrev b_CR_readValue : ByteArray := prog_3_method_7_code
theorem d_CR_readValue_0 : decode b_CR_readValue 0 = .ok (.iconst (-1), 1) := by decide +kernel
theorem d_CR_readValue_1 : decode b_CR_readValue 1 = .ok (.istore_n 2, 1) := by decide +kernel
theorem d_CR_readValue_2 : decode b_CR_readValue 2 = .ok (.iload_n 1, 1) := by decide +kernel
theorem d_CR_readValue_3 : decode b_CR_readValue 3 = .ok (.iconst 4, 1) := by decide +kernel
theorem d_CR_readValue_4 : decode b_CR_readValue 4 = .ok (.if_icmp .ne 13, 3) := by decide +kernel
theorem d_CR_readValue_7 : decode b_CR_readValue 7 = .ok (.aload_n 0, 1) := by decide +kernel
theorem d_CR_readValue_8 : decode b_CR_readValue 8 = .ok (.ldc 93, 2) := by decide +kernel
theorem d_CR_readValue_10 : decode b_CR_readValue 10 = .ok (.invokevirtual 95, 3) := by decide +kernel
theorem d_CR_readValue_13 : decode b_CR_readValue 13 = .ok (.istore_n 2, 1) := by decide +kernel
theorem d_CR_readValue_14 : decode b_CR_readValue 14 = .ok (.goto 15, 3) := by decide +kernel
theorem d_CR_readValue_17 : decode b_CR_readValue 17 = .ok (.iload_n 1, 1) := by decide +kernel
theorem d_CR_readValue_18 : decode b_CR_readValue 18 = .ok (.iconst 5, 1) := by decide +kernel
theorem d_CR_readValue_19 : decode b_CR_readValue 19 = .ok (.if_icmp .ne 10, 3) := by decide +kernel
theorem d_CR_readValue_22 : decode b_CR_readValue 22 = .ok (.aload_n 0, 1) := by decide +kernel
theorem d_CR_readValue_23 : decode b_CR_readValue 23 = .ok (.ldc 99, 2) := by decide +kernel
theorem d_CR_readValue_25 : decode b_CR_readValue 25 = .ok (.invokevirtual 95, 3) := by decide +kernel
theorem d_CR_readValue_28 : decode b_CR_readValue 28 = .ok (.istore_n 2, 1) := by decide +kernel
theorem d_CR_readValue_29 : decode b_CR_readValue 29 = .ok (.iload_n 1, 1) := by decide +kernel
theorem d_CR_readValue_30 : decode b_CR_readValue 30 = .ok (.invokestatic 70, 3) := by decide +kernel
theorem d_CR_readValue_33 : decode b_CR_readValue 33 = .ok (.istore_n 3, 1) := by decide +kernel
theorem d_CR_readValue_34 : decode b_CR_readValue 34 = .ok (.iload_n 2, 1) := by decide +kernel
theorem d_CR_readValue_35 : decode b_CR_readValue 35 = .ok (.ifCond .ge 15, 3) := by decide +kernel
theorem d_CR_readValue_38 : decode b_CR_readValue 38 = .ok (.aload_n 0, 1) := by decide +kernel
theorem d_CR_readValue_39 : decode b_CR_readValue 39 = .ok (.iload_n 3, 1) := by decide +kernel
theorem d_CR_readValue_40 : decode b_CR_readValue 40 = .ok (.iload_n 1, 1) := by decide +kernel
theorem d_CR_readValue_41 : decode b_CR_readValue 41 = .ok (.invokestatic 74, 3) := by decide +kernel
theorem d_CR_readValue_44 : decode b_CR_readValue 44 = .ok (.invokevirtual 51, 3) := by decide +kernel
theorem d_CR_readValue_47 : decode b_CR_readValue 47 = .ok (.goto 6, 3) := by decide +kernel
theorem d_CR_readValue_50 : decode b_CR_readValue 50 = .ok (.iload_n 3, 1) := by decide +kernel
theorem d_CR_readValue_51 : decode b_CR_readValue 51 = .ok (.iload_n 2, 1) := by decide +kernel
theorem d_CR_readValue_52 : decode b_CR_readValue 52 = .ok (.iadd, 1) := by decide +kernel
theorem d_CR_readValue_53 : decode b_CR_readValue 53 = .ok (.ireturn, 1) := by decide +kernel
theorem ci_CR_readValue : jm_ci jm_G y_CR_readValue (Cond.code y_CR_readValue b_CR_readValue 4 (some FieldType.int)) 4 2 := ⟨jm_g3 56 rfl rfl, Or.inl ⟨_, _, rfl⟩, jm_g1 18 rfl rfl, ⟨by decide, by decide⟩, by decide +kernel⟩
theorem st_CR_readValue : Cond.static y_CR_readValue ∈ jm_G := jm_g3 55 rfl rfl
def y_CR_readUpper : MethodName := ⟨"JobHouse$CronReader", "readUpper", "(LJobHouse$Text;II)I"⟩
abbrev b_CR_readUpper : ByteArray := prog_3_method_8_code
theorem d_CR_readUpper_0 : decode b_CR_readUpper 0 = .ok (.aload_n 0, 1) := by decide +kernel
theorem d_CR_readUpper_1 : decode b_CR_readUpper 1 = .ok (.getfield 101, 3) := by decide +kernel
theorem d_CR_readUpper_4 : decode b_CR_readUpper 4 = .ok (.istore_n 3, 1) := by decide +kernel
theorem d_CR_readUpper_5 : decode b_CR_readUpper 5 = .ok (.aload_n 0, 1) := by decide +kernel
theorem d_CR_readUpper_6 : decode b_CR_readUpper 6 = .ok (.iload_n 1, 1) := by decide +kernel
theorem d_CR_readUpper_7 : decode b_CR_readUpper 7 = .ok (.invokestatic 77, 3) := by decide +kernel
theorem d_CR_readUpper_10 : decode b_CR_readUpper 10 = .ok (.istore 4, 2) := by decide +kernel
theorem d_CR_readUpper_12 : decode b_CR_readUpper 12 = .ok (.iload_n 1, 1) := by decide +kernel
theorem d_CR_readUpper_13 : decode b_CR_readUpper 13 = .ok (.bipush 6, 2) := by decide +kernel
theorem d_CR_readUpper_15 : decode b_CR_readUpper 15 = .ok (.if_icmp .ne 14, 3) := by decide +kernel
theorem d_CR_readUpper_18 : decode b_CR_readUpper 18 = .ok (.iload 4, 2) := by decide +kernel
theorem d_CR_readUpper_20 : decode b_CR_readUpper 20 = .ok (.iload_n 2, 1) := by decide +kernel
theorem d_CR_readUpper_21 : decode b_CR_readUpper 21 = .ok (.if_icmp .ge 8, 3) := by decide +kernel
theorem d_CR_readUpper_24 : decode b_CR_readUpper 24 = .ok (.aload_n 0, 1) := by decide +kernel
theorem d_CR_readUpper_25 : decode b_CR_readUpper 25 = .ok (.iload_n 3, 1) := by decide +kernel
theorem d_CR_readUpper_26 : decode b_CR_readUpper 26 = .ok (.invokevirtual 104, 3) := by decide +kernel
theorem d_CR_readUpper_29 : decode b_CR_readUpper 29 = .ok (.iload 4, 2) := by decide +kernel
theorem d_CR_readUpper_31 : decode b_CR_readUpper 31 = .ok (.ireturn, 1) := by decide +kernel
theorem ci_CR_readUpper : jm_ci jm_G y_CR_readUpper (Cond.code y_CR_readUpper b_CR_readUpper 5 (some FieldType.int)) 5 3 := ⟨jm_g3 118 rfl rfl, Or.inl ⟨_, _, rfl⟩, jm_g1 18 rfl rfl, ⟨by decide, by decide⟩, by decide +kernel⟩
theorem st_CR_readUpper : Cond.static y_CR_readUpper ∈ jm_G := jm_g3 117 rfl rfl
def y_CR_takeSign : MethodName := ⟨"JobHouse$CronReader", "takeSign", "(LJobHouse$Text;LJobHouse$Cron;II)Z"⟩
abbrev b_CR_takeSign : ByteArray := prog_3_method_9_code
theorem d_CR_takeSign_0 : decode b_CR_takeSign 0 = .ok (.iload_n 2, 1) := by decide +kernel
theorem d_CR_takeSign_1 : decode b_CR_takeSign 1 = .ok (.iconst 3, 1) := by decide +kernel
theorem d_CR_takeSign_2 : decode b_CR_takeSign 2 = .ok (.if_icmp .ne 20, 3) := by decide +kernel
theorem d_CR_takeSign_5 : decode b_CR_takeSign 5 = .ok (.aload_n 0, 1) := by decide +kernel
theorem d_CR_takeSign_6 : decode b_CR_takeSign 6 = .ok (.bipush 87, 2) := by decide +kernel
theorem d_CR_takeSign_8 : decode b_CR_takeSign 8 = .ok (.invokevirtual 43, 3) := by decide +kernel
theorem d_CR_takeSign_11 : decode b_CR_takeSign 11 = .ok (.ifCond .eq 11, 3) := by decide +kernel
theorem d_CR_takeSign_14 : decode b_CR_takeSign 14 = .ok (.aload_n 1, 1) := by decide +kernel
theorem d_CR_takeSign_15 : decode b_CR_takeSign 15 = .ok (.iconst 4, 1) := by decide +kernel
theorem d_CR_takeSign_16 : decode b_CR_takeSign 16 = .ok (.putfield 47, 3) := by decide +kernel
theorem d_CR_takeSign_19 : decode b_CR_takeSign 19 = .ok (.goto 60, 3) := by decide +kernel
theorem d_CR_takeSign_22 : decode b_CR_takeSign 22 = .ok (.iload_n 2, 1) := by decide +kernel
theorem d_CR_takeSign_23 : decode b_CR_takeSign 23 = .ok (.iconst 5, 1) := by decide +kernel
theorem d_CR_takeSign_24 : decode b_CR_takeSign 24 = .ok (.if_icmp .ne 20, 3) := by decide +kernel
theorem d_CR_takeSign_27 : decode b_CR_takeSign 27 = .ok (.aload_n 0, 1) := by decide +kernel
theorem d_CR_takeSign_28 : decode b_CR_takeSign 28 = .ok (.bipush 76, 2) := by decide +kernel
theorem d_CR_takeSign_30 : decode b_CR_takeSign 30 = .ok (.invokevirtual 43, 3) := by decide +kernel
theorem d_CR_takeSign_33 : decode b_CR_takeSign 33 = .ok (.ifCond .eq 11, 3) := by decide +kernel
theorem d_CR_takeSign_36 : decode b_CR_takeSign 36 = .ok (.aload_n 1, 1) := by decide +kernel
theorem d_CR_takeSign_37 : decode b_CR_takeSign 37 = .ok (.iconst 5, 1) := by decide +kernel
theorem d_CR_takeSign_38 : decode b_CR_takeSign 38 = .ok (.putfield 47, 3) := by decide +kernel
theorem d_CR_takeSign_41 : decode b_CR_takeSign 41 = .ok (.goto 38, 3) := by decide +kernel
theorem d_CR_takeSign_44 : decode b_CR_takeSign 44 = .ok (.iload_n 2, 1) := by decide +kernel
theorem d_CR_takeSign_45 : decode b_CR_takeSign 45 = .ok (.iconst 5, 1) := by decide +kernel
theorem d_CR_takeSign_46 : decode b_CR_takeSign 46 = .ok (.if_icmp .ne 31, 3) := by decide +kernel
theorem d_CR_takeSign_49 : decode b_CR_takeSign 49 = .ok (.aload_n 0, 1) := by decide +kernel
theorem d_CR_takeSign_50 : decode b_CR_takeSign 50 = .ok (.bipush 35, 2) := by decide +kernel
theorem d_CR_takeSign_52 : decode b_CR_takeSign 52 = .ok (.invokevirtual 43, 3) := by decide +kernel
theorem d_CR_takeSign_55 : decode b_CR_takeSign 55 = .ok (.ifCond .eq 22, 3) := by decide +kernel
theorem d_CR_takeSign_58 : decode b_CR_takeSign 58 = .ok (.aload_n 1, 1) := by decide +kernel
theorem d_CR_takeSign_59 : decode b_CR_takeSign 59 = .ok (.bipush 6, 2) := by decide +kernel
theorem d_CR_takeSign_61 : decode b_CR_takeSign 61 = .ok (.putfield 47, 3) := by decide +kernel
theorem d_CR_takeSign_64 : decode b_CR_takeSign 64 = .ok (.aload_n 1, 1) := by decide +kernel
theorem d_CR_takeSign_65 : decode b_CR_takeSign 65 = .ok (.aload_n 0, 1) := by decide +kernel
theorem d_CR_takeSign_66 : decode b_CR_takeSign 66 = .ok (.iconst 1, 1) := by decide +kernel
theorem d_CR_takeSign_67 : decode b_CR_takeSign 67 = .ok (.iconst 5, 1) := by decide +kernel
theorem d_CR_takeSign_68 : decode b_CR_takeSign 68 = .ok (.invokevirtual 51, 3) := by decide +kernel
theorem d_CR_takeSign_71 : decode b_CR_takeSign 71 = .ok (.putfield 55, 3) := by decide +kernel
theorem d_CR_takeSign_74 : decode b_CR_takeSign 74 = .ok (.goto 5, 3) := by decide +kernel
theorem d_CR_takeSign_77 : decode b_CR_takeSign 77 = .ok (.iconst 0, 1) := by decide +kernel
theorem d_CR_takeSign_78 : decode b_CR_takeSign 78 = .ok (.ireturn, 1) := by decide +kernel
theorem d_CR_takeSign_79 : decode b_CR_takeSign 79 = .ok (.aload_n 1, 1) := by decide +kernel
theorem d_CR_takeSign_80 : decode b_CR_takeSign 80 = .ok (.iload_n 3, 1) := by decide +kernel
theorem d_CR_takeSign_81 : decode b_CR_takeSign 81 = .ok (.putfield 107, 3) := by decide +kernel
theorem d_CR_takeSign_84 : decode b_CR_takeSign 84 = .ok (.iconst 1, 1) := by decide +kernel
theorem d_CR_takeSign_85 : decode b_CR_takeSign 85 = .ok (.ireturn, 1) := by decide +kernel
theorem ci_CR_takeSign : jm_ci jm_G y_CR_takeSign (Cond.code y_CR_takeSign b_CR_takeSign 4 (some FieldType.boolean)) 4 4 := ⟨jm_g3 114 rfl rfl, Or.inl ⟨_, _, rfl⟩, jm_g1 18 rfl rfl, ⟨by decide, by decide⟩, by decide +kernel⟩
theorem st_CR_takeSign : Cond.static y_CR_takeSign ∈ jm_G := jm_g3 113 rfl rfl
def y_CR_addSome : MethodName := ⟨"JobHouse$CronReader", "addSome", "(LJobHouse$Cron;IIII)V"⟩
abbrev b_CR_addSome : ByteArray := prog_3_method_10_code
theorem d_CR_addSome_0 : decode b_CR_addSome 0 = .ok (.iload_n 1, 1) := by decide +kernel
theorem d_CR_addSome_1 : decode b_CR_addSome 1 = .ok (.invokestatic 70, 3) := by decide +kernel
theorem d_CR_addSome_4 : decode b_CR_addSome 4 = .ok (.istore 5, 2) := by decide +kernel
theorem d_CR_addSome_6 : decode b_CR_addSome 6 = .ok (.iload_n 1, 1) := by decide +kernel
theorem d_CR_addSome_7 : decode b_CR_addSome 7 = .ok (.invokestatic 74, 3) := by decide +kernel
theorem d_CR_addSome_10 : decode b_CR_addSome 10 = .ok (.istore 6, 2) := by decide +kernel
theorem d_CR_addSome_12 : decode b_CR_addSome 12 = .ok (.iload 6, 2) := by decide +kernel
theorem d_CR_addSome_14 : decode b_CR_addSome 14 = .ok (.iload 5, 2) := by decide +kernel
theorem d_CR_addSome_16 : decode b_CR_addSome 16 = .ok (.isub, 1) := by decide +kernel
theorem d_CR_addSome_17 : decode b_CR_addSome 17 = .ok (.iconst 1, 1) := by decide +kernel
theorem d_CR_addSome_18 : decode b_CR_addSome 18 = .ok (.iadd, 1) := by decide +kernel
theorem d_CR_addSome_19 : decode b_CR_addSome 19 = .ok (.istore 7, 2) := by decide +kernel
theorem d_CR_addSome_21 : decode b_CR_addSome 21 = .ok (.iload_n 3, 1) := by decide +kernel
theorem d_CR_addSome_22 : decode b_CR_addSome 22 = .ok (.iload_n 2, 1) := by decide +kernel
theorem d_CR_addSome_23 : decode b_CR_addSome 23 = .ok (.if_icmp .ge 12, 3) := by decide +kernel
theorem d_CR_addSome_26 : decode b_CR_addSome 26 = .ok (.iload_n 3, 1) := by decide +kernel
theorem d_CR_addSome_27 : decode b_CR_addSome 27 = .ok (.iload_n 2, 1) := by decide +kernel
theorem d_CR_addSome_28 : decode b_CR_addSome 28 = .ok (.isub, 1) := by decide +kernel
theorem d_CR_addSome_29 : decode b_CR_addSome 29 = .ok (.iload 7, 2) := by decide +kernel
theorem d_CR_addSome_31 : decode b_CR_addSome 31 = .ok (.iadd, 1) := by decide +kernel
theorem d_CR_addSome_32 : decode b_CR_addSome 32 = .ok (.goto 6, 3) := by decide +kernel
theorem d_CR_addSome_35 : decode b_CR_addSome 35 = .ok (.iload_n 3, 1) := by decide +kernel
theorem d_CR_addSome_36 : decode b_CR_addSome 36 = .ok (.iload_n 2, 1) := by decide +kernel
theorem d_CR_addSome_37 : decode b_CR_addSome 37 = .ok (.isub, 1) := by decide +kernel
theorem d_CR_addSome_38 : decode b_CR_addSome 38 = .ok (.istore 8, 2) := by decide +kernel
theorem d_CR_addSome_40 : decode b_CR_addSome 40 = .ok (.iconst 0, 1) := by decide +kernel
theorem d_CR_addSome_41 : decode b_CR_addSome 41 = .ok (.istore 9, 2) := by decide +kernel
theorem d_CR_addSome_43 : decode b_CR_addSome 43 = .ok (.iload 9, 2) := by decide +kernel
theorem d_CR_addSome_45 : decode b_CR_addSome 45 = .ok (.iload 8, 2) := by decide +kernel
theorem d_CR_addSome_47 : decode b_CR_addSome 47 = .ok (.if_icmp .gt 45, 3) := by decide +kernel
theorem d_CR_addSome_50 : decode b_CR_addSome 50 = .ok (.iload_n 2, 1) := by decide +kernel
theorem d_CR_addSome_51 : decode b_CR_addSome 51 = .ok (.iload 9, 2) := by decide +kernel
theorem d_CR_addSome_53 : decode b_CR_addSome 53 = .ok (.iadd, 1) := by decide +kernel
theorem d_CR_addSome_54 : decode b_CR_addSome 54 = .ok (.istore 10, 2) := by decide +kernel
theorem d_CR_addSome_56 : decode b_CR_addSome 56 = .ok (.aload_n 0, 1) := by decide +kernel
theorem d_CR_addSome_57 : decode b_CR_addSome 57 = .ok (.iload_n 1, 1) := by decide +kernel
theorem d_CR_addSome_58 : decode b_CR_addSome 58 = .ok (.iload 10, 2) := by decide +kernel
theorem d_CR_addSome_60 : decode b_CR_addSome 60 = .ok (.iload 6, 2) := by decide +kernel
theorem d_CR_addSome_62 : decode b_CR_addSome 62 = .ok (.if_icmp .le 11, 3) := by decide +kernel
theorem d_CR_addSome_65 : decode b_CR_addSome 65 = .ok (.iload 10, 2) := by decide +kernel
theorem d_CR_addSome_67 : decode b_CR_addSome 67 = .ok (.iload 7, 2) := by decide +kernel
theorem d_CR_addSome_69 : decode b_CR_addSome 69 = .ok (.isub, 1) := by decide +kernel
theorem d_CR_addSome_70 : decode b_CR_addSome 70 = .ok (.goto 5, 3) := by decide +kernel
theorem d_CR_addSome_73 : decode b_CR_addSome 73 = .ok (.iload 10, 2) := by decide +kernel
theorem d_CR_addSome_75 : decode b_CR_addSome 75 = .ok (.invokevirtual 62, 3) := by decide +kernel
theorem d_CR_addSome_78 : decode b_CR_addSome 78 = .ok (.iload 9, 2) := by decide +kernel
theorem d_CR_addSome_80 : decode b_CR_addSome 80 = .ok (.iload 4, 2) := by decide +kernel
theorem d_CR_addSome_82 : decode b_CR_addSome 82 = .ok (.iconst 1, 1) := by decide +kernel
theorem d_CR_addSome_83 : decode b_CR_addSome 83 = .ok (.invokestatic 110, 3) := by decide +kernel
theorem d_CR_addSome_86 : decode b_CR_addSome 86 = .ok (.iadd, 1) := by decide +kernel
theorem d_CR_addSome_87 : decode b_CR_addSome 87 = .ok (.istore 9, 2) := by decide +kernel
theorem d_CR_addSome_89 : decode b_CR_addSome 89 = .ok (.goto (-46), 3) := by decide +kernel
theorem d_CR_addSome_92 : decode b_CR_addSome 92 = .ok (.return_, 1) := by decide +kernel
theorem ci_CR_addSome : jm_ci jm_G y_CR_addSome (Cond.code y_CR_addSome b_CR_addSome 11 (none)) 11 5 := ⟨jm_g3 122 rfl rfl, Or.inl ⟨_, _, rfl⟩, jm_g1 18 rfl rfl, ⟨by decide, by decide⟩, by decide +kernel⟩
theorem st_CR_addSome : Cond.static y_CR_addSome ∈ jm_G := jm_g3 121 rfl rfl
end
section
theorem fs_CR_47 : jm_fs jm_cl jm_G "JobHouse$CronReader" 47 4 1 (.int) false := ⟨_, jn_T4, 4, jn_y4, rfl, by decide, jn_i4, jn_o4, jn_n4, rfl, rfl, by decide +kernel, Or.inr ⟨_, jm_g1 92 rfl rfl⟩⟩
theorem fs_CR_55 : jm_fs jm_cl jm_G "JobHouse$CronReader" 55 4 3 (.int) false := ⟨_, jn_T4, 4, jn_y4, rfl, by decide, jn_i4, jn_o4, jn_n4, rfl, rfl, by decide +kernel, Or.inr ⟨_, jm_g1 96 rfl rfl⟩⟩
theorem fs_CR_107 : jm_fs jm_cl jm_G "JobHouse$CronReader" 107 4 2 (.int) false := ⟨_, jn_T4, 4, jn_y4, rfl, by decide, jn_i4, jn_o4, jn_n4, rfl, rfl, by decide +kernel, Or.inr ⟨_, jm_g1 95 rfl rfl⟩⟩
theorem jm_F_num {lo hi len at_ br : Int32} {f : Nat → Int32} {v22 : Int32} : ∀ (n : Nat) (x nu : Int32), 0 ≤ x → 0 ≤ (F_T_number_24 lo hi len at_ br f v22 n x nu).2.1 := by
  intro n
  induction n with
  | zero => intro x nu _; simp only [F_T_number_24]; exact Int32.le_refl 0
  | succ n ih =>
    intro x nu hx
    simp only [F_T_number_24]
    by_cases c1 : len ≤ x
    · simp only [if_pos c1]; exact hx
    · simp only [if_neg c1]
      have hn := jm_inc0 hx (jm_nl c1)
      by_cases c2 : f_T_isDigit (f_T_peek len x br f) = 0
      · simp only [if_pos c2]; exact hx
      · simp only [if_neg c2]
        by_cases c3 : v22 = 0
        · simp only [if_pos c3]; exact ih _ _ hn
        · simp only [if_neg c3]
          by_cases c4 : at_ < x
          · simp only [if_pos c4]; exact hx
          · simp only [if_neg c4]; exact ih _ _ hn
theorem jm_num_at {lo hi len at_ br : Int32} {f : Nat → Int32} (p1 : 0 ≤ at_) : 0 ≤ f_T_number_a_2 lo hi len at_ br f := jm_F_num _ _ _ p1
theorem jm_F_bl {len at_ br : Int32} {f : Nat → Int32} : ∀ (n : Nat) (x : Int32), 0 ≤ x → 0 ≤ (F_T_requireBlanks_6 len at_ br f n x).1 := by
  intro n
  induction n with
  | zero => intro x _; simp only [F_T_requireBlanks_6]; exact Int32.le_refl 0
  | succ n ih =>
    intro x hx
    simp only [F_T_requireBlanks_6]
    by_cases c1 : len ≤ x
    · simp only [if_pos c1]; exact hx
    · simp only [if_neg c1]
      have hn := jm_inc0 hx (jm_nl c1)
      by_cases c2 : f x.toNatClampNeg = 32
      · simp only [if_pos c2]; exact ih _ hn
      · simp only [if_neg c2]; exact hx
theorem jm_bl_at {len at_ br : Int32} {f : Nat → Int32} (p1 : 0 ≤ at_) : 0 ≤ f_T_requireBlanks_a_2 len at_ br f := jm_F_bl _ _ (jm_req_at (by decide) p1)
def f_Y_readFrom_b_0 (mo : Int32) (wk : Int32) (wd : Int32) (mi : Int32) (len : Int32) (at_ : Int32) (br : Int32) (f : Nat → Int32) : Int32 :=
  let u11 : Int32 := f_T_number 1 12 len (f_T_require_a_2 77 len at_ br f) (f_T_require_a_3 77 len at_ br f) f
  u11
def f_Y_readFrom_b_1 (mo : Int32) (wk : Int32) (wd : Int32) (mi : Int32) (len : Int32) (at_ : Int32) (br : Int32) (f : Nat → Int32) : Int32 :=
  let u11x : Int32 := f_T_number_a_2 1 12 len (f_T_require_a_2 77 len at_ br f) (f_T_require_a_3 77 len at_ br f) f
  let u11xx : Int32 := f_T_number_a_3 1 12 len (f_T_require_a_2 77 len at_ br f) (f_T_require_a_3 77 len at_ br f) f
  let u27 : Int32 := f_T_number 1 5 len (f_T_require_a_2 46 len u11x u11xx f) (f_T_require_a_3 46 len u11x u11xx f) f
  u27
def f_Y_readFrom_b_2 (mo : Int32) (wk : Int32) (wd : Int32) (mi : Int32) (len : Int32) (at_ : Int32) (br : Int32) (f : Nat → Int32) : Int32 :=
  let u11x : Int32 := f_T_number_a_2 1 12 len (f_T_require_a_2 77 len at_ br f) (f_T_require_a_3 77 len at_ br f) f
  let u11xx : Int32 := f_T_number_a_3 1 12 len (f_T_require_a_2 77 len at_ br f) (f_T_require_a_3 77 len at_ br f) f
  let u27x : Int32 := f_T_number_a_2 1 5 len (f_T_require_a_2 46 len u11x u11xx f) (f_T_require_a_3 46 len u11x u11xx f) f
  let u27xx : Int32 := f_T_number_a_3 1 5 len (f_T_require_a_2 46 len u11x u11xx f) (f_T_require_a_3 46 len u11x u11xx f) f
  let u44 : Int32 := f_T_number 0 6 len (f_T_require_a_2 46 len u27x u27xx f) (f_T_require_a_3 46 len u27x u27xx f) f
  u44
def f_Y_readFrom_b_3 (mo : Int32) (wk : Int32) (wd : Int32) (mi : Int32) (len : Int32) (at_ : Int32) (br : Int32) (f : Nat → Int32) : Int32 :=
  let u11x : Int32 := f_T_number_a_2 1 12 len (f_T_require_a_2 77 len at_ br f) (f_T_require_a_3 77 len at_ br f) f
  let u11xx : Int32 := f_T_number_a_3 1 12 len (f_T_require_a_2 77 len at_ br f) (f_T_require_a_3 77 len at_ br f) f
  let u27x : Int32 := f_T_number_a_2 1 5 len (f_T_require_a_2 46 len u11x u11xx f) (f_T_require_a_3 46 len u11x u11xx f) f
  let u27xx : Int32 := f_T_number_a_3 1 5 len (f_T_require_a_2 46 len u11x u11xx f) (f_T_require_a_3 46 len u11x u11xx f) f
  let u44x : Int32 := f_T_number_a_2 0 6 len (f_T_require_a_2 46 len u27x u27xx f) (f_T_require_a_3 46 len u27x u27xx f) f
  let u44xx : Int32 := f_T_number_a_3 0 6 len (f_T_require_a_2 46 len u27x u27xx f) (f_T_require_a_3 46 len u27x u27xx f) f
  let u62 : Int32 := f_T_number 0 1439 len (f_T_require_a_2 47 len u44x u44xx f) (f_T_require_a_3 47 len u44x u44xx f) f
  u62
def f_Y_readFrom_a_2 (mo : Int32) (wk : Int32) (wd : Int32) (mi : Int32) (len : Int32) (at_ : Int32) (br : Int32) (f : Nat → Int32) : Int32 :=
  let u11x : Int32 := f_T_number_a_2 1 12 len (f_T_require_a_2 77 len at_ br f) (f_T_require_a_3 77 len at_ br f) f
  let u11xx : Int32 := f_T_number_a_3 1 12 len (f_T_require_a_2 77 len at_ br f) (f_T_require_a_3 77 len at_ br f) f
  let u27x : Int32 := f_T_number_a_2 1 5 len (f_T_require_a_2 46 len u11x u11xx f) (f_T_require_a_3 46 len u11x u11xx f) f
  let u27xx : Int32 := f_T_number_a_3 1 5 len (f_T_require_a_2 46 len u11x u11xx f) (f_T_require_a_3 46 len u11x u11xx f) f
  let u44x : Int32 := f_T_number_a_2 0 6 len (f_T_require_a_2 46 len u27x u27xx f) (f_T_require_a_3 46 len u27x u27xx f) f
  let u44xx : Int32 := f_T_number_a_3 0 6 len (f_T_require_a_2 46 len u27x u27xx f) (f_T_require_a_3 46 len u27x u27xx f) f
  let u62x : Int32 := f_T_number_a_2 0 1439 len (f_T_require_a_2 47 len u44x u44xx f) (f_T_require_a_3 47 len u44x u44xx f) f
  u62x
def f_Y_readFrom_a_3 (mo : Int32) (wk : Int32) (wd : Int32) (mi : Int32) (len : Int32) (at_ : Int32) (br : Int32) (f : Nat → Int32) : Int32 :=
  let u11x : Int32 := f_T_number_a_2 1 12 len (f_T_require_a_2 77 len at_ br f) (f_T_require_a_3 77 len at_ br f) f
  let u11xx : Int32 := f_T_number_a_3 1 12 len (f_T_require_a_2 77 len at_ br f) (f_T_require_a_3 77 len at_ br f) f
  let u27x : Int32 := f_T_number_a_2 1 5 len (f_T_require_a_2 46 len u11x u11xx f) (f_T_require_a_3 46 len u11x u11xx f) f
  let u27xx : Int32 := f_T_number_a_3 1 5 len (f_T_require_a_2 46 len u11x u11xx f) (f_T_require_a_3 46 len u11x u11xx f) f
  let u44x : Int32 := f_T_number_a_2 0 6 len (f_T_require_a_2 46 len u27x u27xx f) (f_T_require_a_3 46 len u27x u27xx f) f
  let u44xx : Int32 := f_T_number_a_3 0 6 len (f_T_require_a_2 46 len u27x u27xx f) (f_T_require_a_3 46 len u27x u27xx f) f
  let u62xx : Int32 := f_T_number_a_3 0 1439 len (f_T_require_a_2 47 len u44x u44xx f) (f_T_require_a_3 47 len u44x u44xx f) f
  u62xx
set_option maxRecDepth 20000 in
set_option maxHeartbeats 600000 in
theorem k_Y_readFrom {l : Launch} {S : State} {D : va_G} {dA : Nat → ClassId} (E : jm_en S D jm_cl (jm_ty dA) jm_G) (b : Nat) (a : Nat) (mo : Int32) (wk : Int32) (wd : Int32) (mi : Int32) (q : Nat) (len : Int32) (at_ : Int32) (br : Int32) (f : Nat → Int32) (h : jm_H) (h_b : h b = some (.inr (3, [.int mo, .int wk, .int wd, .int mi]))) (h_a : h a = some (.inr (1, [.ref q, .int len, .int at_, .int br]))) (h_q : h q = some (.inl (dA 0, 400, .inl f))) (hnd : ([b, a, q] : List Nat).Nodup) (p1 : 0 ≤ at_) (p2 : len ≤ 400) : jm_M l S D jm_cl y_Y_readFrom (Cond.code y_Y_readFrom b_Y_readFrom 2 (none)) { frames := 3, cells := 0, slots := 0, locals := 62 } [.ref b, .ref a] h (jm_R none (jm_us h [(b, .inr (3, [.int (f_Y_readFrom_b_0 mo wk wd mi len at_ br f), .int (f_Y_readFrom_b_1 mo wk wd mi len at_ br f), .int (f_Y_readFrom_b_2 mo wk wd mi len at_ br f), .int (f_Y_readFrom_b_3 mo wk wd mi len at_ br f)])), (a, .inr (1, [.ref q, .int len, .int (f_Y_readFrom_a_2 mo wk wd mi len at_ br f), .int (f_Y_readFrom_a_3 mo wk wd mi len at_ br f)])), (q, .inl (dA 0, 400, .inl f))])) 0 0 := by
  refine jm_ofW E (by decide) (Nat.le_of_ble_eq_true rfl) (fun p e s m below meth c X hr hk hmn hout hadm => ?_)
  have X : jm_cx p s m ([.ref b, .ref a] : List Value).toArray c S D jm_cl (jm_ty dA) jm_G b_Y_readFrom 2 "JobHouse$YearRule" := X
  have hL : ∀ zz ∈ ([(b, .inr (3, [.int mo, .int wk, .int wd, .int mi])), (a, .inr (1, [.ref q, .int len, .int at_, .int br])), (q, .inl (dA 0, 400, .inl f))] : List (Nat × va_E)), h zz.1 = some zz.2 := List.forall_mem_cons.mpr ⟨h_b, List.forall_mem_cons.mpr ⟨h_a, List.forall_mem_cons.mpr ⟨h_q, fun _ hz => absurd hz List.not_mem_nil⟩⟩⟩
  refine jm_hq (jm_us_id hL).symm ?_
  show jm_W p l e ({ frames := 3, cells := 0, slots := 0, locals := 62 }) s m ([.ref b, .ref a] : List Value).toArray below meth c S D jm_cl (jm_Q S D jm_cl below s (jm_R none (jm_us h [(b, .inr (3, [.int (f_Y_readFrom_b_0 mo wk wd mi len at_ br f), .int (f_Y_readFrom_b_1 mo wk wd mi len at_ br f), .int (f_Y_readFrom_b_2 mo wk wd mi len at_ br f), .int (f_Y_readFrom_b_3 mo wk wd mi len at_ br f)])), (a, .inr (1, [.ref q, .int len, .int (f_Y_readFrom_a_2 mo wk wd mi len at_ br f), .int (f_Y_readFrom_a_3 mo wk wd mi len at_ br f)])), (q, .inl (dA 0, 400, .inl f))])) 0 0) 2 0 [(0, .ref b), (1, .ref a)] [] (jm_us h [(b, .inr (3, [.int mo, .int wk, .int wd, .int mi])), (a, .inr (1, [.ref q, .int len, .int at_, .int br])), (q, .inl (dA 0, 400, .inl f))]) 0 0
  refine jm_aload_n X d_Y_readFrom_0 rfl 1 rfl ?_
  refine jm_bipush (v := 77) X d_Y_readFrom_1 (by decide) ?_
  refine jm_callV (rest := []) X d_Y_readFrom_3 (k_T_require E a 77 q len at_ br f (jm_us h [(b, .inr (3, [.int mo, .int wk, .int wd, .int mi])), (a, .inr (1, [.ref q, .int len, .int at_, .int br])), (q, .inl (dA 0, 400, .inl f))]) (by refine jm_us_get ?_ 1 rfl; exact hnd) (by refine jm_us_get ?_ 2 rfl; exact hnd) (by exact jm_pick hnd [1, 2] (by decide) rfl) (by first | with_reducible assumption | ( repeat first | with_reducible assumption | (with_reducible refine jm_req_at ?_ ?_) | (with_reducible refine jm_num_at ?_) | (with_reducible refine jm_bl_at ?_) | (with_reducible refine jm_take_at ?_ ?_) | decide) | decide +kernel) (by first | with_reducible assumption | ( repeat first | with_reducible assumption | (with_reducible refine jm_req_at ?_ ?_) | (with_reducible refine jm_num_at ?_) | (with_reducible refine jm_bl_at ?_) | (with_reducible refine jm_take_at ?_ ?_) | decide) | decide +kernel)) ci_T_require (Or.inl (jm_g3 0 rfl rfl)) im_T_require se_T_require (by refine jm_us_get ?_ 1 rfl; exact hnd) rfl rfl (Nat.le_of_ble_eq_true rfl) ⟨(Nat.le_of_ble_eq_true rfl), (Nat.le_of_ble_eq_true rfl)⟩ ⟨rfl, rfl⟩ ⟨(Nat.le_of_ble_eq_true rfl), (Nat.le_of_ble_eq_true rfl)⟩ (jm_k0 (jm_hq (by refine jm_into ?_ [1, 2] rfl (L1 := [(b, .inr (3, [.int mo, .int wk, .int wd, .int mi])), (a, .inr (1, [.ref q, .int len, .int (f_T_require_a_2 77 len at_ br f), .int (f_T_require_a_3 77 len at_ br f)])), (q, .inl (dA 0, 400, .inl f))]) rfl; exact hnd) ?_))
  refine jm_aload_n X d_Y_readFrom_6 rfl 0 rfl ?_
  refine jm_aload_n X d_Y_readFrom_7 rfl 1 rfl ?_
  refine jm_iconst (v := 1) X d_Y_readFrom_8 (by decide) ?_
  refine jm_bipush (v := 12) X d_Y_readFrom_9 (by decide) ?_
  refine jm_callV (rest := [.ref b]) X d_Y_readFrom_11 (k_T_number E a 1 12 q len (f_T_require_a_2 77 len at_ br f) (f_T_require_a_3 77 len at_ br f) f (jm_us h [(b, .inr (3, [.int mo, .int wk, .int wd, .int mi])), (a, .inr (1, [.ref q, .int len, .int (f_T_require_a_2 77 len at_ br f), .int (f_T_require_a_3 77 len at_ br f)])), (q, .inl (dA 0, 400, .inl f))]) (by refine jm_us_get ?_ 1 rfl; exact hnd) (by refine jm_us_get ?_ 2 rfl; exact hnd) (by exact jm_pick hnd [1, 2] (by decide) rfl) (by first | with_reducible assumption | ( repeat first | with_reducible assumption | (with_reducible refine jm_req_at ?_ ?_) | (with_reducible refine jm_num_at ?_) | (with_reducible refine jm_bl_at ?_) | (with_reducible refine jm_take_at ?_ ?_) | decide) | decide +kernel) (by first | with_reducible assumption | ( repeat first | with_reducible assumption | (with_reducible refine jm_req_at ?_ ?_) | (with_reducible refine jm_num_at ?_) | (with_reducible refine jm_bl_at ?_) | (with_reducible refine jm_take_at ?_ ?_) | decide) | decide +kernel)) ci_T_number (Or.inl (jm_g3 1 rfl rfl)) im_T_number se_T_number (by refine jm_us_get ?_ 1 rfl; exact hnd) rfl rfl (Nat.le_of_ble_eq_true rfl) ⟨(Nat.le_of_ble_eq_true rfl), (Nat.le_of_ble_eq_true rfl)⟩ ⟨rfl, rfl⟩ ⟨(Nat.le_of_ble_eq_true rfl), (Nat.le_of_ble_eq_true rfl)⟩ (jm_k1 (jm_hq (by refine jm_into ?_ [1, 2] rfl (L1 := [(b, .inr (3, [.int mo, .int wk, .int wd, .int mi])), (a, .inr (1, [.ref q, .int len, .int (f_T_number_a_2 1 12 len (f_T_require_a_2 77 len at_ br f) (f_T_require_a_3 77 len at_ br f) f), .int (f_T_number_a_3 1 12 len (f_T_require_a_2 77 len at_ br f) (f_T_require_a_3 77 len at_ br f) f)])), (q, .inl (dA 0, 400, .inl f))]) rfl; exact hnd) ?_))
  obtain ⟨u11, eu11⟩ : ∃ z_ : Int32, z_ = (f_T_number 1 12 len (f_T_require_a_2 77 len at_ br f) (f_T_require_a_3 77 len at_ br f) f) := ⟨_, rfl⟩
  rw [← eu11]
  obtain ⟨u11x, eu11x⟩ : ∃ z_ : Int32, z_ = (f_T_number_a_2 1 12 len (f_T_require_a_2 77 len at_ br f) (f_T_require_a_3 77 len at_ br f) f) := ⟨_, rfl⟩
  rw [← eu11x]
  obtain ⟨u11xx, eu11xx⟩ : ∃ z_ : Int32, z_ = (f_T_number_a_3 1 12 len (f_T_require_a_2 77 len at_ br f) (f_T_require_a_3 77 len at_ br f) f) := ⟨_, rfl⟩
  rw [← eu11xx]
  refine jm_put X d_Y_readFrom_14 fs_Y_19 (by refine jm_us_get ?_ 0 rfl; exact hnd) rfl rfl (Nat.le_of_ble_eq_true rfl) (fs1 := [.int u11, .int wk, .int wd, .int mi]) rfl (jm_hq (by refine jm_us_set ?_ 0 (L1 := [(b, .inr (3, [.int u11, .int wk, .int wd, .int mi])), (a, .inr (1, [.ref q, .int len, .int u11x, .int u11xx])), (q, .inl (dA 0, 400, .inl f))]) rfl rfl; exact hnd) ?_)
  refine jm_aload_n X d_Y_readFrom_17 rfl 1 rfl ?_
  refine jm_bipush (v := 46) X d_Y_readFrom_18 (by decide) ?_
  refine jm_callV (rest := []) X d_Y_readFrom_20 (k_T_require E a 46 q len u11x u11xx f (jm_us h [(b, .inr (3, [.int u11, .int wk, .int wd, .int mi])), (a, .inr (1, [.ref q, .int len, .int u11x, .int u11xx])), (q, .inl (dA 0, 400, .inl f))]) (by refine jm_us_get ?_ 1 rfl; exact hnd) (by refine jm_us_get ?_ 2 rfl; exact hnd) (by exact jm_pick hnd [1, 2] (by decide) rfl) (by first | with_reducible assumption | (subst eu11xx; subst eu11x; subst eu11;  repeat first | with_reducible assumption | (with_reducible refine jm_req_at ?_ ?_) | (with_reducible refine jm_num_at ?_) | (with_reducible refine jm_bl_at ?_) | (with_reducible refine jm_take_at ?_ ?_) | decide) | decide +kernel) (by first | with_reducible assumption | (subst eu11xx; subst eu11x; subst eu11;  repeat first | with_reducible assumption | (with_reducible refine jm_req_at ?_ ?_) | (with_reducible refine jm_num_at ?_) | (with_reducible refine jm_bl_at ?_) | (with_reducible refine jm_take_at ?_ ?_) | decide) | decide +kernel)) ci_T_require (Or.inl (jm_g3 0 rfl rfl)) im_T_require se_T_require (by refine jm_us_get ?_ 1 rfl; exact hnd) rfl rfl (Nat.le_of_ble_eq_true rfl) ⟨(Nat.le_of_ble_eq_true rfl), (Nat.le_of_ble_eq_true rfl)⟩ ⟨rfl, rfl⟩ ⟨(Nat.le_of_ble_eq_true rfl), (Nat.le_of_ble_eq_true rfl)⟩ (jm_k0 (jm_hq (by refine jm_into ?_ [1, 2] rfl (L1 := [(b, .inr (3, [.int u11, .int wk, .int wd, .int mi])), (a, .inr (1, [.ref q, .int len, .int (f_T_require_a_2 46 len u11x u11xx f), .int (f_T_require_a_3 46 len u11x u11xx f)])), (q, .inl (dA 0, 400, .inl f))]) rfl; exact hnd) ?_))
  refine jm_aload_n X d_Y_readFrom_23 rfl 0 rfl ?_
  refine jm_aload_n X d_Y_readFrom_24 rfl 1 rfl ?_
  refine jm_iconst (v := 1) X d_Y_readFrom_25 (by decide) ?_
  refine jm_iconst (v := 5) X d_Y_readFrom_26 (by decide) ?_
  refine jm_callV (rest := [.ref b]) X d_Y_readFrom_27 (k_T_number E a 1 5 q len (f_T_require_a_2 46 len u11x u11xx f) (f_T_require_a_3 46 len u11x u11xx f) f (jm_us h [(b, .inr (3, [.int u11, .int wk, .int wd, .int mi])), (a, .inr (1, [.ref q, .int len, .int (f_T_require_a_2 46 len u11x u11xx f), .int (f_T_require_a_3 46 len u11x u11xx f)])), (q, .inl (dA 0, 400, .inl f))]) (by refine jm_us_get ?_ 1 rfl; exact hnd) (by refine jm_us_get ?_ 2 rfl; exact hnd) (by exact jm_pick hnd [1, 2] (by decide) rfl) (by first | with_reducible assumption | (subst eu11xx; subst eu11x; subst eu11;  repeat first | with_reducible assumption | (with_reducible refine jm_req_at ?_ ?_) | (with_reducible refine jm_num_at ?_) | (with_reducible refine jm_bl_at ?_) | (with_reducible refine jm_take_at ?_ ?_) | decide) | decide +kernel) (by first | with_reducible assumption | (subst eu11xx; subst eu11x; subst eu11;  repeat first | with_reducible assumption | (with_reducible refine jm_req_at ?_ ?_) | (with_reducible refine jm_num_at ?_) | (with_reducible refine jm_bl_at ?_) | (with_reducible refine jm_take_at ?_ ?_) | decide) | decide +kernel)) ci_T_number (Or.inl (jm_g3 1 rfl rfl)) im_T_number se_T_number (by refine jm_us_get ?_ 1 rfl; exact hnd) rfl rfl (Nat.le_of_ble_eq_true rfl) ⟨(Nat.le_of_ble_eq_true rfl), (Nat.le_of_ble_eq_true rfl)⟩ ⟨rfl, rfl⟩ ⟨(Nat.le_of_ble_eq_true rfl), (Nat.le_of_ble_eq_true rfl)⟩ (jm_k1 (jm_hq (by refine jm_into ?_ [1, 2] rfl (L1 := [(b, .inr (3, [.int u11, .int wk, .int wd, .int mi])), (a, .inr (1, [.ref q, .int len, .int (f_T_number_a_2 1 5 len (f_T_require_a_2 46 len u11x u11xx f) (f_T_require_a_3 46 len u11x u11xx f) f), .int (f_T_number_a_3 1 5 len (f_T_require_a_2 46 len u11x u11xx f) (f_T_require_a_3 46 len u11x u11xx f) f)])), (q, .inl (dA 0, 400, .inl f))]) rfl; exact hnd) ?_))
  obtain ⟨u27, eu27⟩ : ∃ z_ : Int32, z_ = (f_T_number 1 5 len (f_T_require_a_2 46 len u11x u11xx f) (f_T_require_a_3 46 len u11x u11xx f) f) := ⟨_, rfl⟩
  rw [← eu27]
  obtain ⟨u27x, eu27x⟩ : ∃ z_ : Int32, z_ = (f_T_number_a_2 1 5 len (f_T_require_a_2 46 len u11x u11xx f) (f_T_require_a_3 46 len u11x u11xx f) f) := ⟨_, rfl⟩
  rw [← eu27x]
  obtain ⟨u27xx, eu27xx⟩ : ∃ z_ : Int32, z_ = (f_T_number_a_3 1 5 len (f_T_require_a_2 46 len u11x u11xx f) (f_T_require_a_3 46 len u11x u11xx f) f) := ⟨_, rfl⟩
  rw [← eu27xx]
  refine jm_put X d_Y_readFrom_30 fs_Y_25 (by refine jm_us_get ?_ 0 rfl; exact hnd) rfl rfl (Nat.le_of_ble_eq_true rfl) (fs1 := [.int u11, .int u27, .int wd, .int mi]) rfl (jm_hq (by refine jm_us_set ?_ 0 (L1 := [(b, .inr (3, [.int u11, .int u27, .int wd, .int mi])), (a, .inr (1, [.ref q, .int len, .int u27x, .int u27xx])), (q, .inl (dA 0, 400, .inl f))]) rfl rfl; exact hnd) ?_)
  refine jm_aload_n X d_Y_readFrom_33 rfl 1 rfl ?_
  refine jm_bipush (v := 46) X d_Y_readFrom_34 (by decide) ?_
  refine jm_callV (rest := []) X d_Y_readFrom_36 (k_T_require E a 46 q len u27x u27xx f (jm_us h [(b, .inr (3, [.int u11, .int u27, .int wd, .int mi])), (a, .inr (1, [.ref q, .int len, .int u27x, .int u27xx])), (q, .inl (dA 0, 400, .inl f))]) (by refine jm_us_get ?_ 1 rfl; exact hnd) (by refine jm_us_get ?_ 2 rfl; exact hnd) (by exact jm_pick hnd [1, 2] (by decide) rfl) (by first | with_reducible assumption | (subst eu27xx; subst eu27x; subst eu27; subst eu11xx; subst eu11x; subst eu11;  repeat first | with_reducible assumption | (with_reducible refine jm_req_at ?_ ?_) | (with_reducible refine jm_num_at ?_) | (with_reducible refine jm_bl_at ?_) | (with_reducible refine jm_take_at ?_ ?_) | decide) | decide +kernel) (by first | with_reducible assumption | (subst eu27xx; subst eu27x; subst eu27; subst eu11xx; subst eu11x; subst eu11;  repeat first | with_reducible assumption | (with_reducible refine jm_req_at ?_ ?_) | (with_reducible refine jm_num_at ?_) | (with_reducible refine jm_bl_at ?_) | (with_reducible refine jm_take_at ?_ ?_) | decide) | decide +kernel)) ci_T_require (Or.inl (jm_g3 0 rfl rfl)) im_T_require se_T_require (by refine jm_us_get ?_ 1 rfl; exact hnd) rfl rfl (Nat.le_of_ble_eq_true rfl) ⟨(Nat.le_of_ble_eq_true rfl), (Nat.le_of_ble_eq_true rfl)⟩ ⟨rfl, rfl⟩ ⟨(Nat.le_of_ble_eq_true rfl), (Nat.le_of_ble_eq_true rfl)⟩ (jm_k0 (jm_hq (by refine jm_into ?_ [1, 2] rfl (L1 := [(b, .inr (3, [.int u11, .int u27, .int wd, .int mi])), (a, .inr (1, [.ref q, .int len, .int (f_T_require_a_2 46 len u27x u27xx f), .int (f_T_require_a_3 46 len u27x u27xx f)])), (q, .inl (dA 0, 400, .inl f))]) rfl; exact hnd) ?_))
  refine jm_aload_n X d_Y_readFrom_39 rfl 0 rfl ?_
  refine jm_aload_n X d_Y_readFrom_40 rfl 1 rfl ?_
  refine jm_iconst (v := 0) X d_Y_readFrom_41 (by decide) ?_
  refine jm_bipush (v := 6) X d_Y_readFrom_42 (by decide) ?_
  refine jm_callV (rest := [.ref b]) X d_Y_readFrom_44 (k_T_number E a 0 6 q len (f_T_require_a_2 46 len u27x u27xx f) (f_T_require_a_3 46 len u27x u27xx f) f (jm_us h [(b, .inr (3, [.int u11, .int u27, .int wd, .int mi])), (a, .inr (1, [.ref q, .int len, .int (f_T_require_a_2 46 len u27x u27xx f), .int (f_T_require_a_3 46 len u27x u27xx f)])), (q, .inl (dA 0, 400, .inl f))]) (by refine jm_us_get ?_ 1 rfl; exact hnd) (by refine jm_us_get ?_ 2 rfl; exact hnd) (by exact jm_pick hnd [1, 2] (by decide) rfl) (by first | with_reducible assumption | (subst eu27xx; subst eu27x; subst eu27; subst eu11xx; subst eu11x; subst eu11;  repeat first | with_reducible assumption | (with_reducible refine jm_req_at ?_ ?_) | (with_reducible refine jm_num_at ?_) | (with_reducible refine jm_bl_at ?_) | (with_reducible refine jm_take_at ?_ ?_) | decide) | decide +kernel) (by first | with_reducible assumption | (subst eu27xx; subst eu27x; subst eu27; subst eu11xx; subst eu11x; subst eu11;  repeat first | with_reducible assumption | (with_reducible refine jm_req_at ?_ ?_) | (with_reducible refine jm_num_at ?_) | (with_reducible refine jm_bl_at ?_) | (with_reducible refine jm_take_at ?_ ?_) | decide) | decide +kernel)) ci_T_number (Or.inl (jm_g3 1 rfl rfl)) im_T_number se_T_number (by refine jm_us_get ?_ 1 rfl; exact hnd) rfl rfl (Nat.le_of_ble_eq_true rfl) ⟨(Nat.le_of_ble_eq_true rfl), (Nat.le_of_ble_eq_true rfl)⟩ ⟨rfl, rfl⟩ ⟨(Nat.le_of_ble_eq_true rfl), (Nat.le_of_ble_eq_true rfl)⟩ (jm_k1 (jm_hq (by refine jm_into ?_ [1, 2] rfl (L1 := [(b, .inr (3, [.int u11, .int u27, .int wd, .int mi])), (a, .inr (1, [.ref q, .int len, .int (f_T_number_a_2 0 6 len (f_T_require_a_2 46 len u27x u27xx f) (f_T_require_a_3 46 len u27x u27xx f) f), .int (f_T_number_a_3 0 6 len (f_T_require_a_2 46 len u27x u27xx f) (f_T_require_a_3 46 len u27x u27xx f) f)])), (q, .inl (dA 0, 400, .inl f))]) rfl; exact hnd) ?_))
  obtain ⟨u44, eu44⟩ : ∃ z_ : Int32, z_ = (f_T_number 0 6 len (f_T_require_a_2 46 len u27x u27xx f) (f_T_require_a_3 46 len u27x u27xx f) f) := ⟨_, rfl⟩
  rw [← eu44]
  obtain ⟨u44x, eu44x⟩ : ∃ z_ : Int32, z_ = (f_T_number_a_2 0 6 len (f_T_require_a_2 46 len u27x u27xx f) (f_T_require_a_3 46 len u27x u27xx f) f) := ⟨_, rfl⟩
  rw [← eu44x]
  obtain ⟨u44xx, eu44xx⟩ : ∃ z_ : Int32, z_ = (f_T_number_a_3 0 6 len (f_T_require_a_2 46 len u27x u27xx f) (f_T_require_a_3 46 len u27x u27xx f) f) := ⟨_, rfl⟩
  rw [← eu44xx]
  refine jm_put X d_Y_readFrom_47 fs_Y_28 (by refine jm_us_get ?_ 0 rfl; exact hnd) rfl rfl (Nat.le_of_ble_eq_true rfl) (fs1 := [.int u11, .int u27, .int u44, .int mi]) rfl (jm_hq (by refine jm_us_set ?_ 0 (L1 := [(b, .inr (3, [.int u11, .int u27, .int u44, .int mi])), (a, .inr (1, [.ref q, .int len, .int u44x, .int u44xx])), (q, .inl (dA 0, 400, .inl f))]) rfl rfl; exact hnd) ?_)
  refine jm_aload_n X d_Y_readFrom_50 rfl 1 rfl ?_
  refine jm_bipush (v := 47) X d_Y_readFrom_51 (by decide) ?_
  refine jm_callV (rest := []) X d_Y_readFrom_53 (k_T_require E a 47 q len u44x u44xx f (jm_us h [(b, .inr (3, [.int u11, .int u27, .int u44, .int mi])), (a, .inr (1, [.ref q, .int len, .int u44x, .int u44xx])), (q, .inl (dA 0, 400, .inl f))]) (by refine jm_us_get ?_ 1 rfl; exact hnd) (by refine jm_us_get ?_ 2 rfl; exact hnd) (by exact jm_pick hnd [1, 2] (by decide) rfl) (by first | with_reducible assumption | (subst eu44xx; subst eu44x; subst eu44; subst eu27xx; subst eu27x; subst eu27; subst eu11xx; subst eu11x; subst eu11;  repeat first | with_reducible assumption | (with_reducible refine jm_req_at ?_ ?_) | (with_reducible refine jm_num_at ?_) | (with_reducible refine jm_bl_at ?_) | (with_reducible refine jm_take_at ?_ ?_) | decide) | decide +kernel) (by first | with_reducible assumption | (subst eu44xx; subst eu44x; subst eu44; subst eu27xx; subst eu27x; subst eu27; subst eu11xx; subst eu11x; subst eu11;  repeat first | with_reducible assumption | (with_reducible refine jm_req_at ?_ ?_) | (with_reducible refine jm_num_at ?_) | (with_reducible refine jm_bl_at ?_) | (with_reducible refine jm_take_at ?_ ?_) | decide) | decide +kernel)) ci_T_require (Or.inl (jm_g3 0 rfl rfl)) im_T_require se_T_require (by refine jm_us_get ?_ 1 rfl; exact hnd) rfl rfl (Nat.le_of_ble_eq_true rfl) ⟨(Nat.le_of_ble_eq_true rfl), (Nat.le_of_ble_eq_true rfl)⟩ ⟨rfl, rfl⟩ ⟨(Nat.le_of_ble_eq_true rfl), (Nat.le_of_ble_eq_true rfl)⟩ (jm_k0 (jm_hq (by refine jm_into ?_ [1, 2] rfl (L1 := [(b, .inr (3, [.int u11, .int u27, .int u44, .int mi])), (a, .inr (1, [.ref q, .int len, .int (f_T_require_a_2 47 len u44x u44xx f), .int (f_T_require_a_3 47 len u44x u44xx f)])), (q, .inl (dA 0, 400, .inl f))]) rfl; exact hnd) ?_))
  refine jm_aload_n X d_Y_readFrom_56 rfl 0 rfl ?_
  refine jm_aload_n X d_Y_readFrom_57 rfl 1 rfl ?_
  refine jm_iconst (v := 0) X d_Y_readFrom_58 (by decide) ?_
  refine jm_sipush (v := 1439) X d_Y_readFrom_59 (by decide) ?_
  refine jm_callV (rest := [.ref b]) X d_Y_readFrom_62 (k_T_number E a 0 1439 q len (f_T_require_a_2 47 len u44x u44xx f) (f_T_require_a_3 47 len u44x u44xx f) f (jm_us h [(b, .inr (3, [.int u11, .int u27, .int u44, .int mi])), (a, .inr (1, [.ref q, .int len, .int (f_T_require_a_2 47 len u44x u44xx f), .int (f_T_require_a_3 47 len u44x u44xx f)])), (q, .inl (dA 0, 400, .inl f))]) (by refine jm_us_get ?_ 1 rfl; exact hnd) (by refine jm_us_get ?_ 2 rfl; exact hnd) (by exact jm_pick hnd [1, 2] (by decide) rfl) (by first | with_reducible assumption | (subst eu44xx; subst eu44x; subst eu44; subst eu27xx; subst eu27x; subst eu27; subst eu11xx; subst eu11x; subst eu11;  repeat first | with_reducible assumption | (with_reducible refine jm_req_at ?_ ?_) | (with_reducible refine jm_num_at ?_) | (with_reducible refine jm_bl_at ?_) | (with_reducible refine jm_take_at ?_ ?_) | decide) | decide +kernel) (by first | with_reducible assumption | (subst eu44xx; subst eu44x; subst eu44; subst eu27xx; subst eu27x; subst eu27; subst eu11xx; subst eu11x; subst eu11;  repeat first | with_reducible assumption | (with_reducible refine jm_req_at ?_ ?_) | (with_reducible refine jm_num_at ?_) | (with_reducible refine jm_bl_at ?_) | (with_reducible refine jm_take_at ?_ ?_) | decide) | decide +kernel)) ci_T_number (Or.inl (jm_g3 1 rfl rfl)) im_T_number se_T_number (by refine jm_us_get ?_ 1 rfl; exact hnd) rfl rfl (Nat.le_of_ble_eq_true rfl) ⟨(Nat.le_of_ble_eq_true rfl), (Nat.le_of_ble_eq_true rfl)⟩ ⟨rfl, rfl⟩ ⟨(Nat.le_of_ble_eq_true rfl), (Nat.le_of_ble_eq_true rfl)⟩ (jm_k1 (jm_hq (by refine jm_into ?_ [1, 2] rfl (L1 := [(b, .inr (3, [.int u11, .int u27, .int u44, .int mi])), (a, .inr (1, [.ref q, .int len, .int (f_T_number_a_2 0 1439 len (f_T_require_a_2 47 len u44x u44xx f) (f_T_require_a_3 47 len u44x u44xx f) f), .int (f_T_number_a_3 0 1439 len (f_T_require_a_2 47 len u44x u44xx f) (f_T_require_a_3 47 len u44x u44xx f) f)])), (q, .inl (dA 0, 400, .inl f))]) rfl; exact hnd) ?_))
  obtain ⟨u62, eu62⟩ : ∃ z_ : Int32, z_ = (f_T_number 0 1439 len (f_T_require_a_2 47 len u44x u44xx f) (f_T_require_a_3 47 len u44x u44xx f) f) := ⟨_, rfl⟩
  rw [← eu62]
  obtain ⟨u62x, eu62x⟩ : ∃ z_ : Int32, z_ = (f_T_number_a_2 0 1439 len (f_T_require_a_2 47 len u44x u44xx f) (f_T_require_a_3 47 len u44x u44xx f) f) := ⟨_, rfl⟩
  rw [← eu62x]
  obtain ⟨u62xx, eu62xx⟩ : ∃ z_ : Int32, z_ = (f_T_number_a_3 0 1439 len (f_T_require_a_2 47 len u44x u44xx f) (f_T_require_a_3 47 len u44x u44xx f) f) := ⟨_, rfl⟩
  rw [← eu62xx]
  refine jm_put X d_Y_readFrom_65 fs_Y_31 (by refine jm_us_get ?_ 0 rfl; exact hnd) rfl rfl (Nat.le_of_ble_eq_true rfl) (fs1 := [.int u11, .int u27, .int u44, .int u62]) rfl (jm_hq (by refine jm_us_set ?_ 0 (L1 := [(b, .inr (3, [.int u11, .int u27, .int u44, .int u62])), (a, .inr (1, [.ref q, .int len, .int u62x, .int u62xx])), (q, .inl (dA 0, 400, .inl f))]) rfl rfl; exact hnd) ?_)
  exact jm_vret X hr hk d_Y_readFrom_68 ⟨rfl, (by show jm_us h _ = jm_us h _; unfold f_Y_readFrom_b_0 f_Y_readFrom_b_1 f_Y_readFrom_b_2 f_Y_readFrom_b_3 f_Y_readFrom_a_2 f_Y_readFrom_a_3; subst eu62xx; subst eu62x; subst eu62; subst eu44xx; subst eu44x; subst eu44; subst eu27xx; subst eu27x; subst eu27; subst eu11xx; subst eu11x; subst eu11; rfl)⟩
def f_CR_takeDayRule (len : Int32) (at_ : Int32) (br : Int32) (f : Nat → Int32) (dr : Int32) (vl : Int32) (nn : Int32) (st : Nat → Int64) : Int32 :=
  let u19 : Int32 := f_T_take 76 len (f_T_take_a_2 63 len at_ br f) br f
  if (f_T_take 63 len at_ br f) = 0 then (if u19 = 0 then 0 else 1) else 1
def f_CR_takeDayRule_a_2 (len : Int32) (at_ : Int32) (br : Int32) (f : Nat → Int32) (dr : Int32) (vl : Int32) (nn : Int32) (st : Nat → Int64) : Int32 :=
  let u19 : Int32 := f_T_take 76 len (f_T_take_a_2 63 len at_ br f) br f
  let u19x : Int32 := f_T_take_a_2 76 len (f_T_take_a_2 63 len at_ br f) br f
  let v73 : Int32 := if (f_T_take 87 len u19x br f) = 0 then (if (f_T_take 45 len (f_T_take_a_2 87 len u19x br f) br f) = 0 then (f_T_take_a_2 45 len (f_T_take_a_2 87 len u19x br f) br f) else (f_T_number_a_2 1 30 len (f_T_take_a_2 45 len (f_T_take_a_2 87 len u19x br f) br f) br f)) else (f_T_take_a_2 87 len u19x br f)
  if (f_T_take 63 len at_ br f) = 0 then (if u19 = 0 then u19x else v73) else (f_T_take_a_2 63 len at_ br f)
def f_CR_takeDayRule_a_3 (len : Int32) (at_ : Int32) (br : Int32) (f : Nat → Int32) (dr : Int32) (vl : Int32) (nn : Int32) (st : Nat → Int64) : Int32 :=
  let u19 : Int32 := f_T_take 76 len (f_T_take_a_2 63 len at_ br f) br f
  let u19x : Int32 := f_T_take_a_2 76 len (f_T_take_a_2 63 len at_ br f) br f
  let v73_1 : Int32 := if (f_T_take 87 len u19x br f) = 0 then (if (f_T_take 45 len (f_T_take_a_2 87 len u19x br f) br f) = 0 then br else (f_T_number_a_3 1 30 len (f_T_take_a_2 45 len (f_T_take_a_2 87 len u19x br f) br f) br f)) else br
  if (f_T_take 63 len at_ br f) = 0 then (if u19 = 0 then br else v73_1) else br
def f_CR_takeDayRule_b_1 (len : Int32) (at_ : Int32) (br : Int32) (f : Nat → Int32) (dr : Int32) (vl : Int32) (nn : Int32) (st : Nat → Int64) : Int32 :=
  let u19 : Int32 := f_T_take 76 len (f_T_take_a_2 63 len at_ br f) br f
  let u19x : Int32 := f_T_take_a_2 76 len (f_T_take_a_2 63 len at_ br f) br f
  let v73_2 : Int32 := if (f_T_take 87 len u19x br f) = 0 then 2 else 3
  if (f_T_take 63 len at_ br f) = 0 then (if u19 = 0 then dr else v73_2) else 1
def f_CR_takeDayRule_b_3 (len : Int32) (at_ : Int32) (br : Int32) (f : Nat → Int32) (dr : Int32) (vl : Int32) (nn : Int32) (st : Nat → Int64) : Int32 :=
  let u19 : Int32 := f_T_take 76 len (f_T_take_a_2 63 len at_ br f) br f
  let u19x : Int32 := f_T_take_a_2 76 len (f_T_take_a_2 63 len at_ br f) br f
  let v73_3 : Int32 := if (f_T_take 87 len u19x br f) = 0 then (if (f_T_take 45 len (f_T_take_a_2 87 len u19x br f) br f) = 0 then 0 else (f_T_number 1 30 len (f_T_take_a_2 45 len (f_T_take_a_2 87 len u19x br f) br f) br f)) else nn
  if (f_T_take 63 len at_ br f) = 0 then (if u19 = 0 then nn else v73_3) else nn
set_option maxRecDepth 20000 in
set_option maxHeartbeats 600000 in
theorem k_CR_takeDayRule {l : Launch} {S : State} {D : va_G} {dA : Nat → ClassId} (E : jm_en S D jm_cl (jm_ty dA) jm_G) (a : Nat) (b : Nat) (q : Nat) (len : Int32) (at_ : Int32) (br : Int32) (f : Nat → Int32) (sq : Nat) (dr : Int32) (vl : Int32) (nn : Int32) (st : Nat → Int64) (h : jm_H) (h_a : h a = some (.inr (1, [.ref q, .int len, .int at_, .int br]))) (h_q : h q = some (.inl (dA 0, 400, .inl f))) (h_b : h b = some (.inr (4, [.ref sq, .int dr, .int vl, .int nn]))) (h_sq : h sq = some (.inl (dA 3, 12, .inr (.inl st)))) (hnd : ([a, q, b, sq] : List Nat).Nodup) (p1 : 0 ≤ at_) (p2 : len ≤ 400) : jm_M l S D jm_cl y_CR_takeDayRule (Cond.code y_CR_takeDayRule b_CR_takeDayRule 2 (some FieldType.boolean)) { frames := 2, cells := 0, slots := 0, locals := 46 } [.ref a, .ref b] h (jm_R (some (.int (f_CR_takeDayRule len at_ br f dr vl nn st))) (jm_us h [(a, .inr (1, [.ref q, .int len, .int (f_CR_takeDayRule_a_2 len at_ br f dr vl nn st), .int (f_CR_takeDayRule_a_3 len at_ br f dr vl nn st)])), (q, .inl (dA 0, 400, .inl f)), (b, .inr (4, [.ref sq, .int (f_CR_takeDayRule_b_1 len at_ br f dr vl nn st), .int vl, .int (f_CR_takeDayRule_b_3 len at_ br f dr vl nn st)])), (sq, .inl (dA 3, 12, .inr (.inl st)))])) 0 0 := by
  refine jm_ofW E (by decide) (Nat.le_of_ble_eq_true rfl) (fun p e s m below meth c X hr hk hmn hout hadm => ?_)
  have X : jm_cx p s m ([.ref a, .ref b] : List Value).toArray c S D jm_cl (jm_ty dA) jm_G b_CR_takeDayRule 2 "JobHouse$CronReader" := X
  have hL : ∀ zz ∈ ([(a, .inr (1, [.ref q, .int len, .int at_, .int br])), (q, .inl (dA 0, 400, .inl f)), (b, .inr (4, [.ref sq, .int dr, .int vl, .int nn])), (sq, .inl (dA 3, 12, .inr (.inl st)))] : List (Nat × va_E)), h zz.1 = some zz.2 := List.forall_mem_cons.mpr ⟨h_a, List.forall_mem_cons.mpr ⟨h_q, List.forall_mem_cons.mpr ⟨h_b, List.forall_mem_cons.mpr ⟨h_sq, fun _ hz => absurd hz List.not_mem_nil⟩⟩⟩⟩
  refine jm_hq (jm_us_id hL).symm ?_
  show jm_W p l e ({ frames := 2, cells := 0, slots := 0, locals := 46 }) s m ([.ref a, .ref b] : List Value).toArray below meth c S D jm_cl (jm_Q S D jm_cl below s (jm_R (some (.int (f_CR_takeDayRule len at_ br f dr vl nn st))) (jm_us h [(a, .inr (1, [.ref q, .int len, .int (f_CR_takeDayRule_a_2 len at_ br f dr vl nn st), .int (f_CR_takeDayRule_a_3 len at_ br f dr vl nn st)])), (q, .inl (dA 0, 400, .inl f)), (b, .inr (4, [.ref sq, .int (f_CR_takeDayRule_b_1 len at_ br f dr vl nn st), .int vl, .int (f_CR_takeDayRule_b_3 len at_ br f dr vl nn st)])), (sq, .inl (dA 3, 12, .inr (.inl st)))])) 0 0) 2 0 [(0, .ref a), (1, .ref b)] [] (jm_us h [(a, .inr (1, [.ref q, .int len, .int at_, .int br])), (q, .inl (dA 0, 400, .inl f)), (b, .inr (4, [.ref sq, .int dr, .int vl, .int nn])), (sq, .inl (dA 3, 12, .inr (.inl st)))]) 0 0
  refine jm_aload_n X d_CR_takeDayRule_0 rfl 0 rfl ?_
  refine jm_bipush (v := 63) X d_CR_takeDayRule_1 (by decide) ?_
  refine jm_callV (rest := []) X d_CR_takeDayRule_3 (k_T_take E a 63 q len at_ br f (jm_us h [(a, .inr (1, [.ref q, .int len, .int at_, .int br])), (q, .inl (dA 0, 400, .inl f)), (b, .inr (4, [.ref sq, .int dr, .int vl, .int nn])), (sq, .inl (dA 3, 12, .inr (.inl st)))]) (by refine jm_us_get ?_ 0 rfl; exact hnd) (by refine jm_us_get ?_ 1 rfl; exact hnd) (by exact jm_pick hnd [0, 1] (by decide) rfl) (by first | with_reducible assumption | ( repeat first | with_reducible assumption | (with_reducible refine jm_req_at ?_ ?_) | (with_reducible refine jm_num_at ?_) | (with_reducible refine jm_bl_at ?_) | (with_reducible refine jm_take_at ?_ ?_) | decide) | decide +kernel) (by first | with_reducible assumption | ( repeat first | with_reducible assumption | (with_reducible refine jm_req_at ?_ ?_) | (with_reducible refine jm_num_at ?_) | (with_reducible refine jm_bl_at ?_) | (with_reducible refine jm_take_at ?_ ?_) | decide) | decide +kernel)) ci_T_take (Or.inl (jm_g3 53 rfl rfl)) im_T_take se_T_take (by refine jm_us_get ?_ 0 rfl; exact hnd) rfl rfl (Nat.le_of_ble_eq_true rfl) ⟨(Nat.le_of_ble_eq_true rfl), (Nat.le_of_ble_eq_true rfl)⟩ ⟨rfl, rfl⟩ ⟨(Nat.le_of_ble_eq_true rfl), (Nat.le_of_ble_eq_true rfl)⟩ (jm_k1 (jm_hq (by refine jm_into ?_ [0, 1] rfl (L1 := [(a, .inr (1, [.ref q, .int len, .int (f_T_take_a_2 63 len at_ br f), .int br])), (q, .inl (dA 0, 400, .inl f)), (b, .inr (4, [.ref sq, .int dr, .int vl, .int nn])), (sq, .inl (dA 3, 12, .inr (.inl st)))]) rfl; exact hnd) ?_))
  refine jm_if_eq (tgt := 16) X d_CR_takeDayRule_6 (by decide) (fun c1 => ?_) (fun c1 => ?_)
  · refine jm_aload_n X d_CR_takeDayRule_16 rfl 0 rfl ?_
    refine jm_bipush (v := 76) X d_CR_takeDayRule_17 (by decide) ?_
    refine jm_callV (rest := []) X d_CR_takeDayRule_19 (k_T_take E a 76 q len (f_T_take_a_2 63 len at_ br f) br f (jm_us h [(a, .inr (1, [.ref q, .int len, .int (f_T_take_a_2 63 len at_ br f), .int br])), (q, .inl (dA 0, 400, .inl f)), (b, .inr (4, [.ref sq, .int dr, .int vl, .int nn])), (sq, .inl (dA 3, 12, .inr (.inl st)))]) (by refine jm_us_get ?_ 0 rfl; exact hnd) (by refine jm_us_get ?_ 1 rfl; exact hnd) (by exact jm_pick hnd [0, 1] (by decide) rfl) (by first | with_reducible assumption | ( repeat first | with_reducible assumption | (with_reducible refine jm_req_at ?_ ?_) | (with_reducible refine jm_num_at ?_) | (with_reducible refine jm_bl_at ?_) | (with_reducible refine jm_take_at ?_ ?_) | decide) | decide +kernel) (by first | with_reducible assumption | ( repeat first | with_reducible assumption | (with_reducible refine jm_req_at ?_ ?_) | (with_reducible refine jm_num_at ?_) | (with_reducible refine jm_bl_at ?_) | (with_reducible refine jm_take_at ?_ ?_) | decide) | decide +kernel)) ci_T_take (Or.inl (jm_g3 53 rfl rfl)) im_T_take se_T_take (by refine jm_us_get ?_ 0 rfl; exact hnd) rfl rfl (Nat.le_of_ble_eq_true rfl) ⟨(Nat.le_of_ble_eq_true rfl), (Nat.le_of_ble_eq_true rfl)⟩ ⟨rfl, rfl⟩ ⟨(Nat.le_of_ble_eq_true rfl), (Nat.le_of_ble_eq_true rfl)⟩ (jm_k1 (jm_hq (by refine jm_into ?_ [0, 1] rfl (L1 := [(a, .inr (1, [.ref q, .int len, .int (f_T_take_a_2 76 len (f_T_take_a_2 63 len at_ br f) br f), .int br])), (q, .inl (dA 0, 400, .inl f)), (b, .inr (4, [.ref sq, .int dr, .int vl, .int nn])), (sq, .inl (dA 3, 12, .inr (.inl st)))]) rfl; exact hnd) ?_))
    obtain ⟨u19, eu19⟩ : ∃ z_ : Int32, z_ = (f_T_take 76 len (f_T_take_a_2 63 len at_ br f) br f) := ⟨_, rfl⟩
    rw [← eu19]
    obtain ⟨u19x, eu19x⟩ : ∃ z_ : Int32, z_ = (f_T_take_a_2 76 len (f_T_take_a_2 63 len at_ br f) br f) := ⟨_, rfl⟩
    rw [← eu19x]
    refine jm_if_ne (tgt := 27) X d_CR_takeDayRule_22 (by decide) (fun c2 => ?_) (fun c2 => ?_)
    · refine jm_aload_n X d_CR_takeDayRule_27 rfl 0 rfl ?_
      refine jm_bipush (v := 87) X d_CR_takeDayRule_28 (by decide) ?_
      refine jm_callV (rest := []) X d_CR_takeDayRule_30 (k_T_take E a 87 q len u19x br f (jm_us h [(a, .inr (1, [.ref q, .int len, .int u19x, .int br])), (q, .inl (dA 0, 400, .inl f)), (b, .inr (4, [.ref sq, .int dr, .int vl, .int nn])), (sq, .inl (dA 3, 12, .inr (.inl st)))]) (by refine jm_us_get ?_ 0 rfl; exact hnd) (by refine jm_us_get ?_ 1 rfl; exact hnd) (by exact jm_pick hnd [0, 1] (by decide) rfl) (by first | with_reducible assumption | (subst eu19x; subst eu19;  repeat first | with_reducible assumption | (with_reducible refine jm_req_at ?_ ?_) | (with_reducible refine jm_num_at ?_) | (with_reducible refine jm_bl_at ?_) | (with_reducible refine jm_take_at ?_ ?_) | decide) | decide +kernel) (by first | with_reducible assumption | (subst eu19x; subst eu19;  repeat first | with_reducible assumption | (with_reducible refine jm_req_at ?_ ?_) | (with_reducible refine jm_num_at ?_) | (with_reducible refine jm_bl_at ?_) | (with_reducible refine jm_take_at ?_ ?_) | decide) | decide +kernel)) ci_T_take (Or.inl (jm_g3 53 rfl rfl)) im_T_take se_T_take (by refine jm_us_get ?_ 0 rfl; exact hnd) rfl rfl (Nat.le_of_ble_eq_true rfl) ⟨(Nat.le_of_ble_eq_true rfl), (Nat.le_of_ble_eq_true rfl)⟩ ⟨rfl, rfl⟩ ⟨(Nat.le_of_ble_eq_true rfl), (Nat.le_of_ble_eq_true rfl)⟩ (jm_k1 (jm_hq (by refine jm_into ?_ [0, 1] rfl (L1 := [(a, .inr (1, [.ref q, .int len, .int (f_T_take_a_2 87 len u19x br f), .int br])), (q, .inl (dA 0, 400, .inl f)), (b, .inr (4, [.ref sq, .int dr, .int vl, .int nn])), (sq, .inl (dA 3, 12, .inr (.inl st)))]) rfl; exact hnd) ?_))
      have J73_4 : ∀ (v73 : Int32) (v73_1 : Int32) (v73_2 : Int32) (v73_3 : Int32), v73 = (if (f_T_take 87 len u19x br f) = 0 then (if (f_T_take 45 len (f_T_take_a_2 87 len u19x br f) br f) = 0 then (f_T_take_a_2 45 len (f_T_take_a_2 87 len u19x br f) br f) else (f_T_number_a_2 1 30 len (f_T_take_a_2 45 len (f_T_take_a_2 87 len u19x br f) br f) br f)) else (f_T_take_a_2 87 len u19x br f) : Int32) → v73_1 = (if (f_T_take 87 len u19x br f) = 0 then (if (f_T_take 45 len (f_T_take_a_2 87 len u19x br f) br f) = 0 then br else (f_T_number_a_3 1 30 len (f_T_take_a_2 45 len (f_T_take_a_2 87 len u19x br f) br f) br f)) else br : Int32) → v73_2 = (if (f_T_take 87 len u19x br f) = 0 then 2 else 3 : Int32) → v73_3 = (if (f_T_take 87 len u19x br f) = 0 then (if (f_T_take 45 len (f_T_take_a_2 87 len u19x br f) br f) = 0 then 0 else (f_T_number 1 30 len (f_T_take_a_2 45 len (f_T_take_a_2 87 len u19x br f) br f) br f)) else nn : Int32) → jm_W p l e ({ frames := 2, cells := 0, slots := 0, locals := 46 }) s m ([.ref a, .ref b] : List Value).toArray below meth c S D jm_cl (jm_Q S D jm_cl below s (jm_R (some (.int (f_CR_takeDayRule len at_ br f dr vl nn st))) (jm_us h [(a, .inr (1, [.ref q, .int len, .int (f_CR_takeDayRule_a_2 len at_ br f dr vl nn st), .int (f_CR_takeDayRule_a_3 len at_ br f dr vl nn st)])), (q, .inl (dA 0, 400, .inl f)), (b, .inr (4, [.ref sq, .int (f_CR_takeDayRule_b_1 len at_ br f dr vl nn st), .int vl, .int (f_CR_takeDayRule_b_3 len at_ br f dr vl nn st)])), (sq, .inl (dA 3, 12, .inr (.inl st)))])) 0 0) 2 73 [(0, .ref a), (1, .ref b)] [] (jm_us h [(a, .inr (1, [.ref q, .int len, .int v73, .int v73_1])), (q, .inl (dA 0, 400, .inl f)), (b, .inr (4, [.ref sq, .int v73_2, .int vl, .int v73_3])), (sq, .inl (dA 3, 12, .inr (.inl st)))]) 0 0 := by
        intro v73 v73_1 v73_2 v73_3 ev73 ev73_1 ev73_2 ev73_3
        refine jm_iconst (v := 1) X d_CR_takeDayRule_73 (by decide) ?_
        exact jm_zret X hr (by first | rfl | (subst ev73_3; subst ev73_2; subst ev73_1; subst ev73; subst eu19x; subst eu19; (repeat' split) <;> rfl)) hk d_CR_takeDayRule_74 ⟨(by show Outcome.returned _ = Outcome.returned _; unfold f_CR_takeDayRule; subst ev73_3; subst ev73_2; subst ev73_1; subst ev73; subst eu19x; subst eu19; first | (simp only [if_pos c1, if_neg c2, reduceIte]; done) | (simp only [if_pos c1, if_neg c2, reduceIte]; rfl) | rfl), (by show jm_us h _ = jm_us h _; unfold f_CR_takeDayRule_a_2 f_CR_takeDayRule_a_3 f_CR_takeDayRule_b_1 f_CR_takeDayRule_b_3; subst ev73_3; subst ev73_2; subst ev73_1; subst ev73; subst eu19x; subst eu19; first | (simp only [if_pos c1, if_neg c2, reduceIte]; done) | (simp only [if_pos c1, if_neg c2, reduceIte]; rfl) | rfl)⟩
      refine jm_if_eq (tgt := 44) X d_CR_takeDayRule_33 (by decide) (fun c3 => ?_) (fun c3 => ?_)
      · refine jm_aload_n X d_CR_takeDayRule_44 rfl 1 rfl ?_
        refine jm_iconst (v := 2) X d_CR_takeDayRule_45 (by decide) ?_
        refine jm_put X d_CR_takeDayRule_46 fs_CR_47 (by refine jm_us_get ?_ 2 rfl; exact hnd) rfl rfl (Nat.le_of_ble_eq_true rfl) (fs1 := [.ref sq, .int 2, .int vl, .int nn]) rfl (jm_hq (by refine jm_us_set ?_ 2 (L1 := [(a, .inr (1, [.ref q, .int len, .int (f_T_take_a_2 87 len u19x br f), .int br])), (q, .inl (dA 0, 400, .inl f)), (b, .inr (4, [.ref sq, .int 2, .int vl, .int nn])), (sq, .inl (dA 3, 12, .inr (.inl st)))]) rfl rfl; exact hnd) ?_)
        refine jm_aload_n X d_CR_takeDayRule_49 rfl 1 rfl ?_
        refine jm_aload_n X d_CR_takeDayRule_50 rfl 0 rfl ?_
        refine jm_bipush (v := 45) X d_CR_takeDayRule_51 (by decide) ?_
        refine jm_callV (rest := [.ref b]) X d_CR_takeDayRule_53 (k_T_take E a 45 q len (f_T_take_a_2 87 len u19x br f) br f (jm_us h [(a, .inr (1, [.ref q, .int len, .int (f_T_take_a_2 87 len u19x br f), .int br])), (q, .inl (dA 0, 400, .inl f)), (b, .inr (4, [.ref sq, .int 2, .int vl, .int nn])), (sq, .inl (dA 3, 12, .inr (.inl st)))]) (by refine jm_us_get ?_ 0 rfl; exact hnd) (by refine jm_us_get ?_ 1 rfl; exact hnd) (by exact jm_pick hnd [0, 1] (by decide) rfl) (by first | with_reducible assumption | (subst eu19x; subst eu19;  repeat first | with_reducible assumption | (with_reducible refine jm_req_at ?_ ?_) | (with_reducible refine jm_num_at ?_) | (with_reducible refine jm_bl_at ?_) | (with_reducible refine jm_take_at ?_ ?_) | decide) | decide +kernel) (by first | with_reducible assumption | (subst eu19x; subst eu19;  repeat first | with_reducible assumption | (with_reducible refine jm_req_at ?_ ?_) | (with_reducible refine jm_num_at ?_) | (with_reducible refine jm_bl_at ?_) | (with_reducible refine jm_take_at ?_ ?_) | decide) | decide +kernel)) ci_T_take (Or.inl (jm_g3 53 rfl rfl)) im_T_take se_T_take (by refine jm_us_get ?_ 0 rfl; exact hnd) rfl rfl (Nat.le_of_ble_eq_true rfl) ⟨(Nat.le_of_ble_eq_true rfl), (Nat.le_of_ble_eq_true rfl)⟩ ⟨rfl, rfl⟩ ⟨(Nat.le_of_ble_eq_true rfl), (Nat.le_of_ble_eq_true rfl)⟩ (jm_k1 (jm_hq (by refine jm_into ?_ [0, 1] rfl (L1 := [(a, .inr (1, [.ref q, .int len, .int (f_T_take_a_2 45 len (f_T_take_a_2 87 len u19x br f) br f), .int br])), (q, .inl (dA 0, 400, .inl f)), (b, .inr (4, [.ref sq, .int 2, .int vl, .int nn])), (sq, .inl (dA 3, 12, .inr (.inl st)))]) rfl; exact hnd) ?_))
        have J70_6 : ∀ (v70 : Int32) (v70_1 : Int32) (v70_2 : Int32), v70 = (if (f_T_take 45 len (f_T_take_a_2 87 len u19x br f) br f) = 0 then 0 else (f_T_number 1 30 len (f_T_take_a_2 45 len (f_T_take_a_2 87 len u19x br f) br f) br f) : Int32) → v70_1 = (if (f_T_take 45 len (f_T_take_a_2 87 len u19x br f) br f) = 0 then (f_T_take_a_2 45 len (f_T_take_a_2 87 len u19x br f) br f) else (f_T_number_a_2 1 30 len (f_T_take_a_2 45 len (f_T_take_a_2 87 len u19x br f) br f) br f) : Int32) → v70_2 = (if (f_T_take 45 len (f_T_take_a_2 87 len u19x br f) br f) = 0 then br else (f_T_number_a_3 1 30 len (f_T_take_a_2 45 len (f_T_take_a_2 87 len u19x br f) br f) br f) : Int32) → jm_W p l e ({ frames := 2, cells := 0, slots := 0, locals := 46 }) s m ([.ref a, .ref b] : List Value).toArray below meth c S D jm_cl (jm_Q S D jm_cl below s (jm_R (some (.int (f_CR_takeDayRule len at_ br f dr vl nn st))) (jm_us h [(a, .inr (1, [.ref q, .int len, .int (f_CR_takeDayRule_a_2 len at_ br f dr vl nn st), .int (f_CR_takeDayRule_a_3 len at_ br f dr vl nn st)])), (q, .inl (dA 0, 400, .inl f)), (b, .inr (4, [.ref sq, .int (f_CR_takeDayRule_b_1 len at_ br f dr vl nn st), .int vl, .int (f_CR_takeDayRule_b_3 len at_ br f dr vl nn st)])), (sq, .inl (dA 3, 12, .inr (.inl st)))])) 0 0) 2 70 [(0, .ref a), (1, .ref b)] [.int v70, .ref b] (jm_us h [(a, .inr (1, [.ref q, .int len, .int v70_1, .int v70_2])), (q, .inl (dA 0, 400, .inl f)), (b, .inr (4, [.ref sq, .int 2, .int vl, .int nn])), (sq, .inl (dA 3, 12, .inr (.inl st)))]) 0 0 := by
          intro v70 v70_1 v70_2 ev70 ev70_1 ev70_2
          refine jm_put X d_CR_takeDayRule_70 fs_CR_55 (by refine jm_us_get ?_ 2 rfl; exact hnd) rfl rfl (Nat.le_of_ble_eq_true rfl) (fs1 := [.ref sq, .int 2, .int vl, .int v70]) rfl (jm_hq (by refine jm_us_set ?_ 2 (L1 := [(a, .inr (1, [.ref q, .int len, .int v70_1, .int v70_2])), (q, .inl (dA 0, 400, .inl f)), (b, .inr (4, [.ref sq, .int 2, .int vl, .int v70])), (sq, .inl (dA 3, 12, .inr (.inl st)))]) rfl rfl; exact hnd) ?_)
          exact J73_4 _ _ _ _ (by subst ev70_2; subst ev70_1; subst ev70; first | (simp only [if_pos c3, reduceIte]; done) | (with_reducible rfl)) (by subst ev70_2; subst ev70_1; subst ev70; first | (simp only [if_pos c3, reduceIte]; done) | (with_reducible rfl)) (by subst ev70_2; subst ev70_1; subst ev70; first | (simp only [if_pos c3, reduceIte]; done) | (with_reducible rfl)) (by subst ev70_2; subst ev70_1; subst ev70; first | (simp only [if_pos c3, reduceIte]; done) | (with_reducible rfl))
        refine jm_if_eq (tgt := 69) X d_CR_takeDayRule_56 (by decide) (fun c5 => ?_) (fun c5 => ?_)
        · refine jm_iconst (v := 0) X d_CR_takeDayRule_69 (by decide) ?_
          exact J70_6 _ _ _ (by first | (simp only [if_pos c5, reduceIte]; done) | (with_reducible rfl)) (by first | (simp only [if_pos c5, reduceIte]; done) | (with_reducible rfl)) (by first | (simp only [if_pos c5, reduceIte]; done) | (with_reducible rfl))
        · refine jm_aload_n X d_CR_takeDayRule_59 rfl 0 rfl ?_
          refine jm_iconst (v := 1) X d_CR_takeDayRule_60 (by decide) ?_
          refine jm_bipush (v := 30) X d_CR_takeDayRule_61 (by decide) ?_
          refine jm_callV (rest := [.ref b]) X d_CR_takeDayRule_63 (k_T_number E a 1 30 q len (f_T_take_a_2 45 len (f_T_take_a_2 87 len u19x br f) br f) br f (jm_us h [(a, .inr (1, [.ref q, .int len, .int (f_T_take_a_2 45 len (f_T_take_a_2 87 len u19x br f) br f), .int br])), (q, .inl (dA 0, 400, .inl f)), (b, .inr (4, [.ref sq, .int 2, .int vl, .int nn])), (sq, .inl (dA 3, 12, .inr (.inl st)))]) (by refine jm_us_get ?_ 0 rfl; exact hnd) (by refine jm_us_get ?_ 1 rfl; exact hnd) (by exact jm_pick hnd [0, 1] (by decide) rfl) (by first | with_reducible assumption | (subst eu19x; subst eu19;  repeat first | with_reducible assumption | (with_reducible refine jm_req_at ?_ ?_) | (with_reducible refine jm_num_at ?_) | (with_reducible refine jm_bl_at ?_) | (with_reducible refine jm_take_at ?_ ?_) | decide) | decide +kernel) (by first | with_reducible assumption | (subst eu19x; subst eu19;  repeat first | with_reducible assumption | (with_reducible refine jm_req_at ?_ ?_) | (with_reducible refine jm_num_at ?_) | (with_reducible refine jm_bl_at ?_) | (with_reducible refine jm_take_at ?_ ?_) | decide) | decide +kernel)) ci_T_number (Or.inl (jm_g3 111 rfl rfl)) im_T_number se_T_number (by refine jm_us_get ?_ 0 rfl; exact hnd) rfl rfl (Nat.le_of_ble_eq_true rfl) ⟨(Nat.le_of_ble_eq_true rfl), (Nat.le_of_ble_eq_true rfl)⟩ ⟨rfl, rfl⟩ ⟨(Nat.le_of_ble_eq_true rfl), (Nat.le_of_ble_eq_true rfl)⟩ (jm_k1 (jm_hq (by refine jm_into ?_ [0, 1] rfl (L1 := [(a, .inr (1, [.ref q, .int len, .int (f_T_number_a_2 1 30 len (f_T_take_a_2 45 len (f_T_take_a_2 87 len u19x br f) br f) br f), .int (f_T_number_a_3 1 30 len (f_T_take_a_2 45 len (f_T_take_a_2 87 len u19x br f) br f) br f)])), (q, .inl (dA 0, 400, .inl f)), (b, .inr (4, [.ref sq, .int 2, .int vl, .int nn])), (sq, .inl (dA 3, 12, .inr (.inl st)))]) rfl; exact hnd) ?_))
          refine jm_goto (tgt := 70) X d_CR_takeDayRule_66 (by decide) ?_
          exact J70_6 _ _ _ (by first | (simp only [if_neg c5, reduceIte]; done) | (with_reducible rfl)) (by first | (simp only [if_neg c5, reduceIte]; done) | (with_reducible rfl)) (by first | (simp only [if_neg c5, reduceIte]; done) | (with_reducible rfl))
      · refine jm_aload_n X d_CR_takeDayRule_36 rfl 1 rfl ?_
        refine jm_iconst (v := 3) X d_CR_takeDayRule_37 (by decide) ?_
        refine jm_put X d_CR_takeDayRule_38 fs_CR_47 (by refine jm_us_get ?_ 2 rfl; exact hnd) rfl rfl (Nat.le_of_ble_eq_true rfl) (fs1 := [.ref sq, .int 3, .int vl, .int nn]) rfl (jm_hq (by refine jm_us_set ?_ 2 (L1 := [(a, .inr (1, [.ref q, .int len, .int (f_T_take_a_2 87 len u19x br f), .int br])), (q, .inl (dA 0, 400, .inl f)), (b, .inr (4, [.ref sq, .int 3, .int vl, .int nn])), (sq, .inl (dA 3, 12, .inr (.inl st)))]) rfl rfl; exact hnd) ?_)
        refine jm_goto (tgt := 73) X d_CR_takeDayRule_41 (by decide) ?_
        exact J73_4 _ _ _ _ (by first | (simp only [if_neg c3, reduceIte]; done) | (with_reducible rfl)) (by first | (simp only [if_neg c3, reduceIte]; done) | (with_reducible rfl)) (by first | (simp only [if_neg c3, reduceIte]; done) | (with_reducible rfl)) (by first | (simp only [if_neg c3, reduceIte]; done) | (with_reducible rfl))
    · refine jm_iconst (v := 0) X d_CR_takeDayRule_25 (by decide) ?_
      exact jm_zret X hr (by first | rfl | (subst eu19x; subst eu19; (repeat' split) <;> rfl)) hk d_CR_takeDayRule_26 ⟨(by show Outcome.returned _ = Outcome.returned _; unfold f_CR_takeDayRule; subst eu19x; subst eu19; first | (simp only [if_pos c1, if_pos c2, reduceIte]; done) | (simp only [if_pos c1, if_pos c2, reduceIte]; rfl) | rfl), (by show jm_us h _ = jm_us h _; unfold f_CR_takeDayRule_a_2 f_CR_takeDayRule_a_3 f_CR_takeDayRule_b_1 f_CR_takeDayRule_b_3; subst eu19x; subst eu19; first | (simp only [if_pos c1, if_pos c2, reduceIte]; done) | (simp only [if_pos c1, if_pos c2, reduceIte]; rfl) | rfl)⟩
  · refine jm_aload_n X d_CR_takeDayRule_9 rfl 1 rfl ?_
    refine jm_iconst (v := 1) X d_CR_takeDayRule_10 (by decide) ?_
    refine jm_put X d_CR_takeDayRule_11 fs_CR_47 (by refine jm_us_get ?_ 2 rfl; exact hnd) rfl rfl (Nat.le_of_ble_eq_true rfl) (fs1 := [.ref sq, .int 1, .int vl, .int nn]) rfl (jm_hq (by refine jm_us_set ?_ 2 (L1 := [(a, .inr (1, [.ref q, .int len, .int (f_T_take_a_2 63 len at_ br f), .int br])), (q, .inl (dA 0, 400, .inl f)), (b, .inr (4, [.ref sq, .int 1, .int vl, .int nn])), (sq, .inl (dA 3, 12, .inr (.inl st)))]) rfl rfl; exact hnd) ?_)
    refine jm_iconst (v := 1) X d_CR_takeDayRule_14 (by decide) ?_
    exact jm_zret X hr (by first | rfl | ((repeat' split) <;> rfl)) hk d_CR_takeDayRule_15 ⟨(by show Outcome.returned _ = Outcome.returned _; unfold f_CR_takeDayRule; first | (simp only [if_neg c1, reduceIte]; done) | (simp only [if_neg c1, reduceIte]; rfl) | rfl), (by show jm_us h _ = jm_us h _; unfold f_CR_takeDayRule_a_2 f_CR_takeDayRule_a_3 f_CR_takeDayRule_b_1 f_CR_takeDayRule_b_3; first | (simp only [if_neg c1, reduceIte]; done) | (simp only [if_neg c1, reduceIte]; rfl) | rfl)⟩
def f_CR_takeSign (fi : Int32) (va : Int32) (len : Int32) (at_ : Int32) (br : Int32) (f : Nat → Int32) (dr : Int32) (vl : Int32) (nn : Int32) (st : Nat → Int64) : Int32 :=
  let u52 : Int32 := f_T_take 35 len (f_T_take_a_2 76 len at_ br f) br f
  let u30 : Int32 := f_T_take 76 len (f_T_take_a_2 87 len at_ br f) br f
  let u30x : Int32 := f_T_take_a_2 76 len (f_T_take_a_2 87 len at_ br f) br f
  if fi = 3 then (if (f_T_take 87 len at_ br f) = 0 then (if fi = 5 then (if u30 = 0 then (if (f_T_take 35 len u30x br f) = 0 then 0 else 1) else 1) else 0) else 1) else (if fi = 5 then (if (f_T_take 76 len at_ br f) = 0 then (if u52 = 0 then 0 else 1) else 1) else 0)
def f_CR_takeSign_a_2 (fi : Int32) (va : Int32) (len : Int32) (at_ : Int32) (br : Int32) (f : Nat → Int32) (dr : Int32) (vl : Int32) (nn : Int32) (st : Nat → Int64) : Int32 :=
  let u52 : Int32 := f_T_take 35 len (f_T_take_a_2 76 len at_ br f) br f
  let u52x : Int32 := f_T_take_a_2 35 len (f_T_take_a_2 76 len at_ br f) br f
  let u30 : Int32 := f_T_take 76 len (f_T_take_a_2 87 len at_ br f) br f
  let u30x : Int32 := f_T_take_a_2 76 len (f_T_take_a_2 87 len at_ br f) br f
  let u68x : Int32 := f_T_number_a_2 1 5 len (f_T_take_a_2 35 len u30x br f) br f
  if fi = 3 then (if (f_T_take 87 len at_ br f) = 0 then (if fi = 5 then (if u30 = 0 then (if (f_T_take 35 len u30x br f) = 0 then (f_T_take_a_2 35 len u30x br f) else u68x) else u30x) else (f_T_take_a_2 87 len at_ br f)) else (f_T_take_a_2 87 len at_ br f)) else (if fi = 5 then (if (f_T_take 76 len at_ br f) = 0 then (if u52 = 0 then u52x else (f_T_number_a_2 1 5 len u52x br f)) else (f_T_take_a_2 76 len at_ br f)) else at_)
def f_CR_takeSign_a_3 (fi : Int32) (va : Int32) (len : Int32) (at_ : Int32) (br : Int32) (f : Nat → Int32) (dr : Int32) (vl : Int32) (nn : Int32) (st : Nat → Int64) : Int32 :=
  let u52 : Int32 := f_T_take 35 len (f_T_take_a_2 76 len at_ br f) br f
  let u52x : Int32 := f_T_take_a_2 35 len (f_T_take_a_2 76 len at_ br f) br f
  let u30 : Int32 := f_T_take 76 len (f_T_take_a_2 87 len at_ br f) br f
  let u30x : Int32 := f_T_take_a_2 76 len (f_T_take_a_2 87 len at_ br f) br f
  let u68xx : Int32 := f_T_number_a_3 1 5 len (f_T_take_a_2 35 len u30x br f) br f
  if fi = 3 then (if (f_T_take 87 len at_ br f) = 0 then (if fi = 5 then (if u30 = 0 then (if (f_T_take 35 len u30x br f) = 0 then br else u68xx) else br) else br) else br) else (if fi = 5 then (if (f_T_take 76 len at_ br f) = 0 then (if u52 = 0 then br else (f_T_number_a_3 1 5 len u52x br f)) else br) else br)
def f_CR_takeSign_b_1 (fi : Int32) (va : Int32) (len : Int32) (at_ : Int32) (br : Int32) (f : Nat → Int32) (dr : Int32) (vl : Int32) (nn : Int32) (st : Nat → Int64) : Int32 :=
  let u52 : Int32 := f_T_take 35 len (f_T_take_a_2 76 len at_ br f) br f
  let u30 : Int32 := f_T_take 76 len (f_T_take_a_2 87 len at_ br f) br f
  let u30x : Int32 := f_T_take_a_2 76 len (f_T_take_a_2 87 len at_ br f) br f
  if fi = 3 then (if (f_T_take 87 len at_ br f) = 0 then (if fi = 5 then (if u30 = 0 then (if (f_T_take 35 len u30x br f) = 0 then dr else 6) else 5) else dr) else 4) else (if fi = 5 then (if (f_T_take 76 len at_ br f) = 0 then (if u52 = 0 then dr else 6) else 5) else dr)
def f_CR_takeSign_b_2 (fi : Int32) (va : Int32) (len : Int32) (at_ : Int32) (br : Int32) (f : Nat → Int32) (dr : Int32) (vl : Int32) (nn : Int32) (st : Nat → Int64) : Int32 :=
  let u52 : Int32 := f_T_take 35 len (f_T_take_a_2 76 len at_ br f) br f
  let u30 : Int32 := f_T_take 76 len (f_T_take_a_2 87 len at_ br f) br f
  let u30x : Int32 := f_T_take_a_2 76 len (f_T_take_a_2 87 len at_ br f) br f
  if fi = 3 then (if (f_T_take 87 len at_ br f) = 0 then (if fi = 5 then (if u30 = 0 then (if (f_T_take 35 len u30x br f) = 0 then vl else va) else va) else vl) else va) else (if fi = 5 then (if (f_T_take 76 len at_ br f) = 0 then (if u52 = 0 then vl else va) else va) else vl)
def f_CR_takeSign_b_3 (fi : Int32) (va : Int32) (len : Int32) (at_ : Int32) (br : Int32) (f : Nat → Int32) (dr : Int32) (vl : Int32) (nn : Int32) (st : Nat → Int64) : Int32 :=
  let u52 : Int32 := f_T_take 35 len (f_T_take_a_2 76 len at_ br f) br f
  let u52x : Int32 := f_T_take_a_2 35 len (f_T_take_a_2 76 len at_ br f) br f
  let u30 : Int32 := f_T_take 76 len (f_T_take_a_2 87 len at_ br f) br f
  let u30x : Int32 := f_T_take_a_2 76 len (f_T_take_a_2 87 len at_ br f) br f
  let u68 : Int32 := f_T_number 1 5 len (f_T_take_a_2 35 len u30x br f) br f
  if fi = 3 then (if (f_T_take 87 len at_ br f) = 0 then (if fi = 5 then (if u30 = 0 then (if (f_T_take 35 len u30x br f) = 0 then nn else u68) else nn) else nn) else nn) else (if fi = 5 then (if (f_T_take 76 len at_ br f) = 0 then (if u52 = 0 then nn else (f_T_number 1 5 len u52x br f)) else nn) else nn)
set_option maxRecDepth 20000 in
set_option maxHeartbeats 600000 in
theorem k_CR_takeSign {l : Launch} {S : State} {D : va_G} {dA : Nat → ClassId} (E : jm_en S D jm_cl (jm_ty dA) jm_G) (a : Nat) (b : Nat) (fi : Int32) (va : Int32) (q : Nat) (len : Int32) (at_ : Int32) (br : Int32) (f : Nat → Int32) (sq : Nat) (dr : Int32) (vl : Int32) (nn : Int32) (st : Nat → Int64) (h : jm_H) (h_a : h a = some (.inr (1, [.ref q, .int len, .int at_, .int br]))) (h_q : h q = some (.inl (dA 0, 400, .inl f))) (h_b : h b = some (.inr (4, [.ref sq, .int dr, .int vl, .int nn]))) (h_sq : h sq = some (.inl (dA 3, 12, .inr (.inl st)))) (hnd : ([a, q, b, sq] : List Nat).Nodup) (p1 : 0 ≤ at_) (p2 : len ≤ 400) : jm_M l S D jm_cl y_CR_takeSign (Cond.code y_CR_takeSign b_CR_takeSign 4 (some FieldType.boolean)) { frames := 2, cells := 0, slots := 0, locals := 46 } [.ref a, .ref b, .int fi, .int va] h (jm_R (some (.int (f_CR_takeSign fi va len at_ br f dr vl nn st))) (jm_us h [(a, .inr (1, [.ref q, .int len, .int (f_CR_takeSign_a_2 fi va len at_ br f dr vl nn st), .int (f_CR_takeSign_a_3 fi va len at_ br f dr vl nn st)])), (q, .inl (dA 0, 400, .inl f)), (b, .inr (4, [.ref sq, .int (f_CR_takeSign_b_1 fi va len at_ br f dr vl nn st), .int (f_CR_takeSign_b_2 fi va len at_ br f dr vl nn st), .int (f_CR_takeSign_b_3 fi va len at_ br f dr vl nn st)])), (sq, .inl (dA 3, 12, .inr (.inl st)))])) 0 0 := by
  refine jm_ofW E (by decide) (Nat.le_of_ble_eq_true rfl) (fun p e s m below meth c X hr hk hmn hout hadm => ?_)
  have X : jm_cx p s m ([.ref a, .ref b, .int fi, .int va] : List Value).toArray c S D jm_cl (jm_ty dA) jm_G b_CR_takeSign 4 "JobHouse$CronReader" := X
  have hL : ∀ zz ∈ ([(a, .inr (1, [.ref q, .int len, .int at_, .int br])), (q, .inl (dA 0, 400, .inl f)), (b, .inr (4, [.ref sq, .int dr, .int vl, .int nn])), (sq, .inl (dA 3, 12, .inr (.inl st)))] : List (Nat × va_E)), h zz.1 = some zz.2 := List.forall_mem_cons.mpr ⟨h_a, List.forall_mem_cons.mpr ⟨h_q, List.forall_mem_cons.mpr ⟨h_b, List.forall_mem_cons.mpr ⟨h_sq, fun _ hz => absurd hz List.not_mem_nil⟩⟩⟩⟩
  refine jm_hq (jm_us_id hL).symm ?_
  show jm_W p l e ({ frames := 2, cells := 0, slots := 0, locals := 46 }) s m ([.ref a, .ref b, .int fi, .int va] : List Value).toArray below meth c S D jm_cl (jm_Q S D jm_cl below s (jm_R (some (.int (f_CR_takeSign fi va len at_ br f dr vl nn st))) (jm_us h [(a, .inr (1, [.ref q, .int len, .int (f_CR_takeSign_a_2 fi va len at_ br f dr vl nn st), .int (f_CR_takeSign_a_3 fi va len at_ br f dr vl nn st)])), (q, .inl (dA 0, 400, .inl f)), (b, .inr (4, [.ref sq, .int (f_CR_takeSign_b_1 fi va len at_ br f dr vl nn st), .int (f_CR_takeSign_b_2 fi va len at_ br f dr vl nn st), .int (f_CR_takeSign_b_3 fi va len at_ br f dr vl nn st)])), (sq, .inl (dA 3, 12, .inr (.inl st)))])) 0 0) 4 0 [(0, .ref a), (1, .ref b), (2, .int fi), (3, .int va)] [] (jm_us h [(a, .inr (1, [.ref q, .int len, .int at_, .int br])), (q, .inl (dA 0, 400, .inl f)), (b, .inr (4, [.ref sq, .int dr, .int vl, .int nn])), (sq, .inl (dA 3, 12, .inr (.inl st)))]) 0 0
  refine jm_iload_n X d_CR_takeSign_0 rfl 2 rfl ?_
  refine jm_iconst (v := 3) X d_CR_takeSign_1 (by decide) ?_
  refine jm_icmp_ne (tgt := 22) X d_CR_takeSign_2 (by decide) (fun c1 => ?_) (fun c1 => ?_)
  · refine jm_iload_n X d_CR_takeSign_22 rfl 2 rfl ?_
    refine jm_iconst (v := 5) X d_CR_takeSign_23 (by decide) ?_
    refine jm_icmp_ne (tgt := 44) X d_CR_takeSign_24 (by decide) (fun c2 => ?_) (fun c2 => ?_)
    · refine jm_iload_n X d_CR_takeSign_44 rfl 2 rfl ?_
      refine jm_iconst (v := 5) X d_CR_takeSign_45 (by decide) ?_
      refine jm_icmp_ne (tgt := 77) X d_CR_takeSign_46 (by decide) (fun _ => ?_) (fun q_ => absurd q_ c2)
      refine jm_iconst (v := 0) X d_CR_takeSign_77 (by decide) ?_
      exact jm_zret X hr (by first | rfl | ((repeat' split) <;> rfl)) hk d_CR_takeSign_78 ⟨(by show Outcome.returned _ = Outcome.returned _; unfold f_CR_takeSign; first | (simp only [if_neg c1, if_neg c2, reduceIte]; done) | (simp only [if_neg c1, if_neg c2, reduceIte]; rfl) | rfl), (by show jm_us h _ = jm_us h _; unfold f_CR_takeSign_a_2 f_CR_takeSign_a_3 f_CR_takeSign_b_1 f_CR_takeSign_b_2 f_CR_takeSign_b_3; first | (simp only [if_neg c1, if_neg c2, reduceIte]; done) | (simp only [if_neg c1, if_neg c2, reduceIte]; rfl) | rfl)⟩
    · refine jm_aload_n X d_CR_takeSign_27 rfl 0 rfl ?_
      refine jm_bipush (v := 76) X d_CR_takeSign_28 (by decide) ?_
      refine jm_callV (rest := []) X d_CR_takeSign_30 (k_T_take E a 76 q len at_ br f (jm_us h [(a, .inr (1, [.ref q, .int len, .int at_, .int br])), (q, .inl (dA 0, 400, .inl f)), (b, .inr (4, [.ref sq, .int dr, .int vl, .int nn])), (sq, .inl (dA 3, 12, .inr (.inl st)))]) (by refine jm_us_get ?_ 0 rfl; exact hnd) (by refine jm_us_get ?_ 1 rfl; exact hnd) (by exact jm_pick hnd [0, 1] (by decide) rfl) (by first | with_reducible assumption | ( repeat first | with_reducible assumption | (with_reducible refine jm_req_at ?_ ?_) | (with_reducible refine jm_num_at ?_) | (with_reducible refine jm_bl_at ?_) | (with_reducible refine jm_take_at ?_ ?_) | decide) | decide +kernel) (by first | with_reducible assumption | ( repeat first | with_reducible assumption | (with_reducible refine jm_req_at ?_ ?_) | (with_reducible refine jm_num_at ?_) | (with_reducible refine jm_bl_at ?_) | (with_reducible refine jm_take_at ?_ ?_) | decide) | decide +kernel)) ci_T_take (Or.inl (jm_g3 53 rfl rfl)) im_T_take se_T_take (by refine jm_us_get ?_ 0 rfl; exact hnd) rfl rfl (Nat.le_of_ble_eq_true rfl) ⟨(Nat.le_of_ble_eq_true rfl), (Nat.le_of_ble_eq_true rfl)⟩ ⟨rfl, rfl⟩ ⟨(Nat.le_of_ble_eq_true rfl), (Nat.le_of_ble_eq_true rfl)⟩ (jm_k1 (jm_hq (by refine jm_into ?_ [0, 1] rfl (L1 := [(a, .inr (1, [.ref q, .int len, .int (f_T_take_a_2 76 len at_ br f), .int br])), (q, .inl (dA 0, 400, .inl f)), (b, .inr (4, [.ref sq, .int dr, .int vl, .int nn])), (sq, .inl (dA 3, 12, .inr (.inl st)))]) rfl; exact hnd) ?_))
      refine jm_if_eq (tgt := 44) X d_CR_takeSign_33 (by decide) (fun c3 => ?_) (fun c3 => ?_)
      · refine jm_iload_n X d_CR_takeSign_44 rfl 2 rfl ?_
        refine jm_iconst (v := 5) X d_CR_takeSign_45 (by decide) ?_
        refine jm_icmp_ne (tgt := 77) X d_CR_takeSign_46 (by decide) (fun q_ => absurd c2 q_) (fun _ => ?_)
        refine jm_aload_n X d_CR_takeSign_49 rfl 0 rfl ?_
        refine jm_bipush (v := 35) X d_CR_takeSign_50 (by decide) ?_
        refine jm_callV (rest := []) X d_CR_takeSign_52 (k_T_take E a 35 q len (f_T_take_a_2 76 len at_ br f) br f (jm_us h [(a, .inr (1, [.ref q, .int len, .int (f_T_take_a_2 76 len at_ br f), .int br])), (q, .inl (dA 0, 400, .inl f)), (b, .inr (4, [.ref sq, .int dr, .int vl, .int nn])), (sq, .inl (dA 3, 12, .inr (.inl st)))]) (by refine jm_us_get ?_ 0 rfl; exact hnd) (by refine jm_us_get ?_ 1 rfl; exact hnd) (by exact jm_pick hnd [0, 1] (by decide) rfl) (by first | with_reducible assumption | ( repeat first | with_reducible assumption | (with_reducible refine jm_req_at ?_ ?_) | (with_reducible refine jm_num_at ?_) | (with_reducible refine jm_bl_at ?_) | (with_reducible refine jm_take_at ?_ ?_) | decide) | decide +kernel) (by first | with_reducible assumption | ( repeat first | with_reducible assumption | (with_reducible refine jm_req_at ?_ ?_) | (with_reducible refine jm_num_at ?_) | (with_reducible refine jm_bl_at ?_) | (with_reducible refine jm_take_at ?_ ?_) | decide) | decide +kernel)) ci_T_take (Or.inl (jm_g3 53 rfl rfl)) im_T_take se_T_take (by refine jm_us_get ?_ 0 rfl; exact hnd) rfl rfl (Nat.le_of_ble_eq_true rfl) ⟨(Nat.le_of_ble_eq_true rfl), (Nat.le_of_ble_eq_true rfl)⟩ ⟨rfl, rfl⟩ ⟨(Nat.le_of_ble_eq_true rfl), (Nat.le_of_ble_eq_true rfl)⟩ (jm_k1 (jm_hq (by refine jm_into ?_ [0, 1] rfl (L1 := [(a, .inr (1, [.ref q, .int len, .int (f_T_take_a_2 35 len (f_T_take_a_2 76 len at_ br f) br f), .int br])), (q, .inl (dA 0, 400, .inl f)), (b, .inr (4, [.ref sq, .int dr, .int vl, .int nn])), (sq, .inl (dA 3, 12, .inr (.inl st)))]) rfl; exact hnd) ?_))
        obtain ⟨u52, eu52⟩ : ∃ z_ : Int32, z_ = (f_T_take 35 len (f_T_take_a_2 76 len at_ br f) br f) := ⟨_, rfl⟩
        rw [← eu52]
        obtain ⟨u52x, eu52x⟩ : ∃ z_ : Int32, z_ = (f_T_take_a_2 35 len (f_T_take_a_2 76 len at_ br f) br f) := ⟨_, rfl⟩
        rw [← eu52x]
        refine jm_if_eq (tgt := 77) X d_CR_takeSign_55 (by decide) (fun c4 => ?_) (fun c4 => ?_)
        · refine jm_iconst (v := 0) X d_CR_takeSign_77 (by decide) ?_
          exact jm_zret X hr (by first | rfl | (subst eu52x; subst eu52; (repeat' split) <;> rfl)) hk d_CR_takeSign_78 ⟨(by show Outcome.returned _ = Outcome.returned _; unfold f_CR_takeSign; subst eu52x; subst eu52; first | (simp only [if_neg c1, if_pos c2, if_pos c3, if_pos c4, reduceIte]; done) | (simp only [if_neg c1, if_pos c2, if_pos c3, if_pos c4, reduceIte]; rfl) | rfl), (by show jm_us h _ = jm_us h _; unfold f_CR_takeSign_a_2 f_CR_takeSign_a_3 f_CR_takeSign_b_1 f_CR_takeSign_b_2 f_CR_takeSign_b_3; subst eu52x; subst eu52; first | (simp only [if_neg c1, if_pos c2, if_pos c3, if_pos c4, reduceIte]; done) | (simp only [if_neg c1, if_pos c2, if_pos c3, if_pos c4, reduceIte]; rfl) | rfl)⟩
        · refine jm_aload_n X d_CR_takeSign_58 rfl 1 rfl ?_
          refine jm_bipush (v := 6) X d_CR_takeSign_59 (by decide) ?_
          refine jm_put X d_CR_takeSign_61 fs_CR_47 (by refine jm_us_get ?_ 2 rfl; exact hnd) rfl rfl (Nat.le_of_ble_eq_true rfl) (fs1 := [.ref sq, .int 6, .int vl, .int nn]) rfl (jm_hq (by refine jm_us_set ?_ 2 (L1 := [(a, .inr (1, [.ref q, .int len, .int u52x, .int br])), (q, .inl (dA 0, 400, .inl f)), (b, .inr (4, [.ref sq, .int 6, .int vl, .int nn])), (sq, .inl (dA 3, 12, .inr (.inl st)))]) rfl rfl; exact hnd) ?_)
          refine jm_aload_n X d_CR_takeSign_64 rfl 1 rfl ?_
          refine jm_aload_n X d_CR_takeSign_65 rfl 0 rfl ?_
          refine jm_iconst (v := 1) X d_CR_takeSign_66 (by decide) ?_
          refine jm_iconst (v := 5) X d_CR_takeSign_67 (by decide) ?_
          refine jm_callV (rest := [.ref b]) X d_CR_takeSign_68 (k_T_number E a 1 5 q len u52x br f (jm_us h [(a, .inr (1, [.ref q, .int len, .int u52x, .int br])), (q, .inl (dA 0, 400, .inl f)), (b, .inr (4, [.ref sq, .int 6, .int vl, .int nn])), (sq, .inl (dA 3, 12, .inr (.inl st)))]) (by refine jm_us_get ?_ 0 rfl; exact hnd) (by refine jm_us_get ?_ 1 rfl; exact hnd) (by exact jm_pick hnd [0, 1] (by decide) rfl) (by first | with_reducible assumption | (subst eu52x; subst eu52;  repeat first | with_reducible assumption | (with_reducible refine jm_req_at ?_ ?_) | (with_reducible refine jm_num_at ?_) | (with_reducible refine jm_bl_at ?_) | (with_reducible refine jm_take_at ?_ ?_) | decide) | decide +kernel) (by first | with_reducible assumption | (subst eu52x; subst eu52;  repeat first | with_reducible assumption | (with_reducible refine jm_req_at ?_ ?_) | (with_reducible refine jm_num_at ?_) | (with_reducible refine jm_bl_at ?_) | (with_reducible refine jm_take_at ?_ ?_) | decide) | decide +kernel)) ci_T_number (Or.inl (jm_g3 111 rfl rfl)) im_T_number se_T_number (by refine jm_us_get ?_ 0 rfl; exact hnd) rfl rfl (Nat.le_of_ble_eq_true rfl) ⟨(Nat.le_of_ble_eq_true rfl), (Nat.le_of_ble_eq_true rfl)⟩ ⟨rfl, rfl⟩ ⟨(Nat.le_of_ble_eq_true rfl), (Nat.le_of_ble_eq_true rfl)⟩ (jm_k1 (jm_hq (by refine jm_into ?_ [0, 1] rfl (L1 := [(a, .inr (1, [.ref q, .int len, .int (f_T_number_a_2 1 5 len u52x br f), .int (f_T_number_a_3 1 5 len u52x br f)])), (q, .inl (dA 0, 400, .inl f)), (b, .inr (4, [.ref sq, .int 6, .int vl, .int nn])), (sq, .inl (dA 3, 12, .inr (.inl st)))]) rfl; exact hnd) ?_))
          refine jm_put X d_CR_takeSign_71 fs_CR_55 (by refine jm_us_get ?_ 2 rfl; exact hnd) rfl rfl (Nat.le_of_ble_eq_true rfl) (fs1 := [.ref sq, .int 6, .int vl, .int (f_T_number 1 5 len u52x br f)]) rfl (jm_hq (by refine jm_us_set ?_ 2 (L1 := [(a, .inr (1, [.ref q, .int len, .int (f_T_number_a_2 1 5 len u52x br f), .int (f_T_number_a_3 1 5 len u52x br f)])), (q, .inl (dA 0, 400, .inl f)), (b, .inr (4, [.ref sq, .int 6, .int vl, .int (f_T_number 1 5 len u52x br f)])), (sq, .inl (dA 3, 12, .inr (.inl st)))]) rfl rfl; exact hnd) ?_)
          refine jm_goto (tgt := 79) X d_CR_takeSign_74 (by decide) ?_
          refine jm_aload_n X d_CR_takeSign_79 rfl 1 rfl ?_
          refine jm_iload_n X d_CR_takeSign_80 rfl 3 rfl ?_
          refine jm_put X d_CR_takeSign_81 fs_CR_107 (by refine jm_us_get ?_ 2 rfl; exact hnd) rfl rfl (Nat.le_of_ble_eq_true rfl) (fs1 := [.ref sq, .int 6, .int va, .int (f_T_number 1 5 len u52x br f)]) rfl (jm_hq (by refine jm_us_set ?_ 2 (L1 := [(a, .inr (1, [.ref q, .int len, .int (f_T_number_a_2 1 5 len u52x br f), .int (f_T_number_a_3 1 5 len u52x br f)])), (q, .inl (dA 0, 400, .inl f)), (b, .inr (4, [.ref sq, .int 6, .int va, .int (f_T_number 1 5 len u52x br f)])), (sq, .inl (dA 3, 12, .inr (.inl st)))]) rfl rfl; exact hnd) ?_)
          refine jm_iconst (v := 1) X d_CR_takeSign_84 (by decide) ?_
          exact jm_zret X hr (by first | rfl | (subst eu52x; subst eu52; (repeat' split) <;> rfl)) hk d_CR_takeSign_85 ⟨(by show Outcome.returned _ = Outcome.returned _; unfold f_CR_takeSign; subst eu52x; subst eu52; first | (simp only [if_neg c1, if_pos c2, if_pos c3, if_neg c4, reduceIte]; done) | (simp only [if_neg c1, if_pos c2, if_pos c3, if_neg c4, reduceIte]; rfl) | rfl), (by show jm_us h _ = jm_us h _; unfold f_CR_takeSign_a_2 f_CR_takeSign_a_3 f_CR_takeSign_b_1 f_CR_takeSign_b_2 f_CR_takeSign_b_3; subst eu52x; subst eu52; first | (simp only [if_neg c1, if_pos c2, if_pos c3, if_neg c4, reduceIte]; done) | (simp only [if_neg c1, if_pos c2, if_pos c3, if_neg c4, reduceIte]; rfl) | rfl)⟩
      · refine jm_aload_n X d_CR_takeSign_36 rfl 1 rfl ?_
        refine jm_iconst (v := 5) X d_CR_takeSign_37 (by decide) ?_
        refine jm_put X d_CR_takeSign_38 fs_CR_47 (by refine jm_us_get ?_ 2 rfl; exact hnd) rfl rfl (Nat.le_of_ble_eq_true rfl) (fs1 := [.ref sq, .int 5, .int vl, .int nn]) rfl (jm_hq (by refine jm_us_set ?_ 2 (L1 := [(a, .inr (1, [.ref q, .int len, .int (f_T_take_a_2 76 len at_ br f), .int br])), (q, .inl (dA 0, 400, .inl f)), (b, .inr (4, [.ref sq, .int 5, .int vl, .int nn])), (sq, .inl (dA 3, 12, .inr (.inl st)))]) rfl rfl; exact hnd) ?_)
        refine jm_goto (tgt := 79) X d_CR_takeSign_41 (by decide) ?_
        refine jm_aload_n X d_CR_takeSign_79 rfl 1 rfl ?_
        refine jm_iload_n X d_CR_takeSign_80 rfl 3 rfl ?_
        refine jm_put X d_CR_takeSign_81 fs_CR_107 (by refine jm_us_get ?_ 2 rfl; exact hnd) rfl rfl (Nat.le_of_ble_eq_true rfl) (fs1 := [.ref sq, .int 5, .int va, .int nn]) rfl (jm_hq (by refine jm_us_set ?_ 2 (L1 := [(a, .inr (1, [.ref q, .int len, .int (f_T_take_a_2 76 len at_ br f), .int br])), (q, .inl (dA 0, 400, .inl f)), (b, .inr (4, [.ref sq, .int 5, .int va, .int nn])), (sq, .inl (dA 3, 12, .inr (.inl st)))]) rfl rfl; exact hnd) ?_)
        refine jm_iconst (v := 1) X d_CR_takeSign_84 (by decide) ?_
        exact jm_zret X hr (by first | rfl | ((repeat' split) <;> rfl)) hk d_CR_takeSign_85 ⟨(by show Outcome.returned _ = Outcome.returned _; unfold f_CR_takeSign; first | (simp only [if_neg c1, if_pos c2, if_neg c3, reduceIte]; done) | (simp only [if_neg c1, if_pos c2, if_neg c3, reduceIte]; rfl) | rfl), (by show jm_us h _ = jm_us h _; unfold f_CR_takeSign_a_2 f_CR_takeSign_a_3 f_CR_takeSign_b_1 f_CR_takeSign_b_2 f_CR_takeSign_b_3; first | (simp only [if_neg c1, if_pos c2, if_neg c3, reduceIte]; done) | (simp only [if_neg c1, if_pos c2, if_neg c3, reduceIte]; rfl) | rfl)⟩
  · refine jm_aload_n X d_CR_takeSign_5 rfl 0 rfl ?_
    refine jm_bipush (v := 87) X d_CR_takeSign_6 (by decide) ?_
    refine jm_callV (rest := []) X d_CR_takeSign_8 (k_T_take E a 87 q len at_ br f (jm_us h [(a, .inr (1, [.ref q, .int len, .int at_, .int br])), (q, .inl (dA 0, 400, .inl f)), (b, .inr (4, [.ref sq, .int dr, .int vl, .int nn])), (sq, .inl (dA 3, 12, .inr (.inl st)))]) (by refine jm_us_get ?_ 0 rfl; exact hnd) (by refine jm_us_get ?_ 1 rfl; exact hnd) (by exact jm_pick hnd [0, 1] (by decide) rfl) (by first | with_reducible assumption | ( repeat first | with_reducible assumption | (with_reducible refine jm_req_at ?_ ?_) | (with_reducible refine jm_num_at ?_) | (with_reducible refine jm_bl_at ?_) | (with_reducible refine jm_take_at ?_ ?_) | decide) | decide +kernel) (by first | with_reducible assumption | ( repeat first | with_reducible assumption | (with_reducible refine jm_req_at ?_ ?_) | (with_reducible refine jm_num_at ?_) | (with_reducible refine jm_bl_at ?_) | (with_reducible refine jm_take_at ?_ ?_) | decide) | decide +kernel)) ci_T_take (Or.inl (jm_g3 53 rfl rfl)) im_T_take se_T_take (by refine jm_us_get ?_ 0 rfl; exact hnd) rfl rfl (Nat.le_of_ble_eq_true rfl) ⟨(Nat.le_of_ble_eq_true rfl), (Nat.le_of_ble_eq_true rfl)⟩ ⟨rfl, rfl⟩ ⟨(Nat.le_of_ble_eq_true rfl), (Nat.le_of_ble_eq_true rfl)⟩ (jm_k1 (jm_hq (by refine jm_into ?_ [0, 1] rfl (L1 := [(a, .inr (1, [.ref q, .int len, .int (f_T_take_a_2 87 len at_ br f), .int br])), (q, .inl (dA 0, 400, .inl f)), (b, .inr (4, [.ref sq, .int dr, .int vl, .int nn])), (sq, .inl (dA 3, 12, .inr (.inl st)))]) rfl; exact hnd) ?_))
    refine jm_if_eq (tgt := 22) X d_CR_takeSign_11 (by decide) (fun c5 => ?_) (fun c5 => ?_)
    · refine jm_iload_n X d_CR_takeSign_22 rfl 2 rfl ?_
      refine jm_iconst (v := 5) X d_CR_takeSign_23 (by decide) ?_
      refine jm_icmp_ne (tgt := 44) X d_CR_takeSign_24 (by decide) (fun c6 => ?_) (fun c6 => ?_)
      · refine jm_iload_n X d_CR_takeSign_44 rfl 2 rfl ?_
        refine jm_iconst (v := 5) X d_CR_takeSign_45 (by decide) ?_
        refine jm_icmp_ne (tgt := 77) X d_CR_takeSign_46 (by decide) (fun _ => ?_) (fun q_ => absurd q_ c6)
        refine jm_iconst (v := 0) X d_CR_takeSign_77 (by decide) ?_
        exact jm_zret X hr (by first | rfl | ((repeat' split) <;> rfl)) hk d_CR_takeSign_78 ⟨(by show Outcome.returned _ = Outcome.returned _; unfold f_CR_takeSign; first | (simp only [if_pos c1, if_pos c5, if_neg c6, reduceIte]; done) | (simp only [if_pos c1, if_pos c5, if_neg c6, reduceIte]; rfl) | rfl), (by show jm_us h _ = jm_us h _; unfold f_CR_takeSign_a_2 f_CR_takeSign_a_3 f_CR_takeSign_b_1 f_CR_takeSign_b_2 f_CR_takeSign_b_3; first | (simp only [if_pos c1, if_pos c5, if_neg c6, reduceIte]; done) | (simp only [if_pos c1, if_pos c5, if_neg c6, reduceIte]; rfl) | rfl)⟩
      · refine jm_aload_n X d_CR_takeSign_27 rfl 0 rfl ?_
        refine jm_bipush (v := 76) X d_CR_takeSign_28 (by decide) ?_
        refine jm_callV (rest := []) X d_CR_takeSign_30 (k_T_take E a 76 q len (f_T_take_a_2 87 len at_ br f) br f (jm_us h [(a, .inr (1, [.ref q, .int len, .int (f_T_take_a_2 87 len at_ br f), .int br])), (q, .inl (dA 0, 400, .inl f)), (b, .inr (4, [.ref sq, .int dr, .int vl, .int nn])), (sq, .inl (dA 3, 12, .inr (.inl st)))]) (by refine jm_us_get ?_ 0 rfl; exact hnd) (by refine jm_us_get ?_ 1 rfl; exact hnd) (by exact jm_pick hnd [0, 1] (by decide) rfl) (by first | with_reducible assumption | ( repeat first | with_reducible assumption | (with_reducible refine jm_req_at ?_ ?_) | (with_reducible refine jm_num_at ?_) | (with_reducible refine jm_bl_at ?_) | (with_reducible refine jm_take_at ?_ ?_) | decide) | decide +kernel) (by first | with_reducible assumption | ( repeat first | with_reducible assumption | (with_reducible refine jm_req_at ?_ ?_) | (with_reducible refine jm_num_at ?_) | (with_reducible refine jm_bl_at ?_) | (with_reducible refine jm_take_at ?_ ?_) | decide) | decide +kernel)) ci_T_take (Or.inl (jm_g3 53 rfl rfl)) im_T_take se_T_take (by refine jm_us_get ?_ 0 rfl; exact hnd) rfl rfl (Nat.le_of_ble_eq_true rfl) ⟨(Nat.le_of_ble_eq_true rfl), (Nat.le_of_ble_eq_true rfl)⟩ ⟨rfl, rfl⟩ ⟨(Nat.le_of_ble_eq_true rfl), (Nat.le_of_ble_eq_true rfl)⟩ (jm_k1 (jm_hq (by refine jm_into ?_ [0, 1] rfl (L1 := [(a, .inr (1, [.ref q, .int len, .int (f_T_take_a_2 76 len (f_T_take_a_2 87 len at_ br f) br f), .int br])), (q, .inl (dA 0, 400, .inl f)), (b, .inr (4, [.ref sq, .int dr, .int vl, .int nn])), (sq, .inl (dA 3, 12, .inr (.inl st)))]) rfl; exact hnd) ?_))
        obtain ⟨u30, eu30⟩ : ∃ z_ : Int32, z_ = (f_T_take 76 len (f_T_take_a_2 87 len at_ br f) br f) := ⟨_, rfl⟩
        rw [← eu30]
        obtain ⟨u30x, eu30x⟩ : ∃ z_ : Int32, z_ = (f_T_take_a_2 76 len (f_T_take_a_2 87 len at_ br f) br f) := ⟨_, rfl⟩
        rw [← eu30x]
        refine jm_if_eq (tgt := 44) X d_CR_takeSign_33 (by decide) (fun c7 => ?_) (fun c7 => ?_)
        · refine jm_iload_n X d_CR_takeSign_44 rfl 2 rfl ?_
          refine jm_iconst (v := 5) X d_CR_takeSign_45 (by decide) ?_
          refine jm_icmp_ne (tgt := 77) X d_CR_takeSign_46 (by decide) (fun q_ => absurd c6 q_) (fun _ => ?_)
          refine jm_aload_n X d_CR_takeSign_49 rfl 0 rfl ?_
          refine jm_bipush (v := 35) X d_CR_takeSign_50 (by decide) ?_
          refine jm_callV (rest := []) X d_CR_takeSign_52 (k_T_take E a 35 q len u30x br f (jm_us h [(a, .inr (1, [.ref q, .int len, .int u30x, .int br])), (q, .inl (dA 0, 400, .inl f)), (b, .inr (4, [.ref sq, .int dr, .int vl, .int nn])), (sq, .inl (dA 3, 12, .inr (.inl st)))]) (by refine jm_us_get ?_ 0 rfl; exact hnd) (by refine jm_us_get ?_ 1 rfl; exact hnd) (by exact jm_pick hnd [0, 1] (by decide) rfl) (by first | with_reducible assumption | (subst eu30x; subst eu30;  repeat first | with_reducible assumption | (with_reducible refine jm_req_at ?_ ?_) | (with_reducible refine jm_num_at ?_) | (with_reducible refine jm_bl_at ?_) | (with_reducible refine jm_take_at ?_ ?_) | decide) | decide +kernel) (by first | with_reducible assumption | (subst eu30x; subst eu30;  repeat first | with_reducible assumption | (with_reducible refine jm_req_at ?_ ?_) | (with_reducible refine jm_num_at ?_) | (with_reducible refine jm_bl_at ?_) | (with_reducible refine jm_take_at ?_ ?_) | decide) | decide +kernel)) ci_T_take (Or.inl (jm_g3 53 rfl rfl)) im_T_take se_T_take (by refine jm_us_get ?_ 0 rfl; exact hnd) rfl rfl (Nat.le_of_ble_eq_true rfl) ⟨(Nat.le_of_ble_eq_true rfl), (Nat.le_of_ble_eq_true rfl)⟩ ⟨rfl, rfl⟩ ⟨(Nat.le_of_ble_eq_true rfl), (Nat.le_of_ble_eq_true rfl)⟩ (jm_k1 (jm_hq (by refine jm_into ?_ [0, 1] rfl (L1 := [(a, .inr (1, [.ref q, .int len, .int (f_T_take_a_2 35 len u30x br f), .int br])), (q, .inl (dA 0, 400, .inl f)), (b, .inr (4, [.ref sq, .int dr, .int vl, .int nn])), (sq, .inl (dA 3, 12, .inr (.inl st)))]) rfl; exact hnd) ?_))
          refine jm_if_eq (tgt := 77) X d_CR_takeSign_55 (by decide) (fun c8 => ?_) (fun c8 => ?_)
          · refine jm_iconst (v := 0) X d_CR_takeSign_77 (by decide) ?_
            exact jm_zret X hr (by first | rfl | (subst eu30x; subst eu30; (repeat' split) <;> rfl)) hk d_CR_takeSign_78 ⟨(by show Outcome.returned _ = Outcome.returned _; unfold f_CR_takeSign; subst eu30x; subst eu30; first | (simp only [if_pos c1, if_pos c5, if_pos c6, if_pos c7, if_pos c8, reduceIte]; done) | (simp only [if_pos c1, if_pos c5, if_pos c6, if_pos c7, if_pos c8, reduceIte]; rfl) | rfl), (by show jm_us h _ = jm_us h _; unfold f_CR_takeSign_a_2 f_CR_takeSign_a_3 f_CR_takeSign_b_1 f_CR_takeSign_b_2 f_CR_takeSign_b_3; subst eu30x; subst eu30; first | (simp only [if_pos c1, if_pos c5, if_pos c6, if_pos c7, if_pos c8, reduceIte]; done) | (simp only [if_pos c1, if_pos c5, if_pos c6, if_pos c7, if_pos c8, reduceIte]; rfl) | rfl)⟩
          · refine jm_aload_n X d_CR_takeSign_58 rfl 1 rfl ?_
            refine jm_bipush (v := 6) X d_CR_takeSign_59 (by decide) ?_
            refine jm_put X d_CR_takeSign_61 fs_CR_47 (by refine jm_us_get ?_ 2 rfl; exact hnd) rfl rfl (Nat.le_of_ble_eq_true rfl) (fs1 := [.ref sq, .int 6, .int vl, .int nn]) rfl (jm_hq (by refine jm_us_set ?_ 2 (L1 := [(a, .inr (1, [.ref q, .int len, .int (f_T_take_a_2 35 len u30x br f), .int br])), (q, .inl (dA 0, 400, .inl f)), (b, .inr (4, [.ref sq, .int 6, .int vl, .int nn])), (sq, .inl (dA 3, 12, .inr (.inl st)))]) rfl rfl; exact hnd) ?_)
            refine jm_aload_n X d_CR_takeSign_64 rfl 1 rfl ?_
            refine jm_aload_n X d_CR_takeSign_65 rfl 0 rfl ?_
            refine jm_iconst (v := 1) X d_CR_takeSign_66 (by decide) ?_
            refine jm_iconst (v := 5) X d_CR_takeSign_67 (by decide) ?_
            refine jm_callV (rest := [.ref b]) X d_CR_takeSign_68 (k_T_number E a 1 5 q len (f_T_take_a_2 35 len u30x br f) br f (jm_us h [(a, .inr (1, [.ref q, .int len, .int (f_T_take_a_2 35 len u30x br f), .int br])), (q, .inl (dA 0, 400, .inl f)), (b, .inr (4, [.ref sq, .int 6, .int vl, .int nn])), (sq, .inl (dA 3, 12, .inr (.inl st)))]) (by refine jm_us_get ?_ 0 rfl; exact hnd) (by refine jm_us_get ?_ 1 rfl; exact hnd) (by exact jm_pick hnd [0, 1] (by decide) rfl) (by first | with_reducible assumption | (subst eu30x; subst eu30;  repeat first | with_reducible assumption | (with_reducible refine jm_req_at ?_ ?_) | (with_reducible refine jm_num_at ?_) | (with_reducible refine jm_bl_at ?_) | (with_reducible refine jm_take_at ?_ ?_) | decide) | decide +kernel) (by first | with_reducible assumption | (subst eu30x; subst eu30;  repeat first | with_reducible assumption | (with_reducible refine jm_req_at ?_ ?_) | (with_reducible refine jm_num_at ?_) | (with_reducible refine jm_bl_at ?_) | (with_reducible refine jm_take_at ?_ ?_) | decide) | decide +kernel)) ci_T_number (Or.inl (jm_g3 111 rfl rfl)) im_T_number se_T_number (by refine jm_us_get ?_ 0 rfl; exact hnd) rfl rfl (Nat.le_of_ble_eq_true rfl) ⟨(Nat.le_of_ble_eq_true rfl), (Nat.le_of_ble_eq_true rfl)⟩ ⟨rfl, rfl⟩ ⟨(Nat.le_of_ble_eq_true rfl), (Nat.le_of_ble_eq_true rfl)⟩ (jm_k1 (jm_hq (by refine jm_into ?_ [0, 1] rfl (L1 := [(a, .inr (1, [.ref q, .int len, .int (f_T_number_a_2 1 5 len (f_T_take_a_2 35 len u30x br f) br f), .int (f_T_number_a_3 1 5 len (f_T_take_a_2 35 len u30x br f) br f)])), (q, .inl (dA 0, 400, .inl f)), (b, .inr (4, [.ref sq, .int 6, .int vl, .int nn])), (sq, .inl (dA 3, 12, .inr (.inl st)))]) rfl; exact hnd) ?_))
            obtain ⟨u68, eu68⟩ : ∃ z_ : Int32, z_ = (f_T_number 1 5 len (f_T_take_a_2 35 len u30x br f) br f) := ⟨_, rfl⟩
            rw [← eu68]
            obtain ⟨u68x, eu68x⟩ : ∃ z_ : Int32, z_ = (f_T_number_a_2 1 5 len (f_T_take_a_2 35 len u30x br f) br f) := ⟨_, rfl⟩
            rw [← eu68x]
            obtain ⟨u68xx, eu68xx⟩ : ∃ z_ : Int32, z_ = (f_T_number_a_3 1 5 len (f_T_take_a_2 35 len u30x br f) br f) := ⟨_, rfl⟩
            rw [← eu68xx]
            refine jm_put X d_CR_takeSign_71 fs_CR_55 (by refine jm_us_get ?_ 2 rfl; exact hnd) rfl rfl (Nat.le_of_ble_eq_true rfl) (fs1 := [.ref sq, .int 6, .int vl, .int u68]) rfl (jm_hq (by refine jm_us_set ?_ 2 (L1 := [(a, .inr (1, [.ref q, .int len, .int u68x, .int u68xx])), (q, .inl (dA 0, 400, .inl f)), (b, .inr (4, [.ref sq, .int 6, .int vl, .int u68])), (sq, .inl (dA 3, 12, .inr (.inl st)))]) rfl rfl; exact hnd) ?_)
            refine jm_goto (tgt := 79) X d_CR_takeSign_74 (by decide) ?_
            refine jm_aload_n X d_CR_takeSign_79 rfl 1 rfl ?_
            refine jm_iload_n X d_CR_takeSign_80 rfl 3 rfl ?_
            refine jm_put X d_CR_takeSign_81 fs_CR_107 (by refine jm_us_get ?_ 2 rfl; exact hnd) rfl rfl (Nat.le_of_ble_eq_true rfl) (fs1 := [.ref sq, .int 6, .int va, .int u68]) rfl (jm_hq (by refine jm_us_set ?_ 2 (L1 := [(a, .inr (1, [.ref q, .int len, .int u68x, .int u68xx])), (q, .inl (dA 0, 400, .inl f)), (b, .inr (4, [.ref sq, .int 6, .int va, .int u68])), (sq, .inl (dA 3, 12, .inr (.inl st)))]) rfl rfl; exact hnd) ?_)
            refine jm_iconst (v := 1) X d_CR_takeSign_84 (by decide) ?_
            exact jm_zret X hr (by first | rfl | (subst eu68xx; subst eu68x; subst eu68; subst eu30x; subst eu30; (repeat' split) <;> rfl)) hk d_CR_takeSign_85 ⟨(by show Outcome.returned _ = Outcome.returned _; unfold f_CR_takeSign; subst eu68xx; subst eu68x; subst eu68; subst eu30x; subst eu30; first | (simp only [if_pos c1, if_pos c5, if_pos c6, if_pos c7, if_neg c8, reduceIte]; done) | (simp only [if_pos c1, if_pos c5, if_pos c6, if_pos c7, if_neg c8, reduceIte]; rfl) | rfl), (by show jm_us h _ = jm_us h _; unfold f_CR_takeSign_a_2 f_CR_takeSign_a_3 f_CR_takeSign_b_1 f_CR_takeSign_b_2 f_CR_takeSign_b_3; subst eu68xx; subst eu68x; subst eu68; subst eu30x; subst eu30; first | (simp only [if_pos c1, if_pos c5, if_pos c6, if_pos c7, if_neg c8, reduceIte]; done) | (simp only [if_pos c1, if_pos c5, if_pos c6, if_pos c7, if_neg c8, reduceIte]; rfl) | rfl)⟩
        · refine jm_aload_n X d_CR_takeSign_36 rfl 1 rfl ?_
          refine jm_iconst (v := 5) X d_CR_takeSign_37 (by decide) ?_
          refine jm_put X d_CR_takeSign_38 fs_CR_47 (by refine jm_us_get ?_ 2 rfl; exact hnd) rfl rfl (Nat.le_of_ble_eq_true rfl) (fs1 := [.ref sq, .int 5, .int vl, .int nn]) rfl (jm_hq (by refine jm_us_set ?_ 2 (L1 := [(a, .inr (1, [.ref q, .int len, .int u30x, .int br])), (q, .inl (dA 0, 400, .inl f)), (b, .inr (4, [.ref sq, .int 5, .int vl, .int nn])), (sq, .inl (dA 3, 12, .inr (.inl st)))]) rfl rfl; exact hnd) ?_)
          refine jm_goto (tgt := 79) X d_CR_takeSign_41 (by decide) ?_
          refine jm_aload_n X d_CR_takeSign_79 rfl 1 rfl ?_
          refine jm_iload_n X d_CR_takeSign_80 rfl 3 rfl ?_
          refine jm_put X d_CR_takeSign_81 fs_CR_107 (by refine jm_us_get ?_ 2 rfl; exact hnd) rfl rfl (Nat.le_of_ble_eq_true rfl) (fs1 := [.ref sq, .int 5, .int va, .int nn]) rfl (jm_hq (by refine jm_us_set ?_ 2 (L1 := [(a, .inr (1, [.ref q, .int len, .int u30x, .int br])), (q, .inl (dA 0, 400, .inl f)), (b, .inr (4, [.ref sq, .int 5, .int va, .int nn])), (sq, .inl (dA 3, 12, .inr (.inl st)))]) rfl rfl; exact hnd) ?_)
          refine jm_iconst (v := 1) X d_CR_takeSign_84 (by decide) ?_
          exact jm_zret X hr (by first | rfl | (subst eu30x; subst eu30; (repeat' split) <;> rfl)) hk d_CR_takeSign_85 ⟨(by show Outcome.returned _ = Outcome.returned _; unfold f_CR_takeSign; subst eu30x; subst eu30; first | (simp only [if_pos c1, if_pos c5, if_pos c6, if_neg c7, reduceIte]; done) | (simp only [if_pos c1, if_pos c5, if_pos c6, if_neg c7, reduceIte]; rfl) | rfl), (by show jm_us h _ = jm_us h _; unfold f_CR_takeSign_a_2 f_CR_takeSign_a_3 f_CR_takeSign_b_1 f_CR_takeSign_b_2 f_CR_takeSign_b_3; subst eu30x; subst eu30; first | (simp only [if_pos c1, if_pos c5, if_pos c6, if_neg c7, reduceIte]; done) | (simp only [if_pos c1, if_pos c5, if_pos c6, if_neg c7, reduceIte]; rfl) | rfl)⟩
    · refine jm_aload_n X d_CR_takeSign_14 rfl 1 rfl ?_
      refine jm_iconst (v := 4) X d_CR_takeSign_15 (by decide) ?_
      refine jm_put X d_CR_takeSign_16 fs_CR_47 (by refine jm_us_get ?_ 2 rfl; exact hnd) rfl rfl (Nat.le_of_ble_eq_true rfl) (fs1 := [.ref sq, .int 4, .int vl, .int nn]) rfl (jm_hq (by refine jm_us_set ?_ 2 (L1 := [(a, .inr (1, [.ref q, .int len, .int (f_T_take_a_2 87 len at_ br f), .int br])), (q, .inl (dA 0, 400, .inl f)), (b, .inr (4, [.ref sq, .int 4, .int vl, .int nn])), (sq, .inl (dA 3, 12, .inr (.inl st)))]) rfl rfl; exact hnd) ?_)
      refine jm_goto (tgt := 79) X d_CR_takeSign_19 (by decide) ?_
      refine jm_aload_n X d_CR_takeSign_79 rfl 1 rfl ?_
      refine jm_iload_n X d_CR_takeSign_80 rfl 3 rfl ?_
      refine jm_put X d_CR_takeSign_81 fs_CR_107 (by refine jm_us_get ?_ 2 rfl; exact hnd) rfl rfl (Nat.le_of_ble_eq_true rfl) (fs1 := [.ref sq, .int 4, .int va, .int nn]) rfl (jm_hq (by refine jm_us_set ?_ 2 (L1 := [(a, .inr (1, [.ref q, .int len, .int (f_T_take_a_2 87 len at_ br f), .int br])), (q, .inl (dA 0, 400, .inl f)), (b, .inr (4, [.ref sq, .int 4, .int va, .int nn])), (sq, .inl (dA 3, 12, .inr (.inl st)))]) rfl rfl; exact hnd) ?_)
      refine jm_iconst (v := 1) X d_CR_takeSign_84 (by decide) ?_
      exact jm_zret X hr (by first | rfl | ((repeat' split) <;> rfl)) hk d_CR_takeSign_85 ⟨(by show Outcome.returned _ = Outcome.returned _; unfold f_CR_takeSign; first | (simp only [if_pos c1, if_neg c5, reduceIte]; done) | (simp only [if_pos c1, if_neg c5, reduceIte]; rfl) | rfl), (by show jm_us h _ = jm_us h _; unfold f_CR_takeSign_a_2 f_CR_takeSign_a_3 f_CR_takeSign_b_1 f_CR_takeSign_b_2 f_CR_takeSign_b_3; first | (simp only [if_pos c1, if_neg c5, reduceIte]; done) | (simp only [if_pos c1, if_neg c5, reduceIte]; rfl) | rfl)⟩
end
section
theorem jm_ite0 {P : Prop} [Decidable P] {x y : Int32} (hx : 0 ≤ x) (hy : 0 ≤ y) : 0 ≤ (if P then x else y) := by
  by_cases c : P
  · rw [if_pos c]; exact hx
  · rw [if_neg c]; exact hy
theorem jm_yr_at {mo wk wd mi len at_ br : Int32} {f : Nat → Int32} (p1 : 0 ≤ at_) : 0 ≤ f_Y_readFrom_a_2 mo wk wd mi len at_ br f := by
  unfold f_Y_readFrom_a_2
  repeat first | with_reducible assumption | (with_reducible refine jm_req_at ?_ ?_) | (with_reducible refine jm_num_at ?_) | decide
def f_C_clear_a_1 (dr : Int32) (vl : Int32) (nn : Int32) (st : Nat → Int64) : Int32 :=
  0
def f_C_clear_sq (dr : Int32) (vl : Int32) (nn : Int32) (st : Nat → Int64) : Nat → Int64 :=
  vp_updL (vp_updL (vp_updL (vp_updL (vp_updL (vp_updL (vp_updL (vp_updL (vp_updL (vp_updL (vp_updL (vp_updL st (0 : Int32).toNatClampNeg 0) (1 : Int32).toNatClampNeg 0) (2 : Int32).toNatClampNeg 0) (3 : Int32).toNatClampNeg 0) (4 : Int32).toNatClampNeg 0) (5 : Int32).toNatClampNeg 0) (6 : Int32).toNatClampNeg 0) (7 : Int32).toNatClampNeg 0) (8 : Int32).toNatClampNeg 0) (9 : Int32).toNatClampNeg 0) (10 : Int32).toNatClampNeg 0) (11 : Int32).toNatClampNeg 0
set_option maxRecDepth 20000 in
set_option maxHeartbeats 800000 in
theorem k_C_clear {l : Launch} {S : State} {D : va_G} {dA : Nat → ClassId} (E : jm_en S D jm_cl (jm_ty dA) jm_G) (a : Nat) (sq : Nat) (dr : Int32) (vl : Int32) (nn : Int32) (st : Nat → Int64) (h : jm_H) (h_a : h a = some (.inr (4, [.ref sq, .int dr, .int vl, .int nn]))) (h_sq : h sq = some (.inl (dA 3, 12, .inr (.inl st)))) (hnd : ([a, sq] : List Nat).Nodup)  : jm_M l S D jm_cl y_C_clear (Cond.code y_C_clear b_C_clear 2 (none)) { frames := 0, cells := 0, slots := 0, locals := 0 } [.ref a] h (jm_R none (jm_us h [(a, .inr (4, [.ref sq, .int (f_C_clear_a_1 dr vl nn st), .int vl, .int nn])), (sq, .inl (dA 3, 12, .inr (.inl (f_C_clear_sq dr vl nn st))))])) 0 0 := by
  refine jm_ofW E (by decide) (Nat.le_of_ble_eq_true rfl) (fun p e s m below meth c X hr hk hmn hout hadm => ?_)
  have X : jm_cx p s m ([.ref a] : List Value).toArray c S D jm_cl (jm_ty dA) jm_G b_C_clear 2 "JobHouse$Cron" := X
  have hL : ∀ zz ∈ ([(a, .inr (4, [.ref sq, .int dr, .int vl, .int nn])), (sq, .inl (dA 3, 12, .inr (.inl st)))] : List (Nat × va_E)), h zz.1 = some zz.2 := List.forall_mem_cons.mpr ⟨h_a, List.forall_mem_cons.mpr ⟨h_sq, fun _ hz => absurd hz List.not_mem_nil⟩⟩
  refine jm_hq (jm_us_id hL).symm ?_
  show jm_W p l e ({ frames := 0, cells := 0, slots := 0, locals := 0 }) s m ([.ref a] : List Value).toArray below meth c S D jm_cl (jm_Q S D jm_cl below s (jm_R none (jm_us h [(a, .inr (4, [.ref sq, .int (f_C_clear_a_1 dr vl nn st), .int vl, .int nn])), (sq, .inl (dA 3, 12, .inr (.inl (f_C_clear_sq dr vl nn st))))])) 0 0) 2 0 [(0, .ref a)] [] (jm_us h [(a, .inr (4, [.ref sq, .int dr, .int vl, .int nn])), (sq, .inl (dA 3, 12, .inr (.inl st)))]) 0 0
  refine jm_iconst (v := 0) X d_C_clear_0 (by decide) ?_
  refine jm_istore_n X d_C_clear_1 rfl (by decide) (lv1 := [(1, .int 0), (0, .ref a)]) rfl ?_
  refine jm_iload_n X d_C_clear_2 rfl 0 rfl ?_
  refine jm_bipush (v := 12) X d_C_clear_3 (by decide) ?_
  refine jm_icmp_ge (tgt := 21) X d_C_clear_5 (by decide) (fun q => absurd q (by decide)) (fun _ => ?_)
  refine jm_aload_n X d_C_clear_8 rfl 1 rfl ?_
  refine jm_get X d_C_clear_9 fs_C_11 (by refine jm_us_get ?_ 0 rfl; exact hnd) rfl ?_
  refine jm_iload_n X d_C_clear_12 rfl 0 rfl ?_
  refine jm_lconst (v := 0) X d_C_clear_13 (by decide) ?_
  refine jm_last (t0 := 3) X d_C_clear_14 rfl (by refine jm_us_get ?_ 1 rfl; exact hnd) (by unfold vp_in; decide) (jm_hq (by refine jm_us_set ?_ 1 (L1 := [(a, .inr (4, [.ref sq, .int dr, .int vl, .int nn])), (sq, .inl (dA 3, 12, .inr (.inl (vp_updL st (0 : Int32).toNatClampNeg 0))))]) rfl rfl; exact hnd) ?_)
  refine jm_iinc X d_C_clear_15 0 rfl (v := 1) (by decide) (by decide) (lv1 := [(1, .int 1), (0, .ref a)]) rfl ?_
  refine jm_goto (tgt := 2) X d_C_clear_18 (by decide) ?_
  refine jm_iload_n X d_C_clear_2 rfl 0 rfl ?_
  refine jm_bipush (v := 12) X d_C_clear_3 (by decide) ?_
  refine jm_icmp_ge (tgt := 21) X d_C_clear_5 (by decide) (fun q => absurd q (by decide)) (fun _ => ?_)
  refine jm_aload_n X d_C_clear_8 rfl 1 rfl ?_
  refine jm_get X d_C_clear_9 fs_C_11 (by refine jm_us_get ?_ 0 rfl; exact hnd) rfl ?_
  refine jm_iload_n X d_C_clear_12 rfl 0 rfl ?_
  refine jm_lconst (v := 0) X d_C_clear_13 (by decide) ?_
  refine jm_last (t0 := 3) X d_C_clear_14 rfl (by refine jm_us_get ?_ 1 rfl; exact hnd) (by unfold vp_in; decide) (jm_hq (by refine jm_us_set ?_ 1 (L1 := [(a, .inr (4, [.ref sq, .int dr, .int vl, .int nn])), (sq, .inl (dA 3, 12, .inr (.inl (vp_updL (vp_updL st (0 : Int32).toNatClampNeg 0) (1 : Int32).toNatClampNeg 0))))]) rfl rfl; exact hnd) ?_)
  refine jm_iinc X d_C_clear_15 0 rfl (v := 2) (by decide) (by decide) (lv1 := [(1, .int 2), (0, .ref a)]) rfl ?_
  refine jm_goto (tgt := 2) X d_C_clear_18 (by decide) ?_
  refine jm_iload_n X d_C_clear_2 rfl 0 rfl ?_
  refine jm_bipush (v := 12) X d_C_clear_3 (by decide) ?_
  refine jm_icmp_ge (tgt := 21) X d_C_clear_5 (by decide) (fun q => absurd q (by decide)) (fun _ => ?_)
  refine jm_aload_n X d_C_clear_8 rfl 1 rfl ?_
  refine jm_get X d_C_clear_9 fs_C_11 (by refine jm_us_get ?_ 0 rfl; exact hnd) rfl ?_
  refine jm_iload_n X d_C_clear_12 rfl 0 rfl ?_
  refine jm_lconst (v := 0) X d_C_clear_13 (by decide) ?_
  refine jm_last (t0 := 3) X d_C_clear_14 rfl (by refine jm_us_get ?_ 1 rfl; exact hnd) (by unfold vp_in; decide) (jm_hq (by refine jm_us_set ?_ 1 (L1 := [(a, .inr (4, [.ref sq, .int dr, .int vl, .int nn])), (sq, .inl (dA 3, 12, .inr (.inl (vp_updL (vp_updL (vp_updL st (0 : Int32).toNatClampNeg 0) (1 : Int32).toNatClampNeg 0) (2 : Int32).toNatClampNeg 0))))]) rfl rfl; exact hnd) ?_)
  refine jm_iinc X d_C_clear_15 0 rfl (v := 3) (by decide) (by decide) (lv1 := [(1, .int 3), (0, .ref a)]) rfl ?_
  refine jm_goto (tgt := 2) X d_C_clear_18 (by decide) ?_
  refine jm_iload_n X d_C_clear_2 rfl 0 rfl ?_
  refine jm_bipush (v := 12) X d_C_clear_3 (by decide) ?_
  refine jm_icmp_ge (tgt := 21) X d_C_clear_5 (by decide) (fun q => absurd q (by decide)) (fun _ => ?_)
  refine jm_aload_n X d_C_clear_8 rfl 1 rfl ?_
  refine jm_get X d_C_clear_9 fs_C_11 (by refine jm_us_get ?_ 0 rfl; exact hnd) rfl ?_
  refine jm_iload_n X d_C_clear_12 rfl 0 rfl ?_
  refine jm_lconst (v := 0) X d_C_clear_13 (by decide) ?_
  refine jm_last (t0 := 3) X d_C_clear_14 rfl (by refine jm_us_get ?_ 1 rfl; exact hnd) (by unfold vp_in; decide) (jm_hq (by refine jm_us_set ?_ 1 (L1 := [(a, .inr (4, [.ref sq, .int dr, .int vl, .int nn])), (sq, .inl (dA 3, 12, .inr (.inl (vp_updL (vp_updL (vp_updL (vp_updL st (0 : Int32).toNatClampNeg 0) (1 : Int32).toNatClampNeg 0) (2 : Int32).toNatClampNeg 0) (3 : Int32).toNatClampNeg 0))))]) rfl rfl; exact hnd) ?_)
  refine jm_iinc X d_C_clear_15 0 rfl (v := 4) (by decide) (by decide) (lv1 := [(1, .int 4), (0, .ref a)]) rfl ?_
  refine jm_goto (tgt := 2) X d_C_clear_18 (by decide) ?_
  refine jm_iload_n X d_C_clear_2 rfl 0 rfl ?_
  refine jm_bipush (v := 12) X d_C_clear_3 (by decide) ?_
  refine jm_icmp_ge (tgt := 21) X d_C_clear_5 (by decide) (fun q => absurd q (by decide)) (fun _ => ?_)
  refine jm_aload_n X d_C_clear_8 rfl 1 rfl ?_
  refine jm_get X d_C_clear_9 fs_C_11 (by refine jm_us_get ?_ 0 rfl; exact hnd) rfl ?_
  refine jm_iload_n X d_C_clear_12 rfl 0 rfl ?_
  refine jm_lconst (v := 0) X d_C_clear_13 (by decide) ?_
  refine jm_last (t0 := 3) X d_C_clear_14 rfl (by refine jm_us_get ?_ 1 rfl; exact hnd) (by unfold vp_in; decide) (jm_hq (by refine jm_us_set ?_ 1 (L1 := [(a, .inr (4, [.ref sq, .int dr, .int vl, .int nn])), (sq, .inl (dA 3, 12, .inr (.inl (vp_updL (vp_updL (vp_updL (vp_updL (vp_updL st (0 : Int32).toNatClampNeg 0) (1 : Int32).toNatClampNeg 0) (2 : Int32).toNatClampNeg 0) (3 : Int32).toNatClampNeg 0) (4 : Int32).toNatClampNeg 0))))]) rfl rfl; exact hnd) ?_)
  refine jm_iinc X d_C_clear_15 0 rfl (v := 5) (by decide) (by decide) (lv1 := [(1, .int 5), (0, .ref a)]) rfl ?_
  refine jm_goto (tgt := 2) X d_C_clear_18 (by decide) ?_
  refine jm_iload_n X d_C_clear_2 rfl 0 rfl ?_
  refine jm_bipush (v := 12) X d_C_clear_3 (by decide) ?_
  refine jm_icmp_ge (tgt := 21) X d_C_clear_5 (by decide) (fun q => absurd q (by decide)) (fun _ => ?_)
  refine jm_aload_n X d_C_clear_8 rfl 1 rfl ?_
  refine jm_get X d_C_clear_9 fs_C_11 (by refine jm_us_get ?_ 0 rfl; exact hnd) rfl ?_
  refine jm_iload_n X d_C_clear_12 rfl 0 rfl ?_
  refine jm_lconst (v := 0) X d_C_clear_13 (by decide) ?_
  refine jm_last (t0 := 3) X d_C_clear_14 rfl (by refine jm_us_get ?_ 1 rfl; exact hnd) (by unfold vp_in; decide) (jm_hq (by refine jm_us_set ?_ 1 (L1 := [(a, .inr (4, [.ref sq, .int dr, .int vl, .int nn])), (sq, .inl (dA 3, 12, .inr (.inl (vp_updL (vp_updL (vp_updL (vp_updL (vp_updL (vp_updL st (0 : Int32).toNatClampNeg 0) (1 : Int32).toNatClampNeg 0) (2 : Int32).toNatClampNeg 0) (3 : Int32).toNatClampNeg 0) (4 : Int32).toNatClampNeg 0) (5 : Int32).toNatClampNeg 0))))]) rfl rfl; exact hnd) ?_)
  refine jm_iinc X d_C_clear_15 0 rfl (v := 6) (by decide) (by decide) (lv1 := [(1, .int 6), (0, .ref a)]) rfl ?_
  refine jm_goto (tgt := 2) X d_C_clear_18 (by decide) ?_
  refine jm_iload_n X d_C_clear_2 rfl 0 rfl ?_
  refine jm_bipush (v := 12) X d_C_clear_3 (by decide) ?_
  refine jm_icmp_ge (tgt := 21) X d_C_clear_5 (by decide) (fun q => absurd q (by decide)) (fun _ => ?_)
  refine jm_aload_n X d_C_clear_8 rfl 1 rfl ?_
  refine jm_get X d_C_clear_9 fs_C_11 (by refine jm_us_get ?_ 0 rfl; exact hnd) rfl ?_
  refine jm_iload_n X d_C_clear_12 rfl 0 rfl ?_
  refine jm_lconst (v := 0) X d_C_clear_13 (by decide) ?_
  refine jm_last (t0 := 3) X d_C_clear_14 rfl (by refine jm_us_get ?_ 1 rfl; exact hnd) (by unfold vp_in; decide) (jm_hq (by refine jm_us_set ?_ 1 (L1 := [(a, .inr (4, [.ref sq, .int dr, .int vl, .int nn])), (sq, .inl (dA 3, 12, .inr (.inl (vp_updL (vp_updL (vp_updL (vp_updL (vp_updL (vp_updL (vp_updL st (0 : Int32).toNatClampNeg 0) (1 : Int32).toNatClampNeg 0) (2 : Int32).toNatClampNeg 0) (3 : Int32).toNatClampNeg 0) (4 : Int32).toNatClampNeg 0) (5 : Int32).toNatClampNeg 0) (6 : Int32).toNatClampNeg 0))))]) rfl rfl; exact hnd) ?_)
  refine jm_iinc X d_C_clear_15 0 rfl (v := 7) (by decide) (by decide) (lv1 := [(1, .int 7), (0, .ref a)]) rfl ?_
  refine jm_goto (tgt := 2) X d_C_clear_18 (by decide) ?_
  refine jm_iload_n X d_C_clear_2 rfl 0 rfl ?_
  refine jm_bipush (v := 12) X d_C_clear_3 (by decide) ?_
  refine jm_icmp_ge (tgt := 21) X d_C_clear_5 (by decide) (fun q => absurd q (by decide)) (fun _ => ?_)
  refine jm_aload_n X d_C_clear_8 rfl 1 rfl ?_
  refine jm_get X d_C_clear_9 fs_C_11 (by refine jm_us_get ?_ 0 rfl; exact hnd) rfl ?_
  refine jm_iload_n X d_C_clear_12 rfl 0 rfl ?_
  refine jm_lconst (v := 0) X d_C_clear_13 (by decide) ?_
  refine jm_last (t0 := 3) X d_C_clear_14 rfl (by refine jm_us_get ?_ 1 rfl; exact hnd) (by unfold vp_in; decide) (jm_hq (by refine jm_us_set ?_ 1 (L1 := [(a, .inr (4, [.ref sq, .int dr, .int vl, .int nn])), (sq, .inl (dA 3, 12, .inr (.inl (vp_updL (vp_updL (vp_updL (vp_updL (vp_updL (vp_updL (vp_updL (vp_updL st (0 : Int32).toNatClampNeg 0) (1 : Int32).toNatClampNeg 0) (2 : Int32).toNatClampNeg 0) (3 : Int32).toNatClampNeg 0) (4 : Int32).toNatClampNeg 0) (5 : Int32).toNatClampNeg 0) (6 : Int32).toNatClampNeg 0) (7 : Int32).toNatClampNeg 0))))]) rfl rfl; exact hnd) ?_)
  refine jm_iinc X d_C_clear_15 0 rfl (v := 8) (by decide) (by decide) (lv1 := [(1, .int 8), (0, .ref a)]) rfl ?_
  refine jm_goto (tgt := 2) X d_C_clear_18 (by decide) ?_
  refine jm_iload_n X d_C_clear_2 rfl 0 rfl ?_
  refine jm_bipush (v := 12) X d_C_clear_3 (by decide) ?_
  refine jm_icmp_ge (tgt := 21) X d_C_clear_5 (by decide) (fun q => absurd q (by decide)) (fun _ => ?_)
  refine jm_aload_n X d_C_clear_8 rfl 1 rfl ?_
  refine jm_get X d_C_clear_9 fs_C_11 (by refine jm_us_get ?_ 0 rfl; exact hnd) rfl ?_
  refine jm_iload_n X d_C_clear_12 rfl 0 rfl ?_
  refine jm_lconst (v := 0) X d_C_clear_13 (by decide) ?_
  refine jm_last (t0 := 3) X d_C_clear_14 rfl (by refine jm_us_get ?_ 1 rfl; exact hnd) (by unfold vp_in; decide) (jm_hq (by refine jm_us_set ?_ 1 (L1 := [(a, .inr (4, [.ref sq, .int dr, .int vl, .int nn])), (sq, .inl (dA 3, 12, .inr (.inl (vp_updL (vp_updL (vp_updL (vp_updL (vp_updL (vp_updL (vp_updL (vp_updL (vp_updL st (0 : Int32).toNatClampNeg 0) (1 : Int32).toNatClampNeg 0) (2 : Int32).toNatClampNeg 0) (3 : Int32).toNatClampNeg 0) (4 : Int32).toNatClampNeg 0) (5 : Int32).toNatClampNeg 0) (6 : Int32).toNatClampNeg 0) (7 : Int32).toNatClampNeg 0) (8 : Int32).toNatClampNeg 0))))]) rfl rfl; exact hnd) ?_)
  refine jm_iinc X d_C_clear_15 0 rfl (v := 9) (by decide) (by decide) (lv1 := [(1, .int 9), (0, .ref a)]) rfl ?_
  refine jm_goto (tgt := 2) X d_C_clear_18 (by decide) ?_
  refine jm_iload_n X d_C_clear_2 rfl 0 rfl ?_
  refine jm_bipush (v := 12) X d_C_clear_3 (by decide) ?_
  refine jm_icmp_ge (tgt := 21) X d_C_clear_5 (by decide) (fun q => absurd q (by decide)) (fun _ => ?_)
  refine jm_aload_n X d_C_clear_8 rfl 1 rfl ?_
  refine jm_get X d_C_clear_9 fs_C_11 (by refine jm_us_get ?_ 0 rfl; exact hnd) rfl ?_
  refine jm_iload_n X d_C_clear_12 rfl 0 rfl ?_
  refine jm_lconst (v := 0) X d_C_clear_13 (by decide) ?_
  refine jm_last (t0 := 3) X d_C_clear_14 rfl (by refine jm_us_get ?_ 1 rfl; exact hnd) (by unfold vp_in; decide) (jm_hq (by refine jm_us_set ?_ 1 (L1 := [(a, .inr (4, [.ref sq, .int dr, .int vl, .int nn])), (sq, .inl (dA 3, 12, .inr (.inl (vp_updL (vp_updL (vp_updL (vp_updL (vp_updL (vp_updL (vp_updL (vp_updL (vp_updL (vp_updL st (0 : Int32).toNatClampNeg 0) (1 : Int32).toNatClampNeg 0) (2 : Int32).toNatClampNeg 0) (3 : Int32).toNatClampNeg 0) (4 : Int32).toNatClampNeg 0) (5 : Int32).toNatClampNeg 0) (6 : Int32).toNatClampNeg 0) (7 : Int32).toNatClampNeg 0) (8 : Int32).toNatClampNeg 0) (9 : Int32).toNatClampNeg 0))))]) rfl rfl; exact hnd) ?_)
  refine jm_iinc X d_C_clear_15 0 rfl (v := 10) (by decide) (by decide) (lv1 := [(1, .int 10), (0, .ref a)]) rfl ?_
  refine jm_goto (tgt := 2) X d_C_clear_18 (by decide) ?_
  refine jm_iload_n X d_C_clear_2 rfl 0 rfl ?_
  refine jm_bipush (v := 12) X d_C_clear_3 (by decide) ?_
  refine jm_icmp_ge (tgt := 21) X d_C_clear_5 (by decide) (fun q => absurd q (by decide)) (fun _ => ?_)
  refine jm_aload_n X d_C_clear_8 rfl 1 rfl ?_
  refine jm_get X d_C_clear_9 fs_C_11 (by refine jm_us_get ?_ 0 rfl; exact hnd) rfl ?_
  refine jm_iload_n X d_C_clear_12 rfl 0 rfl ?_
  refine jm_lconst (v := 0) X d_C_clear_13 (by decide) ?_
  refine jm_last (t0 := 3) X d_C_clear_14 rfl (by refine jm_us_get ?_ 1 rfl; exact hnd) (by unfold vp_in; decide) (jm_hq (by refine jm_us_set ?_ 1 (L1 := [(a, .inr (4, [.ref sq, .int dr, .int vl, .int nn])), (sq, .inl (dA 3, 12, .inr (.inl (vp_updL (vp_updL (vp_updL (vp_updL (vp_updL (vp_updL (vp_updL (vp_updL (vp_updL (vp_updL (vp_updL st (0 : Int32).toNatClampNeg 0) (1 : Int32).toNatClampNeg 0) (2 : Int32).toNatClampNeg 0) (3 : Int32).toNatClampNeg 0) (4 : Int32).toNatClampNeg 0) (5 : Int32).toNatClampNeg 0) (6 : Int32).toNatClampNeg 0) (7 : Int32).toNatClampNeg 0) (8 : Int32).toNatClampNeg 0) (9 : Int32).toNatClampNeg 0) (10 : Int32).toNatClampNeg 0))))]) rfl rfl; exact hnd) ?_)
  refine jm_iinc X d_C_clear_15 0 rfl (v := 11) (by decide) (by decide) (lv1 := [(1, .int 11), (0, .ref a)]) rfl ?_
  refine jm_goto (tgt := 2) X d_C_clear_18 (by decide) ?_
  refine jm_iload_n X d_C_clear_2 rfl 0 rfl ?_
  refine jm_bipush (v := 12) X d_C_clear_3 (by decide) ?_
  refine jm_icmp_ge (tgt := 21) X d_C_clear_5 (by decide) (fun q => absurd q (by decide)) (fun _ => ?_)
  refine jm_aload_n X d_C_clear_8 rfl 1 rfl ?_
  refine jm_get X d_C_clear_9 fs_C_11 (by refine jm_us_get ?_ 0 rfl; exact hnd) rfl ?_
  refine jm_iload_n X d_C_clear_12 rfl 0 rfl ?_
  refine jm_lconst (v := 0) X d_C_clear_13 (by decide) ?_
  refine jm_last (t0 := 3) X d_C_clear_14 rfl (by refine jm_us_get ?_ 1 rfl; exact hnd) (by unfold vp_in; decide) (jm_hq (by refine jm_us_set ?_ 1 (L1 := [(a, .inr (4, [.ref sq, .int dr, .int vl, .int nn])), (sq, .inl (dA 3, 12, .inr (.inl (vp_updL (vp_updL (vp_updL (vp_updL (vp_updL (vp_updL (vp_updL (vp_updL (vp_updL (vp_updL (vp_updL (vp_updL st (0 : Int32).toNatClampNeg 0) (1 : Int32).toNatClampNeg 0) (2 : Int32).toNatClampNeg 0) (3 : Int32).toNatClampNeg 0) (4 : Int32).toNatClampNeg 0) (5 : Int32).toNatClampNeg 0) (6 : Int32).toNatClampNeg 0) (7 : Int32).toNatClampNeg 0) (8 : Int32).toNatClampNeg 0) (9 : Int32).toNatClampNeg 0) (10 : Int32).toNatClampNeg 0) (11 : Int32).toNatClampNeg 0))))]) rfl rfl; exact hnd) ?_)
  refine jm_iinc X d_C_clear_15 0 rfl (v := 12) (by decide) (by decide) (lv1 := [(1, .int 12), (0, .ref a)]) rfl ?_
  refine jm_goto (tgt := 2) X d_C_clear_18 (by decide) ?_
  refine jm_iload_n X d_C_clear_2 rfl 0 rfl ?_
  refine jm_bipush (v := 12) X d_C_clear_3 (by decide) ?_
  refine jm_icmp_ge (tgt := 21) X d_C_clear_5 (by decide) (fun _ => ?_) (fun q => absurd (by decide) q)
  refine jm_aload_n X d_C_clear_21 rfl 1 rfl ?_
  refine jm_iconst (v := 0) X d_C_clear_22 (by decide) ?_
  refine jm_put X d_C_clear_23 fs_C_15 (by refine jm_us_get ?_ 0 rfl; exact hnd) rfl rfl (Nat.le_of_ble_eq_true rfl) (fs1 := [.ref sq, .int 0, .int vl, .int nn]) rfl (jm_hq (by refine jm_us_set ?_ 0 (L1 := [(a, .inr (4, [.ref sq, .int 0, .int vl, .int nn])), (sq, .inl (dA 3, 12, .inr (.inl (vp_updL (vp_updL (vp_updL (vp_updL (vp_updL (vp_updL (vp_updL (vp_updL (vp_updL (vp_updL (vp_updL (vp_updL st (0 : Int32).toNatClampNeg 0) (1 : Int32).toNatClampNeg 0) (2 : Int32).toNatClampNeg 0) (3 : Int32).toNatClampNeg 0) (4 : Int32).toNatClampNeg 0) (5 : Int32).toNatClampNeg 0) (6 : Int32).toNatClampNeg 0) (7 : Int32).toNatClampNeg 0) (8 : Int32).toNatClampNeg 0) (9 : Int32).toNatClampNeg 0) (10 : Int32).toNatClampNeg 0) (11 : Int32).toNatClampNeg 0))))]) rfl rfl; exact hnd) ?_)
  exact jm_vret X hr hk d_C_clear_26 ⟨rfl, (by show jm_us h _ = jm_us h _; unfold f_C_clear_a_1 f_C_clear_sq; rfl)⟩
def f_CR_takeWeekdayRule (len : Int32) (at_ : Int32) (br : Int32) (f : Nat → Int32) (dr : Int32) (vl : Int32) (nn : Int32) (st : Nat → Int64) : Int32 :=
  if dr = 1 then (if (f_T_take 76 len at_ br f) = 0 then 0 else 1) else 1
def f_CR_takeWeekdayRule_a_2 (len : Int32) (at_ : Int32) (br : Int32) (f : Nat → Int32) (dr : Int32) (vl : Int32) (nn : Int32) (st : Nat → Int64) : Int32 :=
  if dr = 1 then (f_T_take_a_2 76 len at_ br f) else (f_T_require_a_2 63 len at_ br f)
def f_CR_takeWeekdayRule_a_3 (len : Int32) (at_ : Int32) (br : Int32) (f : Nat → Int32) (dr : Int32) (vl : Int32) (nn : Int32) (st : Nat → Int64) : Int32 :=
  if dr = 1 then br else (f_T_require_a_3 63 len at_ br f)
def f_CR_takeWeekdayRule_sq (len : Int32) (at_ : Int32) (br : Int32) (f : Nat → Int32) (dr : Int32) (vl : Int32) (nn : Int32) (st : Nat → Int64) : Nat → Int64 :=
  if dr = 1 then (if (f_T_take 76 len at_ br f) = 0 then st else (f_C_add_sq 5 7 dr vl nn st)) else st
set_option maxRecDepth 20000 in
set_option maxHeartbeats 800000 in
theorem k_CR_takeWeekdayRule {l : Launch} {S : State} {D : va_G} {dA : Nat → ClassId} (E : jm_en S D jm_cl (jm_ty dA) jm_G) (a : Nat) (b : Nat) (q : Nat) (len : Int32) (at_ : Int32) (br : Int32) (f : Nat → Int32) (sq : Nat) (dr : Int32) (vl : Int32) (nn : Int32) (st : Nat → Int64) (h : jm_H) (h_a : h a = some (.inr (1, [.ref q, .int len, .int at_, .int br]))) (h_q : h q = some (.inl (dA 0, 400, .inl f))) (h_b : h b = some (.inr (4, [.ref sq, .int dr, .int vl, .int nn]))) (h_sq : h sq = some (.inl (dA 3, 12, .inr (.inl st)))) (hnd : ([a, q, b, sq] : List Nat).Nodup) (p1 : 0 ≤ at_) (p2 : len ≤ 400) : jm_M l S D jm_cl y_CR_takeWeekdayRule (Cond.code y_CR_takeWeekdayRule b_CR_takeWeekdayRule 2 (some FieldType.boolean)) { frames := 3, cells := 0, slots := 0, locals := 62 } [.ref a, .ref b] h (jm_R (some (.int (f_CR_takeWeekdayRule len at_ br f dr vl nn st))) (jm_us h [(a, .inr (1, [.ref q, .int len, .int (f_CR_takeWeekdayRule_a_2 len at_ br f dr vl nn st), .int (f_CR_takeWeekdayRule_a_3 len at_ br f dr vl nn st)])), (q, .inl (dA 0, 400, .inl f)), (b, .inr (4, [.ref sq, .int dr, .int vl, .int nn])), (sq, .inl (dA 3, 12, .inr (.inl (f_CR_takeWeekdayRule_sq len at_ br f dr vl nn st))))])) 0 0 := by
  refine jm_ofW E (by decide) (Nat.le_of_ble_eq_true rfl) (fun p e s m below meth c X hr hk hmn hout hadm => ?_)
  have X : jm_cx p s m ([.ref a, .ref b] : List Value).toArray c S D jm_cl (jm_ty dA) jm_G b_CR_takeWeekdayRule 2 "JobHouse$CronReader" := X
  have hL : ∀ zz ∈ ([(a, .inr (1, [.ref q, .int len, .int at_, .int br])), (q, .inl (dA 0, 400, .inl f)), (b, .inr (4, [.ref sq, .int dr, .int vl, .int nn])), (sq, .inl (dA 3, 12, .inr (.inl st)))] : List (Nat × va_E)), h zz.1 = some zz.2 := List.forall_mem_cons.mpr ⟨h_a, List.forall_mem_cons.mpr ⟨h_q, List.forall_mem_cons.mpr ⟨h_b, List.forall_mem_cons.mpr ⟨h_sq, fun _ hz => absurd hz List.not_mem_nil⟩⟩⟩⟩
  refine jm_hq (jm_us_id hL).symm ?_
  show jm_W p l e ({ frames := 3, cells := 0, slots := 0, locals := 62 }) s m ([.ref a, .ref b] : List Value).toArray below meth c S D jm_cl (jm_Q S D jm_cl below s (jm_R (some (.int (f_CR_takeWeekdayRule len at_ br f dr vl nn st))) (jm_us h [(a, .inr (1, [.ref q, .int len, .int (f_CR_takeWeekdayRule_a_2 len at_ br f dr vl nn st), .int (f_CR_takeWeekdayRule_a_3 len at_ br f dr vl nn st)])), (q, .inl (dA 0, 400, .inl f)), (b, .inr (4, [.ref sq, .int dr, .int vl, .int nn])), (sq, .inl (dA 3, 12, .inr (.inl (f_CR_takeWeekdayRule_sq len at_ br f dr vl nn st))))])) 0 0) 2 0 [(0, .ref a), (1, .ref b)] [] (jm_us h [(a, .inr (1, [.ref q, .int len, .int at_, .int br])), (q, .inl (dA 0, 400, .inl f)), (b, .inr (4, [.ref sq, .int dr, .int vl, .int nn])), (sq, .inl (dA 3, 12, .inr (.inl st)))]) 0 0
  refine jm_aload_n X d_CR_takeWeekdayRule_0 rfl 1 rfl ?_
  refine jm_get X d_CR_takeWeekdayRule_1 fs_CR_47 (by refine jm_us_get ?_ 2 rfl; exact hnd) rfl ?_
  refine jm_iconst (v := 1) X d_CR_takeWeekdayRule_4 (by decide) ?_
  refine jm_icmp_eq (tgt := 16) X d_CR_takeWeekdayRule_5 (by decide) (fun c1 => ?_) (fun c1 => ?_)
  · refine jm_aload_n X d_CR_takeWeekdayRule_16 rfl 0 rfl ?_
    refine jm_bipush (v := 76) X d_CR_takeWeekdayRule_17 (by decide) ?_
    refine jm_callV (rest := []) X d_CR_takeWeekdayRule_19 (k_T_take E a 76 q len at_ br f (jm_us h [(a, .inr (1, [.ref q, .int len, .int at_, .int br])), (q, .inl (dA 0, 400, .inl f)), (b, .inr (4, [.ref sq, .int dr, .int vl, .int nn])), (sq, .inl (dA 3, 12, .inr (.inl st)))]) (by refine jm_us_get ?_ 0 rfl; exact hnd) (by refine jm_us_get ?_ 1 rfl; exact hnd) (by exact jm_pick hnd [0, 1] (by decide) rfl) (by first | with_reducible assumption | ( repeat first | with_reducible assumption | (with_reducible refine jm_req_at ?_ ?_) | (with_reducible refine jm_num_at ?_) | (with_reducible refine jm_bl_at ?_) | (with_reducible refine jm_ite0 ?_ ?_) | (with_reducible refine jm_yr_at ?_) | (with_reducible refine jm_take_at ?_ ?_) | decide) | decide +kernel) (by first | with_reducible assumption | ( repeat first | with_reducible assumption | (with_reducible refine jm_req_at ?_ ?_) | (with_reducible refine jm_num_at ?_) | (with_reducible refine jm_bl_at ?_) | (with_reducible refine jm_ite0 ?_ ?_) | (with_reducible refine jm_yr_at ?_) | (with_reducible refine jm_take_at ?_ ?_) | decide) | decide +kernel)) ci_T_take (Or.inl (jm_g3 53 rfl rfl)) im_T_take se_T_take (by refine jm_us_get ?_ 0 rfl; exact hnd) rfl rfl (Nat.le_of_ble_eq_true rfl) ⟨(Nat.le_of_ble_eq_true rfl), (Nat.le_of_ble_eq_true rfl)⟩ ⟨rfl, rfl⟩ ⟨(Nat.le_of_ble_eq_true rfl), (Nat.le_of_ble_eq_true rfl)⟩ (jm_k1 (jm_hq (by refine jm_into ?_ [0, 1] rfl (L1 := [(a, .inr (1, [.ref q, .int len, .int (f_T_take_a_2 76 len at_ br f), .int br])), (q, .inl (dA 0, 400, .inl f)), (b, .inr (4, [.ref sq, .int dr, .int vl, .int nn])), (sq, .inl (dA 3, 12, .inr (.inl st)))]) rfl; exact hnd) ?_))
    refine jm_if_eq (tgt := 34) X d_CR_takeWeekdayRule_22 (by decide) (fun c2 => ?_) (fun c2 => ?_)
    · refine jm_iconst (v := 0) X d_CR_takeWeekdayRule_34 (by decide) ?_
      exact jm_zret X hr (by first | rfl | ((repeat' split) <;> rfl)) hk d_CR_takeWeekdayRule_35 ⟨(by show Outcome.returned _ = Outcome.returned _; unfold f_CR_takeWeekdayRule; first | (simp only [if_pos c1, if_pos c2, reduceIte]; done) | (simp only [if_pos c1, if_pos c2, reduceIte]; rfl) | rfl), (by show jm_us h _ = jm_us h _; unfold f_CR_takeWeekdayRule_a_2 f_CR_takeWeekdayRule_a_3 f_CR_takeWeekdayRule_sq; first | (simp only [if_pos c1, if_pos c2, reduceIte]; done) | (simp only [if_pos c1, if_pos c2, reduceIte]; rfl) | rfl)⟩
    · refine jm_aload_n X d_CR_takeWeekdayRule_25 rfl 1 rfl ?_
      refine jm_iconst (v := 5) X d_CR_takeWeekdayRule_26 (by decide) ?_
      refine jm_bipush (v := 7) X d_CR_takeWeekdayRule_27 (by decide) ?_
      refine jm_callV (rest := []) X d_CR_takeWeekdayRule_29 (k_C_add E b 5 7 sq dr vl nn st (jm_us h [(a, .inr (1, [.ref q, .int len, .int (f_T_take_a_2 76 len at_ br f), .int br])), (q, .inl (dA 0, 400, .inl f)), (b, .inr (4, [.ref sq, .int dr, .int vl, .int nn])), (sq, .inl (dA 3, 12, .inr (.inl st)))]) (by refine jm_us_get ?_ 2 rfl; exact hnd) (by refine jm_us_get ?_ 3 rfl; exact hnd) (by exact jm_pick hnd [2, 3] (by decide) rfl) (fun q_ => absurd q_ (by decide)) (fun _ => by unfold vp_in; decide)) ci_C_add (Or.inl (jm_g3 123 rfl rfl)) im_C_add se_C_add (by refine jm_us_get ?_ 2 rfl; exact hnd) rfl rfl (Nat.le_of_ble_eq_true rfl) ⟨(Nat.le_of_ble_eq_true rfl), (Nat.le_of_ble_eq_true rfl)⟩ ⟨rfl, rfl⟩ ⟨(Nat.le_of_ble_eq_true rfl), (Nat.le_of_ble_eq_true rfl)⟩ (jm_k0 (jm_hq (by refine jm_into ?_ [2, 3] rfl (L1 := [(a, .inr (1, [.ref q, .int len, .int (f_T_take_a_2 76 len at_ br f), .int br])), (q, .inl (dA 0, 400, .inl f)), (b, .inr (4, [.ref sq, .int dr, .int vl, .int nn])), (sq, .inl (dA 3, 12, .inr (.inl (f_C_add_sq 5 7 dr vl nn st))))]) rfl; exact hnd) ?_))
      refine jm_iconst (v := 1) X d_CR_takeWeekdayRule_32 (by decide) ?_
      exact jm_zret X hr (by first | rfl | ((repeat' split) <;> rfl)) hk d_CR_takeWeekdayRule_33 ⟨(by show Outcome.returned _ = Outcome.returned _; unfold f_CR_takeWeekdayRule; first | (simp only [if_pos c1, if_neg c2, reduceIte]; done) | (simp only [if_pos c1, if_neg c2, reduceIte]; rfl) | rfl), (by show jm_us h _ = jm_us h _; unfold f_CR_takeWeekdayRule_a_2 f_CR_takeWeekdayRule_a_3 f_CR_takeWeekdayRule_sq; first | (simp only [if_pos c1, if_neg c2, reduceIte]; done) | (simp only [if_pos c1, if_neg c2, reduceIte]; rfl) | rfl)⟩
  · refine jm_aload_n X d_CR_takeWeekdayRule_8 rfl 0 rfl ?_
    refine jm_bipush (v := 63) X d_CR_takeWeekdayRule_9 (by decide) ?_
    refine jm_callV (rest := []) X d_CR_takeWeekdayRule_11 (k_T_require E a 63 q len at_ br f (jm_us h [(a, .inr (1, [.ref q, .int len, .int at_, .int br])), (q, .inl (dA 0, 400, .inl f)), (b, .inr (4, [.ref sq, .int dr, .int vl, .int nn])), (sq, .inl (dA 3, 12, .inr (.inl st)))]) (by refine jm_us_get ?_ 0 rfl; exact hnd) (by refine jm_us_get ?_ 1 rfl; exact hnd) (by exact jm_pick hnd [0, 1] (by decide) rfl) (by first | with_reducible assumption | ( repeat first | with_reducible assumption | (with_reducible refine jm_req_at ?_ ?_) | (with_reducible refine jm_num_at ?_) | (with_reducible refine jm_bl_at ?_) | (with_reducible refine jm_ite0 ?_ ?_) | (with_reducible refine jm_yr_at ?_) | (with_reducible refine jm_take_at ?_ ?_) | decide) | decide +kernel) (by first | with_reducible assumption | ( repeat first | with_reducible assumption | (with_reducible refine jm_req_at ?_ ?_) | (with_reducible refine jm_num_at ?_) | (with_reducible refine jm_bl_at ?_) | (with_reducible refine jm_ite0 ?_ ?_) | (with_reducible refine jm_yr_at ?_) | (with_reducible refine jm_take_at ?_ ?_) | decide) | decide +kernel)) ci_T_require (Or.inl (jm_g3 137 rfl rfl)) im_T_require se_T_require (by refine jm_us_get ?_ 0 rfl; exact hnd) rfl rfl (Nat.le_of_ble_eq_true rfl) ⟨(Nat.le_of_ble_eq_true rfl), (Nat.le_of_ble_eq_true rfl)⟩ ⟨rfl, rfl⟩ ⟨(Nat.le_of_ble_eq_true rfl), (Nat.le_of_ble_eq_true rfl)⟩ (jm_k0 (jm_hq (by refine jm_into ?_ [0, 1] rfl (L1 := [(a, .inr (1, [.ref q, .int len, .int (f_T_require_a_2 63 len at_ br f), .int (f_T_require_a_3 63 len at_ br f)])), (q, .inl (dA 0, 400, .inl f)), (b, .inr (4, [.ref sq, .int dr, .int vl, .int nn])), (sq, .inl (dA 3, 12, .inr (.inl st)))]) rfl; exact hnd) ?_))
    refine jm_iconst (v := 1) X d_CR_takeWeekdayRule_14 (by decide) ?_
    exact jm_zret X hr (by first | rfl | ((repeat' split) <;> rfl)) hk d_CR_takeWeekdayRule_15 ⟨(by show Outcome.returned _ = Outcome.returned _; unfold f_CR_takeWeekdayRule; first | (simp only [if_neg c1, reduceIte]; done) | (simp only [if_neg c1, reduceIte]; rfl) | rfl), (by show jm_us h _ = jm_us h _; unfold f_CR_takeWeekdayRule_a_2 f_CR_takeWeekdayRule_a_3 f_CR_takeWeekdayRule_sq; first | (simp only [if_neg c1, reduceIte]; done) | (simp only [if_neg c1, reduceIte]; rfl) | rfl)⟩
def f_Z_readFrom_b_0 (ba : Int32) (sv : Int32) (si : Int64) (un : Int64) (of : Int32) (bmo : Int32) (bwk : Int32) (bwd : Int32) (bmi : Int32) (emo : Int32) (ewk : Int32) (ewd : Int32) (emi : Int32) (len : Int32) (at_ : Int32) (br : Int32) (f : Nat → Int32) : Int32 :=
  let v29 : Int32 := if (f_T_take 45 len at_ br f) = 0 then (f_T_require_a_2 43 len (f_T_take_a_2 45 len at_ br f) br f) else (f_T_take_a_2 45 len at_ br f)
  let v29_1 : Int32 := if (f_T_take 45 len at_ br f) = 0 then (f_T_require_a_3 43 len (f_T_take_a_2 45 len at_ br f) br f) else br
  let v49 : Int32 := if (f_T_take 45 len at_ br f) = 0 then (f_T_number 0 840 len v29 v29_1 f) else (-(f_T_number 0 840 len v29 v29_1 f))
  v49 * 60
def f_Z_readFrom_b_1 (ba : Int32) (sv : Int32) (si : Int64) (un : Int64) (of : Int32) (bmo : Int32) (bwk : Int32) (bwd : Int32) (bmi : Int32) (emo : Int32) (ewk : Int32) (ewd : Int32) (emi : Int32) (len : Int32) (at_ : Int32) (br : Int32) (f : Nat → Int32) : Int32 :=
  let v29 : Int32 := if (f_T_take 45 len at_ br f) = 0 then (f_T_require_a_2 43 len (f_T_take_a_2 45 len at_ br f) br f) else (f_T_take_a_2 45 len at_ br f)
  let v29_1 : Int32 := if (f_T_take 45 len at_ br f) = 0 then (f_T_require_a_3 43 len (f_T_take_a_2 45 len at_ br f) br f) else br
  let u56 : Int32 := f_T_isDone len (f_T_number_a_2 0 840 len v29 v29_1 f) (f_T_number_a_3 0 840 len v29 v29_1 f) f
  let u64 : Int32 := f_T_requireBlanks_a_2 len (f_T_number_a_2 0 840 len v29 v29_1 f) (f_T_number_a_3 0 840 len v29 v29_1 f) f
  let u64x : Int32 := f_T_requireBlanks_a_3 len (f_T_number_a_2 0 840 len v29 v29_1 f) (f_T_number_a_3 0 840 len v29 v29_1 f) f
  if u56 = 0 then ((f_T_number 1 120 len u64 u64x f) * 60) else 0
def f_Z_readFrom_b_5 (ba : Int32) (sv : Int32) (si : Int64) (un : Int64) (of : Int32) (bmo : Int32) (bwk : Int32) (bwd : Int32) (bmi : Int32) (emo : Int32) (ewk : Int32) (ewd : Int32) (emi : Int32) (len : Int32) (at_ : Int32) (br : Int32) (f : Nat → Int32) : Int64 :=
  -1152921504606846976
def f_Z_readFrom_bq_0 (ba : Int32) (sv : Int32) (si : Int64) (un : Int64) (of : Int32) (bmo : Int32) (bwk : Int32) (bwd : Int32) (bmi : Int32) (emo : Int32) (ewk : Int32) (ewd : Int32) (emi : Int32) (len : Int32) (at_ : Int32) (br : Int32) (f : Nat → Int32) : Int32 :=
  let v29 : Int32 := if (f_T_take 45 len at_ br f) = 0 then (f_T_require_a_2 43 len (f_T_take_a_2 45 len at_ br f) br f) else (f_T_take_a_2 45 len at_ br f)
  let v29_1 : Int32 := if (f_T_take 45 len at_ br f) = 0 then (f_T_require_a_3 43 len (f_T_take_a_2 45 len at_ br f) br f) else br
  let u56 : Int32 := f_T_isDone len (f_T_number_a_2 0 840 len v29 v29_1 f) (f_T_number_a_3 0 840 len v29 v29_1 f) f
  let u64 : Int32 := f_T_requireBlanks_a_2 len (f_T_number_a_2 0 840 len v29 v29_1 f) (f_T_number_a_3 0 840 len v29 v29_1 f) f
  let u64x : Int32 := f_T_requireBlanks_a_3 len (f_T_number_a_2 0 840 len v29 v29_1 f) (f_T_number_a_3 0 840 len v29 v29_1 f) f
  let u82 : Int32 := f_T_requireBlanks_a_2 len (f_T_number_a_2 1 120 len u64 u64x f) (f_T_number_a_3 1 120 len u64 u64x f) f
  let u82x : Int32 := f_T_requireBlanks_a_3 len (f_T_number_a_2 1 120 len u64 u64x f) (f_T_number_a_3 1 120 len u64 u64x f) f
  let u90 : Int32 := f_Y_readFrom_b_0 bmo bwk bwd bmi len u82 u82x f
  if u56 = 0 then u90 else bmo
def f_Z_readFrom_bq_1 (ba : Int32) (sv : Int32) (si : Int64) (un : Int64) (of : Int32) (bmo : Int32) (bwk : Int32) (bwd : Int32) (bmi : Int32) (emo : Int32) (ewk : Int32) (ewd : Int32) (emi : Int32) (len : Int32) (at_ : Int32) (br : Int32) (f : Nat → Int32) : Int32 :=
  let v29 : Int32 := if (f_T_take 45 len at_ br f) = 0 then (f_T_require_a_2 43 len (f_T_take_a_2 45 len at_ br f) br f) else (f_T_take_a_2 45 len at_ br f)
  let v29_1 : Int32 := if (f_T_take 45 len at_ br f) = 0 then (f_T_require_a_3 43 len (f_T_take_a_2 45 len at_ br f) br f) else br
  let u56 : Int32 := f_T_isDone len (f_T_number_a_2 0 840 len v29 v29_1 f) (f_T_number_a_3 0 840 len v29 v29_1 f) f
  let u64 : Int32 := f_T_requireBlanks_a_2 len (f_T_number_a_2 0 840 len v29 v29_1 f) (f_T_number_a_3 0 840 len v29 v29_1 f) f
  let u64x : Int32 := f_T_requireBlanks_a_3 len (f_T_number_a_2 0 840 len v29 v29_1 f) (f_T_number_a_3 0 840 len v29 v29_1 f) f
  let u82 : Int32 := f_T_requireBlanks_a_2 len (f_T_number_a_2 1 120 len u64 u64x f) (f_T_number_a_3 1 120 len u64 u64x f) f
  let u82x : Int32 := f_T_requireBlanks_a_3 len (f_T_number_a_2 1 120 len u64 u64x f) (f_T_number_a_3 1 120 len u64 u64x f) f
  let u90x : Int32 := f_Y_readFrom_b_1 bmo bwk bwd bmi len u82 u82x f
  if u56 = 0 then u90x else bwk
def f_Z_readFrom_bq_2 (ba : Int32) (sv : Int32) (si : Int64) (un : Int64) (of : Int32) (bmo : Int32) (bwk : Int32) (bwd : Int32) (bmi : Int32) (emo : Int32) (ewk : Int32) (ewd : Int32) (emi : Int32) (len : Int32) (at_ : Int32) (br : Int32) (f : Nat → Int32) : Int32 :=
  let v29 : Int32 := if (f_T_take 45 len at_ br f) = 0 then (f_T_require_a_2 43 len (f_T_take_a_2 45 len at_ br f) br f) else (f_T_take_a_2 45 len at_ br f)
  let v29_1 : Int32 := if (f_T_take 45 len at_ br f) = 0 then (f_T_require_a_3 43 len (f_T_take_a_2 45 len at_ br f) br f) else br
  let u56 : Int32 := f_T_isDone len (f_T_number_a_2 0 840 len v29 v29_1 f) (f_T_number_a_3 0 840 len v29 v29_1 f) f
  let u64 : Int32 := f_T_requireBlanks_a_2 len (f_T_number_a_2 0 840 len v29 v29_1 f) (f_T_number_a_3 0 840 len v29 v29_1 f) f
  let u64x : Int32 := f_T_requireBlanks_a_3 len (f_T_number_a_2 0 840 len v29 v29_1 f) (f_T_number_a_3 0 840 len v29 v29_1 f) f
  let u82 : Int32 := f_T_requireBlanks_a_2 len (f_T_number_a_2 1 120 len u64 u64x f) (f_T_number_a_3 1 120 len u64 u64x f) f
  let u82x : Int32 := f_T_requireBlanks_a_3 len (f_T_number_a_2 1 120 len u64 u64x f) (f_T_number_a_3 1 120 len u64 u64x f) f
  let u90xx : Int32 := f_Y_readFrom_b_2 bmo bwk bwd bmi len u82 u82x f
  if u56 = 0 then u90xx else bwd
def f_Z_readFrom_bq_3 (ba : Int32) (sv : Int32) (si : Int64) (un : Int64) (of : Int32) (bmo : Int32) (bwk : Int32) (bwd : Int32) (bmi : Int32) (emo : Int32) (ewk : Int32) (ewd : Int32) (emi : Int32) (len : Int32) (at_ : Int32) (br : Int32) (f : Nat → Int32) : Int32 :=
  let v29 : Int32 := if (f_T_take 45 len at_ br f) = 0 then (f_T_require_a_2 43 len (f_T_take_a_2 45 len at_ br f) br f) else (f_T_take_a_2 45 len at_ br f)
  let v29_1 : Int32 := if (f_T_take 45 len at_ br f) = 0 then (f_T_require_a_3 43 len (f_T_take_a_2 45 len at_ br f) br f) else br
  let u56 : Int32 := f_T_isDone len (f_T_number_a_2 0 840 len v29 v29_1 f) (f_T_number_a_3 0 840 len v29 v29_1 f) f
  let u64 : Int32 := f_T_requireBlanks_a_2 len (f_T_number_a_2 0 840 len v29 v29_1 f) (f_T_number_a_3 0 840 len v29 v29_1 f) f
  let u64x : Int32 := f_T_requireBlanks_a_3 len (f_T_number_a_2 0 840 len v29 v29_1 f) (f_T_number_a_3 0 840 len v29 v29_1 f) f
  let u82 : Int32 := f_T_requireBlanks_a_2 len (f_T_number_a_2 1 120 len u64 u64x f) (f_T_number_a_3 1 120 len u64 u64x f) f
  let u82x : Int32 := f_T_requireBlanks_a_3 len (f_T_number_a_2 1 120 len u64 u64x f) (f_T_number_a_3 1 120 len u64 u64x f) f
  let u90xxx : Int32 := f_Y_readFrom_b_3 bmo bwk bwd bmi len u82 u82x f
  if u56 = 0 then u90xxx else bmi
def f_Z_readFrom_eq_0 (ba : Int32) (sv : Int32) (si : Int64) (un : Int64) (of : Int32) (bmo : Int32) (bwk : Int32) (bwd : Int32) (bmi : Int32) (emo : Int32) (ewk : Int32) (ewd : Int32) (emi : Int32) (len : Int32) (at_ : Int32) (br : Int32) (f : Nat → Int32) : Int32 :=
  let v29 : Int32 := if (f_T_take 45 len at_ br f) = 0 then (f_T_require_a_2 43 len (f_T_take_a_2 45 len at_ br f) br f) else (f_T_take_a_2 45 len at_ br f)
  let v29_1 : Int32 := if (f_T_take 45 len at_ br f) = 0 then (f_T_require_a_3 43 len (f_T_take_a_2 45 len at_ br f) br f) else br
  let u56 : Int32 := f_T_isDone len (f_T_number_a_2 0 840 len v29 v29_1 f) (f_T_number_a_3 0 840 len v29 v29_1 f) f
  let u64 : Int32 := f_T_requireBlanks_a_2 len (f_T_number_a_2 0 840 len v29 v29_1 f) (f_T_number_a_3 0 840 len v29 v29_1 f) f
  let u64x : Int32 := f_T_requireBlanks_a_3 len (f_T_number_a_2 0 840 len v29 v29_1 f) (f_T_number_a_3 0 840 len v29 v29_1 f) f
  let u82 : Int32 := f_T_requireBlanks_a_2 len (f_T_number_a_2 1 120 len u64 u64x f) (f_T_number_a_3 1 120 len u64 u64x f) f
  let u82x : Int32 := f_T_requireBlanks_a_3 len (f_T_number_a_2 1 120 len u64 u64x f) (f_T_number_a_3 1 120 len u64 u64x f) f
  let u90xxxx : Int32 := f_Y_readFrom_a_2 bmo bwk bwd bmi len u82 u82x f
  let u90xxxxx : Int32 := f_Y_readFrom_a_3 bmo bwk bwd bmi len u82 u82x f
  let u94 : Int32 := f_T_requireBlanks_a_2 len u90xxxx u90xxxxx f
  let u94x : Int32 := f_T_requireBlanks_a_3 len u90xxxx u90xxxxx f
  let u102 : Int32 := f_Y_readFrom_b_0 emo ewk ewd emi len u94 u94x f
  if u56 = 0 then u102 else emo
def f_Z_readFrom_eq_1 (ba : Int32) (sv : Int32) (si : Int64) (un : Int64) (of : Int32) (bmo : Int32) (bwk : Int32) (bwd : Int32) (bmi : Int32) (emo : Int32) (ewk : Int32) (ewd : Int32) (emi : Int32) (len : Int32) (at_ : Int32) (br : Int32) (f : Nat → Int32) : Int32 :=
  let v29 : Int32 := if (f_T_take 45 len at_ br f) = 0 then (f_T_require_a_2 43 len (f_T_take_a_2 45 len at_ br f) br f) else (f_T_take_a_2 45 len at_ br f)
  let v29_1 : Int32 := if (f_T_take 45 len at_ br f) = 0 then (f_T_require_a_3 43 len (f_T_take_a_2 45 len at_ br f) br f) else br
  let u56 : Int32 := f_T_isDone len (f_T_number_a_2 0 840 len v29 v29_1 f) (f_T_number_a_3 0 840 len v29 v29_1 f) f
  let u64 : Int32 := f_T_requireBlanks_a_2 len (f_T_number_a_2 0 840 len v29 v29_1 f) (f_T_number_a_3 0 840 len v29 v29_1 f) f
  let u64x : Int32 := f_T_requireBlanks_a_3 len (f_T_number_a_2 0 840 len v29 v29_1 f) (f_T_number_a_3 0 840 len v29 v29_1 f) f
  let u82 : Int32 := f_T_requireBlanks_a_2 len (f_T_number_a_2 1 120 len u64 u64x f) (f_T_number_a_3 1 120 len u64 u64x f) f
  let u82x : Int32 := f_T_requireBlanks_a_3 len (f_T_number_a_2 1 120 len u64 u64x f) (f_T_number_a_3 1 120 len u64 u64x f) f
  let u90xxxx : Int32 := f_Y_readFrom_a_2 bmo bwk bwd bmi len u82 u82x f
  let u90xxxxx : Int32 := f_Y_readFrom_a_3 bmo bwk bwd bmi len u82 u82x f
  let u94 : Int32 := f_T_requireBlanks_a_2 len u90xxxx u90xxxxx f
  let u94x : Int32 := f_T_requireBlanks_a_3 len u90xxxx u90xxxxx f
  let u102x : Int32 := f_Y_readFrom_b_1 emo ewk ewd emi len u94 u94x f
  if u56 = 0 then u102x else ewk
def f_Z_readFrom_eq_2 (ba : Int32) (sv : Int32) (si : Int64) (un : Int64) (of : Int32) (bmo : Int32) (bwk : Int32) (bwd : Int32) (bmi : Int32) (emo : Int32) (ewk : Int32) (ewd : Int32) (emi : Int32) (len : Int32) (at_ : Int32) (br : Int32) (f : Nat → Int32) : Int32 :=
  let v29 : Int32 := if (f_T_take 45 len at_ br f) = 0 then (f_T_require_a_2 43 len (f_T_take_a_2 45 len at_ br f) br f) else (f_T_take_a_2 45 len at_ br f)
  let v29_1 : Int32 := if (f_T_take 45 len at_ br f) = 0 then (f_T_require_a_3 43 len (f_T_take_a_2 45 len at_ br f) br f) else br
  let u56 : Int32 := f_T_isDone len (f_T_number_a_2 0 840 len v29 v29_1 f) (f_T_number_a_3 0 840 len v29 v29_1 f) f
  let u64 : Int32 := f_T_requireBlanks_a_2 len (f_T_number_a_2 0 840 len v29 v29_1 f) (f_T_number_a_3 0 840 len v29 v29_1 f) f
  let u64x : Int32 := f_T_requireBlanks_a_3 len (f_T_number_a_2 0 840 len v29 v29_1 f) (f_T_number_a_3 0 840 len v29 v29_1 f) f
  let u82 : Int32 := f_T_requireBlanks_a_2 len (f_T_number_a_2 1 120 len u64 u64x f) (f_T_number_a_3 1 120 len u64 u64x f) f
  let u82x : Int32 := f_T_requireBlanks_a_3 len (f_T_number_a_2 1 120 len u64 u64x f) (f_T_number_a_3 1 120 len u64 u64x f) f
  let u90xxxx : Int32 := f_Y_readFrom_a_2 bmo bwk bwd bmi len u82 u82x f
  let u90xxxxx : Int32 := f_Y_readFrom_a_3 bmo bwk bwd bmi len u82 u82x f
  let u94 : Int32 := f_T_requireBlanks_a_2 len u90xxxx u90xxxxx f
  let u94x : Int32 := f_T_requireBlanks_a_3 len u90xxxx u90xxxxx f
  let u102xx : Int32 := f_Y_readFrom_b_2 emo ewk ewd emi len u94 u94x f
  if u56 = 0 then u102xx else ewd
def f_Z_readFrom_eq_3 (ba : Int32) (sv : Int32) (si : Int64) (un : Int64) (of : Int32) (bmo : Int32) (bwk : Int32) (bwd : Int32) (bmi : Int32) (emo : Int32) (ewk : Int32) (ewd : Int32) (emi : Int32) (len : Int32) (at_ : Int32) (br : Int32) (f : Nat → Int32) : Int32 :=
  let v29 : Int32 := if (f_T_take 45 len at_ br f) = 0 then (f_T_require_a_2 43 len (f_T_take_a_2 45 len at_ br f) br f) else (f_T_take_a_2 45 len at_ br f)
  let v29_1 : Int32 := if (f_T_take 45 len at_ br f) = 0 then (f_T_require_a_3 43 len (f_T_take_a_2 45 len at_ br f) br f) else br
  let u56 : Int32 := f_T_isDone len (f_T_number_a_2 0 840 len v29 v29_1 f) (f_T_number_a_3 0 840 len v29 v29_1 f) f
  let u64 : Int32 := f_T_requireBlanks_a_2 len (f_T_number_a_2 0 840 len v29 v29_1 f) (f_T_number_a_3 0 840 len v29 v29_1 f) f
  let u64x : Int32 := f_T_requireBlanks_a_3 len (f_T_number_a_2 0 840 len v29 v29_1 f) (f_T_number_a_3 0 840 len v29 v29_1 f) f
  let u82 : Int32 := f_T_requireBlanks_a_2 len (f_T_number_a_2 1 120 len u64 u64x f) (f_T_number_a_3 1 120 len u64 u64x f) f
  let u82x : Int32 := f_T_requireBlanks_a_3 len (f_T_number_a_2 1 120 len u64 u64x f) (f_T_number_a_3 1 120 len u64 u64x f) f
  let u90xxxx : Int32 := f_Y_readFrom_a_2 bmo bwk bwd bmi len u82 u82x f
  let u90xxxxx : Int32 := f_Y_readFrom_a_3 bmo bwk bwd bmi len u82 u82x f
  let u94 : Int32 := f_T_requireBlanks_a_2 len u90xxxx u90xxxxx f
  let u94x : Int32 := f_T_requireBlanks_a_3 len u90xxxx u90xxxxx f
  let u102xxx : Int32 := f_Y_readFrom_b_3 emo ewk ewd emi len u94 u94x f
  if u56 = 0 then u102xxx else emi
def f_Z_readFrom_a_2 (ba : Int32) (sv : Int32) (si : Int64) (un : Int64) (of : Int32) (bmo : Int32) (bwk : Int32) (bwd : Int32) (bmi : Int32) (emo : Int32) (ewk : Int32) (ewd : Int32) (emi : Int32) (len : Int32) (at_ : Int32) (br : Int32) (f : Nat → Int32) : Int32 :=
  let v29 : Int32 := if (f_T_take 45 len at_ br f) = 0 then (f_T_require_a_2 43 len (f_T_take_a_2 45 len at_ br f) br f) else (f_T_take_a_2 45 len at_ br f)
  let v29_1 : Int32 := if (f_T_take 45 len at_ br f) = 0 then (f_T_require_a_3 43 len (f_T_take_a_2 45 len at_ br f) br f) else br
  let u56 : Int32 := f_T_isDone len (f_T_number_a_2 0 840 len v29 v29_1 f) (f_T_number_a_3 0 840 len v29 v29_1 f) f
  let u64 : Int32 := f_T_requireBlanks_a_2 len (f_T_number_a_2 0 840 len v29 v29_1 f) (f_T_number_a_3 0 840 len v29 v29_1 f) f
  let u64x : Int32 := f_T_requireBlanks_a_3 len (f_T_number_a_2 0 840 len v29 v29_1 f) (f_T_number_a_3 0 840 len v29 v29_1 f) f
  let u82 : Int32 := f_T_requireBlanks_a_2 len (f_T_number_a_2 1 120 len u64 u64x f) (f_T_number_a_3 1 120 len u64 u64x f) f
  let u82x : Int32 := f_T_requireBlanks_a_3 len (f_T_number_a_2 1 120 len u64 u64x f) (f_T_number_a_3 1 120 len u64 u64x f) f
  let u90xxxx : Int32 := f_Y_readFrom_a_2 bmo bwk bwd bmi len u82 u82x f
  let u90xxxxx : Int32 := f_Y_readFrom_a_3 bmo bwk bwd bmi len u82 u82x f
  let u94 : Int32 := f_T_requireBlanks_a_2 len u90xxxx u90xxxxx f
  let u94x : Int32 := f_T_requireBlanks_a_3 len u90xxxx u90xxxxx f
  let u102xxxx : Int32 := f_Y_readFrom_a_2 emo ewk ewd emi len u94 u94x f
  if u56 = 0 then u102xxxx else (f_T_number_a_2 0 840 len v29 v29_1 f)
def f_Z_readFrom_a_3 (ba : Int32) (sv : Int32) (si : Int64) (un : Int64) (of : Int32) (bmo : Int32) (bwk : Int32) (bwd : Int32) (bmi : Int32) (emo : Int32) (ewk : Int32) (ewd : Int32) (emi : Int32) (len : Int32) (at_ : Int32) (br : Int32) (f : Nat → Int32) : Int32 :=
  let v29 : Int32 := if (f_T_take 45 len at_ br f) = 0 then (f_T_require_a_2 43 len (f_T_take_a_2 45 len at_ br f) br f) else (f_T_take_a_2 45 len at_ br f)
  let v29_1 : Int32 := if (f_T_take 45 len at_ br f) = 0 then (f_T_require_a_3 43 len (f_T_take_a_2 45 len at_ br f) br f) else br
  let u56 : Int32 := f_T_isDone len (f_T_number_a_2 0 840 len v29 v29_1 f) (f_T_number_a_3 0 840 len v29 v29_1 f) f
  let u64 : Int32 := f_T_requireBlanks_a_2 len (f_T_number_a_2 0 840 len v29 v29_1 f) (f_T_number_a_3 0 840 len v29 v29_1 f) f
  let u64x : Int32 := f_T_requireBlanks_a_3 len (f_T_number_a_2 0 840 len v29 v29_1 f) (f_T_number_a_3 0 840 len v29 v29_1 f) f
  let u82 : Int32 := f_T_requireBlanks_a_2 len (f_T_number_a_2 1 120 len u64 u64x f) (f_T_number_a_3 1 120 len u64 u64x f) f
  let u82x : Int32 := f_T_requireBlanks_a_3 len (f_T_number_a_2 1 120 len u64 u64x f) (f_T_number_a_3 1 120 len u64 u64x f) f
  let u90xxxx : Int32 := f_Y_readFrom_a_2 bmo bwk bwd bmi len u82 u82x f
  let u90xxxxx : Int32 := f_Y_readFrom_a_3 bmo bwk bwd bmi len u82 u82x f
  let u94 : Int32 := f_T_requireBlanks_a_2 len u90xxxx u90xxxxx f
  let u94x : Int32 := f_T_requireBlanks_a_3 len u90xxxx u90xxxxx f
  let u102xxxx : Int32 := f_Y_readFrom_a_2 emo ewk ewd emi len u94 u94x f
  let u102xxxxx : Int32 := f_Y_readFrom_a_3 emo ewk ewd emi len u94 u94x f
  let u106 : Int32 := f_T_requireEnd_a_3 len u102xxxx u102xxxxx f
  if u56 = 0 then u106 else (f_T_number_a_3 0 840 len v29 v29_1 f)
set_option maxRecDepth 20000 in
set_option maxHeartbeats 800000 in
theorem k_Z_readFrom {l : Launch} {S : State} {D : va_G} {dA : Nat → ClassId} (E : jm_en S D jm_cl (jm_ty dA) jm_G) (b : Nat) (a : Nat) (ba : Int32) (sv : Int32) (bq : Nat) (eq : Nat) (si : Int64) (un : Int64) (of : Int32) (bmo : Int32) (bwk : Int32) (bwd : Int32) (bmi : Int32) (emo : Int32) (ewk : Int32) (ewd : Int32) (emi : Int32) (q : Nat) (len : Int32) (at_ : Int32) (br : Int32) (f : Nat → Int32) (h : jm_H) (h_b : h b = some (.inr (2, [.int ba, .int sv, .ref bq, .ref eq, .long si, .long un, .int of]))) (h_bq : h bq = some (.inr (3, [.int bmo, .int bwk, .int bwd, .int bmi]))) (h_eq : h eq = some (.inr (3, [.int emo, .int ewk, .int ewd, .int emi]))) (h_a : h a = some (.inr (1, [.ref q, .int len, .int at_, .int br]))) (h_q : h q = some (.inl (dA 0, 400, .inl f))) (hnd : ([b, bq, eq, a, q] : List Nat).Nodup) (p1 : 0 ≤ at_) (p2 : len ≤ 400) : jm_M l S D jm_cl y_Z_readFrom (Cond.code y_Z_readFrom b_Z_readFrom 4 (none)) { frames := 4, cells := 0, slots := 0, locals := 83 } [.ref b, .ref a] h (jm_R none (jm_us h [(b, .inr (2, [.int (f_Z_readFrom_b_0 ba sv si un of bmo bwk bwd bmi emo ewk ewd emi len at_ br f), .int (f_Z_readFrom_b_1 ba sv si un of bmo bwk bwd bmi emo ewk ewd emi len at_ br f), .ref bq, .ref eq, .long si, .long (f_Z_readFrom_b_5 ba sv si un of bmo bwk bwd bmi emo ewk ewd emi len at_ br f), .int of])), (bq, .inr (3, [.int (f_Z_readFrom_bq_0 ba sv si un of bmo bwk bwd bmi emo ewk ewd emi len at_ br f), .int (f_Z_readFrom_bq_1 ba sv si un of bmo bwk bwd bmi emo ewk ewd emi len at_ br f), .int (f_Z_readFrom_bq_2 ba sv si un of bmo bwk bwd bmi emo ewk ewd emi len at_ br f), .int (f_Z_readFrom_bq_3 ba sv si un of bmo bwk bwd bmi emo ewk ewd emi len at_ br f)])), (eq, .inr (3, [.int (f_Z_readFrom_eq_0 ba sv si un of bmo bwk bwd bmi emo ewk ewd emi len at_ br f), .int (f_Z_readFrom_eq_1 ba sv si un of bmo bwk bwd bmi emo ewk ewd emi len at_ br f), .int (f_Z_readFrom_eq_2 ba sv si un of bmo bwk bwd bmi emo ewk ewd emi len at_ br f), .int (f_Z_readFrom_eq_3 ba sv si un of bmo bwk bwd bmi emo ewk ewd emi len at_ br f)])), (a, .inr (1, [.ref q, .int len, .int (f_Z_readFrom_a_2 ba sv si un of bmo bwk bwd bmi emo ewk ewd emi len at_ br f), .int (f_Z_readFrom_a_3 ba sv si un of bmo bwk bwd bmi emo ewk ewd emi len at_ br f)])), (q, .inl (dA 0, 400, .inl f))])) 0 0 := by
  refine jm_ofW E (by decide) (Nat.le_of_ble_eq_true rfl) (fun p e s m below meth c X hr hk hmn hout hadm => ?_)
  have X : jm_cx p s m ([.ref b, .ref a] : List Value).toArray c S D jm_cl (jm_ty dA) jm_G b_Z_readFrom 4 "JobHouse$Zone" := X
  have hL : ∀ zz ∈ ([(b, .inr (2, [.int ba, .int sv, .ref bq, .ref eq, .long si, .long un, .int of])), (bq, .inr (3, [.int bmo, .int bwk, .int bwd, .int bmi])), (eq, .inr (3, [.int emo, .int ewk, .int ewd, .int emi])), (a, .inr (1, [.ref q, .int len, .int at_, .int br])), (q, .inl (dA 0, 400, .inl f))] : List (Nat × va_E)), h zz.1 = some zz.2 := List.forall_mem_cons.mpr ⟨h_b, List.forall_mem_cons.mpr ⟨h_bq, List.forall_mem_cons.mpr ⟨h_eq, List.forall_mem_cons.mpr ⟨h_a, List.forall_mem_cons.mpr ⟨h_q, fun _ hz => absurd hz List.not_mem_nil⟩⟩⟩⟩⟩
  refine jm_hq (jm_us_id hL).symm ?_
  show jm_W p l e ({ frames := 4, cells := 0, slots := 0, locals := 83 }) s m ([.ref b, .ref a] : List Value).toArray below meth c S D jm_cl (jm_Q S D jm_cl below s (jm_R none (jm_us h [(b, .inr (2, [.int (f_Z_readFrom_b_0 ba sv si un of bmo bwk bwd bmi emo ewk ewd emi len at_ br f), .int (f_Z_readFrom_b_1 ba sv si un of bmo bwk bwd bmi emo ewk ewd emi len at_ br f), .ref bq, .ref eq, .long si, .long (f_Z_readFrom_b_5 ba sv si un of bmo bwk bwd bmi emo ewk ewd emi len at_ br f), .int of])), (bq, .inr (3, [.int (f_Z_readFrom_bq_0 ba sv si un of bmo bwk bwd bmi emo ewk ewd emi len at_ br f), .int (f_Z_readFrom_bq_1 ba sv si un of bmo bwk bwd bmi emo ewk ewd emi len at_ br f), .int (f_Z_readFrom_bq_2 ba sv si un of bmo bwk bwd bmi emo ewk ewd emi len at_ br f), .int (f_Z_readFrom_bq_3 ba sv si un of bmo bwk bwd bmi emo ewk ewd emi len at_ br f)])), (eq, .inr (3, [.int (f_Z_readFrom_eq_0 ba sv si un of bmo bwk bwd bmi emo ewk ewd emi len at_ br f), .int (f_Z_readFrom_eq_1 ba sv si un of bmo bwk bwd bmi emo ewk ewd emi len at_ br f), .int (f_Z_readFrom_eq_2 ba sv si un of bmo bwk bwd bmi emo ewk ewd emi len at_ br f), .int (f_Z_readFrom_eq_3 ba sv si un of bmo bwk bwd bmi emo ewk ewd emi len at_ br f)])), (a, .inr (1, [.ref q, .int len, .int (f_Z_readFrom_a_2 ba sv si un of bmo bwk bwd bmi emo ewk ewd emi len at_ br f), .int (f_Z_readFrom_a_3 ba sv si un of bmo bwk bwd bmi emo ewk ewd emi len at_ br f)])), (q, .inl (dA 0, 400, .inl f))])) 0 0) 4 0 [(0, .ref b), (1, .ref a)] [] (jm_us h [(b, .inr (2, [.int ba, .int sv, .ref bq, .ref eq, .long si, .long un, .int of])), (bq, .inr (3, [.int bmo, .int bwk, .int bwd, .int bmi])), (eq, .inr (3, [.int emo, .int ewk, .int ewd, .int emi])), (a, .inr (1, [.ref q, .int len, .int at_, .int br])), (q, .inl (dA 0, 400, .inl f))]) 0 0
  refine jm_aload_n X d_Z_readFrom_0 rfl 0 rfl ?_
  refine jm_ldc2 (v := (-1152921504606846976)) X d_Z_readFrom_1 (jm_g1 133 rfl rfl) ?_
  refine jm_put X d_Z_readFrom_4 fs_Z_23 (by refine jm_us_get ?_ 0 rfl; exact hnd) rfl rfl (Nat.le_of_ble_eq_true rfl) (fs1 := [.int ba, .int sv, .ref bq, .ref eq, .long si, .long (-1152921504606846976), .int of]) rfl (jm_hq (by refine jm_us_set ?_ 0 (L1 := [(b, .inr (2, [.int ba, .int sv, .ref bq, .ref eq, .long si, .long (-1152921504606846976), .int of])), (bq, .inr (3, [.int bmo, .int bwk, .int bwd, .int bmi])), (eq, .inr (3, [.int emo, .int ewk, .int ewd, .int emi])), (a, .inr (1, [.ref q, .int len, .int at_, .int br])), (q, .inl (dA 0, 400, .inl f))]) rfl rfl; exact hnd) ?_)
  refine jm_aload_n X d_Z_readFrom_7 rfl 0 rfl ?_
  refine jm_iconst (v := 0) X d_Z_readFrom_8 (by decide) ?_
  refine jm_put X d_Z_readFrom_9 fs_Z_27 (by refine jm_us_get ?_ 0 rfl; exact hnd) rfl rfl (Nat.le_of_ble_eq_true rfl) (fs1 := [.int ba, .int 0, .ref bq, .ref eq, .long si, .long (-1152921504606846976), .int of]) rfl (jm_hq (by refine jm_us_set ?_ 0 (L1 := [(b, .inr (2, [.int ba, .int 0, .ref bq, .ref eq, .long si, .long (-1152921504606846976), .int of])), (bq, .inr (3, [.int bmo, .int bwk, .int bwd, .int bmi])), (eq, .inr (3, [.int emo, .int ewk, .int ewd, .int emi])), (a, .inr (1, [.ref q, .int len, .int at_, .int br])), (q, .inl (dA 0, 400, .inl f))]) rfl rfl; exact hnd) ?_)
  refine jm_aload_n X d_Z_readFrom_12 rfl 1 rfl ?_
  refine jm_bipush (v := 45) X d_Z_readFrom_13 (by decide) ?_
  refine jm_callV (rest := []) X d_Z_readFrom_15 (k_T_take E a 45 q len at_ br f (jm_us h [(b, .inr (2, [.int ba, .int 0, .ref bq, .ref eq, .long si, .long (-1152921504606846976), .int of])), (bq, .inr (3, [.int bmo, .int bwk, .int bwd, .int bmi])), (eq, .inr (3, [.int emo, .int ewk, .int ewd, .int emi])), (a, .inr (1, [.ref q, .int len, .int at_, .int br])), (q, .inl (dA 0, 400, .inl f))]) (by refine jm_us_get ?_ 3 rfl; exact hnd) (by refine jm_us_get ?_ 4 rfl; exact hnd) (by exact jm_pick hnd [3, 4] (by decide) rfl) (by first | with_reducible assumption | ( repeat first | with_reducible assumption | (with_reducible refine jm_req_at ?_ ?_) | (with_reducible refine jm_num_at ?_) | (with_reducible refine jm_bl_at ?_) | (with_reducible refine jm_ite0 ?_ ?_) | (with_reducible refine jm_yr_at ?_) | (with_reducible refine jm_take_at ?_ ?_) | decide) | decide +kernel) (by first | with_reducible assumption | ( repeat first | with_reducible assumption | (with_reducible refine jm_req_at ?_ ?_) | (with_reducible refine jm_num_at ?_) | (with_reducible refine jm_bl_at ?_) | (with_reducible refine jm_ite0 ?_ ?_) | (with_reducible refine jm_yr_at ?_) | (with_reducible refine jm_take_at ?_ ?_) | decide) | decide +kernel)) ci_T_take (Or.inl (jm_g2 199 rfl rfl)) im_T_take se_T_take (by refine jm_us_get ?_ 3 rfl; exact hnd) rfl rfl (Nat.le_of_ble_eq_true rfl) ⟨(Nat.le_of_ble_eq_true rfl), (Nat.le_of_ble_eq_true rfl)⟩ ⟨rfl, rfl⟩ ⟨(Nat.le_of_ble_eq_true rfl), (Nat.le_of_ble_eq_true rfl)⟩ (jm_k1 (jm_hq (by refine jm_into ?_ [3, 4] rfl (L1 := [(b, .inr (2, [.int ba, .int 0, .ref bq, .ref eq, .long si, .long (-1152921504606846976), .int of])), (bq, .inr (3, [.int bmo, .int bwk, .int bwd, .int bmi])), (eq, .inr (3, [.int emo, .int ewk, .int ewd, .int emi])), (a, .inr (1, [.ref q, .int len, .int (f_T_take_a_2 45 len at_ br f), .int br])), (q, .inl (dA 0, 400, .inl f))]) rfl; exact hnd) ?_))
  refine jm_istore_n X d_Z_readFrom_18 rfl (by decide) (lv1 := [(2, .int (f_T_take 45 len at_ br f)), (0, .ref b), (1, .ref a)]) rfl ?_
  refine jm_iload_n X d_Z_readFrom_19 rfl 0 rfl ?_
  have J29_2 : ∀ (v29 : Int32) (v29_1 : Int32), v29 = (if (f_T_take 45 len at_ br f) = 0 then (f_T_require_a_2 43 len (f_T_take_a_2 45 len at_ br f) br f) else (f_T_take_a_2 45 len at_ br f) : Int32) → v29_1 = (if (f_T_take 45 len at_ br f) = 0 then (f_T_require_a_3 43 len (f_T_take_a_2 45 len at_ br f) br f) else br : Int32) → jm_W p l e ({ frames := 4, cells := 0, slots := 0, locals := 83 }) s m ([.ref b, .ref a] : List Value).toArray below meth c S D jm_cl (jm_Q S D jm_cl below s (jm_R none (jm_us h [(b, .inr (2, [.int (f_Z_readFrom_b_0 ba sv si un of bmo bwk bwd bmi emo ewk ewd emi len at_ br f), .int (f_Z_readFrom_b_1 ba sv si un of bmo bwk bwd bmi emo ewk ewd emi len at_ br f), .ref bq, .ref eq, .long si, .long (f_Z_readFrom_b_5 ba sv si un of bmo bwk bwd bmi emo ewk ewd emi len at_ br f), .int of])), (bq, .inr (3, [.int (f_Z_readFrom_bq_0 ba sv si un of bmo bwk bwd bmi emo ewk ewd emi len at_ br f), .int (f_Z_readFrom_bq_1 ba sv si un of bmo bwk bwd bmi emo ewk ewd emi len at_ br f), .int (f_Z_readFrom_bq_2 ba sv si un of bmo bwk bwd bmi emo ewk ewd emi len at_ br f), .int (f_Z_readFrom_bq_3 ba sv si un of bmo bwk bwd bmi emo ewk ewd emi len at_ br f)])), (eq, .inr (3, [.int (f_Z_readFrom_eq_0 ba sv si un of bmo bwk bwd bmi emo ewk ewd emi len at_ br f), .int (f_Z_readFrom_eq_1 ba sv si un of bmo bwk bwd bmi emo ewk ewd emi len at_ br f), .int (f_Z_readFrom_eq_2 ba sv si un of bmo bwk bwd bmi emo ewk ewd emi len at_ br f), .int (f_Z_readFrom_eq_3 ba sv si un of bmo bwk bwd bmi emo ewk ewd emi len at_ br f)])), (a, .inr (1, [.ref q, .int len, .int (f_Z_readFrom_a_2 ba sv si un of bmo bwk bwd bmi emo ewk ewd emi len at_ br f), .int (f_Z_readFrom_a_3 ba sv si un of bmo bwk bwd bmi emo ewk ewd emi len at_ br f)])), (q, .inl (dA 0, 400, .inl f))])) 0 0) 4 29 [(2, .int (f_T_take 45 len at_ br f)), (0, .ref b), (1, .ref a)] [] (jm_us h [(b, .inr (2, [.int ba, .int 0, .ref bq, .ref eq, .long si, .long (-1152921504606846976), .int of])), (bq, .inr (3, [.int bmo, .int bwk, .int bwd, .int bmi])), (eq, .inr (3, [.int emo, .int ewk, .int ewd, .int emi])), (a, .inr (1, [.ref q, .int len, .int v29, .int v29_1])), (q, .inl (dA 0, 400, .inl f))]) 0 0 := by
    intro v29 v29_1 ev29 ev29_1
    refine jm_aload_n X d_Z_readFrom_29 rfl 2 rfl ?_
    refine jm_iconst (v := 0) X d_Z_readFrom_30 (by decide) ?_
    refine jm_sipush (v := 840) X d_Z_readFrom_31 (by decide) ?_
    refine jm_callV (rest := []) X d_Z_readFrom_34 (k_T_number E a 0 840 q len v29 v29_1 f (jm_us h [(b, .inr (2, [.int ba, .int 0, .ref bq, .ref eq, .long si, .long (-1152921504606846976), .int of])), (bq, .inr (3, [.int bmo, .int bwk, .int bwd, .int bmi])), (eq, .inr (3, [.int emo, .int ewk, .int ewd, .int emi])), (a, .inr (1, [.ref q, .int len, .int v29, .int v29_1])), (q, .inl (dA 0, 400, .inl f))]) (by refine jm_us_get ?_ 3 rfl; exact hnd) (by refine jm_us_get ?_ 4 rfl; exact hnd) (by exact jm_pick hnd [3, 4] (by decide) rfl) (by first | with_reducible assumption | (subst ev29_1; subst ev29;  repeat first | with_reducible assumption | (with_reducible refine jm_req_at ?_ ?_) | (with_reducible refine jm_num_at ?_) | (with_reducible refine jm_bl_at ?_) | (with_reducible refine jm_ite0 ?_ ?_) | (with_reducible refine jm_yr_at ?_) | (with_reducible refine jm_take_at ?_ ?_) | decide) | decide +kernel) (by first | with_reducible assumption | (subst ev29_1; subst ev29;  repeat first | with_reducible assumption | (with_reducible refine jm_req_at ?_ ?_) | (with_reducible refine jm_num_at ?_) | (with_reducible refine jm_bl_at ?_) | (with_reducible refine jm_ite0 ?_ ?_) | (with_reducible refine jm_yr_at ?_) | (with_reducible refine jm_take_at ?_ ?_) | decide) | decide +kernel)) ci_T_number (Or.inl (jm_g2 216 rfl rfl)) im_T_number se_T_number (by refine jm_us_get ?_ 3 rfl; exact hnd) rfl rfl (Nat.le_of_ble_eq_true rfl) ⟨(Nat.le_of_ble_eq_true rfl), (Nat.le_of_ble_eq_true rfl)⟩ ⟨rfl, rfl⟩ ⟨(Nat.le_of_ble_eq_true rfl), (Nat.le_of_ble_eq_true rfl)⟩ (jm_k1 (jm_hq (by refine jm_into ?_ [3, 4] rfl (L1 := [(b, .inr (2, [.int ba, .int 0, .ref bq, .ref eq, .long si, .long (-1152921504606846976), .int of])), (bq, .inr (3, [.int bmo, .int bwk, .int bwd, .int bmi])), (eq, .inr (3, [.int emo, .int ewk, .int ewd, .int emi])), (a, .inr (1, [.ref q, .int len, .int (f_T_number_a_2 0 840 len v29 v29_1 f), .int (f_T_number_a_3 0 840 len v29 v29_1 f)])), (q, .inl (dA 0, 400, .inl f))]) rfl; exact hnd) ?_))
    refine jm_istore_n X d_Z_readFrom_37 rfl (by decide) (lv1 := [(3, .int (f_T_number 0 840 len v29 v29_1 f)), (2, .int (f_T_take 45 len at_ br f)), (0, .ref b), (1, .ref a)]) rfl ?_
    refine jm_aload_n X d_Z_readFrom_38 rfl 2 rfl ?_
    refine jm_iload_n X d_Z_readFrom_39 rfl 1 rfl ?_
    have J49_4 : ∀ (v49 : Int32), v49 = (if (f_T_take 45 len at_ br f) = 0 then (f_T_number 0 840 len v29 v29_1 f) else (-(f_T_number 0 840 len v29 v29_1 f)) : Int32) → jm_W p l e ({ frames := 4, cells := 0, slots := 0, locals := 83 }) s m ([.ref b, .ref a] : List Value).toArray below meth c S D jm_cl (jm_Q S D jm_cl below s (jm_R none (jm_us h [(b, .inr (2, [.int (f_Z_readFrom_b_0 ba sv si un of bmo bwk bwd bmi emo ewk ewd emi len at_ br f), .int (f_Z_readFrom_b_1 ba sv si un of bmo bwk bwd bmi emo ewk ewd emi len at_ br f), .ref bq, .ref eq, .long si, .long (f_Z_readFrom_b_5 ba sv si un of bmo bwk bwd bmi emo ewk ewd emi len at_ br f), .int of])), (bq, .inr (3, [.int (f_Z_readFrom_bq_0 ba sv si un of bmo bwk bwd bmi emo ewk ewd emi len at_ br f), .int (f_Z_readFrom_bq_1 ba sv si un of bmo bwk bwd bmi emo ewk ewd emi len at_ br f), .int (f_Z_readFrom_bq_2 ba sv si un of bmo bwk bwd bmi emo ewk ewd emi len at_ br f), .int (f_Z_readFrom_bq_3 ba sv si un of bmo bwk bwd bmi emo ewk ewd emi len at_ br f)])), (eq, .inr (3, [.int (f_Z_readFrom_eq_0 ba sv si un of bmo bwk bwd bmi emo ewk ewd emi len at_ br f), .int (f_Z_readFrom_eq_1 ba sv si un of bmo bwk bwd bmi emo ewk ewd emi len at_ br f), .int (f_Z_readFrom_eq_2 ba sv si un of bmo bwk bwd bmi emo ewk ewd emi len at_ br f), .int (f_Z_readFrom_eq_3 ba sv si un of bmo bwk bwd bmi emo ewk ewd emi len at_ br f)])), (a, .inr (1, [.ref q, .int len, .int (f_Z_readFrom_a_2 ba sv si un of bmo bwk bwd bmi emo ewk ewd emi len at_ br f), .int (f_Z_readFrom_a_3 ba sv si un of bmo bwk bwd bmi emo ewk ewd emi len at_ br f)])), (q, .inl (dA 0, 400, .inl f))])) 0 0) 4 49 [(3, .int (f_T_number 0 840 len v29 v29_1 f)), (2, .int (f_T_take 45 len at_ br f)), (0, .ref b), (1, .ref a)] [.int v49, .ref b] (jm_us h [(b, .inr (2, [.int ba, .int 0, .ref bq, .ref eq, .long si, .long (-1152921504606846976), .int of])), (bq, .inr (3, [.int bmo, .int bwk, .int bwd, .int bmi])), (eq, .inr (3, [.int emo, .int ewk, .int ewd, .int emi])), (a, .inr (1, [.ref q, .int len, .int (f_T_number_a_2 0 840 len v29 v29_1 f), .int (f_T_number_a_3 0 840 len v29 v29_1 f)])), (q, .inl (dA 0, 400, .inl f))]) 0 0 := by
      intro v49 ev49
      refine jm_bipush (v := 60) X d_Z_readFrom_49 (by decide) ?_
      refine jm_imul X d_Z_readFrom_51 ?_
      refine jm_put X d_Z_readFrom_52 fs_Z_45 (by refine jm_us_get ?_ 0 rfl; exact hnd) rfl rfl (Nat.le_of_ble_eq_true rfl) (fs1 := [.int (v49 * 60), .int 0, .ref bq, .ref eq, .long si, .long (-1152921504606846976), .int of]) rfl (jm_hq (by refine jm_us_set ?_ 0 (L1 := [(b, .inr (2, [.int (v49 * 60), .int 0, .ref bq, .ref eq, .long si, .long (-1152921504606846976), .int of])), (bq, .inr (3, [.int bmo, .int bwk, .int bwd, .int bmi])), (eq, .inr (3, [.int emo, .int ewk, .int ewd, .int emi])), (a, .inr (1, [.ref q, .int len, .int (f_T_number_a_2 0 840 len v29 v29_1 f), .int (f_T_number_a_3 0 840 len v29 v29_1 f)])), (q, .inl (dA 0, 400, .inl f))]) rfl rfl; exact hnd) ?_)
      refine jm_aload_n X d_Z_readFrom_55 rfl 3 rfl ?_
      refine jm_callV (rest := []) X d_Z_readFrom_56 (k_T_isDone E a q len (f_T_number_a_2 0 840 len v29 v29_1 f) (f_T_number_a_3 0 840 len v29 v29_1 f) f (jm_us h [(b, .inr (2, [.int (v49 * 60), .int 0, .ref bq, .ref eq, .long si, .long (-1152921504606846976), .int of])), (bq, .inr (3, [.int bmo, .int bwk, .int bwd, .int bmi])), (eq, .inr (3, [.int emo, .int ewk, .int ewd, .int emi])), (a, .inr (1, [.ref q, .int len, .int (f_T_number_a_2 0 840 len v29 v29_1 f), .int (f_T_number_a_3 0 840 len v29 v29_1 f)])), (q, .inl (dA 0, 400, .inl f))]) (by refine jm_us_get ?_ 3 rfl; exact hnd) (by refine jm_us_get ?_ 4 rfl; exact hnd) (by exact jm_pick hnd [3, 4] (by decide) rfl) (by first | with_reducible assumption | (subst ev49; subst ev29_1; subst ev29;  repeat first | with_reducible assumption | (with_reducible refine jm_req_at ?_ ?_) | (with_reducible refine jm_num_at ?_) | (with_reducible refine jm_bl_at ?_) | (with_reducible refine jm_ite0 ?_ ?_) | (with_reducible refine jm_yr_at ?_) | (with_reducible refine jm_take_at ?_ ?_) | decide) | decide +kernel) (by first | with_reducible assumption | (subst ev49; subst ev29_1; subst ev29;  repeat first | with_reducible assumption | (with_reducible refine jm_req_at ?_ ?_) | (with_reducible refine jm_num_at ?_) | (with_reducible refine jm_bl_at ?_) | (with_reducible refine jm_ite0 ?_ ?_) | (with_reducible refine jm_yr_at ?_) | (with_reducible refine jm_take_at ?_ ?_) | decide) | decide +kernel)) ci_T_isDone (Or.inl (jm_g2 227 rfl rfl)) im_T_isDone se_T_isDone (by refine jm_us_get ?_ 3 rfl; exact hnd) rfl rfl (Nat.le_of_ble_eq_true rfl) ⟨(Nat.le_of_ble_eq_true rfl), (Nat.le_of_ble_eq_true rfl)⟩ ⟨rfl, rfl⟩ ⟨(Nat.le_of_ble_eq_true rfl), (Nat.le_of_ble_eq_true rfl)⟩ (jm_k1 ?_)
      obtain ⟨u56, eu56⟩ : ∃ z_ : Int32, z_ = (f_T_isDone len (f_T_number_a_2 0 840 len v29 v29_1 f) (f_T_number_a_3 0 840 len v29 v29_1 f) f) := ⟨_, rfl⟩
      rw [← eu56]
      refine jm_if_eq (tgt := 63) X d_Z_readFrom_59 (by decide) (fun c5 => ?_) (fun c5 => ?_)
      · refine jm_aload_n X d_Z_readFrom_63 rfl 3 rfl ?_
        refine jm_callV (rest := []) X d_Z_readFrom_64 (k_T_requireBlanks E a q len (f_T_number_a_2 0 840 len v29 v29_1 f) (f_T_number_a_3 0 840 len v29 v29_1 f) f (jm_us h [(b, .inr (2, [.int (v49 * 60), .int 0, .ref bq, .ref eq, .long si, .long (-1152921504606846976), .int of])), (bq, .inr (3, [.int bmo, .int bwk, .int bwd, .int bmi])), (eq, .inr (3, [.int emo, .int ewk, .int ewd, .int emi])), (a, .inr (1, [.ref q, .int len, .int (f_T_number_a_2 0 840 len v29 v29_1 f), .int (f_T_number_a_3 0 840 len v29 v29_1 f)])), (q, .inl (dA 0, 400, .inl f))]) (by refine jm_us_get ?_ 3 rfl; exact hnd) (by refine jm_us_get ?_ 4 rfl; exact hnd) (by exact jm_pick hnd [3, 4] (by decide) rfl) (by first | with_reducible assumption | (subst eu56; subst ev49; subst ev29_1; subst ev29;  repeat first | with_reducible assumption | (with_reducible refine jm_req_at ?_ ?_) | (with_reducible refine jm_num_at ?_) | (with_reducible refine jm_bl_at ?_) | (with_reducible refine jm_ite0 ?_ ?_) | (with_reducible refine jm_yr_at ?_) | (with_reducible refine jm_take_at ?_ ?_) | decide) | decide +kernel) (by first | with_reducible assumption | (subst eu56; subst ev49; subst ev29_1; subst ev29;  repeat first | with_reducible assumption | (with_reducible refine jm_req_at ?_ ?_) | (with_reducible refine jm_num_at ?_) | (with_reducible refine jm_bl_at ?_) | (with_reducible refine jm_ite0 ?_ ?_) | (with_reducible refine jm_yr_at ?_) | (with_reducible refine jm_take_at ?_ ?_) | decide) | decide +kernel)) ci_T_requireBlanks (Or.inl (jm_g2 231 rfl rfl)) im_T_requireBlanks se_T_requireBlanks (by refine jm_us_get ?_ 3 rfl; exact hnd) rfl rfl (Nat.le_of_ble_eq_true rfl) ⟨(Nat.le_of_ble_eq_true rfl), (Nat.le_of_ble_eq_true rfl)⟩ ⟨rfl, rfl⟩ ⟨(Nat.le_of_ble_eq_true rfl), (Nat.le_of_ble_eq_true rfl)⟩ (jm_k0 (jm_hq (by refine jm_into ?_ [3, 4] rfl (L1 := [(b, .inr (2, [.int (v49 * 60), .int 0, .ref bq, .ref eq, .long si, .long (-1152921504606846976), .int of])), (bq, .inr (3, [.int bmo, .int bwk, .int bwd, .int bmi])), (eq, .inr (3, [.int emo, .int ewk, .int ewd, .int emi])), (a, .inr (1, [.ref q, .int len, .int (f_T_requireBlanks_a_2 len (f_T_number_a_2 0 840 len v29 v29_1 f) (f_T_number_a_3 0 840 len v29 v29_1 f) f), .int (f_T_requireBlanks_a_3 len (f_T_number_a_2 0 840 len v29 v29_1 f) (f_T_number_a_3 0 840 len v29 v29_1 f) f)])), (q, .inl (dA 0, 400, .inl f))]) rfl; exact hnd) ?_))
        obtain ⟨u64, eu64⟩ : ∃ z_ : Int32, z_ = (f_T_requireBlanks_a_2 len (f_T_number_a_2 0 840 len v29 v29_1 f) (f_T_number_a_3 0 840 len v29 v29_1 f) f) := ⟨_, rfl⟩
        rw [← eu64]
        obtain ⟨u64x, eu64x⟩ : ∃ z_ : Int32, z_ = (f_T_requireBlanks_a_3 len (f_T_number_a_2 0 840 len v29 v29_1 f) (f_T_number_a_3 0 840 len v29 v29_1 f) f) := ⟨_, rfl⟩
        rw [← eu64x]
        refine jm_aload_n X d_Z_readFrom_67 rfl 2 rfl ?_
        refine jm_aload_n X d_Z_readFrom_68 rfl 3 rfl ?_
        refine jm_iconst (v := 1) X d_Z_readFrom_69 (by decide) ?_
        refine jm_bipush (v := 120) X d_Z_readFrom_70 (by decide) ?_
        refine jm_callV (rest := [.ref b]) X d_Z_readFrom_72 (k_T_number E a 1 120 q len u64 u64x f (jm_us h [(b, .inr (2, [.int (v49 * 60), .int 0, .ref bq, .ref eq, .long si, .long (-1152921504606846976), .int of])), (bq, .inr (3, [.int bmo, .int bwk, .int bwd, .int bmi])), (eq, .inr (3, [.int emo, .int ewk, .int ewd, .int emi])), (a, .inr (1, [.ref q, .int len, .int u64, .int u64x])), (q, .inl (dA 0, 400, .inl f))]) (by refine jm_us_get ?_ 3 rfl; exact hnd) (by refine jm_us_get ?_ 4 rfl; exact hnd) (by exact jm_pick hnd [3, 4] (by decide) rfl) (by first | with_reducible assumption | (subst eu64x; subst eu64; subst eu56; subst ev49; subst ev29_1; subst ev29;  repeat first | with_reducible assumption | (with_reducible refine jm_req_at ?_ ?_) | (with_reducible refine jm_num_at ?_) | (with_reducible refine jm_bl_at ?_) | (with_reducible refine jm_ite0 ?_ ?_) | (with_reducible refine jm_yr_at ?_) | (with_reducible refine jm_take_at ?_ ?_) | decide) | decide +kernel) (by first | with_reducible assumption | (subst eu64x; subst eu64; subst eu56; subst ev49; subst ev29_1; subst ev29;  repeat first | with_reducible assumption | (with_reducible refine jm_req_at ?_ ?_) | (with_reducible refine jm_num_at ?_) | (with_reducible refine jm_bl_at ?_) | (with_reducible refine jm_ite0 ?_ ?_) | (with_reducible refine jm_yr_at ?_) | (with_reducible refine jm_take_at ?_ ?_) | decide) | decide +kernel)) ci_T_number (Or.inl (jm_g2 216 rfl rfl)) im_T_number se_T_number (by refine jm_us_get ?_ 3 rfl; exact hnd) rfl rfl (Nat.le_of_ble_eq_true rfl) ⟨(Nat.le_of_ble_eq_true rfl), (Nat.le_of_ble_eq_true rfl)⟩ ⟨rfl, rfl⟩ ⟨(Nat.le_of_ble_eq_true rfl), (Nat.le_of_ble_eq_true rfl)⟩ (jm_k1 (jm_hq (by refine jm_into ?_ [3, 4] rfl (L1 := [(b, .inr (2, [.int (v49 * 60), .int 0, .ref bq, .ref eq, .long si, .long (-1152921504606846976), .int of])), (bq, .inr (3, [.int bmo, .int bwk, .int bwd, .int bmi])), (eq, .inr (3, [.int emo, .int ewk, .int ewd, .int emi])), (a, .inr (1, [.ref q, .int len, .int (f_T_number_a_2 1 120 len u64 u64x f), .int (f_T_number_a_3 1 120 len u64 u64x f)])), (q, .inl (dA 0, 400, .inl f))]) rfl; exact hnd) ?_))
        refine jm_bipush (v := 60) X d_Z_readFrom_75 (by decide) ?_
        refine jm_imul X d_Z_readFrom_77 ?_
        refine jm_put X d_Z_readFrom_78 fs_Z_27 (by refine jm_us_get ?_ 0 rfl; exact hnd) rfl rfl (Nat.le_of_ble_eq_true rfl) (fs1 := [.int (v49 * 60), .int ((f_T_number 1 120 len u64 u64x f) * 60), .ref bq, .ref eq, .long si, .long (-1152921504606846976), .int of]) rfl (jm_hq (by refine jm_us_set ?_ 0 (L1 := [(b, .inr (2, [.int (v49 * 60), .int ((f_T_number 1 120 len u64 u64x f) * 60), .ref bq, .ref eq, .long si, .long (-1152921504606846976), .int of])), (bq, .inr (3, [.int bmo, .int bwk, .int bwd, .int bmi])), (eq, .inr (3, [.int emo, .int ewk, .int ewd, .int emi])), (a, .inr (1, [.ref q, .int len, .int (f_T_number_a_2 1 120 len u64 u64x f), .int (f_T_number_a_3 1 120 len u64 u64x f)])), (q, .inl (dA 0, 400, .inl f))]) rfl rfl; exact hnd) ?_)
        refine jm_aload_n X d_Z_readFrom_81 rfl 3 rfl ?_
        refine jm_callV (rest := []) X d_Z_readFrom_82 (k_T_requireBlanks E a q len (f_T_number_a_2 1 120 len u64 u64x f) (f_T_number_a_3 1 120 len u64 u64x f) f (jm_us h [(b, .inr (2, [.int (v49 * 60), .int ((f_T_number 1 120 len u64 u64x f) * 60), .ref bq, .ref eq, .long si, .long (-1152921504606846976), .int of])), (bq, .inr (3, [.int bmo, .int bwk, .int bwd, .int bmi])), (eq, .inr (3, [.int emo, .int ewk, .int ewd, .int emi])), (a, .inr (1, [.ref q, .int len, .int (f_T_number_a_2 1 120 len u64 u64x f), .int (f_T_number_a_3 1 120 len u64 u64x f)])), (q, .inl (dA 0, 400, .inl f))]) (by refine jm_us_get ?_ 3 rfl; exact hnd) (by refine jm_us_get ?_ 4 rfl; exact hnd) (by exact jm_pick hnd [3, 4] (by decide) rfl) (by first | with_reducible assumption | (subst eu64x; subst eu64; subst eu56; subst ev49; subst ev29_1; subst ev29;  repeat first | with_reducible assumption | (with_reducible refine jm_req_at ?_ ?_) | (with_reducible refine jm_num_at ?_) | (with_reducible refine jm_bl_at ?_) | (with_reducible refine jm_ite0 ?_ ?_) | (with_reducible refine jm_yr_at ?_) | (with_reducible refine jm_take_at ?_ ?_) | decide) | decide +kernel) (by first | with_reducible assumption | (subst eu64x; subst eu64; subst eu56; subst ev49; subst ev29_1; subst ev29;  repeat first | with_reducible assumption | (with_reducible refine jm_req_at ?_ ?_) | (with_reducible refine jm_num_at ?_) | (with_reducible refine jm_bl_at ?_) | (with_reducible refine jm_ite0 ?_ ?_) | (with_reducible refine jm_yr_at ?_) | (with_reducible refine jm_take_at ?_ ?_) | decide) | decide +kernel)) ci_T_requireBlanks (Or.inl (jm_g2 231 rfl rfl)) im_T_requireBlanks se_T_requireBlanks (by refine jm_us_get ?_ 3 rfl; exact hnd) rfl rfl (Nat.le_of_ble_eq_true rfl) ⟨(Nat.le_of_ble_eq_true rfl), (Nat.le_of_ble_eq_true rfl)⟩ ⟨rfl, rfl⟩ ⟨(Nat.le_of_ble_eq_true rfl), (Nat.le_of_ble_eq_true rfl)⟩ (jm_k0 (jm_hq (by refine jm_into ?_ [3, 4] rfl (L1 := [(b, .inr (2, [.int (v49 * 60), .int ((f_T_number 1 120 len u64 u64x f) * 60), .ref bq, .ref eq, .long si, .long (-1152921504606846976), .int of])), (bq, .inr (3, [.int bmo, .int bwk, .int bwd, .int bmi])), (eq, .inr (3, [.int emo, .int ewk, .int ewd, .int emi])), (a, .inr (1, [.ref q, .int len, .int (f_T_requireBlanks_a_2 len (f_T_number_a_2 1 120 len u64 u64x f) (f_T_number_a_3 1 120 len u64 u64x f) f), .int (f_T_requireBlanks_a_3 len (f_T_number_a_2 1 120 len u64 u64x f) (f_T_number_a_3 1 120 len u64 u64x f) f)])), (q, .inl (dA 0, 400, .inl f))]) rfl; exact hnd) ?_))
        obtain ⟨u82, eu82⟩ : ∃ z_ : Int32, z_ = (f_T_requireBlanks_a_2 len (f_T_number_a_2 1 120 len u64 u64x f) (f_T_number_a_3 1 120 len u64 u64x f) f) := ⟨_, rfl⟩
        rw [← eu82]
        obtain ⟨u82x, eu82x⟩ : ∃ z_ : Int32, z_ = (f_T_requireBlanks_a_3 len (f_T_number_a_2 1 120 len u64 u64x f) (f_T_number_a_3 1 120 len u64 u64x f) f) := ⟨_, rfl⟩
        rw [← eu82x]
        refine jm_aload_n X d_Z_readFrom_85 rfl 2 rfl ?_
        refine jm_get X d_Z_readFrom_86 fs_Z_12 (by refine jm_us_get ?_ 0 rfl; exact hnd) rfl ?_
        refine jm_aload_n X d_Z_readFrom_89 rfl 3 rfl ?_
        refine jm_callV (rest := []) X d_Z_readFrom_90 (k_Y_readFrom E bq a bmo bwk bwd bmi q len u82 u82x f (jm_us h [(b, .inr (2, [.int (v49 * 60), .int ((f_T_number 1 120 len u64 u64x f) * 60), .ref bq, .ref eq, .long si, .long (-1152921504606846976), .int of])), (bq, .inr (3, [.int bmo, .int bwk, .int bwd, .int bmi])), (eq, .inr (3, [.int emo, .int ewk, .int ewd, .int emi])), (a, .inr (1, [.ref q, .int len, .int u82, .int u82x])), (q, .inl (dA 0, 400, .inl f))]) (by refine jm_us_get ?_ 1 rfl; exact hnd) (by refine jm_us_get ?_ 3 rfl; exact hnd) (by refine jm_us_get ?_ 4 rfl; exact hnd) (by exact jm_pick hnd [1, 3, 4] (by decide) rfl) (by first | with_reducible assumption | (subst eu82x; subst eu82; subst eu64x; subst eu64; subst eu56; subst ev49; subst ev29_1; subst ev29;  repeat first | with_reducible assumption | (with_reducible refine jm_req_at ?_ ?_) | (with_reducible refine jm_num_at ?_) | (with_reducible refine jm_bl_at ?_) | (with_reducible refine jm_ite0 ?_ ?_) | (with_reducible refine jm_yr_at ?_) | (with_reducible refine jm_take_at ?_ ?_) | decide) | decide +kernel) (by first | with_reducible assumption | (subst eu82x; subst eu82; subst eu64x; subst eu64; subst eu56; subst ev49; subst ev29_1; subst ev29;  repeat first | with_reducible assumption | (with_reducible refine jm_req_at ?_ ?_) | (with_reducible refine jm_num_at ?_) | (with_reducible refine jm_bl_at ?_) | (with_reducible refine jm_ite0 ?_ ?_) | (with_reducible refine jm_yr_at ?_) | (with_reducible refine jm_take_at ?_ ?_) | decide) | decide +kernel)) ci_Y_readFrom (Or.inl (jm_g2 236 rfl rfl)) im_Y_readFrom se_Y_readFrom (by refine jm_us_get ?_ 1 rfl; exact hnd) rfl rfl (Nat.le_of_ble_eq_true rfl) ⟨(Nat.le_of_ble_eq_true rfl), (Nat.le_of_ble_eq_true rfl)⟩ ⟨rfl, rfl⟩ ⟨(Nat.le_of_ble_eq_true rfl), (Nat.le_of_ble_eq_true rfl)⟩ (jm_k0 (jm_hq (by refine jm_into ?_ [1, 3, 4] rfl (L1 := [(b, .inr (2, [.int (v49 * 60), .int ((f_T_number 1 120 len u64 u64x f) * 60), .ref bq, .ref eq, .long si, .long (-1152921504606846976), .int of])), (bq, .inr (3, [.int (f_Y_readFrom_b_0 bmo bwk bwd bmi len u82 u82x f), .int (f_Y_readFrom_b_1 bmo bwk bwd bmi len u82 u82x f), .int (f_Y_readFrom_b_2 bmo bwk bwd bmi len u82 u82x f), .int (f_Y_readFrom_b_3 bmo bwk bwd bmi len u82 u82x f)])), (eq, .inr (3, [.int emo, .int ewk, .int ewd, .int emi])), (a, .inr (1, [.ref q, .int len, .int (f_Y_readFrom_a_2 bmo bwk bwd bmi len u82 u82x f), .int (f_Y_readFrom_a_3 bmo bwk bwd bmi len u82 u82x f)])), (q, .inl (dA 0, 400, .inl f))]) rfl; exact hnd) ?_))
        obtain ⟨u90, eu90⟩ : ∃ z_ : Int32, z_ = (f_Y_readFrom_b_0 bmo bwk bwd bmi len u82 u82x f) := ⟨_, rfl⟩
        rw [← eu90]
        obtain ⟨u90x, eu90x⟩ : ∃ z_ : Int32, z_ = (f_Y_readFrom_b_1 bmo bwk bwd bmi len u82 u82x f) := ⟨_, rfl⟩
        rw [← eu90x]
        obtain ⟨u90xx, eu90xx⟩ : ∃ z_ : Int32, z_ = (f_Y_readFrom_b_2 bmo bwk bwd bmi len u82 u82x f) := ⟨_, rfl⟩
        rw [← eu90xx]
        obtain ⟨u90xxx, eu90xxx⟩ : ∃ z_ : Int32, z_ = (f_Y_readFrom_b_3 bmo bwk bwd bmi len u82 u82x f) := ⟨_, rfl⟩
        rw [← eu90xxx]
        obtain ⟨u90xxxx, eu90xxxx⟩ : ∃ z_ : Int32, z_ = (f_Y_readFrom_a_2 bmo bwk bwd bmi len u82 u82x f) := ⟨_, rfl⟩
        rw [← eu90xxxx]
        obtain ⟨u90xxxxx, eu90xxxxx⟩ : ∃ z_ : Int32, z_ = (f_Y_readFrom_a_3 bmo bwk bwd bmi len u82 u82x f) := ⟨_, rfl⟩
        rw [← eu90xxxxx]
        refine jm_aload_n X d_Z_readFrom_93 rfl 3 rfl ?_
        refine jm_callV (rest := []) X d_Z_readFrom_94 (k_T_requireBlanks E a q len u90xxxx u90xxxxx f (jm_us h [(b, .inr (2, [.int (v49 * 60), .int ((f_T_number 1 120 len u64 u64x f) * 60), .ref bq, .ref eq, .long si, .long (-1152921504606846976), .int of])), (bq, .inr (3, [.int u90, .int u90x, .int u90xx, .int u90xxx])), (eq, .inr (3, [.int emo, .int ewk, .int ewd, .int emi])), (a, .inr (1, [.ref q, .int len, .int u90xxxx, .int u90xxxxx])), (q, .inl (dA 0, 400, .inl f))]) (by refine jm_us_get ?_ 3 rfl; exact hnd) (by refine jm_us_get ?_ 4 rfl; exact hnd) (by exact jm_pick hnd [3, 4] (by decide) rfl) (by first | with_reducible assumption | (subst eu90xxxxx; subst eu90xxxx; subst eu90xxx; subst eu90xx; subst eu90x; subst eu90; subst eu82x; subst eu82; subst eu64x; subst eu64; subst eu56; subst ev49; subst ev29_1; subst ev29;  repeat first | with_reducible assumption | (with_reducible refine jm_req_at ?_ ?_) | (with_reducible refine jm_num_at ?_) | (with_reducible refine jm_bl_at ?_) | (with_reducible refine jm_ite0 ?_ ?_) | (with_reducible refine jm_yr_at ?_) | (with_reducible refine jm_take_at ?_ ?_) | decide) | decide +kernel) (by first | with_reducible assumption | (subst eu90xxxxx; subst eu90xxxx; subst eu90xxx; subst eu90xx; subst eu90x; subst eu90; subst eu82x; subst eu82; subst eu64x; subst eu64; subst eu56; subst ev49; subst ev29_1; subst ev29;  repeat first | with_reducible assumption | (with_reducible refine jm_req_at ?_ ?_) | (with_reducible refine jm_num_at ?_) | (with_reducible refine jm_bl_at ?_) | (with_reducible refine jm_ite0 ?_ ?_) | (with_reducible refine jm_yr_at ?_) | (with_reducible refine jm_take_at ?_ ?_) | decide) | decide +kernel)) ci_T_requireBlanks (Or.inl (jm_g2 231 rfl rfl)) im_T_requireBlanks se_T_requireBlanks (by refine jm_us_get ?_ 3 rfl; exact hnd) rfl rfl (Nat.le_of_ble_eq_true rfl) ⟨(Nat.le_of_ble_eq_true rfl), (Nat.le_of_ble_eq_true rfl)⟩ ⟨rfl, rfl⟩ ⟨(Nat.le_of_ble_eq_true rfl), (Nat.le_of_ble_eq_true rfl)⟩ (jm_k0 (jm_hq (by refine jm_into ?_ [3, 4] rfl (L1 := [(b, .inr (2, [.int (v49 * 60), .int ((f_T_number 1 120 len u64 u64x f) * 60), .ref bq, .ref eq, .long si, .long (-1152921504606846976), .int of])), (bq, .inr (3, [.int u90, .int u90x, .int u90xx, .int u90xxx])), (eq, .inr (3, [.int emo, .int ewk, .int ewd, .int emi])), (a, .inr (1, [.ref q, .int len, .int (f_T_requireBlanks_a_2 len u90xxxx u90xxxxx f), .int (f_T_requireBlanks_a_3 len u90xxxx u90xxxxx f)])), (q, .inl (dA 0, 400, .inl f))]) rfl; exact hnd) ?_))
        obtain ⟨u94, eu94⟩ : ∃ z_ : Int32, z_ = (f_T_requireBlanks_a_2 len u90xxxx u90xxxxx f) := ⟨_, rfl⟩
        rw [← eu94]
        obtain ⟨u94x, eu94x⟩ : ∃ z_ : Int32, z_ = (f_T_requireBlanks_a_3 len u90xxxx u90xxxxx f) := ⟨_, rfl⟩
        rw [← eu94x]
        refine jm_aload_n X d_Z_readFrom_97 rfl 2 rfl ?_
        refine jm_get X d_Z_readFrom_98 fs_Z_18 (by refine jm_us_get ?_ 0 rfl; exact hnd) rfl ?_
        refine jm_aload_n X d_Z_readFrom_101 rfl 3 rfl ?_
        refine jm_callV (rest := []) X d_Z_readFrom_102 (k_Y_readFrom E eq a emo ewk ewd emi q len u94 u94x f (jm_us h [(b, .inr (2, [.int (v49 * 60), .int ((f_T_number 1 120 len u64 u64x f) * 60), .ref bq, .ref eq, .long si, .long (-1152921504606846976), .int of])), (bq, .inr (3, [.int u90, .int u90x, .int u90xx, .int u90xxx])), (eq, .inr (3, [.int emo, .int ewk, .int ewd, .int emi])), (a, .inr (1, [.ref q, .int len, .int u94, .int u94x])), (q, .inl (dA 0, 400, .inl f))]) (by refine jm_us_get ?_ 2 rfl; exact hnd) (by refine jm_us_get ?_ 3 rfl; exact hnd) (by refine jm_us_get ?_ 4 rfl; exact hnd) (by exact jm_pick hnd [2, 3, 4] (by decide) rfl) (by first | with_reducible assumption | (subst eu94x; subst eu94; subst eu90xxxxx; subst eu90xxxx; subst eu90xxx; subst eu90xx; subst eu90x; subst eu90; subst eu82x; subst eu82; subst eu64x; subst eu64; subst eu56; subst ev49; subst ev29_1; subst ev29;  repeat first | with_reducible assumption | (with_reducible refine jm_req_at ?_ ?_) | (with_reducible refine jm_num_at ?_) | (with_reducible refine jm_bl_at ?_) | (with_reducible refine jm_ite0 ?_ ?_) | (with_reducible refine jm_yr_at ?_) | (with_reducible refine jm_take_at ?_ ?_) | decide) | decide +kernel) (by first | with_reducible assumption | (subst eu94x; subst eu94; subst eu90xxxxx; subst eu90xxxx; subst eu90xxx; subst eu90xx; subst eu90x; subst eu90; subst eu82x; subst eu82; subst eu64x; subst eu64; subst eu56; subst ev49; subst ev29_1; subst ev29;  repeat first | with_reducible assumption | (with_reducible refine jm_req_at ?_ ?_) | (with_reducible refine jm_num_at ?_) | (with_reducible refine jm_bl_at ?_) | (with_reducible refine jm_ite0 ?_ ?_) | (with_reducible refine jm_yr_at ?_) | (with_reducible refine jm_take_at ?_ ?_) | decide) | decide +kernel)) ci_Y_readFrom (Or.inl (jm_g2 236 rfl rfl)) im_Y_readFrom se_Y_readFrom (by refine jm_us_get ?_ 2 rfl; exact hnd) rfl rfl (Nat.le_of_ble_eq_true rfl) ⟨(Nat.le_of_ble_eq_true rfl), (Nat.le_of_ble_eq_true rfl)⟩ ⟨rfl, rfl⟩ ⟨(Nat.le_of_ble_eq_true rfl), (Nat.le_of_ble_eq_true rfl)⟩ (jm_k0 (jm_hq (by refine jm_into ?_ [2, 3, 4] rfl (L1 := [(b, .inr (2, [.int (v49 * 60), .int ((f_T_number 1 120 len u64 u64x f) * 60), .ref bq, .ref eq, .long si, .long (-1152921504606846976), .int of])), (bq, .inr (3, [.int u90, .int u90x, .int u90xx, .int u90xxx])), (eq, .inr (3, [.int (f_Y_readFrom_b_0 emo ewk ewd emi len u94 u94x f), .int (f_Y_readFrom_b_1 emo ewk ewd emi len u94 u94x f), .int (f_Y_readFrom_b_2 emo ewk ewd emi len u94 u94x f), .int (f_Y_readFrom_b_3 emo ewk ewd emi len u94 u94x f)])), (a, .inr (1, [.ref q, .int len, .int (f_Y_readFrom_a_2 emo ewk ewd emi len u94 u94x f), .int (f_Y_readFrom_a_3 emo ewk ewd emi len u94 u94x f)])), (q, .inl (dA 0, 400, .inl f))]) rfl; exact hnd) ?_))
        obtain ⟨u102, eu102⟩ : ∃ z_ : Int32, z_ = (f_Y_readFrom_b_0 emo ewk ewd emi len u94 u94x f) := ⟨_, rfl⟩
        rw [← eu102]
        obtain ⟨u102x, eu102x⟩ : ∃ z_ : Int32, z_ = (f_Y_readFrom_b_1 emo ewk ewd emi len u94 u94x f) := ⟨_, rfl⟩
        rw [← eu102x]
        obtain ⟨u102xx, eu102xx⟩ : ∃ z_ : Int32, z_ = (f_Y_readFrom_b_2 emo ewk ewd emi len u94 u94x f) := ⟨_, rfl⟩
        rw [← eu102xx]
        obtain ⟨u102xxx, eu102xxx⟩ : ∃ z_ : Int32, z_ = (f_Y_readFrom_b_3 emo ewk ewd emi len u94 u94x f) := ⟨_, rfl⟩
        rw [← eu102xxx]
        obtain ⟨u102xxxx, eu102xxxx⟩ : ∃ z_ : Int32, z_ = (f_Y_readFrom_a_2 emo ewk ewd emi len u94 u94x f) := ⟨_, rfl⟩
        rw [← eu102xxxx]
        obtain ⟨u102xxxxx, eu102xxxxx⟩ : ∃ z_ : Int32, z_ = (f_Y_readFrom_a_3 emo ewk ewd emi len u94 u94x f) := ⟨_, rfl⟩
        rw [← eu102xxxxx]
        refine jm_aload_n X d_Z_readFrom_105 rfl 3 rfl ?_
        refine jm_callV (rest := []) X d_Z_readFrom_106 (k_T_requireEnd E a q len u102xxxx u102xxxxx f (jm_us h [(b, .inr (2, [.int (v49 * 60), .int ((f_T_number 1 120 len u64 u64x f) * 60), .ref bq, .ref eq, .long si, .long (-1152921504606846976), .int of])), (bq, .inr (3, [.int u90, .int u90x, .int u90xx, .int u90xxx])), (eq, .inr (3, [.int u102, .int u102x, .int u102xx, .int u102xxx])), (a, .inr (1, [.ref q, .int len, .int u102xxxx, .int u102xxxxx])), (q, .inl (dA 0, 400, .inl f))]) (by refine jm_us_get ?_ 3 rfl; exact hnd) (by refine jm_us_get ?_ 4 rfl; exact hnd) (by exact jm_pick hnd [3, 4] (by decide) rfl) (by first | with_reducible assumption | (subst eu102xxxxx; subst eu102xxxx; subst eu102xxx; subst eu102xx; subst eu102x; subst eu102; subst eu94x; subst eu94; subst eu90xxxxx; subst eu90xxxx; subst eu90xxx; subst eu90xx; subst eu90x; subst eu90; subst eu82x; subst eu82; subst eu64x; subst eu64; subst eu56; subst ev49; subst ev29_1; subst ev29;  repeat first | with_reducible assumption | (with_reducible refine jm_req_at ?_ ?_) | (with_reducible refine jm_num_at ?_) | (with_reducible refine jm_bl_at ?_) | (with_reducible refine jm_ite0 ?_ ?_) | (with_reducible refine jm_yr_at ?_) | (with_reducible refine jm_take_at ?_ ?_) | decide) | decide +kernel) (by first | with_reducible assumption | (subst eu102xxxxx; subst eu102xxxx; subst eu102xxx; subst eu102xx; subst eu102x; subst eu102; subst eu94x; subst eu94; subst eu90xxxxx; subst eu90xxxx; subst eu90xxx; subst eu90xx; subst eu90x; subst eu90; subst eu82x; subst eu82; subst eu64x; subst eu64; subst eu56; subst ev49; subst ev29_1; subst ev29;  repeat first | with_reducible assumption | (with_reducible refine jm_req_at ?_ ?_) | (with_reducible refine jm_num_at ?_) | (with_reducible refine jm_bl_at ?_) | (with_reducible refine jm_ite0 ?_ ?_) | (with_reducible refine jm_yr_at ?_) | (with_reducible refine jm_take_at ?_ ?_) | decide) | decide +kernel)) ci_T_requireEnd (Or.inl (jm_g3 2 rfl rfl)) im_T_requireEnd se_T_requireEnd (by refine jm_us_get ?_ 3 rfl; exact hnd) rfl rfl (Nat.le_of_ble_eq_true rfl) ⟨(Nat.le_of_ble_eq_true rfl), (Nat.le_of_ble_eq_true rfl)⟩ ⟨rfl, rfl⟩ ⟨(Nat.le_of_ble_eq_true rfl), (Nat.le_of_ble_eq_true rfl)⟩ (jm_k0 (jm_hq (by refine jm_into ?_ [3, 4] rfl (L1 := [(b, .inr (2, [.int (v49 * 60), .int ((f_T_number 1 120 len u64 u64x f) * 60), .ref bq, .ref eq, .long si, .long (-1152921504606846976), .int of])), (bq, .inr (3, [.int u90, .int u90x, .int u90xx, .int u90xxx])), (eq, .inr (3, [.int u102, .int u102x, .int u102xx, .int u102xxx])), (a, .inr (1, [.ref q, .int len, .int u102xxxx, .int (f_T_requireEnd_a_3 len u102xxxx u102xxxxx f)])), (q, .inl (dA 0, 400, .inl f))]) rfl; exact hnd) ?_))
        obtain ⟨u106, eu106⟩ : ∃ z_ : Int32, z_ = (f_T_requireEnd_a_3 len u102xxxx u102xxxxx f) := ⟨_, rfl⟩
        rw [← eu106]
        exact jm_vret X hr hk d_Z_readFrom_109 ⟨rfl, (by show jm_us h _ = jm_us h _; unfold f_Z_readFrom_b_0 f_Z_readFrom_b_1 f_Z_readFrom_b_5 f_Z_readFrom_bq_0 f_Z_readFrom_bq_1 f_Z_readFrom_bq_2 f_Z_readFrom_bq_3 f_Z_readFrom_eq_0 f_Z_readFrom_eq_1 f_Z_readFrom_eq_2 f_Z_readFrom_eq_3 f_Z_readFrom_a_2 f_Z_readFrom_a_3; subst eu106; subst eu102xxxxx; subst eu102xxxx; subst eu102xxx; subst eu102xx; subst eu102x; subst eu102; subst eu94x; subst eu94; subst eu90xxxxx; subst eu90xxxx; subst eu90xxx; subst eu90xx; subst eu90x; subst eu90; subst eu82x; subst eu82; subst eu64x; subst eu64; subst eu56; subst ev49; subst ev29_1; subst ev29; first | (simp only [if_pos c5, reduceIte]; done) | (simp only [if_pos c5, reduceIte]; rfl) | rfl)⟩
      · exact jm_vret X hr hk d_Z_readFrom_62 ⟨rfl, (by show jm_us h _ = jm_us h _; unfold f_Z_readFrom_b_0 f_Z_readFrom_b_1 f_Z_readFrom_b_5 f_Z_readFrom_bq_0 f_Z_readFrom_bq_1 f_Z_readFrom_bq_2 f_Z_readFrom_bq_3 f_Z_readFrom_eq_0 f_Z_readFrom_eq_1 f_Z_readFrom_eq_2 f_Z_readFrom_eq_3 f_Z_readFrom_a_2 f_Z_readFrom_a_3; subst eu56; subst ev49; subst ev29_1; subst ev29; first | (simp only [if_neg c5, reduceIte]; done) | (simp only [if_neg c5, reduceIte]; rfl) | rfl)⟩
    refine jm_if_eq (tgt := 48) X d_Z_readFrom_40 (by decide) (fun c3 => ?_) (fun c3 => ?_)
    · refine jm_iload_n X d_Z_readFrom_48 rfl 0 rfl ?_
      exact J49_4 _ (by first | (simp only [if_pos c3, reduceIte]; done) | (with_reducible rfl))
    · refine jm_iload_n X d_Z_readFrom_43 rfl 0 rfl ?_
      refine jm_ineg X d_Z_readFrom_44 ?_
      refine jm_goto (tgt := 49) X d_Z_readFrom_45 (by decide) ?_
      exact J49_4 _ (by first | (simp only [if_neg c3, reduceIte]; done) | (with_reducible rfl))
  refine jm_if_ne (tgt := 29) X d_Z_readFrom_20 (by decide) (fun c1 => ?_) (fun c1 => ?_)
  · exact J29_2 _ _ (by first | (simp only [if_neg c1, reduceIte]; done) | (with_reducible rfl)) (by first | (simp only [if_neg c1, reduceIte]; done) | (with_reducible rfl))
  · refine jm_aload_n X d_Z_readFrom_23 rfl 2 rfl ?_
    refine jm_bipush (v := 43) X d_Z_readFrom_24 (by decide) ?_
    refine jm_callV (rest := []) X d_Z_readFrom_26 (k_T_require E a 43 q len (f_T_take_a_2 45 len at_ br f) br f (jm_us h [(b, .inr (2, [.int ba, .int 0, .ref bq, .ref eq, .long si, .long (-1152921504606846976), .int of])), (bq, .inr (3, [.int bmo, .int bwk, .int bwd, .int bmi])), (eq, .inr (3, [.int emo, .int ewk, .int ewd, .int emi])), (a, .inr (1, [.ref q, .int len, .int (f_T_take_a_2 45 len at_ br f), .int br])), (q, .inl (dA 0, 400, .inl f))]) (by refine jm_us_get ?_ 3 rfl; exact hnd) (by refine jm_us_get ?_ 4 rfl; exact hnd) (by exact jm_pick hnd [3, 4] (by decide) rfl) (by first | with_reducible assumption | ( repeat first | with_reducible assumption | (with_reducible refine jm_req_at ?_ ?_) | (with_reducible refine jm_num_at ?_) | (with_reducible refine jm_bl_at ?_) | (with_reducible refine jm_ite0 ?_ ?_) | (with_reducible refine jm_yr_at ?_) | (with_reducible refine jm_take_at ?_ ?_) | decide) | decide +kernel) (by first | with_reducible assumption | ( repeat first | with_reducible assumption | (with_reducible refine jm_req_at ?_ ?_) | (with_reducible refine jm_num_at ?_) | (with_reducible refine jm_bl_at ?_) | (with_reducible refine jm_ite0 ?_ ?_) | (with_reducible refine jm_yr_at ?_) | (with_reducible refine jm_take_at ?_ ?_) | decide) | decide +kernel)) ci_T_require (Or.inl (jm_g2 207 rfl rfl)) im_T_require se_T_require (by refine jm_us_get ?_ 3 rfl; exact hnd) rfl rfl (Nat.le_of_ble_eq_true rfl) ⟨(Nat.le_of_ble_eq_true rfl), (Nat.le_of_ble_eq_true rfl)⟩ ⟨rfl, rfl⟩ ⟨(Nat.le_of_ble_eq_true rfl), (Nat.le_of_ble_eq_true rfl)⟩ (jm_k0 (jm_hq (by refine jm_into ?_ [3, 4] rfl (L1 := [(b, .inr (2, [.int ba, .int 0, .ref bq, .ref eq, .long si, .long (-1152921504606846976), .int of])), (bq, .inr (3, [.int bmo, .int bwk, .int bwd, .int bmi])), (eq, .inr (3, [.int emo, .int ewk, .int ewd, .int emi])), (a, .inr (1, [.ref q, .int len, .int (f_T_require_a_2 43 len (f_T_take_a_2 45 len at_ br f) br f), .int (f_T_require_a_3 43 len (f_T_take_a_2 45 len at_ br f) br f)])), (q, .inl (dA 0, 400, .inl f))]) rfl; exact hnd) ?_))
    exact J29_2 _ _ (by first | (simp only [if_pos c1, reduceIte]; done) | (with_reducible rfl)) (by first | (simp only [if_pos c1, reduceIte]; done) | (with_reducible rfl))
end
section
section JM8
variable {p : Program} {l : Launch} {e : Env} {R : Room} {s : State} {m : MethodId} {args : Array Value} {below : List Frame} {meth : Method} {c : Code} {Q : State → Prop}
variable {S : State} {D : va_G} {cl : List vw_C} {tys : List (ClassId × FieldType)} {G : List Cond} {cc : ByteArray} {nL pc dc ds : Nat} {own : String} {lv : List (Nat × Value)} {rest st : List Value} {h : jm_H}
theorem jm_stat {S U : State} {a a' : Array Value} {C n d : String} (hev : jm_ev S U) (hw : (Cond.laysStatic C n d).before a S = true) : (Cond.laysStatic C n d).before a' U = true := by
  obtain ⟨c, k, i, f, ad, cell, hc, hi, hst, ha, hcell, hs, hcls, hlt, hty⟩ := Cond.laysStatic_spec hw
  obtain ⟨k', hi', he⟩ := State.fieldFound?_setVm hev.1.alike hi
  have hlt2 := (Array.getElem?_eq_some_iff.mp hcell).1
  exact Cond.laysStatic_of (by rw [hev.1.alike.findClass]; exact hc) hi' hst (by rw [he]; exact ha) (by rw [hev.2.2 ad hlt2]; exact hcell) hs hcls hlt (by rw [he]; exact hty)
theorem jm_evS {S U : State} {a a' : Array Value} {C n d : String} (hev : jm_ev S U) (hw : (Cond.laysStatic C n d).before a S = true) : (Term.static C n d).eval a' U none [] U = (Term.static C n d).eval a S none [] S := by
  obtain ⟨c, k, i, f, ad, cell, hc, hi, hst, ha, hcell, hs, hcls, hlt, hty⟩ := Cond.laysStatic_spec hw
  obtain ⟨k', hi', he⟩ := State.fieldFound?_setVm hev.1.alike hi
  have hlt2 := (Array.getElem?_eq_some_iff.mp hcell).1
  have ha' : k'.statics = some ad := by rw [he]; exact ha
  have hc' : U.heap[ad]? = some cell := by rw [hev.2.2 ad hlt2]; exact hcell
  have hi2 : U.fieldFound? C n d = some (c, k', i, f) := hi'
  simp [Term.eval, State.fieldNamed?, hi2, hi, hst, ha, ha', hcell, hc']
theorem jm_sref {S U : State} {a a' : Array Value} {C n d : String} (hev : jm_ev S U) (hw : (Cond.laysStatic C n d).before a S = true) (hr : (Cond.isRef (.static C n d)).before a S = true) : (Cond.isRef (.static C n d)).before a' U = true := by
  have e1 := jm_evS (a := a) (a' := a') hev hw
  simp only [Cond.before, Cond.holds, Cond.value, e1] at hr ⊢
  exact hr
theorem jm_cast {S U : State} {a a' : Array Value} {A B : String} (hev : jm_ev S U) (hw : (Cond.castable A B).before a S = true) : (Cond.castable A B).before a' U = true := by
  obtain ⟨c1, t1, h1, h2, h3⟩ := Cond.castable_spec hw
  have g1 : U.vm.findClass A = some c1 := by rw [hev.1.alike.findClass]; exact h1
  have g2 : U.vm.findClass B = some t1 := by rw [hev.1.alike.findClass]; exact h2
  have g3 : U.vm.assignable c1 t1 = true := by rw [hev.1.alike.assignable]; exact h3
  simp [Cond.before, Cond.holds, Cond.value, g1, g2, g3]
def jm_hs (S : State) (w : Cond) : Prop := (∃ C n d, w = .laysStatic C n d ∧ ∃ a0 : Array Value, (Cond.laysStatic C n d).before a0 S = true) ∨ (∃ C n d, w = .isRef (.static C n d) ∧ ∃ a0 : Array Value, (Cond.laysStatic C n d).before a0 S = true ∧ (Cond.isRef (.static C n d)).before a0 S = true) ∨ ∃ A B, w = .castable A B ∧ ∃ a0 : Array Value, (Cond.castable A B).before a0 S = true
theorem jm_hs_w {S U : State} {a : Array Value} {w : Cond} (hev : jm_ev S U) (hw : jm_hs S w) : w.before a U = true := by
  rcases hw with ⟨C, n, d, rfl, a0, h1⟩ | ⟨C, n, d, rfl, a0, h1, h2⟩ | ⟨A, B, rfl, a0, h1⟩
  · exact jm_stat hev h1
  · exact jm_sref hev h1 h2
  · exact jm_cast hev h1
theorem jm_throw {Po : Outcome → jm_H → Prop} (X : jm_cx p s m args c S D cl tys G cc nL own) (hst : l.stackTraces = false) {cls : String} {names : List String} {ik ic ci : Nat} {T0 : u_T} (hcls : Bundle.fit cls = true) (hnames : ∀ n ∈ names, Bundle.fit n = true)
    (d0 : decode cc pc = .ok (.new ik, 3)) (d3 : decode cc (pc + 3) = .ok (.dup, 1)) (d4 : decode cc (pc + 4) = .ok (.invokespecial ic, 3)) (d7 : decode cc (pc + 7) = .ok (.athrow, 1))
    (w1 : Cond.classLink own ik cls ∈ G) (w2 : Cond.instantiable cls 6 ∈ G) (w3 : Cond.initialized cls ∈ G) (hat : ∀ w ∈ Bundle.ownAtoms0 own ic cls names, w ∈ G ∨ jm_hs S w) (hci : cl[ci]? = some (cls, T0, 0)) (hout : c.exceptionTable.isEmpty = true) (hk : meth.locks = false)
    (hR1 : names.length + 3 < R.frames) (hR2 : ((Value.ref 0 :: rest).map fun v => v.category).sum + (13 * (names.length + 1) + 41) ≤ R.locals) (hcells : dc + 1 ≤ R.cells) (hslots : ds + 6 ≤ R.slots)
    (hP : ∀ q : Nat, h q = none → S.heap.size ≤ q → Po (.threw q) (jm_up h q (.inr (ci, [])))) : jm_W p l e R s m args below meth c S D cl (jm_Q S D cl below s Po (dc + 1) (ds + 6)) nL pc lv rest h dc ds := by
  intro H ls locs hl hr hS T hT Y
  subst hT
  have htr : e.platform.stackTraces = false := (show e.platform.stackTraces = l.stackTraces by rw [Y.admits.platform]).trans hst
  have Z := jm_rebase Y (by omega) (by omega)
  have hevT := jm_evT X hS Y.warmed
  have hev : jm_ev S (T.setFrames (.invoking m args :: below)) := hevT
  have hts := jm_en_w X.2.2.2.2.2.2.2 hev.1 args
  have hown : (T.setFrames (.invoking m args :: below)).vm.findClass own = some m.cls := by
    have h1 := Y.warmed.alike.findClass own
    exact h1.trans X.2.2.2.1
  obtain ⟨vm₁, cX, kX, hfX, hkX, -, -, Z1, st1⟩ := Z.newCold X.1 (own := own) (C := cls) (index := ik) (n := 6) hown (hts _ w1) (hts _ w2) (hts _ w3) (g := F0 m pc ls rest) rfl (by rw [X.2.1]; exact d0) (by show 0 + 1 ≤ R.cells - dc; omega) (by show 0 + 6 ≤ R.slots - ds; omega)
  generalize hT1 : (T.setVm vm₁).pushCell { cls := cX, slots := kX.instanceTypes.map defaultValue, vm := .none } = T1 at Z1 st1
  have hcellA : T1.heap[T.heap.size]? = some (freshCell cX kX) := by rw [← hT1]; exact State.heap_pushCell_size _ _
  obtain ⟨U, hsteps, hrun, hend, hW, hsame, ce, hce, K⟩ := Z1.ctorThrow0 X.1 htr (own := own) (cls := cls) (names := names) (ic := ic) hown hcls hnames (fun w hw => by
      rcases hat w hw with h1 | h1
      · exact hts w h1
      · exact jm_hs_w hev h1) (fun y hy => by cases hy) hfX hkX hcellA (Nat.le_refl _)
    (g := F0 m (pc + 4) ls (.ref T.heap.size :: .ref T.heap.size :: rest)) rfl (hl.1.trans X.2.2.1.symm) rfl rfl (rest := rest) rfl (by rw [X.2.1]; exact d4) (by rw [X.2.1]; exact d7) (covers_of_empty hout _) hR1 (by
      show 2 * 0 + _ + _ ≤ R.locals
      have : ((Value.ref T.heap.size :: rest).map fun v => v.category).sum = ((Value.ref 0 :: rest).map fun v => v.category).sum := rfl
      omega) (hlocks := hk)
  sorry
end JM8
end
