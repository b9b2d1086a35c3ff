section
/-- a private method of a class that the tables say can be made, by its rows of tables_1 -/
def lw_okq (q : MethodName × Nat) : Prop := (q.1.cls ≠ "java/lang/invoke/MethodHandle" ∧ q.1.cls ≠ "java/lang/invoke/VarHandle") ∧ Cond.instantiable q.1.cls q.2 ∈ tables_1 ∧ Cond.privateMethod q.1 ∈ tables_1 ∧ Cond.instanceMethod q.1 ∈ tables_1
theorem lw_p0 : lw_okq (⟨"java/lang/Throwable", "fillInStackTrace", "(I)Ljava/lang/Throwable;"⟩, 6) := ⟨⟨by decide +kernel, by decide +kernel⟩, List.mem_of_getElem? (i := 368) (by decide +kernel), List.mem_of_getElem? (i := 366) (by decide +kernel), List.mem_of_getElem? (i := 367) (by decide +kernel)⟩
theorem lw_p1 : lw_okq (⟨"JobHouse", "checkNotBroken", "()V"⟩, 18) := ⟨⟨by decide +kernel, by decide +kernel⟩, List.mem_of_getElem? (i := 29) (by decide +kernel), List.mem_of_getElem? (i := 488) (by decide +kernel), List.mem_of_getElem? (i := 489) (by decide +kernel)⟩
theorem lw_p2 : lw_okq (⟨"JobHouse", "aimAt", "(III)V"⟩, 18) := ⟨⟨by decide +kernel, by decide +kernel⟩, List.mem_of_getElem? (i := 29) (by decide +kernel), List.mem_of_getElem? (i := 657) (by decide +kernel), List.mem_of_getElem? (i := 658) (by decide +kernel)⟩
theorem lw_p3 : lw_okq (⟨"JobHouse$Zone", "findStretch", "(J)V"⟩, 7) := ⟨⟨by decide +kernel, by decide +kernel⟩, List.mem_of_getElem? (i := 109) (by decide +kernel), List.mem_of_getElem? (i := 671) (by decide +kernel), List.mem_of_getElem? (i := 672) (by decide +kernel)⟩
theorem lw_p4 : lw_okq (⟨"JobHouse$Fires", "localFrom", "(J)J"⟩, 3) := ⟨⟨by decide +kernel, by decide +kernel⟩, List.mem_of_getElem? (i := 80) (by decide +kernel), List.mem_of_getElem? (i := 727) (by decide +kernel), List.mem_of_getElem? (i := 728) (by decide +kernel)⟩
theorem lw_p5 : lw_okq (⟨"JobHouse$Fires", "dayFrom", "(I)I"⟩, 3) := ⟨⟨by decide +kernel, by decide +kernel⟩, List.mem_of_getElem? (i := 80) (by decide +kernel), List.mem_of_getElem? (i := 732) (by decide +kernel), List.mem_of_getElem? (i := 733) (by decide +kernel)⟩
theorem lw_p6 : lw_okq (⟨"JobHouse$Fires", "dateFrom", "(III)I"⟩, 3) := ⟨⟨by decide +kernel, by decide +kernel⟩, List.mem_of_getElem? (i := 80) (by decide +kernel), List.mem_of_getElem? (i := 750) (by decide +kernel), List.mem_of_getElem? (i := 751) (by decide +kernel)⟩
theorem lw_p7 : lw_okq (⟨"JobHouse$Cron", "weekdaysFrom", "(I)J"⟩, 4) := ⟨⟨by decide +kernel, by decide +kernel⟩, List.mem_of_getElem? (i := 86) (by decide +kernel), List.mem_of_getElem? (i := 763) (by decide +kernel), List.mem_of_getElem? (i := 764) (by decide +kernel)⟩
theorem lw_p8 : lw_okq (⟨"JobHouse$Fires", "localUpTo", "(J)J"⟩, 3) := ⟨⟨by decide +kernel, by decide +kernel⟩, List.mem_of_getElem? (i := 80) (by decide +kernel), List.mem_of_getElem? (i := 804) (by decide +kernel), List.mem_of_getElem? (i := 805) (by decide +kernel)⟩
theorem lw_p9 : lw_okq (⟨"JobHouse$Fires", "dayUpTo", "(I)I"⟩, 3) := ⟨⟨by decide +kernel, by decide +kernel⟩, List.mem_of_getElem? (i := 80) (by decide +kernel), List.mem_of_getElem? (i := 808) (by decide +kernel), List.mem_of_getElem? (i := 809) (by decide +kernel)⟩
theorem lw_p10 : lw_okq (⟨"JobHouse$Fires", "dateUpTo", "(III)I"⟩, 3) := ⟨⟨by decide +kernel, by decide +kernel⟩, List.mem_of_getElem? (i := 80) (by decide +kernel), List.mem_of_getElem? (i := 814) (by decide +kernel), List.mem_of_getElem? (i := 815) (by decide +kernel)⟩
theorem lw_p11 : lw_okq (⟨"JobHouse", "checkOpen", "()V"⟩, 18) := ⟨⟨by decide +kernel, by decide +kernel⟩, List.mem_of_getElem? (i := 29) (by decide +kernel), List.mem_of_getElem? (i := 861) (by decide +kernel), List.mem_of_getElem? (i := 862) (by decide +kernel)⟩
theorem lw_p12 : lw_okq (⟨"JobHouse", "freeSlot", "()I"⟩, 18) := ⟨⟨by decide +kernel, by decide +kernel⟩, List.mem_of_getElem? (i := 29) (by decide +kernel), List.mem_of_getElem? (i := 880) (by decide +kernel), List.mem_of_getElem? (i := 881) (by decide +kernel)⟩
theorem lw_p13 : lw_okq (⟨"JobHouse", "fill", "(LJobHouse$Job;JIII)V"⟩, 18) := ⟨⟨by decide +kernel, by decide +kernel⟩, List.mem_of_getElem? (i := 29) (by decide +kernel), List.mem_of_getElem? (i := 884) (by decide +kernel), List.mem_of_getElem? (i := 885) (by decide +kernel)⟩
theorem lw_p14 : lw_okq (⟨"JobHouse", "jobAt", "(I)LJobHouse$Job;"⟩, 18) := ⟨⟨by decide +kernel, by decide +kernel⟩, List.mem_of_getElem? (i := 29) (by decide +kernel), List.mem_of_getElem? (i := 904) (by decide +kernel), List.mem_of_getElem? (i := 905) (by decide +kernel)⟩
theorem lw_p15 : lw_okq (⟨"JobHouse", "remove", "(LJobHouse$Job;)V"⟩, 18) := ⟨⟨by decide +kernel, by decide +kernel⟩, List.mem_of_getElem? (i := 29) (by decide +kernel), List.mem_of_getElem? (i := 923) (by decide +kernel), List.mem_of_getElem? (i := 924) (by decide +kernel)⟩
def lw_privs_1 : List (MethodName × Nat) := [(⟨"java/lang/Throwable", "fillInStackTrace", "(I)Ljava/lang/Throwable;"⟩, 6), (⟨"JobHouse", "checkNotBroken", "()V"⟩, 18), (⟨"JobHouse", "aimAt", "(III)V"⟩, 18), (⟨"JobHouse$Zone", "findStretch", "(J)V"⟩, 7), (⟨"JobHouse$Fires", "localFrom", "(J)J"⟩, 3), (⟨"JobHouse$Fires", "dayFrom", "(I)I"⟩, 3), (⟨"JobHouse$Fires", "dateFrom", "(III)I"⟩, 3), (⟨"JobHouse$Cron", "weekdaysFrom", "(I)J"⟩, 4), (⟨"JobHouse$Fires", "localUpTo", "(J)J"⟩, 3), (⟨"JobHouse$Fires", "dayUpTo", "(I)I"⟩, 3), (⟨"JobHouse$Fires", "dateUpTo", "(III)I"⟩, 3), (⟨"JobHouse", "checkOpen", "()V"⟩, 18), (⟨"JobHouse", "freeSlot", "()I"⟩, 18), (⟨"JobHouse", "fill", "(LJobHouse$Job;JIII)V"⟩, 18), (⟨"JobHouse", "jobAt", "(I)LJobHouse$Job;"⟩, 18), (⟨"JobHouse", "remove", "(LJobHouse$Job;)V"⟩, 18)]
theorem lw_r1 : ∀ q ∈ lw_privs_1, lw_okq q := List.forall_mem_cons.mpr ⟨lw_p0, List.forall_mem_cons.mpr ⟨lw_p1, List.forall_mem_cons.mpr ⟨lw_p2, List.forall_mem_cons.mpr ⟨lw_p3, List.forall_mem_cons.mpr ⟨lw_p4, List.forall_mem_cons.mpr ⟨lw_p5, List.forall_mem_cons.mpr ⟨lw_p6, List.forall_mem_cons.mpr ⟨lw_p7, List.forall_mem_cons.mpr ⟨lw_p8, List.forall_mem_cons.mpr ⟨lw_p9, List.forall_mem_cons.mpr ⟨lw_p10, List.forall_mem_cons.mpr ⟨lw_p11, List.forall_mem_cons.mpr ⟨lw_p12, List.forall_mem_cons.mpr ⟨lw_p13, List.forall_mem_cons.mpr ⟨lw_p14, List.forall_mem_cons.mpr ⟨lw_p15, fun _ h => absurd h List.not_mem_nil⟩⟩⟩⟩⟩⟩⟩⟩⟩⟩⟩⟩⟩⟩⟩⟩
theorem lw_p16 : lw_okq (⟨"JobHouse", "checkWay", "(J)V"⟩, 18) := ⟨⟨by decide +kernel, by decide +kernel⟩, List.mem_of_getElem? (i := 29) (by decide +kernel), List.mem_of_getElem? (i := 942) (by decide +kernel), List.mem_of_getElem? (i := 943) (by decide +kernel)⟩
theorem lw_p17 : lw_okq (⟨"JobHouse", "firstEnded", "()I"⟩, 18) := ⟨⟨by decide +kernel, by decide +kernel⟩, List.mem_of_getElem? (i := 29) (by decide +kernel), List.mem_of_getElem? (i := 948) (by decide +kernel), List.mem_of_getElem? (i := 949) (by decide +kernel)⟩
theorem lw_p18 : lw_okq (⟨"JobHouse", "nominalBehind", "(LJobHouse$Job;)J"⟩, 18) := ⟨⟨by decide +kernel, by decide +kernel⟩, List.mem_of_getElem? (i := 29) (by decide +kernel), List.mem_of_getElem? (i := 952) (by decide +kernel), List.mem_of_getElem? (i := 953) (by decide +kernel)⟩
theorem lw_p19 : lw_okq (⟨"JobHouse", "free", "(IJ)V"⟩, 18) := ⟨⟨by decide +kernel, by decide +kernel⟩, List.mem_of_getElem? (i := 29) (by decide +kernel), List.mem_of_getElem? (i := 965) (by decide +kernel), List.mem_of_getElem? (i := 966) (by decide +kernel)⟩
theorem lw_p20 : lw_okq (⟨"JobHouse", "firstPending", "()I"⟩, 18) := ⟨⟨by decide +kernel, by decide +kernel⟩, List.mem_of_getElem? (i := 29) (by decide +kernel), List.mem_of_getElem? (i := 969) (by decide +kernel), List.mem_of_getElem? (i := 970) (by decide +kernel)⟩
theorem lw_p21 : lw_okq (⟨"JobHouse", "begin", "(I)V"⟩, 18) := ⟨⟨by decide +kernel, by decide +kernel⟩, List.mem_of_getElem? (i := 29) (by decide +kernel), List.mem_of_getElem? (i := 977) (by decide +kernel), List.mem_of_getElem? (i := 978) (by decide +kernel)⟩
theorem lw_p22 : lw_okq (⟨"JobHouse", "nextTime", "(I)J"⟩, 18) := ⟨⟨by decide +kernel, by decide +kernel⟩, List.mem_of_getElem? (i := 29) (by decide +kernel), List.mem_of_getElem? (i := 985) (by decide +kernel), List.mem_of_getElem? (i := 986) (by decide +kernel)⟩
theorem lw_p23 : lw_okq (⟨"JobHouseModel", "readZone", "(I)V"⟩, 50) := ⟨⟨by decide +kernel, by decide +kernel⟩, List.mem_of_getElem? (i := 1026) (by decide +kernel), List.mem_of_getElem? (i := 1223) (by decide +kernel), List.mem_of_getElem? (i := 1224) (by decide +kernel)⟩
theorem lw_p24 : lw_okq (⟨"JobHouseModel", "peek", "()I"⟩, 50) := ⟨⟨by decide +kernel, by decide +kernel⟩, List.mem_of_getElem? (i := 1026) (by decide +kernel), List.mem_of_getElem? (i := 1227) (by decide +kernel), List.mem_of_getElem? (i := 1228) (by decide +kernel)⟩
theorem lw_p25 : lw_okq (⟨"JobHouseModel", "bad", "(I)V"⟩, 50) := ⟨⟨by decide +kernel, by decide +kernel⟩, List.mem_of_getElem? (i := 1026) (by decide +kernel), List.mem_of_getElem? (i := 1231) (by decide +kernel), List.mem_of_getElem? (i := 1232) (by decide +kernel)⟩
theorem lw_p26 : lw_okq (⟨"JobHouseModel", "ranged", "(II)I"⟩, 50) := ⟨⟨by decide +kernel, by decide +kernel⟩, List.mem_of_getElem? (i := 1026) (by decide +kernel), List.mem_of_getElem? (i := 1236) (by decide +kernel), List.mem_of_getElem? (i := 1237) (by decide +kernel)⟩
theorem lw_p27 : lw_okq (⟨"JobHouseModel", "blanks", "()V"⟩, 50) := ⟨⟨by decide +kernel, by decide +kernel⟩, List.mem_of_getElem? (i := 1026) (by decide +kernel), List.mem_of_getElem? (i := 1245) (by decide +kernel), List.mem_of_getElem? (i := 1246) (by decide +kernel)⟩
theorem lw_p28 : lw_okq (⟨"JobHouseModel", "rule", "(I)V"⟩, 50) := ⟨⟨by decide +kernel, by decide +kernel⟩, List.mem_of_getElem? (i := 1026) (by decide +kernel), List.mem_of_getElem? (i := 1249) (by decide +kernel), List.mem_of_getElem? (i := 1250) (by decide +kernel)⟩
theorem lw_p29 : lw_okq (⟨"JobHouseModel", "expect", "(I)V"⟩, 50) := ⟨⟨by decide +kernel, by decide +kernel⟩, List.mem_of_getElem? (i := 1026) (by decide +kernel), List.mem_of_getElem? (i := 1253) (by decide +kernel), List.mem_of_getElem? (i := 1254) (by decide +kernel)⟩
theorem lw_p30 : lw_okq (⟨"JobHouseModel", "ruleDay", "(II)I"⟩, 50) := ⟨⟨by decide +kernel, by decide +kernel⟩, List.mem_of_getElem? (i := 1026) (by decide +kernel), List.mem_of_getElem? (i := 1257) (by decide +kernel), List.mem_of_getElem? (i := 1258) (by decide +kernel)⟩
theorem lw_p31 : lw_okq (⟨"JobHouseModel", "event", "(IJZ)V"⟩, 50) := ⟨⟨by decide +kernel, by decide +kernel⟩, List.mem_of_getElem? (i := 1026) (by decide +kernel), List.mem_of_getElem? (i := 1276) (by decide +kernel), List.mem_of_getElem? (i := 1277) (by decide +kernel)⟩
def lw_privs_2 : List (MethodName × Nat) := [(⟨"JobHouse", "checkWay", "(J)V"⟩, 18), (⟨"JobHouse", "firstEnded", "()I"⟩, 18), (⟨"JobHouse", "nominalBehind", "(LJobHouse$Job;)J"⟩, 18), (⟨"JobHouse", "free", "(IJ)V"⟩, 18), (⟨"JobHouse", "firstPending", "()I"⟩, 18), (⟨"JobHouse", "begin", "(I)V"⟩, 18), (⟨"JobHouse", "nextTime", "(I)J"⟩, 18), (⟨"JobHouseModel", "readZone", "(I)V"⟩, 50), (⟨"JobHouseModel", "peek", "()I"⟩, 50), (⟨"JobHouseModel", "bad", "(I)V"⟩, 50), (⟨"JobHouseModel", "ranged", "(II)I"⟩, 50), (⟨"JobHouseModel", "blanks", "()V"⟩, 50), (⟨"JobHouseModel", "rule", "(I)V"⟩, 50), (⟨"JobHouseModel", "expect", "(I)V"⟩, 50), (⟨"JobHouseModel", "ruleDay", "(II)I"⟩, 50), (⟨"JobHouseModel", "event", "(IJZ)V"⟩, 50)]
theorem lw_r2 : ∀ q ∈ lw_privs_2, lw_okq q := List.forall_mem_cons.mpr ⟨lw_p16, List.forall_mem_cons.mpr ⟨lw_p17, List.forall_mem_cons.mpr ⟨lw_p18, List.forall_mem_cons.mpr ⟨lw_p19, List.forall_mem_cons.mpr ⟨lw_p20, List.forall_mem_cons.mpr ⟨lw_p21, List.forall_mem_cons.mpr ⟨lw_p22, List.forall_mem_cons.mpr ⟨lw_p23, List.forall_mem_cons.mpr ⟨lw_p24, List.forall_mem_cons.mpr ⟨lw_p25, List.forall_mem_cons.mpr ⟨lw_p26, List.forall_mem_cons.mpr ⟨lw_p27, List.forall_mem_cons.mpr ⟨lw_p28, List.forall_mem_cons.mpr ⟨lw_p29, List.forall_mem_cons.mpr ⟨lw_p30, List.forall_mem_cons.mpr ⟨lw_p31, fun _ h => absurd h List.not_mem_nil⟩⟩⟩⟩⟩⟩⟩⟩⟩⟩⟩⟩⟩⟩⟩⟩
theorem lw_p32 : lw_okq (⟨"JobHouseModel", "readCron", "(I)V"⟩, 50) := ⟨⟨by decide +kernel, by decide +kernel⟩, List.mem_of_getElem? (i := 1026) (by decide +kernel), List.mem_of_getElem? (i := 1284) (by decide +kernel), List.mem_of_getElem? (i := 1285) (by decide +kernel)⟩
theorem lw_p33 : lw_okq (⟨"JobHouseModel", "field", "(I)V"⟩, 50) := ⟨⟨by decide +kernel, by decide +kernel⟩, List.mem_of_getElem? (i := 1026) (by decide +kernel), List.mem_of_getElem? (i := 1288) (by decide +kernel), List.mem_of_getElem? (i := 1289) (by decide +kernel)⟩
theorem lw_p34 : lw_okq (⟨"JobHouseModel", "items", "(I)V"⟩, 50) := ⟨⟨by decide +kernel, by decide +kernel⟩, List.mem_of_getElem? (i := 1026) (by decide +kernel), List.mem_of_getElem? (i := 1292) (by decide +kernel), List.mem_of_getElem? (i := 1293) (by decide +kernel)⟩
theorem lw_p35 : lw_okq (⟨"JobHouseModel", "value", "(I)I"⟩, 50) := ⟨⟨by decide +kernel, by decide +kernel⟩, List.mem_of_getElem? (i := 1026) (by decide +kernel), List.mem_of_getElem? (i := 1300) (by decide +kernel), List.mem_of_getElem? (i := 1301) (by decide +kernel)⟩
theorem lw_p36 : lw_okq (⟨"JobHouseModel", "special", "(II)Z"⟩, 50) := ⟨⟨by decide +kernel, by decide +kernel⟩, List.mem_of_getElem? (i := 1026) (by decide +kernel), List.mem_of_getElem? (i := 1308) (by decide +kernel), List.mem_of_getElem? (i := 1309) (by decide +kernel)⟩
theorem lw_p37 : lw_okq (⟨"JobHouseModel", "fail", "(I)I"⟩, 50) := ⟨⟨by decide +kernel, by decide +kernel⟩, List.mem_of_getElem? (i := 1026) (by decide +kernel), List.mem_of_getElem? (i := 1317) (by decide +kernel), List.mem_of_getElem? (i := 1318) (by decide +kernel)⟩
theorem lw_p38 : lw_okq (⟨"JobHouseModel", "badFire", "(IIIJ)Z"⟩, 50) := ⟨⟨by decide +kernel, by decide +kernel⟩, List.mem_of_getElem? (i := 1026) (by decide +kernel), List.mem_of_getElem? (i := 1325) (by decide +kernel), List.mem_of_getElem? (i := 1326) (by decide +kernel)⟩
theorem lw_p39 : lw_okq (⟨"JobHouseModel", "nextFire", "(IIIJ)J"⟩, 50) := ⟨⟨by decide +kernel, by decide +kernel⟩, List.mem_of_getElem? (i := 1026) (by decide +kernel), List.mem_of_getElem? (i := 1330) (by decide +kernel), List.mem_of_getElem? (i := 1331) (by decide +kernel)⟩
theorem lw_p40 : lw_okq (⟨"JobHouseModel", "passed", "(IJ)I"⟩, 50) := ⟨⟨by decide +kernel, by decide +kernel⟩, List.mem_of_getElem? (i := 1026) (by decide +kernel), List.mem_of_getElem? (i := 1335) (by decide +kernel), List.mem_of_getElem? (i := 1336) (by decide +kernel)⟩
theorem lw_p41 : lw_okq (⟨"JobHouseModel", "minutes", "(II)I"⟩, 50) := ⟨⟨by decide +kernel, by decide +kernel⟩, List.mem_of_getElem? (i := 1026) (by decide +kernel), List.mem_of_getElem? (i := 1343) (by decide +kernel), List.mem_of_getElem? (i := 1344) (by decide +kernel)⟩
theorem lw_p42 : lw_okq (⟨"JobHouseModel", "dayFits", "(III)Z"⟩, 50) := ⟨⟨by decide +kernel, by decide +kernel⟩, List.mem_of_getElem? (i := 1026) (by decide +kernel), List.mem_of_getElem? (i := 1348) (by decide +kernel), List.mem_of_getElem? (i := 1349) (by decide +kernel)⟩
theorem lw_p43 : lw_okq (⟨"JobHouseModel", "date", "(I)V"⟩, 50) := ⟨⟨by decide +kernel, by decide +kernel⟩, List.mem_of_getElem? (i := 1026) (by decide +kernel), List.mem_of_getElem? (i := 1352) (by decide +kernel), List.mem_of_getElem? (i := 1353) (by decide +kernel)⟩
theorem lw_p44 : lw_okq (⟨"JobHouseModel", "special", "(I)I"⟩, 50) := ⟨⟨by decide +kernel, by decide +kernel⟩, List.mem_of_getElem? (i := 1026) (by decide +kernel), List.mem_of_getElem? (i := 1357) (by decide +kernel), List.mem_of_getElem? (i := 1358) (by decide +kernel)⟩
theorem lw_p45 : lw_okq (⟨"JobHouseModel", "secondFrom", "(II)I"⟩, 50) := ⟨⟨by decide +kernel, by decide +kernel⟩, List.mem_of_getElem? (i := 1026) (by decide +kernel), List.mem_of_getElem? (i := 1362) (by decide +kernel), List.mem_of_getElem? (i := 1363) (by decide +kernel)⟩
theorem lw_p46 : lw_okq (⟨"JobHouseModel", "lastFire", "(IIIJ)J"⟩, 50) := ⟨⟨by decide +kernel, by decide +kernel⟩, List.mem_of_getElem? (i := 1026) (by decide +kernel), List.mem_of_getElem? (i := 1371) (by decide +kernel), List.mem_of_getElem? (i := 1372) (by decide +kernel)⟩
theorem lw_p47 : lw_okq (⟨"JobHouseModel", "secondTo", "(II)I"⟩, 50) := ⟨⟨by decide +kernel, by decide +kernel⟩, List.mem_of_getElem? (i := 1026) (by decide +kernel), List.mem_of_getElem? (i := 1376) (by decide +kernel), List.mem_of_getElem? (i := 1377) (by decide +kernel)⟩
def lw_privs_3 : List (MethodName × Nat) := [(⟨"JobHouseModel", "readCron", "(I)V"⟩, 50), (⟨"JobHouseModel", "field", "(I)V"⟩, 50), (⟨"JobHouseModel", "items", "(I)V"⟩, 50), (⟨"JobHouseModel", "value", "(I)I"⟩, 50), (⟨"JobHouseModel", "special", "(II)Z"⟩, 50), (⟨"JobHouseModel", "fail", "(I)I"⟩, 50), (⟨"JobHouseModel", "badFire", "(IIIJ)Z"⟩, 50), (⟨"JobHouseModel", "nextFire", "(IIIJ)J"⟩, 50), (⟨"JobHouseModel", "passed", "(IJ)I"⟩, 50), (⟨"JobHouseModel", "minutes", "(II)I"⟩, 50), (⟨"JobHouseModel", "dayFits", "(III)Z"⟩, 50), (⟨"JobHouseModel", "date", "(I)V"⟩, 50), (⟨"JobHouseModel", "special", "(I)I"⟩, 50), (⟨"JobHouseModel", "secondFrom", "(II)I"⟩, 50), (⟨"JobHouseModel", "lastFire", "(IIIJ)J"⟩, 50), (⟨"JobHouseModel", "secondTo", "(II)I"⟩, 50)]
theorem lw_r3 : ∀ q ∈ lw_privs_3, lw_okq q := List.forall_mem_cons.mpr ⟨lw_p32, List.forall_mem_cons.mpr ⟨lw_p33, List.forall_mem_cons.mpr ⟨lw_p34, List.forall_mem_cons.mpr ⟨lw_p35, List.forall_mem_cons.mpr ⟨lw_p36, List.forall_mem_cons.mpr ⟨lw_p37, List.forall_mem_cons.mpr ⟨lw_p38, List.forall_mem_cons.mpr ⟨lw_p39, List.forall_mem_cons.mpr ⟨lw_p40, List.forall_mem_cons.mpr ⟨lw_p41, List.forall_mem_cons.mpr ⟨lw_p42, List.forall_mem_cons.mpr ⟨lw_p43, List.forall_mem_cons.mpr ⟨lw_p44, List.forall_mem_cons.mpr ⟨lw_p45, List.forall_mem_cons.mpr ⟨lw_p46, List.forall_mem_cons.mpr ⟨lw_p47, fun _ h => absurd h List.not_mem_nil⟩⟩⟩⟩⟩⟩⟩⟩⟩⟩⟩⟩⟩⟩⟩⟩
theorem lw_p48 : lw_okq (⟨"JobHouseModel", "enter", "(IJJJIII)I"⟩, 50) := ⟨⟨by decide +kernel, by decide +kernel⟩, List.mem_of_getElem? (i := 1026) (by decide +kernel), List.mem_of_getElem? (i := 1390) (by decide +kernel), List.mem_of_getElem? (i := 1391) (by decide +kernel)⟩
theorem lw_p49 : lw_okq (⟨"JobHouseModel", "none", "(I)Z"⟩, 50) := ⟨⟨by decide +kernel, by decide +kernel⟩, List.mem_of_getElem? (i := 1026) (by decide +kernel), List.mem_of_getElem? (i := 1402) (by decide +kernel), List.mem_of_getElem? (i := 1403) (by decide +kernel)⟩
theorem lw_p50 : lw_okq (⟨"JobHouseModel", "work", "()Z"⟩, 50) := ⟨⟨by decide +kernel, by decide +kernel⟩, List.mem_of_getElem? (i := 1026) (by decide +kernel), List.mem_of_getElem? (i := 1415) (by decide +kernel), List.mem_of_getElem? (i := 1416) (by decide +kernel)⟩
theorem lw_p51 : lw_okq (⟨"JobHouseModel", "free", "(I)V"⟩, 50) := ⟨⟨by decide +kernel, by decide +kernel⟩, List.mem_of_getElem? (i := 1026) (by decide +kernel), List.mem_of_getElem? (i := 1419) (by decide +kernel), List.mem_of_getElem? (i := 1420) (by decide +kernel)⟩
theorem lw_p52 : lw_okq (⟨"JobHouseModel", "following", "(I)J"⟩, 50) := ⟨⟨by decide +kernel, by decide +kernel⟩, List.mem_of_getElem? (i := 1026) (by decide +kernel), List.mem_of_getElem? (i := 1423) (by decide +kernel), List.mem_of_getElem? (i := 1424) (by decide +kernel)⟩
theorem lw_p53 : lw_okq (⟨"JobHouseModel", "running", "()I"⟩, 50) := ⟨⟨by decide +kernel, by decide +kernel⟩, List.mem_of_getElem? (i := 1026) (by decide +kernel), List.mem_of_getElem? (i := 1427) (by decide +kernel), List.mem_of_getElem? (i := 1428) (by decide +kernel)⟩
theorem lw_p54 : lw_okq (⟨"JobHouseModel", "first", "()I"⟩, 50) := ⟨⟨by decide +kernel, by decide +kernel⟩, List.mem_of_getElem? (i := 1026) (by decide +kernel), List.mem_of_getElem? (i := 1431) (by decide +kernel), List.mem_of_getElem? (i := 1432) (by decide +kernel)⟩
theorem lw_p55 : lw_okq (⟨"JobHouseModel", "there", "()I"⟩, 50) := ⟨⟨by decide +kernel, by decide +kernel⟩, List.mem_of_getElem? (i := 1026) (by decide +kernel), List.mem_of_getElem? (i := 1443) (by decide +kernel), List.mem_of_getElem? (i := 1444) (by decide +kernel)⟩
def lw_privs_4 : List (MethodName × Nat) := [(⟨"JobHouseModel", "enter", "(IJJJIII)I"⟩, 50), (⟨"JobHouseModel", "none", "(I)Z"⟩, 50), (⟨"JobHouseModel", "work", "()Z"⟩, 50), (⟨"JobHouseModel", "free", "(I)V"⟩, 50), (⟨"JobHouseModel", "following", "(I)J"⟩, 50), (⟨"JobHouseModel", "running", "()I"⟩, 50), (⟨"JobHouseModel", "first", "()I"⟩, 50), (⟨"JobHouseModel", "there", "()I"⟩, 50)]
theorem lw_r4 : ∀ q ∈ lw_privs_4, lw_okq q := List.forall_mem_cons.mpr ⟨lw_p48, List.forall_mem_cons.mpr ⟨lw_p49, List.forall_mem_cons.mpr ⟨lw_p50, List.forall_mem_cons.mpr ⟨lw_p51, List.forall_mem_cons.mpr ⟨lw_p52, List.forall_mem_cons.mpr ⟨lw_p53, List.forall_mem_cons.mpr ⟨lw_p54, List.forall_mem_cons.mpr ⟨lw_p55, fun _ h => absurd h List.not_mem_nil⟩⟩⟩⟩⟩⟩⟩⟩
def lw_privs : List (MethodName × Nat) := lw_privs_1 ++ (lw_privs_2 ++ (lw_privs_3 ++ (lw_privs_4)))
def lw_tbl : List Cond := k2_sels lw_privs ++ tables_1
theorem lw_privs_ok : ∀ q ∈ lw_privs, lw_okq q := by
  show ∀ q ∈ lw_privs_1 ++ (lw_privs_2 ++ (lw_privs_3 ++ (lw_privs_4))), lw_okq q
  exact List.forall_mem_append.mpr ⟨lw_r1, List.forall_mem_append.mpr ⟨lw_r2, List.forall_mem_append.mpr ⟨lw_r3, lw_r4⟩⟩⟩
end
section
section JM0
abbrev jm_H : Type := Nat → Option va_E
def jm_up (h : jm_H) (a : Nat) (x : va_E) : jm_H := fun b => if b = a then some x else h b
theorem jm_up_eq (h : jm_H) (a : Nat) (x : va_E) : jm_up h a x a = some x := if_pos rfl
theorem jm_up_ne (h : jm_H) {a b : Nat} (x : va_E) (n : b ≠ a) : jm_up h a x b = h b := if_neg n
theorem jm_up_up (h : jm_H) (a : Nat) (x y : va_E) : jm_up (jm_up h a x) a y = jm_up h a y := by
  funext b
  by_cases e : b = a
  · subst e; rw [jm_up_eq, jm_up_eq]
  · rw [jm_up_ne _ _ e, jm_up_ne _ _ e, jm_up_ne _ _ e]
theorem jm_up_cm (h : jm_H) {a b : Nat} (x y : va_E) (n : a ≠ b) : jm_up (jm_up h a x) b y = jm_up (jm_up h b y) a x := by
  funext d
  by_cases e : d = a
  · subst e; rw [jm_up_ne _ _ n, jm_up_eq, jm_up_eq]
  · by_cases e2 : d = b
    · subst e2; rw [jm_up_eq, jm_up_ne _ _ e, jm_up_eq]
    · rw [jm_up_ne _ _ e2, jm_up_ne _ _ e, jm_up_ne _ _ e, jm_up_ne _ _ e2]
theorem jm_up_id {h : jm_H} {a : Nat} {x : va_E} (e : h a = some x) : jm_up h a x = h := by
  funext b
  by_cases q : b = a
  · subst q; rw [jm_up_eq, e]
  · rw [jm_up_ne _ _ q]
theorem jm_ap {h : jm_H} {a b : Nat} {x y : va_E} (ha : h a = some x) (hb : h b = some y) (n : x ≠ y) : a ≠ b := by
  intro e; subst e; rw [ha] at hb; exact n (Option.some.inj hb)
def jm_ld (D : va_G) (cl : List vw_C) (n0 : Nat) (h : jm_H) (H : Heap) : Prop := ∀ (a : Nat) (x : va_E), h a = some x → n0 ≤ a ∧ va_at D cl (a, x) H
def jm_tl (h : jm_H) (n : Nat) : va_W := (List.range n).filterMap (fun a => (h a).map (fun x => (a, x)))
theorem jm_tl_mem {h : jm_H} {n a : Nat} {x : va_E} : (a, x) ∈ jm_tl h n ↔ a < n ∧ h a = some x := by
  unfold jm_tl
  rw [List.mem_filterMap]
  constructor
  · rintro ⟨b, hb, hy⟩
    obtain ⟨y, hy, e⟩ := Option.map_eq_some_iff.mp hy
    cases e
    exact ⟨List.mem_range.mp hb, hy⟩
  · rintro ⟨h1, h2⟩
    exact ⟨a, List.mem_range.mpr h1, by rw [h2]; rfl⟩
theorem jm_tl_pw (h : jm_H) (n : Nat) : (jm_tl h n).Pairwise (fun x y => x.1 < y.1) := by
  unfold jm_tl
  rw [List.pairwise_filterMap]
  refine List.Pairwise.imp ?_ List.pairwise_lt_range
  intro a b hab x hx y hy
  obtain ⟨u, -, rfl⟩ := Option.map_eq_some_iff.mp hx
  obtain ⟨v, -, rfl⟩ := Option.map_eq_some_iff.mp hy
  exact hab
theorem jm_tl_inj {h : jm_H} {n i j : Nat} {x y : Nat × va_E} (hi : (jm_tl h n)[i]? = some x) (hj : (jm_tl h n)[j]? = some y) (e : x.1 = y.1) : i = j := by
  have pw := List.pairwise_iff_getElem.mp (jm_tl_pw h n)
  obtain ⟨hi1, hi2⟩ := List.getElem?_eq_some_iff.mp hi
  obtain ⟨hj1, hj2⟩ := List.getElem?_eq_some_iff.mp hj
  rcases Nat.lt_trichotomy i j with h1 | h1 | h1
  · have h2 := pw i j hi1 hj1 h1
    rw [hi2, hj2] at h2; omega
  · exact h1
  · have h2 := pw j i hj1 hi1 h1
    rw [hi2, hj2] at h2; omega
variable {D : va_G} {cl : List vw_C} {n0 : Nat} {h : jm_H} {H H1 : Heap}
theorem jm_P (hr : jm_ld D cl n0 h H) : va_P D cl (jm_tl h H.size) H := by
  intro k q hk
  obtain ⟨a, x⟩ := q
  exact (hr a x (jm_tl_mem.mp (List.mem_of_getElem? hk)).2).2
theorem jm_D (hr : jm_ld D cl n0 h H) : va_D (fun q => n0 ≤ q) (jm_tl h H.size) := by
  refine ⟨fun i j x y hx hy e => jm_tl_inj hx hy e, fun k q hk => ?_⟩
  obtain ⟨a, x⟩ := q
  exact (hr a x (jm_tl_mem.mp (List.mem_of_getElem? hk)).2).1
theorem jm_place (hr : jm_ld D cl n0 h H) {a : Nat} {x : va_E} (ha : h a = some x) : ∃ k : Nat, (jm_tl h H.size)[k]? = some (a, x) := List.getElem?_of_mem (jm_tl_mem.mpr ⟨(hr a x ha).2.lt, ha⟩)
theorem jm_set (hr : jm_ld D cl n0 h H) {a k : Nat} {x y : va_E} (hk : (jm_tl h H.size)[k]? = some (a, x)) (hP : va_P D cl ((jm_tl h H.size).set k (a, y)) H1) : jm_ld D cl n0 (jm_up h a y) H1 := by
  have hax := (jm_tl_mem.mp (List.mem_of_getElem? hk)).2
  intro b z hb
  by_cases e : b = a
  · subst e
    rw [jm_up_eq] at hb
    cases hb
    exact ⟨(hr b x hax).1, hP k (b, y) (by rw [List.getElem?_set_self (List.getElem?_eq_some_iff.mp hk).1])⟩
  · rw [jm_up_ne _ _ e] at hb
    obtain ⟨j, hj⟩ := jm_place hr hb
    refine ⟨(hr b z hb).1, hP j (b, z) ?_⟩
    rw [List.getElem?_set_ne, hj]
    intro he
    subst he
    rw [hk] at hj
    cases hj
    exact e rfl
theorem jm_app (hr : jm_ld D cl n0 h H) {q : Nat} {y : va_E} (hP : va_P D cl (jm_tl h H.size ++ [(q, y)]) H1) (hD : va_D (fun z => n0 ≤ z) (jm_tl h H.size ++ [(q, y)])) : jm_ld D cl n0 (jm_up h q y) H1 ∧ h q = none ∧ n0 ≤ q := by
  have hl : (jm_tl h H.size ++ [(q, y)])[(jm_tl h H.size).length]? = some (q, y) := by simp
  refine ⟨?_, ?_, hD.2 _ _ hl⟩
  · intro b z hb
    by_cases e : b = q
    · subst e
      rw [jm_up_eq] at hb
      cases hb
      exact ⟨hD.2 _ _ hl, hP _ _ hl⟩
    · rw [jm_up_ne _ _ e] at hb
      obtain ⟨j, hj⟩ := jm_place hr hb
      refine ⟨(hr b z hb).1, hP j (b, z) ?_⟩
      rw [List.getElem?_append_left (List.getElem?_eq_some_iff.mp hj).1]
      exact hj
  · cases hq : h q with
    | none => rfl
    | some z =>
      obtain ⟨j, hj⟩ := jm_place hr hq
      have hlt := (List.getElem?_eq_some_iff.mp hj).1
      have hj' : (jm_tl h H.size ++ [(q, y)])[j]? = some (q, z) := by rw [List.getElem?_append_left hlt]; exact hj
      have := hD.1 j _ _ _ hj' hl rfl
      omega
theorem jm_ld_le (hr : jm_ld D cl n0 h H) {h2 : jm_H} (hs : ∀ a x, h2 a = some x → h a = some x) : jm_ld D cl n0 h2 H := fun a x e => hr a x (hs a x e)
def jm_ev (S U : State) : Prop := S.WarmedH U.vm ∧ S.heap.size ≤ U.heap.size ∧ ∀ q : Nat, q < S.heap.size → U.heap[q]? = S.heap[q]?
def jm_gd (w : Cond) : Prop := ((w.onTables && w.keeps) = true ∨ ∃ ty, w = .arrayClass ty) ∨ (∃ a i b n d h, w = .fieldLinkNest a i b n d h) ∨ ∃ a i x h, w = .methodLinkNest a i x h
def jm_en (S : State) (D : va_G) (cl : List vw_C) (tys : List (ClassId × FieldType)) (G : List Cond) : Prop :=
  (∃ a0 : Array Value, ∀ w ∈ G, w.before a0 S = true) ∧ (∀ w ∈ G, jm_gd w) ∧ va_K D cl tys S
def jm_cx (p : Program) (s : State) (m : MethodId) (args : Array Value) (c : Code) (S : State) (D : va_G) (cl : List vw_C) (tys : List (ClassId × FieldType)) (G : List Cond) (cc : ByteArray) (nL : Nat) (own : String) : Prop :=
  p.tables.exec = Jvm.exec ∧ c.code = cc ∧ c.maxLocals = nL ∧ s.vm.findClass own = some m.cls ∧ (∀ w ∈ G, w.before args s = true) ∧ va_K D cl tys s ∧ jm_ev S s ∧ jm_en S D cl tys G
def jm_W (p : Program) (l : Launch) (e : Env) (R : Room) (s : State) (m : MethodId) (args : Array Value) (below : List Frame) (meth : Method) (c : Code) (S : State) (D : va_G) (cl : List vw_C) (Q : State → Prop) (nL pc : Nat) (lv : List (Nat × Value)) (st : List Value) (h : jm_H) (dc ds : Nat) : Prop :=
  ∀ (H : Heap) (ls : Array Slot) (locs : List Loc), lv_has ls nL lv → jm_ld D cl S.heap.size h H → va_S (fun q => S.heap.size ≤ q) s.heap H locs → W p l e R s m args below meth c H locs dc ds Q (F0 m pc ls st)
def jm_X (p : Program) (l : Launch) (e : Env) (R : Room) (s : State) (m : MethodId) (args : Array Value) (below : List Frame) (meth : Method) (c : Code) (S : State) (D : va_G) (cl : List vw_C) (Q : State → Prop) (nL pc : Nat) (lv : List (Nat × Value)) (st : List Value) (h : jm_H) (q : Addr) (dc ds : Nat) : Prop :=
  ∀ (H : Heap) (ls : Array Slot) (locs : List Loc), lv_has ls nL lv → jm_ld D cl S.heap.size h H → va_S (fun q => S.heap.size ≤ q) s.heap H locs → ∀ T : State, T.heap = H → Stand p l e R s m args below meth c T locs dc ds → ∃ t, Steps p.tables e below ((T.setTop (F0 m pc ls st)).pushFrame (.throwing q)) t ∧ Q t
end JM0
section JM1
variable {p : Program} {l : Launch} {e : Env} {R : Room} {s : State} {m : MethodId} {args : Array Value} {below : List Frame} {meth : Method} {c : Code} {Q : State → Prop}
variable {S : State} {D : va_G} {cl : List vw_C} {tys : List (ClassId × FieldType)} {G : List Cond} {cc : ByteArray} {nL pc dc ds : Nat} {own : String} {lv : List (Nat × Value)} {rest : List Value} {h : jm_H}
theorem jm_iadd (X : jm_cx p s m args c S D cl tys G cc nL own) {x y : Int32} (hd : decode cc pc = .ok (.iadd, 1))  (k : jm_W p l e R s m args below meth c S D cl Q nL (pc + 1) lv (.int (x + y) :: rest) h dc ds) : jm_W p l e R s m args below meth c S D cl Q nL (pc) lv (.int y :: .int x :: rest) h dc ds := fun H ls locs hl hr hS => lv_iadd X.1 X.2.1 hd (k H ls locs hl hr hS)
theorem jm_isub (X : jm_cx p s m args c S D cl tys G cc nL own) {x y : Int32} (hd : decode cc pc = .ok (.isub, 1))  (k : jm_W p l e R s m args below meth c S D cl Q nL (pc + 1) lv (.int (x - y) :: rest) h dc ds) : jm_W p l e R s m args below meth c S D cl Q nL (pc) lv (.int y :: .int x :: rest) h dc ds := fun H ls locs hl hr hS => lv_isub X.1 X.2.1 hd (k H ls locs hl hr hS)
theorem jm_imul (X : jm_cx p s m args c S D cl tys G cc nL own) {x y : Int32} (hd : decode cc pc = .ok (.imul, 1))  (k : jm_W p l e R s m args below meth c S D cl Q nL (pc + 1) lv (.int (x * y) :: rest) h dc ds) : jm_W p l e R s m args below meth c S D cl Q nL (pc) lv (.int y :: .int x :: rest) h dc ds := fun H ls locs hl hr hS => lv_imul X.1 X.2.1 hd (k H ls locs hl hr hS)
theorem jm_iand (X : jm_cx p s m args c S D cl tys G cc nL own) {x y : Int32} (hd : decode cc pc = .ok (.iand, 1))  (k : jm_W p l e R s m args below meth c S D cl Q nL (pc + 1) lv (.int (x &&& y) :: rest) h dc ds) : jm_W p l e R s m args below meth c S D cl Q nL (pc) lv (.int y :: .int x :: rest) h dc ds := fun H ls locs hl hr hS => lv_iand X.1 X.2.1 hd (k H ls locs hl hr hS)
theorem jm_ior (X : jm_cx p s m args c S D cl tys G cc nL own) {x y : Int32} (hd : decode cc pc = .ok (.ior, 1))  (k : jm_W p l e R s m args below meth c S D cl Q nL (pc + 1) lv (.int (x ||| y) :: rest) h dc ds) : jm_W p l e R s m args below meth c S D cl Q nL (pc) lv (.int y :: .int x :: rest) h dc ds := fun H ls locs hl hr hS => lv_ior X.1 X.2.1 hd (k H ls locs hl hr hS)
theorem jm_ixor (X : jm_cx p s m args c S D cl tys G cc nL own) {x y : Int32} (hd : decode cc pc = .ok (.ixor, 1))  (k : jm_W p l e R s m args below meth c S D cl Q nL (pc + 1) lv (.int (x ^^^ y) :: rest) h dc ds) : jm_W p l e R s m args below meth c S D cl Q nL (pc) lv (.int y :: .int x :: rest) h dc ds := fun H ls locs hl hr hS => lv_ixor X.1 X.2.1 hd (k H ls locs hl hr hS)
theorem jm_ishl (X : jm_cx p s m args c S D cl tys G cc nL own) {x y : Int32} (hd : decode cc pc = .ok (.ishl, 1))  (k : jm_W p l e R s m args below meth c S D cl Q nL (pc + 1) lv (.int (x <<< (y &&& 31)) :: rest) h dc ds) : jm_W p l e R s m args below meth c S D cl Q nL (pc) lv (.int y :: .int x :: rest) h dc ds := fun H ls locs hl hr hS => lv_ishl X.1 X.2.1 hd (k H ls locs hl hr hS)
theorem jm_ishr (X : jm_cx p s m args c S D cl tys G cc nL own) {x y : Int32} (hd : decode cc pc = .ok (.ishr, 1))  (k : jm_W p l e R s m args below meth c S D cl Q nL (pc + 1) lv (.int (x >>> (y &&& 31)) :: rest) h dc ds) : jm_W p l e R s m args below meth c S D cl Q nL (pc) lv (.int y :: .int x :: rest) h dc ds := fun H ls locs hl hr hS => lv_ishr X.1 X.2.1 hd (k H ls locs hl hr hS)
theorem jm_ladd (X : jm_cx p s m args c S D cl tys G cc nL own) {x y : Int64} (hd : decode cc pc = .ok (.ladd, 1))  (k : jm_W p l e R s m args below meth c S D cl Q nL (pc + 1) lv (.long (x + y) :: rest) h dc ds) : jm_W p l e R s m args below meth c S D cl Q nL (pc) lv (.long y :: .long x :: rest) h dc ds := fun H ls locs hl hr hS => lv_ladd X.1 X.2.1 hd (k H ls locs hl hr hS)
theorem jm_lsub (X : jm_cx p s m args c S D cl tys G cc nL own) {x y : Int64} (hd : decode cc pc = .ok (.lsub, 1))  (k : jm_W p l e R s m args below meth c S D cl Q nL (pc + 1) lv (.long (x - y) :: rest) h dc ds) : jm_W p l e R s m args below meth c S D cl Q nL (pc) lv (.long y :: .long x :: rest) h dc ds := fun H ls locs hl hr hS => lv_lsub X.1 X.2.1 hd (k H ls locs hl hr hS)
theorem jm_lmul (X : jm_cx p s m args c S D cl tys G cc nL own) {x y : Int64} (hd : decode cc pc = .ok (.lmul, 1))  (k : jm_W p l e R s m args below meth c S D cl Q nL (pc + 1) lv (.long (x * y) :: rest) h dc ds) : jm_W p l e R s m args below meth c S D cl Q nL (pc) lv (.long y :: .long x :: rest) h dc ds := fun H ls locs hl hr hS => lv_lmul X.1 X.2.1 hd (k H ls locs hl hr hS)
theorem jm_land (X : jm_cx p s m args c S D cl tys G cc nL own) {x y : Int64} (hd : decode cc pc = .ok (.land, 1))  (k : jm_W p l e R s m args below meth c S D cl Q nL (pc + 1) lv (.long (x &&& y) :: rest) h dc ds) : jm_W p l e R s m args below meth c S D cl Q nL (pc) lv (.long y :: .long x :: rest) h dc ds := fun H ls locs hl hr hS => lv_land X.1 X.2.1 hd (k H ls locs hl hr hS)
theorem jm_lor (X : jm_cx p s m args c S D cl tys G cc nL own) {x y : Int64} (hd : decode cc pc = .ok (.lor, 1))  (k : jm_W p l e R s m args below meth c S D cl Q nL (pc + 1) lv (.long (x ||| y) :: rest) h dc ds) : jm_W p l e R s m args below meth c S D cl Q nL (pc) lv (.long y :: .long x :: rest) h dc ds := fun H ls locs hl hr hS => lv_lor X.1 X.2.1 hd (k H ls locs hl hr hS)
theorem jm_lxor (X : jm_cx p s m args c S D cl tys G cc nL own) {x y : Int64} (hd : decode cc pc = .ok (.lxor, 1))  (k : jm_W p l e R s m args below meth c S D cl Q nL (pc + 1) lv (.long (x ^^^ y) :: rest) h dc ds) : jm_W p l e R s m args below meth c S D cl Q nL (pc) lv (.long y :: .long x :: rest) h dc ds := fun H ls locs hl hr hS => lv_lxor X.1 X.2.1 hd (k H ls locs hl hr hS)
theorem jm_idiv (X : jm_cx p s m args c S D cl tys G cc nL own) {x y : Int32} (hd : decode cc pc = .ok (.idiv, 1)) (hne : ¬ y = 0) (k : jm_W p l e R s m args below meth c S D cl Q nL (pc + 1) lv (.int (x / y) :: rest) h dc ds) : jm_W p l e R s m args below meth c S D cl Q nL (pc) lv (.int y :: .int x :: rest) h dc ds := fun H ls locs hl hr hS => lv_idiv X.1 X.2.1 hd hne (k H ls locs hl hr hS)
theorem jm_irem (X : jm_cx p s m args c S D cl tys G cc nL own) {x y : Int32} (hd : decode cc pc = .ok (.irem, 1)) (hne : ¬ y = 0) (k : jm_W p l e R s m args below meth c S D cl Q nL (pc + 1) lv (.int (x - x / y * y) :: rest) h dc ds) : jm_W p l e R s m args below meth c S D cl Q nL (pc) lv (.int y :: .int x :: rest) h dc ds := fun H ls locs hl hr hS => lv_irem X.1 X.2.1 hd hne (k H ls locs hl hr hS)
theorem jm_ldiv (X : jm_cx p s m args c S D cl tys G cc nL own) {x y : Int64} (hd : decode cc pc = .ok (.ldiv, 1)) (hne : ¬ y = 0) (k : jm_W p l e R s m args below meth c S D cl Q nL (pc + 1) lv (.long (x / y) :: rest) h dc ds) : jm_W p l e R s m args below meth c S D cl Q nL (pc) lv (.long y :: .long x :: rest) h dc ds := fun H ls locs hl hr hS => lv_ldiv X.1 X.2.1 hd hne (k H ls locs hl hr hS)
theorem jm_lrem (X : jm_cx p s m args c S D cl tys G cc nL own) {x y : Int64} (hd : decode cc pc = .ok (.lrem, 1)) (hne : ¬ y = 0) (k : jm_W p l e R s m args below meth c S D cl Q nL (pc + 1) lv (.long (x - x / y * y) :: rest) h dc ds) : jm_W p l e R s m args below meth c S D cl Q nL (pc) lv (.long y :: .long x :: rest) h dc ds := fun H ls locs hl hr hS => lv_lrem X.1 X.2.1 hd hne (k H ls locs hl hr hS)
theorem jm_ineg (X : jm_cx p s m args c S D cl tys G cc nL own) {x : Int32} (hd : decode cc pc = .ok (.ineg, 1))  (k : jm_W p l e R s m args below meth c S D cl Q nL (pc + 1) lv (.int (-x) :: rest) h dc ds) : jm_W p l e R s m args below meth c S D cl Q nL (pc) lv (.int x :: rest) h dc ds := fun H ls locs hl hr hS => lv_ineg X.1 X.2.1 hd (k H ls locs hl hr hS)
theorem jm_lneg (X : jm_cx p s m args c S D cl tys G cc nL own) {x : Int64} (hd : decode cc pc = .ok (.lneg, 1))  (k : jm_W p l e R s m args below meth c S D cl Q nL (pc + 1) lv (.long (-x) :: rest) h dc ds) : jm_W p l e R s m args below meth c S D cl Q nL (pc) lv (.long x :: rest) h dc ds := fun H ls locs hl hr hS => lv_lneg X.1 X.2.1 hd (k H ls locs hl hr hS)
theorem jm_i2l (X : jm_cx p s m args c S D cl tys G cc nL own) {x : Int32} (hd : decode cc pc = .ok (.i2l, 1))  (k : jm_W p l e R s m args below meth c S D cl Q nL (pc + 1) lv (.long x.toInt64 :: rest) h dc ds) : jm_W p l e R s m args below meth c S D cl Q nL (pc) lv (.int x :: rest) h dc ds := fun H ls locs hl hr hS => lv_i2l X.1 X.2.1 hd rfl (k H ls locs hl hr hS)
theorem jm_l2i (X : jm_cx p s m args c S D cl tys G cc nL own) {x : Int64} (hd : decode cc pc = .ok (.l2i, 1))  (k : jm_W p l e R s m args below meth c S D cl Q nL (pc + 1) lv (.int x.toInt32 :: rest) h dc ds) : jm_W p l e R s m args below meth c S D cl Q nL (pc) lv (.long x :: rest) h dc ds := fun H ls locs hl hr hS => lv_l2i X.1 X.2.1 hd rfl (k H ls locs hl hr hS)
theorem jm_i2b (X : jm_cx p s m args c S D cl tys G cc nL own) {x : Int32} (hd : decode cc pc = .ok (.i2b, 1))  (k : jm_W p l e R s m args below meth c S D cl Q nL (pc + 1) lv (.int x.toInt8.toInt32 :: rest) h dc ds) : jm_W p l e R s m args below meth c S D cl Q nL (pc) lv (.int x :: rest) h dc ds := fun H ls locs hl hr hS => lv_i2b X.1 X.2.1 hd rfl (k H ls locs hl hr hS)
theorem jm_lshl (X : jm_cx p s m args c S D cl tys G cc nL own) {x : Int64} {y : Int32} (hd : decode cc pc = .ok (.lshl, 1))  (k : jm_W p l e R s m args below meth c S D cl Q nL (pc + 1) lv (.long (x <<< (y.toInt64 &&& 63)) :: rest) h dc ds) : jm_W p l e R s m args below meth c S D cl Q nL (pc) lv (.int y :: .long x :: rest) h dc ds := fun H ls locs hl hr hS => lv_lshl X.1 X.2.1 hd rfl (k H ls locs hl hr hS)
theorem jm_lshr (X : jm_cx p s m args c S D cl tys G cc nL own) {x : Int64} {y : Int32} (hd : decode cc pc = .ok (.lshr, 1))  (k : jm_W p l e R s m args below meth c S D cl Q nL (pc + 1) lv (.long (x >>> (y.toInt64 &&& 63)) :: rest) h dc ds) : jm_W p l e R s m args below meth c S D cl Q nL (pc) lv (.int y :: .long x :: rest) h dc ds := fun H ls locs hl hr hS => lv_lshr X.1 X.2.1 hd rfl (k H ls locs hl hr hS)
theorem jm_lushr (X : jm_cx p s m args c S D cl tys G cc nL own) {x : Int64} {y : Int32} (hd : decode cc pc = .ok (.lushr, 1))  (k : jm_W p l e R s m args below meth c S D cl Q nL (pc + 1) lv (.long (x.toUInt64 >>> (y.toInt64.toUInt64 &&& Int64.toUInt64 63)).toInt64 :: rest) h dc ds) : jm_W p l e R s m args below meth c S D cl Q nL (pc) lv (.int y :: .long x :: rest) h dc ds := fun H ls locs hl hr hS => lv_lushr X.1 X.2.1 hd rfl (k H ls locs hl hr hS)
theorem jm_iushr (X : jm_cx p s m args c S D cl tys G cc nL own) {x y : Int32} (hd : decode cc pc = .ok (.iushr, 1))  (k : jm_W p l e R s m args below meth c S D cl Q nL (pc + 1) lv (.int (x.toUInt32 >>> (y.toUInt32 &&& Int32.toUInt32 31)).toInt32 :: rest) h dc ds) : jm_W p l e R s m args below meth c S D cl Q nL (pc) lv (.int y :: .int x :: rest) h dc ds := fun H ls locs hl hr hS => lv_iushr X.1 X.2.1 hd rfl (k H ls locs hl hr hS)
theorem jm_lcmp (X : jm_cx p s m args c S D cl tys G cc nL own) {x y : Int64} (hd : decode cc pc = .ok (.lcmp, 1))  (k : jm_W p l e R s m args below meth c S D cl Q nL (pc + 1) lv (.int (lg_cmp x y) :: rest) h dc ds) : jm_W p l e R s m args below meth c S D cl Q nL (pc) lv (.long y :: .long x :: rest) h dc ds := fun H ls locs hl hr hS => W.lcmp X.1 X.2.1 hd (k H ls locs hl hr hS)
theorem jm_dup (X : jm_cx p s m args c S D cl tys G cc nL own) {va : Value} (hd : decode cc pc = .ok (.dup, 1)) (hva : va.category = 1) (k : jm_W p l e R s m args below meth c S D cl Q nL (pc + 1) lv (va :: va :: rest) h dc ds) : jm_W p l e R s m args below meth c S D cl Q nL (pc) lv (va :: rest) h dc ds := fun H ls locs hl hr hS => lv_dup X.1 X.2.1 hd hva (k H ls locs hl hr hS)
theorem jm_pop (X : jm_cx p s m args c S D cl tys G cc nL own) {va : Value} (hd : decode cc pc = .ok (.pop, 1)) (hva : va.category = 1) (k : jm_W p l e R s m args below meth c S D cl Q nL (pc + 1) lv (rest) h dc ds) : jm_W p l e R s m args below meth c S D cl Q nL (pc) lv (va :: rest) h dc ds := fun H ls locs hl hr hS => lv_pop X.1 X.2.1 hd hva (k H ls locs hl hr hS)
theorem jm_dup_x1 (X : jm_cx p s m args c S D cl tys G cc nL own) {va vb : Value} (hd : decode cc pc = .ok (.dup_x1, 1)) (hva : va.category = 1) (hvb : vb.category = 1) (k : jm_W p l e R s m args below meth c S D cl Q nL (pc + 1) lv (va :: vb :: va :: rest) h dc ds) : jm_W p l e R s m args below meth c S D cl Q nL (pc) lv (va :: vb :: rest) h dc ds := fun H ls locs hl hr hS => lv_dup_x1 X.1 X.2.1 hd hva hvb (k H ls locs hl hr hS)
theorem jm_dup_x2 (X : jm_cx p s m args c S D cl tys G cc nL own) {va vb vd : Value} (hd : decode cc pc = .ok (.dup_x2, 1)) (hva : va.category = 1) (hvb : vb.category = 1) (hvd : vd.category = 1) (k : jm_W p l e R s m args below meth c S D cl Q nL (pc + 1) lv (va :: vb :: vd :: va :: rest) h dc ds) : jm_W p l e R s m args below meth c S D cl Q nL (pc) lv (va :: vb :: vd :: rest) h dc ds := fun H ls locs hl hr hS => lv_dup_x2 X.1 X.2.1 hd hva hvb hvd (k H ls locs hl hr hS)
theorem jm_dup2_11 (X : jm_cx p s m args c S D cl tys G cc nL own) {va vb : Value} (hd : decode cc pc = .ok (.dup2, 1)) (hva : va.category = 1) (hvb : vb.category = 1) (k : jm_W p l e R s m args below meth c S D cl Q nL (pc + 1) lv (va :: vb :: va :: vb :: rest) h dc ds) : jm_W p l e R s m args below meth c S D cl Q nL (pc) lv (va :: vb :: rest) h dc ds := fun H ls locs hl hr hS => lv_dup2_11 X.1 X.2.1 hd hva hvb (k H ls locs hl hr hS)
theorem jm_dup2_2 (X : jm_cx p s m args c S D cl tys G cc nL own) {va : Value} (hd : decode cc pc = .ok (.dup2, 1)) (hva : va.category = 2) (k : jm_W p l e R s m args below meth c S D cl Q nL (pc + 1) lv (va :: va :: rest) h dc ds) : jm_W p l e R s m args below meth c S D cl Q nL (pc) lv (va :: rest) h dc ds := fun H ls locs hl hr hS => lv_dup2_2 X.1 X.2.1 hd hva (k H ls locs hl hr hS)
theorem jm_iconst (X : jm_cx p s m args c S D cl tys G cc nL own) {n : Int} {v : Int32} (hd : decode cc pc = .ok (.iconst n, 1)) (hv : Int32.ofInt n = v) (k : jm_W p l e R s m args below meth c S D cl Q nL (pc + 1) lv (.int v :: rest) h dc ds) : jm_W p l e R s m args below meth c S D cl Q nL (pc) lv (rest) h dc ds := fun H ls locs hl hr hS => lv_iconst X.1 X.2.1 hd hv (k H ls locs hl hr hS)
theorem jm_bipush (X : jm_cx p s m args c S D cl tys G cc nL own) {n : Int} {v : Int32} (hd : decode cc pc = .ok (.bipush n, 2)) (hv : (Int8.ofInt n).toInt32 = v) (k : jm_W p l e R s m args below meth c S D cl Q nL (pc + 2) lv (.int v :: rest) h dc ds) : jm_W p l e R s m args below meth c S D cl Q nL (pc) lv (rest) h dc ds := fun H ls locs hl hr hS => lv_bipush X.1 X.2.1 hd hv (k H ls locs hl hr hS)
theorem jm_sipush (X : jm_cx p s m args c S D cl tys G cc nL own) {n : Int} {v : Int32} (hd : decode cc pc = .ok (.sipush n, 3)) (hv : (Int16.ofInt n).toInt32 = v) (k : jm_W p l e R s m args below meth c S D cl Q nL (pc + 3) lv (.int v :: rest) h dc ds) : jm_W p l e R s m args below meth c S D cl Q nL (pc) lv (rest) h dc ds := fun H ls locs hl hr hS => lv_sipush X.1 X.2.1 hd hv (k H ls locs hl hr hS)
theorem jm_lconst (X : jm_cx p s m args c S D cl tys G cc nL own) {n : Fin 2} {v : Int64} (hd : decode cc pc = .ok (.lconst n, 1)) (hv : Int64.ofNat (n : Nat) = v) (k : jm_W p l e R s m args below meth c S D cl Q nL (pc + 1) lv (.long v :: rest) h dc ds) : jm_W p l e R s m args below meth c S D cl Q nL (pc) lv (rest) h dc ds := fun H ls locs hl hr hS => lv_lconst X.1 X.2.1 hd hv (k H ls locs hl hr hS)
theorem jm_ldc (X : jm_cx p s m args c S D cl tys G cc nL own) {index : Nat} {v : Int32} (hd : decode cc pc = .ok (.ldc index, 2)) (hw : Cond.constant own index v ∈ G) (k : jm_W p l e R s m args below meth c S D cl Q nL (pc + 2) lv (.int v :: rest) h dc ds) : jm_W p l e R s m args below meth c S D cl Q nL (pc) lv (rest) h dc ds := fun H ls locs hl hr hS => lv_ldc X.1 X.2.1 X.2.2.2.1 (X.2.2.2.2.1 _ hw) hd (k H ls locs hl hr hS)
theorem jm_ldc_w (X : jm_cx p s m args c S D cl tys G cc nL own) {index : Nat} {v : Int32} (hd : decode cc pc = .ok (.ldc_w index, 3)) (hw : Cond.constant own index v ∈ G) (k : jm_W p l e R s m args below meth c S D cl Q nL (pc + 3) lv (.int v :: rest) h dc ds) : jm_W p l e R s m args below meth c S D cl Q nL (pc) lv (rest) h dc ds := fun H ls locs hl hr hS => lv_ldcw X.1 X.2.1 X.2.2.2.1 (X.2.2.2.2.1 _ hw) hd (k H ls locs hl hr hS)
theorem jm_ldc2 (X : jm_cx p s m args c S D cl tys G cc nL own) {index : Nat} {v : Int64} (hd : decode cc pc = .ok (.ldc2_w index, 3)) (hw : Cond.constantLong own index v ∈ G) (k : jm_W p l e R s m args below meth c S D cl Q nL (pc + 3) lv (.long v :: rest) h dc ds) : jm_W p l e R s m args below meth c S D cl Q nL (pc) lv (rest) h dc ds := fun H ls locs hl hr hS => lv_ldc2 X.1 X.2.1 X.2.2.2.1 (X.2.2.2.2.1 _ hw) hd (k H ls locs hl hr hS)
theorem jm_iload_n (X : jm_cx p s m args c S D cl tys G cc nL own) {n : Fin 4} {i : Nat} {x : Int32} (hd : decode cc pc = .ok (.iload_n n, 1)) (hi : (n : Nat) = i) (j : Nat) (hj : lv[j]? = some (i, .int x)) (k : jm_W p l e R s m args below meth c S D cl Q nL (pc + 1) lv (.int x :: rest) h dc ds) : jm_W p l e R s m args below meth c S D cl Q nL (pc) lv (rest) h dc ds := fun H ls locs hl hr hS => lv_iload_n X.1 X.2.1 hd hi (lv_at hl j hj) (k H ls locs hl hr hS)
theorem jm_iload (X : jm_cx p s m args c S D cl tys G cc nL own) {i : Nat} {x : Int32} (hd : decode cc pc = .ok (.iload i, 2)) (j : Nat) (hj : lv[j]? = some (i, .int x)) (k : jm_W p l e R s m args below meth c S D cl Q nL (pc + 2) lv (.int x :: rest) h dc ds) : jm_W p l e R s m args below meth c S D cl Q nL (pc) lv (rest) h dc ds := fun H ls locs hl hr hS => lv_iload X.1 X.2.1 hd (lv_at hl j hj) (k H ls locs hl hr hS)
theorem jm_istore_n (X : jm_cx p s m args c S D cl tys G cc nL own) {n : Fin 4} {i : Nat} {x : Int32} {lv1 : List (Nat × Value)} (hd : decode cc pc = .ok (.istore_n n, 1)) (hi : (n : Nat) = i) (hn : i < nL) (he : (i, Value.int x) :: lv.filter (fun q => !(q.1 == i) && !(q.1 + 1 == i && q.2.category == 2)) = lv1) (k : jm_W p l e R s m args below meth c S D cl Q nL (pc + 1) lv1 (rest) h dc ds) : jm_W p l e R s m args below meth c S D cl Q nL (pc) lv (.int x :: rest) h dc ds := fun H ls locs hl hr hS => lv_istore_n X.1 X.2.1 hd hi hl hn he (fun ls1 hl1 => k H ls1 locs hl1 hr hS)
theorem jm_istore (X : jm_cx p s m args c S D cl tys G cc nL own) {i : Nat} {x : Int32} {lv1 : List (Nat × Value)} (hd : decode cc pc = .ok (.istore i, 2)) (hn : i < nL) (he : (i, Value.int x) :: lv.filter (fun q => !(q.1 == i) && !(q.1 + 1 == i && q.2.category == 2)) = lv1) (k : jm_W p l e R s m args below meth c S D cl Q nL (pc + 2) lv1 (rest) h dc ds) : jm_W p l e R s m args below meth c S D cl Q nL (pc) lv (.int x :: rest) h dc ds := fun H ls locs hl hr hS => lv_istore X.1 X.2.1 hd hl hn he (fun ls1 hl1 => k H ls1 locs hl1 hr hS)
theorem jm_lload_n (X : jm_cx p s m args c S D cl tys G cc nL own) {n : Fin 4} {i : Nat} {x : Int64} (hd : decode cc pc = .ok (.lload_n n, 1)) (hi : (n : Nat) = i) (j : Nat) (hj : lv[j]? = some (i, .long x)) (k : jm_W p l e R s m args below meth c S D cl Q nL (pc + 1) lv (.long x :: rest) h dc ds) : jm_W p l e R s m args below meth c S D cl Q nL (pc) lv (rest) h dc ds := fun H ls locs hl hr hS => lv_lload_n X.1 X.2.1 hd hi (lv_at hl j hj) (k H ls locs hl hr hS)
theorem jm_lload (X : jm_cx p s m args c S D cl tys G cc nL own) {i : Nat} {x : Int64} (hd : decode cc pc = .ok (.lload i, 2)) (j : Nat) (hj : lv[j]? = some (i, .long x)) (k : jm_W p l e R s m args below meth c S D cl Q nL (pc + 2) lv (.long x :: rest) h dc ds) : jm_W p l e R s m args below meth c S D cl Q nL (pc) lv (rest) h dc ds := fun H ls locs hl hr hS => lv_lload X.1 X.2.1 hd (lv_at hl j hj) (k H ls locs hl hr hS)
theorem jm_lstore_n (X : jm_cx p s m args c S D cl tys G cc nL own) {n : Fin 4} {i : Nat} {x : Int64} {lv1 : List (Nat × Value)} (hd : decode cc pc = .ok (.lstore_n n, 1)) (hi : (n : Nat) = i) (hn : i + 1 < nL) (he : (i, Value.long x) :: lv.filter (fun q => !(q.1 == i) && (!(q.1 == i + 1) && !(q.1 + 1 == i && q.2.category == 2))) = lv1) (k : jm_W p l e R s m args below meth c S D cl Q nL (pc + 1) lv1 (rest) h dc ds) : jm_W p l e R s m args below meth c S D cl Q nL (pc) lv (.long x :: rest) h dc ds := fun H ls locs hl hr hS => lv_lstore_n X.1 X.2.1 hd hi hl hn he (fun ls1 hl1 => k H ls1 locs hl1 hr hS)
theorem jm_lstore (X : jm_cx p s m args c S D cl tys G cc nL own) {i : Nat} {x : Int64} {lv1 : List (Nat × Value)} (hd : decode cc pc = .ok (.lstore i, 2)) (hn : i + 1 < nL) (he : (i, Value.long x) :: lv.filter (fun q => !(q.1 == i) && (!(q.1 == i + 1) && !(q.1 + 1 == i && q.2.category == 2))) = lv1) (k : jm_W p l e R s m args below meth c S D cl Q nL (pc + 2) lv1 (rest) h dc ds) : jm_W p l e R s m args below meth c S D cl Q nL (pc) lv (.long x :: rest) h dc ds := fun H ls locs hl hr hS => lv_lstore X.1 X.2.1 hd hl hn he (fun ls1 hl1 => k H ls1 locs hl1 hr hS)
theorem jm_aload_n (X : jm_cx p s m args c S D cl tys G cc nL own) {n : Fin 4} {i : Nat} {x : Nat} (hd : decode cc pc = .ok (.aload_n n, 1)) (hi : (n : Nat) = i) (j : Nat) (hj : lv[j]? = some (i, .ref x)) (k : jm_W p l e R s m args below meth c S D cl Q nL (pc + 1) lv (.ref x :: rest) h dc ds) : jm_W p l e R s m args below meth c S D cl Q nL (pc) lv (rest) h dc ds := fun H ls locs hl hr hS => lv_aload_n X.1 X.2.1 hd hi (lv_at hl j hj) (k H ls locs hl hr hS)
theorem jm_aload (X : jm_cx p s m args c S D cl tys G cc nL own) {i : Nat} {x : Nat} (hd : decode cc pc = .ok (.aload i, 2)) (j : Nat) (hj : lv[j]? = some (i, .ref x)) (k : jm_W p l e R s m args below meth c S D cl Q nL (pc + 2) lv (.ref x :: rest) h dc ds) : jm_W p l e R s m args below meth c S D cl Q nL (pc) lv (rest) h dc ds := fun H ls locs hl hr hS => lv_aload X.1 X.2.1 hd (lv_at hl j hj) (k H ls locs hl hr hS)
theorem jm_astore_n (X : jm_cx p s m args c S D cl tys G cc nL own) {n : Fin 4} {i : Nat} {x : Nat} {lv1 : List (Nat × Value)} (hd : decode cc pc = .ok (.astore_n n, 1)) (hi : (n : Nat) = i) (hn : i < nL) (he : (i, Value.ref x) :: lv.filter (fun q => !(q.1 == i) && !(q.1 + 1 == i && q.2.category == 2)) = lv1) (k : jm_W p l e R s m args below meth c S D cl Q nL (pc + 1) lv1 (rest) h dc ds) : jm_W p l e R s m args below meth c S D cl Q nL (pc) lv (.ref x :: rest) h dc ds := fun H ls locs hl hr hS => lv_astore_n X.1 X.2.1 hd hi hl hn he (fun ls1 hl1 => k H ls1 locs hl1 hr hS)
theorem jm_astore (X : jm_cx p s m args c S D cl tys G cc nL own) {i : Nat} {x : Nat} {lv1 : List (Nat × Value)} (hd : decode cc pc = .ok (.astore i, 2)) (hn : i < nL) (he : (i, Value.ref x) :: lv.filter (fun q => !(q.1 == i) && !(q.1 + 1 == i && q.2.category == 2)) = lv1) (k : jm_W p l e R s m args below meth c S D cl Q nL (pc + 2) lv1 (rest) h dc ds) : jm_W p l e R s m args below meth c S D cl Q nL (pc) lv (.ref x :: rest) h dc ds := fun H ls locs hl hr hS => lv_astore X.1 X.2.1 hd hl hn he (fun ls1 hl1 => k H ls1 locs hl1 hr hS)
theorem jm_iinc (X : jm_cx p s m args c S D cl tys G cc nL own) {i : Nat} {n : Int} {x v : Int32} {lv1 : List (Nat × Value)} (hd : decode cc pc = .ok (.iinc i n, 3)) (j : Nat) (hj : lv[j]? = some (i, .int x)) (hv : x + Int32.ofInt n = v) (hn : i < nL) (he : (i, Value.int v) :: lv.filter (fun q => !(q.1 == i) && !(q.1 + 1 == i && q.2.category == 2)) = lv1) (k : jm_W p l e R s m args below meth c S D cl Q nL (pc + 3) lv1 (rest) h dc ds) : jm_W p l e R s m args below meth c S D cl Q nL (pc) lv (rest) h dc ds := fun H ls locs hl hr hS => lv_iinc X.1 X.2.1 hd hl hj hv hn he (fun ls1 hl1 => k H ls1 locs hl1 hr hS)
theorem jm_if_eq (X : jm_cx p s m args c S D cl tys G cc nL own) {x : Int32} {off : Int} {tgt : Nat} (hd : decode cc pc = .ok (.ifCond .eq off, 3)) (ht : (pc : Int) + off = (tgt : Int)) (kt : x = 0 → jm_W p l e R s m args below meth c S D cl Q nL (tgt) lv (rest) h dc ds) (kf : ¬ x = 0 → jm_W p l e R s m args below meth c S D cl Q nL (pc + 3) lv (rest) h dc ds) : jm_W p l e R s m args below meth c S D cl Q nL (pc) lv (.int x :: rest) h dc ds := fun H ls locs hl hr hS => lv_if_eq X.1 X.2.1 hd ht (fun q => kt q H ls locs hl hr hS) (fun q => kf q H ls locs hl hr hS)
theorem jm_if_ne (X : jm_cx p s m args c S D cl tys G cc nL own) {x : Int32} {off : Int} {tgt : Nat} (hd : decode cc pc = .ok (.ifCond .ne off, 3)) (ht : (pc : Int) + off = (tgt : Int)) (kt : ¬ x = 0 → jm_W p l e R s m args below meth c S D cl Q nL (tgt) lv (rest) h dc ds) (kf : x = 0 → jm_W p l e R s m args below meth c S D cl Q nL (pc + 3) lv (rest) h dc ds) : jm_W p l e R s m args below meth c S D cl Q nL (pc) lv (.int x :: rest) h dc ds := fun H ls locs hl hr hS => lv_if_ne X.1 X.2.1 hd ht (fun q => kt q H ls locs hl hr hS) (fun q => kf q H ls locs hl hr hS)
theorem jm_if_lt (X : jm_cx p s m args c S D cl tys G cc nL own) {x : Int32} {off : Int} {tgt : Nat} (hd : decode cc pc = .ok (.ifCond .lt off, 3)) (ht : (pc : Int) + off = (tgt : Int)) (kt : x < 0 → jm_W p l e R s m args below meth c S D cl Q nL (tgt) lv (rest) h dc ds) (kf : ¬ x < 0 → jm_W p l e R s m args below meth c S D cl Q nL (pc + 3) lv (rest) h dc ds) : jm_W p l e R s m args below meth c S D cl Q nL (pc) lv (.int x :: rest) h dc ds := fun H ls locs hl hr hS => lv_if_lt X.1 X.2.1 hd ht (fun q => kt q H ls locs hl hr hS) (fun q => kf q H ls locs hl hr hS)
theorem jm_if_ge (X : jm_cx p s m args c S D cl tys G cc nL own) {x : Int32} {off : Int} {tgt : Nat} (hd : decode cc pc = .ok (.ifCond .ge off, 3)) (ht : (pc : Int) + off = (tgt : Int)) (kt : 0 ≤ x → jm_W p l e R s m args below meth c S D cl Q nL (tgt) lv (rest) h dc ds) (kf : ¬ 0 ≤ x → jm_W p l e R s m args below meth c S D cl Q nL (pc + 3) lv (rest) h dc ds) : jm_W p l e R s m args below meth c S D cl Q nL (pc) lv (.int x :: rest) h dc ds := fun H ls locs hl hr hS => lv_if_ge X.1 X.2.1 hd ht (fun q => kt q H ls locs hl hr hS) (fun q => kf q H ls locs hl hr hS)
theorem jm_if_gt (X : jm_cx p s m args c S D cl tys G cc nL own) {x : Int32} {off : Int} {tgt : Nat} (hd : decode cc pc = .ok (.ifCond .gt off, 3)) (ht : (pc : Int) + off = (tgt : Int)) (kt : 0 < x → jm_W p l e R s m args below meth c S D cl Q nL (tgt) lv (rest) h dc ds) (kf : ¬ 0 < x → jm_W p l e R s m args below meth c S D cl Q nL (pc + 3) lv (rest) h dc ds) : jm_W p l e R s m args below meth c S D cl Q nL (pc) lv (.int x :: rest) h dc ds := fun H ls locs hl hr hS => lv_if_gt X.1 X.2.1 hd ht (fun q => kt q H ls locs hl hr hS) (fun q => kf q H ls locs hl hr hS)
theorem jm_if_le (X : jm_cx p s m args c S D cl tys G cc nL own) {x : Int32} {off : Int} {tgt : Nat} (hd : decode cc pc = .ok (.ifCond .le off, 3)) (ht : (pc : Int) + off = (tgt : Int)) (kt : x ≤ 0 → jm_W p l e R s m args below meth c S D cl Q nL (tgt) lv (rest) h dc ds) (kf : ¬ x ≤ 0 → jm_W p l e R s m args below meth c S D cl Q nL (pc + 3) lv (rest) h dc ds) : jm_W p l e R s m args below meth c S D cl Q nL (pc) lv (.int x :: rest) h dc ds := fun H ls locs hl hr hS => lv_if_le X.1 X.2.1 hd ht (fun q => kt q H ls locs hl hr hS) (fun q => kf q H ls locs hl hr hS)
theorem jm_icmp_eq (X : jm_cx p s m args c S D cl tys G cc nL own) {x y : Int32} {off : Int} {tgt : Nat} (hd : decode cc pc = .ok (.if_icmp .eq off, 3)) (ht : (pc : Int) + off = (tgt : Int)) (kt : x = y → jm_W p l e R s m args below meth c S D cl Q nL (tgt) lv (rest) h dc ds) (kf : ¬ x = y → jm_W p l e R s m args below meth c S D cl Q nL (pc + 3) lv (rest) h dc ds) : jm_W p l e R s m args below meth c S D cl Q nL (pc) lv (.int y :: .int x :: rest) h dc ds := fun H ls locs hl hr hS => lv_icmp_eq X.1 X.2.1 hd ht (fun q => kt q H ls locs hl hr hS) (fun q => kf q H ls locs hl hr hS)
theorem jm_icmp_ne (X : jm_cx p s m args c S D cl tys G cc nL own) {x y : Int32} {off : Int} {tgt : Nat} (hd : decode cc pc = .ok (.if_icmp .ne off, 3)) (ht : (pc : Int) + off = (tgt : Int)) (kt : ¬ x = y → jm_W p l e R s m args below meth c S D cl Q nL (tgt) lv (rest) h dc ds) (kf : x = y → jm_W p l e R s m args below meth c S D cl Q nL (pc + 3) lv (rest) h dc ds) : jm_W p l e R s m args below meth c S D cl Q nL (pc) lv (.int y :: .int x :: rest) h dc ds := fun H ls locs hl hr hS => lv_icmp_ne X.1 X.2.1 hd ht (fun q => kt q H ls locs hl hr hS) (fun q => kf q H ls locs hl hr hS)
theorem jm_icmp_lt (X : jm_cx p s m args c S D cl tys G cc nL own) {x y : Int32} {off : Int} {tgt : Nat} (hd : decode cc pc = .ok (.if_icmp .lt off, 3)) (ht : (pc : Int) + off = (tgt : Int)) (kt : x < y → jm_W p l e R s m args below meth c S D cl Q nL (tgt) lv (rest) h dc ds) (kf : ¬ x < y → jm_W p l e R s m args below meth c S D cl Q nL (pc + 3) lv (rest) h dc ds) : jm_W p l e R s m args below meth c S D cl Q nL (pc) lv (.int y :: .int x :: rest) h dc ds := fun H ls locs hl hr hS => lv_icmp_lt X.1 X.2.1 hd ht (fun q => kt q H ls locs hl hr hS) (fun q => kf q H ls locs hl hr hS)
theorem jm_icmp_ge (X : jm_cx p s m args c S D cl tys G cc nL own) {x y : Int32} {off : Int} {tgt : Nat} (hd : decode cc pc = .ok (.if_icmp .ge off, 3)) (ht : (pc : Int) + off = (tgt : Int)) (kt : y ≤ x → jm_W p l e R s m args below meth c S D cl Q nL (tgt) lv (rest) h dc ds) (kf : ¬ y ≤ x → jm_W p l e R s m args below meth c S D cl Q nL (pc + 3) lv (rest) h dc ds) : jm_W p l e R s m args below meth c S D cl Q nL (pc) lv (.int y :: .int x :: rest) h dc ds := fun H ls locs hl hr hS => lv_icmp_ge X.1 X.2.1 hd ht (fun q => kt q H ls locs hl hr hS) (fun q => kf q H ls locs hl hr hS)
theorem jm_icmp_gt (X : jm_cx p s m args c S D cl tys G cc nL own) {x y : Int32} {off : Int} {tgt : Nat} (hd : decode cc pc = .ok (.if_icmp .gt off, 3)) (ht : (pc : Int) + off = (tgt : Int)) (kt : y < x → jm_W p l e R s m args below meth c S D cl Q nL (tgt) lv (rest) h dc ds) (kf : ¬ y < x → jm_W p l e R s m args below meth c S D cl Q nL (pc + 3) lv (rest) h dc ds) : jm_W p l e R s m args below meth c S D cl Q nL (pc) lv (.int y :: .int x :: rest) h dc ds := fun H ls locs hl hr hS => lv_icmp_gt X.1 X.2.1 hd ht (fun q => kt q H ls locs hl hr hS) (fun q => kf q H ls locs hl hr hS)
theorem jm_icmp_le (X : jm_cx p s m args c S D cl tys G cc nL own) {x y : Int32} {off : Int} {tgt : Nat} (hd : decode cc pc = .ok (.if_icmp .le off, 3)) (ht : (pc : Int) + off = (tgt : Int)) (kt : x ≤ y → jm_W p l e R s m args below meth c S D cl Q nL (tgt) lv (rest) h dc ds) (kf : ¬ x ≤ y → jm_W p l e R s m args below meth c S D cl Q nL (pc + 3) lv (rest) h dc ds) : jm_W p l e R s m args below meth c S D cl Q nL (pc) lv (.int y :: .int x :: rest) h dc ds := fun H ls locs hl hr hS => lv_icmp_le X.1 X.2.1 hd ht (fun q => kt q H ls locs hl hr hS) (fun q => kf q H ls locs hl hr hS)
theorem jm_goto (X : jm_cx p s m args c S D cl tys G cc nL own) {off : Int} {tgt : Nat} (hd : decode cc pc = .ok (.goto off, 3)) (ht : (pc : Int) + off = (tgt : Int)) (k : jm_W p l e R s m args below meth c S D cl Q nL (tgt) lv (rest) h dc ds) : jm_W p l e R s m args below meth c S D cl Q nL (pc) lv (rest) h dc ds := fun H ls locs hl hr hS => lv_goto X.1 X.2.1 hd ht (k H ls locs hl hr hS)
theorem jm_tabOut (X : jm_cx p s m args c S D cl tys G cc nL own) {dflt lo hi : Int} {offs : Array Int} {len : Nat} {x : Int32} {tgt : Nat} (hd : decode cc pc = .ok (.tableswitch dflt lo hi offs, len)) (hx : x.toInt < lo ∨ hi < x.toInt) (ht : (pc : Int) + dflt = (tgt : Int)) (k : jm_W p l e R s m args below meth c S D cl Q nL (tgt) lv (rest) h dc ds) : jm_W p l e R s m args below meth c S D cl Q nL (pc) lv (.int x :: rest) h dc ds := fun H ls locs hl hr hS => lv_tableOut X.1 X.2.1 hd hx ht (k H ls locs hl hr hS)
theorem jm_tabIn (X : jm_cx p s m args c S D cl tys G cc nL own) {dflt lo hi : Int} {offs : Array Int} {len : Nat} {x : Int32} {off : Int} {tgt : Nat} (hd : decode cc pc = .ok (.tableswitch dflt lo hi offs, len)) (h1 : ¬ x.toInt < lo) (h2 : ¬ hi < x.toInt) (ho : offs[(x.toInt - lo).toNat]? = some off) (ht : (pc : Int) + off = (tgt : Int)) (k : jm_W p l e R s m args below meth c S D cl Q nL (tgt) lv (rest) h dc ds) : jm_W p l e R s m args below meth c S D cl Q nL (pc) lv (.int x :: rest) h dc ds := fun H ls locs hl hr hS => lv_tableIn X.1 X.2.1 hd h1 h2 ho ht (k H ls locs hl hr hS)
theorem jm_lookup (X : jm_cx p s m args c S D cl tys G cc nL own) {dflt : Int} {ps : Array (Int × Int)} {len : Nat} {x : Int32} {off : Int} {tgt : Nat} (hd : decode cc pc = .ok (.lookupswitch dflt ps, len)) (hp : (ps.toList.zip (ps.toList.drop 1)).all (fun (a, next) => a.1 < next.1) = true) (ho : Op.lookupswitch.offset ps.toList dflt x.toInt = off) (ht : (pc : Int) + off = (tgt : Int)) (k : jm_W p l e R s m args below meth c S D cl Q nL (tgt) lv (rest) h dc ds) : jm_W p l e R s m args below meth c S D cl Q nL (pc) lv (.int x :: rest) h dc ds := fun H ls locs hl hr hS => lv_lookup X.1 X.2.1 hd hp ho ht (k H ls locs hl hr hS)
theorem jm_topi {x : Int32} (k : ∀ y : Int32, y = x → jm_W p l e R s m args below meth c S D cl Q nL (pc) lv (.int y :: rest) h dc ds) : jm_W p l e R s m args below meth c S D cl Q nL (pc) lv (.int x :: rest) h dc ds := k x rfl
theorem jm_topl {x : Int64} (k : ∀ y : Int64, y = x → jm_W p l e R s m args below meth c S D cl Q nL (pc) lv (.long y :: rest) h dc ds) : jm_W p l e R s m args below meth c S D cl Q nL (pc) lv (.long x :: rest) h dc ds := k x rfl
end JM1
section JM2
variable {p : Program} {l : Launch} {e : Env} {R : Room} {s : State} {m : MethodId} {args : Array Value} {below : List Frame} {meth : Method} {c : Code} {Q : State → Prop}
variable {S : State} {D : va_G} {cl : List vw_C} {tys : List (ClassId × FieldType)} {G : List Cond} {cc : ByteArray} {nL pc dc ds : Nat} {own : String} {lv : List (Nat × Value)} {rest : List Value} {h : jm_H}
theorem jm_A (X : jm_cx p s m args c S D cl tys G cc nL own) : ∀ q : Nat, s.heap.size ≤ q → (fun z => S.heap.size ≤ z) q := fun _ hq => Nat.le_trans X.2.2.2.2.2.2.1.2.1 hq
def jm_fs (cl : List vw_C) (G : List Cond) (own : String) (index ci k : Nat) (ty : FieldType) (fin : Bool) : Prop :=
  ∃ (C : String) (T : u_T) (N : Nat) (ty0 : Nat → FieldType), cl[ci]? = some (C, T, N) ∧ k < N ∧ (∀ w ∈ u_ws C T N, w ∈ G) ∧ (∀ k, k < N → parseFieldDescriptor (T k).2.2.1 = some (ty0 k)) ∧ (∀ a, a < N → ∀ b, b < N → a ≠ b → (T a).2.1 ≠ (T b).2.1) ∧ (T k).2.2.2 = fin ∧ (T k).1 = C ∧ parseFieldDescriptor (T k).2.2.1 = some ty ∧
    (Cond.fieldLink own index (T k).1 (T k).2.1 (T k).2.2.1 ∈ G ∨ ∃ host : String, Cond.fieldLinkNest own index (T k).1 (T k).2.1 (T k).2.2.1 host ∈ G)
theorem jm_get (X : jm_cx p s m args c S D cl tys G cc nL own) {index ci k a : Nat} {ty : FieldType} {fin : Bool} {fs : List Value} {v : Value} (hd : decode cc pc = .ok (.getfield index, 3)) (hf : jm_fs cl G own index ci k ty fin) (ha : h a = some (.inr (ci, fs))) (hv : fs[k]? = some v)
    (kk : jm_W p l e R s m args below meth c S D cl Q nL (pc + 3) lv (v :: rest) h dc ds) : jm_W p l e R s m args below meth c S D cl Q nL pc lv (.ref a :: rest) h dc ds := by
  intro H ls locs hl hr hS
  obtain ⟨C, T, N, ty0, hc, hk, hin, hty, hnm, hfin, hC, hpd, hlk⟩ := hf
  obtain ⟨q0, hq⟩ := jm_place hr ha
  rcases hlk with hw | ⟨host, hw⟩
  · exact va_get X.1 X.2.1 X.2.2.2.2.1 hin X.2.2.2.1 X.2.2.2.2.2.1 (jm_P hr) q0 hq hc k hk (X.2.2.2.2.1 _ hw) (fun _ h9 => h9) hv hd (kk H ls locs hl hr hS)
  · exact va_getN X.1 X.2.1 X.2.2.2.2.1 hin X.2.2.2.1 X.2.2.2.2.2.1 (jm_P hr) q0 hq hc k hk (X.2.2.2.2.1 _ hw) (fun _ h9 => h9) hv hd (kk H ls locs hl hr hS)
theorem jm_put (X : jm_cx p s m args c S D cl tys G cc nL own) {index ci k a : Nat} {ty : FieldType} {fs fs1 : List Value} {v : Value} (hd : decode cc pc = .ok (.putfield index, 3)) (hf : jm_fs cl G own index ci k ty false) (ha : h a = some (.inr (ci, fs))) (hn : narrow ty v = v) (hfit : fits ty v = true) (hlen : k < fs.length) (he : fs.set k v = fs1)
    (kk : jm_W p l e R s m args below meth c S D cl Q nL (pc + 3) lv rest (jm_up h a (.inr (ci, fs1))) dc ds) : jm_W p l e R s m args below meth c S D cl Q nL pc lv (v :: .ref a :: rest) h dc ds := by
  intro H ls locs hl hr hS
  subst he
  obtain ⟨C, T, N, ty0, hc, hk, hin, hty, hnm, hfin, hC, hpd, hlk⟩ := hf
  obtain ⟨q0, hq⟩ := jm_place hr ha
  rcases hlk with hw | ⟨host, hw⟩
  · exact va_put X.1 X.2.1 X.2.2.2.2.1 hin ty0 hty hnm X.2.2.2.1 X.2.2.2.2.2.1 (jm_P hr) (jm_D hr) hS q0 hq hc k hk (X.2.2.2.2.1 _ hw) (fun _ h9 => h9) hfin hpd hn hfit hlen hd (fun H1 locs1 hP1 _ hS1 => kk H1 ls locs1 hl (jm_set hr hq hP1) hS1)
  · exact va_putN X.1 X.2.1 X.2.2.2.2.1 hin ty0 hty hnm X.2.2.2.1 X.2.2.2.2.2.1 (jm_P hr) (jm_D hr) hS q0 hq hc k hk (X.2.2.2.2.1 _ hw) (fun _ h9 => h9) hfin hpd hn hfit hlen hd (fun H1 locs1 hP1 _ hS1 => kk H1 ls locs1 hl (jm_set hr hq hP1) hS1)
def jm_ff (cl : List vw_C) (G : List Cond) (own : String) (index ci k : Nat) (ty : FieldType) : Prop :=
  ∃ (T : u_T) (N : Nat) (ty0 : Nat → FieldType), cl[ci]? = some (own, T, N) ∧ k < N ∧ (∀ w ∈ u_ws own T N, w ∈ G) ∧ (∀ k, k < N → parseFieldDescriptor (T k).2.2.1 = some (ty0 k)) ∧ (∀ a, a < N → ∀ b, b < N → a ≠ b → (T a).2.1 ≠ (T b).2.1) ∧ (T k).2.2.2 = true ∧ (T k).1 = own ∧ parseFieldDescriptor (T k).2.2.1 = some ty ∧ Cond.fieldLink own index (T k).1 (T k).2.1 (T k).2.2.1 ∈ G
theorem jm_putF (X : jm_cx p s m args c S D cl tys G cc nL own) {index ci k a : Nat} {ty : FieldType} {fs fs1 : List Value} {v : Value} (hmn : meth.name = "<init>") (hd : decode cc pc = .ok (.putfield index, 3)) (hf : jm_ff cl G own index ci k ty) (ha : h a = some (.inr (ci, fs))) (hn : narrow ty v = v) (hfit : fits ty v = true) (hlen : k < fs.length) (he : fs.set k v = fs1)
    (kk : jm_W p l e R s m args below meth c S D cl Q nL (pc + 3) lv rest (jm_up h a (.inr (ci, fs1))) dc ds) : jm_W p l e R s m args below meth c S D cl Q nL pc lv (v :: .ref a :: rest) h dc ds := by
  intro H ls locs hl hr hS
  subst he
  obtain ⟨T, N, ty0, hc, hk, hin, hty, hnm, hfin, hC, hpd, hw⟩ := hf
  obtain ⟨q0, hq⟩ := jm_place hr ha
  exact va_putF X.1 X.2.1 X.2.2.2.2.1 hin ty0 hty hnm X.2.2.2.1 X.2.2.2.2.2.1 (jm_P hr) (jm_D hr) hS q0 hq hc k hk (X.2.2.2.2.1 _ hw) (fun _ h9 => h9) hfin hmn hC hpd hn hfit hlen hd (fun H1 locs1 hP1 _ hS1 => kk H1 ls locs1 hl (jm_set hr hq hP1) hS1)
theorem jm_iald (X : jm_cx p s m args c S D cl tys G cc nL own) {t0 a n : Nat} {cA : ClassId} {f : Nat → Int32} {i : Int32} (hd : decode cc pc = .ok (.iaload, 1)) (ht : tys[t0]? = some (cA, .int)) (ha : h a = some (.inl (cA, n, .inl f))) (hin : vp_in i n) (kk : jm_W p l e R s m args below meth c S D cl Q nL (pc + 1) lv (.int (f i.toNatClampNeg) :: rest) h dc ds) : jm_W p l e R s m args below meth c S D cl Q nL (pc) lv (.int i :: .ref a :: rest) h dc ds := by
  intro H ls locs hl hr hS
  obtain ⟨q0, hq⟩ := jm_place hr ha
  exact va_iald X.1 X.2.1 X.2.2.2.2.2.1 (jm_P hr) q0 t0 hq ht hin hd (kk H ls locs hl hr hS)
theorem jm_bald (X : jm_cx p s m args c S D cl tys G cc nL own) {t0 a n : Nat} {cA : ClassId} {f : Nat → Int32} {i : Int32} (hd : decode cc pc = .ok (.baload, 1)) (ht : tys[t0]? = some (cA, .byte)) (ha : h a = some (.inl (cA, n, .inl f))) (hin : vp_in i n) (kk : jm_W p l e R s m args below meth c S D cl Q nL (pc + 1) lv (.int (f i.toNatClampNeg) :: rest) h dc ds) : jm_W p l e R s m args below meth c S D cl Q nL (pc) lv (.int i :: .ref a :: rest) h dc ds := by
  intro H ls locs hl hr hS
  obtain ⟨q0, hq⟩ := jm_place hr ha
  exact va_bald X.1 X.2.1 X.2.2.2.2.2.1 (jm_P hr) q0 t0 hq ht hin hd (kk H ls locs hl hr hS)
theorem jm_zald (X : jm_cx p s m args c S D cl tys G cc nL own) {t0 a n : Nat} {cA : ClassId} {f : Nat → Int32} {i : Int32} (hd : decode cc pc = .ok (.baload, 1)) (ht : tys[t0]? = some (cA, .boolean)) (ha : h a = some (.inl (cA, n, .inl f))) (hin : vp_in i n) (kk : jm_W p l e R s m args below meth c S D cl Q nL (pc + 1) lv (.int (f i.toNatClampNeg) :: rest) h dc ds) : jm_W p l e R s m args below meth c S D cl Q nL (pc) lv (.int i :: .ref a :: rest) h dc ds := by
  intro H ls locs hl hr hS
  obtain ⟨q0, hq⟩ := jm_place hr ha
  exact va_zald X.1 X.2.1 X.2.2.2.2.2.1 (jm_P hr) q0 t0 hq ht hin hd (kk H ls locs hl hr hS)
theorem jm_lald (X : jm_cx p s m args c S D cl tys G cc nL own) {t0 a n : Nat} {cA : ClassId} {f : Nat → Int64} {i : Int32} (hd : decode cc pc = .ok (.laload, 1)) (ht : tys[t0]? = some (cA, .long)) (ha : h a = some (.inl (cA, n, .inr (.inl f)))) (hin : vp_in i n) (kk : jm_W p l e R s m args below meth c S D cl Q nL (pc + 1) lv (.long (f i.toNatClampNeg) :: rest) h dc ds) : jm_W p l e R s m args below meth c S D cl Q nL (pc) lv (.int i :: .ref a :: rest) h dc ds := by
  intro H ls locs hl hr hS
  obtain ⟨q0, hq⟩ := jm_place hr ha
  exact va_lald X.1 X.2.1 X.2.2.2.2.2.1 (jm_P hr) q0 t0 hq ht hin hd (kk H ls locs hl hr hS)
theorem jm_aald (X : jm_cx p s m args c S D cl tys G cc nL own) {t0 a n : Nat} {cA : ClassId} {C : String} {f : Nat → Option Nat} {i : Int32} (hd : decode cc pc = .ok (.aaload, 1)) (ht : tys[t0]? = some (cA, .object C)) (ha : h a = some (.inl (cA, n, .inr (.inr (.inr (.inr f)))))) (hin : vp_in i n) (kk : jm_W p l e R s m args below meth c S D cl Q nL (pc + 1) lv (va_rf (f i.toNatClampNeg) :: rest) h dc ds) : jm_W p l e R s m args below meth c S D cl Q nL (pc) lv (.int i :: .ref a :: rest) h dc ds := by
  intro H ls locs hl hr hS
  obtain ⟨q0, hq⟩ := jm_place hr ha
  exact va_aldq X.1 X.2.1 X.2.2.2.2.2.1 (jm_P hr) q0 t0 hq ht hin hd (kk H ls locs hl hr hS)
theorem jm_iast (X : jm_cx p s m args c S D cl tys G cc nL own) {t0 a n : Nat} {cA : ClassId} {f : Nat → Int32} {i : Int32} {x : Int32} (hd : decode cc pc = .ok (.iastore, 1)) (ht : tys[t0]? = some (cA, .int)) (ha : h a = some (.inl (cA, n, .inl f))) (hin : vp_in i n) (kk : jm_W p l e R s m args below meth c S D cl Q nL (pc + 1) lv (rest) (jm_up h a (.inl (cA, n, .inl (upd f i.toNatClampNeg x)))) dc ds) : jm_W p l e R s m args below meth c S D cl Q nL (pc) lv (.int x :: .int i :: .ref a :: rest) h dc ds := by
  intro H ls locs hl hr hS
  obtain ⟨q0, hq⟩ := jm_place hr ha
  exact va_iast X.1 X.2.1 X.2.2.2.2.2.1 (jm_P hr) (jm_D hr) hS q0 t0 hq ht hin hd (fun H1 locs1 hP1 _ hS1 => kk H1 ls locs1 hl (jm_set hr hq hP1) hS1)
theorem jm_bast (X : jm_cx p s m args c S D cl tys G cc nL own) {t0 a n : Nat} {cA : ClassId} {f : Nat → Int32} {i : Int32} {x : Int32} (hd : decode cc pc = .ok (.bastore, 1)) (ht : tys[t0]? = some (cA, .byte)) (ha : h a = some (.inl (cA, n, .inl f))) (hin : vp_in i n) (kk : jm_W p l e R s m args below meth c S D cl Q nL (pc + 1) lv (rest) (jm_up h a (.inl (cA, n, .inl (upd f i.toNatClampNeg (vp_nar .byte x))))) dc ds) : jm_W p l e R s m args below meth c S D cl Q nL (pc) lv (.int x :: .int i :: .ref a :: rest) h dc ds := by
  intro H ls locs hl hr hS
  obtain ⟨q0, hq⟩ := jm_place hr ha
  exact va_bast X.1 X.2.1 X.2.2.2.2.2.1 (jm_P hr) (jm_D hr) hS q0 t0 hq ht hin hd (fun H1 locs1 hP1 _ hS1 => kk H1 ls locs1 hl (jm_set hr hq hP1) hS1)
theorem jm_zast (X : jm_cx p s m args c S D cl tys G cc nL own) {t0 a n : Nat} {cA : ClassId} {f : Nat → Int32} {i : Int32} {x : Int32} (hd : decode cc pc = .ok (.bastore, 1)) (ht : tys[t0]? = some (cA, .boolean)) (ha : h a = some (.inl (cA, n, .inl f))) (hin : vp_in i n) (kk : jm_W p l e R s m args below meth c S D cl Q nL (pc + 1) lv (rest) (jm_up h a (.inl (cA, n, .inl (upd f i.toNatClampNeg (vp_nar .boolean x))))) dc ds) : jm_W p l e R s m args below meth c S D cl Q nL (pc) lv (.int x :: .int i :: .ref a :: rest) h dc ds := by
  intro H ls locs hl hr hS
  obtain ⟨q0, hq⟩ := jm_place hr ha
  exact va_zast X.1 X.2.1 X.2.2.2.2.2.1 (jm_P hr) (jm_D hr) hS q0 t0 hq ht hin hd (fun H1 locs1 hP1 _ hS1 => kk H1 ls locs1 hl (jm_set hr hq hP1) hS1)
theorem jm_last (X : jm_cx p s m args c S D cl tys G cc nL own) {t0 a n : Nat} {cA : ClassId} {f : Nat → Int64} {i : Int32} {x : Int64} (hd : decode cc pc = .ok (.lastore, 1)) (ht : tys[t0]? = some (cA, .long)) (ha : h a = some (.inl (cA, n, .inr (.inl f)))) (hin : vp_in i n) (kk : jm_W p l e R s m args below meth c S D cl Q nL (pc + 1) lv (rest) (jm_up h a (.inl (cA, n, .inr (.inl (vp_updL f i.toNatClampNeg x))))) dc ds) : jm_W p l e R s m args below meth c S D cl Q nL (pc) lv (.long x :: .int i :: .ref a :: rest) h dc ds := by
  intro H ls locs hl hr hS
  obtain ⟨q0, hq⟩ := jm_place hr ha
  exact va_last X.1 X.2.1 X.2.2.2.2.2.1 (jm_P hr) (jm_D hr) hS q0 t0 hq ht hin hd (fun H1 locs1 hP1 _ hS1 => kk H1 ls locs1 hl (jm_set hr hq hP1) hS1)
theorem jm_aast (X : jm_cx p s m args c S D cl tys G cc nL own) {t0 a n v ci : Nat} {cA : ClassId} {r : vw_C} {vs : List Value} {f : Nat → Option Nat} {i : Int32} (hd : decode cc pc = .ok (.aastore, 1)) (ht : tys[t0]? = some (cA, .object r.1)) (hc : cl[ci]? = some r) (ha : h a = some (.inl (cA, n, .inr (.inr (.inr (.inr f)))))) (hv : h v = some (.inr (ci, vs))) (hin : vp_in i n) (kk : jm_W p l e R s m args below meth c S D cl Q nL (pc + 1) lv (rest) (jm_up h a (.inl (cA, n, .inr (.inr (.inr (.inr (va_up f i.toNatClampNeg (some v)))))))) dc ds) : jm_W p l e R s m args below meth c S D cl Q nL (pc) lv (.ref v :: .int i :: .ref a :: rest) h dc ds := by
  intro H ls locs hl hr hS
  obtain ⟨q0, hq⟩ := jm_place hr ha
  obtain ⟨q1, hq1⟩ := jm_place hr hv
  exact va_astq X.1 X.2.1 X.2.2.2.2.2.1 (jm_P hr) (jm_D hr) hS q0 t0 q1 ci hq ht hq1 hc hin hd (fun H1 locs1 hP1 _ hS1 => kk H1 ls locs1 hl (jm_set hr hq hP1) hS1)
theorem jm_alen (X : jm_cx p s m args c S D cl tys G cc nL own) {t0 a : Nat} {cA : ClassId} {x : vp_A} {ty : FieldType} {v : Int32} (hd : decode cc pc = .ok (.arraylength, 1)) (ht : tys[t0]? = some (cA, ty)) (ha : h a = some (.inl (cA, x))) (hv : Int32.ofNat x.1 = v) (kk : jm_W p l e R s m args below meth c S D cl Q nL (pc + 1) lv (.int v :: rest) h dc ds) : jm_W p l e R s m args below meth c S D cl Q nL (pc) lv (.ref a :: rest) h dc ds := by
  intro H ls locs hl hr hS
  obtain ⟨q0, hq⟩ := jm_place hr ha
  exact va_alen X.1 X.2.1 X.2.2.2.2.2.1 (jm_P hr) q0 t0 hq ht hv hd (kk H ls locs hl hr hS)
def jm_nw (cl : List vw_C) (G : List Cond) (own : String) (index ci N : Nat) (fs : List Value) : Prop :=
  ∃ (C : String) (T : u_T) (ty : Nat → FieldType), cl[ci]? = some (C, T, N) ∧ (∀ w ∈ u_ws C T N, w ∈ G) ∧ (∀ k, k < N → parseFieldDescriptor (T k).2.2.1 = some (ty k)) ∧ (∀ j, j < N → defaultValue (ty j) = vp_V fs j) ∧ Cond.classLink own index C ∈ G ∧ Cond.instantiable C N ∈ G ∧ Cond.initialized C ∈ G
theorem jm_new (X : jm_cx p s m args c S D cl tys G cc nL own) {index ci N : Nat} {fs : List Value} (hd : decode cc pc = .ok (.new index, 3)) (hf : jm_nw cl G own index ci N fs) (hcells : dc + 1 ≤ R.cells) (hslots : ds + N ≤ R.slots)
    (kk : ∀ q : Nat, h q = none → S.heap.size ≤ q → jm_W p l e R s m args below meth c S D cl Q nL (pc + 3) lv (.ref q :: rest) (jm_up h q (.inr (ci, fs))) (dc + 1) (ds + N)) : jm_W p l e R s m args below meth c S D cl Q nL pc lv rest h dc ds := by
  intro H ls locs hl hr hS
  obtain ⟨C, T, ty, hc, hin, hty, hfs, w1, w2, w3⟩ := hf
  refine va_new X.1 X.2.1 X.2.2.2.2.1 hin ty hty X.2.2.2.1 (X.2.2.2.2.1 _ w1) (X.2.2.2.2.1 _ w2) (X.2.2.2.2.1 _ w3) X.2.2.2.2.2.1 (jm_P hr) (jm_D hr) hS (jm_A X) hc hfs hcells hslots hd (fun q H1 hP1 hD1 hS1 => ?_)
  obtain ⟨h1, h2, h3⟩ := jm_app hr hP1 hD1
  exact kk q h2 h3 H1 ls locs hl h1 hS1
theorem jm_newa (X : jm_cx p s m args c S D cl tys G cc nL own) {atype : ArrayType} {ty : FieldType} {t0 N : Nat} {cA : ClassId} {n : Int32} {a0 : vp_A} (hd : decode cc pc = .ok (.newarray atype, 2)) (hw : Cond.arrayClass (newarray.typeOf atype) ∈ G) (hty : newarray.typeOf atype = ty) (ht : tys[t0]? = some (cA, ty)) (ha : ∀ cA : ClassId, vp_cell cA a0 = arrV cA N (fun _ => defaultValue ty)) (hn : ¬ n < 0) (hN : n.toNatClampNeg = N) (hb : N * componentBytes ty ≤ 536870912) (hcells : dc + 1 ≤ R.cells) (hslots : ds + N ≤ R.slots)
    (kk : ∀ q : Nat, h q = none → S.heap.size ≤ q → jm_W p l e R s m args below meth c S D cl Q nL (pc + 2) lv (.ref q :: rest) (jm_up h q (.inl (cA, a0))) (dc + 1) (ds + N)) : jm_W p l e R s m args below meth c S D cl Q nL pc lv (.int n :: rest) h dc ds := by
  intro H ls locs hl hr hS
  refine va_newa X.1 X.2.1 (X.2.2.2.2.1 _ hw) hty X.2.2.2.2.2.1 (jm_P hr) (jm_D hr) hS (jm_A X) ha hn hN hb hcells hslots hd (fun q cA1 H1 hK1 hP1 hD1 hS1 => ?_)
  have e1 := (hK1.2 tys.length (cA1, ty) (by simp)).2
  have e2 := (X.2.2.2.2.2.1.2 t0 _ ht).2
  have e3 : cA1 = cA := by
    subst hty
    cases atype <;> exact Option.some.inj (e1.symm.trans e2)
  subst e3
  obtain ⟨h1, h2, h3⟩ := jm_app hr hP1 hD1
  exact kk q h2 h3 H1 ls locs hl h1 hS1
theorem jm_newq (X : jm_cx p s m args c S D cl tys G cc nL own) {C : String} {index t0 N : Nat} {cA : ClassId} {n : Int32} (hd : decode cc pc = .ok (.anewarray index, 3)) (hw : Cond.classLink own index C ∈ G) (hv : Cond.arrayOver (.object C) ∈ G) (ht : tys[t0]? = some (cA, .object C)) (hn : ¬ n < 0) (hN : n.toNatClampNeg = N) (hb : N * 4 ≤ 536870912) (hcells : dc + 1 ≤ R.cells) (hslots : ds + N ≤ R.slots)
    (kk : ∀ q : Nat, h q = none → S.heap.size ≤ q → jm_W p l e R s m args below meth c S D cl Q nL (pc + 3) lv (.ref q :: rest) (jm_up h q (.inl (cA, N, .inr (.inr (.inr (.inr (fun _ => none))))))) (dc + 1) (ds + N)) : jm_W p l e R s m args below meth c S D cl Q nL pc lv (.int n :: rest) h dc ds := by
  intro H ls locs hl hr hS
  refine va_newq X.1 X.2.1 X.2.2.2.1 (X.2.2.2.2.1 _ hw) (va_AO.of (X.2.2.2.2.1 _ hv)) X.2.2.2.2.2.1 (jm_P hr) (jm_D hr) hS (jm_A X) hn hN hb hcells hslots hd (fun q cA1 H1 hK1 hP1 hD1 hS1 => ?_)
  obtain ⟨_, _, _, _, _, e1⟩ := (hK1.2 tys.length (cA1, .object C) (by simp)).2
  obtain ⟨_, _, _, _, _, e2⟩ := (X.2.2.2.2.2.1.2 t0 _ ht).2
  have e3 : cA1 = cA := Option.some.inj (e1.symm.trans e2)
  subst e3
  obtain ⟨h1, h2, h3⟩ := jm_app hr hP1 hD1
  exact kk q h2 h3 H1 ls locs hl h1 hS1
end JM2
end
section
section JM3
variable {p : Program} {l : Launch} {e : Env} {R : Room} {s : State} {m : MethodId} {args : Array Value} {below : List Frame} {meth : Method} {c : Code} {Q : State → Prop}
variable {S : State} {D : va_G} {cl : List vw_C} {tys : List (ClassId × FieldType)} {G : List Cond} {cc : ByteArray} {nL pc dc ds : Nat} {own : String} {lv : List (Nat × Value)} {rest : List Value} {h : jm_H}
def jm_Qc (S : State) (D : va_G) (cl : List vw_C) (Po : Outcome → jm_H → Prop) (mc ms : Nat) (st : State) (o : Outcome) (t : State) : Prop :=
  (∃ h1, Po o h1 ∧ jm_ld D cl S.heap.size h1 t.heap) ∧ va_F (fun q => S.heap.size ≤ q) st t ∧ st.WarmedH t.vm ∧ ∃ L : List Loc, st.sameButNew ({ t with vm := st.vm } : State) L mc ms ∧ ∀ q ∈ L, S.heap.size ≤ q.base
def jm_Q (S : State) (D : va_G) (cl : List vw_C) (below : List Frame) (s : State) (Po : Outcome → jm_H → Prop) (mc ms : Nat) : State → Prop := fun t =>
  ∃ o, t.status = .running ∧ Ended t below o ∧ jm_Qc S D cl Po mc ms s o t
def jm_M (l : Launch) (S : State) (D : va_G) (cl : List vw_C) (y : MethodName) (wc : Cond) (rm : Room) (As : List Value) (h : jm_H) (Po : Outcome → jm_H → Prop) (mc ms : Nat) : Prop :=
  MetFree l y (headSpec [wc] rm) (fun a U => a = As.toArray ∧ jm_ev S U ∧ jm_ld D cl S.heap.size h U.heap) (fun _ _ _ _ _ => True) (fun _ st o t => jm_Qc S D cl Po mc ms st o t)
theorem jm_en_w (E : jm_en S D cl tys G) {U : State} (hU : S.WarmedH U.vm) (a : Array Value) : ∀ w ∈ G, w.before a U = true := fun w hw => by
  obtain ⟨⟨a0, h0⟩, hg, -⟩ := E
  rcases hg w hw with h1 | ⟨a1, i, b, n, d, h1, rfl⟩ | ⟨a1, i, x, h1, rfl⟩
  · exact word_at hU h1 (h0 w hw)
  · exact va_Nw.use rfl (va_Nw.warmF hU (va_Nw.of rfl (h0 _ hw)))
  · exact va_Nw.use rfl (va_Nw.warmM hU (va_Nw.of rfl (h0 _ hw)))
theorem jm_ofW {y : MethodName} {maxL : Nat} {ret : Option FieldType} {rm : Room} {As : List Value} {Po : Outcome → jm_H → Prop} {mc ms : Nat} (E : jm_en S D cl tys G) (hy : plainName y.cls = true) (hL : (lg_sl As).length ≤ maxL)
    (body : ∀ (p : Program) (e : Env) (s : State) (m : MethodId) (below : List Frame) (meth : Method) (c : Code), jm_cx p s m As.toArray c S D cl tys G cc maxL y.cls → meth.sig.returnType = ret → meth.locks = false → meth.name = y.name → c.exceptionTable.isEmpty = true → l.admits e →
      jm_W p l e rm s m As.toArray below meth c S D cl (jm_Q S D cl below s Po mc ms) maxL 0 (lv_args 0 As) [] h 0 0) : jm_M l S D cl y (Cond.code y cc maxL ret) rm As h Po mc ms := by
  refine MetFree.of_bodyS (code := cc) (maxLocals := maxL) (ret := ret) hy ?_ ?_
  · intro args s m hp hn
    obtain ⟨meth, c, h1, h2, h3, h4, h5, h6, -, -⟩ := Cond.code_spec hn (atoms_spec (ws := [Cond.code y cc maxL ret]) hp _ List.mem_cons_self)
    exact ⟨meth, c, h1, h2, h3, h4, h5, h6⟩
  · intro p e s m args below meth c s₁ B hml hP _
    obtain ⟨rfl, hev, hld⟩ := hP
    have hh0 : s₁.heap = s.heap := by rw [B.state]; rfl
    have hcode := atoms_spec (ws := [Cond.code y cc maxL ret]) B.pre _ List.mem_cons_self
    obtain ⟨meth', c', q1, q2, -, -, -, -, q7, -⟩ := Cond.code_spec B.named hcode
    have X := Stand.of_body B
    have e1 : meth' = meth := Option.some.inj (q1.symm.trans B.method)
    subst e1
    have e2 : c' = c := Option.some.inj (q2.symm.trans X.code)
    subst e2
    have hl := lv_entry As (n := maxL) hL
    have hw := body p e s m below meth' c' ⟨B.exec, B.bytes, hml, findClass_of_methodNamed B.named, jm_en_w E hev.1 _, va_K.moved hev.1.alike E.2.2, hev, E⟩ B.returns B.notSynchronized (name_of_methodNamed B.named B.method).1 q7 B.admits s.heap _ [] hl hld va_S.rf
    rw [← lg_entry_eq] at hw
    obtain ⟨t, a1, o, b1, b2, b3⟩ := hw s₁ hh0 X
    exact ⟨t, o, a1, b1, b2, b3⟩
theorem jm_mono {Q1 Q2 : State → Prop} {H : Heap} {locs : List Loc} {g : JFrame} (k : W p l e R s m args below meth c H locs dc ds Q1 g) (hq : ∀ t, Q1 t → Q2 t) : W p l e R s m args below meth c H locs dc ds Q2 g := fun T hT X => by
  obtain ⟨t, a, b⟩ := k T hT X
  exact ⟨t, a, hq t b⟩
theorem jm_wid {h : jm_H} {st : List Value} {k n : Nat} (h1 : dc ≤ k) (h2 : ds ≤ n) (kk : jm_W p l e R s m args below meth c S D cl Q nL pc lv st h k n) : jm_W p l e R s m args below meth c S D cl Q nL pc lv st h dc ds := fun H ls locs hl hr hS => W.widen h1 h2 (kk H ls locs hl hr hS)
theorem jm_fin {Po : Outcome → jm_H → Prop} {o : Outcome} {H : Heap} {locs : List Loc} (hP : Po o h) (hr : jm_ld D cl S.heap.size h H) (hS : va_S (fun q => S.heap.size ≤ q) s.heap H locs) : ∀ t, MQ below (fun _ _ o1 t => o1 = o ∧ t.heap = H) args s dc ds (fun q => S.heap.size ≤ q) t → jm_Q S D cl below s Po dc ds t := by
  rintro t ⟨o1, r1, r2, ⟨rfl, r3⟩, L, ⟨-, r4, r5⟩, r6⟩
  exact ⟨_, r1, r2, ⟨_, hP, by rw [r3]; exact hr⟩, hS.F r3, r4, L, r5, r6⟩
theorem jm_iret {Po : Outcome → jm_H → Prop} (X : jm_cx p s m args c S D cl tys G cc nL own) {v : Int32} (hr : meth.sig.returnType = some .int) (hk : meth.locks = false) (hd : decode cc pc = .ok (.ireturn, 1)) (hP : Po (.returned (some (.int v))) h) : jm_W p l e R s m args below meth c S D cl (jm_Q S D cl below s Po dc ds) nL pc lv [.int v] h dc ds := fun H ls locs hl hld hS =>
  jm_mono (W.iret (Qc := fun _ _ o1 t => o1 = .returned (some (.int v)) ∧ t.heap = H) (free := fun q => S.heap.size ≤ q) X.1 X.2.1 hr (fun t ht _ => ⟨rfl, ht⟩) hS.2.2 hd hk) (jm_fin hP hld hS)
theorem jm_zret {Po : Outcome → jm_H → Prop} (X : jm_cx p s m args c S D cl tys G cc nL own) {v : Int32} {ty : FieldType} (hr : meth.sig.returnType = some ty) (hn : narrow ty (.int v) = .int v) (hk : meth.locks = false) (hd : decode cc pc = .ok (.ireturn, 1)) (hP : Po (.returned (some (.int v))) h) : jm_W p l e R s m args below meth c S D cl (jm_Q S D cl below s Po dc ds) nL pc lv [.int v] h dc ds := fun H ls locs hl hld hS =>
  jm_mono (W.zret (Qc := fun _ _ o1 t => o1 = .returned (some (.int v)) ∧ t.heap = H) (free := fun q => S.heap.size ≤ q) X.1 X.2.1 hr hn (fun t ht _ => ⟨rfl, ht⟩) hS.2.2 hd hk) (jm_fin hP hld hS)
theorem jm_lret {Po : Outcome → jm_H → Prop} (X : jm_cx p s m args c S D cl tys G cc nL own) {v : Int64} (hr : meth.sig.returnType = some .long) (hk : meth.locks = false) (hd : decode cc pc = .ok (.lreturn, 1)) (hP : Po (.returned (some (.long v))) h) : jm_W p l e R s m args below meth c S D cl (jm_Q S D cl below s Po dc ds) nL pc lv [.long v] h dc ds := fun H ls locs hl hld hS =>
  jm_mono (W.lret (Qc := fun _ _ o1 t => o1 = .returned (some (.long v)) ∧ t.heap = H) (free := fun q => S.heap.size ≤ q) X.1 X.2.1 hr (fun t ht _ => ⟨rfl, ht⟩) hS.2.2 hd hk) (jm_fin hP hld hS)
theorem jm_vret {Po : Outcome → jm_H → Prop} (X : jm_cx p s m args c S D cl tys G cc nL own) (hr : meth.sig.returnType = none) (hk : meth.locks = false) (hd : decode cc pc = .ok (.return_, 1)) (hP : Po (.returned none) h) : jm_W p l e R s m args below meth c S D cl (jm_Q S D cl below s Po dc ds) nL pc lv [] h dc ds := fun H ls locs hl hld hS =>
  jm_mono (W.vret (Qc := fun _ _ o1 t => o1 = .returned none ∧ t.heap = H) (free := fun q => S.heap.size ≤ q) X.1 X.2.1 hr (fun t ht _ => ⟨rfl, ht⟩) hS.2.2 hd hk) (jm_fin hP hld hS)
theorem jm_aret {Po : Outcome → jm_H → Prop} (X : jm_cx p s m args c S D cl tys G cc nL own) {v : Value} {rt : FieldType} (hr : meth.sig.returnType = some rt) (hrt : (∃ n, rt = .object n) ∨ ∃ t, rt = .array t) (hv : v = .null ∨ ∃ a, v = .ref a) (hk : meth.locks = false) (hd : decode cc pc = .ok (.areturn, 1)) (hP : Po (.returned (some v)) h) : jm_W p l e R s m args below meth c S D cl (jm_Q S D cl below s Po dc ds) nL pc lv [v] h dc ds := fun H ls locs hl hld hS =>
  jm_mono (W.aret (Qc := fun _ _ o1 t => o1 = .returned (some v) ∧ t.heap = H) (free := fun q => S.heap.size ≤ q) X.1 X.2.1 hr hrt hv (fun t ht _ => ⟨rfl, ht⟩) hS.2.2 hd hk) (jm_fin hP hld hS)
end JM3
section JM4
variable {p : Program} {l : Launch} {e : Env} {R : Room} {s : State} {m : MethodId} {args : Array Value} {below : List Frame} {meth : Method} {c : Code} {Q : State → Prop}
variable {S : State} {D : va_G} {cl : List vw_C} {tys : List (ClassId × FieldType)} {G : List Cond} {cc : ByteArray} {nL pc dc ds : Nat} {own : String} {lv : List (Nat × Value)} {rest st : List Value} {h : jm_H}
def jm_fm (y : MethodName) (wc : Cond) (maxL : Nat) : Prop := (∃ b ret, wc = .code y b maxL ret) ∨ ∃ b ret hh, wc = .codeWith y b maxL ret hh
theorem jm_cod {y : MethodName} {wc : Cond} {maxL : Nat} {a : Array Value} {U : State} (hf : jm_fm y wc maxL) (hw : wc.before a U = true) : ∃ (mk : MethodId) (methM : Method) (cM : Code), U.methodNamed? y = some mk ∧ U.vm.method? mk = some methM ∧ methM.code = some cM ∧ cM.maxLocals = maxL ∧ parseMethodDescriptor y.desc = some methM.sig := by
  rcases hf with ⟨b, ret, rfl⟩ | ⟨b, ret, hh, rfl⟩
  · obtain ⟨mk, hn⟩ := Cond.code_named hw
    obtain ⟨methM, cM, h1, h2, -, h4, -, -, -, h8⟩ := Cond.code_spec hn hw
    exact ⟨mk, methM, cM, hn, h1, h2, h4, h8⟩
  · obtain ⟨mk, methM, cM, hn, h1, h2, -, h4, -, -, -, h8⟩ := Cond.codeWith_spec hw
    exact ⟨mk, methM, cM, hn, h1, h2, h4, h8⟩
def jm_to (g : JFrame) (len : Nat) (T1 : State) : Outcome → State
  | .returned v => T1.setTop { g with pc := g.pc + len, stack := v.toList ++ g.stack }
  | .threw q => (T1.setTop g).pushFrame (.throwing q)
theorem jm_site {T : State} {locs : List Loc} (X : Stand p l e R s m args below meth c T locs dc ds) {g : JFrame} (hg : g.method = m) (hsize : g.locals.size = c.maxLocals) {ig : Instr} {len : Nat} (hdg : decode c.code g.pc = .ok (ig, len)) (hW : 2 * g.monitorRoom + (g.stack.map fun v => v.category).sum ≤ 8)
    {y : MethodName} {wc : Cond} {rm : Room} {As : List Value} {Po : Outcome → jm_H → Prop} {mc ms maxL : Nat} {mk : MethodId} {methM : Method} {cM : Code} {kM : Class} (hn : T.methodNamed? y = some mk) (hmM : T.vm.method? mk = some methM) (hcM : methM.code = some cM) (hlM : cM.maxLocals = maxL) (hkM : T.vm.classes[mk.cls]? = some kM) (hiM : kM.init = .initialized)
    (hM : jm_M l S D cl y wc rm As h Po mc ms) (hwc : wc.before As.toArray T = true) (hR : rm.frames + 1 ≤ R.frames ∧ 8 + (maxL + 11) + rm.locals ≤ R.locals) (hrm : rm.cells = mc ∧ rm.slots = ms) (hcs : dc + mc ≤ R.cells ∧ ds + ms ≤ R.slots) (hev : jm_ev S T) (hld : jm_ld D cl S.heap.size h T.heap) :
    ∃ (o : Outcome) (h1 : jm_H) (T1 : State) (L : List Loc), Po o h1 ∧ jm_ld D cl S.heap.size h1 T1.heap ∧ T.heap.size ≤ T1.heap.size ∧ (∀ q : Nat, q < T.heap.size → ¬ S.heap.size ≤ q → T1.heap[q]? = T.heap[q]?) ∧ (∀ q ∈ L, S.heap.size ≤ q.base) ∧ Stand p l e R s m args below meth c T1 (locs ++ L) (dc + mc) (ds + ms) ∧
      Steps p.tables e below (doInvoke e (T.setTop g) [] mk As.toArray).1 (jm_to g len T1 o) := by
  have h' : At T g.method c below := by rw [hg]; exact X.here
  have happ : (headSpec [wc] rm).appliesLoose y e.platform (T.calling g mk As.toArray) = true := by
    refine Spec.appliesLoose_calling (g := g) h' hdg hn hkM hiM (X.room_calling (g := g) (R' := (headSpec [wc] rm).room) hsize hmM hcM hR.1 ?_ ?_ ?_) (atoms_intro fun w hw => ?_)
    · show 2 * g.monitorRoom + (g.stack.map fun v => v.category).sum + (cM.maxLocals + 11) + rm.locals ≤ R.locals
      rw [hlM]; have := hR.2; omega
    · show dc + rm.cells ≤ R.cells
      rw [hrm.1]; exact hcs.1
    · show ds + rm.slots ≤ R.slots
      rw [hrm.2]; exact hcs.2
    · rw [List.mem_singleton.mp hw]; exact hwc
  have hfr : (T.setTop g).frames = [.java g] ++ below := by rw [State.frames_setTop' g X.here.top, X.tail]; rfl
  obtain ⟨o, s₂, hst, -, hend, hq⟩ := Steps.callFree hM p X.admits X.cas X.clock (acts := []) hfr happ ⟨rfl, hev, hld⟩ trivial
  rw [State.frames_setTop' g X.here.top, X.tail] at hend
  obtain ⟨⟨h1, hPo, hl1⟩, hF, hW2, L, hsm, hL⟩ := hq
  cases o with
  | returned v =>
    obtain ⟨T', X', hWT, -, e2⟩ := X.outOf hg hdg hend hW2 hsm
    subst e2
    exact ⟨.returned v, h1, T', L, hPo, hl1, hF.1, hF.2, hL, X', hst⟩
  | threw q =>
    obtain ⟨T', X', hWT, -, e2⟩ := X.outOfThrown hg hend hW2 hsm
    subst e2
    exact ⟨.threw q, h1, T', L, hPo, hl1, hF.1, hF.2, hL, X', hst⟩
def jm_K (p : Program) (l : Launch) (e : Env) (R : Room) (s : State) (m : MethodId) (args : Array Value) (below : List Frame) (meth : Method) (c : Code) (S : State) (D : va_G) (cl : List vw_C) (Q : State → Prop) (nL pc : Nat) (lv : List (Nat × Value)) (rest : List Value) (h1 : jm_H) (dc ds : Nat) : Outcome → Prop
  | .returned v => jm_W p l e R s m args below meth c S D cl Q nL (pc + 3) lv (v.toList ++ rest) h1 dc ds
  | .threw q => jm_X p l e R s m args below meth c S D cl Q nL pc lv rest h1 q dc ds
def jm_ci (G : List Cond) (y : MethodName) (wc : Cond) (maxL n : Nat) : Prop :=
  wc ∈ G ∧ jm_fm y wc maxL ∧ Cond.initialized y.cls ∈ G ∧ (y.cls ≠ "java/lang/invoke/MethodHandle" ∧ y.cls ≠ "java/lang/invoke/VarHandle") ∧ (parseMethodDescriptor y.desc).map (fun d => d.parameters.length) = some n
theorem jm_evT (X : jm_cx p s m args c S D cl tys G cc nL own) {T : State} {locs : List Loc} (hS : va_S (fun q => S.heap.size ≤ q) s.heap T.heap locs) (hW : s.WarmedH T.vm) : jm_ev S T := by
  have hev := X.2.2.2.2.2.2.1
  refine ⟨State.WarmedH.trans hev.1 hW, Nat.le_trans hev.2.1 hS.1, fun q hq => ?_⟩
  rw [hS.2.1 q (Nat.lt_of_lt_of_le hq hev.2.1) (Nat.not_le.mpr hq)]
  exact hev.2.2 q hq
theorem jm_cal (X : jm_cx p s m args c S D cl tys G cc nL own) {T T1 : State} {H : Heap} {ls : Array Slot} {locs : List Loc} {ig : Instr} {y : MethodName} {wc : Cond} {rm : Room} {As : List Value} {Po : Outcome → jm_H → Prop} {mc ms maxL n : Nat} {mk : MethodId} (hT : T1.heap = H) (hl : lv_has ls nL lv) (hr : jm_ld D cl S.heap.size h H) (hS : va_S (fun q => S.heap.size ≤ q) s.heap H locs)
    (Y1 : Stand p l e R s m args below meth c T1 locs dc ds) (hmk : s.methodNamed? y = some mk) (hst : ∀ target, (∀ acts, Steps p.tables e below (doInvoke e (T1.setTop (F0 m pc ls rest)) acts mk As.toArray).1 target) → Steps p.tables e below (T.setTop (F0 m pc ls st)) target)
    (hd : decode cc pc = .ok (ig, 3)) (hM : jm_M l S D cl y wc rm As h Po mc ms) (hci : jm_ci G y wc maxL n) (hrest : (rest.map fun v => v.category).sum ≤ 8) (hR : rm.frames + 1 ≤ R.frames ∧ 8 + (maxL + 11) + rm.locals ≤ R.locals) (hrm : rm.cells = mc ∧ rm.slots = ms) (hcs : dc + mc ≤ R.cells ∧ ds + ms ≤ R.slots)
    (k : ∀ o h1, Po o h1 → jm_K p l e R s m args below meth c S D cl Q nL pc lv rest h1 (dc + mc) (ds + ms) o) : ∃ t, Steps p.tables e below (T.setTop (F0 m pc ls st)) t ∧ Q t := by
  subst hT
  have hev := jm_evT X hS Y1.warmed
  have hW1 := jm_en_w X.2.2.2.2.2.2.2 hev.1 As.toArray
  obtain ⟨mk', methM, cM, hn, hmM, hcM, hlM, -⟩ := jm_cod hci.2.1 (hW1 _ hci.1)
  have e1 : mk' = mk := Option.some.inj (hn.symm.trans (Y1.named hmk))
  subst e1
  obtain ⟨kM, hkM, -⟩ := className_of_methodNamed hn
  have hiM : kM.init = .initialized := Cond.initialized_spec (findClass_of_methodNamed hn) hkM (hW1 _ hci.2.2.1)
  obtain ⟨o, h1, T2, L, hPo, hl1, hz, hk, hL, Y2, st2⟩ := jm_site (g := F0 m pc ls rest) Y1 rfl (hl.1.trans X.2.2.1.symm) (by rw [X.2.1]; exact hd) (lv_room hrest) hn hmM hcM hlM hkM hiM hM (hW1 _ hci.1) hR hrm hcs hev hr
  have hS2 : va_S (fun q => S.heap.size ≤ q) s.heap T2.heap (locs ++ L) := ⟨Nat.le_trans hS.1 hz, fun q a b => (hk q (Nat.lt_of_lt_of_le a hS.1) b).trans (hS.2.1 q a b), fun q hq => by
    rcases List.mem_append.mp hq with a | a
    · exact hS.2.2 q a
    · exact hL q a⟩
  have hk2 := k o h1 hPo
  have st3 : Steps p.tables e below (T.setTop (F0 m pc ls st)) (jm_to (F0 m pc ls rest) 3 T2 o) := hst _ fun acts => by rw [doInvoke_state]; exact st2
  cases o with
  | returned v =>
    obtain ⟨t, a1, b1⟩ := hk2 T2.heap ls (locs ++ L) hl hl1 hS2 T2 rfl Y2
    exact ⟨t, st3.trans a1, b1⟩
  | threw q =>
    obtain ⟨t, a1, b1⟩ := hk2 T2.heap ls (locs ++ L) hl hl1 hS2 T2 rfl Y2
    exact ⟨t, st3.trans a1, b1⟩
theorem jm_callS (X : jm_cx p s m args c S D cl tys G cc nL own) {index : Nat} {y : MethodName} {wc : Cond} {rm : Room} {As : List Value} {Po : Outcome → jm_H → Prop} {mc ms maxL : Nat} (hd : decode cc pc = .ok (.invokestatic index, 3)) (hM : jm_M l S D cl y wc rm As h Po mc ms) (hci : jm_ci G y wc maxL As.length) (hlk : Cond.methodLink own index y ∈ G ∨ ∃ host, Cond.methodLinkNest own index y host ∈ G) (hsc : Cond.static y ∈ G) (hst : st = As.reverse ++ rest) (hrest : (rest.map fun v => v.category).sum ≤ 8) (hR : rm.frames + 1 ≤ R.frames ∧ 8 + (maxL + 11) + rm.locals ≤ R.locals) (hrm : rm.cells = mc ∧ rm.slots = ms) (hcs : dc + mc ≤ R.cells ∧ ds + ms ≤ R.slots)
    (k : ∀ o h1, Po o h1 → jm_K p l e R s m args below meth c S D cl Q nL pc lv rest h1 (dc + mc) (ds + ms) o) : jm_W p l e R s m args below meth c S D cl Q nL pc lv st h dc ds := by
  intro H ls locs hl hr hS T hT Y
  have hts := X.2.2.2.2.1
  obtain ⟨mk, methM, cM, hn, hmM, hcM, hlM, hsig⟩ := jm_cod hci.2.1 (hts _ hci.1)
  obtain ⟨kM, hkM, -⟩ := className_of_methodNamed hn
  have hiM : kM.init = .initialized := Cond.initialized_spec (findClass_of_methodNamed hn) hkM (hts _ hci.2.2.1)
  have hlen : As.length = methM.sig.parameters.length := by
    have h2 := hci.2.2.2.2
    rw [hsig] at h2
    exact (Option.some.inj h2).symm
  have key : ∃ vm', Stand p l e R s m args below meth c (T.setVm vm') locs dc ds ∧ ∀ target, (∀ acts, Steps p.tables e below (doInvoke e ((T.setVm vm').setTop (F0 m pc ls rest)) acts mk As.toArray).1 target) → Steps p.tables e below (T.setTop (F0 m pc ls st)) target := by
    rcases hlk with hw | ⟨host, hw⟩
    · exact Y.invokestatic X.1 X.2.2.2.1 (hts _ hw) hn hmM (Cond.static_spec hn hmM (hts _ hsc)) hkM hiM hci.2.2.2.1 (g := F0 m pc ls st) rfl hlen hst (by rw [X.2.1]; exact hd)
    · exact Y.invokestaticNest X.1 X.2.2.2.1 (hts _ hw) hn hmM (Cond.static_spec hn hmM (hts _ hsc)) hkM hiM hci.2.2.2.1 (g := F0 m pc ls st) rfl hlen hst (by rw [X.2.1]; exact hd)
  obtain ⟨vm', Y1, st1⟩ := key
  exact jm_cal X (T1 := T.setVm vm') hT hl hr hS Y1 hn st1 hd hM hci hrest hR hrm hcs k
theorem jm_callV (X : jm_cx p s m args c S D cl tys G cc nL own) {index ci b : Nat} {y : MethodName} {wc : Cond} {rm : Room} {As : List Value} {Po : Outcome → jm_H → Prop} {mc ms maxL : Nat} {fs : List Value} {T0 : u_T} {N : Nat} (hd : decode cc pc = .ok (.invokevirtual index, 3)) (hM : jm_M l S D cl y wc rm (.ref b :: As) h Po mc ms) (hci : jm_ci G y wc maxL As.length) (hlk : Cond.methodLink own index y ∈ G ∨ ∃ host, Cond.methodLinkNest own index y host ∈ G) (hin : Cond.instanceMethod y ∈ G) (hse : Cond.selects y.cls y y ∈ G) (hb : h b = some (.inr (ci, fs))) (hc : cl[ci]? = some (y.cls, T0, N)) (hst : st = As.reverse ++ .ref b :: rest) (hrest : (rest.map fun v => v.category).sum ≤ 8) (hR : rm.frames + 1 ≤ R.frames ∧ 8 + (maxL + 11) + rm.locals ≤ R.locals) (hrm : rm.cells = mc ∧ rm.slots = ms) (hcs : dc + mc ≤ R.cells ∧ ds + ms ≤ R.slots)
    (k : ∀ o h1, Po o h1 → jm_K p l e R s m args below meth c S D cl Q nL pc lv rest h1 (dc + mc) (ds + ms) o) : jm_W p l e R s m args below meth c S D cl Q nL pc lv st h dc ds := by
  intro H ls locs hl hr hS T hT Y
  have hts := X.2.2.2.2.1
  obtain ⟨mk, methM, cM, hn, hmM, hcM, hlM, hsig⟩ := jm_cod hci.2.1 (hts _ hci.1)
  obtain ⟨mk2, methM2, hn2, hmM2, hstM, habM⟩ := Cond.instanceMethod_spec (hts _ hin)
  cases hn.symm.trans hn2
  cases hmM.symm.trans hmM2
  have hlen : As.length = methM.sig.parameters.length := by
    have h2 := hci.2.2.2.2
    rw [hsig] at h2
    exact (Option.some.inj h2).symm
  obtain ⟨q0, hq⟩ := jm_place hr hb
  obtain ⟨cellB, hcB, hoB, hclB⟩ := va_recv X.2.2.2.2.2.1 (jm_P hr) hc hq
  obtain ⟨c2, r2, m2, q1, q2, q3, q4, kP, hkP, hkPi⟩ := Cond.selects_spec (hts _ hse)
  cases hclB.symm.trans q1
  cases (State.methodFound?_of_named hn hci.2.2.2.1).symm.trans q2
  cases hn.symm.trans q3
  have hselP : selectMethod e.platform s.vm cellB.cls mk = .method mk := by rw [Launch.admits_selectMethod Y.admits]; exact q4
  have key : ∃ vm', Stand p l e R s m args below meth c (T.setVm vm') locs dc ds ∧ ∀ target, (∀ acts, Steps p.tables e below (doInvoke e ((T.setVm vm').setTop (F0 m pc ls rest)) acts mk (Value.ref b :: As).toArray).1 target) → Steps p.tables e below (T.setTop (F0 m pc ls st)) target := by
    rcases hlk with hw | ⟨host, hw⟩
    · exact Y.invokevirtual X.1 X.2.2.2.1 (hts _ hw) hn hmM hstM hkP hkPi hci.2.2.2.1 (a := b) (cell := cellB) (by rw [hT]; exact hcB) (fun z hz => by rw [hz] at hoB; cases hoB) hselP hmM habM hkP hkPi (g := F0 m pc ls st) rfl (argsL := As) (rest := rest) hlen hst (by rw [X.2.1]; exact hd)
    · exact Y.invokevirtualNest X.1 X.2.2.2.1 (hts _ hw) hn hmM hstM hkP hkPi hci.2.2.2.1 (a := b) (cell := cellB) (by rw [hT]; exact hcB) (fun z hz => by rw [hz] at hoB; cases hoB) hselP hmM habM hkP hkPi (g := F0 m pc ls st) rfl (argsL := As) (rest := rest) hlen hst (by rw [X.2.1]; exact hd)
  obtain ⟨vm', Y1, st1⟩ := key
  exact jm_cal X (T1 := T.setVm vm') (As := .ref b :: As) hT hl hr hS Y1 hn st1 hd hM hci hrest hR hrm hcs k
theorem jm_callI (X : jm_cx p s m args c S D cl tys G cc nL own) {index b : Nat} {y : MethodName} {bytes : ByteArray} {rm : Room} {As : List Value} {Po : Outcome → jm_H → Prop} {mc ms maxL : Nat} (hd : decode cc pc = .ok (.invokespecial index, 3)) (hM : jm_M l S D cl y (.code y bytes maxL none) rm (.ref b :: As) h Po mc ms) (hci : jm_ci G y (.code y bytes maxL none) maxL As.length) (hlk : Cond.methodLink own index y ∈ G ∨ ∃ host, Cond.methodLinkNest own index y host ∈ G) (hin : Cond.instanceMethod y ∈ G) (hy1 : y.name = "<init>") (hst : st = As.reverse ++ .ref b :: rest) (hrest : (rest.map fun v => v.category).sum ≤ 8) (hR : rm.frames + 1 ≤ R.frames ∧ 8 + (maxL + 11) + rm.locals ≤ R.locals) (hrm : rm.cells = mc ∧ rm.slots = ms) (hcs : dc + mc ≤ R.cells ∧ ds + ms ≤ R.slots)
    (k : ∀ o h1, Po o h1 → jm_K p l e R s m args below meth c S D cl Q nL pc lv rest h1 (dc + mc) (ds + ms) o) : jm_W p l e R s m args below meth c S D cl Q nL pc lv st h dc ds := by
  intro H ls locs hl hr hS T hT Y
  have hts := X.2.2.2.2.1
  have hpl : e.platform.magicAccessors = ({} : Platform).magicAccessors := by rw [Y.admits.platform]
  have hlen : ∀ sig, parseMethodDescriptor y.desc = some sig → As.length = sig.parameters.length := fun sig hs => by
    have h2 := hci.2.2.2.2
    rw [hs] at h2
    exact (Option.some.inj h2).symm
  have key : ∃ mk vm', s.methodNamed? y = some mk ∧ s.WarmedH vm' ∧ ∀ target, (∀ acts, Steps p.tables e below (doInvoke e ((T.setVm vm').setTop (F0 m pc ls rest)) acts mk (Value.ref b :: As).toArray).1 target) → Steps p.tables e below (T.setTop (F0 m pc ls st)) target := by
    rcases hlk with hw | ⟨host, hw⟩
    · obtain ⟨mk, _, _, _, vm', hn, -, -, -, -, -, -, -, hW, hs⟩ := Steps.initColdArgs (e := e) Y.here X.1 Y.warmed hpl X.2.2.2.1 hy1 hci.2.2.2.1 (hts _ hw) (hts _ hin) (hts _ hci.1) (f := F0 m pc ls st) rfl hlen hst (by rw [X.2.1]; exact hd)
      exact ⟨mk, vm', hn, hW, hs⟩
    · obtain ⟨mk, _, _, _, vm', hn, -, -, -, -, -, -, -, hW, hs⟩ := Steps.initColdArgsNest (e := e) Y.here X.1 Y.warmed hpl X.2.2.2.1 hy1 hci.2.2.2.1 (hts _ hw) (hts _ hin) (hts _ hci.1) (f := F0 m pc ls st) rfl hlen hst (by rw [X.2.1]; exact hd)
      exact ⟨mk, vm', hn, hW, hs⟩
  obtain ⟨mk, vm', hn, hW, st1⟩ := key
  exact jm_cal X (T1 := T.setVm vm') (As := .ref b :: As) hT hl hr hS (Y.noted hW) hn st1 hd hM hci hrest hR hrm hcs k
def jm_R (v : Option Value) (h1 : jm_H) : Outcome → jm_H → Prop := fun o h2 => o = .returned v ∧ h2 = h1
theorem jm_k1 {v : Value} {h1 : jm_H} (k : jm_W p l e R s m args below meth c S D cl Q nL (pc + 3) lv (v :: rest) h1 dc ds) : ∀ o h2, jm_R (some v) h1 o h2 → jm_K p l e R s m args below meth c S D cl Q nL pc lv rest h2 dc ds o := by
  rintro o h2 ⟨rfl, rfl⟩
  exact k
theorem jm_k0 {h1 : jm_H} (k : jm_W p l e R s m args below meth c S D cl Q nL (pc + 3) lv rest h1 dc ds) : ∀ o h2, jm_R none h1 o h2 → jm_K p l e R s m args below meth c S D cl Q nL pc lv rest h2 dc ds o := by
  rintro o h2 ⟨rfl, rfl⟩
  exact k
end JM4
section JM5
variable {p : Program} {l : Launch} {e : Env} {R : Room} {s : State} {m : MethodId} {args : Array Value} {below : List Frame} {meth : Method} {c : Code} {Q : State → Prop}
variable {S : State} {D : va_G} {cl : List vw_C} {tys : List (ClassId × FieldType)} {G : List Cond} {cc : ByteArray} {nL pc dc ds : Nat} {own : String} {lv : List (Nat × Value)} {rest st : List Value} {h : jm_H}
theorem jm_rebase {T : State} {locs : List Loc} (X : Stand p l e R s m args below meth c T locs dc ds) (h1 : dc ≤ R.cells) (h2 : ds ≤ R.slots) : Stand p l e { R with cells := R.cells - dc, slots := R.slots - ds } (T.setFrames (.invoking m args :: below)) m args below meth c T [] 0 0 := by
  obtain ⟨g₀, hfr⟩ := X.frames_eq
  have hcur : T.cur < T.threads.size := State.cur_lt_of_frames hfr
  have hf : (T.setFrames (.invoking m args :: below)).frames = .invoking m args :: below := State.frames_setFrames _ hcur
  have hm : (T.setFrames (.invoking m args :: below)).vm.method? m = some meth := X.method'
  have hlo : (T.setFrames (.invoking m args :: below)).localsInUse = s.localsInUse := by
    rw [State.localsInUse_invoking hf hm X.code, State.localsInUse_invoking X.frames X.method X.code]
  have hlim : e.platform.stackLimits (T.setFrames (.invoking m args :: below)).me = e.platform.stackLimits s.me := by rw [State.stackLimits_setFrames, X.limits]
  have hby : (T.setFrames (.invoking m args :: below)).me.stackBytes = s.me.stackBytes := by rw [State.stackBytes_setFrames, X.bytes]
  have hcur2 : (T.setFrames (.invoking m args :: below)).cur < (T.setFrames (.invoking m args :: below)).threads.size := State.cur_lt_of_frames hf
  obtain ⟨t, ht, -⟩ := State.frames_cons hf
  obtain ⟨t0, ht0, -⟩ := State.frames_cons hfr
  refine ⟨X.admits, X.cas, X.clock, hf, ?_, ?_, hm, X.code, X.here, X.tail, State.WarmedH.refl _, ?_, ?_, ?_⟩
  · have hr := X.room
    have a1 := X.heapSize
    have a2 := X.used
    have a3 := X.book
    simp only [State.hasRoom, Bool.and_eq_true, decide_eq_true_eq] at hr ⊢
    rw [hlo, hlim, hby, hf]
    rw [X.frames] at hr
    refine ⟨⟨⟨⟨hr.1.1.1.1, hr.1.1.1.2⟩, ?_⟩, ?_⟩, ?_⟩
    · show T.heap.size + (R.cells - dc) ≤ _
      have := hr.1.1.2
      omega
    · show T.slotsUsed + (R.slots - ds) ≤ _
      have := hr.1.2
      omega
    · exact a3
  · have hv : ∀ x, T.vm.method? x = s.vm.method? x := fun x => X.warmed.alike.method? x
    have hq := X.hears
    have e1 : (T.setFrames (.invoking m args :: below)).hears m below = s.hears m below := by
      cases below with
      | nil => simp [State.hears, State.setFrames, hv]
      | cons f r => cases f <;> simp [State.hears, State.setFrames, State.code?_eq, hv]
    rw [e1]
    exact hq
  · rw [State.stackLimits_setFrames]
  · rw [State.stackBytes_setFrames]
  · have hs := (State.sameButNew.refl (T.setFrames (.invoking m args :: below)) ht).setFrames T.frames hcur2
    rw [State.setFrames_setFrames, State.setFrames_self ht0] at hs
    exact hs
theorem jm_sameOf {s U : State} {L : List Loc} {k n : Nat} (hs : s.sameButNew ({ U with vm := s.vm } : State) [] k n) : s.heap.size ≤ U.heap.size ∧ ∀ q : Nat, q < s.heap.size → U.heap[q]? = s.heap[q]? := by
  obtain ⟨-, h2, -, -, -, h6⟩ := hs
  refine ⟨h2, fun q hq => ?_⟩
  obtain ⟨x, hx⟩ : ∃ x, s.heap[q]? = some x := ⟨s.heap[q], Array.getElem?_eq_getElem hq⟩
  obtain ⟨x', h3, h4, h5, h7⟩ := h6 q x hx
  have h3 : U.heap[q]? = some x' := h3
  have e1 : x'.slots = x.slots := by
    apply Array.ext_getElem?
    intro i
    exact h7 i (by simp)
  rw [h3, hx, h4, e1]
end JM5
end
section
section JM6
def jm_us (h : jm_H) : List (Nat × va_E) → jm_H
  | [] => h
  | (a, x) :: L => jm_up (jm_us h L) a x
theorem jm_us_out {h : jm_H} {L : List (Nat × va_E)} {b : Nat} (hb : b ∉ L.map Prod.fst) : jm_us h L b = h b := by
  induction L with
  | nil => rfl
  | cons q L ih =>
    obtain ⟨a, x⟩ := q
    simp only [List.map_cons, List.mem_cons, not_or] at hb
    show jm_up (jm_us h L) a x b = h b
    rw [jm_up_ne _ _ hb.1]
    exact ih hb.2
theorem jm_us_get {h : jm_H} {L : List (Nat × va_E)} (hnd : (L.map Prod.fst).Nodup) (k : Nat) {a : Nat} {x : va_E} (hk : L[k]? = some (a, x)) : jm_us h L a = some x := by
  induction L generalizing k with
  | nil => simp at hk
  | cons q L ih =>
    obtain ⟨b, y⟩ := q
    simp only [List.map_cons, List.nodup_cons] at hnd
    cases k with
    | zero =>
      simp at hk
      obtain ⟨rfl, rfl⟩ := hk
      exact jm_up_eq _ _ _
    | succ k =>
      have hk : L[k]? = some (a, x) := by simpa using hk
      have hne : a ≠ b := by
        intro e
        subst e
        exact hnd.1 (List.mem_map.mpr ⟨(a, x), List.mem_of_getElem? hk, rfl⟩)
      show jm_up (jm_us h L) b y a = some x
      rw [jm_up_ne _ _ hne]
      exact ih hnd.2 k hk
theorem jm_us_set {h : jm_H} {L L1 : List (Nat × va_E)} (hnd : (L.map Prod.fst).Nodup) (k : Nat) {a : Nat} {x y : va_E} (hk : L[k]? = some (a, x)) (he : L.set k (a, y) = L1) : jm_up (jm_us h L) a y = jm_us h L1 := by
  subst he
  induction L generalizing k with
  | nil => simp at hk
  | cons q L ih =>
    obtain ⟨b, z⟩ := q
    simp only [List.map_cons, List.nodup_cons] at hnd
    cases k with
    | zero =>
      simp at hk
      obtain ⟨rfl, rfl⟩ := hk
      exact jm_up_up _ _ _ _
    | succ k =>
      have hk : L[k]? = some (a, x) := by simpa using hk
      have hne : b ≠ a := by
        intro e
        subst e
        exact hnd.1 (List.mem_map.mpr ⟨(b, x), List.mem_of_getElem? hk, rfl⟩)
      show jm_up (jm_up (jm_us h L) b z) a y = jm_up (jm_us h (L.set k (a, y))) b z
      rw [jm_up_cm _ _ _ hne, ih hnd.2 k hk]
theorem jm_us_id {h : jm_H} {L : List (Nat × va_E)} (hL : ∀ q ∈ L, h q.1 = some q.2) : jm_us h L = h := by
  induction L with
  | nil => rfl
  | cons q L ih =>
    obtain ⟨a, x⟩ := q
    show jm_up (jm_us h L) a x = h
    rw [ih (fun q hq => hL q (List.mem_cons_of_mem _ hq))]
    exact jm_up_id (hL (a, x) List.mem_cons_self)
def jm_wr (L : List (Nat × va_E)) : List (Nat × va_E) → List Nat → List (Nat × va_E)
  | c :: Lc, k :: ks => (jm_wr L Lc ks).set k c
  | _, _ => L
theorem jm_wr_fst {L : List (Nat × va_E)} : ∀ (Lc : List (Nat × va_E)) (ks : List Nat), ks.map (fun k => (L[k]?).map Prod.fst) = Lc.map (fun q => some q.1) → (jm_wr L Lc ks).map Prod.fst = L.map Prod.fst := by
  intro Lc
  induction Lc with
  | nil => intro ks _; simp [jm_wr]
  | cons c Lc ih =>
    intro ks hk
    cases ks with
    | nil => simp [jm_wr]
    | cons k ks =>
      simp only [List.map_cons, List.cons.injEq] at hk
      have ih := ih ks hk.2
      apply List.ext_getElem?
      intro i
      show ((((jm_wr L Lc ks).set k c)).map Prod.fst)[i]? = (L.map Prod.fst)[i]?
      rw [← ih, List.getElem?_map, List.getElem?_map, List.getElem?_set]
      by_cases e : k = i
      · subst e
        have h1 : ((jm_wr L Lc ks).map Prod.fst)[k]? = (L.map Prod.fst)[k]? := by rw [ih]
        rw [List.getElem?_map, List.getElem?_map, hk.1] at h1
        by_cases hl : k < (jm_wr L Lc ks).length
        · rw [List.getElem?_eq_getElem hl] at h1
          simp only [Option.map_some, Option.some.injEq] at h1
          simp [hl, h1]
        · simp [hl]
      · simp [e]
theorem jm_into {h : jm_H} {L Lc L1 : List (Nat × va_E)} (hnd : (L.map Prod.fst).Nodup) (ks : List Nat) (hk : ks.map (fun k => (L[k]?).map Prod.fst) = Lc.map (fun q => some q.1)) (he : jm_wr L Lc ks = L1) : jm_us (jm_us h L) Lc = jm_us h L1 := by
  subst he
  induction Lc generalizing ks with
  | nil => cases ks with
    | nil => rfl
    | cons k ks => simp at hk
  | cons c Lc ih =>
    cases ks with
    | nil => simp at hk
    | cons k ks =>
      obtain ⟨a, x⟩ := c
      simp only [List.map_cons, List.cons.injEq] at hk
      show jm_up (jm_us (jm_us h L) Lc) a x = jm_us h ((jm_wr L Lc ks).set k (a, x))
      rw [ih ks hk.2]
      have h1 := jm_wr_fst Lc ks hk.2
      have h2 : ((jm_wr L Lc ks)[k]?).map Prod.fst = some a := by
        have h3 : ((jm_wr L Lc ks).map Prod.fst)[k]? = (L.map Prod.fst)[k]? := by rw [h1]
        rw [List.getElem?_map, List.getElem?_map] at h3
        rw [h3]; exact hk.1
      obtain ⟨⟨b, z⟩, h4, h5⟩ := Option.map_eq_some_iff.mp h2
      have h5 : b = a := h5
      subst h5
      exact jm_us_set (by rw [h1]; exact hnd) k h4 rfl
theorem jm_pick {l l1 : List Nat} (hnd : l.Nodup) (is : List Nat) (hi : is.Nodup) (he : is.map (fun i => l[i]?) = l1.map some) : l1.Nodup := by
  have hlen : is.length = l1.length := by simpa using congrArg List.length he
  rw [List.nodup_iff_pairwise_ne, List.pairwise_iff_getElem] at *
  intro i j h1 h2 hij e
  have g : ∀ (k : Nat) (hk : k < l1.length) (hk' : k < is.length), l[is[k]]? = some l1[k] := fun k hk hk' => by
    have := congrArg (fun z => z[k]?) he
    simp only [List.getElem?_map] at this
    rw [List.getElem?_eq_getElem hk, List.getElem?_eq_getElem hk'] at this
    simpa using this
  have a1 := g i h1 (by omega)
  have a2 := g j h2 (by omega)
  obtain ⟨b1, b2⟩ := List.getElem?_eq_some_iff.mp a1
  obtain ⟨c1, c2⟩ := List.getElem?_eq_some_iff.mp a2
  have hne := hi i j (by omega) (by omega) hij
  rcases Nat.lt_trichotomy is[i] is[j] with q | q | q
  · exact hnd _ _ b1 c1 q (by rw [b2, c2, e])
  · exact hne q
  · exact hnd _ _ c1 b1 q (by rw [b2, c2, e])
variable {p : Program} {l : Launch} {e : Env} {R : Room} {s : State} {m : MethodId} {args : Array Value} {below : List Frame} {meth : Method} {c : Code} {Q : State → Prop} {S : State} {D : va_G} {cl : List vw_C} {nL pc dc ds : Nat} {lv : List (Nat × Value)} {st : List Value} {h h1 : jm_H}
theorem jm_hq (e1 : h = h1) (k : jm_W p l e R s m args below meth c S D cl Q nL pc lv st h1 dc ds) : jm_W p l e R s m args below meth c S D cl Q nL pc lv st h dc ds := e1 ▸ k
theorem jm_lvs {lv1 : List (Nat × Value)} (ks : List Nat) (he : lv_pick lv ks = lv1) (k : jm_W p l e R s m args below meth c S D cl Q nL pc lv1 st h dc ds) : jm_W p l e R s m args below meth c S D cl Q nL pc lv st h dc ds := fun H ls locs hl hr hS => k H ls locs (lv_sub hl ks he) hr hS
end JM6
end
section
section JM7
variable {p : Program} {l : Launch} {e : Env} {R : Room} {s : State} {m : MethodId} {args : Array Value} {below : List Frame} {meth : Method} {c : Code} {Q : State → Prop}
variable {S : State} {D : va_G} {cl : List vw_C} {tys : List (ClassId × FieldType)} {G : List Cond} {cc : ByteArray} {nL pc dc ds : Nat} {own : String} {lv : List (Nat × Value)} {rest : List Value} {h : jm_H}
theorem jm_lif_eq (X : jm_cx p s m args c S D cl tys G cc nL own) {x y : Int64} {off : Int} {tgt : Nat} (hd : decode cc pc = .ok (.ifCond .eq off, 3)) (ht : (pc : Int) + off = (tgt : Int)) (kt : x = y → jm_W p l e R s m args below meth c S D cl Q nL (tgt) lv (rest) h dc ds) (kf : ¬ x = y → jm_W p l e R s m args below meth c S D cl Q nL (pc + 3) lv (rest) h dc ds) : jm_W p l e R s m args below meth c S D cl Q nL (pc) lv (.int (lg_cmp x y) :: rest) h dc ds := jm_if_eq X hd ht (fun q => kt ((lg_cmp_eq x y).mp q)) (fun q => kf (fun z => q ((lg_cmp_eq x y).mpr z)))
theorem jm_lif_ne (X : jm_cx p s m args c S D cl tys G cc nL own) {x y : Int64} {off : Int} {tgt : Nat} (hd : decode cc pc = .ok (.ifCond .ne off, 3)) (ht : (pc : Int) + off = (tgt : Int)) (kt : ¬ x = y → jm_W p l e R s m args below meth c S D cl Q nL (tgt) lv (rest) h dc ds) (kf : x = y → jm_W p l e R s m args below meth c S D cl Q nL (pc + 3) lv (rest) h dc ds) : jm_W p l e R s m args below meth c S D cl Q nL (pc) lv (.int (lg_cmp x y) :: rest) h dc ds := jm_if_ne X hd ht (fun q => kt (fun z => q ((lg_cmp_eq x y).mpr z))) (fun q => kf ((lg_cmp_eq x y).mp q))
theorem jm_lif_lt (X : jm_cx p s m args c S D cl tys G cc nL own) {x y : Int64} {off : Int} {tgt : Nat} (hd : decode cc pc = .ok (.ifCond .lt off, 3)) (ht : (pc : Int) + off = (tgt : Int)) (kt : x < y → jm_W p l e R s m args below meth c S D cl Q nL (tgt) lv (rest) h dc ds) (kf : ¬ x < y → jm_W p l e R s m args below meth c S D cl Q nL (pc + 3) lv (rest) h dc ds) : jm_W p l e R s m args below meth c S D cl Q nL (pc) lv (.int (lg_cmp x y) :: rest) h dc ds := jm_if_lt X hd ht (fun q => kt ((lg_cmp_lt x y).mp q)) (fun q => kf (fun z => q ((lg_cmp_lt x y).mpr z)))
theorem jm_lif_ge (X : jm_cx p s m args c S D cl tys G cc nL own) {x y : Int64} {off : Int} {tgt : Nat} (hd : decode cc pc = .ok (.ifCond .ge off, 3)) (ht : (pc : Int) + off = (tgt : Int)) (kt : y ≤ x → jm_W p l e R s m args below meth c S D cl Q nL (tgt) lv (rest) h dc ds) (kf : ¬ y ≤ x → jm_W p l e R s m args below meth c S D cl Q nL (pc + 3) lv (rest) h dc ds) : jm_W p l e R s m args below meth c S D cl Q nL (pc) lv (.int (lg_cmp x y) :: rest) h dc ds := jm_if_ge X hd ht (fun q => kt ((lg_cmp_ge x y).mp q)) (fun q => kf (fun z => q ((lg_cmp_ge x y).mpr z)))
theorem jm_lif_gt (X : jm_cx p s m args c S D cl tys G cc nL own) {x y : Int64} {off : Int} {tgt : Nat} (hd : decode cc pc = .ok (.ifCond .gt off, 3)) (ht : (pc : Int) + off = (tgt : Int)) (kt : y < x → jm_W p l e R s m args below meth c S D cl Q nL (tgt) lv (rest) h dc ds) (kf : ¬ y < x → jm_W p l e R s m args below meth c S D cl Q nL (pc + 3) lv (rest) h dc ds) : jm_W p l e R s m args below meth c S D cl Q nL (pc) lv (.int (lg_cmp x y) :: rest) h dc ds := jm_if_gt X hd ht (fun q => kt ((lg_cmp_gt x y).mp q)) (fun q => kf (fun z => q ((lg_cmp_gt x y).mpr z)))
theorem jm_lif_le (X : jm_cx p s m args c S D cl tys G cc nL own) {x y : Int64} {off : Int} {tgt : Nat} (hd : decode cc pc = .ok (.ifCond .le off, 3)) (ht : (pc : Int) + off = (tgt : Int)) (kt : x ≤ y → jm_W p l e R s m args below meth c S D cl Q nL (tgt) lv (rest) h dc ds) (kf : ¬ x ≤ y → jm_W p l e R s m args below meth c S D cl Q nL (pc + 3) lv (rest) h dc ds) : jm_W p l e R s m args below meth c S D cl Q nL (pc) lv (.int (lg_cmp x y) :: rest) h dc ds := jm_if_le X hd ht (fun q => kt ((lg_cmp_le x y).mp q)) (fun q => kf (fun z => q ((lg_cmp_le x y).mpr z)))
theorem jm_tabEq (X : jm_cx p s m args c S D cl tys G cc nL own) {dflt lo hi : Int} {offs : Array Int} {len : Nat} {x k : Int32} {off : Int} {tgt : Nat} (hd : decode cc pc = .ok (.tableswitch dflt lo hi offs, len)) (hx : x = k) (h1 : ¬ k.toInt < lo) (h2 : ¬ hi < k.toInt) (ho : offs[(k.toInt - lo).toNat]? = some off) (ht : (pc : Int) + off = (tgt : Int)) (kk : jm_W p l e R s m args below meth c S D cl Q nL (tgt) lv (rest) h dc ds) : jm_W p l e R s m args below meth c S D cl Q nL (pc) lv (.int x :: rest) h dc ds := by
  subst hx
  exact jm_tabIn X hd h1 h2 ho ht kk
theorem jm_ofWF {y : MethodName} {maxL : Nat} {ret : Option FieldType} {rm : Room} {As : List Value} {Po : Outcome → jm_H → Prop} {mc ms : Nat} (E : jm_en S D cl tys G) (hy : plainFor y = true) (hL : (lg_sl As).length ≤ maxL)
    (body : ∀ (p : Program) (e : Env) (s : State) (m : MethodId) (below : List Frame) (meth : Method) (c : Code), jm_cx p s m As.toArray c S D cl tys G cc maxL y.cls → meth.sig.returnType = ret → meth.locks = false → meth.name = y.name → c.exceptionTable.isEmpty = true → l.admits e →
      jm_W p l e rm s m As.toArray below meth c S D cl (jm_Q S D cl below s Po mc ms) maxL 0 (lv_args 0 As) [] h 0 0) : jm_M l S D cl y (Cond.code y cc maxL ret) rm As h Po mc ms := by
  refine MetFree.of_bodySF (code := cc) (maxLocals := maxL) (ret := ret) hy ?_ ?_
  · intro args s m hp hn
    obtain ⟨meth, c, h1, h2, h3, h4, h5, h6, -, -⟩ := Cond.code_spec hn (atoms_spec (ws := [Cond.code y cc maxL ret]) hp _ List.mem_cons_self)
    exact ⟨meth, c, h1, h2, h3, h4, h5, h6⟩
  · intro p e s m args below meth c s₁ B hml hP _
    obtain ⟨rfl, hev, hld⟩ := hP
    have hh0 : s₁.heap = s.heap := by rw [B.state]; rfl
    have hcode := atoms_spec (ws := [Cond.code y cc maxL ret]) B.pre _ List.mem_cons_self
    obtain ⟨meth', c', q1, q2, -, -, -, -, q7, -⟩ := Cond.code_spec B.named hcode
    have X := Stand.of_body B
    have e1 : meth' = meth := Option.some.inj (q1.symm.trans B.method)
    subst e1
    have e2 : c' = c := Option.some.inj (q2.symm.trans X.code)
    subst e2
    have hl := lv_entry As (n := maxL) hL
    have hw := body p e s m below meth' c' ⟨B.exec, B.bytes, hml, findClass_of_methodNamed B.named, jm_en_w E hev.1 _, va_K.moved hev.1.alike E.2.2, hev, E⟩ B.returns B.notSynchronized (name_of_methodNamed B.named B.method).1 q7 B.admits s.heap _ [] hl hld va_S.rf
    rw [← lg_entry_eq] at hw
    obtain ⟨t, a1, o, b1, b2, b3⟩ := hw s₁ hh0 X
    exact ⟨t, o, a1, b1, b2, b3⟩
end JM7
end
section
def jm_gn : Cond → Bool
  | .fieldLinkNest _ _ _ _ _ _ => true
  | .methodLinkNest _ _ _ _ => true
  | w => goodWord w
def jm_G : List Cond := lw_tbl.filter jm_gn
theorem jm_gt {w : Cond} (h : w ∈ tables_1) (g : jm_gn w = true) : w ∈ jm_G := List.mem_filter.mpr ⟨List.mem_append_right _ h, g⟩
theorem jm_g0 {w : Cond} (i : Nat) (h : (k2_sels lw_privs)[i]? = some w) (g : jm_gn w = true) : w ∈ jm_G := List.mem_filter.mpr ⟨List.mem_append_left _ (List.mem_of_getElem? h), g⟩
theorem jm_g1 {w : Cond} (i : Nat) (h : tables_1_1[i]? = some w) (g : jm_gn w = true) : w ∈ jm_G := jm_gt (List.mem_append_left _ (List.mem_of_getElem? h)) g
theorem jm_g2 {w : Cond} (i : Nat) (h : tables_1_2[i]? = some w) (g : jm_gn w = true) : w ∈ jm_G := jm_gt (List.mem_append_right _ (List.mem_append_left _ (List.mem_of_getElem? h))) g
theorem jm_g3 {w : Cond} (i : Nat) (h : tables_1_3[i]? = some w) (g : jm_gn w = true) : w ∈ jm_G := jm_gt (List.mem_append_right _ (List.mem_append_right _ (List.mem_append_left _ (List.mem_of_getElem? h)))) g
theorem jm_g4 {w : Cond} (i : Nat) (h : tables_1_4[i]? = some w) (g : jm_gn w = true) : w ∈ jm_G := jm_gt (List.mem_append_right _ (List.mem_append_right _ (List.mem_append_right _ (List.mem_append_left _ (List.mem_of_getElem? h))))) g
theorem jm_g5 {w : Cond} (i : Nat) (h : tables_1_5[i]? = some w) (g : jm_gn w = true) : w ∈ jm_G := jm_gt (List.mem_append_right _ (List.mem_append_right _ (List.mem_append_right _ (List.mem_append_right _ (List.mem_append_left _ (List.mem_of_getElem? h)))))) g
theorem jm_g6 {w : Cond} (i : Nat) (h : tables_1_6[i]? = some w) (g : jm_gn w = true) : w ∈ jm_G := jm_gt (List.mem_append_right _ (List.mem_append_right _ (List.mem_append_right _ (List.mem_append_right _ (List.mem_append_right _ (List.mem_append_left _ (List.mem_of_getElem? h))))))) g
theorem jm_g7 {w : Cond} (i : Nat) (h : tables_1_7[i]? = some w) (g : jm_gn w = true) : w ∈ jm_G := jm_gt (List.mem_append_right _ (List.mem_append_right _ (List.mem_append_right _ (List.mem_append_right _ (List.mem_append_right _ (List.mem_append_right _ ((List.mem_of_getElem? h)))))))) g
theorem jm_G_ok : ∀ w ∈ jm_G, jm_gd w := by
  intro w hw
  have h := (List.mem_filter.mp hw).2
  cases w <;> first | exact Or.inr (Or.inl ⟨_, _, _, _, _, _, rfl⟩) | exact Or.inr (Or.inr ⟨_, _, _, _, rfl⟩) | exact Or.inl (good_of_word h)
def jn_T0 : u_T := fun k => match k with
  | 0 => ("JobHouse", "tape", "LJobHouse$Text;", true)
  | 1 => ("JobHouse", "zones", "[LJobHouse$Zone;", true)
  | 2 => ("JobHouse", "crons", "[LJobHouse$Cron;", true)
  | 3 => ("JobHouse", "calendars", "[LJobHouse$Holidays;", true)
  | 4 => ("JobHouse", "noHolidays", "LJobHouse$Holidays;", true)
  | 5 => ("JobHouse", "fires", "LJobHouse$Fires;", true)
  | 6 => ("JobHouse", "spareZone", "LJobHouse$Zone;", false)
  | 7 => ("JobHouse", "spareCron", "LJobHouse$Cron;", false)
  | 8 => ("JobHouse", "clock", "J", false)
  | 9 => ("JobHouse", "jobs", "[LJobHouse$Job;", true)
  | 10 => ("JobHouse", "slotsUsed", "I", false)
  | 11 => ("JobHouse", "jobCount", "I", false)
  | 12 => ("JobHouse", "nextOrder", "I", false)
  | 13 => ("JobHouse", "running", "[I", true)
  | 14 => ("JobHouse", "runningCount", "I", false)
  | 15 => ("JobHouse", "workerCount", "I", false)
  | 16 => ("JobHouse", "closed", "Z", false)
  | _ => ("JobHouse", "log", "LJobHouse$StartLog;", true)
def jn_y0 : Nat → FieldType := fun k => match k with
  | 0 => .object "JobHouse$Text"
  | 1 => .array (.object "JobHouse$Zone")
  | 2 => .array (.object "JobHouse$Cron")
  | 3 => .array (.object "JobHouse$Holidays")
  | 4 => .object "JobHouse$Holidays"
  | 5 => .object "JobHouse$Fires"
  | 6 => .object "JobHouse$Zone"
  | 7 => .object "JobHouse$Cron"
  | 8 => .long
  | 9 => .array (.object "JobHouse$Job")
  | 10 => .int
  | 11 => .int
  | 12 => .int
  | 13 => .array .int
  | 14 => .int
  | 15 => .int
  | 16 => .boolean
  | _ => .object "JobHouse$StartLog"
theorem jn_n0 : ∀ a, a < 18 → ∀ b, b < 18 → a ≠ b → (jn_T0 a).2.1 ≠ (jn_T0 b).2.1 := by decide +kernel
theorem jn_o0 : ∀ k, k < 18 → parseFieldDescriptor (jn_T0 k).2.2.1 = some (jn_y0 k) := by decide +kernel
theorem jn_i0 : ∀ w ∈ u_ws "JobHouse" jn_T0 18, w ∈ jm_G := by
  intro w hw
  obtain ⟨k, hk, rfl⟩ := List.mem_map.mp hw
  have hk := List.mem_range.mp hk
  match k, hk with
  | 0, _ => exact jm_g2 42 rfl rfl
  | 1, _ => exact jm_g2 44 rfl rfl
  | 2, _ => exact jm_g2 46 rfl rfl
  | 3, _ => exact jm_g2 48 rfl rfl
  | 4, _ => exact jm_g2 50 rfl rfl
  | 5, _ => exact jm_g2 52 rfl rfl
  | 6, _ => exact jm_g2 54 rfl rfl
  | 7, _ => exact jm_g2 56 rfl rfl
  | 8, _ => exact jm_g2 58 rfl rfl
  | 9, _ => exact jm_g2 60 rfl rfl
  | 10, _ => exact jm_g2 62 rfl rfl
  | 11, _ => exact jm_g2 64 rfl rfl
  | 12, _ => exact jm_g2 66 rfl rfl
  | 13, _ => exact jm_g2 68 rfl rfl
  | 14, _ => exact jm_g2 70 rfl rfl
  | 15, _ => exact jm_g2 72 rfl rfl
  | 16, _ => exact jm_g2 74 rfl rfl
  | 17, _ => exact jm_g2 76 rfl rfl
  | k + 18, hk => exact absurd hk (by omega)
def jn_T1 : u_T := fun k => match k with
  | 0 => ("JobHouse$Text", "bytes", "[B", true)
  | 1 => ("JobHouse$Text", "length", "I", false)
  | 2 => ("JobHouse$Text", "at", "I", false)
  | _ => ("JobHouse$Text", "broken", "I", false)
def jn_y1 : Nat → FieldType := fun k => match k with
  | 0 => .array .byte
  | 1 => .int
  | 2 => .int
  | _ => .int
theorem jn_n1 : ∀ a, a < 4 → ∀ b, b < 4 → a ≠ b → (jn_T1 a).2.1 ≠ (jn_T1 b).2.1 := by decide +kernel
theorem jn_o1 : ∀ k, k < 4 → parseFieldDescriptor (jn_T1 k).2.2.1 = some (jn_y1 k) := by decide +kernel
theorem jn_i1 : ∀ w ∈ u_ws "JobHouse$Text" jn_T1 4, w ∈ jm_G := by
  intro w hw
  obtain ⟨k, hk, rfl⟩ := List.mem_map.mp hw
  have hk := List.mem_range.mp hk
  match k, hk with
  | 0, _ => exact jm_g1 49 rfl rfl
  | 1, _ => exact jm_g1 51 rfl rfl
  | 2, _ => exact jm_g1 53 rfl rfl
  | 3, _ => exact jm_g1 55 rfl rfl
  | k + 4, hk => exact absurd hk (by omega)
def jn_T2 : u_T := fun k => match k with
  | 0 => ("JobHouse$Zone", "base", "I", false)
  | 1 => ("JobHouse$Zone", "save", "I", false)
  | 2 => ("JobHouse$Zone", "beginning", "LJobHouse$YearRule;", true)
  | 3 => ("JobHouse$Zone", "ending", "LJobHouse$YearRule;", true)
  | 4 => ("JobHouse$Zone", "since", "J", false)
  | 5 => ("JobHouse$Zone", "until", "J", false)
  | _ => ("JobHouse$Zone", "offset", "I", false)
def jn_y2 : Nat → FieldType := fun k => match k with
  | 0 => .int
  | 1 => .int
  | 2 => .object "JobHouse$YearRule"
  | 3 => .object "JobHouse$YearRule"
  | 4 => .long
  | 5 => .long
  | _ => .int
theorem jn_n2 : ∀ a, a < 7 → ∀ b, b < 7 → a ≠ b → (jn_T2 a).2.1 ≠ (jn_T2 b).2.1 := by decide +kernel
theorem jn_o2 : ∀ k, k < 7 → parseFieldDescriptor (jn_T2 k).2.2.1 = some (jn_y2 k) := by decide +kernel
theorem jn_i2 : ∀ w ∈ u_ws "JobHouse$Zone" jn_T2 7, w ∈ jm_G := by
  intro w hw
  obtain ⟨k, hk, rfl⟩ := List.mem_map.mp hw
  have hk := List.mem_range.mp hk
  match k, hk with
  | 0, _ => exact jm_g1 146 rfl rfl
  | 1, _ => exact jm_g1 148 rfl rfl
  | 2, _ => exact jm_g1 150 rfl rfl
  | 3, _ => exact jm_g1 152 rfl rfl
  | 4, _ => exact jm_g1 154 rfl rfl
  | 5, _ => exact jm_g1 156 rfl rfl
  | 6, _ => exact jm_g1 158 rfl rfl
  | k + 7, hk => exact absurd hk (by omega)
def jn_T3 : u_T := fun k => match k with
  | 0 => ("JobHouse$YearRule", "month", "I", false)
  | 1 => ("JobHouse$YearRule", "week", "I", false)
  | 2 => ("JobHouse$YearRule", "weekday", "I", false)
  | _ => ("JobHouse$YearRule", "minutes", "I", false)
def jn_y3 : Nat → FieldType := fun k => match k with
  | 0 => .int
  | 1 => .int
  | 2 => .int
  | _ => .int
theorem jn_n3 : ∀ a, a < 4 → ∀ b, b < 4 → a ≠ b → (jn_T3 a).2.1 ≠ (jn_T3 b).2.1 := by decide +kernel
theorem jn_o3 : ∀ k, k < 4 → parseFieldDescriptor (jn_T3 k).2.2.1 = some (jn_y3 k) := by decide +kernel
theorem jn_i3 : ∀ w ∈ u_ws "JobHouse$YearRule" jn_T3 4, w ∈ jm_G := by
  intro w hw
  obtain ⟨k, hk, rfl⟩ := List.mem_map.mp hw
  have hk := List.mem_range.mp hk
  match k, hk with
  | 0, _ => exact jm_g1 124 rfl rfl
  | 1, _ => exact jm_g1 126 rfl rfl
  | 2, _ => exact jm_g1 128 rfl rfl
  | 3, _ => exact jm_g1 130 rfl rfl
  | k + 4, hk => exact absurd hk (by omega)
def jn_T4 : u_T := fun k => match k with
  | 0 => ("JobHouse$Cron", "sets", "[J", true)
  | 1 => ("JobHouse$Cron", "dayRule", "I", false)
  | 2 => ("JobHouse$Cron", "value", "I", false)
  | _ => ("JobHouse$Cron", "n", "I", false)
def jn_y4 : Nat → FieldType := fun k => match k with
  | 0 => .array .long
  | 1 => .int
  | 2 => .int
  | _ => .int
theorem jn_n4 : ∀ a, a < 4 → ∀ b, b < 4 → a ≠ b → (jn_T4 a).2.1 ≠ (jn_T4 b).2.1 := by decide +kernel
theorem jn_o4 : ∀ k, k < 4 → parseFieldDescriptor (jn_T4 k).2.2.1 = some (jn_y4 k) := by decide +kernel
theorem jn_i4 : ∀ w ∈ u_ws "JobHouse$Cron" jn_T4 4, w ∈ jm_G := by
  intro w hw
  obtain ⟨k, hk, rfl⟩ := List.mem_map.mp hw
  have hk := List.mem_range.mp hk
  match k, hk with
  | 0, _ => exact jm_g1 98 rfl rfl
  | 1, _ => exact jm_g1 100 rfl rfl
  | 2, _ => exact jm_g1 102 rfl rfl
  | 3, _ => exact jm_g1 104 rfl rfl
  | k + 4, hk => exact absurd hk (by omega)
def jn_T5 : u_T := fun k => match k with
  | 0 => ("JobHouse$Holidays", "days", "[I", true)
  | _ => ("JobHouse$Holidays", "size", "I", false)
def jn_y5 : Nat → FieldType := fun k => match k with
  | 0 => .array .int
  | _ => .int
theorem jn_n5 : ∀ a, a < 2 → ∀ b, b < 2 → a ≠ b → (jn_T5 a).2.1 ≠ (jn_T5 b).2.1 := by decide +kernel
theorem jn_o5 : ∀ k, k < 2 → parseFieldDescriptor (jn_T5 k).2.2.1 = some (jn_y5 k) := by decide +kernel
theorem jn_i5 : ∀ w ∈ u_ws "JobHouse$Holidays" jn_T5 2, w ∈ jm_G := by
  intro w hw
  obtain ⟨k, hk, rfl⟩ := List.mem_map.mp hw
  have hk := List.mem_range.mp hk
  match k, hk with
  | 0, _ => exact jm_g1 73 rfl rfl
  | 1, _ => exact jm_g1 75 rfl rfl
  | k + 2, hk => exact absurd hk (by omega)
def jn_T6 : u_T := fun k => match k with
  | 0 => ("JobHouse$Fires", "cron", "LJobHouse$Cron;", false)
  | 1 => ("JobHouse$Fires", "zone", "LJobHouse$Zone;", false)
  | _ => ("JobHouse$Fires", "holidays", "LJobHouse$Holidays;", false)
def jn_y6 : Nat → FieldType := fun k => match k with
  | 0 => .object "JobHouse$Cron"
  | 1 => .object "JobHouse$Zone"
  | _ => .object "JobHouse$Holidays"
theorem jn_n6 : ∀ a, a < 3 → ∀ b, b < 3 → a ≠ b → (jn_T6 a).2.1 ≠ (jn_T6 b).2.1 := by decide +kernel
theorem jn_o6 : ∀ k, k < 3 → parseFieldDescriptor (jn_T6 k).2.2.1 = some (jn_y6 k) := by decide +kernel
theorem jn_i6 : ∀ w ∈ u_ws "JobHouse$Fires" jn_T6 3, w ∈ jm_G := by
  intro w hw
  obtain ⟨k, hk, rfl⟩ := List.mem_map.mp hw
  have hk := List.mem_range.mp hk
  match k, hk with
  | 0, _ => exact jm_g1 169 rfl rfl
  | 1, _ => exact jm_g1 171 rfl rfl
  | 2, _ => exact jm_g1 173 rfl rfl
  | k + 3, hk => exact absurd hk (by omega)
def jn_T7 : u_T := fun k => match k with
  | 0 => ("JobHouse$Job", "state", "I", false)
  | 1 => ("JobHouse$Job", "kind", "I", false)
  | 2 => ("JobHouse$Job", "order", "I", false)
  | 3 => ("JobHouse$Job", "starts", "I", false)
  | 4 => ("JobHouse$Job", "nominal", "J", false)
  | 5 => ("JobHouse$Job", "endTime", "J", false)
  | 6 => ("JobHouse$Job", "period", "J", false)
  | 7 => ("JobHouse$Job", "duration", "J", false)
  | 8 => ("JobHouse$Job", "priority", "I", false)
  | 9 => ("JobHouse$Job", "policy", "I", false)
  | 10 => ("JobHouse$Job", "fails", "I", false)
  | 11 => ("JobHouse$Job", "cronNumber", "I", false)
  | 12 => ("JobHouse$Job", "zoneNumber", "I", false)
  | _ => ("JobHouse$Job", "calendarNumber", "I", false)
def jn_y7 : Nat → FieldType := fun k => match k with
  | 0 => .int
  | 1 => .int
  | 2 => .int
  | 3 => .int
  | 4 => .long
  | 5 => .long
  | 6 => .long
  | 7 => .long
  | 8 => .int
  | 9 => .int
  | 10 => .int
  | 11 => .int
  | 12 => .int
  | _ => .int
theorem jn_n7 : ∀ a, a < 14 → ∀ b, b < 14 → a ≠ b → (jn_T7 a).2.1 ≠ (jn_T7 b).2.1 := by decide +kernel
theorem jn_o7 : ∀ k, k < 14 → parseFieldDescriptor (jn_T7 k).2.2.1 = some (jn_y7 k) := by decide +kernel
theorem jn_i7 : ∀ w ∈ u_ws "JobHouse$Job" jn_T7 14, w ∈ jm_G := by
  intro w hw
  obtain ⟨k, hk, rfl⟩ := List.mem_map.mp hw
  have hk := List.mem_range.mp hk
  match k, hk with
  | 0, _ => exact jm_g1 235 rfl rfl
  | 1, _ => exact jm_g1 237 rfl rfl
  | 2, _ => exact jm_g1 239 rfl rfl
  | 3, _ => exact jm_g2 1 rfl rfl
  | 4, _ => exact jm_g2 3 rfl rfl
  | 5, _ => exact jm_g2 5 rfl rfl
  | 6, _ => exact jm_g2 7 rfl rfl
  | 7, _ => exact jm_g2 9 rfl rfl
  | 8, _ => exact jm_g2 11 rfl rfl
  | 9, _ => exact jm_g2 13 rfl rfl
  | 10, _ => exact jm_g2 15 rfl rfl
  | 11, _ => exact jm_g2 17 rfl rfl
  | 12, _ => exact jm_g2 19 rfl rfl
  | 13, _ => exact jm_g2 21 rfl rfl
  | k + 14, hk => exact absurd hk (by omega)
def jn_T8 : u_T := fun k => match k with
  | 0 => ("JobHouse$StartLog", "times", "[J", true)
  | 1 => ("JobHouse$StartLog", "slots", "[I", true)
  | 2 => ("JobHouse$StartLog", "nominals", "[J", true)
  | 3 => ("JobHouse$StartLog", "size", "I", false)
  | _ => ("JobHouse$StartLog", "total", "J", false)
def jn_y8 : Nat → FieldType := fun k => match k with
  | 0 => .array .long
  | 1 => .array .int
  | 2 => .array .long
  | 3 => .int
  | _ => .long
theorem jn_n8 : ∀ a, a < 5 → ∀ b, b < 5 → a ≠ b → (jn_T8 a).2.1 ≠ (jn_T8 b).2.1 := by decide +kernel
theorem jn_o8 : ∀ k, k < 5 → parseFieldDescriptor (jn_T8 k).2.2.1 = some (jn_y8 k) := by decide +kernel
theorem jn_i8 : ∀ w ∈ u_ws "JobHouse$StartLog" jn_T8 5, w ∈ jm_G := by
  intro w hw
  obtain ⟨k, hk, rfl⟩ := List.mem_map.mp hw
  have hk := List.mem_range.mp hk
  match k, hk with
  | 0, _ => exact jm_g1 196 rfl rfl
  | 1, _ => exact jm_g1 198 rfl rfl
  | 2, _ => exact jm_g1 200 rfl rfl
  | 3, _ => exact jm_g1 202 rfl rfl
  | 4, _ => exact jm_g1 204 rfl rfl
  | k + 5, hk => exact absurd hk (by omega)
def jn_T9 : u_T := fun k => match k with
  | 0 => ("JobHouseModel", "failed", "I", false)
  | 1 => ("JobHouseModel", "tape", "[B", true)
  | 2 => ("JobHouseModel", "taped", "I", false)
  | 3 => ("JobHouseModel", "place", "I", false)
  | 4 => ("JobHouseModel", "year", "I", false)
  | 5 => ("JobHouseModel", "month", "I", false)
  | 6 => ("JobHouseModel", "day", "I", false)
  | 7 => ("JobHouseModel", "at", "I", false)
  | 8 => ("JobHouseModel", "offsets", "[I", true)
  | 9 => ("JobHouseModel", "saves", "[I", true)
  | 10 => ("JobHouseModel", "events", "[[J", true)
  | 11 => ("JobHouseModel", "begins", "[[Z", true)
  | 12 => ("JobHouseModel", "eventCounts", "[I", true)
  | 13 => ("JobHouseModel", "rule", "[I", true)
  | 14 => ("JobHouseModel", "sets", "[[[Z", true)
  | 15 => ("JobHouseModel", "trial", "[[Z", true)
  | 16 => ("JobHouseModel", "told", "[Z", true)
  | 17 => ("JobHouseModel", "ways", "[[I", true)
  | 18 => ("JobHouseModel", "first", "[[I", true)
  | 19 => ("JobHouseModel", "second", "[[I", true)
  | 20 => ("JobHouseModel", "way", "I", false)
  | 21 => ("JobHouseModel", "one", "I", false)
  | 22 => ("JobHouseModel", "two", "I", false)
  | 23 => ("JobHouseModel", "months", "[Ljava/lang/String;", true)
  | 24 => ("JobHouseModel", "weekdays", "[Ljava/lang/String;", true)
  | 25 => ("JobHouseModel", "holidays", "[[Z", true)
  | 26 => ("JobHouseModel", "holidayCounts", "[I", true)
  | 27 => ("JobHouseModel", "states", "[I", true)
  | 28 => ("JobHouseModel", "kinds", "[I", true)
  | 29 => ("JobHouseModel", "nominals", "[J", true)
  | 30 => ("JobHouseModel", "ends", "[J", true)
  | 31 => ("JobHouseModel", "starts", "[J", true)
  | 32 => ("JobHouseModel", "orders", "[J", true)
  | 33 => ("JobHouseModel", "periods", "[J", true)
  | 34 => ("JobHouseModel", "durations", "[J", true)
  | 35 => ("JobHouseModel", "priorities", "[I", true)
  | 36 => ("JobHouseModel", "policies", "[I", true)
  | 37 => ("JobHouseModel", "fails", "[I", true)
  | 38 => ("JobHouseModel", "crons", "[I", true)
  | 39 => ("JobHouseModel", "zones", "[I", true)
  | 40 => ("JobHouseModel", "calendars", "[I", true)
  | 41 => ("JobHouseModel", "clock", "J", false)
  | 42 => ("JobHouseModel", "workers", "I", false)
  | 43 => ("JobHouseModel", "made", "J", false)
  | 44 => ("JobHouseModel", "allStarts", "J", false)
  | 45 => ("JobHouseModel", "closed", "Z", false)
  | 46 => ("JobHouseModel", "startTimes", "[J", true)
  | 47 => ("JobHouseModel", "startJobs", "[I", true)
  | 48 => ("JobHouseModel", "startNominals", "[J", true)
  | _ => ("JobHouseModel", "started", "I", false)
def jn_y9 : Nat → FieldType := fun k => match k with
  | 0 => .int
  | 1 => .array .byte
  | 2 => .int
  | 3 => .int
  | 4 => .int
  | 5 => .int
  | 6 => .int
  | 7 => .int
  | 8 => .array .int
  | 9 => .array .int
  | 10 => .array (.array .long)
  | 11 => .array (.array .boolean)
  | 12 => .array .int
  | 13 => .array .int
  | 14 => .array (.array (.array .boolean))
  | 15 => .array (.array .boolean)
  | 16 => .array .boolean
  | 17 => .array (.array .int)
  | 18 => .array (.array .int)
  | 19 => .array (.array .int)
  | 20 => .int
  | 21 => .int
  | 22 => .int
  | 23 => .array (.object "java/lang/String")
  | 24 => .array (.object "java/lang/String")
  | 25 => .array (.array .boolean)
  | 26 => .array .int
  | 27 => .array .int
  | 28 => .array .int
  | 29 => .array .long
  | 30 => .array .long
  | 31 => .array .long
  | 32 => .array .long
  | 33 => .array .long
  | 34 => .array .long
  | 35 => .array .int
  | 36 => .array .int
  | 37 => .array .int
  | 38 => .array .int
  | 39 => .array .int
  | 40 => .array .int
  | 41 => .long
  | 42 => .int
  | 43 => .long
  | 44 => .long
  | 45 => .boolean
  | 46 => .array .long
  | 47 => .array .int
  | 48 => .array .long
  | _ => .int
theorem jn_n9 : ∀ a, a < 50 → ∀ b, b < 50 → a ≠ b → (jn_T9 a).2.1 ≠ (jn_T9 b).2.1 := by decide +kernel
theorem jn_o9 : ∀ k, k < 50 → parseFieldDescriptor (jn_T9 k).2.2.1 = some (jn_y9 k) := by decide +kernel
theorem jn_i9 : ∀ w ∈ u_ws "JobHouseModel" jn_T9 50, w ∈ jm_G := by
  intro w hw
  obtain ⟨k, hk, rfl⟩ := List.mem_map.mp hw
  have hk := List.mem_range.mp hk
  match k, hk with
  | 0, _ => exact jm_g5 151 rfl rfl
  | 1, _ => exact jm_g5 153 rfl rfl
  | 2, _ => exact jm_g5 155 rfl rfl
  | 3, _ => exact jm_g5 157 rfl rfl
  | 4, _ => exact jm_g5 159 rfl rfl
  | 5, _ => exact jm_g5 161 rfl rfl
  | 6, _ => exact jm_g5 163 rfl rfl
  | 7, _ => exact jm_g5 165 rfl rfl
  | 8, _ => exact jm_g5 167 rfl rfl
  | 9, _ => exact jm_g5 169 rfl rfl
  | 10, _ => exact jm_g5 171 rfl rfl
  | 11, _ => exact jm_g5 173 rfl rfl
  | 12, _ => exact jm_g5 175 rfl rfl
  | 13, _ => exact jm_g5 177 rfl rfl
  | 14, _ => exact jm_g5 179 rfl rfl
  | 15, _ => exact jm_g5 181 rfl rfl
  | 16, _ => exact jm_g5 183 rfl rfl
  | 17, _ => exact jm_g5 185 rfl rfl
  | 18, _ => exact jm_g5 187 rfl rfl
  | 19, _ => exact jm_g5 189 rfl rfl
  | 20, _ => exact jm_g5 191 rfl rfl
  | 21, _ => exact jm_g5 193 rfl rfl
  | 22, _ => exact jm_g5 195 rfl rfl
  | 23, _ => exact jm_g5 197 rfl rfl
  | 24, _ => exact jm_g5 199 rfl rfl
  | 25, _ => exact jm_g5 201 rfl rfl
  | 26, _ => exact jm_g5 203 rfl rfl
  | 27, _ => exact jm_g5 205 rfl rfl
  | 28, _ => exact jm_g5 207 rfl rfl
  | 29, _ => exact jm_g5 209 rfl rfl
  | 30, _ => exact jm_g5 211 rfl rfl
  | 31, _ => exact jm_g5 213 rfl rfl
  | 32, _ => exact jm_g5 215 rfl rfl
  | 33, _ => exact jm_g5 217 rfl rfl
  | 34, _ => exact jm_g5 219 rfl rfl
  | 35, _ => exact jm_g5 221 rfl rfl
  | 36, _ => exact jm_g5 223 rfl rfl
  | 37, _ => exact jm_g5 225 rfl rfl
  | 38, _ => exact jm_g5 227 rfl rfl
  | 39, _ => exact jm_g5 229 rfl rfl
  | 40, _ => exact jm_g5 231 rfl rfl
  | 41, _ => exact jm_g5 233 rfl rfl
  | 42, _ => exact jm_g5 235 rfl rfl
  | 43, _ => exact jm_g5 237 rfl rfl
  | 44, _ => exact jm_g5 239 rfl rfl
  | 45, _ => exact jm_g6 1 rfl rfl
  | 46, _ => exact jm_g6 3 rfl rfl
  | 47, _ => exact jm_g6 5 rfl rfl
  | 48, _ => exact jm_g6 7 rfl rfl
  | 49, _ => exact jm_g6 9 rfl rfl
  | k + 50, hk => exact absurd hk (by omega)
def jn_E : u_T := fun _ => ("", "", "", false)
def jm_cl : List vw_C := [("JobHouse", jn_T0, 18), ("JobHouse$Text", jn_T1, 4), ("JobHouse$Zone", jn_T2, 7), ("JobHouse$YearRule", jn_T3, 4), ("JobHouse$Cron", jn_T4, 4), ("JobHouse$Holidays", jn_T5, 2), ("JobHouse$Fires", jn_T6, 3), ("JobHouse$Job", jn_T7, 14), ("JobHouse$StartLog", jn_T8, 5), ("JobHouseModel", jn_T9, 50), ("java/lang/IndexOutOfBoundsException", jn_E, 0), ("java/lang/IllegalArgumentException", jn_E, 0), ("java/lang/UnsupportedOperationException", jn_E, 0), ("java/lang/IllegalStateException", jn_E, 0), ("java/util/NoSuchElementException", jn_E, 0)]
def jm_ty (dA : Nat → ClassId) : List (ClassId × FieldType) := [(dA 0, .byte), (dA 1, .boolean), (dA 2, .int), (dA 3, .long), (dA 4, .object "JobHouse$Zone"), (dA 5, .object "JobHouse$Cron"), (dA 6, .object "JobHouse$Holidays"), (dA 7, .object "JobHouse$Job"), (dA 8, .object "java/lang/String"), (dA 9, .array .long), (dA 10, .array .boolean), (dA 11, .array (.array .boolean)), (dA 12, .array .int)]
end
section
def y_Math_min : MethodName := ⟨"java/lang/Math", "min", "(II)I"⟩
abbrev b_Math_min : ByteArray := prog_19_method_69_code
theorem d_Math_min_0 : decode b_Math_min 0 = .ok (.iload_n 0, 1) := by decide +kernel
theorem d_Math_min_1 : decode b_Math_min 1 = .ok (.iload_n 1, 1) := by decide +kernel
theorem d_Math_min_2 : decode b_Math_min 2 = .ok (.if_icmp .gt 7, 3) := by decide +kernel
theorem d_Math_min_5 : decode b_Math_min 5 = .ok (.iload_n 0, 1) := by decide +kernel
theorem d_Math_min_6 : decode b_Math_min 6 = .ok (.goto 4, 3) := by decide +kernel
theorem d_Math_min_9 : decode b_Math_min 9 = .ok (.iload_n 1, 1) := by decide +kernel
theorem d_Math_min_10 : decode b_Math_min 10 = .ok (.ireturn, 1) := by decide +kernel
theorem ci_Math_min : jm_ci jm_G y_Math_min (Cond.code y_Math_min b_Math_min 2 (some FieldType.int)) 2 2 := ⟨jm_g2 226 rfl rfl, Or.inl ⟨_, _, rfl⟩, jm_g1 16 rfl rfl, ⟨by decide, by decide⟩, by decide +kernel⟩
theorem st_Math_min : Cond.static y_Math_min ∈ jm_G := jm_g2 225 rfl rfl
def y_Math_max : MethodName := ⟨"java/lang/Math", "max", "(II)I"⟩
abbrev b_Math_max : ByteArray := prog_19_method_65_code
theorem d_Math_max_0 : decode b_Math_max 0 = .ok (.iload_n 0, 1) := by decide +kernel
theorem d_Math_max_1 : decode b_Math_max 1 = .ok (.iload_n 1, 1) := by decide +kernel
theorem d_Math_max_2 : decode b_Math_max 2 = .ok (.if_icmp .lt 7, 3) := by decide +kernel
theorem d_Math_max_5 : decode b_Math_max 5 = .ok (.iload_n 0, 1) := by decide +kernel
theorem d_Math_max_6 : decode b_Math_max 6 = .ok (.goto 4, 3) := by decide +kernel
theorem d_Math_max_9 : decode b_Math_max 9 = .ok (.iload_n 1, 1) := by decide +kernel
theorem d_Math_max_10 : decode b_Math_max 10 = .ok (.ireturn, 1) := by decide +kernel
theorem ci_Math_max : jm_ci jm_G y_Math_max (Cond.code y_Math_max b_Math_max 2 (some FieldType.int)) 2 2 := ⟨jm_g3 129 rfl rfl, Or.inl ⟨_, _, rfl⟩, jm_g1 16 rfl rfl, ⟨by decide, by decide⟩, by decide +kernel⟩
theorem st_Math_max : Cond.static y_Math_max ∈ jm_G := jm_g3 128 rfl rfl
def y_Math_min2 : MethodName := ⟨"java/lang/Math", "min", "(JJ)J"⟩
abbrev b_Math_min2 : ByteArray := prog_19_method_70_code
theorem d_Math_min2_0 : decode b_Math_min2 0 = .ok (.lload_n 0, 1) := by decide +kernel
theorem d_Math_min2_1 : decode b_Math_min2 1 = .ok (.lload_n 2, 1) := by decide +kernel
theorem d_Math_min2_2 : decode b_Math_min2 2 = .ok (.lcmp, 1) := by decide +kernel
theorem d_Math_min2_3 : decode b_Math_min2 3 = .ok (.ifCond .gt 7, 3) := by decide +kernel
theorem d_Math_min2_6 : decode b_Math_min2 6 = .ok (.lload_n 0, 1) := by decide +kernel
theorem d_Math_min2_7 : decode b_Math_min2 7 = .ok (.goto 4, 3) := by decide +kernel
theorem d_Math_min2_10 : decode b_Math_min2 10 = .ok (.lload_n 2, 1) := by decide +kernel
theorem d_Math_min2_11 : decode b_Math_min2 11 = .ok (.lreturn, 1) := by decide +kernel
theorem ci_Math_min2 : jm_ci jm_G y_Math_min2 (Cond.code y_Math_min2 b_Math_min2 4 (some FieldType.long)) 4 2 := ⟨jm_g4 5 rfl rfl, Or.inl ⟨_, _, rfl⟩, jm_g1 16 rfl rfl, ⟨by decide, by decide⟩, by decide +kernel⟩
theorem st_Math_min2 : Cond.static y_Math_min2 ∈ jm_G := jm_g4 4 rfl rfl
def y_Math_max2 : MethodName := ⟨"java/lang/Math", "max", "(JJ)J"⟩
abbrev b_Math_max2 : ByteArray := prog_19_method_66_code
theorem d_Math_max2_0 : decode b_Math_max2 0 = .ok (.lload_n 0, 1) := by decide +kernel
theorem d_Math_max2_1 : decode b_Math_max2 1 = .ok (.lload_n 2, 1) := by decide +kernel
theorem d_Math_max2_2 : decode b_Math_max2 2 = .ok (.lcmp, 1) := by decide +kernel
theorem d_Math_max2_3 : decode b_Math_max2 3 = .ok (.ifCond .lt 7, 3) := by decide +kernel
theorem d_Math_max2_6 : decode b_Math_max2 6 = .ok (.lload_n 0, 1) := by decide +kernel
theorem d_Math_max2_7 : decode b_Math_max2 7 = .ok (.goto 4, 3) := by decide +kernel
theorem d_Math_max2_10 : decode b_Math_max2 10 = .ok (.lload_n 2, 1) := by decide +kernel
theorem d_Math_max2_11 : decode b_Math_max2 11 = .ok (.lreturn, 1) := by decide +kernel
theorem ci_Math_max2 : jm_ci jm_G y_Math_max2 (Cond.code y_Math_max2 b_Math_max2 4 (some FieldType.long)) 4 2 := ⟨jm_g4 2 rfl rfl, Or.inl ⟨_, _, rfl⟩, jm_g1 16 rfl rfl, ⟨by decide, by decide⟩, by decide +kernel⟩
theorem st_Math_max2 : Cond.static y_Math_max2 ∈ jm_G := jm_g4 1 rfl rfl
def y_Math_floorDiv : MethodName := ⟨"java/lang/Math", "floorDiv", "(II)I"⟩
abbrev b_Math_floorDiv : ByteArray := prog_19_method_47_code
theorem d_Math_floorDiv_0 : decode b_Math_floorDiv 0 = .ok (.iload_n 0, 1) := by decide +kernel
theorem d_Math_floorDiv_1 : decode b_Math_floorDiv 1 = .ok (.iload_n 1, 1) := by decide +kernel
theorem d_Math_floorDiv_2 : decode b_Math_floorDiv 2 = .ok (.idiv, 1) := by decide +kernel
theorem d_Math_floorDiv_3 : decode b_Math_floorDiv 3 = .ok (.istore_n 2, 1) := by decide +kernel
theorem d_Math_floorDiv_4 : decode b_Math_floorDiv 4 = .ok (.iload_n 0, 1) := by decide +kernel
theorem d_Math_floorDiv_5 : decode b_Math_floorDiv 5 = .ok (.iload_n 1, 1) := by decide +kernel
theorem d_Math_floorDiv_6 : decode b_Math_floorDiv 6 = .ok (.ixor, 1) := by decide +kernel
theorem d_Math_floorDiv_7 : decode b_Math_floorDiv 7 = .ok (.ifCond .ge 14, 3) := by decide +kernel
theorem d_Math_floorDiv_10 : decode b_Math_floorDiv 10 = .ok (.iload_n 2, 1) := by decide +kernel
theorem d_Math_floorDiv_11 : decode b_Math_floorDiv 11 = .ok (.iload_n 1, 1) := by decide +kernel
theorem d_Math_floorDiv_12 : decode b_Math_floorDiv 12 = .ok (.imul, 1) := by decide +kernel
theorem d_Math_floorDiv_13 : decode b_Math_floorDiv 13 = .ok (.iload_n 0, 1) := by decide +kernel
theorem d_Math_floorDiv_14 : decode b_Math_floorDiv 14 = .ok (.if_icmp .eq 7, 3) := by decide +kernel
theorem d_Math_floorDiv_17 : decode b_Math_floorDiv 17 = .ok (.iload_n 2, 1) := by decide +kernel
theorem d_Math_floorDiv_18 : decode b_Math_floorDiv 18 = .ok (.iconst 1, 1) := by decide +kernel
theorem d_Math_floorDiv_19 : decode b_Math_floorDiv 19 = .ok (.isub, 1) := by decide +kernel
theorem d_Math_floorDiv_20 : decode b_Math_floorDiv 20 = .ok (.ireturn, 1) := by decide +kernel
theorem d_Math_floorDiv_21 : decode b_Math_floorDiv 21 = .ok (.iload_n 2, 1) := by decide +kernel
theorem d_Math_floorDiv_22 : decode b_Math_floorDiv 22 = .ok (.ireturn, 1) := by decide +kernel
theorem ci_Math_floorDiv : jm_ci jm_G y_Math_floorDiv (Cond.code y_Math_floorDiv b_Math_floorDiv 3 (some FieldType.int)) 3 2 := ⟨jm_g3 208 rfl rfl, Or.inl ⟨_, _, rfl⟩, jm_g1 16 rfl rfl, ⟨by decide, by decide⟩, by decide +kernel⟩
theorem st_Math_floorDiv : Cond.static y_Math_floorDiv ∈ jm_G := jm_g3 207 rfl rfl
def y_Math_floorMod : MethodName := ⟨"java/lang/Math", "floorMod", "(II)I"⟩
abbrev b_Math_floorMod : ByteArray := prog_19_method_50_code
theorem d_Math_floorMod_0 : decode b_Math_floorMod 0 = .ok (.iload_n 0, 1) := by decide +kernel
theorem d_Math_floorMod_1 : decode b_Math_floorMod 1 = .ok (.iload_n 1, 1) := by decide +kernel
theorem d_Math_floorMod_2 : decode b_Math_floorMod 2 = .ok (.irem, 1) := by decide +kernel
theorem d_Math_floorMod_3 : decode b_Math_floorMod 3 = .ok (.istore_n 2, 1) := by decide +kernel
theorem d_Math_floorMod_4 : decode b_Math_floorMod 4 = .ok (.iload_n 0, 1) := by decide +kernel
theorem d_Math_floorMod_5 : decode b_Math_floorMod 5 = .ok (.iload_n 1, 1) := by decide +kernel
theorem d_Math_floorMod_6 : decode b_Math_floorMod 6 = .ok (.ixor, 1) := by decide +kernel
theorem d_Math_floorMod_7 : decode b_Math_floorMod 7 = .ok (.ifCond .ge 11, 3) := by decide +kernel
theorem d_Math_floorMod_10 : decode b_Math_floorMod 10 = .ok (.iload_n 2, 1) := by decide +kernel
theorem d_Math_floorMod_11 : decode b_Math_floorMod 11 = .ok (.ifCond .eq 7, 3) := by decide +kernel
theorem d_Math_floorMod_14 : decode b_Math_floorMod 14 = .ok (.iload_n 2, 1) := by decide +kernel
theorem d_Math_floorMod_15 : decode b_Math_floorMod 15 = .ok (.iload_n 1, 1) := by decide +kernel
theorem d_Math_floorMod_16 : decode b_Math_floorMod 16 = .ok (.iadd, 1) := by decide +kernel
theorem d_Math_floorMod_17 : decode b_Math_floorMod 17 = .ok (.ireturn, 1) := by decide +kernel
theorem d_Math_floorMod_18 : decode b_Math_floorMod 18 = .ok (.iload_n 2, 1) := by decide +kernel
theorem d_Math_floorMod_19 : decode b_Math_floorMod 19 = .ok (.ireturn, 1) := by decide +kernel
theorem ci_Math_floorMod : jm_ci jm_G y_Math_floorMod (Cond.code y_Math_floorMod b_Math_floorMod 3 (some FieldType.int)) 3 2 := ⟨jm_g3 228 rfl rfl, Or.inl ⟨_, _, rfl⟩, jm_g1 16 rfl rfl, ⟨by decide, by decide⟩, by decide +kernel⟩
theorem st_Math_floorMod : Cond.static y_Math_floorMod ∈ jm_G := jm_g3 227 rfl rfl
def y_Math_floorDiv2 : MethodName := ⟨"java/lang/Math", "floorDiv", "(JJ)J"⟩
abbrev b_Math_floorDiv2 : ByteArray := prog_19_method_49_code
theorem d_Math_floorDiv2_0 : decode b_Math_floorDiv2 0 = .ok (.lload_n 0, 1) := by decide +kernel
theorem d_Math_floorDiv2_1 : decode b_Math_floorDiv2 1 = .ok (.lload_n 2, 1) := by decide +kernel
theorem d_Math_floorDiv2_2 : decode b_Math_floorDiv2 2 = .ok (.ldiv, 1) := by decide +kernel
theorem d_Math_floorDiv2_3 : decode b_Math_floorDiv2 3 = .ok (.lstore 4, 2) := by decide +kernel
theorem d_Math_floorDiv2_5 : decode b_Math_floorDiv2 5 = .ok (.lload_n 0, 1) := by decide +kernel
theorem d_Math_floorDiv2_6 : decode b_Math_floorDiv2 6 = .ok (.lload_n 2, 1) := by decide +kernel
theorem d_Math_floorDiv2_7 : decode b_Math_floorDiv2 7 = .ok (.lxor, 1) := by decide +kernel
theorem d_Math_floorDiv2_8 : decode b_Math_floorDiv2 8 = .ok (.lconst 0, 1) := by decide +kernel
theorem d_Math_floorDiv2_9 : decode b_Math_floorDiv2 9 = .ok (.lcmp, 1) := by decide +kernel
theorem d_Math_floorDiv2_10 : decode b_Math_floorDiv2 10 = .ok (.ifCond .ge 17, 3) := by decide +kernel
theorem d_Math_floorDiv2_13 : decode b_Math_floorDiv2 13 = .ok (.lload 4, 2) := by decide +kernel
theorem d_Math_floorDiv2_15 : decode b_Math_floorDiv2 15 = .ok (.lload_n 2, 1) := by decide +kernel
theorem d_Math_floorDiv2_16 : decode b_Math_floorDiv2 16 = .ok (.lmul, 1) := by decide +kernel
theorem d_Math_floorDiv2_17 : decode b_Math_floorDiv2 17 = .ok (.lload_n 0, 1) := by decide +kernel
theorem d_Math_floorDiv2_18 : decode b_Math_floorDiv2 18 = .ok (.lcmp, 1) := by decide +kernel
theorem d_Math_floorDiv2_19 : decode b_Math_floorDiv2 19 = .ok (.ifCond .eq 8, 3) := by decide +kernel
theorem d_Math_floorDiv2_22 : decode b_Math_floorDiv2 22 = .ok (.lload 4, 2) := by decide +kernel
theorem d_Math_floorDiv2_24 : decode b_Math_floorDiv2 24 = .ok (.lconst 1, 1) := by decide +kernel
theorem d_Math_floorDiv2_25 : decode b_Math_floorDiv2 25 = .ok (.lsub, 1) := by decide +kernel
theorem d_Math_floorDiv2_26 : decode b_Math_floorDiv2 26 = .ok (.lreturn, 1) := by decide +kernel
theorem d_Math_floorDiv2_27 : decode b_Math_floorDiv2 27 = .ok (.lload 4, 2) := by decide +kernel
theorem d_Math_floorDiv2_29 : decode b_Math_floorDiv2 29 = .ok (.lreturn, 1) := by decide +kernel
theorem ci_Math_floorDiv2 : jm_ci jm_G y_Math_floorDiv2 (Cond.code y_Math_floorDiv2 b_Math_floorDiv2 6 (some FieldType.long)) 6 2 := ⟨jm_g3 201 rfl rfl, Or.inl ⟨_, _, rfl⟩, jm_g1 16 rfl rfl, ⟨by decide, by decide⟩, by decide +kernel⟩
theorem st_Math_floorDiv2 : Cond.static y_Math_floorDiv2 ∈ jm_G := jm_g3 200 rfl rfl
def y_Math_floorMod2 : MethodName := ⟨"java/lang/Math", "floorMod", "(JJ)J"⟩
abbrev b_Math_floorMod2 : ByteArray := prog_19_method_52_code
theorem d_Math_floorMod2_0 : decode b_Math_floorMod2 0 = .ok (.lload_n 0, 1) := by decide +kernel
theorem d_Math_floorMod2_1 : decode b_Math_floorMod2 1 = .ok (.lload_n 2, 1) := by decide +kernel
theorem d_Math_floorMod2_2 : decode b_Math_floorMod2 2 = .ok (.lrem, 1) := by decide +kernel
theorem d_Math_floorMod2_3 : decode b_Math_floorMod2 3 = .ok (.lstore 4, 2) := by decide +kernel
theorem d_Math_floorMod2_5 : decode b_Math_floorMod2 5 = .ok (.lload_n 0, 1) := by decide +kernel
theorem d_Math_floorMod2_6 : decode b_Math_floorMod2 6 = .ok (.lload_n 2, 1) := by decide +kernel
theorem d_Math_floorMod2_7 : decode b_Math_floorMod2 7 = .ok (.lxor, 1) := by decide +kernel
theorem d_Math_floorMod2_8 : decode b_Math_floorMod2 8 = .ok (.lconst 0, 1) := by decide +kernel
theorem d_Math_floorMod2_9 : decode b_Math_floorMod2 9 = .ok (.lcmp, 1) := by decide +kernel
theorem d_Math_floorMod2_10 : decode b_Math_floorMod2 10 = .ok (.ifCond .ge 15, 3) := by decide +kernel
theorem d_Math_floorMod2_13 : decode b_Math_floorMod2 13 = .ok (.lload 4, 2) := by decide +kernel
theorem d_Math_floorMod2_15 : decode b_Math_floorMod2 15 = .ok (.lconst 0, 1) := by decide +kernel
theorem d_Math_floorMod2_16 : decode b_Math_floorMod2 16 = .ok (.lcmp, 1) := by decide +kernel
theorem d_Math_floorMod2_17 : decode b_Math_floorMod2 17 = .ok (.ifCond .eq 8, 3) := by decide +kernel
theorem d_Math_floorMod2_20 : decode b_Math_floorMod2 20 = .ok (.lload 4, 2) := by decide +kernel
theorem d_Math_floorMod2_22 : decode b_Math_floorMod2 22 = .ok (.lload_n 2, 1) := by decide +kernel
theorem d_Math_floorMod2_23 : decode b_Math_floorMod2 23 = .ok (.ladd, 1) := by decide +kernel
theorem d_Math_floorMod2_24 : decode b_Math_floorMod2 24 = .ok (.lreturn, 1) := by decide +kernel
theorem d_Math_floorMod2_25 : decode b_Math_floorMod2 25 = .ok (.lload 4, 2) := by decide +kernel
theorem d_Math_floorMod2_27 : decode b_Math_floorMod2 27 = .ok (.lreturn, 1) := by decide +kernel
theorem ci_Math_floorMod2 : jm_ci jm_G y_Math_floorMod2 (Cond.code y_Math_floorMod2 b_Math_floorMod2 6 (some FieldType.long)) 6 2 := ⟨jm_g4 119 rfl rfl, Or.inl ⟨_, _, rfl⟩, jm_g1 16 rfl rfl, ⟨by decide, by decide⟩, by decide +kernel⟩
theorem st_Math_floorMod2 : Cond.static y_Math_floorMod2 ∈ jm_G := jm_g4 118 rfl rfl
def y_Long_bitCount : MethodName := ⟨"java/lang/Long", "bitCount", "(J)I"⟩
abbrev b_Long_bitCount : ByteArray := prog_18_method_50_code
theorem d_Long_bitCount_0 : decode b_Long_bitCount 0 = .ok (.lload_n 0, 1) := by decide +kernel
theorem d_Long_bitCount_1 : decode b_Long_bitCount 1 = .ok (.lload_n 0, 1) := by decide +kernel
theorem d_Long_bitCount_2 : decode b_Long_bitCount 2 = .ok (.iconst 1, 1) := by decide +kernel
theorem d_Long_bitCount_3 : decode b_Long_bitCount 3 = .ok (.lushr, 1) := by decide +kernel
theorem d_Long_bitCount_4 : decode b_Long_bitCount 4 = .ok (.ldc2_w 314, 3) := by decide +kernel
theorem d_Long_bitCount_7 : decode b_Long_bitCount 7 = .ok (.land, 1) := by decide +kernel
theorem d_Long_bitCount_8 : decode b_Long_bitCount 8 = .ok (.lsub, 1) := by decide +kernel
theorem d_Long_bitCount_9 : decode b_Long_bitCount 9 = .ok (.lstore_n 0, 1) := by decide +kernel
theorem d_Long_bitCount_10 : decode b_Long_bitCount 10 = .ok (.lload_n 0, 1) := by decide +kernel
theorem d_Long_bitCount_11 : decode b_Long_bitCount 11 = .ok (.ldc2_w 316, 3) := by decide +kernel
theorem d_Long_bitCount_14 : decode b_Long_bitCount 14 = .ok (.land, 1) := by decide +kernel
theorem d_Long_bitCount_15 : decode b_Long_bitCount 15 = .ok (.lload_n 0, 1) := by decide +kernel
theorem d_Long_bitCount_16 : decode b_Long_bitCount 16 = .ok (.iconst 2, 1) := by decide +kernel
theorem d_Long_bitCount_17 : decode b_Long_bitCount 17 = .ok (.lushr, 1) := by decide +kernel
theorem d_Long_bitCount_18 : decode b_Long_bitCount 18 = .ok (.ldc2_w 316, 3) := by decide +kernel
theorem d_Long_bitCount_21 : decode b_Long_bitCount 21 = .ok (.land, 1) := by decide +kernel
theorem d_Long_bitCount_22 : decode b_Long_bitCount 22 = .ok (.ladd, 1) := by decide +kernel
theorem d_Long_bitCount_23 : decode b_Long_bitCount 23 = .ok (.lstore_n 0, 1) := by decide +kernel
theorem d_Long_bitCount_24 : decode b_Long_bitCount 24 = .ok (.lload_n 0, 1) := by decide +kernel
theorem d_Long_bitCount_25 : decode b_Long_bitCount 25 = .ok (.lload_n 0, 1) := by decide +kernel
theorem d_Long_bitCount_26 : decode b_Long_bitCount 26 = .ok (.iconst 4, 1) := by decide +kernel
theorem d_Long_bitCount_27 : decode b_Long_bitCount 27 = .ok (.lushr, 1) := by decide +kernel
theorem d_Long_bitCount_28 : decode b_Long_bitCount 28 = .ok (.ladd, 1) := by decide +kernel
theorem d_Long_bitCount_29 : decode b_Long_bitCount 29 = .ok (.ldc2_w 318, 3) := by decide +kernel
theorem d_Long_bitCount_32 : decode b_Long_bitCount 32 = .ok (.land, 1) := by decide +kernel
theorem d_Long_bitCount_33 : decode b_Long_bitCount 33 = .ok (.lstore_n 0, 1) := by decide +kernel
theorem d_Long_bitCount_34 : decode b_Long_bitCount 34 = .ok (.lload_n 0, 1) := by decide +kernel
theorem d_Long_bitCount_35 : decode b_Long_bitCount 35 = .ok (.lload_n 0, 1) := by decide +kernel
theorem d_Long_bitCount_36 : decode b_Long_bitCount 36 = .ok (.bipush 8, 2) := by decide +kernel
theorem d_Long_bitCount_38 : decode b_Long_bitCount 38 = .ok (.lushr, 1) := by decide +kernel
theorem d_Long_bitCount_39 : decode b_Long_bitCount 39 = .ok (.ladd, 1) := by decide +kernel
theorem d_Long_bitCount_40 : decode b_Long_bitCount 40 = .ok (.lstore_n 0, 1) := by decide +kernel
theorem d_Long_bitCount_41 : decode b_Long_bitCount 41 = .ok (.lload_n 0, 1) := by decide +kernel
theorem d_Long_bitCount_42 : decode b_Long_bitCount 42 = .ok (.lload_n 0, 1) := by decide +kernel
theorem d_Long_bitCount_43 : decode b_Long_bitCount 43 = .ok (.bipush 16, 2) := by decide +kernel
theorem d_Long_bitCount_45 : decode b_Long_bitCount 45 = .ok (.lushr, 1) := by decide +kernel
theorem d_Long_bitCount_46 : decode b_Long_bitCount 46 = .ok (.ladd, 1) := by decide +kernel
theorem d_Long_bitCount_47 : decode b_Long_bitCount 47 = .ok (.lstore_n 0, 1) := by decide +kernel
theorem d_Long_bitCount_48 : decode b_Long_bitCount 48 = .ok (.lload_n 0, 1) := by decide +kernel
theorem d_Long_bitCount_49 : decode b_Long_bitCount 49 = .ok (.lload_n 0, 1) := by decide +kernel
theorem d_Long_bitCount_50 : decode b_Long_bitCount 50 = .ok (.bipush 32, 2) := by decide +kernel
theorem d_Long_bitCount_52 : decode b_Long_bitCount 52 = .ok (.lushr, 1) := by decide +kernel
theorem d_Long_bitCount_53 : decode b_Long_bitCount 53 = .ok (.ladd, 1) := by decide +kernel
theorem d_Long_bitCount_54 : decode b_Long_bitCount 54 = .ok (.lstore_n 0, 1) := by decide +kernel
theorem d_Long_bitCount_55 : decode b_Long_bitCount 55 = .ok (.lload_n 0, 1) := by decide +kernel
theorem d_Long_bitCount_56 : decode b_Long_bitCount 56 = .ok (.l2i, 1) := by decide +kernel
theorem d_Long_bitCount_57 : decode b_Long_bitCount 57 = .ok (.bipush 127, 2) := by decide +kernel
theorem d_Long_bitCount_59 : decode b_Long_bitCount 59 = .ok (.iand, 1) := by decide +kernel
theorem d_Long_bitCount_60 : decode b_Long_bitCount 60 = .ok (.ireturn, 1) := by decide +kernel
theorem ci_Long_bitCount : jm_ci jm_G y_Long_bitCount (Cond.code y_Long_bitCount b_Long_bitCount 2 (some FieldType.int)) 2 1 := ⟨jm_g4 59 rfl rfl, Or.inl ⟨_, _, rfl⟩, jm_g1 25 rfl rfl, ⟨by decide, by decide⟩, by decide +kernel⟩
theorem st_Long_bitCount : Cond.static y_Long_bitCount ∈ jm_G := jm_g4 58 rfl rfl
end
section
def f_Math_min (x : Int32) (y : Int32) : Int32 :=
  let v10 : Int32 := if y < x then y else x
  v10
set_option maxRecDepth 20000 in
set_option maxHeartbeats 4000000 in
theorem k_Math_min {l : Launch} {S : State} {D : va_G} {dA : Nat → ClassId} (E : jm_en S D jm_cl (jm_ty dA) jm_G) (x : Int32) (y : Int32) (h : jm_H)    : jm_M l S D jm_cl y_Math_min (Cond.code y_Math_min b_Math_min 2 (some FieldType.int)) { frames := 0, cells := 0, slots := 0, locals := 0 } [.int x, .int y] h (jm_R (some (.int (f_Math_min x y))) h) 0 0 := by
  refine jm_ofWF E (by decide +kernel) (Nat.le_of_ble_eq_true rfl) (fun p e s m below meth c X hr hk hmn hout hadm => ?_)
  have X : jm_cx p s m ([.int x, .int y] : List Value).toArray c S D jm_cl (jm_ty dA) jm_G b_Math_min 2 "java/lang/Math" := X
  show jm_W p l e ({ frames := 0, cells := 0, slots := 0, locals := 0 }) s m ([.int x, .int y] : List Value).toArray below meth c S D jm_cl (jm_Q S D jm_cl below s (jm_R (some (.int (f_Math_min x y))) h) 0 0) 2 0 [(0, .int x), (1, .int y)] [] (h) 0 0
  refine jm_iload_n X d_Math_min_0 rfl 0 rfl ?_
  refine jm_iload_n X d_Math_min_1 rfl 1 rfl ?_
  have J10_2 : ∀ (v10 : Int32), v10 = (if y < x then y else x : Int32) → jm_W p l e ({ frames := 0, cells := 0, slots := 0, locals := 0 }) s m ([.int x, .int y] : List Value).toArray below meth c S D jm_cl (jm_Q S D jm_cl below s (jm_R (some (.int (f_Math_min x y))) h) 0 0) 2 10 [(0, .int x), (1, .int y)] [.int v10] (h) 0 0 := by
    intro v10 ev10
    exact jm_iret X hr hk d_Math_min_10 ⟨(by show Outcome.returned _ = Outcome.returned _; unfold f_Math_min; subst ev10; rfl), rfl⟩
  refine jm_icmp_gt (tgt := 9) X d_Math_min_2 (by decide) (fun c1 => ?_) (fun c1 => ?_)
  · refine jm_iload_n X d_Math_min_9 rfl 1 rfl ?_
    exact J10_2 _ (by first | (simp only [if_pos c1, reduceIte]; done) | (with_reducible rfl))
  · refine jm_iload_n X d_Math_min_5 rfl 0 rfl ?_
    refine jm_goto (tgt := 10) X d_Math_min_6 (by decide) ?_
    exact J10_2 _ (by first | (simp only [if_neg c1, reduceIte]; done) | (with_reducible rfl))
def f_Math_max (x : Int32) (y : Int32) : Int32 :=
  let v10 : Int32 := if x < y then y else x
  v10
set_option maxRecDepth 20000 in
set_option maxHeartbeats 4000000 in
theorem k_Math_max {l : Launch} {S : State} {D : va_G} {dA : Nat → ClassId} (E : jm_en S D jm_cl (jm_ty dA) jm_G) (x : Int32) (y : Int32) (h : jm_H)    : jm_M l S D jm_cl y_Math_max (Cond.code y_Math_max b_Math_max 2 (some FieldType.int)) { frames := 0, cells := 0, slots := 0, locals := 0 } [.int x, .int y] h (jm_R (some (.int (f_Math_max x y))) h) 0 0 := by
  refine jm_ofWF E (by decide +kernel) (Nat.le_of_ble_eq_true rfl) (fun p e s m below meth c X hr hk hmn hout hadm => ?_)
  have X : jm_cx p s m ([.int x, .int y] : List Value).toArray c S D jm_cl (jm_ty dA) jm_G b_Math_max 2 "java/lang/Math" := X
  show jm_W p l e ({ frames := 0, cells := 0, slots := 0, locals := 0 }) s m ([.int x, .int y] : List Value).toArray below meth c S D jm_cl (jm_Q S D jm_cl below s (jm_R (some (.int (f_Math_max x y))) h) 0 0) 2 0 [(0, .int x), (1, .int y)] [] (h) 0 0
  refine jm_iload_n X d_Math_max_0 rfl 0 rfl ?_
  refine jm_iload_n X d_Math_max_1 rfl 1 rfl ?_
  have J10_2 : ∀ (v10 : Int32), v10 = (if x < y then y else x : Int32) → jm_W p l e ({ frames := 0, cells := 0, slots := 0, locals := 0 }) s m ([.int x, .int y] : List Value).toArray below meth c S D jm_cl (jm_Q S D jm_cl below s (jm_R (some (.int (f_Math_max x y))) h) 0 0) 2 10 [(0, .int x), (1, .int y)] [.int v10] (h) 0 0 := by
    intro v10 ev10
    exact jm_iret X hr hk d_Math_max_10 ⟨(by show Outcome.returned _ = Outcome.returned _; unfold f_Math_max; subst ev10; rfl), rfl⟩
  refine jm_icmp_lt (tgt := 9) X d_Math_max_2 (by decide) (fun c1 => ?_) (fun c1 => ?_)
  · refine jm_iload_n X d_Math_max_9 rfl 1 rfl ?_
    exact J10_2 _ (by first | (simp only [if_pos c1, reduceIte]; done) | (with_reducible rfl))
  · refine jm_iload_n X d_Math_max_5 rfl 0 rfl ?_
    refine jm_goto (tgt := 10) X d_Math_max_6 (by decide) ?_
    exact J10_2 _ (by first | (simp only [if_neg c1, reduceIte]; done) | (with_reducible rfl))
def f_Math_min2 (x : Int64) (y : Int64) : Int64 :=
  let v11 : Int64 := if y < x then y else x
  v11
set_option maxRecDepth 20000 in
set_option maxHeartbeats 4000000 in
theorem k_Math_min2 {l : Launch} {S : State} {D : va_G} {dA : Nat → ClassId} (E : jm_en S D jm_cl (jm_ty dA) jm_G) (x : Int64) (y : Int64) (h : jm_H)    : jm_M l S D jm_cl y_Math_min2 (Cond.code y_Math_min2 b_Math_min2 4 (some FieldType.long)) { frames := 0, cells := 0, slots := 0, locals := 0 } [.long x, .long y] h (jm_R (some (.long (f_Math_min2 x y))) h) 0 0 := by
  refine jm_ofWF E (by decide +kernel) (Nat.le_of_ble_eq_true rfl) (fun p e s m below meth c X hr hk hmn hout hadm => ?_)
  have X : jm_cx p s m ([.long x, .long y] : List Value).toArray c S D jm_cl (jm_ty dA) jm_G b_Math_min2 4 "java/lang/Math" := X
  show jm_W p l e ({ frames := 0, cells := 0, slots := 0, locals := 0 }) s m ([.long x, .long y] : List Value).toArray below meth c S D jm_cl (jm_Q S D jm_cl below s (jm_R (some (.long (f_Math_min2 x y))) h) 0 0) 4 0 [(0, .long x), (2, .long y)] [] (h) 0 0
  refine jm_lload_n X d_Math_min2_0 rfl 0 rfl ?_
  refine jm_lload_n X d_Math_min2_1 rfl 1 rfl ?_
  refine jm_lcmp X d_Math_min2_2 ?_
  have J11_2 : ∀ (v11 : Int64), v11 = (if y < x then y else x : Int64) → jm_W p l e ({ frames := 0, cells := 0, slots := 0, locals := 0 }) s m ([.long x, .long y] : List Value).toArray below meth c S D jm_cl (jm_Q S D jm_cl below s (jm_R (some (.long (f_Math_min2 x y))) h) 0 0) 4 11 [(0, .long x), (2, .long y)] [.long v11] (h) 0 0 := by
    intro v11 ev11
    exact jm_lret X hr hk d_Math_min2_11 ⟨(by show Outcome.returned _ = Outcome.returned _; unfold f_Math_min2; subst ev11; rfl), rfl⟩
  refine jm_lif_gt (tgt := 10) X d_Math_min2_3 (by decide) (fun c1 => ?_) (fun c1 => ?_)
  · refine jm_lload_n X d_Math_min2_10 rfl 1 rfl ?_
    exact J11_2 _ (by first | (simp only [if_pos c1, reduceIte]; done) | (with_reducible rfl))
  · refine jm_lload_n X d_Math_min2_6 rfl 0 rfl ?_
    refine jm_goto (tgt := 11) X d_Math_min2_7 (by decide) ?_
    exact J11_2 _ (by first | (simp only [if_neg c1, reduceIte]; done) | (with_reducible rfl))
def f_Math_max2 (x : Int64) (y : Int64) : Int64 :=
  let v11 : Int64 := if x < y then y else x
  v11
set_option maxRecDepth 20000 in
set_option maxHeartbeats 4000000 in
theorem k_Math_max2 {l : Launch} {S : State} {D : va_G} {dA : Nat → ClassId} (E : jm_en S D jm_cl (jm_ty dA) jm_G) (x : Int64) (y : Int64) (h : jm_H)    : jm_M l S D jm_cl y_Math_max2 (Cond.code y_Math_max2 b_Math_max2 4 (some FieldType.long)) { frames := 0, cells := 0, slots := 0, locals := 0 } [.long x, .long y] h (jm_R (some (.long (f_Math_max2 x y))) h) 0 0 := by
  refine jm_ofWF E (by decide +kernel) (Nat.le_of_ble_eq_true rfl) (fun p e s m below meth c X hr hk hmn hout hadm => ?_)
  have X : jm_cx p s m ([.long x, .long y] : List Value).toArray c S D jm_cl (jm_ty dA) jm_G b_Math_max2 4 "java/lang/Math" := X
  show jm_W p l e ({ frames := 0, cells := 0, slots := 0, locals := 0 }) s m ([.long x, .long y] : List Value).toArray below meth c S D jm_cl (jm_Q S D jm_cl below s (jm_R (some (.long (f_Math_max2 x y))) h) 0 0) 4 0 [(0, .long x), (2, .long y)] [] (h) 0 0
  refine jm_lload_n X d_Math_max2_0 rfl 0 rfl ?_
  refine jm_lload_n X d_Math_max2_1 rfl 1 rfl ?_
  refine jm_lcmp X d_Math_max2_2 ?_
  have J11_2 : ∀ (v11 : Int64), v11 = (if x < y then y else x : Int64) → jm_W p l e ({ frames := 0, cells := 0, slots := 0, locals := 0 }) s m ([.long x, .long y] : List Value).toArray below meth c S D jm_cl (jm_Q S D jm_cl below s (jm_R (some (.long (f_Math_max2 x y))) h) 0 0) 4 11 [(0, .long x), (2, .long y)] [.long v11] (h) 0 0 := by
    intro v11 ev11
    exact jm_lret X hr hk d_Math_max2_11 ⟨(by show Outcome.returned _ = Outcome.returned _; unfold f_Math_max2; subst ev11; rfl), rfl⟩
  refine jm_lif_lt (tgt := 10) X d_Math_max2_3 (by decide) (fun c1 => ?_) (fun c1 => ?_)
  · refine jm_lload_n X d_Math_max2_10 rfl 1 rfl ?_
    exact J11_2 _ (by first | (simp only [if_pos c1, reduceIte]; done) | (with_reducible rfl))
  · refine jm_lload_n X d_Math_max2_6 rfl 0 rfl ?_
    refine jm_goto (tgt := 11) X d_Math_max2_7 (by decide) ?_
    exact J11_2 _ (by first | (simp only [if_neg c1, reduceIte]; done) | (with_reducible rfl))
def f_Math_floorDiv (x : Int32) (y : Int32) : Int32 :=
  if 0 ≤ (x ^^^ y) then (x / y) else (if ((x / y) * y) = x then (x / y) else ((x / y) - 1))
set_option maxRecDepth 20000 in
set_option maxHeartbeats 4000000 in
theorem k_Math_floorDiv {l : Launch} {S : State} {D : va_G} {dA : Nat → ClassId} (E : jm_en S D jm_cl (jm_ty dA) jm_G) (x : Int32) (y : Int32) (h : jm_H)   (p0 : ¬ y = 0) : jm_M l S D jm_cl y_Math_floorDiv (Cond.code y_Math_floorDiv b_Math_floorDiv 3 (some FieldType.int)) { frames := 0, cells := 0, slots := 0, locals := 0 } [.int x, .int y] h (jm_R (some (.int (f_Math_floorDiv x y))) h) 0 0 := by
  refine jm_ofWF E (by decide +kernel) (Nat.le_of_ble_eq_true rfl) (fun p e s m below meth c X hr hk hmn hout hadm => ?_)
  have X : jm_cx p s m ([.int x, .int y] : List Value).toArray c S D jm_cl (jm_ty dA) jm_G b_Math_floorDiv 3 "java/lang/Math" := X
  show jm_W p l e ({ frames := 0, cells := 0, slots := 0, locals := 0 }) s m ([.int x, .int y] : List Value).toArray below meth c S D jm_cl (jm_Q S D jm_cl below s (jm_R (some (.int (f_Math_floorDiv x y))) h) 0 0) 3 0 [(0, .int x), (1, .int y)] [] (h) 0 0
  refine jm_iload_n X d_Math_floorDiv_0 rfl 0 rfl ?_
  refine jm_iload_n X d_Math_floorDiv_1 rfl 1 rfl ?_
  refine jm_idiv X d_Math_floorDiv_2 (by with_reducible assumption) ?_
  refine jm_istore_n X d_Math_floorDiv_3 rfl (by decide) (lv1 := [(2, .int (x / y)), (0, .int x), (1, .int y)]) rfl ?_
  refine jm_iload_n X d_Math_floorDiv_4 rfl 1 rfl ?_
  refine jm_iload_n X d_Math_floorDiv_5 rfl 2 rfl ?_
  refine jm_ixor X d_Math_floorDiv_6 ?_
  refine jm_if_ge (tgt := 21) X d_Math_floorDiv_7 (by decide) (fun c1 => ?_) (fun c1 => ?_)
  · refine jm_iload_n X d_Math_floorDiv_21 rfl 0 rfl ?_
    exact jm_iret X hr hk d_Math_floorDiv_22 ⟨(by show Outcome.returned _ = Outcome.returned _; unfold f_Math_floorDiv; first | (simp only [if_pos c1, reduceIte]; done) | (simp only [if_pos c1, reduceIte]; rfl) | rfl), rfl⟩
  · refine jm_iload_n X d_Math_floorDiv_10 rfl 0 rfl ?_
    refine jm_iload_n X d_Math_floorDiv_11 rfl 2 rfl ?_
    refine jm_imul X d_Math_floorDiv_12 ?_
    refine jm_iload_n X d_Math_floorDiv_13 rfl 1 rfl ?_
    refine jm_icmp_eq (tgt := 21) X d_Math_floorDiv_14 (by decide) (fun c2 => ?_) (fun c2 => ?_)
    · refine jm_iload_n X d_Math_floorDiv_21 rfl 0 rfl ?_
      exact jm_iret X hr hk d_Math_floorDiv_22 ⟨(by show Outcome.returned _ = Outcome.returned _; unfold f_Math_floorDiv; first | (simp only [if_neg c1, if_pos c2, reduceIte]; done) | (simp only [if_neg c1, if_pos c2, reduceIte]; rfl) | rfl), rfl⟩
    · refine jm_iload_n X d_Math_floorDiv_17 rfl 0 rfl ?_
      refine jm_iconst (v := 1) X d_Math_floorDiv_18 (by decide) ?_
      refine jm_isub X d_Math_floorDiv_19 ?_
      exact jm_iret X hr hk d_Math_floorDiv_20 ⟨(by show Outcome.returned _ = Outcome.returned _; unfold f_Math_floorDiv; first | (simp only [if_neg c1, if_neg c2, reduceIte]; done) | (simp only [if_neg c1, if_neg c2, reduceIte]; rfl) | rfl), rfl⟩
def f_Math_floorMod (x : Int32) (y : Int32) : Int32 :=
  if 0 ≤ (x ^^^ y) then (x - x / y * y) else (if (x - x / y * y) = 0 then (x - x / y * y) else ((x - x / y * y) + y))
set_option maxRecDepth 20000 in
set_option maxHeartbeats 4000000 in
theorem k_Math_floorMod {l : Launch} {S : State} {D : va_G} {dA : Nat → ClassId} (E : jm_en S D jm_cl (jm_ty dA) jm_G) (x : Int32) (y : Int32) (h : jm_H)   (p0 : ¬ y = 0) : jm_M l S D jm_cl y_Math_floorMod (Cond.code y_Math_floorMod b_Math_floorMod 3 (some FieldType.int)) { frames := 0, cells := 0, slots := 0, locals := 0 } [.int x, .int y] h (jm_R (some (.int (f_Math_floorMod x y))) h) 0 0 := by
  refine jm_ofWF E (by decide +kernel) (Nat.le_of_ble_eq_true rfl) (fun p e s m below meth c X hr hk hmn hout hadm => ?_)
  have X : jm_cx p s m ([.int x, .int y] : List Value).toArray c S D jm_cl (jm_ty dA) jm_G b_Math_floorMod 3 "java/lang/Math" := X
  show jm_W p l e ({ frames := 0, cells := 0, slots := 0, locals := 0 }) s m ([.int x, .int y] : List Value).toArray below meth c S D jm_cl (jm_Q S D jm_cl below s (jm_R (some (.int (f_Math_floorMod x y))) h) 0 0) 3 0 [(0, .int x), (1, .int y)] [] (h) 0 0
  refine jm_iload_n X d_Math_floorMod_0 rfl 0 rfl ?_
  refine jm_iload_n X d_Math_floorMod_1 rfl 1 rfl ?_
  refine jm_irem X d_Math_floorMod_2 (by with_reducible assumption) ?_
  refine jm_istore_n X d_Math_floorMod_3 rfl (by decide) (lv1 := [(2, .int (x - x / y * y)), (0, .int x), (1, .int y)]) rfl ?_
  refine jm_iload_n X d_Math_floorMod_4 rfl 1 rfl ?_
  refine jm_iload_n X d_Math_floorMod_5 rfl 2 rfl ?_
  refine jm_ixor X d_Math_floorMod_6 ?_
  refine jm_if_ge (tgt := 18) X d_Math_floorMod_7 (by decide) (fun c1 => ?_) (fun c1 => ?_)
  · refine jm_iload_n X d_Math_floorMod_18 rfl 0 rfl ?_
    exact jm_iret X hr hk d_Math_floorMod_19 ⟨(by show Outcome.returned _ = Outcome.returned _; unfold f_Math_floorMod; first | (simp only [if_pos c1, reduceIte]; done) | (simp only [if_pos c1, reduceIte]; rfl) | rfl), rfl⟩
  · refine jm_iload_n X d_Math_floorMod_10 rfl 0 rfl ?_
    refine jm_if_eq (tgt := 18) X d_Math_floorMod_11 (by decide) (fun c2 => ?_) (fun c2 => ?_)
    · refine jm_iload_n X d_Math_floorMod_18 rfl 0 rfl ?_
      exact jm_iret X hr hk d_Math_floorMod_19 ⟨(by show Outcome.returned _ = Outcome.returned _; unfold f_Math_floorMod; first | (simp only [if_neg c1, if_pos c2, reduceIte]; done) | (simp only [if_neg c1, if_pos c2, reduceIte]; rfl) | rfl), rfl⟩
    · refine jm_iload_n X d_Math_floorMod_14 rfl 0 rfl ?_
      refine jm_iload_n X d_Math_floorMod_15 rfl 2 rfl ?_
      refine jm_iadd X d_Math_floorMod_16 ?_
      exact jm_iret X hr hk d_Math_floorMod_17 ⟨(by show Outcome.returned _ = Outcome.returned _; unfold f_Math_floorMod; first | (simp only [if_neg c1, if_neg c2, reduceIte]; done) | (simp only [if_neg c1, if_neg c2, reduceIte]; rfl) | rfl), rfl⟩
def f_Math_floorDiv2 (x : Int64) (y : Int64) : Int64 :=
  if ((0 : Int64)) ≤ (x ^^^ y) then (x / y) else (if ((x / y) * y) = x then (x / y) else ((x / y) - 1))
set_option maxRecDepth 20000 in
set_option maxHeartbeats 4000000 in
theorem k_Math_floorDiv2 {l : Launch} {S : State} {D : va_G} {dA : Nat → ClassId} (E : jm_en S D jm_cl (jm_ty dA) jm_G) (x : Int64) (y : Int64) (h : jm_H)   (p0 : ¬ y = 0) : jm_M l S D jm_cl y_Math_floorDiv2 (Cond.code y_Math_floorDiv2 b_Math_floorDiv2 6 (some FieldType.long)) { frames := 0, cells := 0, slots := 0, locals := 0 } [.long x, .long y] h (jm_R (some (.long (f_Math_floorDiv2 x y))) h) 0 0 := by
  refine jm_ofWF E (by decide +kernel) (Nat.le_of_ble_eq_true rfl) (fun p e s m below meth c X hr hk hmn hout hadm => ?_)
  have X : jm_cx p s m ([.long x, .long y] : List Value).toArray c S D jm_cl (jm_ty dA) jm_G b_Math_floorDiv2 6 "java/lang/Math" := X
  show jm_W p l e ({ frames := 0, cells := 0, slots := 0, locals := 0 }) s m ([.long x, .long y] : List Value).toArray below meth c S D jm_cl (jm_Q S D jm_cl below s (jm_R (some (.long (f_Math_floorDiv2 x y))) h) 0 0) 6 0 [(0, .long x), (2, .long y)] [] (h) 0 0
  refine jm_lload_n X d_Math_floorDiv2_0 rfl 0 rfl ?_
  refine jm_lload_n X d_Math_floorDiv2_1 rfl 1 rfl ?_
  refine jm_ldiv X d_Math_floorDiv2_2 (by with_reducible assumption) ?_
  refine jm_lstore X d_Math_floorDiv2_3 (by decide) (lv1 := [(4, .long (x / y)), (0, .long x), (2, .long y)]) rfl ?_
  refine jm_lload_n X d_Math_floorDiv2_5 rfl 1 rfl ?_
  refine jm_lload_n X d_Math_floorDiv2_6 rfl 2 rfl ?_
  refine jm_lxor X d_Math_floorDiv2_7 ?_
  refine jm_lconst (v := 0) X d_Math_floorDiv2_8 (by decide) ?_
  refine jm_lcmp X d_Math_floorDiv2_9 ?_
  refine jm_lif_ge (tgt := 27) X d_Math_floorDiv2_10 (by decide) (fun c1 => ?_) (fun c1 => ?_)
  · refine jm_lload X d_Math_floorDiv2_27 0 rfl ?_
    exact jm_lret X hr hk d_Math_floorDiv2_29 ⟨(by show Outcome.returned _ = Outcome.returned _; unfold f_Math_floorDiv2; first | (simp only [if_pos c1, reduceIte]; done) | (simp only [if_pos c1, reduceIte]; rfl) | rfl), rfl⟩
  · refine jm_lload X d_Math_floorDiv2_13 0 rfl ?_
    refine jm_lload_n X d_Math_floorDiv2_15 rfl 2 rfl ?_
    refine jm_lmul X d_Math_floorDiv2_16 ?_
    refine jm_lload_n X d_Math_floorDiv2_17 rfl 1 rfl ?_
    refine jm_lcmp X d_Math_floorDiv2_18 ?_
    refine jm_lif_eq (tgt := 27) X d_Math_floorDiv2_19 (by decide) (fun c2 => ?_) (fun c2 => ?_)
    · refine jm_lload X d_Math_floorDiv2_27 0 rfl ?_
      exact jm_lret X hr hk d_Math_floorDiv2_29 ⟨(by show Outcome.returned _ = Outcome.returned _; unfold f_Math_floorDiv2; first | (simp only [if_neg c1, if_pos c2, reduceIte]; done) | (simp only [if_neg c1, if_pos c2, reduceIte]; rfl) | rfl), rfl⟩
    · refine jm_lload X d_Math_floorDiv2_22 0 rfl ?_
      refine jm_lconst (v := 1) X d_Math_floorDiv2_24 (by decide) ?_
      refine jm_lsub X d_Math_floorDiv2_25 ?_
      exact jm_lret X hr hk d_Math_floorDiv2_26 ⟨(by show Outcome.returned _ = Outcome.returned _; unfold f_Math_floorDiv2; first | (simp only [if_neg c1, if_neg c2, reduceIte]; done) | (simp only [if_neg c1, if_neg c2, reduceIte]; rfl) | rfl), rfl⟩
def f_Math_floorMod2 (x : Int64) (y : Int64) : Int64 :=
  if ((0 : Int64)) ≤ (x ^^^ y) then (x - x / y * y) else (if (x - x / y * y) = 0 then (x - x / y * y) else ((x - x / y * y) + y))
set_option maxRecDepth 20000 in
set_option maxHeartbeats 4000000 in
theorem k_Math_floorMod2 {l : Launch} {S : State} {D : va_G} {dA : Nat → ClassId} (E : jm_en S D jm_cl (jm_ty dA) jm_G) (x : Int64) (y : Int64) (h : jm_H)   (p0 : ¬ y = 0) : jm_M l S D jm_cl y_Math_floorMod2 (Cond.code y_Math_floorMod2 b_Math_floorMod2 6 (some FieldType.long)) { frames := 0, cells := 0, slots := 0, locals := 0 } [.long x, .long y] h (jm_R (some (.long (f_Math_floorMod2 x y))) h) 0 0 := by
  refine jm_ofWF E (by decide +kernel) (Nat.le_of_ble_eq_true rfl) (fun p e s m below meth c X hr hk hmn hout hadm => ?_)
  have X : jm_cx p s m ([.long x, .long y] : List Value).toArray c S D jm_cl (jm_ty dA) jm_G b_Math_floorMod2 6 "java/lang/Math" := X
  show jm_W p l e ({ frames := 0, cells := 0, slots := 0, locals := 0 }) s m ([.long x, .long y] : List Value).toArray below meth c S D jm_cl (jm_Q S D jm_cl below s (jm_R (some (.long (f_Math_floorMod2 x y))) h) 0 0) 6 0 [(0, .long x), (2, .long y)] [] (h) 0 0
  refine jm_lload_n X d_Math_floorMod2_0 rfl 0 rfl ?_
  refine jm_lload_n X d_Math_floorMod2_1 rfl 1 rfl ?_
  refine jm_lrem X d_Math_floorMod2_2 (by with_reducible assumption) ?_
  refine jm_lstore X d_Math_floorMod2_3 (by decide) (lv1 := [(4, .long (x - x / y * y)), (0, .long x), (2, .long y)]) rfl ?_
  refine jm_lload_n X d_Math_floorMod2_5 rfl 1 rfl ?_
  refine jm_lload_n X d_Math_floorMod2_6 rfl 2 rfl ?_
  refine jm_lxor X d_Math_floorMod2_7 ?_
  refine jm_lconst (v := 0) X d_Math_floorMod2_8 (by decide) ?_
  refine jm_lcmp X d_Math_floorMod2_9 ?_
  refine jm_lif_ge (tgt := 25) X d_Math_floorMod2_10 (by decide) (fun c1 => ?_) (fun c1 => ?_)
  · refine jm_lload X d_Math_floorMod2_25 0 rfl ?_
    exact jm_lret X hr hk d_Math_floorMod2_27 ⟨(by show Outcome.returned _ = Outcome.returned _; unfold f_Math_floorMod2; first | (simp only [if_pos c1, reduceIte]; done) | (simp only [if_pos c1, reduceIte]; rfl) | rfl), rfl⟩
  · refine jm_lload X d_Math_floorMod2_13 0 rfl ?_
    refine jm_lconst (v := 0) X d_Math_floorMod2_15 (by decide) ?_
    refine jm_lcmp X d_Math_floorMod2_16 ?_
    refine jm_lif_eq (tgt := 25) X d_Math_floorMod2_17 (by decide) (fun c2 => ?_) (fun c2 => ?_)
    · refine jm_lload X d_Math_floorMod2_25 0 rfl ?_
      exact jm_lret X hr hk d_Math_floorMod2_27 ⟨(by show Outcome.returned _ = Outcome.returned _; unfold f_Math_floorMod2; first | (simp only [if_neg c1, if_pos c2, reduceIte]; done) | (simp only [if_neg c1, if_pos c2, reduceIte]; rfl) | rfl), rfl⟩
    · refine jm_lload X d_Math_floorMod2_20 0 rfl ?_
      refine jm_lload_n X d_Math_floorMod2_22 rfl 2 rfl ?_
      refine jm_ladd X d_Math_floorMod2_23 ?_
      exact jm_lret X hr hk d_Math_floorMod2_24 ⟨(by show Outcome.returned _ = Outcome.returned _; unfold f_Math_floorMod2; first | (simp only [if_neg c1, if_neg c2, reduceIte]; done) | (simp only [if_neg c1, if_neg c2, reduceIte]; rfl) | rfl), rfl⟩
def f_Long_bitCount (x : Int64) : Int32 :=
  let w9 : Int64 := x - ((((x : Int64).toUInt64 >>> ((1 : Int32).toInt64.toUInt64 &&& Int64.toUInt64 63)).toInt64) &&& 6148914691236517205)
  let w23 : Int64 := (w9 &&& 3689348814741910323) + ((((w9 : Int64).toUInt64 >>> ((2 : Int32).toInt64.toUInt64 &&& Int64.toUInt64 63)).toInt64) &&& 3689348814741910323)
  let w33 : Int64 := (w23 + (((w23 : Int64).toUInt64 >>> ((4 : Int32).toInt64.toUInt64 &&& Int64.toUInt64 63)).toInt64)) &&& 1085102592571150095
  let w40 : Int64 := w33 + (((w33 : Int64).toUInt64 >>> ((8 : Int32).toInt64.toUInt64 &&& Int64.toUInt64 63)).toInt64)
  let w47 : Int64 := w40 + (((w40 : Int64).toUInt64 >>> ((16 : Int32).toInt64.toUInt64 &&& Int64.toUInt64 63)).toInt64)
  let w54 : Int64 := w47 + (((w47 : Int64).toUInt64 >>> ((32 : Int32).toInt64.toUInt64 &&& Int64.toUInt64 63)).toInt64)
  ((w54 : Int64).toInt32) &&& 127
set_option maxRecDepth 20000 in
set_option maxHeartbeats 4000000 in
theorem k_Long_bitCount {l : Launch} {S : State} {D : va_G} {dA : Nat → ClassId} (E : jm_en S D jm_cl (jm_ty dA) jm_G) (x : Int64) (h : jm_H)    : jm_M l S D jm_cl y_Long_bitCount (Cond.code y_Long_bitCount b_Long_bitCount 2 (some FieldType.int)) { frames := 0, cells := 0, slots := 0, locals := 0 } [.long x] h (jm_R (some (.int (f_Long_bitCount x))) h) 0 0 := by
  refine jm_ofWF E (by decide +kernel) (Nat.le_of_ble_eq_true rfl) (fun p e s m below meth c X hr hk hmn hout hadm => ?_)
  have X : jm_cx p s m ([.long x] : List Value).toArray c S D jm_cl (jm_ty dA) jm_G b_Long_bitCount 2 "java/lang/Long" := X
  show jm_W p l e ({ frames := 0, cells := 0, slots := 0, locals := 0 }) s m ([.long x] : List Value).toArray below meth c S D jm_cl (jm_Q S D jm_cl below s (jm_R (some (.int (f_Long_bitCount x))) h) 0 0) 2 0 [(0, .long x)] [] (h) 0 0
  refine jm_lload_n X d_Long_bitCount_0 rfl 0 rfl ?_
  refine jm_lload_n X d_Long_bitCount_1 rfl 0 rfl ?_
  refine jm_iconst (v := 1) X d_Long_bitCount_2 (by decide) ?_
  refine jm_lushr X d_Long_bitCount_3 ?_
  refine jm_ldc2 (v := 6148914691236517205) X d_Long_bitCount_4 (jm_g4 60 rfl rfl) ?_
  refine jm_land X d_Long_bitCount_7 ?_
  refine jm_lsub X d_Long_bitCount_8 ?_
  refine jm_topl (fun w9 ew9 => ?_)
  refine jm_lstore_n X d_Long_bitCount_9 rfl (by decide) (lv1 := [(0, .long w9)]) rfl ?_
  refine jm_lload_n X d_Long_bitCount_10 rfl 0 rfl ?_
  refine jm_ldc2 (v := 3689348814741910323) X d_Long_bitCount_11 (jm_g4 61 rfl rfl) ?_
  refine jm_land X d_Long_bitCount_14 ?_
  refine jm_lload_n X d_Long_bitCount_15 rfl 0 rfl ?_
  refine jm_iconst (v := 2) X d_Long_bitCount_16 (by decide) ?_
  refine jm_lushr X d_Long_bitCount_17 ?_
  refine jm_ldc2 (v := 3689348814741910323) X d_Long_bitCount_18 (jm_g4 61 rfl rfl) ?_
  refine jm_land X d_Long_bitCount_21 ?_
  refine jm_ladd X d_Long_bitCount_22 ?_
  refine jm_topl (fun w23 ew23 => ?_)
  refine jm_lstore_n X d_Long_bitCount_23 rfl (by decide) (lv1 := [(0, .long w23)]) rfl ?_
  refine jm_lload_n X d_Long_bitCount_24 rfl 0 rfl ?_
  refine jm_lload_n X d_Long_bitCount_25 rfl 0 rfl ?_
  refine jm_iconst (v := 4) X d_Long_bitCount_26 (by decide) ?_
  refine jm_lushr X d_Long_bitCount_27 ?_
  refine jm_ladd X d_Long_bitCount_28 ?_
  refine jm_ldc2 (v := 1085102592571150095) X d_Long_bitCount_29 (jm_g4 62 rfl rfl) ?_
  refine jm_land X d_Long_bitCount_32 ?_
  refine jm_topl (fun w33 ew33 => ?_)
  refine jm_lstore_n X d_Long_bitCount_33 rfl (by decide) (lv1 := [(0, .long w33)]) rfl ?_
  refine jm_lload_n X d_Long_bitCount_34 rfl 0 rfl ?_
  refine jm_lload_n X d_Long_bitCount_35 rfl 0 rfl ?_
  refine jm_bipush (v := 8) X d_Long_bitCount_36 (by decide) ?_
  refine jm_lushr X d_Long_bitCount_38 ?_
  refine jm_ladd X d_Long_bitCount_39 ?_
  refine jm_topl (fun w40 ew40 => ?_)
  refine jm_lstore_n X d_Long_bitCount_40 rfl (by decide) (lv1 := [(0, .long w40)]) rfl ?_
  refine jm_lload_n X d_Long_bitCount_41 rfl 0 rfl ?_
  refine jm_lload_n X d_Long_bitCount_42 rfl 0 rfl ?_
  refine jm_bipush (v := 16) X d_Long_bitCount_43 (by decide) ?_
  refine jm_lushr X d_Long_bitCount_45 ?_
  refine jm_ladd X d_Long_bitCount_46 ?_
  refine jm_topl (fun w47 ew47 => ?_)
  refine jm_lstore_n X d_Long_bitCount_47 rfl (by decide) (lv1 := [(0, .long w47)]) rfl ?_
  refine jm_lload_n X d_Long_bitCount_48 rfl 0 rfl ?_
  refine jm_lload_n X d_Long_bitCount_49 rfl 0 rfl ?_
  refine jm_bipush (v := 32) X d_Long_bitCount_50 (by decide) ?_
  refine jm_lushr X d_Long_bitCount_52 ?_
  refine jm_ladd X d_Long_bitCount_53 ?_
  refine jm_topl (fun w54 ew54 => ?_)
  refine jm_lstore_n X d_Long_bitCount_54 rfl (by decide) (lv1 := [(0, .long w54)]) rfl ?_
  refine jm_lload_n X d_Long_bitCount_55 rfl 0 rfl ?_
  refine jm_l2i X d_Long_bitCount_56 ?_
  refine jm_bipush (v := 127) X d_Long_bitCount_57 (by decide) ?_
  refine jm_iand X d_Long_bitCount_59 ?_
  exact jm_iret X hr hk d_Long_bitCount_60 ⟨(by show Outcome.returned _ = Outcome.returned _; unfold f_Long_bitCount; subst ew54; subst ew47; subst ew40; subst ew33; subst ew23; subst ew9; rfl), rfl⟩
end
section
section JM8
variable {p : Program} {l : Launch} {e : Env} {R : Room} {s : State} {m : MethodId} {args : Array Value} {below : List Frame} {meth : Method} {c : Code} {Q : State → Prop}
variable {S : State} {D : va_G} {cl : List vw_C} {tys : List (ClassId × FieldType)} {G : List Cond} {cc : ByteArray} {nL pc dc ds : Nat} {own : String} {lv : List (Nat × Value)} {rest st : List Value} {h : jm_H}
theorem jm_stat {S U : State} {a a' : Array Value} {C n d : String} (hev : jm_ev S U) (hw : (Cond.laysStatic C n d).before a S = true) : (Cond.laysStatic C n d).before a' U = true := by
  obtain ⟨c, k, i, f, ad, cell, hc, hi, hst, ha, hcell, hs, hcls, hlt, hty⟩ := Cond.laysStatic_spec hw
  obtain ⟨k', hi', he⟩ := State.fieldFound?_setVm hev.1.alike hi
  have hlt2 := (Array.getElem?_eq_some_iff.mp hcell).1
  exact Cond.laysStatic_of (by rw [hev.1.alike.findClass]; exact hc) hi' hst (by rw [he]; exact ha) (by rw [hev.2.2 ad hlt2]; exact hcell) hs hcls hlt (by rw [he]; exact hty)
theorem jm_evS {S U : State} {a a' : Array Value} {C n d : String} (hev : jm_ev S U) (hw : (Cond.laysStatic C n d).before a S = true) : (Term.static C n d).eval a' U none [] U = (Term.static C n d).eval a S none [] S := by
  obtain ⟨c, k, i, f, ad, cell, hc, hi, hst, ha, hcell, hs, hcls, hlt, hty⟩ := Cond.laysStatic_spec hw
  obtain ⟨k', hi', he⟩ := State.fieldFound?_setVm hev.1.alike hi
  have hlt2 := (Array.getElem?_eq_some_iff.mp hcell).1
  have ha' : k'.statics = some ad := by rw [he]; exact ha
  have hc' : U.heap[ad]? = some cell := by rw [hev.2.2 ad hlt2]; exact hcell
  have hi2 : U.fieldFound? C n d = some (c, k', i, f) := hi'
  simp [Term.eval, State.fieldNamed?, hi2, hi, hst, ha, ha', hcell, hc']
theorem jm_sref {S U : State} {a a' : Array Value} {C n d : String} (hev : jm_ev S U) (hw : (Cond.laysStatic C n d).before a S = true) (hr : (Cond.isRef (.static C n d)).before a S = true) : (Cond.isRef (.static C n d)).before a' U = true := by
  have e1 := jm_evS (a := a) (a' := a') hev hw
  simp only [Cond.before, Cond.holds, Cond.value, e1] at hr ⊢
  exact hr
theorem jm_cast {S U : State} {a a' : Array Value} {A B : String} (hev : jm_ev S U) (hw : (Cond.castable A B).before a S = true) : (Cond.castable A B).before a' U = true := by
  obtain ⟨c1, t1, h1, h2, h3⟩ := Cond.castable_spec hw
  have g1 : U.vm.findClass A = some c1 := by rw [hev.1.alike.findClass]; exact h1
  have g2 : U.vm.findClass B = some t1 := by rw [hev.1.alike.findClass]; exact h2
  have g3 : U.vm.assignable c1 t1 = true := by rw [hev.1.alike.assignable]; exact h3
  simp [Cond.before, Cond.holds, Cond.value, g1, g2, g3]
def jm_hs (S : State) (w : Cond) : Prop := (∃ C n d, w = .laysStatic C n d ∧ ∃ a0 : Array Value, (Cond.laysStatic C n d).before a0 S = true) ∨ (∃ C n d, w = .isRef (.static C n d) ∧ ∃ a0 : Array Value, (Cond.laysStatic C n d).before a0 S = true ∧ (Cond.isRef (.static C n d)).before a0 S = true) ∨ ∃ A B, w = .castable A B ∧ ∃ a0 : Array Value, (Cond.castable A B).before a0 S = true
theorem jm_hs_w {S U : State} {a : Array Value} {w : Cond} (hev : jm_ev S U) (hw : jm_hs S w) : w.before a U = true := by
  rcases hw with ⟨C, n, d, rfl, a0, h1⟩ | ⟨C, n, d, rfl, a0, h1, h2⟩ | ⟨A, B, rfl, a0, h1⟩
  · exact jm_stat hev h1
  · exact jm_sref hev h1 h2
  · exact jm_cast hev h1
theorem jm_throw {Po : Outcome → jm_H → Prop} (X : jm_cx p s m args c S D cl tys G cc nL own) (hst : l.stackTraces = false) {cls : String} {names : List String} {ik ic ci : Nat} {T0 : u_T} (hcls : Bundle.fit cls = true) (hnames : ∀ n ∈ names, Bundle.fit n = true)
    (d0 : decode cc pc = .ok (.new ik, 3)) (d3 : decode cc (pc + 3) = .ok (.dup, 1)) (d4 : decode cc (pc + 4) = .ok (.invokespecial ic, 3)) (d7 : decode cc (pc + 7) = .ok (.athrow, 1))
    (w1 : Cond.classLink own ik cls ∈ G) (w2 : Cond.instantiable cls 6 ∈ G) (w3 : Cond.initialized cls ∈ G) (hat : ∀ w ∈ Bundle.ownAtoms0 own ic cls names, w ∈ G ∨ jm_hs S w) (hci : cl[ci]? = some (cls, T0, 0)) (hout : c.exceptionTable.isEmpty = true) (hk : meth.locks = false)
    (hR1 : names.length + 3 < R.frames) (hR2 : ((Value.ref 0 :: rest).map fun v => v.category).sum + (13 * (names.length + 1) + 41) ≤ R.locals) (hcells : dc + 1 ≤ R.cells) (hslots : ds + 6 ≤ R.slots)
    (hP : ∀ q : Nat, h q = none → S.heap.size ≤ q → Po (.threw q) (jm_up h q (.inr (ci, [])))) : jm_W p l e R s m args below meth c S D cl (jm_Q S D cl below s Po (dc + 1) (ds + 6)) nL pc lv rest h dc ds := by
  intro H ls locs hl hr hS T hT Y
  subst hT
  have htr : e.platform.stackTraces = false := (show e.platform.stackTraces = l.stackTraces by rw [Y.admits.platform]).trans hst
  have Z := jm_rebase Y (by omega) (by omega)
  have hevT := jm_evT X hS Y.warmed
  have hev : jm_ev S (T.setFrames (.invoking m args :: below)) := hevT
  have hts := jm_en_w X.2.2.2.2.2.2.2 hev.1 args
  have hown : (T.setFrames (.invoking m args :: below)).vm.findClass own = some m.cls := by
    show T.vm.findClass own = _
    rw [Y.warmed.alike.findClass]
    exact X.2.2.2.1
  obtain ⟨vm₁, cX, kX, hfX, hkX, -, -, Z1, st1⟩ := Z.newCold X.1 (own := own) (C := cls) (index := ik) (n := 6) hown (hts _ w1) (hts _ w2) (hts _ w3) (g := F0 m pc ls rest) rfl (by rw [X.2.1]; exact d0) (by show 0 + 1 ≤ R.cells - dc; omega) (by show 0 + 6 ≤ R.slots - ds; omega)
  generalize hT1 : (T.setVm vm₁).pushCell { cls := cX, slots := kX.instanceTypes.map defaultValue, vm := .none } = T1 at Z1 st1
  have hcellA : T1.heap[T.heap.size]? = some (freshCell cX kX) := by rw [← hT1]; exact State.heap_pushCell_size _ _
  obtain ⟨U, hsteps, hrun, hend, hW, hsame, ce, hce, K⟩ := Z1.ctorThrow0 X.1 htr (own := own) (cls := cls) (names := names) (ic := ic) hown hcls hnames (fun w hw => by
      rcases hat w hw with h1 | h1
      · exact hts w h1
      · exact jm_hs_w hev h1) (fun y hy => by cases hy) hfX hkX hcellA (Nat.le_refl _)
    (g := F0 m (pc + 4) ls (.ref T.heap.size :: .ref T.heap.size :: rest)) rfl (hl.1.trans X.2.2.1.symm) rfl rfl (rest := rest) rfl (by rw [X.2.1]; exact d4) (by rw [X.2.1]; exact d7) (covers_of_empty hout _) hR1 (by
      show 2 * 0 + _ + _ ≤ R.locals
      have : ((Value.ref T.heap.size :: rest).map fun v => v.category).sum = ((Value.ref 0 :: rest).map fun v => v.category).sum := rfl
      omega) (hlocks := hk)
  obtain ⟨hz, hold⟩ := jm_sameOf (s := T.setFrames (.invoking m args :: below)) (L := []) hsame
  have hz : T.heap.size ≤ U.heap.size := hz
  have hold : ∀ q : Nat, q < T.heap.size → U.heap[q]? = T.heap[q]? := hold
  have hnew : h T.heap.size = none := by
    cases hh : h T.heap.size with
    | none => rfl
    | some z => exact absurd (hr _ _ hh).2.lt (Nat.lt_irrefl _)
  have hsz : S.heap.size ≤ T.heap.size := hevT.2.1
  have hKc := (va_K.moved hevT.1.alike X.2.2.2.2.2.2.2.2.2).1 ci _ hci
  refine ⟨U, ?_, .threw T.heap.size, hrun, hend, ⟨_, hP _ hnew hsz, ?_⟩, ⟨Nat.le_trans hS.1 hz, fun q a b => (hold q (Nat.lt_of_lt_of_le a hS.1)).trans (hS.2.1 q a b)⟩, State.WarmedH.trans Y.warmed hW, locs ++ [], ?_, fun q hq => hS.2.2 q (by simpa using hq)⟩
  · refine st1 _ ?_
    show Steps p.tables e below (T1.setTop (F0 m (pc + 3) ls (.ref T.heap.size :: rest))) _
    jvm_step Z1.here [Z1.here.top, X.1, X.2.1, d3, Value.category]
    exact hsteps
  · intro a x hx
    by_cases e1 : a = T.heap.size
    · subst e1
      rw [jm_up_eq] at hx
      cases hx
      refine ⟨hsz, _, hci, ce, hce, ?_, K.vm, fun k hk => absurd hk (Nat.not_lt_zero _)⟩
      exact Option.some.inj (K.cls.symm.trans hKc.2.1)
    · rw [jm_up_ne _ _ e1] at hx
      obtain ⟨g1, g2⟩ := hr a x hx
      refine ⟨g1, ?_⟩
      have hk := hold a g2.lt
      exact va_at.kept g2 hk
  · have h1 : s.sameButNew ((T.setFrames (.invoking m args :: below)).setVm s.vm) locs dc ds := (Y.ends _).2
    have h2 := State.sameButNew.setVm hsame s.vm
    have h3 := h1.trans h2
    rw [Nat.zero_add, Nat.zero_add] at h3
    exact h3
end JM8
end
section
section JX0
abbrev jx_H : Type := List (Nat × List Value)
abbrev jx_N : Type := Nat × List (Nat × Value) × List Value × jx_H × Nat × Nat
abbrev jx_A : Type := jx_N ⊕ ((Nat × List Value × List Value) ⊕ (Option Value ⊕ Nat))
abbrev jx_L : Type := Nat × Instr × Nat × List Nat × Value
abbrev jx_Me : Type := MethodName × ByteArray × Nat × Option FieldType × List (Nat × Nat × Nat × Nat × Nat) × List jx_L
abbrev jx_O : Type := (Option Value ⊕ Nat) × jx_H × Nat × Nat
def jx_lk (lv : List (Nat × Value)) (i : Nat) : Option Value := (lv.find? (fun q => q.1 == i)).map Prod.snd
def jx_s1 (lv : List (Nat × Value)) (i : Nat) (v : Value) : List (Nat × Value) := (i, v) :: lv.filter (fun q => !(q.1 == i) && !(q.1 + 1 == i && q.2.category == 2))
def jx_s2 (lv : List (Nat × Value)) (i : Nat) (v : Value) : List (Nat × Value) := (i, v) :: lv.filter (fun q => !(q.1 == i) && (!(q.1 == i + 1) && !(q.1 + 1 == i && q.2.category == 2)))
def jx_k (pc : Nat) (lv : List (Nat × Value)) (st : Option (List Value)) (M : jx_H) (dc ds : Nat) : Option jx_A := match st with
  | some st => some (.inl (pc, lv, st, M, dc, ds))
  | none => none
def jx_ii (f : Int32 → Int32 → Int32) (st : List Value) : Option (List Value) := match st with
  | .int y :: .int x :: r => some (.int (f x y) :: r)
  | _ => none
def jx_ll (f : Int64 → Int64 → Int64) (st : List Value) : Option (List Value) := match st with
  | .long y :: .long x :: r => some (.long (f x y) :: r)
  | _ => none
def jx_iz (f : Int32 → Int32 → Int32) (st : List Value) : Option (List Value) := match st with
  | .int y :: .int x :: r => if y = 0 then none else some (.int (f x y) :: r)
  | _ => none
def jx_lz (f : Int64 → Int64 → Int64) (st : List Value) : Option (List Value) := match st with
  | .long y :: .long x :: r => if y = 0 then none else some (.long (f x y) :: r)
  | _ => none
def jx_li (f : Int64 → Int32 → Int64) (st : List Value) : Option (List Value) := match st with
  | .int y :: .long x :: r => some (.long (f x y) :: r)
  | _ => none
def jx_lc (f : Int64 → Int64 → Int32) (st : List Value) : Option (List Value) := match st with
  | .long y :: .long x :: r => some (.int (f x y) :: r)
  | _ => none
def jx_i1 (f : Int32 → Value) (st : List Value) : Option (List Value) := match st with
  | .int x :: r => some (f x :: r)
  | _ => none
def jx_l1 (f : Int64 → Value) (st : List Value) : Option (List Value) := match st with
  | .long x :: r => some (f x :: r)
  | _ => none
def jx_jp (pc : Nat) (off : Int) : Option Nat := match (pc : Int) + off with
  | .ofNat t => some t
  | .negSucc _ => none
def jx_cz (c : ClassFile.Cond) (x : Int32) : Bool := match c with
  | .eq => decide (x = 0)
  | .ne => !decide (x = 0)
  | .lt => decide (x < 0)
  | .ge => decide (0 ≤ x)
  | .gt => decide (0 < x)
  | .le => decide (x ≤ 0)
def jx_cc (c : ClassFile.Cond) (x y : Int32) : Bool := match c with
  | .eq => decide (x = y)
  | .ne => !decide (x = y)
  | .lt => decide (x < y)
  | .ge => decide (y ≤ x)
  | .gt => decide (y < x)
  | .le => decide (x ≤ y)
def jx_to (b : Bool) (pc len : Nat) (off : Int) (lv : List (Nat × Value)) (st : List Value) (M : jx_H) (dc ds : Nat) : Option jx_A := match jx_jp pc off with
  | some t => some (.inl ((match b with
    | true => t
    | false => pc + len), lv, st, M, dc, ds))
  | none => none
def jx_ty : Nat → FieldType
  | 0 => .int
  | 1 => .long
  | 2 => .boolean
  | 3 => .byte
  | _ => .object ""
def jx_fit (t : Nat) (v : Value) : Bool := match t, v with
  | 0, .int _ => true
  | 1, .long _ => true
  | 2, .int x => decide (x = 0) || decide (x = 1)
  | 4, .null => true
  | 4, .ref _ => true
  | _, _ => false
/-- the elements an array of the kind takes at the start -/
def jx_el (t : Nat) : Value := if t < 3 then .int 0 else if t = 3 then .long 0 else .null
def jx_cat (st : List Value) : Nat := (st.map fun v => v.category).sum
def jx_gf (pc : Nat) (lv : List (Nat × Value)) (M : jx_H) (dc ds : Nat) (x : List Nat) (st : List Value) : Option jx_A := match x, st with
  | [ci, k], .ref a :: r => match M[a]? with
    | some (cj, fs) => if cj = ci then (match fs[k]? with
      | some v => some (.inl (pc + 3, lv, v :: r, M, dc, ds))
      | none => none) else none
    | none => none
  | _, _ => none
def jx_pf (ini : Bool) (pc : Nat) (lv : List (Nat × Value)) (M : jx_H) (dc ds : Nat) (x : List Nat) (st : List Value) : Option jx_A := match x, st with
  | [ci, k, t, f], v :: .ref a :: r => match M[a]? with
    | some (cj, fs) => if cj = ci ∧ k < fs.length ∧ jx_fit t v = true ∧ (f = 0 ∨ ini = true) then some (.inl (pc + 3, lv, r, M.set a (ci, fs.set k v), dc, ds)) else none
    | none => none
  | _, _ => none
def jx_ald (ks : List Nat) (w : Value → Bool) (pc : Nat) (lv : List (Nat × Value)) (M : jx_H) (dc ds : Nat) (st : List Value) : Option jx_A := match st with
  | .int i :: .ref a :: r => match M[a]? with
    | some (k, L) => if ks.contains k = true ∧ ¬ i < 0 then (match L[i.toNatClampNeg]? with
      | some v => if w v = true then some (.inl (pc + 1, lv, v :: r, M, dc, ds)) else none
      | none => none) else none
    | none => none
  | _ => none
def jx_isI : Value → Bool
  | .int _ => true
  | _ => false
def jx_isL : Value → Bool
  | .long _ => true
  | _ => false
def jx_isR : Value → Bool
  | .null => true
  | .ref _ => true
  | _ => false
def jx_nar (k : Nat) (v : Value) : Value := match k, v with
  | 100, .int x => .int (vp_nar .byte x)
  | 101, .int x => .int (vp_nar .boolean x)
  | _, v => v
def jx_ast (ks : List Nat) (w : Value → Bool) (pc : Nat) (lv : List (Nat × Value)) (M : jx_H) (dc ds : Nat) (st : List Value) : Option jx_A := match st with
  | v :: .int i :: .ref a :: r => match M[a]? with
    | some (k, L) => if ks.contains k = true ∧ ¬ i < 0 ∧ i.toNatClampNeg < L.length ∧ w v = true then some (.inl (pc + 1, lv, r, M.set a (k, L.set i.toNatClampNeg (jx_nar k v)), dc, ds)) else none
    | none => none
  | _ => none
/-- the class of an object that an array of references takes -/
def jx_of (k : Nat) : Nat := match k with
  | 104 => 2
  | 105 => 4
  | 106 => 5
  | 107 => 7
  | _ => 1000
def jx_aas (pc : Nat) (lv : List (Nat × Value)) (M : jx_H) (dc ds : Nat) (st : List Value) : Option jx_A := match st with
  | .ref b :: .int i :: .ref a :: r => match M[a]?, M[b]? with
    | some (k, L), some (k2, _) => if (104 ≤ k ∧ k < 108) ∧ k2 = jx_of k ∧ ¬ i < 0 ∧ i.toNatClampNeg < L.length then some (.inl (pc + 1, lv, r, M.set a (k, L.set i.toNatClampNeg (.ref b)), dc, ds)) else none
    | _, _ => none
  | _ => none
def jx_aat (pc : Nat) (lv : List (Nat × Value)) (M : jx_H) (dc ds : Nat) (st : List Value) : Option jx_A := match st with
  | .ref b :: .int i :: .ref a :: r => match M[a]?, M[b]? with
    | some (k, L), some (k2, _) => if k = 108 ∧ k2 = 300 ∧ ¬ i < 0 ∧ i.toNatClampNeg < L.length then some (.inl (pc + 1, lv, r, M.set a (108, L.set i.toNatClampNeg (.ref b)), dc, ds)) else none
    | _, _ => none
  | _ => none
def jx_or (a b : Option jx_A) : Option jx_A := match a with
  | some z => some z
  | none => b
def jx_al (pc : Nat) (lv : List (Nat × Value)) (M : jx_H) (dc ds : Nat) (st : List Value) : Option jx_A := match st with
  | .ref a :: r => match M[a]? with
    | some (k, L) => if (100 ≤ k ∧ k < 113) ∨ k = 200 then some (.inl (pc + 1, lv, .int (Int32.ofNat L.length) :: r, M, dc, ds)) else none
    | none => none
  | _ => none
def jx_nw (pc : Nat) (lv : List (Nat × Value)) (M : jx_H) (dc ds : Nat) (df : List (List Value)) (x : List Nat) (st : List Value) : Option jx_A := match x with
  | [ci] => match df[ci]? with
    | some fs => some (.inl (pc + 3, lv, .ref M.length :: st, M ++ [(ci, fs)], dc + 1, ds + fs.length))
    | none => if ci < 15 then some (.inr (.inr (.inr ci))) else none
  | _ => none
def jx_na (len pc : Nat) (lv : List (Nat × Value)) (M : jx_H) (dc ds : Nat) (x : List Nat) (st : List Value) : Option jx_A := match x, st with
  | [t], .int n :: r => if n < 0 ∨ 67108864 < n.toNatClampNeg ∨ 13 ≤ t then none else some (.inl (pc + len, lv, .ref M.length :: r, M ++ [(100 + t, List.replicate n.toNatClampNeg (jx_el t))], dc + 1, ds + n.toNatClampNeg))
  | _, _ => none
/-- rows of an array of arrays: their cells, from the address a on -/
def jx_m2 (a n1 n2 t1 t2 : Nat) : jx_H := (100 + t1, (List.range n1).map (fun i => .ref (a + 1 + i))) :: List.replicate n1 (100 + t2, List.replicate n2 (jx_el t2))
def jx_m3 (a n2 n3 t2 t3 : Nat) : Nat → jx_H
  | 0 => []
  | n + 1 => jx_m2 a n2 n3 t2 t3 ++ jx_m3 (a + 1 + n2) n2 n3 t2 t3 n
def jx_mu (pc : Nat) (lv : List (Nat × Value)) (M : jx_H) (dc ds : Nat) (x : List Nat) (st : List Value) : Option jx_A := match x, st with
  | [t1, t2], .int b :: .int a :: r => if a < 0 ∨ b < 0 ∨ 1000 < a.toNatClampNeg ∨ 1000000 < b.toNatClampNeg then none else some (.inl (pc + 4, lv, .ref M.length :: r, M ++ jx_m2 M.length a.toNatClampNeg b.toNatClampNeg t1 t2, dc + (1 + a.toNatClampNeg), ds + (a.toNatClampNeg + a.toNatClampNeg * b.toNatClampNeg)))
  | [t1, t2, t3], .int c :: .int b :: .int a :: r => if a < 0 ∨ b < 0 ∨ c < 0 ∨ 1000 < a.toNatClampNeg ∨ 1000 < b.toNatClampNeg ∨ 1000000 < c.toNatClampNeg then none else
    some (.inl (pc + 4, lv, .ref M.length :: r, M ++ (100 + t1, (List.range a.toNatClampNeg).map (fun i => .ref (M.length + 1 + i * (1 + b.toNatClampNeg)))) :: jx_m3 (M.length + 1) b.toNatClampNeg c.toNatClampNeg t2 t3 a.toNatClampNeg, dc + (1 + a.toNatClampNeg + a.toNatClampNeg * b.toNatClampNeg), ds + (a.toNatClampNeg + a.toNatClampNeg * b.toNatClampNeg + a.toNatClampNeg * b.toNatClampNeg * c.toNatClampNeg)))
  | _, _ => none
def jx_cs (x : List Nat) (st : List Value) : Option jx_A := match x with
  | [k, n] => if n ≤ st.length ∧ jx_cat (st.drop n) ≤ 8 then some (.inr (.inl (k, (st.take n).reverse, st.drop n))) else none
  | _ => none
def jx_cv (M : jx_H) (x : List Nat) (st : List Value) : Option jx_A := match x with
  | [k, n, ci] => match st.drop n with
    | .ref b :: r => match M[b]? with
      | some (cj, _) => if cj = ci ∧ jx_cat r ≤ 8 then some (.inr (.inl (k, .ref b :: (st.take n).reverse, r))) else none
      | none => none
    | _ => none
  | _ => none
def jx_ci (x : List Nat) (st : List Value) : Option jx_A := match x with
  | [k, n] => match st.drop n with
    | .ref b :: r => if jx_cat r ≤ 8 then some (.inr (.inl (k, .ref b :: (st.take n).reverse, r))) else none
    | _ => none
  | _ => none
def jx_ri (ret : Option FieldType) (st : List Value) : Option jx_A := match ret, st with
  | some ty, [.int v] => if narrow ty (.int v) = .int v then some (.inr (.inr (.inl (some (.int v))))) else none
  | _, _ => none
def jx_rl (ret : Option FieldType) (st : List Value) : Option jx_A := match ret, st with
  | some .long, [.long v] => some (.inr (.inr (.inl (some (.long v)))))
  | _, _ => none
def jx_ra (ret : Option FieldType) (st : List Value) : Option jx_A := match ret, st with
  | some (.object _), [.ref a] => some (.inr (.inr (.inl (some (.ref a)))))
  | some (.array _), [.ref a] => some (.inr (.inr (.inl (some (.ref a)))))
  | _, _ => none
def jx_rv (ret : Option FieldType) (st : List Value) : Option jx_A := match ret, st with
  | none, [] => some (.inr (.inr (.inl none)))
  | _, _ => none
def jx_ld (n : Nat) (w : Value → Bool) (pc : Nat) (lv : List (Nat × Value)) (M : jx_H) (dc ds i : Nat) (st : List Value) : Option jx_A := match jx_lk lv i with
  | some v => if w v = true then some (.inl (pc + n, lv, v :: st, M, dc, ds)) else none
  | none => none
def jx_sr (n nL : Nat) (w : Value → Bool) (pc : Nat) (lv : List (Nat × Value)) (M : jx_H) (dc ds i : Nat) (st : List Value) : Option jx_A := match st with
  | v :: r => if w v = true ∧ i < nL then some (.inl (pc + n, jx_s1 lv i v, r, M, dc, ds)) else none
  | [] => none
def jx_sr2 (n nL : Nat) (pc : Nat) (lv : List (Nat × Value)) (M : jx_H) (dc ds i : Nat) (st : List Value) : Option jx_A := match st with
  | .long v :: r => if i + 1 < nL then some (.inl (pc + n, jx_s2 lv i (.long v), r, M, dc, ds)) else none
  | _ => none
def jx_isA : Value → Bool
  | .ref _ => true
  | _ => false
def jx_inc (nL pc : Nat) (lv : List (Nat × Value)) (M : jx_H) (dc ds i : Nat) (n : Int) (st : List Value) : Option jx_A := match jx_lk lv i with
  | some (.int x) => if i < nL then some (.inl (pc + 3, jx_s1 lv i (.int (x + Int32.ofInt n)), st, M, dc, ds)) else none
  | _ => none
def jx_du (pc : Nat) (lv : List (Nat × Value)) (M : jx_H) (dc ds : Nat) (st : List Value) : Option jx_A := match st with
  | v :: r => if v.category = 1 then some (.inl (pc + 1, lv, v :: v :: r, M, dc, ds)) else none
  | [] => none
def jx_po (pc : Nat) (lv : List (Nat × Value)) (M : jx_H) (dc ds : Nat) (st : List Value) : Option jx_A := match st with
  | v :: r => if v.category = 1 then some (.inl (pc + 1, lv, r, M, dc, ds)) else none
  | [] => none
def jx_d2 (pc : Nat) (lv : List (Nat × Value)) (M : jx_H) (dc ds : Nat) (st : List Value) : Option jx_A := match st with
  | v :: w :: r => if v.category = 1 ∧ w.category = 1 then some (.inl (pc + 1, lv, v :: w :: v :: w :: r, M, dc, ds)) else if v.category = 2 then some (.inl (pc + 1, lv, v :: v :: w :: r, M, dc, ds)) else none
  | _ => none
def jx_ts (pc : Nat) (d lo hi : Int) (offs : Array Int) (lv : List (Nat × Value)) (M : jx_H) (dc ds : Nat) (st : List Value) : Option jx_A := match st with
  | .int x :: r => if x.toInt < lo ∨ hi < x.toInt then jx_to true pc 0 d lv r M dc ds else match offs[(x.toInt - lo).toNat]? with
    | some off => jx_to true pc 0 off lv r M dc ds
    | none => none
  | _ => none
def jx_lus (pc : Nat) (d : Int) (ps : Array (Int × Int)) (lv : List (Nat × Value)) (M : jx_H) (dc ds : Nat) (st : List Value) : Option jx_A := match st with
  | .int x :: r => if (ps.toList.zip (ps.toList.drop 1)).all (fun (a, next) => a.1 < next.1) = true then jx_to true pc 0 (Op.lookupswitch.offset ps.toList d x.toInt) lv r M dc ds else none
  | _ => none
def jx_bz (c : ClassFile.Cond) (pc : Nat) (off : Int) (lv : List (Nat × Value)) (M : jx_H) (dc ds : Nat) (st : List Value) : Option jx_A := match st with
  | .int x :: r => jx_to (jx_cz c x) pc 3 off lv r M dc ds
  | _ => none
def jx_bc (c : ClassFile.Cond) (pc : Nat) (off : Int) (lv : List (Nat × Value)) (M : jx_H) (dc ds : Nat) (st : List Value) : Option jx_A := match st with
  | .int y :: .int x :: r => jx_to (jx_cc c x y) pc 3 off lv r M dc ds
  | _ => none
def jx_step (df : List (List Value)) (nL : Nat) (ret : Option FieldType) (ini : Bool) (i : Instr) (x : List Nat) (va : Value) (pc : Nat) (lv : List (Nat × Value)) (st : List Value) (M : jx_H) (dc ds : Nat) : Option jx_A := match i with
  | .iadd => jx_k (pc + 1) lv (jx_ii (fun x y => x + y) st) M dc ds
  | .isub => jx_k (pc + 1) lv (jx_ii (fun x y => x - y) st) M dc ds
  | .imul => jx_k (pc + 1) lv (jx_ii (fun x y => x * y) st) M dc ds
  | .iand => jx_k (pc + 1) lv (jx_ii (fun x y => x &&& y) st) M dc ds
  | .ior => jx_k (pc + 1) lv (jx_ii (fun x y => x ||| y) st) M dc ds
  | .ixor => jx_k (pc + 1) lv (jx_ii (fun x y => x ^^^ y) st) M dc ds
  | .ishl => jx_k (pc + 1) lv (jx_ii (fun x y => x <<< (y &&& 31)) st) M dc ds
  | .ishr => jx_k (pc + 1) lv (jx_ii (fun x y => x >>> (y &&& 31)) st) M dc ds
  | .iushr => jx_k (pc + 1) lv (jx_ii (fun x y => (x.toUInt32 >>> (y.toUInt32 &&& Int32.toUInt32 31)).toInt32) st) M dc ds
  | .ladd => jx_k (pc + 1) lv (jx_ll (fun x y => x + y) st) M dc ds
  | .lsub => jx_k (pc + 1) lv (jx_ll (fun x y => x - y) st) M dc ds
  | .lmul => jx_k (pc + 1) lv (jx_ll (fun x y => x * y) st) M dc ds
  | .land => jx_k (pc + 1) lv (jx_ll (fun x y => x &&& y) st) M dc ds
  | .lor => jx_k (pc + 1) lv (jx_ll (fun x y => x ||| y) st) M dc ds
  | .lxor => jx_k (pc + 1) lv (jx_ll (fun x y => x ^^^ y) st) M dc ds
  | .idiv => jx_k (pc + 1) lv (jx_iz (fun x y => x / y) st) M dc ds
  | .irem => jx_k (pc + 1) lv (jx_iz (fun x y => x - x / y * y) st) M dc ds
  | .ldiv => jx_k (pc + 1) lv (jx_lz (fun x y => x / y) st) M dc ds
  | .lrem => jx_k (pc + 1) lv (jx_lz (fun x y => x - x / y * y) st) M dc ds
  | .lshl => jx_k (pc + 1) lv (jx_li (fun x y => x <<< (y.toInt64 &&& 63)) st) M dc ds
  | .lshr => jx_k (pc + 1) lv (jx_li (fun x y => x >>> (y.toInt64 &&& 63)) st) M dc ds
  | .lushr => jx_k (pc + 1) lv (jx_li (fun x y => (x.toUInt64 >>> (y.toInt64.toUInt64 &&& Int64.toUInt64 63)).toInt64) st) M dc ds
  | .lcmp => jx_k (pc + 1) lv (jx_lc (fun x y => lg_cmp x y) st) M dc ds
  | .ineg => jx_k (pc + 1) lv (jx_i1 (fun x => .int (-x)) st) M dc ds
  | .i2l => jx_k (pc + 1) lv (jx_i1 (fun x => .long x.toInt64) st) M dc ds
  | .i2b => jx_k (pc + 1) lv (jx_i1 (fun x => .int x.toInt8.toInt32) st) M dc ds
  | .lneg => jx_k (pc + 1) lv (jx_l1 (fun x => .long (-x)) st) M dc ds
  | .l2i => jx_k (pc + 1) lv (jx_l1 (fun x => .int x.toInt32) st) M dc ds
  | .iconst _ => some (.inl (pc + 1, lv, va :: st, M, dc, ds))
  | .bipush _ => some (.inl (pc + 2, lv, va :: st, M, dc, ds))
  | .sipush _ => some (.inl (pc + 3, lv, va :: st, M, dc, ds))
  | .lconst _ => some (.inl (pc + 1, lv, va :: st, M, dc, ds))
  | .ldc _ => some (.inl (pc + 2, lv, va :: st, M, dc, ds))
  | .ldc_w _ => some (.inl (pc + 3, lv, va :: st, M, dc, ds))
  | .ldc2_w _ => some (.inl (pc + 3, lv, va :: st, M, dc, ds))
  | .iload i => jx_ld 2 jx_isI pc lv M dc ds i st
  | .iload_n i => jx_ld 1 jx_isI pc lv M dc ds i.val st
  | .lload i => jx_ld 2 jx_isL pc lv M dc ds i st
  | .lload_n i => jx_ld 1 jx_isL pc lv M dc ds i.val st
  | .aload i => jx_ld 2 jx_isA pc lv M dc ds i st
  | .aload_n i => jx_ld 1 jx_isA pc lv M dc ds i.val st
  | .istore i => jx_sr 2 nL jx_isI pc lv M dc ds i st
  | .istore_n i => jx_sr 1 nL jx_isI pc lv M dc ds i.val st
  | .astore i => jx_sr 2 nL jx_isA pc lv M dc ds i st
  | .astore_n i => jx_sr 1 nL jx_isA pc lv M dc ds i.val st
  | .lstore i => jx_sr2 2 nL pc lv M dc ds i st
  | .lstore_n i => jx_sr2 1 nL pc lv M dc ds i.val st
  | .iinc i n => jx_inc nL pc lv M dc ds i n st
  | .dup => jx_du pc lv M dc ds st
  | .pop => jx_po pc lv M dc ds st
  | .dup2 => jx_d2 pc lv M dc ds st
  | .ifCond c off => jx_bz c pc off lv M dc ds st
  | .if_icmp c off => jx_bc c pc off lv M dc ds st
  | .goto off => jx_to true pc 3 off lv st M dc ds
  | .tableswitch d lo hi offs => jx_ts pc d lo hi offs lv M dc ds st
  | .lookupswitch d ps => jx_lus pc d ps lv M dc ds st
  | .getfield _ => jx_gf pc lv M dc ds x st
  | .putfield _ => jx_pf ini pc lv M dc ds x st
  | .iaload => jx_or (jx_ald [102] jx_isI pc lv M dc ds st) (jx_ald [200] jx_isI pc lv M dc ds st)
  | .baload => jx_ald [100, 101] jx_isI pc lv M dc ds st
  | .laload => jx_ald [103] jx_isL pc lv M dc ds st
  | .aaload => jx_ald [104, 105, 106, 107, 108, 109, 110, 111, 112] jx_isA pc lv M dc ds st
  | .iastore => jx_ast [102] jx_isI pc lv M dc ds st
  | .bastore => jx_ast [100, 101] jx_isI pc lv M dc ds st
  | .lastore => jx_ast [103] jx_isL pc lv M dc ds st
  | .aastore => jx_or (jx_aas pc lv M dc ds st) (jx_aat pc lv M dc ds st)
  | .arraylength => jx_al pc lv M dc ds st
  | .getstatic _ => some (.inl (pc + 3, lv, va :: st, M, dc, ds))
  | .multianewarray _ _ => jx_mu pc lv M dc ds x st
  | .new _ => jx_nw pc lv M dc ds df x st
  | .newarray _ => jx_na 2 pc lv M dc ds x st
  | .anewarray _ => jx_na 3 pc lv M dc ds x st
  | .invokestatic _ => jx_cs x st
  | .invokevirtual _ => jx_cv M x st
  | .invokespecial _ => jx_ci x st
  | .ireturn => jx_ri ret st
  | .lreturn => jx_rl ret st
  | .areturn => jx_ra ret st
  | .return_ => jx_rv ret st
  | _ => none
def jx_at (pc : Nat) : List jx_L → Option (Instr × Nat × List Nat × Value)
  | [] => none
  | q :: L => if q.1 = pc then some q.2 else jx_at pc L
/-- where a thrown object of the class is caught -/
def jx_hd (pc ci : Nat) : List (Nat × Nat × Nat × Nat × Nat) → Option Nat
  | [] => none
  | q :: hs => if q.1 ≤ pc ∧ pc < q.2.1 ∧ q.2.2.2.2 = ci then some q.2.2.1 else jx_hd pc ci hs
/-- length and charAt of a constant String; System.arraycopy of ints; Object's constructor -/
def jx_cp (sp dp n : Nat) (f g : List Value) : List Value := g.take dp ++ (f.drop sp).take n ++ g.drop (dp + n)
def jx_pr (k : Nat) (As : List Value) (M : jx_H) : Option (Option Value × jx_H) := match k, As with
  | 9003, [.ref _] => some (none, M)
  | 9000, [.ref a] => match M[a]? with
    | some (300, L) => some (some (.int (Int32.ofNat L.length)), M)
    | _ => none
  | 9001, [.ref a, .int i] => match M[a]? with
    | some (300, L) => if i < 0 then none else (match L[i.toNatClampNeg]? with
      | some (.int v) => some (some (.int v), M)
      | _ => none)
    | _ => none
  | 9002, [.ref a, .int sp, .ref b, .int dp, .int n] => match M[a]?, M[b]? with
    | some (102, f), some (102, g) => if ¬ sp < 0 ∧ ¬ dp < 0 ∧ ¬ n < 0 ∧ sp.toNatClampNeg + n.toNatClampNeg ≤ f.length ∧ dp.toNatClampNeg + n.toNatClampNeg ≤ g.length then some (none, M.set b (102, jx_cp sp.toNatClampNeg dp.toNatClampNeg n.toNatClampNeg f g)) else none
    | _, _ => none
  | _, _ => none
def jx_run (df : List (List Value)) (P : List jx_Me) : Nat → jx_Me → Nat → Nat → Nat → List (Nat × Value) → List Value → jx_H → Nat → Nat → Option jx_O
  | 0, _, _, _, _, _, _, _, _, _ => none
  | n + 1, me, fr, lo, pc, lv, st, M, dc, ds => match jx_at pc me.2.2.2.2.2 with
    | none => none
    | some (i, _, x, va) => match jx_step df me.2.2.1 me.2.2.2.1 (me.1.name == "<init>") i x va pc lv st M dc ds with
      | none => none
      | some (.inl z) => jx_run df P n me fr lo z.1 z.2.1 z.2.2.1 z.2.2.2.1 z.2.2.2.2.1 z.2.2.2.2.2
      | some (.inr (.inl (k, As, r))) => if 9000 ≤ k then (if 6 ≤ fr ∧ 150 ≤ lo then (match jx_pr k As M with
          | some (v, M1) => jx_run df P n me fr lo (pc + 3) lv (v.toList ++ r) M1 dc ds
          | none => none) else none) else match P[k]? with
        | none => none
        | some m2 => if 1 ≤ fr ∧ m2.2.2.1 + 19 ≤ lo ∧ (lg_sl As).length ≤ m2.2.2.1 then
            (match jx_run df P n m2 (fr - 1) (lo - (m2.2.2.1 + 19)) 0 (lv_args 0 As) [] M 0 0 with
            | none => none
            | some (.inl v, M1, c1, s1) => jx_run df P n me fr lo (pc + 3) lv (v.toList ++ r) M1 (dc + c1) (ds + s1)
            | some (.inr a, M1, c1, s1) => match M1[a]? with
              | none => none
              | some (ci, _) => match me.2.2.2.2.1, jx_hd pc ci me.2.2.2.2.1 with
                | [], _ => some (.inr a, M1, dc + c1, ds + s1)
                | _ :: _, none => none
                | _ :: _, some t => jx_run df P n me fr lo t lv [.ref a] M1 (dc + c1) (ds + s1)) else none
      | some (.inr (.inr (.inl v))) => some (.inl v, M, dc, ds)
      | some (.inr (.inr (.inr ci))) => match me.2.2.2.2.1 with
        | [] => if 5 < fr ∧ jx_cat st + 81 ≤ lo then some (.inr M.length, M ++ [(ci, [])], dc + 1, ds + 6) else none
        | _ => none
end JX0
end
section
section JX1
def jx_v (R : List Nat) (v w : Value) : Prop := match v with
  | .ref a => ∃ b : Nat, R[a]? = some b ∧ w = .ref b
  | v => w = v
def jx_vs (R : List Nat) : List Value → List Value → Prop
  | [], [] => True
  | v :: vs, w :: ws => jx_v R v w ∧ jx_vs R vs ws
  | _, _ => False
def jx_lv (R : List Nat) : List (Nat × Value) → List (Nat × Value) → Prop
  | [], [] => True
  | v :: vs, w :: ws => (w.1 = v.1 ∧ jx_v R v.2 w.2) ∧ jx_lv R vs ws
  | _, _ => False
def jx_ar (R : List Nat) (t : Nat) (L : List Value) (x : vp_A) : Prop :=
  (t < 3 ∧ ∃ f : Nat → Int32, x = (L.length, .inl f) ∧ ∀ (i : Nat) (v : Value), L[i]? = some v → v = .int (f i)) ∨
  (t = 3 ∧ ∃ f : Nat → Int64, x = (L.length, .inr (.inl f)) ∧ ∀ (i : Nat) (v : Value), L[i]? = some v → v = .long (f i)) ∨
  (4 ≤ t ∧ t < 13 ∧ ∃ f : Nat → Option Nat, x = (L.length, .inr (.inr (.inr (.inr f)))) ∧ ∀ (i : Nat) (v : Value), L[i]? = some v → jx_v R v (va_rf (f i)))
def jx_ce (dA : Nat → ClassId) (K : (Nat × List Value) → Nat → Prop) (R : List Nat) (h : jm_H) (q : Nat × List Value) (b : Nat) : Prop :=
  (q.1 < 100 ∧ ∃ fs : List Value, h b = some (.inr (q.1, fs)) ∧ jx_vs R q.2 fs) ∨
  (100 ≤ q.1 ∧ q.1 < 200 ∧ ∃ x : vp_A, h b = some (.inl (dA (q.1 - 100), x)) ∧ jx_ar R (q.1 - 100) q.2 x) ∨ (200 ≤ q.1 ∧ K q b)
def jx_re (dA : Nat → ClassId) (K : (Nat × List Value) → Nat → Prop) (R : List Nat) (M : jx_H) (h : jm_H) : Prop :=
  R.length = M.length ∧ (∀ (a : Nat) (q : Nat × List Value) (b : Nat), M[a]? = some q → R[a]? = some b → jx_ce dA K R h q b) ∧
  ∀ (a a' : Nat) (q q' : Nat × List Value) (b : Nat), M[a]? = some q → M[a']? = some q' → q.1 < 200 → q'.1 < 200 → R[a]? = some b → R[a']? = some b → a = a'
theorem jx_v_mono {R R' : List Nat} (hp : R <+: R') {v w : Value} (h : jx_v R v w) : jx_v R' v w := by
  cases v with
  | ref a =>
    obtain ⟨b, h1, h2⟩ := h
    obtain ⟨T, rfl⟩ := hp
    exact ⟨b, by rw [List.getElem?_append_left (List.getElem?_eq_some_iff.mp h1).1]; exact h1, h2⟩
  | _ => exact h
theorem jx_vs_mono {R R' : List Nat} (hp : R <+: R') : ∀ {vs ws : List Value}, jx_vs R vs ws → jx_vs R' vs ws
  | [], [], _ => trivial
  | _ :: _, _ :: _, h => ⟨jx_v_mono hp h.1, jx_vs_mono hp h.2⟩
  | [], _ :: _, h => h.elim
  | _ :: _, [], h => h.elim
theorem jx_lv_mono {R R' : List Nat} (hp : R <+: R') : ∀ {vs ws : List (Nat × Value)}, jx_lv R vs ws → jx_lv R' vs ws
  | [], [], _ => trivial
  | _ :: _, _ :: _, h => ⟨⟨h.1.1, jx_v_mono hp h.1.2⟩, jx_lv_mono hp h.2⟩
  | [], _ :: _, h => h.elim
  | _ :: _, [], h => h.elim
theorem jx_vs_cons {R : List Nat} {v : Value} {vs W : List Value} (h : jx_vs R (v :: vs) W) : ∃ w ws, W = w :: ws ∧ jx_v R v w ∧ jx_vs R vs ws := by
  cases W with
  | nil => exact h.elim
  | cons w ws => exact ⟨w, ws, rfl, h.1, h.2⟩
theorem jx_vs_nil {R : List Nat} {W : List Value} (h : jx_vs R [] W) : W = [] := by
  cases W with
  | nil => rfl
  | cons w ws => exact h.elim
theorem jx_vs_int {R : List Nat} {x : Int32} {vs W : List Value} (h : jx_vs R (.int x :: vs) W) : ∃ ws, W = .int x :: ws ∧ jx_vs R vs ws := by
  obtain ⟨w, ws, e, h1, h2⟩ := jx_vs_cons h
  have h1 : w = .int x := h1
  exact ⟨ws, by rw [e, h1], h2⟩
theorem jx_vs_long {R : List Nat} {x : Int64} {vs W : List Value} (h : jx_vs R (.long x :: vs) W) : ∃ ws, W = .long x :: ws ∧ jx_vs R vs ws := by
  obtain ⟨w, ws, e, h1, h2⟩ := jx_vs_cons h
  have h1 : w = .long x := h1
  exact ⟨ws, by rw [e, h1], h2⟩
theorem jx_vs_ref {R : List Nat} {a : Nat} {vs W : List Value} (h : jx_vs R (.ref a :: vs) W) : ∃ b ws, R[a]? = some b ∧ W = .ref b :: ws ∧ jx_vs R vs ws := by
  obtain ⟨w, ws, e, ⟨b, h1, h3⟩, h2⟩ := jx_vs_cons h
  exact ⟨b, ws, h1, by rw [e, h3], h2⟩
theorem jx_v_cat {R : List Nat} {v w : Value} (h : jx_v R v w) : w.category = v.category := by
  cases v with
  | ref a => obtain ⟨b, -, rfl⟩ := h; rfl
  | _ => have h : w = _ := h; subst h; rfl
theorem jx_vs_cat {R : List Nat} : ∀ {vs ws : List Value}, jx_vs R vs ws → (ws.map fun v => v.category).sum = jx_cat vs
  | [], [], _ => rfl
  | v :: vs, w :: ws, h => by
    have h1 := jx_vs_cat h.2
    have h2 := jx_v_cat h.1
    simp only [jx_cat, List.map_cons, List.sum_cons] at h1 ⊢
    rw [h1, h2]
  | [], _ :: _, h => h.elim
  | _ :: _, [], h => h.elim
theorem jx_vs_len {R : List Nat} : ∀ {vs ws : List Value}, jx_vs R vs ws → ws.length = vs.length
  | [], [], _ => rfl
  | v :: vs, w :: ws, h => by simp [jx_vs_len h.2]
  | [], _ :: _, h => h.elim
  | _ :: _, [], h => h.elim
theorem jx_vs_app {R : List Nat} : ∀ {vs ws us xs : List Value}, jx_vs R vs ws → jx_vs R us xs → jx_vs R (vs ++ us) (ws ++ xs)
  | [], [], _, _, _, h => h
  | v :: vs, w :: ws, _, _, h, h2 => ⟨h.1, jx_vs_app h.2 h2⟩
  | [], _ :: _, _, _, h, _ => h.elim
  | _ :: _, [], _, _, h, _ => h.elim
theorem jx_vs_rev {R : List Nat} : ∀ {vs ws : List Value}, jx_vs R vs ws → jx_vs R vs.reverse ws.reverse
  | [], [], _ => trivial
  | v :: vs, w :: ws, h => by
    rw [List.reverse_cons, List.reverse_cons]
    exact jx_vs_app (jx_vs_rev h.2) ⟨h.1, trivial⟩
  | [], _ :: _, h => h.elim
  | _ :: _, [], h => h.elim
theorem jx_vs_take {R : List Nat} : ∀ (n : Nat) {vs ws : List Value}, jx_vs R vs ws → jx_vs R (vs.take n) (ws.take n)
  | 0, _, _, _ => by simp [jx_vs]
  | n + 1, [], [], _ => trivial
  | n + 1, v :: vs, w :: ws, h => ⟨h.1, jx_vs_take n h.2⟩
  | _ + 1, [], _ :: _, h => h.elim
  | _ + 1, _ :: _, [], h => h.elim
theorem jx_vs_drop {R : List Nat} : ∀ (n : Nat) {vs ws : List Value}, jx_vs R vs ws → jx_vs R (vs.drop n) (ws.drop n)
  | 0, _, _, h => h
  | n + 1, [], [], _ => trivial
  | n + 1, v :: vs, w :: ws, h => jx_vs_drop n h.2
  | _ + 1, [], _ :: _, h => h.elim
  | _ + 1, _ :: _, [], h => h.elim
theorem jx_vs_get {R : List Nat} : ∀ {vs ws : List Value} (_ : jx_vs R vs ws) (k : Nat) {v : Value}, vs[k]? = some v → ∃ w, ws[k]? = some w ∧ jx_v R v w
  | [], [], _, k, v, hk => by simp at hk
  | v0 :: vs, w :: ws, h, 0, v, hk => by
    simp at hk; subst hk
    exact ⟨w, rfl, h.1⟩
  | v0 :: vs, w :: ws, h, k + 1, v, hk => jx_vs_get h.2 k (by simpa using hk)
  | [], _ :: _, h, _, _, _ => h.elim
  | _ :: _, [], h, _, _, _ => h.elim
theorem jx_vs_set {R : List Nat} : ∀ {vs ws : List Value} (_ : jx_vs R vs ws) (k : Nat) {v w : Value}, jx_v R v w → jx_vs R (vs.set k v) (ws.set k w)
  | [], [], _, k, v, w, _ => by simp [jx_vs]
  | v0 :: vs, w0 :: ws, h, 0, v, w, hv => ⟨hv, h.2⟩
  | v0 :: vs, w0 :: ws, h, k + 1, v, w, hv => ⟨h.1, jx_vs_set h.2 k hv⟩
  | [], _ :: _, h, _, _, _, _ => h.elim
  | _ :: _, [], h, _, _, _, _ => h.elim
theorem jx_lv_lk {R : List Nat} : ∀ {lv lw : List (Nat × Value)} (_ : jx_lv R lv lw) {i : Nat} {v : Value}, jx_lk lv i = some v → ∃ (j : Nat) (w : Value), lw[j]? = some (i, w) ∧ jx_v R v w
  | [], [], _, i, v, hk => by simp [jx_lk] at hk
  | q :: lv, r :: lw, h, i, v, hk => by
    unfold jx_lk at hk
    rw [List.find?_cons] at hk
    split at hk
    next e =>
      simp at hk e
      subst hk
      obtain ⟨r1, r2⟩ := r
      obtain ⟨⟨e1, e2⟩, -⟩ := h
      have e1 : r1 = q.1 := e1
      exact ⟨0, r2, by rw [e1, e]; rfl, e2⟩
    next e =>
      obtain ⟨j, w, h1, h2⟩ := jx_lv_lk h.2 (i := i) (v := v) hk
      exact ⟨j + 1, w, by simpa using h1, h2⟩
  | [], _ :: _, h, _, _, _ => h.elim
  | _ :: _, [], h, _, _, _ => h.elim
theorem jx_lv_fil {R : List Nat} (P : Nat → Nat → Bool) : ∀ {lv lw : List (Nat × Value)} (_ : jx_lv R lv lw), jx_lv R (lv.filter (fun q => P q.1 q.2.category)) (lw.filter (fun q => P q.1 q.2.category))
  | [], [], _ => trivial
  | q :: lv, r :: lw, h => by
    have e1 := h.1.1
    have e2 := jx_v_cat h.1.2
    rw [List.filter_cons, List.filter_cons, e1, e2]
    split
    · exact ⟨⟨e1, h.1.2⟩, jx_lv_fil P h.2⟩
    · exact jx_lv_fil P h.2
  | [], _ :: _, h => h.elim
  | _ :: _, [], h => h.elim
theorem jx_lv_s1 {R : List Nat} {lv lw : List (Nat × Value)} (h : jx_lv R lv lw) (i : Nat) {v w : Value} (hv : jx_v R v w) : jx_lv R (jx_s1 lv i v) (jx_s1 lw i w) := ⟨⟨rfl, hv⟩, jx_lv_fil (fun a b => !(a == i) && !(a + 1 == i && b == 2)) h⟩
theorem jx_lv_s2 {R : List Nat} {lv lw : List (Nat × Value)} (h : jx_lv R lv lw) (i : Nat) {v w : Value} (hv : jx_v R v w) : jx_lv R (jx_s2 lv i v) (jx_s2 lw i w) := ⟨⟨rfl, hv⟩, jx_lv_fil (fun a b => !(a == i) && (!(a == i + 1) && !(a + 1 == i && b == 2))) h⟩
theorem jx_lv_args {R : List Nat} : ∀ {As Bs : List Value} (i : Nat), jx_vs R As Bs → jx_lv R (lv_args i As) (lv_args i Bs)
  | [], [], _, _ => trivial
  | v :: As, w :: Bs, i, h => by
    have e2 := jx_v_cat h.1
    unfold lv_args
    rw [e2]
    exact ⟨⟨rfl, h.1⟩, jx_lv_args _ h.2⟩
  | [], _ :: _, _, h => h.elim
  | _ :: _, [], _, h => h.elim
theorem jx_vs_sl {R : List Nat} : ∀ {As Bs : List Value}, jx_vs R As Bs → (lg_sl Bs).length = (lg_sl As).length
  | [], [], _ => rfl
  | v :: As, w :: Bs, h => by
    have e2 := jx_v_cat h.1
    have ih := jx_vs_sl h.2
    unfold lg_sl at ih ⊢
    rw [List.flatMap_cons, List.flatMap_cons, List.length_append, List.length_append, ih, e2]
    split <;> rfl
  | [], _ :: _, h => h.elim
  | _ :: _, [], h => h.elim
theorem jx_ar_mono {R R' : List Nat} (hp : R <+: R') {t : Nat} {L : List Value} {x : vp_A} (h : jx_ar R t L x) : jx_ar R' t L x := by
  rcases h with h | h | ⟨h1, h2, f, h3, h4⟩
  · exact Or.inl h
  · exact Or.inr (Or.inl h)
  · exact Or.inr (Or.inr ⟨h1, h2, f, h3, fun i v hv => jx_v_mono hp (h4 i v hv)⟩)
variable {dA : Nat → ClassId} {K : (Nat × List Value) → Nat → Prop} {R R' : List Nat} {M : jx_H} {h h' : jm_H}
theorem jx_ce_mono (hp : R <+: R') {q : Nat × List Value} {b : Nat} (hk : q.1 < 200 → h' b = h b) (hc : jx_ce dA K R h q b) : jx_ce dA K R' h' q b := by
  rcases hc with ⟨h1, fs, h2, h3⟩ | ⟨h1, h2, x, h3, h4⟩ | hc
  · exact Or.inl ⟨h1, fs, by rw [hk (by omega)]; exact h2, jx_vs_mono hp h3⟩
  · exact Or.inr (Or.inl ⟨h1, h2, x, by rw [hk h2]; exact h3, jx_ar_mono hp h4⟩)
  · exact Or.inr (Or.inr hc)
theorem jx_re_at (E : jx_re dA K R M h) {a : Nat} {q : Nat × List Value} (ha : M[a]? = some q) : ∃ b : Nat, R[a]? = some b ∧ jx_ce dA K R h q b := by
  have hl : a < R.length := by rw [E.1]; exact (List.getElem?_eq_some_iff.mp ha).1
  exact ⟨R[a], List.getElem?_eq_getElem hl, E.2.1 a q _ ha (List.getElem?_eq_getElem hl)⟩
theorem jx_re_set (E : jx_re dA K R M h) {a b : Nat} {q q1 : Nat × List Value} {y : va_E} (ha : M[a]? = some q) (hb : R[a]? = some b) (hq : q.1 < 200) (hk : q1.1 = q.1) (hc : jx_ce dA K R (jm_up h b y) q1 b) : jx_re dA K R (M.set a q1) (jm_up h b y) := by
  have hla := (List.getElem?_eq_some_iff.mp ha).1
  refine ⟨by rw [List.length_set]; exact E.1, fun a2 q2 b2 h1 h2 => ?_, fun a2 a3 q2 q3 b2 h1 h2 g1 g2 f1 f2 => ?_⟩
  · by_cases e : a = a2
    · subst e
      rw [List.getElem?_set_self hla] at h1
      cases h1
      rw [hb] at h2
      cases h2
      exact hc
    · rw [List.getElem?_set_ne e] at h1
      refine jx_ce_mono (List.prefix_rfl) (fun g => ?_) (E.2.1 a2 q2 b2 h1 h2)
      refine jm_up_ne _ _ (fun eb => e ?_)
      subst eb
      exact E.2.2 a a2 q q2 b2 ha h1 hq g hb h2
  · have key : ∀ (a2 : Nat) (q2 : Nat × List Value), (M.set a q1)[a2]? = some q2 → q2.1 < 200 → ∃ q4, M[a2]? = some q4 ∧ q4.1 < 200 := fun a2 q2 h1 g1 => by
      by_cases e : a = a2
      · subst e
        exact ⟨q, ha, hq⟩
      · rw [List.getElem?_set_ne e] at h1
        exact ⟨q2, h1, g1⟩
    obtain ⟨q4, i1, i2⟩ := key a2 q2 h1 g1
    obtain ⟨q5, i3, i4⟩ := key a3 q3 h2 g2
    exact E.2.2 a2 a3 q4 q5 b2 i1 i3 i2 i4 f1 f2
theorem jx_re_new (E : jx_re dA K R M h) {b : Nat} {q1 : Nat × List Value} {y : va_E} (hb : h b = none) (hc : jx_ce dA K (R ++ [b]) (jm_up h b y) q1 b) : jx_re dA K (R ++ [b]) (M ++ [q1]) (jm_up h b y) := by
  have hp : R <+: R ++ [b] := ⟨[b], rfl⟩
  have old : ∀ (a : Nat) (q : Nat × List Value) (c : Nat), M[a]? = some q → R[a]? = some c → q.1 < 200 → c ≠ b := fun a q c h1 h2 h3 e => by
    subst e
    rcases E.2.1 a q c h1 h2 with ⟨-, fs, g, -⟩ | ⟨-, -, x, g, -⟩ | ⟨g, -⟩
    · rw [hb] at g; cases g
    · rw [hb] at g; cases g
    · omega
  have spl : ∀ (a : Nat) (q : Nat × List Value) (c : Nat), (M ++ [q1])[a]? = some q → (R ++ [b])[a]? = some c → (M[a]? = some q ∧ R[a]? = some c) ∨ (a = M.length ∧ q = q1 ∧ c = b) := fun a q c h1 h2 => by
    by_cases e : a < M.length
    · rw [List.getElem?_append_left e] at h1
      rw [List.getElem?_append_left (by rw [E.1]; exact e)] at h2
      exact Or.inl ⟨h1, h2⟩
    · have e2 := (List.getElem?_eq_some_iff.mp h1).1
      rw [List.length_append] at e2
      have e3 : a = M.length := by simp at e2; omega
      subst e3
      refine Or.inr ⟨rfl, ?_, ?_⟩
      · simpa using h1.symm
      · rw [← E.1] at h2
        simpa using h2.symm
  refine ⟨by simp [E.1], fun a q c h1 h2 => ?_, fun a a' q q' c h1 h2 g1 g2 f1 f2 => ?_⟩
  · rcases spl a q c h1 h2 with ⟨i1, i2⟩ | ⟨-, rfl, rfl⟩
    · exact jx_ce_mono hp (fun g => jm_up_ne _ _ (old a q c i1 i2 g)) (E.2.1 a q c i1 i2)
    · exact hc
  · rcases spl a q c h1 f1 with ⟨i1, i2⟩ | ⟨i1, i2, i3⟩ <;> rcases spl a' q' c h2 f2 with ⟨j1, j2⟩ | ⟨j1, j2, j3⟩
    · exact E.2.2 a a' q q' c i1 j1 g1 g2 i2 j2
    · exact absurd j3 (old a q c i1 i2 g1)
    · exact absurd i3 (old a' q' c j1 j2 g2)
    · rw [i1, j1]
end JX1
end
section
section JX2
def jx_E (dA : Nat → ClassId) (K : (Nat × List Value) → Nat → Prop) (R : List Nat) (M : jx_H) (h : jm_H) (lv : List (Nat × Value)) (st : List Value) (lw : List (Nat × Value)) (sw : List Value) : Prop := jx_re dA K R M h ∧ jx_lv R lv lw ∧ jx_vs R st sw
def jx_go (dA : Nat → ClassId) (K : (Nat × List Value) → Nat → Prop) (Wk : Nat → List (Nat × Value) → List Value → jm_H → Nat → Nat → Prop) (R : List Nat) (z : jx_N) : Prop :=
  ∀ (R' : List Nat) (h' : jm_H) (lw : List (Nat × Value)) (sw : List Value), R <+: R' → jx_E dA K R' z.2.2.2.1 h' z.2.1 z.2.2.1 lw sw → Wk z.1 lw sw h' z.2.2.2.2.1 z.2.2.2.2.2
variable {dA : Nat → ClassId} {K : (Nat × List Value) → Nat → Prop} {R : List Nat} {M : jx_H} {h : jm_H} {lv lw : List (Nat × Value)} {st sw : List Value} {Wk : Nat → List (Nat × Value) → List Value → jm_H → Nat → Nat → Prop} {z : jx_N} {pc pc1 dc ds : Nat}
theorem jx_f_ii {f : Int32 → Int32 → Int32} (hs : jx_k pc1 lv (jx_ii f st) M dc ds = some (.inl z)) (E : jx_E dA K R M h lv st lw sw) (row : ∀ x y r, Wk pc1 lw (.int (f x y) :: r) h dc ds → Wk pc lw (.int y :: .int x :: r) h dc ds) (kk : jx_go dA K Wk R z) : Wk pc lw sw h dc ds := by
  obtain ⟨E1, E2, E3⟩ := E
  unfold jx_ii at hs
  split at hs
  next y x r =>
    cases hs
    obtain ⟨w1, rfl, E4⟩ := jx_vs_int E3
    obtain ⟨w2, rfl, E5⟩ := jx_vs_int E4
    exact row x y _ (kk R h lw _ List.prefix_rfl ⟨E1, E2, rfl, E5⟩)
  next => cases hs
theorem jx_f_ll {f : Int64 → Int64 → Int64} (hs : jx_k pc1 lv (jx_ll f st) M dc ds = some (.inl z)) (E : jx_E dA K R M h lv st lw sw) (row : ∀ x y r, Wk pc1 lw (.long (f x y) :: r) h dc ds → Wk pc lw (.long y :: .long x :: r) h dc ds) (kk : jx_go dA K Wk R z) : Wk pc lw sw h dc ds := by
  obtain ⟨E1, E2, E3⟩ := E
  unfold jx_ll at hs
  split at hs
  next y x r =>
    cases hs
    obtain ⟨w1, rfl, E4⟩ := jx_vs_long E3
    obtain ⟨w2, rfl, E5⟩ := jx_vs_long E4
    exact row x y _ (kk R h lw _ List.prefix_rfl ⟨E1, E2, rfl, E5⟩)
  next => cases hs
theorem jx_f_iz {f : Int32 → Int32 → Int32} (hs : jx_k pc1 lv (jx_iz f st) M dc ds = some (.inl z)) (E : jx_E dA K R M h lv st lw sw) (row : ∀ x y r, ¬ y = 0 → Wk pc1 lw (.int (f x y) :: r) h dc ds → Wk pc lw (.int y :: .int x :: r) h dc ds) (kk : jx_go dA K Wk R z) : Wk pc lw sw h dc ds := by
  obtain ⟨E1, E2, E3⟩ := E
  unfold jx_iz at hs
  split at hs
  next y x r =>
    split at hs
    next => cases hs
    next hz =>
      cases hs
      obtain ⟨w1, rfl, E4⟩ := jx_vs_int E3
      obtain ⟨w2, rfl, E5⟩ := jx_vs_int E4
      exact row x y _ hz (kk R h lw _ List.prefix_rfl ⟨E1, E2, rfl, E5⟩)
  next => cases hs
theorem jx_f_lz {f : Int64 → Int64 → Int64} (hs : jx_k pc1 lv (jx_lz f st) M dc ds = some (.inl z)) (E : jx_E dA K R M h lv st lw sw) (row : ∀ x y r, ¬ y = 0 → Wk pc1 lw (.long (f x y) :: r) h dc ds → Wk pc lw (.long y :: .long x :: r) h dc ds) (kk : jx_go dA K Wk R z) : Wk pc lw sw h dc ds := by
  obtain ⟨E1, E2, E3⟩ := E
  unfold jx_lz at hs
  split at hs
  next y x r =>
    split at hs
    next => cases hs
    next hz =>
      cases hs
      obtain ⟨w1, rfl, E4⟩ := jx_vs_long E3
      obtain ⟨w2, rfl, E5⟩ := jx_vs_long E4
      exact row x y _ hz (kk R h lw _ List.prefix_rfl ⟨E1, E2, rfl, E5⟩)
  next => cases hs
theorem jx_f_li {f : Int64 → Int32 → Int64} (hs : jx_k pc1 lv (jx_li f st) M dc ds = some (.inl z)) (E : jx_E dA K R M h lv st lw sw) (row : ∀ x y r, Wk pc1 lw (.long (f x y) :: r) h dc ds → Wk pc lw (.int y :: .long x :: r) h dc ds) (kk : jx_go dA K Wk R z) : Wk pc lw sw h dc ds := by
  obtain ⟨E1, E2, E3⟩ := E
  unfold jx_li at hs
  split at hs
  next y x r =>
    cases hs
    obtain ⟨w1, rfl, E4⟩ := jx_vs_int E3
    obtain ⟨w2, rfl, E5⟩ := jx_vs_long E4
    exact row x y _ (kk R h lw _ List.prefix_rfl ⟨E1, E2, rfl, E5⟩)
  next => cases hs
theorem jx_f_lc {f : Int64 → Int64 → Int32} (hs : jx_k pc1 lv (jx_lc f st) M dc ds = some (.inl z)) (E : jx_E dA K R M h lv st lw sw) (row : ∀ x y r, Wk pc1 lw (.int (f x y) :: r) h dc ds → Wk pc lw (.long y :: .long x :: r) h dc ds) (kk : jx_go dA K Wk R z) : Wk pc lw sw h dc ds := by
  obtain ⟨E1, E2, E3⟩ := E
  unfold jx_lc at hs
  split at hs
  next y x r =>
    cases hs
    obtain ⟨w1, rfl, E4⟩ := jx_vs_long E3
    obtain ⟨w2, rfl, E5⟩ := jx_vs_long E4
    exact row x y _ (kk R h lw _ List.prefix_rfl ⟨E1, E2, rfl, E5⟩)
  next => cases hs
theorem jx_f_i1 {f : Int32 → Value} (hf : ∀ x, jx_v R (f x) (f x)) (hs : jx_k pc1 lv (jx_i1 f st) M dc ds = some (.inl z)) (E : jx_E dA K R M h lv st lw sw) (row : ∀ x r, Wk pc1 lw (f x :: r) h dc ds → Wk pc lw (.int x :: r) h dc ds) (kk : jx_go dA K Wk R z) : Wk pc lw sw h dc ds := by
  obtain ⟨E1, E2, E3⟩ := E
  unfold jx_i1 at hs
  split at hs
  next x r =>
    cases hs
    obtain ⟨w1, rfl, E4⟩ := jx_vs_int E3
    exact row x _ (kk R h lw _ List.prefix_rfl ⟨E1, E2, hf x, E4⟩)
  next => cases hs
theorem jx_f_l1 {f : Int64 → Value} (hf : ∀ x, jx_v R (f x) (f x)) (hs : jx_k pc1 lv (jx_l1 f st) M dc ds = some (.inl z)) (E : jx_E dA K R M h lv st lw sw) (row : ∀ x r, Wk pc1 lw (f x :: r) h dc ds → Wk pc lw (.long x :: r) h dc ds) (kk : jx_go dA K Wk R z) : Wk pc lw sw h dc ds := by
  obtain ⟨E1, E2, E3⟩ := E
  unfold jx_l1 at hs
  split at hs
  next x r =>
    cases hs
    obtain ⟨w1, rfl, E4⟩ := jx_vs_long E3
    exact row x _ (kk R h lw _ List.prefix_rfl ⟨E1, E2, hf x, E4⟩)
  next => cases hs
theorem jx_f_co {v : Value} (hv : jx_v R v v) (hs : some (Sum.inl (pc1, lv, v :: st, M, dc, ds)) = some (Sum.inl z : jx_A)) (E : jx_E dA K R M h lv st lw sw) (row : Wk pc1 lw (v :: sw) h dc ds → Wk pc lw sw h dc ds) (kk : jx_go dA K Wk R z) : Wk pc lw sw h dc ds := by
  obtain ⟨E1, E2, E3⟩ := E
  cases hs
  exact row (kk R h lw _ List.prefix_rfl ⟨E1, E2, hv, E3⟩)
theorem jx_f_ld {n i : Nat} {w : Value → Bool} (hs : jx_ld n w pc lv M dc ds i st = some (.inl z)) (E : jx_E dA K R M h lv st lw sw) (row : ∀ (v u : Value) (j : Nat), w v = true → jx_v R v u → lw[j]? = some (i, u) → Wk (pc + n) lw (u :: sw) h dc ds → Wk pc lw sw h dc ds) (kk : jx_go dA K Wk R z) : Wk pc lw sw h dc ds := by
  obtain ⟨E1, E2, E3⟩ := E
  unfold jx_ld at hs
  split at hs
  next v hv =>
    split at hs
    next hw =>
      cases hs
      obtain ⟨j, u, hj, hu⟩ := jx_lv_lk E2 hv
      exact row v u j hw hu hj (kk R h lw _ List.prefix_rfl ⟨E1, E2, hu, E3⟩)
    next => cases hs
  next => cases hs
theorem jx_f_sr {n nL i : Nat} {w : Value → Bool} (hs : jx_sr n nL w pc lv M dc ds i st = some (.inl z)) (E : jx_E dA K R M h lv st lw sw) (row : ∀ (v u : Value) (r : List Value), w v = true → jx_v R v u → i < nL → Wk (pc + n) (jx_s1 lw i u) r h dc ds → Wk pc lw (u :: r) h dc ds) (kk : jx_go dA K Wk R z) : Wk pc lw sw h dc ds := by
  obtain ⟨E1, E2, E3⟩ := E
  unfold jx_sr at hs
  split at hs
  next v r =>
    split at hs
    next hw =>
      cases hs
      obtain ⟨u, r', rfl, hu, E4⟩ := jx_vs_cons E3
      exact row v u _ hw.1 hu hw.2 (kk R h _ _ List.prefix_rfl ⟨E1, jx_lv_s1 E2 i hu, E4⟩)
    next => cases hs
  next => cases hs
theorem jx_f_sr2 {n nL i : Nat} (hs : jx_sr2 n nL pc lv M dc ds i st = some (.inl z)) (E : jx_E dA K R M h lv st lw sw) (row : ∀ (v : Int64) (r : List Value), i + 1 < nL → Wk (pc + n) (jx_s2 lw i (.long v)) r h dc ds → Wk pc lw (.long v :: r) h dc ds) (kk : jx_go dA K Wk R z) : Wk pc lw sw h dc ds := by
  obtain ⟨E1, E2, E3⟩ := E
  unfold jx_sr2 at hs
  split at hs
  next v r =>
    split at hs
    next hw =>
      cases hs
      obtain ⟨r', rfl, E4⟩ := jx_vs_long E3
      exact row v _ hw (kk R h _ _ List.prefix_rfl ⟨E1, jx_lv_s2 E2 i rfl, E4⟩)
    next => cases hs
  next => cases hs
theorem jx_f_inc {nL i : Nat} {n : Int} (hs : jx_inc nL pc lv M dc ds i n st = some (.inl z)) (E : jx_E dA K R M h lv st lw sw) (row : ∀ (x : Int32) (j : Nat), lw[j]? = some (i, .int x) → i < nL → Wk (pc + 3) (jx_s1 lw i (.int (x + Int32.ofInt n))) sw h dc ds → Wk pc lw sw h dc ds) (kk : jx_go dA K Wk R z) : Wk pc lw sw h dc ds := by
  obtain ⟨E1, E2, E3⟩ := E
  unfold jx_inc at hs
  split at hs
  next x hv =>
    split at hs
    next hw =>
      cases hs
      obtain ⟨j, u, hj, hu⟩ := jx_lv_lk E2 hv
      have hu : u = .int x := hu
      subst hu
      exact row x j hj hw (kk R h _ _ List.prefix_rfl ⟨E1, jx_lv_s1 E2 i rfl, E3⟩)
    next => cases hs
  next => cases hs
theorem jx_f_du (hs : jx_du pc lv M dc ds st = some (.inl z)) (E : jx_E dA K R M h lv st lw sw) (row : ∀ (u : Value) (r : List Value), u.category = 1 → Wk (pc + 1) lw (u :: u :: r) h dc ds → Wk pc lw (u :: r) h dc ds) (kk : jx_go dA K Wk R z) : Wk pc lw sw h dc ds := by
  obtain ⟨E1, E2, E3⟩ := E
  unfold jx_du at hs
  split at hs
  next v r =>
    split at hs
    next hw =>
      cases hs
      obtain ⟨u, r', rfl, hu, E4⟩ := jx_vs_cons E3
      exact row u _ ((jx_v_cat hu).trans hw) (kk R h _ _ List.prefix_rfl ⟨E1, E2, hu, hu, E4⟩)
    next => cases hs
  next => cases hs
theorem jx_f_po (hs : jx_po pc lv M dc ds st = some (.inl z)) (E : jx_E dA K R M h lv st lw sw) (row : ∀ (u : Value) (r : List Value), u.category = 1 → Wk (pc + 1) lw r h dc ds → Wk pc lw (u :: r) h dc ds) (kk : jx_go dA K Wk R z) : Wk pc lw sw h dc ds := by
  obtain ⟨E1, E2, E3⟩ := E
  unfold jx_po at hs
  split at hs
  next v r =>
    split at hs
    next hw =>
      cases hs
      obtain ⟨u, r', rfl, hu, E4⟩ := jx_vs_cons E3
      exact row u _ ((jx_v_cat hu).trans hw) (kk R h _ _ List.prefix_rfl ⟨E1, E2, E4⟩)
    next => cases hs
  next => cases hs
theorem jx_f_d2 (hs : jx_d2 pc lv M dc ds st = some (.inl z)) (E : jx_E dA K R M h lv st lw sw) (row1 : ∀ (u v : Value) (r : List Value), u.category = 1 → v.category = 1 → Wk (pc + 1) lw (u :: v :: u :: v :: r) h dc ds → Wk pc lw (u :: v :: r) h dc ds) (row2 : ∀ (u : Value) (r : List Value), u.category = 2 → Wk (pc + 1) lw (u :: u :: r) h dc ds → Wk pc lw (u :: r) h dc ds) (kk : jx_go dA K Wk R z) : Wk pc lw sw h dc ds := by
  obtain ⟨E1, E2, E3⟩ := E
  unfold jx_d2 at hs
  split at hs
  next v w r =>
    obtain ⟨u, r', rfl, hu, E4⟩ := jx_vs_cons E3
    obtain ⟨u2, r', rfl, hu2, E5⟩ := jx_vs_cons E4
    split at hs
    next hw =>
      cases hs
      exact row1 u u2 _ ((jx_v_cat hu).trans hw.1) ((jx_v_cat hu2).trans hw.2) (kk R h _ _ List.prefix_rfl ⟨E1, E2, hu, hu2, hu, hu2, E5⟩)
    next =>
      split at hs
      next hw =>
        cases hs
        exact row2 u _ ((jx_v_cat hu).trans hw) (kk R h _ _ List.prefix_rfl ⟨E1, E2, hu, hu, hu2, E5⟩)
      next => cases hs
  next => cases hs
theorem jx_jp_ok {pc t : Nat} {off : Int} (h : jx_jp pc off = some t) : (pc : Int) + off = (t : Int) := by
  unfold jx_jp at h
  split at h
  next u e => cases h; exact e
  next => cases h
theorem jx_f_to {b : Bool} {len : Nat} {off : Int} {r rw : List Value} (hs : jx_to b pc len off lv r M dc ds = some (.inl z)) (E : jx_E dA K R M h lv r lw rw) (row : ∀ t : Nat, (pc : Int) + off = (t : Int) → (b = true → Wk t lw rw h dc ds) → (b = false → Wk (pc + len) lw rw h dc ds) → Wk pc lw sw h dc ds) (kk : jx_go dA K Wk R z) : Wk pc lw sw h dc ds := by
  unfold jx_to at hs
  split at hs
  next t ht =>
    cases hs
    have k := kk R h lw _ List.prefix_rfl E
    refine row t (jx_jp_ok ht) (fun e => ?_) (fun e => ?_)
    · subst e; exact k
    · subst e; exact k
  next => cases hs
theorem jx_f_bz {c : ClassFile.Cond} {off : Int} (hs : jx_bz c pc off lv M dc ds st = some (.inl z)) (E : jx_E dA K R M h lv st lw sw) (row : ∀ (x : Int32) (r : List Value) (t : Nat), (pc : Int) + off = (t : Int) → (jx_cz c x = true → Wk t lw r h dc ds) → (jx_cz c x = false → Wk (pc + 3) lw r h dc ds) → Wk pc lw (.int x :: r) h dc ds) (kk : jx_go dA K Wk R z) : Wk pc lw sw h dc ds := by
  obtain ⟨E1, E2, E3⟩ := E
  unfold jx_bz at hs
  split at hs
  next x r =>
    obtain ⟨w1, rfl, E4⟩ := jx_vs_int E3
    exact jx_f_to (rw := w1) hs ⟨E1, E2, E4⟩ (fun t ht k1 k2 => row x w1 t ht k1 k2) kk
  next => cases hs
theorem jx_f_bc {c : ClassFile.Cond} {off : Int} (hs : jx_bc c pc off lv M dc ds st = some (.inl z)) (E : jx_E dA K R M h lv st lw sw) (row : ∀ (x y : Int32) (r : List Value) (t : Nat), (pc : Int) + off = (t : Int) → (jx_cc c x y = true → Wk t lw r h dc ds) → (jx_cc c x y = false → Wk (pc + 3) lw r h dc ds) → Wk pc lw (.int y :: .int x :: r) h dc ds) (kk : jx_go dA K Wk R z) : Wk pc lw sw h dc ds := by
  obtain ⟨E1, E2, E3⟩ := E
  unfold jx_bc at hs
  split at hs
  next y x r =>
    obtain ⟨w1, rfl, E4⟩ := jx_vs_int E3
    obtain ⟨w1, rfl, E5⟩ := jx_vs_int E4
    exact jx_f_to (rw := w1) hs ⟨E1, E2, E5⟩ (fun t ht k1 k2 => row x y w1 t ht k1 k2) kk
  next => cases hs
theorem jx_f_ts {d lo hi : Int} {offs : Array Int} (hs : jx_ts pc d lo hi offs lv M dc ds st = some (.inl z)) (E : jx_E dA K R M h lv st lw sw) (row1 : ∀ (x : Int32) (r : List Value) (t : Nat), (x.toInt < lo ∨ hi < x.toInt) → (pc : Int) + d = (t : Int) → Wk t lw r h dc ds → Wk pc lw (.int x :: r) h dc ds) (row2 : ∀ (x : Int32) (r : List Value) (off : Int) (t : Nat), ¬ x.toInt < lo → ¬ hi < x.toInt → offs[(x.toInt - lo).toNat]? = some off → (pc : Int) + off = (t : Int) → Wk t lw r h dc ds → Wk pc lw (.int x :: r) h dc ds) (kk : jx_go dA K Wk R z) : Wk pc lw sw h dc ds := by
  obtain ⟨E1, E2, E3⟩ := E
  unfold jx_ts at hs
  split at hs
  next x r =>
    obtain ⟨w1, rfl, E4⟩ := jx_vs_int E3
    split at hs
    next hx => exact jx_f_to (rw := w1) hs ⟨E1, E2, E4⟩ (fun t ht k1 k2 => row1 x w1 t hx ht (k1 rfl)) kk
    next hx =>
      split at hs
      next off ho => exact jx_f_to (rw := w1) hs ⟨E1, E2, E4⟩ (fun t ht k1 k2 => row2 x w1 off t (fun q => hx (Or.inl q)) (fun q => hx (Or.inr q)) ho ht (k1 rfl)) kk
      next => cases hs
  next => cases hs
theorem jx_f_lus {d : Int} {ps : Array (Int × Int)} (hs : jx_lus pc d ps lv M dc ds st = some (.inl z)) (E : jx_E dA K R M h lv st lw sw) (row : ∀ (x : Int32) (r : List Value) (t : Nat), (ps.toList.zip (ps.toList.drop 1)).all (fun (a, next) => a.1 < next.1) = true → (pc : Int) + Op.lookupswitch.offset ps.toList d x.toInt = (t : Int) → Wk t lw r h dc ds → Wk pc lw (.int x :: r) h dc ds) (kk : jx_go dA K Wk R z) : Wk pc lw sw h dc ds := by
  obtain ⟨E1, E2, E3⟩ := E
  unfold jx_lus at hs
  split at hs
  next x r =>
    obtain ⟨w1, rfl, E4⟩ := jx_vs_int E3
    split at hs
    next hx => exact jx_f_to (rw := w1) hs ⟨E1, E2, E4⟩ (fun t ht k1 k2 => row x w1 t hx ht (k1 rfl)) kk
    next hx => cases hs
  next => cases hs
theorem jx_f_gf {x : List Nat} (hs : jx_gf pc lv M dc ds x st = some (.inl z)) (hx : ∀ ci k, x = [ci, k] → ci < 100) (E : jx_E dA K R M h lv st lw sw) (row : ∀ (ci k b : Nat) (fs r : List Value) (u : Value), x = [ci, k] → h b = some (.inr (ci, fs)) → fs[k]? = some u → Wk (pc + 3) lw (u :: r) h dc ds → Wk pc lw (.ref b :: r) h dc ds) (kk : jx_go dA K Wk R z) : Wk pc lw sw h dc ds := by
  obtain ⟨E1, E2, E3⟩ := E
  unfold jx_gf at hs
  split at hs
  next ci k a r =>
    split at hs
    next cj fs hM =>
      split at hs
      next e =>
        subst e
        split at hs
        next v hv =>
          cases hs
          obtain ⟨b, r', hb, rfl, E4⟩ := jx_vs_ref E3
          have h100 : cj < 100 := hx _ _ rfl
          rcases E1.2.1 a _ b hM hb with ⟨-, fw, g1, g2⟩ | ⟨g1, -⟩ | ⟨g1, -⟩
          · obtain ⟨u, hu, hvu⟩ := jx_vs_get g2 k hv
            exact row cj k b fw r' u rfl g1 hu (kk R h lw _ List.prefix_rfl ⟨E1, E2, hvu, E4⟩)
          · have g1 : 100 ≤ cj := g1
            omega
          · have g1 : 200 ≤ cj := g1
            omega
        next => cases hs
      next => cases hs
    next => cases hs
  next => cases hs
theorem jx_f_pf {ini : Bool} {x : List Nat} (hs : jx_pf ini pc lv M dc ds x st = some (.inl z)) (hx : ∀ ci k t f, x = [ci, k, t, f] → ci < 100) (E : jx_E dA K R M h lv st lw sw) (row : ∀ (ci k t f b : Nat) (fs r : List Value) (v u : Value), x = [ci, k, t, f] → h b = some (.inr (ci, fs)) → k < fs.length → jx_fit t v = true → jx_v R v u → (f = 0 ∨ ini = true) → Wk (pc + 3) lw r (jm_up h b (.inr (ci, fs.set k u))) dc ds → Wk pc lw (u :: .ref b :: r) h dc ds) (kk : jx_go dA K Wk R z) : Wk pc lw sw h dc ds := by
  obtain ⟨E1, E2, E3⟩ := E
  unfold jx_pf at hs
  split at hs
  next ci k t f v a r =>
    split at hs
    next cj fs hM =>
      split at hs
      next e =>
        obtain ⟨rfl, e2, e3, e4⟩ := e
        cases hs
        obtain ⟨u, r', rfl, hu, E4⟩ := jx_vs_cons E3
        obtain ⟨b, r', hb, rfl, E5⟩ := jx_vs_ref E4
        have h100 : cj < 100 := hx _ _ _ _ rfl
        rcases E1.2.1 a _ b hM hb with ⟨-, fw, g1, g2⟩ | ⟨g1, -⟩ | ⟨g1, -⟩
        · refine row cj k t f b fw r' v u rfl g1 (by rw [jx_vs_len g2]; exact e2) e3 hu e4 (kk R _ lw _ List.prefix_rfl ⟨?_, E2, E5⟩)
          exact jx_re_set E1 hM hb (show cj < 200 by omega) rfl (Or.inl ⟨h100, _, jm_up_eq _ _ _, jx_vs_set g2 k hu⟩)
        · have g1 : 100 ≤ cj := g1
          omega
        · have g1 : 200 ≤ cj := g1
          omega
      next => cases hs
    next => cases hs
  next => cases hs
end JX2
end
section
section JX3
variable {dA : Nat → ClassId} {K : (Nat × List Value) → Nat → Prop} {R : List Nat} {M : jx_H} {h : jm_H} {lv lw : List (Nat × Value)} {st sw : List Value} {Wk : Nat → List (Nat × Value) → List Value → jm_H → Nat → Nat → Prop} {z : jx_N} {pc pc1 dc ds : Nat}
theorem jx_f_cu {v u : Value} (hv : jx_v R v u) (hs : some (Sum.inl (pc1, lv, v :: st, M, dc, ds)) = some (Sum.inl z : jx_A)) (E : jx_E dA K R M h lv st lw sw) (row : Wk pc1 lw (u :: sw) h dc ds → Wk pc lw sw h dc ds) (kk : jx_go dA K Wk R z) : Wk pc lw sw h dc ds := by
  obtain ⟨E1, E2, E3⟩ := E
  cases hs
  exact row (kk R h lw _ List.prefix_rfl ⟨E1, E2, hv, E3⟩)
theorem jx_or_ok {a b : Option jx_A} {z : jx_A} (hs : jx_or a b = some z) : a = some z ∨ b = some z := by
  unfold jx_or at hs
  split at hs
  next y => exact Or.inl hs
  next => exact Or.inr hs
theorem jx_f_ald {ks : List Nat} {w : Value → Bool} (hs : jx_ald ks w pc lv M dc ds st = some (.inl z)) (hks : ∀ k, ks.contains k = true → 100 ≤ k ∧ k < 200) (E : jx_E dA K R M h lv st lw sw)
    (row : ∀ (k b : Nat) (L : List Value) (x : vp_A) (i : Int32) (r : List Value) (v : Value), ks.contains k = true → h b = some (.inl (dA (k - 100), x)) → jx_ar R (k - 100) L x → ¬ i < 0 → L[i.toNatClampNeg]? = some v → w v = true → (∀ u, jx_v R v u → Wk (pc + 1) lw (u :: r) h dc ds) → Wk pc lw (.int i :: .ref b :: r) h dc ds) (kk : jx_go dA K Wk R z) : Wk pc lw sw h dc ds := by
  obtain ⟨E1, E2, E3⟩ := E
  unfold jx_ald at hs
  split at hs
  next i a r =>
    split at hs
    next k L hM =>
      split at hs
      next e =>
        split at hs
        next v hv =>
          split at hs
          next hw =>
            cases hs
            obtain ⟨w1, rfl, E4⟩ := jx_vs_int E3
            obtain ⟨b, r', hb, rfl, E5⟩ := jx_vs_ref E4
            have hk := hks k e.1
            rcases E1.2.1 a _ b hM hb with ⟨g1, -⟩ | ⟨-, -, x, g1, g2⟩ | ⟨g1, -⟩
            · have g1 : k < 100 := g1
              omega
            · exact row k b L x i r' v e.1 g1 g2 e.2 hv hw (fun u hu => kk R h lw _ List.prefix_rfl ⟨E1, E2, hu, E5⟩)
            · have g1 : 200 ≤ k := g1
              omega
          next => cases hs
        next => cases hs
      next => cases hs
    next => cases hs
  next => cases hs
theorem jx_f_alc {w : Value → Bool} (hs : jx_ald [200] w pc lv M dc ds st = some (.inl z)) (E : jx_E dA K R M h lv st lw sw)
    (row : ∀ (b : Nat) (L : List Value) (i : Int32) (r : List Value) (v : Value), K (200, L) b → ¬ i < 0 → L[i.toNatClampNeg]? = some v → w v = true → (∀ u, jx_v R v u → Wk (pc + 1) lw (u :: r) h dc ds) → Wk pc lw (.int i :: .ref b :: r) h dc ds) (kk : jx_go dA K Wk R z) : Wk pc lw sw h dc ds := by
  obtain ⟨E1, E2, E3⟩ := E
  unfold jx_ald at hs
  split at hs
  next i a r =>
    split at hs
    next k L hM =>
      split at hs
      next e =>
        split at hs
        next v hv =>
          split at hs
          next hw =>
            cases hs
            obtain ⟨w1, rfl, E4⟩ := jx_vs_int E3
            obtain ⟨b, r', hb, rfl, E5⟩ := jx_vs_ref E4
            have hk : k = 200 := by simpa using e.1
            subst hk
            rcases E1.2.1 a _ b hM hb with ⟨g1, -⟩ | ⟨-, g1, -⟩ | ⟨-, g1⟩
            · exact absurd (show 200 < 100 from g1) (by decide)
            · exact absurd (show 200 < 200 from g1) (by decide)
            · exact row b L i r' v g1 e.2 hv hw (fun u hu => kk R h lw _ List.prefix_rfl ⟨E1, E2, hu, E5⟩)
          next => cases hs
        next => cases hs
      next => cases hs
    next => cases hs
  next => cases hs
theorem jx_f_ast {ks : List Nat} {w : Value → Bool} (hs : jx_ast ks w pc lv M dc ds st = some (.inl z)) (hks : ∀ k, ks.contains k = true → 100 ≤ k ∧ k < 200) (E : jx_E dA K R M h lv st lw sw)
    (row : ∀ (k b : Nat) (L : List Value) (x : vp_A) (i : Int32) (r : List Value) (v u : Value), ks.contains k = true → h b = some (.inl (dA (k - 100), x)) → jx_ar R (k - 100) L x → ¬ i < 0 → i.toNatClampNeg < L.length → w v = true → jx_v R v u → (∀ y, jx_ar R (k - 100) (L.set i.toNatClampNeg (jx_nar k v)) y → Wk (pc + 1) lw r (jm_up h b (.inl (dA (k - 100), y))) dc ds) → Wk pc lw (u :: .int i :: .ref b :: r) h dc ds) (kk : jx_go dA K Wk R z) : Wk pc lw sw h dc ds := by
  obtain ⟨E1, E2, E3⟩ := E
  unfold jx_ast at hs
  split at hs
  next v i a r =>
    split at hs
    next k L hM =>
      split at hs
      next e =>
        cases hs
        obtain ⟨u, w0, rfl, hu, E4⟩ := jx_vs_cons E3
        obtain ⟨w1, rfl, E5⟩ := jx_vs_int E4
        obtain ⟨b, r', hb, rfl, E6⟩ := jx_vs_ref E5
        have hk := hks k e.1
        rcases E1.2.1 a _ b hM hb with ⟨g1, -⟩ | ⟨-, -, x, g1, g2⟩ | ⟨g1, -⟩
        · have g1 : k < 100 := g1
          omega
        · refine row k b L x i r' v u e.1 g1 g2 e.2.1 e.2.2.1 e.2.2.2 hu (fun y hy => kk R _ lw _ List.prefix_rfl ⟨?_, E2, E6⟩)
          exact jx_re_set E1 hM hb hk.2 rfl (Or.inr (Or.inl ⟨hk.1, hk.2, y, jm_up_eq _ _ _, hy⟩))
        · have g1 : 200 ≤ k := g1
          omega
      next => cases hs
    next => cases hs
  next => cases hs
theorem jx_of_lt {k : Nat} (hk : 104 ≤ k ∧ k < 108) : jx_of k < 100 := by
  have : k = 104 ∨ k = 105 ∨ k = 106 ∨ k = 107 := by omega
  rcases this with rfl | rfl | rfl | rfl <;> decide
theorem jx_ar_up {t i b c : Nat} {L : List Value} {f : Nat → Option Nat} (ht : 4 ≤ t ∧ t < 13) (hL : ∀ (j : Nat) (v : Value), L[j]? = some v → jx_v R v (va_rf (f j))) (hc : R[b]? = some c) : jx_ar R t (L.set i (.ref b)) (L.length, .inr (.inr (.inr (.inr (va_up f i (some c)))))) := by
  refine Or.inr (Or.inr ⟨ht.1, ht.2, va_up f i (some c), by rw [List.length_set], fun j v hv => ?_⟩)
  by_cases e : i = j
  · subst e
    have hl := (List.getElem?_eq_some_iff.mp hv).1
    rw [List.length_set] at hl
    rw [List.getElem?_set_self hl] at hv
    cases hv
    exact ⟨c, hc, by simp [va_up, va_rf]⟩
  · rw [List.getElem?_set_ne e] at hv
    have := hL j v hv
    simpa [va_up, Ne.symm e] using this
theorem jx_f_aas (hs : jx_aas pc lv M dc ds st = some (.inl z)) (E : jx_E dA K R M h lv st lw sw)
    (row : ∀ (k b c n : Nat) (fs : List Value) (f : Nat → Option Nat) (i : Int32) (r : List Value), 104 ≤ k ∧ k < 108 → h b = some (.inl (dA (k - 100), n, .inr (.inr (.inr (.inr f))))) → h c = some (.inr (jx_of k, fs)) → ¬ i < 0 → i.toNatClampNeg < n → Wk (pc + 1) lw r (jm_up h b (.inl (dA (k - 100), n, .inr (.inr (.inr (.inr (va_up f i.toNatClampNeg (some c)))))))) dc ds → Wk pc lw (.ref c :: .int i :: .ref b :: r) h dc ds) (kk : jx_go dA K Wk R z) : Wk pc lw sw h dc ds := by
  obtain ⟨E1, E2, E3⟩ := E
  unfold jx_aas at hs
  split at hs
  next b2 i a r =>
    split at hs
    next k L k2 fs hM hM2 =>
      split at hs
      next e =>
        cases hs
        obtain ⟨c, w0, hc, rfl, E4⟩ := jx_vs_ref E3
        obtain ⟨w1, rfl, E5⟩ := jx_vs_int E4
        obtain ⟨b, r', hb, rfl, E6⟩ := jx_vs_ref E5
        obtain ⟨hk, e0, e1, e2⟩ := e
        subst e0
        have hlt := jx_of_lt hk
        rcases E1.2.1 b2 _ c hM2 hc with ⟨-, fw, g1, g2⟩ | ⟨g1, -⟩ | ⟨g1, -⟩
        · rcases E1.2.1 a _ b hM hb with ⟨j1, -⟩ | ⟨-, -, x, j1, j2⟩ | ⟨j1, -⟩
          · have j1 : k < 100 := j1
            omega
          · have j1 : h b = some (.inl (dA (k - 100), x)) := j1
            rcases j2 with ⟨j3, -⟩ | ⟨j3, -⟩ | ⟨j3, j4, f, rfl, j5⟩
            · have j3 : k - 100 < 3 := j3
              omega
            · have j3 : k - 100 = 3 := j3
              omega
            · refine row k b c L.length fw f i r' hk j1 g1 e1 e2 (kk R _ lw _ List.prefix_rfl ⟨?_, E2, E6⟩)
              exact jx_re_set E1 hM hb (show k < 200 by omega) rfl (Or.inr (Or.inl ⟨show 100 ≤ k by omega, show k < 200 by omega, _, jm_up_eq _ _ _, jx_ar_up ⟨j3, j4⟩ j5 hc⟩))
          · have j1 : 200 ≤ k := j1
            omega
        · have g1 : 100 ≤ jx_of k := g1
          omega
        · have g1 : 200 ≤ jx_of k := g1
          omega
      next => cases hs
    next => cases hs
  next => cases hs
theorem jx_f_aat (hs : jx_aat pc lv M dc ds st = some (.inl z)) (E : jx_E dA K R M h lv st lw sw)
    (row : ∀ (b c n : Nat) (L : List Value) (f : Nat → Option Nat) (i : Int32) (r : List Value), h b = some (.inl (dA 8, n, .inr (.inr (.inr (.inr f))))) → K (300, L) c → ¬ i < 0 → i.toNatClampNeg < n → Wk (pc + 1) lw r (jm_up h b (.inl (dA 8, n, .inr (.inr (.inr (.inr (va_up f i.toNatClampNeg (some c)))))))) dc ds → Wk pc lw (.ref c :: .int i :: .ref b :: r) h dc ds) (kk : jx_go dA K Wk R z) : Wk pc lw sw h dc ds := by
  obtain ⟨E1, E2, E3⟩ := E
  unfold jx_aat at hs
  split at hs
  next b2 i a r =>
    split at hs
    next k L k2 fs hM hM2 =>
      split at hs
      next e =>
        cases hs
        obtain ⟨c, w0, hc, rfl, E4⟩ := jx_vs_ref E3
        obtain ⟨w1, rfl, E5⟩ := jx_vs_int E4
        obtain ⟨b, r', hb, rfl, E6⟩ := jx_vs_ref E5
        obtain ⟨hk, e0, e1, e2⟩ := e
        subst e0
        subst hk
        rcases E1.2.1 b2 _ c hM2 hc with ⟨g1, -⟩ | ⟨-, g1, -⟩ | ⟨-, g1⟩
        · exact absurd (show 300 < 100 from g1) (by decide)
        · exact absurd (show 300 < 200 from g1) (by decide)
        · rcases E1.2.1 a _ b hM hb with ⟨j1, -⟩ | ⟨-, -, x, j1, j2⟩ | ⟨j1, -⟩
          · exact absurd (show 108 < 100 from j1) (by decide)
          · have j1 : h b = some (.inl (dA 8, x)) := j1
            rcases j2 with ⟨j3, -⟩ | ⟨j3, -⟩ | ⟨j3, j4, f, rfl, j5⟩
            · exact absurd (show 8 < 3 from j3) (by decide)
            · exact absurd (show 8 = 3 from j3) (by decide)
            · refine row b c L.length fs f i r' j1 g1 e1 e2 (kk R _ lw _ List.prefix_rfl ⟨?_, E2, E6⟩)
              exact jx_re_set E1 hM hb (show 108 < 200 by decide) rfl (Or.inr (Or.inl ⟨show 100 ≤ 108 by decide, show 108 < 200 by decide, _, jm_up_eq _ _ _, jx_ar_up ⟨j3, j4⟩ j5 hc⟩))
          · exact absurd (show 200 ≤ 108 from j1) (by decide)
      next => cases hs
    next => cases hs
  next => cases hs
theorem jx_f_al (hs : jx_al pc lv M dc ds st = some (.inl z)) (E : jx_E dA K R M h lv st lw sw)
    (row1 : ∀ (k b : Nat) (L : List Value) (x : vp_A) (r : List Value), 100 ≤ k ∧ k < 113 → h b = some (.inl (dA (k - 100), x)) → x.1 = L.length → Wk (pc + 1) lw (.int (Int32.ofNat L.length) :: r) h dc ds → Wk pc lw (.ref b :: r) h dc ds)
    (row2 : ∀ (b : Nat) (L : List Value) (r : List Value), K (200, L) b → Wk (pc + 1) lw (.int (Int32.ofNat L.length) :: r) h dc ds → Wk pc lw (.ref b :: r) h dc ds) (kk : jx_go dA K Wk R z) : Wk pc lw sw h dc ds := by
  obtain ⟨E1, E2, E3⟩ := E
  unfold jx_al at hs
  split at hs
  next a r =>
    split at hs
    next k L hM =>
      split at hs
      next e =>
        cases hs
        obtain ⟨b, r', hb, rfl, E4⟩ := jx_vs_ref E3
        have hk := kk R h lw (.int (Int32.ofNat L.length) :: r') List.prefix_rfl ⟨E1, E2, rfl, E4⟩
        rcases E1.2.1 a _ b hM hb with ⟨g1, -⟩ | ⟨g0, g0', x, g1, g2⟩ | ⟨g0, g1⟩
        · have g1 : k < 100 := g1
          omega
        · have g0' : k < 200 := g0'
          refine row1 k b L x r' (by omega) g1 ?_ hk
          rcases g2 with ⟨-, f, rfl, -⟩ | ⟨-, f, rfl, -⟩ | ⟨-, -, f, rfl, -⟩ <;> rfl
        · have g0 : 200 ≤ k := g0
          have : k = 200 := by omega
          subst this
          exact row2 b L r' g1 hk
      next => cases hs
    next => cases hs
  next => cases hs
theorem jx_f_nw {df : List (List Value)} {x : List Nat} (hs : jx_nw pc lv M dc ds df x st = some (.inl z)) (hdf : ∀ ci fs, df[ci]? = some fs → ci < 100 ∧ ∀ R, jx_vs R fs fs) (E : jx_E dA K R M h lv st lw sw)
    (row : ∀ (ci : Nat) (fs : List Value), x = [ci] → df[ci]? = some fs → z.2.2.2.2.1 = dc + 1 → z.2.2.2.2.2 = ds + fs.length → (∀ q : Nat, h q = none → Wk (pc + 3) lw (.ref q :: sw) (jm_up h q (.inr (ci, fs))) (dc + 1) (ds + fs.length)) → Wk pc lw sw h dc ds) (kk : jx_go dA K Wk R z) : Wk pc lw sw h dc ds := by
  obtain ⟨E1, E2, E3⟩ := E
  unfold jx_nw at hs
  split at hs
  next ci =>
    split at hs
    next fs hfs =>
      cases hs
      obtain ⟨h1, h2⟩ := hdf ci fs hfs
      refine row ci fs rfl hfs rfl rfl (fun q hq => ?_)
      have hp : R <+: R ++ [q] := ⟨[q], rfl⟩
      refine kk (R ++ [q]) _ lw _ hp ⟨jx_re_new E1 hq (Or.inl ⟨h1, fs, jm_up_eq _ _ _, h2 _⟩), jx_lv_mono hp E2, ⟨q, ?_, rfl⟩, jx_vs_mono hp E3⟩
      rw [← E1.1]
      simp
    next =>
      split at hs
      next => cases hs
      next => cases hs
  next => cases hs
theorem jx_ar_new {R : List Nat} {t n : Nat} (ht : t < 13) : ∃ x : vp_A, jx_ar R t (List.replicate n (jx_el t)) x ∧ x.1 = n ∧ (t < 3 → x = (n, .inl (fun _ => 0))) ∧ (t = 3 → x = (n, .inr (.inl (fun _ => 0)))) ∧ (4 ≤ t → x = (n, .inr (.inr (.inr (.inr (fun _ => none)))))) := by
  by_cases h1 : t < 3
  · refine ⟨(n, .inl (fun _ => 0)), Or.inl ⟨h1, fun _ => 0, by rw [List.length_replicate], fun i v hv => ?_⟩, rfl, fun _ => rfl, fun e => by omega, fun e => by omega⟩
    have := List.eq_of_mem_replicate (List.mem_of_getElem? hv)
    rw [this]
    unfold jx_el
    rw [if_pos h1]
  · by_cases h2 : t = 3
    · subst h2
      refine ⟨(n, .inr (.inl (fun _ => 0))), Or.inr (Or.inl ⟨rfl, fun _ => 0, by rw [List.length_replicate], fun i v hv => ?_⟩), rfl, fun e => by omega, fun _ => rfl, fun e => by omega⟩
      have := List.eq_of_mem_replicate (List.mem_of_getElem? hv)
      rw [this]
      rfl
    · refine ⟨(n, .inr (.inr (.inr (.inr (fun _ => none))))), Or.inr (Or.inr ⟨by omega, ht, fun _ => none, by rw [List.length_replicate], fun i v hv => ?_⟩), rfl, fun e => by omega, fun e => by omega, fun _ => rfl⟩
      have := List.eq_of_mem_replicate (List.mem_of_getElem? hv)
      rw [this]
      unfold jx_el
      rw [if_neg h1, if_neg h2]
      rfl
theorem jx_f_na {len : Nat} {x : List Nat} (hs : jx_na len pc lv M dc ds x st = some (.inl z)) (E : jx_E dA K R M h lv st lw sw)
    (row : ∀ (t : Nat) (n : Int32) (r : List Value), x = [t] → t < 13 → ¬ n < 0 → n.toNatClampNeg ≤ 67108864 → z.2.2.2.2.1 = dc + 1 → z.2.2.2.2.2 = ds + n.toNatClampNeg → (∀ (q : Nat) (a : vp_A), h q = none → a.1 = n.toNatClampNeg → (t < 3 → a = (n.toNatClampNeg, .inl (fun _ => 0))) → (t = 3 → a = (n.toNatClampNeg, .inr (.inl (fun _ => 0)))) → (4 ≤ t → a = (n.toNatClampNeg, .inr (.inr (.inr (.inr (fun _ => none)))))) → Wk (pc + len) lw (.ref q :: r) (jm_up h q (.inl (dA t, a))) (dc + 1) (ds + n.toNatClampNeg)) → Wk pc lw (.int n :: r) h dc ds) (kk : jx_go dA K Wk R z) : Wk pc lw sw h dc ds := by
  obtain ⟨E1, E2, E3⟩ := E
  unfold jx_na at hs
  split at hs
  next t n r =>
    split at hs
    next => cases hs
    next e =>
      cases hs
      have e1 : ¬ n < 0 := fun q => e (Or.inl q)
      have e2 : n.toNatClampNeg ≤ 67108864 := Nat.not_lt.mp fun q => e (Or.inr (Or.inl q))
      have e3 : t < 13 := Nat.not_le.mp fun q => e (Or.inr (Or.inr q))
      obtain ⟨r', rfl, E4⟩ := jx_vs_int E3
      refine row t n r' rfl e3 e1 e2 rfl rfl (fun q a hq g1 g2 g3 g4 => ?_)
      have hp : R <+: R ++ [q] := ⟨[q], rfl⟩
      have ha : jx_ar (R ++ [q]) t (List.replicate n.toNatClampNeg (jx_el t)) a := by
        obtain ⟨x, j1, j2, j3, j4, j5⟩ := jx_ar_new (R := R ++ [q]) (n := n.toNatClampNeg) e3
        have : a = x := by
          by_cases h1 : t < 3
          · rw [g2 h1, j3 h1]
          · by_cases h2 : t = 3
            · rw [g3 h2, j4 h2]
            · rw [g4 (by omega), j5 (by omega)]
        rw [this]
        exact j1
      refine kk (R ++ [q]) _ lw _ hp ⟨jx_re_new E1 hq (Or.inr (Or.inl ⟨show 100 ≤ 100 + t by omega, show 100 + t < 200 by omega, a, ?_, ?_⟩)), jx_lv_mono hp E2, ⟨q, ?_, rfl⟩, jx_vs_mono hp E4⟩
      · rw [jm_up_eq]
        show some (Sum.inl (dA t, a)) = some (Sum.inl (dA (100 + t - 100), a))
        rw [Nat.add_sub_cancel_left]
      · show jx_ar (R ++ [q]) (100 + t - 100) _ a
        rw [Nat.add_sub_cancel_left]
        exact ha
      · rw [← E1.1]
        simp
  next => cases hs
end JX3
end
section
section JX4
variable {p : Program} {l : Launch} {e : Env} {R : Room} {s : State} {m : MethodId} {args : Array Value} {below : List Frame} {meth : Method} {c : Code} {Q : State → Prop}
variable {S : State} {D : va_G} {cl : List vw_C} {tys : List (ClassId × FieldType)} {G : List Cond} {cc : ByteArray} {nL pc dc ds : Nat} {own : String} {lv : List (Nat × Value)} {rest : List Value} {h : jm_H}
theorem jm_keptS (X : jm_cx p s m args c S D cl tys G cc nL own) : ∀ a : Nat, a < S.heap.size → ¬ S.heap.size ≤ a → s.heap[a]? = S.heap[a]? := fun a h1 _ => X.2.2.2.2.2.2.1.2.2 a h1
theorem jm_aaldA (X : jm_cx p s m args c S D cl tys G cc nL own) {t0 a n : Nat} {cA : ClassId} {ty : FieldType} {f : Nat → Option Nat} {i : Int32} (hd : decode cc pc = .ok (.aaload, 1)) (ht : tys[t0]? = some (cA, ty)) (hty : ty.isReference = true) (ha : h a = some (.inl (cA, n, .inr (.inr (.inr (.inr f)))))) (hin : vp_in i n) (kk : jm_W p l e R s m args below meth c S D cl Q nL (pc + 1) lv (va_rf (f i.toNatClampNeg) :: rest) h dc ds) : jm_W p l e R s m args below meth c S D cl Q nL (pc) lv (.int i :: .ref a :: rest) h dc ds := by
  intro H ls locs hl hr hS
  obtain ⟨q0, hq⟩ := jm_place hr ha
  have hlt : i.toNatClampNeg < n := Nat.not_le.mp fun q => hin (Or.inr q)
  exact W.aald (v := va_rf (f i.toNatClampNeg)) (ty := ty) X.1 X.2.1 (jm_P hr q0 _ hq) ((X.2.2.2.2.2.1.2 t0 _ ht).1 n (fun j => va_rf (f j))) hty (fun q => by cases q) (by show ¬ (i < 0 ∨ (arrV _ _ _).slots.size ≤ _); rw [arrV_size]; exact hin) (by show (arrV _ _ _).slots[_]? = _; rw [arrV_read _ _ hlt]) rfl rfl hd (kk H ls locs hl hr hS)
theorem jm_ialdK (X : jm_cx p s m args c S D cl tys G cc nL own) {b L : Nat} {xs : Nat → Int32} {i : Int32} (hd : decode cc pc = .ok (.iaload, 1)) (hX : va_X b L xs S S.heap) (hb : b < S.heap.size) (hin : vp_in i L) (kk : jm_W p l e R s m args below meth c S D cl Q nL (pc + 1) lv (.int (xs i.toNatClampNeg) :: rest) h dc ds) : jm_W p l e R s m args below meth c S D cl Q nL (pc) lv (.int i :: .ref b :: rest) h dc ds := fun H ls locs hl hr hS =>
  va_sld X.1 X.2.1 (va_X.kept (va_X.moved X.2.2.2.2.2.2.1.1.alike hX) (jm_keptS X b hb (Nat.not_le.mpr hb))) (Nat.lt_of_lt_of_le hb X.2.2.2.2.2.2.1.2.1) (Nat.not_le.mpr hb) hS hin hd (kk H ls locs hl hr hS)
theorem jm_alenK (X : jm_cx p s m args c S D cl tys G cc nL own) {b L : Nat} {xs : Nat → Int32} (hd : decode cc pc = .ok (.arraylength, 1)) (hX : va_X b L xs S S.heap) (hb : b < S.heap.size) (kk : jm_W p l e R s m args below meth c S D cl Q nL (pc + 1) lv (.int (Int32.ofNat L) :: rest) h dc ds) : jm_W p l e R s m args below meth c S D cl Q nL (pc) lv (.ref b :: rest) h dc ds := fun H ls locs hl hr hS =>
  va_slen X.1 X.2.1 (va_X.kept (va_X.moved X.2.2.2.2.2.2.1.1.alike hX) (jm_keptS X b hb (Nat.not_le.mpr hb))) (Nat.lt_of_lt_of_le hb X.2.2.2.2.2.2.1.2.1) (Nat.not_le.mpr hb) hS hd (kk H ls locs hl hr hS)
theorem jm_aastS (X : jm_cx p s m args c S D cl tys G cc nL own) {t0 a n v : Nat} {cA : ClassId} {C : String} {f : Nat → Option Nat} {i : Int32} (hd : decode cc pc = .ok (.aastore, 1)) (ht : tys[t0]? = some (cA, .object C)) (ha : h a = some (.inl (cA, n, .inr (.inr (.inr (.inr f)))))) (hv : va_O C v (fun q => S.heap.size ≤ q) S S.heap) (hin : vp_in i n) (kk : jm_W p l e R s m args below meth c S D cl Q nL (pc + 1) lv (rest) (jm_up h a (.inl (cA, n, .inr (.inr (.inr (.inr (va_up f i.toNatClampNeg (some v)))))))) dc ds) : jm_W p l e R s m args below meth c S D cl Q nL (pc) lv (.ref v :: .int i :: .ref a :: rest) h dc ds := by
  intro H ls locs hl hr hS
  obtain ⟨q0, hq⟩ := jm_place hr ha
  have h1 := (va_O.moved X.2.2.2.2.2.2.1.1.alike hv).kept (jm_keptS X)
  obtain ⟨cell, g1, g2, g3, g4⟩ := h1.kept hS.2.1
  obtain ⟨kC, hkC, -⟩ := Vm.findClass_spec g3
  have hA : va_Any C s H v := ⟨cell, g1, g2, ⟨kC, hkC⟩, fun comp hc => by
    cases g3.symm.trans hc
    exact va_asg _ _⟩
  exact va_astqM X.1 X.2.1 X.2.2.2.2.2.1 (jm_P hr) (jm_D hr) hS q0 t0 hq ht hA hin hd (fun H1 locs1 hP1 _ hS1 => kk H1 ls locs1 hl (jm_set hr hq hP1) hS1)
theorem jm_getsK (X : jm_cx p s m args c S D cl tys G cc nL own) {C n d : String} {index : Nat} {v : Value} (hd : decode cc pc = .ok (.getstatic index, 3)) (hZ : va_Z C n d v (fun q => S.heap.size ≤ q) S S.heap) (hw : Cond.fieldLink own index C n d ∈ G) (kk : jm_W p l e R s m args below meth c S D cl Q nL (pc + 3) lv (v :: rest) h dc ds) : jm_W p l e R s m args below meth c S D cl Q nL (pc) lv rest h dc ds := fun H ls locs hl hr hS =>
  va_gets X.1 X.2.1 ((va_Z.moved X.2.2.2.2.2.2.1.1.alike hZ).kept (jm_keptS X)) hS X.2.2.2.1 (X.2.2.2.2.1 _ hw) (fun _ q => q) hd (kk H ls locs hl hr hS)
theorem jm_ldcS (X : jm_cx p s m args c S D cl tys G cc nL own) {tx : String} {index q : Nat} (hd : decode cc pc = .ok (.ldc index, 2)) (hZ : vk_R own index tx q S) (kk : jm_W p l e R s m args below meth c S D cl Q nL (pc + 2) lv (.ref q :: rest) h dc ds) : jm_W p l e R s m args below meth c S D cl Q nL (pc) lv rest h dc ds := fun H ls locs hl hr hS =>
  va_ldcS X.1 X.2.1 X.2.2.2.1 (vk_R.warm X.2.2.2.2.2.2.1.1 hZ) hd (kk H ls locs hl hr hS)
theorem jm_newqA (X : jm_cx p s m args c S D cl tys G cc nL own) {C : String} {index t0 N : Nat} {cA : ClassId} {n : Int32} (hd : decode cc pc = .ok (.anewarray index, 3)) (hw : Cond.classLink own index C ∈ G) (hv : va_AO C S) (ht : tys[t0]? = some (cA, .object C)) (hn : ¬ n < 0) (hN : n.toNatClampNeg = N) (hb : N * 4 ≤ 536870912) (hcells : dc + 1 ≤ R.cells) (hslots : ds + N ≤ R.slots)
    (kk : ∀ q : Nat, h q = none → S.heap.size ≤ q → jm_W p l e R s m args below meth c S D cl Q nL (pc + 3) lv (.ref q :: rest) (jm_up h q (.inl (cA, N, .inr (.inr (.inr (.inr (fun _ => none))))))) (dc + 1) (ds + N)) : jm_W p l e R s m args below meth c S D cl Q nL pc lv (.int n :: rest) h dc ds := by
  intro H ls locs hl hr hS
  refine va_newq X.1 X.2.1 X.2.2.2.1 (X.2.2.2.2.1 _ hw) (va_AO.moved X.2.2.2.2.2.2.1.1.alike hv) X.2.2.2.2.2.1 (jm_P hr) (jm_D hr) hS (jm_A X) hn hN hb hcells hslots hd (fun q cA1 H1 hK1 hP1 hD1 hS1 => ?_)
  obtain ⟨_, _, _, _, _, e1⟩ := (hK1.2 tys.length (cA1, .object C) (by simp)).2
  obtain ⟨_, _, _, _, _, e2⟩ := (X.2.2.2.2.2.1.2 t0 _ ht).2
  have e3 : cA1 = cA := Option.some.inj (e1.symm.trans e2)
  subst e3
  obtain ⟨h1, h2, h3⟩ := jm_app hr hP1 hD1
  exact kk q h2 h3 H1 ls locs hl h1 hS1
end JX4
end
section
section JX5
variable {p : Program} {l : Launch} {e : Env} {Rm : Room} {s : State} {m : MethodId} {args : Array Value} {below : List Frame} {meth : Method} {c : Code} {Q : State → Prop}
variable {S : State} {D : va_G} {dA : Nat → ClassId} {cc : ByteArray} {nL pc dc ds : Nat} {own : String} {K : (Nat × List Value) → Nat → Prop} {R R0 : List Nat} {M : jx_H} {h : jm_H} {lv lw : List (Nat × Value)} {st sw : List Value} {z : jx_N}
/-- the type of a field, by its number -/
def jx_tk (t : Nat) (ty : FieldType) : Prop := (t = 0 ∧ ty = .int) ∨ (t = 1 ∧ ty = .long) ∨ (t = 2 ∧ ty = .boolean) ∨ (t = 4 ∧ ((∃ C, ty = .object C) ∨ ∃ t1, ty = .array t1))
theorem jx_fit_ok {t : Nat} {ty : FieldType} {v u : Value} {R : List Nat} (ht : jx_tk t ty) (hf : jx_fit t v = true) (hv : jx_v R v u) : narrow ty u = u ∧ fits ty u = true := by
  rcases ht with ⟨rfl, rfl⟩ | ⟨rfl, rfl⟩ | ⟨rfl, rfl⟩ | ⟨rfl, ht⟩
  · cases v <;> simp [jx_fit] at hf
    have hv : u = _ := hv
    subst hv
    exact ⟨rfl, rfl⟩
  · cases v <;> simp [jx_fit] at hf
    have hv : u = _ := hv
    subst hv
    exact ⟨rfl, rfl⟩
  · cases v <;> simp [jx_fit] at hf
    have hv : u = _ := hv
    subst hv
    rcases hf with rfl | rfl <;> exact ⟨by decide, by decide⟩
  · cases v with
    | null =>
      have hv : u = _ := hv
      subst hv
      rcases ht with ⟨C, rfl⟩ | ⟨t1, rfl⟩ <;> exact ⟨rfl, rfl⟩
    | ref a =>
      obtain ⟨b, -, rfl⟩ := hv
      rcases ht with ⟨C, rfl⟩ | ⟨t1, rfl⟩ <;> exact ⟨rfl, rfl⟩
    | _ => simp [jx_fit] at hf
/-- the first is the class of arrays over the second -/
def jx_kd (S : State) (a b : ClassId) : Prop := ∃ (k : Class) (ty : FieldType), S.vm.classes[a]? = some k ∧ k.kind = .array b ty ∧ ty.isReference = true ∧ componentBytes ty = 4
theorem jx_kd.moved {S : State} {a b : ClassId} {vm : Vm} (hvm : S.vm.Alike vm) (h : jx_kd S a b) : ∃ (k : Class) (ty : FieldType), vm.classes[a]? = some k ∧ k.kind = .array b ty ∧ ty.isReference = true ∧ componentBytes ty = 4 := by
  obtain ⟨k, ty, h1, h2, h3, h4⟩ := h
  obtain ⟨k', hk', he⟩ := hvm.2.2 _ _ h1
  exact ⟨k', ty, hk', by rw [he]; exact h2, h3, h4⟩
def jx_si (S : State) (dA : Nat → ClassId) (R0 : List Nat) (df : List (List Value)) (own : String) (i : Instr) (x : List Nat) (va : Value) : Prop := match i with
  | .iconst n => va = .int (Int32.ofInt n)
  | .bipush n => va = .int (Int8.ofInt n).toInt32
  | .sipush n => va = .int (Int16.ofInt n).toInt32
  | .lconst n => va = .long (Int64.ofNat n.val)
  | .ldc idx => (∃ v, va = .int v ∧ Cond.constant own idx v ∈ jm_G) ∨ (∃ (a b : Nat) (tx : String), va = .ref a ∧ R0[a]? = some b ∧ vk_R own idx tx b S)
  | .ldc_w idx => ∃ v, va = .int v ∧ Cond.constant own idx v ∈ jm_G
  | .ldc2_w idx => ∃ v, va = .long v ∧ Cond.constantLong own idx v ∈ jm_G
  | .getfield idx => ∃ (ci k : Nat) (ty : FieldType) (fin : Bool), x = [ci, k] ∧ ci < 100 ∧ jm_fs jm_cl jm_G own idx ci k ty fin
  | .putfield idx => ∃ (ci k t f : Nat) (ty : FieldType), x = [ci, k, t, f] ∧ ci < 100 ∧ jx_tk t ty ∧ ((f = 0 ∧ jm_fs jm_cl jm_G own idx ci k ty false) ∨ (f = 1 ∧ jm_ff jm_cl jm_G own idx ci k ty))
  | .getstatic idx => ∃ (a b : Nat) (C n d : String), va = .ref a ∧ R0[a]? = some b ∧ va_Z C n d (.ref b) (fun q => S.heap.size ≤ q) S S.heap ∧ Cond.fieldLink own idx C n d ∈ jm_G
  | .new idx => ∃ ci, x = [ci] ∧ ∀ fs, df[ci]? = some fs → jm_nw jm_cl jm_G own idx ci fs.length fs
  | .newarray at1 => ∃ t ty, x = [t] ∧ t < 4 ∧ newarray.typeOf at1 = ty ∧ (jm_ty dA)[t]? = some (dA t, ty) ∧ Cond.arrayClass (newarray.typeOf at1) ∈ jm_G
  | .anewarray idx => ∃ t C, x = [t] ∧ 4 ≤ t ∧ (jm_ty dA)[t]? = some (dA t, .object C) ∧ Cond.classLink own idx C ∈ jm_G ∧ va_AO C S
  | .multianewarray idx dm => (∃ (t1 t2 : Nat) (C : String), x = [t1, t2] ∧ dm = 2 ∧ 4 ≤ t1 ∧ t1 < 13 ∧ t2 < 4 ∧ Cond.classLink own idx C ∈ jm_G ∧ S.vm.findClass C = some (dA t1) ∧ jx_kd S (dA t1) (dA t2)) ∨
      (∃ (t1 t2 t3 : Nat) (C : String), x = [t1, t2, t3] ∧ dm = 3 ∧ 4 ≤ t1 ∧ t1 < 13 ∧ 4 ≤ t2 ∧ t2 < 13 ∧ t3 < 4 ∧ Cond.classLink own idx C ∈ jm_G ∧ S.vm.findClass C = some (dA t1) ∧ jx_kd S (dA t1) (dA t2) ∧ jx_kd S (dA t2) (dA t3))
  | _ => True
def jx_len (i : Instr) : Nat := match i with
  | .aload _ | .iload _ | .lload _ | .astore _ | .istore _ | .lstore _ | .bipush _ | .ldc _ | .newarray _ => 2
  | .sipush _ | .ldc_w _ | .ldc2_w _ | .getfield _ | .putfield _ | .getstatic _ | .new _ | .anewarray _ | .invokestatic _ | .invokevirtual _ | .invokespecial _ | .ifCond _ _ | .if_icmp _ _ | .goto _ | .iinc _ _ => 3
  | .multianewarray _ _ => 4
  | _ => 1
/-- what is known of constants -/
def jx_KK (S : State) (K : (Nat × List Value) → Nat → Prop) : Prop := (∀ (L : List Value) (b : Nat), K (200, L) b → b < S.heap.size ∧ ∃ xs : Nat → Int32, va_X b L.length xs S S.heap ∧ ∀ (i : Nat) (v : Value), L[i]? = some v → v = .int (xs i)) ∧
  (∀ (L : List Value) (b : Nat), K (300, L) b → va_O "java/lang/String" b (fun q => S.heap.size ≤ q) S S.heap ∧ va_OF "java/lang/String" "coder" "B" (.int 0) b (fun q => S.heap.size ≤ q) S S.heap ∧ ∃ (v : Nat) (xs : Nat → Int32), va_OF "java/lang/String" "value" "[B" (.ref v) b (fun q => S.heap.size ≤ q) S S.heap ∧ va_T .byte v L.length (fun j => .int (xs j)) (fun q => S.heap.size ≤ q) S S.heap ∧ L.length < 1000 ∧ ∀ (i : Nat) (w : Value), L[i]? = some w → w = .int (xs i) ∧ xs i &&& 255 = xs i) ∧ va_Z "java/lang/String" "COMPACT_STRINGS" "Z" (.int 1) (fun q => S.heap.size ≤ q) S S.heap ∧ ∃ q : Nat, va_Z "jdk/internal/util/Preconditions" "SIOOBE_FORMATTER" "Ljava/util/function/BiFunction;" (.ref q) (fun q => S.heap.size ≤ q) S S.heap
theorem jx_jz (X : jm_cx p s m args c S D jm_cl (jm_ty dA) jm_G cc nL own) {cd : ClassFile.Cond} {off : Int} (hd : decode cc pc = .ok (.ifCond cd off, 3)) (x : Int32) (r : List Value) (t : Nat) (ht : (pc : Int) + off = (t : Int))
    (kt : jx_cz cd x = true → jm_W p l e Rm s m args below meth c S D jm_cl Q nL t lw r h dc ds) (kf : jx_cz cd x = false → jm_W p l e Rm s m args below meth c S D jm_cl Q nL (pc + 3) lw r h dc ds) : jm_W p l e Rm s m args below meth c S D jm_cl Q nL pc lw (.int x :: r) h dc ds := by
  cases cd with
  | eq => exact jm_if_eq X hd ht (fun q => kt (by simp only [jx_cz, q]; rfl)) (fun q => kf (by simp only [jx_cz, q]; rfl))
  | ne => exact jm_if_ne X hd ht (fun q => kt (by simp [jx_cz, q])) (fun q => kf (by simp [jx_cz, q]))
  | lt => exact jm_if_lt X hd ht (fun q => kt (by simp only [jx_cz, q]; rfl)) (fun q => kf (by simp only [jx_cz, q]; rfl))
  | ge => exact jm_if_ge X hd ht (fun q => kt (by simp only [jx_cz, q]; rfl)) (fun q => kf (by simp only [jx_cz, q]; rfl))
  | gt => exact jm_if_gt X hd ht (fun q => kt (by simp only [jx_cz, q]; rfl)) (fun q => kf (by simp only [jx_cz, q]; rfl))
  | le => exact jm_if_le X hd ht (fun q => kt (by simp only [jx_cz, q]; rfl)) (fun q => kf (by simp only [jx_cz, q]; rfl))
theorem jx_jc (X : jm_cx p s m args c S D jm_cl (jm_ty dA) jm_G cc nL own) {cd : ClassFile.Cond} {off : Int} (hd : decode cc pc = .ok (.if_icmp cd off, 3)) (x y : Int32) (r : List Value) (t : Nat) (ht : (pc : Int) + off = (t : Int))
    (kt : jx_cc cd x y = true → jm_W p l e Rm s m args below meth c S D jm_cl Q nL t lw r h dc ds) (kf : jx_cc cd x y = false → jm_W p l e Rm s m args below meth c S D jm_cl Q nL (pc + 3) lw r h dc ds) : jm_W p l e Rm s m args below meth c S D jm_cl Q nL pc lw (.int y :: .int x :: r) h dc ds := by
  cases cd with
  | eq => exact jm_icmp_eq X hd ht (fun q => kt (by simp only [jx_cc, q]; rfl)) (fun q => kf (by simp only [jx_cc, q]; rfl))
  | ne => exact jm_icmp_ne X hd ht (fun q => kt (by simp [jx_cc, q])) (fun q => kf (by simp [jx_cc, q]))
  | lt => exact jm_icmp_lt X hd ht (fun q => kt (by simp only [jx_cc, q]; rfl)) (fun q => kf (by simp only [jx_cc, q]; rfl))
  | ge => exact jm_icmp_ge X hd ht (fun q => kt (by simp only [jx_cc, q]; rfl)) (fun q => kf (by simp only [jx_cc, q]; rfl))
  | gt => exact jm_icmp_gt X hd ht (fun q => kt (by simp only [jx_cc, q]; rfl)) (fun q => kf (by simp only [jx_cc, q]; rfl))
  | le => exact jm_icmp_le X hd ht (fun q => kt (by simp only [jx_cc, q]; rfl)) (fun q => kf (by simp only [jx_cc, q]; rfl))
theorem jx_in {i : Int32} {n : Nat} (h1 : ¬ i < 0) (h2 : i.toNatClampNeg < n) : vp_in i n := fun q => q.elim h1 (fun z => absurd h2 (Nat.not_lt.mpr z))
theorem jx_in' {i : Int32} {L : List Value} {v : Value} (h1 : ¬ i < 0) (h2 : L[i.toNatClampNeg]? = some v) : vp_in i L.length := jx_in h1 (List.getElem?_eq_some_iff.mp h2).1
theorem jx_upd {L : List Value} {f : Nat → Int32} {i : Nat} {y : Int32} (hL : ∀ (j : Nat) (v : Value), L[j]? = some v → v = .int (f j)) : ∀ (j : Nat) (v : Value), (L.set i (.int y))[j]? = some v → v = .int (upd f i y j) := fun j v hv => by
  by_cases e : i = j
  · subst e
    have hl := (List.getElem?_eq_some_iff.mp hv).1
    rw [List.length_set] at hl
    rw [List.getElem?_set_self hl] at hv
    cases hv
    simp [upd]
  · rw [List.getElem?_set_ne e] at hv
    have := hL j v hv
    simpa [upd, Ne.symm e] using this
theorem jx_updL {L : List Value} {f : Nat → Int64} {i : Nat} {y : Int64} (hL : ∀ (j : Nat) (v : Value), L[j]? = some v → v = .long (f j)) : ∀ (j : Nat) (v : Value), (L.set i (.long y))[j]? = some v → v = .long (vp_updL f i y j) := fun j v hv => by
  by_cases e : i = j
  · subst e
    have hl := (List.getElem?_eq_some_iff.mp hv).1
    rw [List.length_set] at hl
    rw [List.getElem?_set_self hl] at hv
    cases hv
    simp [vp_updL]
  · rw [List.getElem?_set_ne e] at hv
    have := hL j v hv
    simpa [vp_updL, Ne.symm e] using this
end JX5
end
section
section JX6
variable {p : Program} {l : Launch} {e : Env} {Rm : Room} {s : State} {m : MethodId} {args : Array Value} {below : List Frame} {meth : Method} {c : Code} {Q : State → Prop}
variable {S : State} {D : va_G} {dA : Nat → ClassId} {cc : ByteArray} {nL pc dc ds : Nat} {own : String} {K : (Nat × List Value) → Nat → Prop} {R R0 : List Nat} {M : jx_H} {h : jm_H} {lv lw : List (Nat × Value)} {st sw : List Value} {z : jx_N}
def jx_lok (i : Instr) (len : Nat) : Bool := match i with
  | .tableswitch _ _ _ _ => true
  | .lookupswitch _ _ => true
  | _ => len == jx_len i
theorem jx_R0 (hR0 : R0 <+: R) {a b : Nat} (h0 : R0[a]? = some b) : jx_v R (.ref a) (.ref b) := jx_v_mono (R := R0) hR0 ⟨b, h0, rfl⟩
set_option maxHeartbeats 1000000 in
theorem jx_next (X : jm_cx p s m args c S D jm_cl (jm_ty dA) jm_G cc nL own) (hKK : jx_KK S K) (hR0 : R0 <+: R) {df : List (List Value)} (hdf : ∀ ci fs, df[ci]? = some fs → ci < 100 ∧ ∀ R, jx_vs R fs fs) {i : Instr} {len : Nat} {x : List Nat} {va : Value} {ret : Option FieldType} {ini : Bool} (hd : decode cc pc = .ok (i, len)) (hl : jx_lok i len = true) (hsi : jx_si S dA R0 df own i x va) (hini : ini = true → meth.name = "<init>")
    (E : jx_E dA K R M h lv st lw sw) (hs : jx_step df nL ret ini i x va pc lv st M dc ds = some (.inl z)) (hrm : z.2.2.2.2.1 ≤ Rm.cells ∧ z.2.2.2.2.2 ≤ Rm.slots) (hnm : ∀ a b, i ≠ .multianewarray a b)
    (kk : jx_go dA K (fun pc lv st h dc ds => jm_W p l e Rm s m args below meth c S D jm_cl Q nL pc lv st h dc ds) R z) : jm_W p l e Rm s m args below meth c S D jm_cl Q nL pc lw sw h dc ds := by
  cases i with
  | iadd =>
    have hl : len = 1 := by simpa [jx_lok, jx_len] using hl
    subst hl
    exact jx_f_ii (Wk := fun pc lv st h dc ds => jm_W p l e Rm s m args below meth c S D jm_cl Q nL pc lv st h dc ds) hs E (fun x y r k => jm_iadd X hd k) kk
  | isub =>
    have hl : len = 1 := by simpa [jx_lok, jx_len] using hl
    subst hl
    exact jx_f_ii (Wk := fun pc lv st h dc ds => jm_W p l e Rm s m args below meth c S D jm_cl Q nL pc lv st h dc ds) hs E (fun x y r k => jm_isub X hd k) kk
  | imul =>
    have hl : len = 1 := by simpa [jx_lok, jx_len] using hl
    subst hl
    exact jx_f_ii (Wk := fun pc lv st h dc ds => jm_W p l e Rm s m args below meth c S D jm_cl Q nL pc lv st h dc ds) hs E (fun x y r k => jm_imul X hd k) kk
  | iand =>
    have hl : len = 1 := by simpa [jx_lok, jx_len] using hl
    subst hl
    exact jx_f_ii (Wk := fun pc lv st h dc ds => jm_W p l e Rm s m args below meth c S D jm_cl Q nL pc lv st h dc ds) hs E (fun x y r k => jm_iand X hd k) kk
  | ior =>
    have hl : len = 1 := by simpa [jx_lok, jx_len] using hl
    subst hl
    exact jx_f_ii (Wk := fun pc lv st h dc ds => jm_W p l e Rm s m args below meth c S D jm_cl Q nL pc lv st h dc ds) hs E (fun x y r k => jm_ior X hd k) kk
  | ixor =>
    have hl : len = 1 := by simpa [jx_lok, jx_len] using hl
    subst hl
    exact jx_f_ii (Wk := fun pc lv st h dc ds => jm_W p l e Rm s m args below meth c S D jm_cl Q nL pc lv st h dc ds) hs E (fun x y r k => jm_ixor X hd k) kk
  | ishl =>
    have hl : len = 1 := by simpa [jx_lok, jx_len] using hl
    subst hl
    exact jx_f_ii (Wk := fun pc lv st h dc ds => jm_W p l e Rm s m args below meth c S D jm_cl Q nL pc lv st h dc ds) hs E (fun x y r k => jm_ishl X hd k) kk
  | ishr =>
    have hl : len = 1 := by simpa [jx_lok, jx_len] using hl
    subst hl
    exact jx_f_ii (Wk := fun pc lv st h dc ds => jm_W p l e Rm s m args below meth c S D jm_cl Q nL pc lv st h dc ds) hs E (fun x y r k => jm_ishr X hd k) kk
  | iushr =>
    have hl : len = 1 := by simpa [jx_lok, jx_len] using hl
    subst hl
    exact jx_f_ii (Wk := fun pc lv st h dc ds => jm_W p l e Rm s m args below meth c S D jm_cl Q nL pc lv st h dc ds) hs E (fun x y r k => jm_iushr X hd k) kk
  | ladd =>
    have hl : len = 1 := by simpa [jx_lok, jx_len] using hl
    subst hl
    exact jx_f_ll (Wk := fun pc lv st h dc ds => jm_W p l e Rm s m args below meth c S D jm_cl Q nL pc lv st h dc ds) hs E (fun x y r k => jm_ladd X hd k) kk
  | lsub =>
    have hl : len = 1 := by simpa [jx_lok, jx_len] using hl
    subst hl
    exact jx_f_ll (Wk := fun pc lv st h dc ds => jm_W p l e Rm s m args below meth c S D jm_cl Q nL pc lv st h dc ds) hs E (fun x y r k => jm_lsub X hd k) kk
  | lmul =>
    have hl : len = 1 := by simpa [jx_lok, jx_len] using hl
    subst hl
    exact jx_f_ll (Wk := fun pc lv st h dc ds => jm_W p l e Rm s m args below meth c S D jm_cl Q nL pc lv st h dc ds) hs E (fun x y r k => jm_lmul X hd k) kk
  | land =>
    have hl : len = 1 := by simpa [jx_lok, jx_len] using hl
    subst hl
    exact jx_f_ll (Wk := fun pc lv st h dc ds => jm_W p l e Rm s m args below meth c S D jm_cl Q nL pc lv st h dc ds) hs E (fun x y r k => jm_land X hd k) kk
  | lor =>
    have hl : len = 1 := by simpa [jx_lok, jx_len] using hl
    subst hl
    exact jx_f_ll (Wk := fun pc lv st h dc ds => jm_W p l e Rm s m args below meth c S D jm_cl Q nL pc lv st h dc ds) hs E (fun x y r k => jm_lor X hd k) kk
  | lxor =>
    have hl : len = 1 := by simpa [jx_lok, jx_len] using hl
    subst hl
    exact jx_f_ll (Wk := fun pc lv st h dc ds => jm_W p l e Rm s m args below meth c S D jm_cl Q nL pc lv st h dc ds) hs E (fun x y r k => jm_lxor X hd k) kk
  | idiv =>
    have hl : len = 1 := by simpa [jx_lok, jx_len] using hl
    subst hl
    exact jx_f_iz (Wk := fun pc lv st h dc ds => jm_W p l e Rm s m args below meth c S D jm_cl Q nL pc lv st h dc ds) hs E (fun x y r hz k => jm_idiv X hd hz k) kk
  | irem =>
    have hl : len = 1 := by simpa [jx_lok, jx_len] using hl
    subst hl
    exact jx_f_iz (Wk := fun pc lv st h dc ds => jm_W p l e Rm s m args below meth c S D jm_cl Q nL pc lv st h dc ds) hs E (fun x y r hz k => jm_irem X hd hz k) kk
  | ldiv =>
    have hl : len = 1 := by simpa [jx_lok, jx_len] using hl
    subst hl
    exact jx_f_lz (Wk := fun pc lv st h dc ds => jm_W p l e Rm s m args below meth c S D jm_cl Q nL pc lv st h dc ds) hs E (fun x y r hz k => jm_ldiv X hd hz k) kk
  | lrem =>
    have hl : len = 1 := by simpa [jx_lok, jx_len] using hl
    subst hl
    exact jx_f_lz (Wk := fun pc lv st h dc ds => jm_W p l e Rm s m args below meth c S D jm_cl Q nL pc lv st h dc ds) hs E (fun x y r hz k => jm_lrem X hd hz k) kk
  | lshl =>
    have hl : len = 1 := by simpa [jx_lok, jx_len] using hl
    subst hl
    exact jx_f_li (Wk := fun pc lv st h dc ds => jm_W p l e Rm s m args below meth c S D jm_cl Q nL pc lv st h dc ds) hs E (fun x y r k => jm_lshl X hd k) kk
  | lshr =>
    have hl : len = 1 := by simpa [jx_lok, jx_len] using hl
    subst hl
    exact jx_f_li (Wk := fun pc lv st h dc ds => jm_W p l e Rm s m args below meth c S D jm_cl Q nL pc lv st h dc ds) hs E (fun x y r k => jm_lshr X hd k) kk
  | lushr =>
    have hl : len = 1 := by simpa [jx_lok, jx_len] using hl
    subst hl
    exact jx_f_li (Wk := fun pc lv st h dc ds => jm_W p l e Rm s m args below meth c S D jm_cl Q nL pc lv st h dc ds) hs E (fun x y r k => jm_lushr X hd k) kk
  | lcmp =>
    have hl : len = 1 := by simpa [jx_lok, jx_len] using hl
    subst hl
    exact jx_f_lc (Wk := fun pc lv st h dc ds => jm_W p l e Rm s m args below meth c S D jm_cl Q nL pc lv st h dc ds) hs E (fun x y r k => jm_lcmp X hd k) kk
  | ineg =>
    have hl : len = 1 := by simpa [jx_lok, jx_len] using hl
    subst hl
    refine jx_f_i1 (Wk := fun pc lv st h dc ds => jm_W p l e Rm s m args below meth c S D jm_cl Q nL pc lv st h dc ds) ?_ hs E (fun x r k => jm_ineg X hd k) kk
    exact fun _ => rfl
  | i2l =>
    have hl : len = 1 := by simpa [jx_lok, jx_len] using hl
    subst hl
    refine jx_f_i1 (Wk := fun pc lv st h dc ds => jm_W p l e Rm s m args below meth c S D jm_cl Q nL pc lv st h dc ds) ?_ hs E (fun x r k => jm_i2l X hd k) kk
    exact fun _ => rfl
  | i2b =>
    have hl : len = 1 := by simpa [jx_lok, jx_len] using hl
    subst hl
    refine jx_f_i1 (Wk := fun pc lv st h dc ds => jm_W p l e Rm s m args below meth c S D jm_cl Q nL pc lv st h dc ds) ?_ hs E (fun x r k => jm_i2b X hd k) kk
    exact fun _ => rfl
  | lneg =>
    have hl : len = 1 := by simpa [jx_lok, jx_len] using hl
    subst hl
    refine jx_f_l1 (Wk := fun pc lv st h dc ds => jm_W p l e Rm s m args below meth c S D jm_cl Q nL pc lv st h dc ds) ?_ hs E (fun x r k => jm_lneg X hd k) kk
    exact fun _ => rfl
  | l2i =>
    have hl : len = 1 := by simpa [jx_lok, jx_len] using hl
    subst hl
    refine jx_f_l1 (Wk := fun pc lv st h dc ds => jm_W p l e Rm s m args below meth c S D jm_cl Q nL pc lv st h dc ds) ?_ hs E (fun x r k => jm_l2i X hd k) kk
    exact fun _ => rfl
  | iconst n =>
    have hl : len = 1 := by simpa [jx_lok, jx_len] using hl
    subst hl
    have hsi : va = _ := hsi
    subst hsi
    refine jx_f_cu (Wk := fun pc lv st h dc ds => jm_W p l e Rm s m args below meth c S D jm_cl Q nL pc lv st h dc ds) ?_ hs E (fun k => jm_iconst X hd rfl k) kk
    rfl
  | bipush n =>
    have hl : len = 2 := by simpa [jx_lok, jx_len] using hl
    subst hl
    have hsi : va = _ := hsi
    subst hsi
    refine jx_f_cu (Wk := fun pc lv st h dc ds => jm_W p l e Rm s m args below meth c S D jm_cl Q nL pc lv st h dc ds) ?_ hs E (fun k => jm_bipush X hd rfl k) kk
    rfl
  | sipush n =>
    have hl : len = 3 := by simpa [jx_lok, jx_len] using hl
    subst hl
    have hsi : va = _ := hsi
    subst hsi
    refine jx_f_cu (Wk := fun pc lv st h dc ds => jm_W p l e Rm s m args below meth c S D jm_cl Q nL pc lv st h dc ds) ?_ hs E (fun k => jm_sipush X hd rfl k) kk
    rfl
  | lconst n =>
    have hl : len = 1 := by simpa [jx_lok, jx_len] using hl
    subst hl
    have hsi : va = _ := hsi
    subst hsi
    refine jx_f_cu (Wk := fun pc lv st h dc ds => jm_W p l e Rm s m args below meth c S D jm_cl Q nL pc lv st h dc ds) ?_ hs E (fun k => jm_lconst X hd rfl k) kk
    rfl
  | ldc idx =>
    have hl : len = 2 := by simpa [jx_lok, jx_len] using hl
    subst hl
    rcases hsi with ⟨v, rfl, hw⟩ | ⟨a, b, tx, rfl, h0, hw⟩
    · refine jx_f_cu (Wk := fun pc lv st h dc ds => jm_W p l e Rm s m args below meth c S D jm_cl Q nL pc lv st h dc ds) ?_ hs E (fun k => jm_ldc X hd hw k) kk
      rfl
    · exact jx_f_cu (Wk := fun pc lv st h dc ds => jm_W p l e Rm s m args below meth c S D jm_cl Q nL pc lv st h dc ds) (jx_R0 hR0 h0) hs E (fun k => jm_ldcS X hd hw k) kk
  | ldc_w idx =>
    have hl : len = 3 := by simpa [jx_lok, jx_len] using hl
    subst hl
    obtain ⟨v, rfl, hw⟩ := hsi
    refine jx_f_cu (Wk := fun pc lv st h dc ds => jm_W p l e Rm s m args below meth c S D jm_cl Q nL pc lv st h dc ds) ?_ hs E (fun k => jm_ldc_w X hd hw k) kk
    rfl
  | ldc2_w idx =>
    have hl : len = 3 := by simpa [jx_lok, jx_len] using hl
    subst hl
    obtain ⟨v, rfl, hw⟩ := hsi
    refine jx_f_cu (Wk := fun pc lv st h dc ds => jm_W p l e Rm s m args below meth c S D jm_cl Q nL pc lv st h dc ds) ?_ hs E (fun k => jm_ldc2 X hd hw k) kk
    rfl
  | getstatic idx =>
    have hl : len = 3 := by simpa [jx_lok, jx_len] using hl
    subst hl
    obtain ⟨a, b, C, n, d, rfl, h0, hZ, hw⟩ := hsi
    exact jx_f_cu (Wk := fun pc lv st h dc ds => jm_W p l e Rm s m args below meth c S D jm_cl Q nL pc lv st h dc ds) (jx_R0 hR0 h0) hs E (fun k => jm_getsK X hd hZ hw k) kk
  | iload i =>
    have hl : len = 2 := by simpa [jx_lok, jx_len] using hl
    subst hl
    refine jx_f_ld (Wk := fun pc lv st h dc ds => jm_W p l e Rm s m args below meth c S D jm_cl Q nL pc lv st h dc ds) hs E (fun v u j hw hu hj k => ?_) kk
    cases v <;> simp [jx_isI] at hw
    have hu : u = _ := hu
    subst hu
    exact jm_iload X hd j hj k
  | iload_n i =>
    have hl : len = 1 := by simpa [jx_lok, jx_len] using hl
    subst hl
    refine jx_f_ld (Wk := fun pc lv st h dc ds => jm_W p l e Rm s m args below meth c S D jm_cl Q nL pc lv st h dc ds) hs E (fun v u j hw hu hj k => ?_) kk
    cases v <;> simp [jx_isI] at hw
    have hu : u = _ := hu
    subst hu
    exact jm_iload_n X hd rfl j hj k
  | lload i =>
    have hl : len = 2 := by simpa [jx_lok, jx_len] using hl
    subst hl
    refine jx_f_ld (Wk := fun pc lv st h dc ds => jm_W p l e Rm s m args below meth c S D jm_cl Q nL pc lv st h dc ds) hs E (fun v u j hw hu hj k => ?_) kk
    cases v <;> simp [jx_isL] at hw
    have hu : u = _ := hu
    subst hu
    exact jm_lload X hd j hj k
  | lload_n i =>
    have hl : len = 1 := by simpa [jx_lok, jx_len] using hl
    subst hl
    refine jx_f_ld (Wk := fun pc lv st h dc ds => jm_W p l e Rm s m args below meth c S D jm_cl Q nL pc lv st h dc ds) hs E (fun v u j hw hu hj k => ?_) kk
    cases v <;> simp [jx_isL] at hw
    have hu : u = _ := hu
    subst hu
    exact jm_lload_n X hd rfl j hj k
  | aload i =>
    have hl : len = 2 := by simpa [jx_lok, jx_len] using hl
    subst hl
    refine jx_f_ld (Wk := fun pc lv st h dc ds => jm_W p l e Rm s m args below meth c S D jm_cl Q nL pc lv st h dc ds) hs E (fun v u j hw hu hj k => ?_) kk
    cases v <;> simp [jx_isA] at hw
    obtain ⟨b, -, rfl⟩ := hu
    exact jm_aload X hd j hj k
  | aload_n i =>
    have hl : len = 1 := by simpa [jx_lok, jx_len] using hl
    subst hl
    refine jx_f_ld (Wk := fun pc lv st h dc ds => jm_W p l e Rm s m args below meth c S D jm_cl Q nL pc lv st h dc ds) hs E (fun v u j hw hu hj k => ?_) kk
    cases v <;> simp [jx_isA] at hw
    obtain ⟨b, -, rfl⟩ := hu
    exact jm_aload_n X hd rfl j hj k
  | istore i =>
    have hl : len = 2 := by simpa [jx_lok, jx_len] using hl
    subst hl
    refine jx_f_sr (Wk := fun pc lv st h dc ds => jm_W p l e Rm s m args below meth c S D jm_cl Q nL pc lv st h dc ds) hs E (fun v u r hw hu hn k => ?_) kk
    cases v <;> simp [jx_isI] at hw
    have hu : u = _ := hu
    subst hu
    exact jm_istore X hd hn rfl k
  | astore i =>
    have hl : len = 2 := by simpa [jx_lok, jx_len] using hl
    subst hl
    refine jx_f_sr (Wk := fun pc lv st h dc ds => jm_W p l e Rm s m args below meth c S D jm_cl Q nL pc lv st h dc ds) hs E (fun v u r hw hu hn k => ?_) kk
    cases v <;> simp [jx_isA] at hw
    obtain ⟨b, -, rfl⟩ := hu
    exact jm_astore X hd hn rfl k
  | lstore i =>
    have hl : len = 2 := by simpa [jx_lok, jx_len] using hl
    subst hl
    exact jx_f_sr2 (Wk := fun pc lv st h dc ds => jm_W p l e Rm s m args below meth c S D jm_cl Q nL pc lv st h dc ds) hs E (fun v r hn k => jm_lstore X hd hn rfl k) kk
  | istore_n i =>
    have hl : len = 1 := by simpa [jx_lok, jx_len] using hl
    subst hl
    refine jx_f_sr (Wk := fun pc lv st h dc ds => jm_W p l e Rm s m args below meth c S D jm_cl Q nL pc lv st h dc ds) hs E (fun v u r hw hu hn k => ?_) kk
    cases v <;> simp [jx_isI] at hw
    have hu : u = _ := hu
    subst hu
    exact jm_istore_n X hd rfl hn rfl k
  | astore_n i =>
    have hl : len = 1 := by simpa [jx_lok, jx_len] using hl
    subst hl
    refine jx_f_sr (Wk := fun pc lv st h dc ds => jm_W p l e Rm s m args below meth c S D jm_cl Q nL pc lv st h dc ds) hs E (fun v u r hw hu hn k => ?_) kk
    cases v <;> simp [jx_isA] at hw
    obtain ⟨b, -, rfl⟩ := hu
    exact jm_astore_n X hd rfl hn rfl k
  | lstore_n i =>
    have hl : len = 1 := by simpa [jx_lok, jx_len] using hl
    subst hl
    exact jx_f_sr2 (Wk := fun pc lv st h dc ds => jm_W p l e Rm s m args below meth c S D jm_cl Q nL pc lv st h dc ds) hs E (fun v r hn k => jm_lstore_n X hd rfl hn rfl k) kk
  | iinc i n =>
    have hl : len = 3 := by simpa [jx_lok, jx_len] using hl
    subst hl
    exact jx_f_inc (Wk := fun pc lv st h dc ds => jm_W p l e Rm s m args below meth c S D jm_cl Q nL pc lv st h dc ds) hs E (fun x j hj hn k => jm_iinc X hd j hj rfl hn rfl k) kk
  | dup =>
    have hl : len = 1 := by simpa [jx_lok, jx_len] using hl
    subst hl
    exact jx_f_du (Wk := fun pc lv st h dc ds => jm_W p l e Rm s m args below meth c S D jm_cl Q nL pc lv st h dc ds) hs E (fun u r hc k => jm_dup X hd hc k) kk
  | pop =>
    have hl : len = 1 := by simpa [jx_lok, jx_len] using hl
    subst hl
    exact jx_f_po (Wk := fun pc lv st h dc ds => jm_W p l e Rm s m args below meth c S D jm_cl Q nL pc lv st h dc ds) hs E (fun u r hc k => jm_pop X hd hc k) kk
  | dup2 =>
    have hl : len = 1 := by simpa [jx_lok, jx_len] using hl
    subst hl
    exact jx_f_d2 (Wk := fun pc lv st h dc ds => jm_W p l e Rm s m args below meth c S D jm_cl Q nL pc lv st h dc ds) hs E (fun u v r h1 h2 k => jm_dup2_11 X hd h1 h2 k) (fun u r h1 k => jm_dup2_2 X hd h1 k) kk
  | ifCond cd off =>
    have hl : len = 3 := by simpa [jx_lok, jx_len] using hl
    subst hl
    exact jx_f_bz (Wk := fun pc lv st h dc ds => jm_W p l e Rm s m args below meth c S D jm_cl Q nL pc lv st h dc ds) hs E (fun x r t ht k1 k2 => jx_jz X hd x r t ht k1 k2) kk
  | if_icmp cd off =>
    have hl : len = 3 := by simpa [jx_lok, jx_len] using hl
    subst hl
    exact jx_f_bc (Wk := fun pc lv st h dc ds => jm_W p l e Rm s m args below meth c S D jm_cl Q nL pc lv st h dc ds) hs E (fun x y r t ht k1 k2 => jx_jc X hd x y r t ht k1 k2) kk
  | goto off =>
    have hl : len = 3 := by simpa [jx_lok, jx_len] using hl
    subst hl
    have hs : jx_to true pc 3 off lv st M dc ds = some (.inl z) := hs
    exact jx_f_to (Wk := fun pc lv st h dc ds => jm_W p l e Rm s m args below meth c S D jm_cl Q nL pc lv st h dc ds) (rw := sw) hs E (fun t ht k1 k2 => jm_goto X hd ht (k1 rfl)) kk
  | tableswitch d lo hi offs =>
    exact jx_f_ts (Wk := fun pc lv st h dc ds => jm_W p l e Rm s m args below meth c S D jm_cl Q nL pc lv st h dc ds) hs E (fun x r t hx ht k => jm_tabOut X hd hx ht k) (fun x r off t h1 h2 ho ht k => jm_tabIn X hd h1 h2 ho ht k) kk
  | lookupswitch d ps =>
    exact jx_f_lus (Wk := fun pc lv st h dc ds => jm_W p l e Rm s m args below meth c S D jm_cl Q nL pc lv st h dc ds) hs E (fun x r t hp ht k => jm_lookup X hd hp rfl ht k) kk
  | getfield idx =>
    have hl : len = 3 := by simpa [jx_lok, jx_len] using hl
    subst hl
    obtain ⟨ci, k, ty, fin, rfl, hci, hf⟩ := hsi
    refine jx_f_gf (Wk := fun pc lv st h dc ds => jm_W p l e Rm s m args below meth c S D jm_cl Q nL pc lv st h dc ds) hs (fun a b e => by cases e; exact hci) E (fun ci2 k2 b fs r u ex hb hu kw => ?_) kk
    cases ex
    exact jm_get X hd hf hb hu kw
  | putfield idx =>
    have hl : len = 3 := by simpa [jx_lok, jx_len] using hl
    subst hl
    obtain ⟨ci, k, t, f, ty, rfl, hci, htk, hf⟩ := hsi
    refine jx_f_pf (Wk := fun pc lv st h dc ds => jm_W p l e Rm s m args below meth c S D jm_cl Q nL pc lv st h dc ds) hs (fun a b c d e => by cases e; exact hci) E (fun ci2 k2 t2 f2 b fs r v u ex hb hk hfit hu hf2 kw => ?_) kk
    cases ex
    obtain ⟨n1, n2⟩ := jx_fit_ok htk hfit hu
    rcases hf with ⟨hf0, hf⟩ | ⟨hf0, hf⟩
    · exact jm_put X hd hf hb n1 n2 hk rfl kw
    · exact jm_putF X (hini (by rcases hf2 with e | e; (subst hf0; cases e); exact e)) hd hf hb n1 n2 hk rfl kw
  | iaload =>
    have hl : len = 1 := by simpa [jx_lok, jx_len] using hl
    subst hl
    rcases jx_or_ok hs with hs | hs
    · refine jx_f_ald (Wk := fun pc lv st h dc ds => jm_W p l e Rm s m args below meth c S D jm_cl Q nL pc lv st h dc ds) hs (fun k hk => by simp at hk; omega) E (fun k b L x i r v hk hb ha hi hv hw kw => ?_) kk
      have hk : k = 102 := by simpa using hk
      subst hk
      rcases ha with ⟨-, f, rfl, hL⟩ | ⟨e, -⟩ | ⟨e, -⟩
      · have := hL _ _ hv
        subst this
        exact jm_iald (t0 := 2) X hd rfl hb (jx_in' hi hv) (kw _ rfl)
      · exact absurd e (by decide)
      · exact absurd e (by decide)
    · refine jx_f_alc (Wk := fun pc lv st h dc ds => jm_W p l e Rm s m args below meth c S D jm_cl Q nL pc lv st h dc ds) hs E (fun b L i r v hK hi hv hw kw => ?_) kk
      obtain ⟨hb, xs, hX, hL⟩ := hKK.1 L b hK
      have := hL _ _ hv
      subst this
      exact jm_ialdK X hd hX hb (jx_in' hi hv) (kw _ rfl)
  | baload =>
    have hl : len = 1 := by simpa [jx_lok, jx_len] using hl
    subst hl
    refine jx_f_ald (Wk := fun pc lv st h dc ds => jm_W p l e Rm s m args below meth c S D jm_cl Q nL pc lv st h dc ds) hs (fun k hk => by simp at hk; omega) E (fun k b L x i r v hk hb ha hi hv hw kw => ?_) kk
    have hk : k = 100 ∨ k = 101 := by simpa using hk
    rcases hk with rfl | rfl
    · rcases ha with ⟨-, f, rfl, hL⟩ | ⟨e, -⟩ | ⟨e, -⟩
      · have := hL _ _ hv
        subst this
        exact jm_bald (t0 := 0) X hd rfl hb (jx_in' hi hv) (kw _ rfl)
      · exact absurd e (by decide)
      · exact absurd e (by decide)
    · rcases ha with ⟨-, f, rfl, hL⟩ | ⟨e, -⟩ | ⟨e, -⟩
      · have := hL _ _ hv
        subst this
        exact jm_zald (t0 := 1) X hd rfl hb (jx_in' hi hv) (kw _ rfl)
      · exact absurd e (by decide)
      · exact absurd e (by decide)
  | laload =>
    have hl : len = 1 := by simpa [jx_lok, jx_len] using hl
    subst hl
    refine jx_f_ald (Wk := fun pc lv st h dc ds => jm_W p l e Rm s m args below meth c S D jm_cl Q nL pc lv st h dc ds) hs (fun k hk => by simp at hk; omega) E (fun k b L x i r v hk hb ha hi hv hw kw => ?_) kk
    have hk : k = 103 := by simpa using hk
    subst hk
    rcases ha with ⟨e, -⟩ | ⟨-, f, rfl, hL⟩ | ⟨e, -⟩
    · exact absurd e (by decide)
    · have := hL _ _ hv
      subst this
      exact jm_lald (t0 := 3) X hd rfl hb (jx_in' hi hv) (kw _ rfl)
    · exact absurd e (by decide)
  | aaload =>
    have hl : len = 1 := by simpa [jx_lok, jx_len] using hl
    subst hl
    refine jx_f_ald (Wk := fun pc lv st h dc ds => jm_W p l e Rm s m args below meth c S D jm_cl Q nL pc lv st h dc ds) hs (fun k hk => by simp at hk; omega) E (fun k b L x i r v hk hb ha hi hv hw kw => ?_) kk
    have hk : 104 ≤ k ∧ k < 113 := by simp at hk; omega
    rcases ha with ⟨e, -⟩ | ⟨e, -⟩ | ⟨-, -, f, rfl, hL⟩
    · omega
    · omega
    · have hv2 := kw _ (hL _ _ hv)
      have : ∃ ty : FieldType, (jm_ty dA)[k - 100]? = some (dA (k - 100), ty) ∧ ty.isReference = true := by
        have : k = 104 ∨ k = 105 ∨ k = 106 ∨ k = 107 ∨ k = 108 ∨ k = 109 ∨ k = 110 ∨ k = 111 ∨ k = 112 := by omega
        rcases this with rfl | rfl | rfl | rfl | rfl | rfl | rfl | rfl | rfl <;> exact ⟨_, rfl, rfl⟩
      obtain ⟨ty, ht, hty⟩ := this
      exact jm_aaldA X hd ht hty hb (jx_in' hi hv) hv2
  | iastore =>
    have hl : len = 1 := by simpa [jx_lok, jx_len] using hl
    subst hl
    refine jx_f_ast (Wk := fun pc lv st h dc ds => jm_W p l e Rm s m args below meth c S D jm_cl Q nL pc lv st h dc ds) hs (fun k hk => by simp at hk; omega) E (fun k b L x i r v u hk hb ha hi hlt hw hu kw => ?_) kk
    have hk : k = 102 := by simpa using hk
    subst hk
    cases v <;> simp [jx_isI] at hw
    have hu : u = _ := hu
    subst hu
    rcases ha with ⟨e0, f, rfl, hL⟩ | ⟨e, -⟩ | ⟨e, -⟩
    · exact jm_iast (t0 := 2) X hd rfl hb (jx_in hi hlt) (kw _ (Or.inl ⟨e0, _, by rw [List.length_set], jx_upd hL⟩))
    · exact absurd e (by decide)
    · exact absurd e (by decide)
  | bastore =>
    have hl : len = 1 := by simpa [jx_lok, jx_len] using hl
    subst hl
    refine jx_f_ast (Wk := fun pc lv st h dc ds => jm_W p l e Rm s m args below meth c S D jm_cl Q nL pc lv st h dc ds) hs (fun k hk => by simp at hk; omega) E (fun k b L x i r v u hk hb ha hi hlt hw hu kw => ?_) kk
    have hk : k = 100 ∨ k = 101 := by simpa using hk
    cases v <;> simp [jx_isI] at hw
    have hu : u = _ := hu
    subst hu
    rcases hk with rfl | rfl
    · rcases ha with ⟨e0, f, rfl, hL⟩ | ⟨e, -⟩ | ⟨e, -⟩
      · exact jm_bast (t0 := 0) X hd rfl hb (jx_in hi hlt) (kw _ (Or.inl ⟨e0, _, by rw [List.length_set], jx_upd hL⟩))
      · exact absurd e (by decide)
      · exact absurd e (by decide)
    · rcases ha with ⟨e0, f, rfl, hL⟩ | ⟨e, -⟩ | ⟨e, -⟩
      · exact jm_zast (t0 := 1) X hd rfl hb (jx_in hi hlt) (kw _ (Or.inl ⟨e0, _, by rw [List.length_set], jx_upd hL⟩))
      · exact absurd e (by decide)
      · exact absurd e (by decide)
  | lastore =>
    have hl : len = 1 := by simpa [jx_lok, jx_len] using hl
    subst hl
    refine jx_f_ast (Wk := fun pc lv st h dc ds => jm_W p l e Rm s m args below meth c S D jm_cl Q nL pc lv st h dc ds) hs (fun k hk => by simp at hk; omega) E (fun k b L x i r v u hk hb ha hi hlt hw hu kw => ?_) kk
    have hk : k = 103 := by simpa using hk
    subst hk
    cases v <;> simp [jx_isL] at hw
    have hu : u = _ := hu
    subst hu
    rcases ha with ⟨e, -⟩ | ⟨e0, f, rfl, hL⟩ | ⟨e, -⟩
    · exact absurd e (by decide)
    · exact jm_last (t0 := 3) X hd rfl hb (jx_in hi hlt) (kw _ (Or.inr (Or.inl ⟨e0, _, by rw [List.length_set], jx_updL hL⟩)))
    · exact absurd e (by decide)
  | aastore =>
    have hl : len = 1 := by simpa [jx_lok, jx_len] using hl
    subst hl
    rcases jx_or_ok hs with hs | hs
    · refine jx_f_aas (Wk := fun pc lv st h dc ds => jm_W p l e Rm s m args below meth c S D jm_cl Q nL pc lv st h dc ds) hs E (fun k b c n fs f i r hk hb hc hi hlt kw => ?_) kk
      have : k = 104 ∨ k = 105 ∨ k = 106 ∨ k = 107 := by omega
      rcases this with rfl | rfl | rfl | rfl
      · exact jm_aast (t0 := 4) (ci := 2) X hd rfl rfl hb hc (jx_in hi hlt) kw
      · exact jm_aast (t0 := 5) (ci := 4) X hd rfl rfl hb hc (jx_in hi hlt) kw
      · exact jm_aast (t0 := 6) (ci := 5) X hd rfl rfl hb hc (jx_in hi hlt) kw
      · exact jm_aast (t0 := 7) (ci := 7) X hd rfl rfl hb hc (jx_in hi hlt) kw
    · exact jx_f_aat (Wk := fun pc lv st h dc ds => jm_W p l e Rm s m args below meth c S D jm_cl Q nL pc lv st h dc ds) hs E (fun b c n L f i r hb hK hi hlt kw => jm_aastS (t0 := 8) X hd rfl hb (hKK.2.1 L c hK).1 (jx_in hi hlt) kw) kk
  | arraylength =>
    have hl : len = 1 := by simpa [jx_lok, jx_len] using hl
    subst hl
    refine jx_f_al (Wk := fun pc lv st h dc ds => jm_W p l e Rm s m args below meth c S D jm_cl Q nL pc lv st h dc ds) hs E (fun k b L x r hk hb hx kw => ?_) (fun b L r hK kw => ?_) kk
    · have : ∃ ty : FieldType, (jm_ty dA)[k - 100]? = some (dA (k - 100), ty) := by
        have : k = 100 ∨ k = 101 ∨ k = 102 ∨ k = 103 ∨ k = 104 ∨ k = 105 ∨ k = 106 ∨ k = 107 ∨ k = 108 ∨ k = 109 ∨ k = 110 ∨ k = 111 ∨ k = 112 := by omega
        rcases this with rfl | rfl | rfl | rfl | rfl | rfl | rfl | rfl | rfl | rfl | rfl | rfl | rfl <;> exact ⟨_, rfl⟩
      obtain ⟨ty, ht⟩ := this
      exact jm_alen X hd ht hb (by rw [hx]) kw
    · obtain ⟨hb, xs, hX, hL⟩ := hKK.1 L b hK
      exact jm_alenK X hd hX hb kw
  | new idx =>
    have hl : len = 3 := by simpa [jx_lok, jx_len] using hl
    subst hl
    obtain ⟨ci, rfl, hf⟩ := hsi
    have hs : jx_nw pc lv M dc ds df [ci] st = some (.inl z) := hs
    refine jx_f_nw (Wk := fun pc lv st h dc ds => jm_W p l e Rm s m args below meth c S D jm_cl Q nL pc lv st h dc ds) hs hdf E (fun ci2 fs ex hfs z1 z2 kw => ?_) kk
    cases ex
    rw [z1, z2] at hrm
    exact jm_new X hd (hf fs hfs) hrm.1 hrm.2 (fun q hq _ => kw q hq)
  | newarray at1 =>
    have hl : len = 2 := by simpa [jx_lok, jx_len] using hl
    subst hl
    obtain ⟨t, ty, rfl, ht4, hty, ht, hw⟩ := hsi
    refine jx_f_na (Wk := fun pc lv st h dc ds => jm_W p l e Rm s m args below meth c S D jm_cl Q nL pc lv st h dc ds) hs E (fun t2 n r ex ht13 hn hN z1 z2 kw => ?_) kk
    cases ex
    rw [z1, z2] at hrm
    have : t = 0 ∨ t = 1 ∨ t = 2 ∨ t = 3 := by omega
    rcases this with rfl | rfl | rfl | rfl
    all_goals
      cases ht
    · exact jm_newa (t0 := 0) (a0 := (n.toNatClampNeg, .inl (fun _ => 0))) X hd hw hty rfl (fun _ => rfl) hn rfl (by simp [componentBytes]; omega) hrm.1 hrm.2 (fun q hq _ => kw q _ hq rfl (fun _ => rfl) (fun q => by cases q) (fun q => absurd q (by decide)))
    · exact jm_newa (t0 := 1) (a0 := (n.toNatClampNeg, .inl (fun _ => 0))) X hd hw hty rfl (fun _ => rfl) hn rfl (by simp [componentBytes]; omega) hrm.1 hrm.2 (fun q hq _ => kw q _ hq rfl (fun _ => rfl) (fun q => by cases q) (fun q => absurd q (by decide)))
    · exact jm_newa (t0 := 2) (a0 := (n.toNatClampNeg, .inl (fun _ => 0))) X hd hw hty rfl (fun _ => rfl) hn rfl (by simp [componentBytes]; omega) hrm.1 hrm.2 (fun q hq _ => kw q _ hq rfl (fun _ => rfl) (fun q => by cases q) (fun q => absurd q (by decide)))
    · exact jm_newa (t0 := 3) (a0 := (n.toNatClampNeg, .inr (.inl (fun _ => 0)))) X hd hw hty rfl (fun _ => rfl) hn rfl (by simp [componentBytes]; omega) hrm.1 hrm.2 (fun q hq _ => kw q _ hq rfl (fun q => absurd q (by decide)) (fun _ => rfl) (fun q => absurd q (by decide)))
  | anewarray idx =>
    have hl : len = 3 := by simpa [jx_lok, jx_len] using hl
    subst hl
    obtain ⟨t, C, rfl, ht4, ht, hw, hv⟩ := hsi
    refine jx_f_na (Wk := fun pc lv st h dc ds => jm_W p l e Rm s m args below meth c S D jm_cl Q nL pc lv st h dc ds) hs E (fun t2 n r ex ht13 hn hN z1 z2 kw => ?_) kk
    cases ex
    rw [z1, z2] at hrm
    exact jm_newqA X hd hw hv ht hn rfl (by omega) hrm.1 hrm.2 (fun q hq _ => kw q _ hq rfl (fun q => by omega) (fun q => by omega) (fun _ => rfl))
  | multianewarray a b => exact absurd rfl (hnm a b)
  | invokestatic idx =>
    exfalso
    simp only [jx_step, jx_cs] at hs
    repeat' split at hs
    all_goals cases hs
  | invokevirtual idx =>
    exfalso
    simp only [jx_step, jx_cv] at hs
    repeat' split at hs
    all_goals cases hs
  | invokespecial idx =>
    exfalso
    simp only [jx_step, jx_ci] at hs
    repeat' split at hs
    all_goals cases hs
  | ireturn =>
    exfalso
    simp only [jx_step, jx_ri] at hs
    repeat' split at hs
    all_goals cases hs
  | lreturn =>
    exfalso
    simp only [jx_step, jx_rl] at hs
    repeat' split at hs
    all_goals cases hs
  | areturn =>
    exfalso
    simp only [jx_step, jx_ra] at hs
    repeat' split at hs
    all_goals cases hs
  | return_ =>
    exfalso
    simp only [jx_step, jx_rv] at hs
    repeat' split at hs
    all_goals cases hs
  | _ => cases hs
end JX6
end
section
section JX7
theorem jx_k_mono {pc dc ds : Nat} {lv : List (Nat × Value)} {st : Option (List Value)} {M : jx_H} {z : jx_N} (hs : jx_k pc lv st M dc ds = some (.inl z)) : dc ≤ z.2.2.2.2.1 ∧ ds ≤ z.2.2.2.2.2 := by
  unfold jx_k at hs
  split at hs
  · cases hs; exact ⟨Nat.le_refl _, Nat.le_refl _⟩
  · cases hs
theorem jx_to_mono {b : Bool} {len : Nat} {off : Int} {pc dc ds : Nat} {lv : List (Nat × Value)} {st : List Value} {M : jx_H} {z : jx_N} (hs : jx_to b pc len off lv st M dc ds = some (.inl z)) : dc ≤ z.2.2.2.2.1 ∧ ds ≤ z.2.2.2.2.2 := by
  unfold jx_to at hs
  split at hs
  · cases hs; exact ⟨Nat.le_refl _, Nat.le_refl _⟩
  · cases hs
theorem jx_ald_mono {ks : List Nat} {w : Value → Bool} {pc dc ds : Nat} {lv : List (Nat × Value)} {st : List Value} {M : jx_H} {z : jx_N} (hs : jx_ald ks w pc lv M dc ds st = some (.inl z)) : dc ≤ z.2.2.2.2.1 ∧ ds ≤ z.2.2.2.2.2 := by
  unfold jx_ald at hs
  repeat' split at hs
  all_goals cases hs
  all_goals exact ⟨Nat.le_refl _, Nat.le_refl _⟩
theorem jx_aas_mono {pc dc ds : Nat} {lv : List (Nat × Value)} {st : List Value} {M : jx_H} {z : jx_N} (hs : jx_aas pc lv M dc ds st = some (.inl z)) : dc ≤ z.2.2.2.2.1 ∧ ds ≤ z.2.2.2.2.2 := by
  unfold jx_aas at hs
  repeat' split at hs
  all_goals cases hs
  all_goals exact ⟨Nat.le_refl _, Nat.le_refl _⟩
theorem jx_aat_mono {pc dc ds : Nat} {lv : List (Nat × Value)} {st : List Value} {M : jx_H} {z : jx_N} (hs : jx_aat pc lv M dc ds st = some (.inl z)) : dc ≤ z.2.2.2.2.1 ∧ ds ≤ z.2.2.2.2.2 := by
  unfold jx_aat at hs
  repeat' split at hs
  all_goals cases hs
  all_goals exact ⟨Nat.le_refl _, Nat.le_refl _⟩
set_option maxHeartbeats 1000000 in
theorem jx_step_mono {df : List (List Value)} {nL : Nat} {ret : Option FieldType} {ini : Bool} {i : Instr} {x : List Nat} {va : Value} {pc : Nat} {lv : List (Nat × Value)} {st : List Value} {M : jx_H} {dc ds : Nat} {z : jx_N} (hs : jx_step df nL ret ini i x va pc lv st M dc ds = some (.inl z)) : dc ≤ z.2.2.2.2.1 ∧ ds ≤ z.2.2.2.2.2 := by
  unfold jx_step at hs
  split at hs
  all_goals first
    | exact jx_k_mono hs
    | exact jx_to_mono hs
    | exact jx_ald_mono hs
    | (rcases jx_or_ok hs with hs | hs <;> first | exact jx_ald_mono hs | exact jx_aas_mono hs | exact jx_aat_mono hs)
    | (cases hs <;> exact ⟨Nat.le_refl _, Nat.le_refl _⟩)
    | skip
  all_goals
    try simp only [jx_gf, jx_pf, jx_ast, jx_al, jx_nw, jx_na, jx_mu, jx_cs, jx_cv, jx_ci, jx_ri, jx_rl, jx_ra, jx_rv, jx_ld, jx_sr, jx_sr2, jx_inc, jx_du, jx_po, jx_d2, jx_ts, jx_lus, jx_bz, jx_bc] at hs
  all_goals repeat' split at hs
  all_goals first
    | exact jx_to_mono hs
    | (cases hs <;> first | exact ⟨Nat.le_refl _, Nat.le_refl _⟩ | exact ⟨Nat.le_add_right _ _, Nat.le_add_right _ _⟩)
theorem jx_run_mono {df : List (List Value)} {P : List jx_Me} : ∀ (n : Nat) {me : jx_Me} {fr lo pc : Nat} {lv : List (Nat × Value)} {st : List Value} {M : jx_H} {dc ds : Nat} {o : Option Value ⊕ Nat} {M' : jx_H} {mc ms : Nat}, jx_run df P n me fr lo pc lv st M dc ds = some (o, M', mc, ms) → dc ≤ mc ∧ ds ≤ ms := by
  intro n
  induction n with
  | zero => intro me fr lo pc lv st M dc ds o M' mc ms hs; cases hs
  | succ n ih =>
    intro me fr lo pc lv st M dc ds o M' mc ms hs
    unfold jx_run at hs
    split at hs
    · cases hs
    · split at hs
      · cases hs
      · next z hz =>
        have h1 := jx_step_mono hz
        have h2 := ih hs
        exact ⟨Nat.le_trans h1.1 h2.1, Nat.le_trans h1.2 h2.2⟩
      · split at hs
        · split at hs
          · split at hs
            · exact ih hs
            · cases hs
          · cases hs
        · split at hs
          · cases hs
          · split at hs
            · split at hs
              · cases hs
              · have h2 := ih hs
                exact ⟨by omega, by omega⟩
              · split at hs
                · cases hs
                · split at hs
                  · cases hs
                    exact ⟨Nat.le_add_right _ _, Nat.le_add_right _ _⟩
                  · cases hs
                  · have h2 := ih hs
                    exact ⟨by omega, by omega⟩
            · cases hs
      · cases hs
        exact ⟨Nat.le_refl _, Nat.le_refl _⟩
      · split at hs
        · split at hs
          · cases hs
            exact ⟨Nat.le_add_right _ _, Nat.le_add_right _ _⟩
          · cases hs
        · cases hs
end JX7
end
section
section JX8
variable {p : Program} {l : Launch} {e : Env} {Rm : Room} {s : State} {m : MethodId} {args : Array Value} {below : List Frame} {meth : Method} {c : Code} {Q : State → Prop}
variable {S : State} {D : va_G} {cl : List vw_C} {tys : List (ClassId × FieldType)} {G : List Cond} {dA : Nat → ClassId} {cc : ByteArray} {nL pc dc ds : Nat} {own : String} {K : (Nat × List Value) → Nat → Prop} {R R0 : List Nat} {M : jx_H} {h : jm_H} {lv lw : List (Nat × Value)} {st sw rest : List Value} {z : jx_N}
def jx_wc (me : jx_Me) : Cond := match me.2.2.2.2.1 with
  | [] => Cond.code me.1 me.2.1 me.2.2.1 me.2.2.2.1
  | q :: hs => Cond.codeWith me.1 me.2.1 me.2.2.1 me.2.2.2.1 ((q :: hs).map fun q => (q.1, q.2.1, q.2.2.1, q.2.2.2.1))
def jx_ot (R : List Nat) (o : Option Value ⊕ Nat) (q : Outcome) : Prop := match o with
  | .inl none => q = .returned none
  | .inl (some v) => ∃ w, q = .returned (some w) ∧ jx_v R v w
  | .inr a => ∃ b : Nat, R[a]? = some b ∧ q = .threw b
def jx_Po (dA : Nat → ClassId) (K : (Nat × List Value) → Nat → Prop) (R : List Nat) (o : Option Value ⊕ Nat) (M' : jx_H) : Outcome → jm_H → Prop := fun q h1 => ∃ R' : List Nat, R <+: R' ∧ jx_re dA K R' M' h1 ∧ jx_ot R' o q
def jx_ex (c : Code) (hs : List (Nat × Nat × Nat × Nat × Nat)) : Prop := c.exceptionTable.toList.map (fun h => (h.startPc, h.endPc, h.handlerPc, h.catchType)) = hs.map fun q => (q.1, q.2.1, q.2.2.1, q.2.2.2.1)
theorem jx_ex_nil (hx : jx_ex c []) : c.exceptionTable.isEmpty = true := by
  have : c.exceptionTable = #[] := by simpa [jx_ex] using hx
  rw [this]
  rfl
theorem jx_nil_ex (hx : c.exceptionTable.isEmpty = true) : jx_ex c [] := by
  have : c.exceptionTable = #[] := by simpa using hx
  simp [jx_ex, this]
theorem jm_ofWH {y : MethodName} {maxL : Nat} {ret : Option FieldType} {hh : List (Nat × Nat × Nat × Nat)} {rm : Room} {As : List Value} {Po : Outcome → jm_H → Prop} {mc ms : Nat} (E : jm_en S D cl tys G) (hy : plainFor y = true) (hL : (lg_sl As).length ≤ maxL)
    (body : ∀ (p : Program) (e : Env) (s : State) (m : MethodId) (below : List Frame) (meth : Method) (c : Code), jm_cx p s m As.toArray c S D cl tys G cc maxL y.cls → meth.sig.returnType = ret → meth.locks = false → meth.name = y.name → c.exceptionTable.toList.map (fun h => (h.startPc, h.endPc, h.handlerPc, h.catchType)) = hh → l.admits e →
      jm_W p l e rm s m As.toArray below meth c S D cl (jm_Q S D cl below s Po mc ms) maxL 0 (lv_args 0 As) [] h 0 0) : jm_M l S D cl y (Cond.codeWith y cc maxL ret hh) rm As h Po mc ms := by
  refine MetFree.of_bodySF (code := cc) (maxLocals := maxL) (ret := ret) hy ?_ ?_
  · intro args s m hp hn
    obtain ⟨m', meth, c, h0, h1, h2, h3, h4, -, h6, h7, -⟩ := Cond.codeWith_spec (atoms_spec (ws := [Cond.codeWith y cc maxL ret hh]) hp _ List.mem_cons_self)
    cases hn.symm.trans h0
    exact ⟨meth, c, h1, h2, h3, h4, h6, h7⟩
  · intro p e s m args below meth c s₁ B hml hP _
    obtain ⟨rfl, hev, hld⟩ := hP
    have hh0 : s₁.heap = s.heap := by rw [B.state]; rfl
    have hcode := atoms_spec (ws := [Cond.codeWith y cc maxL ret hh]) B.pre _ List.mem_cons_self
    obtain ⟨m', meth', c', q0, q1, q2, -, -, q5, -, -, -⟩ := Cond.codeWith_spec hcode
    cases B.named.symm.trans q0
    have X := Stand.of_body B
    have e1 : meth' = meth := Option.some.inj (q1.symm.trans B.method)
    subst e1
    have e2 : c' = c := Option.some.inj (q2.symm.trans X.code)
    subst e2
    have hl := lv_entry As (n := maxL) hL
    have hw := body p e s m below meth' c' ⟨B.exec, B.bytes, hml, findClass_of_methodNamed B.named, jm_en_w E hev.1 _, va_K.moved hev.1.alike E.2.2, hev, E⟩ B.returns B.notSynchronized (name_of_methodNamed B.named B.method).1 q5 B.admits s.heap _ [] hl hld va_S.rf
    rw [← lg_entry_eq] at hw
    obtain ⟨t, a1, o, b1, b2, b3⟩ := hw s₁ hh0 X
    exact ⟨t, o, a1, b1, b2, b3⟩
theorem jm_xout {Po : Outcome → jm_H → Prop} {q : Nat} (hk : meth.locks = false) (hout : ∀ x ∈ c.exceptionTable.toList, covers x pc = false) (hP : Po (.threw q) h) : jm_X p l e Rm s m args below meth c S D cl (jm_Q S D cl below s Po dc ds) nL pc lv rest h q dc ds := by
  intro H ls locs hl hr hS T hT Y
  obtain ⟨a1, a2, a3, a4, a5⟩ := Y.leaveThrown q (g := F0 m pc ls rest) rfl rfl rfl hout hk
  refine ⟨_, a1, .threw q, a2, a3, ⟨h, hP, ?_⟩, ⟨?_, ?_⟩, a4, locs, a5, hS.2.2⟩
  · show jm_ld D cl S.heap.size h T.heap
    rw [hT]; exact hr
  · show s.heap.size ≤ T.heap.size
    rw [hT]; exact hS.1
  · intro a h1 h2
    show T.heap[a]? = s.heap[a]?
    rw [hT]
    exact hS.2.1 a h1 h2
theorem jx_at_mem {pc : Nat} : ∀ {L : List jx_L} {y : Instr × Nat × List Nat × Value}, jx_at pc L = some y → (pc, y) ∈ L
  | [], _, h => by cases h
  | q :: L, y, h => by
    unfold jx_at at h
    split at h
    next e =>
      cases h
      subst e
      exact List.mem_cons_self
    next => exact List.mem_cons_of_mem _ (jx_at_mem h)
/-- facts of a call's place -/
def jx_sc (S : State) (P : List jx_Me) (cc : ByteArray) (own : String) (pc : Nat) (i : Instr) (x : List Nat) : Prop := match i with
  | .invokestatic idx => ∃ k n, x = [k, n] ∧ (k < 9000 → ∃ me : jx_Me, P[k]? = some me ∧ jm_ci jm_G me.1 (jx_wc me) me.2.2.1 n ∧ (Cond.methodLink own idx me.1 ∈ jm_G ∨ ∃ host, Cond.methodLinkNest own idx me.1 host ∈ jm_G) ∧ Cond.static me.1 ∈ jm_G) ∧
      (9000 ≤ k → k = 9002 ∧ n = 5 ∧ Cond.methodLink own idx arraycopyName ∈ jm_G ∧ Cond.static arraycopyName ∈ jm_G ∧ Cond.initialized "java/lang/System" ∈ jm_G ∧ va_Nw (.native arraycopyName) S)
  | .invokevirtual idx => ∃ k n ci, x = [k, n, ci] ∧ (k < 9000 → ci < 100 ∧ ∃ (me : jx_Me) (T0 : u_T) (N : Nat), P[k]? = some me ∧ jm_ci jm_G me.1 (jx_wc me) me.2.2.1 n ∧ (Cond.methodLink own idx me.1 ∈ jm_G ∨ ∃ host, Cond.methodLinkNest own idx me.1 host ∈ jm_G) ∧ Cond.instanceMethod me.1 ∈ jm_G ∧ Cond.selects me.1.cls me.1 me.1 ∈ jm_G ∧ jm_cl[ci]? = some (me.1.cls, T0, N)) ∧
      (9000 ≤ k → ci = 300 ∧ ((k = 9000 ∧ n = 0 ∧ Cond.methodLink own idx ⟨"java/lang/String", "length", "()I"⟩ ∈ jm_G) ∨ (k = 9001 ∧ n = 1 ∧ Cond.methodLink own idx ⟨"java/lang/String", "charAt", "(I)C"⟩ ∈ jm_G)))
  | .invokespecial idx => ∃ k n, x = [k, n] ∧ (k < 9000 → ∃ me : jx_Me, P[k]? = some me ∧ jm_ci jm_G me.1 (jx_wc me) me.2.2.1 n ∧ (Cond.methodLink own idx me.1 ∈ jm_G ∨ ∃ host, Cond.methodLinkNest own idx me.1 host ∈ jm_G) ∧ Cond.instanceMethod me.1 ∈ jm_G ∧ me.1.name = "<init>" ∧ me.2.2.2.1 = none ∧ me.2.2.2.2.1 = []) ∧
      (9000 ≤ k → k = 9003 ∧ n = 0 ∧ Cond.methodLink own idx Lib.objectInit ∈ jm_G ∧ Cond.instanceMethod Lib.objectInit ∈ jm_G ∧ Cond.code Lib.objectInit ⟨#[0xb1]⟩ 1 none ∈ jm_G)
  | .new idx => ∃ ci, x = [ci] ∧ (10 ≤ ci → ∃ (cls : String) (T0 : u_T) (ic : Nat), jm_cl[ci]? = some (cls, T0, 0) ∧ Bundle.fit cls = true ∧ decode cc (pc + 3) = .ok (.dup, 1) ∧ decode cc (pc + 4) = .ok (.invokespecial ic, 3) ∧ decode cc (pc + 7) = .ok (.athrow, 1) ∧ Cond.classLink own idx cls ∈ jm_G ∧ Cond.instantiable cls 6 ∈ jm_G ∧ Cond.initialized cls ∈ jm_G ∧
      ∀ w ∈ Bundle.ownAtoms0 own ic cls ["java/lang/RuntimeException", "java/lang/Exception"], w ∈ jm_G ∨ jm_hs S w)
  | _ => True
end JX8
end
section
section JXC
/-- one entry of a table of handlers whose class is named by a link: the tables behind it, and where the search goes -/
theorem jc_one {Q : Handler → Pre} {E : CtlPost} {e : Env} {d : Bool} {acts : List Action} {s : State} {f : JFrame} {a : Addr} {x : ExceptionTableEntry} {t : List ExceptionTableEntry} {c : ClassId} {cell : Cell} {b : Bool} (hx : covers x f.pc = true) (h0 : x.catchType ≠ 0) (hl : s.vm.ClassLinks e.platform f.method.cls x.catchType c) (hcell : s.heap[a]? = some cell) (hobj : ∀ k, cell.vm ≠ .statics k)
    (hk : ∃ k, s.vm.classes[cell.cls]? = some k) (hc : ∃ k, s.vm.classes[c]? = some k) (hb : s.vm.assignable cell.cls c = b) :
    wp (findHandler.go f a (x :: t)) Q E e d acts s ↔ if b = true then Q (.found x.handlerPc) d acts (s.setVm (s.vm.noted f.method.cls x.catchType (.cls c)))
      else wp (findHandler.go f a t) Q E e d acts (s.setVm (s.vm.noted f.method.cls x.catchType (.cls c))) := by
  simp only [covers] at hx
  obtain ⟨ha, ht⟩ := (resolveClass_links e.toSetting hl).op (op := VmOp.resolveClass f.method.cls x.catchType) rfl
  have hal : s.vm.Alike (s.vm.noted f.method.cls x.catchType (.cls c)) := (Vm.Alike.refl s.vm).noted _ _ _
  obtain ⟨k1, hk1⟩ := hk
  obtain ⟨k2, hk2⟩ := hc
  obtain ⟨j1, hj1, -⟩ := hal.2.2 _ _ hk1
  obtain ⟨j2, hj2, -⟩ := hal.2.2 _ _ hk2
  have hb' : (s.vm.noted f.method.cls x.catchType (.cls c)).assignable cell.cls c = b := by rw [hal.assignable]; exact hb
  cases b <;> simp [findHandler.go, hx, h0, ha, ht, hcell, hobj, hj1, hj2, hb', VmOp.dirties, VmOp.acts]
/-- the search through a table: 'A' says of each entry whether it takes the object -/
theorem jc_all {e : Env} {s₀ : State} {f : JFrame} {a : Addr} {cell : Cell} (hobj : ∀ k, cell.vm ≠ .statics k) (hk0 : ∃ k, s₀.vm.classes[cell.cls]? = some k) (A : ExceptionTableEntry → Bool) :
    ∀ (L : List ExceptionTableEntry) (T : State), s₀.WarmedH T.vm → T.heap[a]? = some cell → (∀ y ∈ L, y.catchType ≠ 0 ∧ ∃ c, s₀.vm.ClassLinks e.platform f.method.cls y.catchType c ∧ s₀.vm.assignable cell.cls c = A y) →
      ∀ y, L.find? (fun y => covers y f.pc && A y) = some y → ∃ vm', s₀.WarmedH vm' ∧ ∀ (Q : Handler → Pre) (E : CtlPost) (d : Bool) (acts : List Action), wp (findHandler.go f a L) Q E e d acts T ↔ Q (.found y.handlerPc) d acts (T.setVm vm') := by
  obtain ⟨k0, hk0⟩ := hk0
  intro L
  induction L with
  | nil => intro T _ _ _ y hy; cases hy
  | cons x L ih =>
    intro T hW hcell hL y hy
    obtain ⟨j0, hj0, -⟩ := hW.alike.2.2 _ _ hk0
    have hL' : ∀ y ∈ L, y.catchType ≠ 0 ∧ ∃ c, s₀.vm.ClassLinks e.platform f.method.cls y.catchType c ∧ s₀.vm.assignable cell.cls c = A y := fun z hz => hL z (List.mem_cons_of_mem _ hz)
    rw [List.find?_cons] at hy
    by_cases hcov : covers x f.pc = true
    · obtain ⟨h0, c, hl, hA⟩ := hL x List.mem_cons_self
      obtain ⟨dk, _, _, kt, hd, _, _, _, _, hkt, _, hopen⟩ := hl.here
      obtain ⟨jt, hjt, -⟩ := hW.alike.2.2 _ _ hkt
      have hW1 : s₀.WarmedH (T.vm.noted f.method.cls x.catchType (.cls c)) := hW.noted hd hopen (State.rightAt_cls hl)
      have one := fun (Q : Handler → Pre) (E : CtlPost) (d : Bool) (acts : List Action) => jc_one (Q := Q) (E := E) (d := d) (acts := acts) (t := L) (b := A x) hcov h0 (hW.classLinks hl) hcell hobj ⟨j0, hj0⟩ ⟨jt, hjt⟩ (by rw [hW.alike.assignable]; exact hA)
      cases hAx : A x with
      | true =>
        simp only [hAx, if_true] at one
        simp only [hcov, hAx, Bool.and_self] at hy
        cases hy
        exact ⟨_, hW1, fun Q E d acts => one Q E d acts⟩
      | false =>
        simp only [hAx, Bool.false_eq_true, if_false] at one
        simp only [hcov, hAx, Bool.and_false] at hy
        obtain ⟨vm', hW', hq⟩ := ih (T.setVm (T.vm.noted f.method.cls x.catchType (.cls c))) hW1 hcell hL' y hy
        exact ⟨vm', hW', fun Q E d acts => (one Q E d acts).trans (hq Q E d acts)⟩
    · have hcov : covers x f.pc = false := by simpa using hcov
      simp only [hcov, Bool.false_and] at hy
      obtain ⟨vm', hW', hq⟩ := ih T hW hcell hL' y hy
      exact ⟨vm', hW', fun Q E d acts => by rw [W.findHandler_go_skip hcov]; exact hq Q E d acts⟩
theorem jc_frames (u : State) (vm' : Vm) (F F2 : List Frame) : ((u.setFrames F).setVm vm').setFrames F2 = (u.setVm vm').setFrames F2 := by
  show ((u.setVm vm').setFrames F).setFrames F2 = _
  rw [State.setFrames_setFrames]
theorem jc_step {tb : Tables} {e : Env} {s target : State} {g : JFrame} {c : Code} {below : List Frame} {a : Addr} (h : At s g.method c below) {pc : Nat} {vm' : Vm}
    (hfind : ∀ (Q : Handler → Pre) (E : CtlPost) (d : Bool) (acts : List Action), wp (findHandler g a) Q E e d acts ((s.setTop g).pushFrame (.throwing a)) ↔ Q (.found pc) d acts (((s.setTop g).pushFrame (.throwing a)).setVm vm')) (hrest : Steps tb e below ((s.setVm vm').setTop { g with pc := pc, stack := [.ref a] }) target) :
    Steps tb e below ((s.setTop g).pushFrame (.throwing a)) target := by
  have hst : ∀ r : List Frame, (stepThrowing e ((s.setTop g).pushFrame (.throwing a)) a (.java g :: r)).Is ((((s.setTop g).pushFrame (.throwing a)).setVm vm').setFrames (.java { g with pc := pc, stack := [.ref a] } :: r)) [] := by
    intro r
    simp only [stepThrowing, searchFrame, vmDo]
    generalize hr : Sem.go _ e false [] ((s.setTop g).pushFrame (.throwing a)) = res
    obtain ⟨as, rfl, ha⟩ := Sem.eq_ok_of hr (a := Handler.found pc) (s' := ((s.setTop g).pushFrame (.throwing a)).setVm vm') (acts' := []) (by simp [hfind _ _ _ _])
    exact ⟨rfl, ha⟩
  obtain ⟨hgo, hw⟩ := h.throwing a
  refine Steps.head hgo hw ?_
  rw [stepThread_throwing (frames_entered h.top _), (hst _).1]
  obtain ⟨g₀, hg⟩ := Option.isSome_iff_exists.mp h.top
  obtain ⟨r, hr⟩ := State.topJava?_eq_some.mp hg
  have hr' : (s.setVm vm').frames = .java g₀ :: r := hr
  rw [State.setTop_of_frames _ hr'] at hrest
  rw [hr, List.tail_cons, State.pushFrame, jc_frames, State.setTop_of_frames _ hr, jc_frames]
  exact hrest
variable {p : Program} {l : Launch} {e : Env} {Rm : Room} {s : State} {m : MethodId} {args : Array Value} {below : List Frame} {meth : Method} {c : Code} {Q : State → Prop}
variable {S : State} {D : va_G} {cl : List vw_C} {tys : List (ClassId × FieldType)} {G : List Cond} {cc : ByteArray} {nL pc dc ds : Nat} {own : String} {h : jm_H} {lw : List (Nat × Value)} {rest : List Value}
theorem jm_catch (X : jm_cx p s m args c S D cl tys G cc nL own) {b ci : Nat} {cls : String} {T0 : u_T} {fs : List Value} (hcl : cl[ci]? = some (cls, T0, 0)) (hb : h b = some (.inr (ci, fs))) (A : ExceptionTableEntry → Bool)
    (hL : ∀ y ∈ c.exceptionTable.toList, y.catchType ≠ 0 ∧ ∃ nm, Cond.classLink own y.catchType nm ∈ G ∧ ∃ cT, S.vm.findClass nm = some cT ∧ S.vm.assignable (D.1 ci) cT = A y) {y : ExceptionTableEntry} (hy : c.exceptionTable.toList.find? (fun y => covers y pc && A y) = some y)
    (kk : jm_W p l e Rm s m args below meth c S D cl Q nL y.handlerPc lw [.ref b] h dc ds) : jm_X p l e Rm s m args below meth c S D cl Q nL pc lw rest h b dc ds := by
  intro H ls locs hl hr hS T hT Y
  subst hT
  have hpl : e.platform.magicAccessors = ({} : Platform).magicAccessors := by rw [Y.admits.platform]
  have hev := X.2.2.2.2.2.2.1
  obtain ⟨r, hr1, cell, g1, g2, g3, -⟩ := (hr b _ hb).2
  have hKc := (X.2.2.2.2.2.1.1 ci _ hcl).2
  obtain ⟨hf, kC, hkC, -⟩ := hKc
  have hk0 : ∃ k, s.vm.classes[cell.cls]? = some k := ⟨kC, by rw [g2]; exact hkC⟩
  have hL' : ∀ y ∈ c.exceptionTable.toList, y.catchType ≠ 0 ∧ ∃ cT, s.vm.ClassLinks e.platform m.cls y.catchType cT ∧ s.vm.assignable cell.cls cT = A y := fun y hy => by
    obtain ⟨h0, nm, hw, cT, hcT, hA⟩ := hL y hy
    obtain ⟨c', hc', hcl'⟩ := Cond.classLink_spec X.2.2.2.1 (X.2.2.2.2.1 _ hw) e.platform hpl
    have e1 : c' = cT := by
      rw [hev.1.alike.findClass] at hc'
      exact Option.some.inj (hc'.symm.trans hcT)
    subst e1
    exact ⟨h0, c', hcl', by rw [g2, hev.1.alike.assignable]; exact hA⟩
  obtain ⟨vm', hW', hq⟩ := jc_all (e := e) (f := F0 m pc ls rest) (a := b) (fun k q => by rw [g3] at q; cases q) hk0 A c.exceptionTable.toList ((T.setTop (F0 m pc ls rest)).pushFrame (.throwing b)) Y.warmed g1 hL' y hy
  obtain ⟨t, a1, b1⟩ := kk T.heap ls locs hl hr hS (T.setVm vm') rfl (Y.noted hW')
  refine ⟨t, jc_step (g := F0 m pc ls rest) Y.here (fun Q E d acts => ?_) a1, b1⟩
  rw [W.findHandler_eq (meth := meth) (code := c) Y.method' Y.code]
  exact hq Q E d acts
end JXC
end
section
section JW
abbrev jw_e : Type := ClassId × vp_A
def jw_c (q : jw_e) : Cell := vp_cell q.1 q.2
def jw_sz (L : List jw_e) : Nat := (L.map (fun q => q.2.1)).sum
theorem jw_sz_app (L1 L2 : List jw_e) : jw_sz (L1 ++ L2) = jw_sz L1 + jw_sz L2 := by simp [jw_sz]
theorem jw_c_size (q : jw_e) : (jw_c q).slots.size = q.2.1 := by
  obtain ⟨c, n, f⟩ := q
  rcases f with f | f | f | f | f <;> exact arrV_size _ _ _
/-- the state with these arrays made, one behind the other -/
def jw_pa (s : State) (L : List jw_e) : State := { s with heap := s.heap ++ (L.map jw_c).toArray, slotsUsed := s.slotsUsed + jw_sz L }
theorem jw_pa_nil (s : State) : jw_pa s [] = s := by simp [jw_pa, jw_sz]
theorem jw_pa_app (s : State) (L1 L2 : List jw_e) : jw_pa s (L1 ++ L2) = jw_pa (jw_pa s L1) L2 := by
  simp [jw_pa, jw_sz, Nat.add_assoc]
theorem jw_pa_one (s : State) (q : jw_e) : jw_pa s [q] = s.pushCell (jw_c q) := by
  simp [jw_pa, jw_sz, State.pushCell, jw_c_size]
theorem jw_pa_size (s : State) (L : List jw_e) : (jw_pa s L).heap.size = s.heap.size + L.length := by simp [jw_pa]
theorem jw_pa_get (s : State) (L : List jw_e) (j : Nat) : (jw_pa s L).heap[s.heap.size + j]? = (L[j]?).map jw_c := by
  simp only [jw_pa]
  rw [Array.getElem?_append_right (by omega)]
  simp
theorem jw_pa_old (s : State) (L : List jw_e) {j : Nat} (hj : j < s.heap.size) : (jw_pa s L).heap[j]? = s.heap[j]? := by
  simp [jw_pa, Array.getElem?_append, hj]
theorem jw_set (s : State) (x y : jw_e) (L : List jw_e) (h : y.2.1 = x.2.1) : (jw_pa s (x :: L)).setCell s.heap.size (jw_c y) = jw_pa s (y :: L) := by
  have e : (s.heap ++ ((x :: L).map jw_c).toArray).setIfInBounds s.heap.size (jw_c y) = s.heap ++ ((y :: L).map jw_c).toArray := by
    apply Array.toList_inj.mp
    simp [List.set_append]
  have e2 : jw_sz (x :: L) = jw_sz (y :: L) := by simp [jw_sz, h]
  unfold jw_pa State.setCell
  simp only [e, e2]
theorem jw_pa_top (s : State) (L : List jw_e) (f : JFrame) : (jw_pa s L).setTop f = jw_pa (s.setTop f) L := rfl
def jw_mk (e : Env) (vm : Vm) (act : Sem Addr) (cs : Nat → List jw_e) (kc ks : Nat) : Prop := (∀ h, (cs h).length = kc ∧ jw_sz (cs h) = ks) ∧
  ∀ (E : CtlPost) (d : Bool) (acts : List Action) (s : State) (Q : Addr → Pre), s.vm = vm → s.heap.size + kc ≤ e.platform.maxCells → s.slotsUsed + ks ≤ e.platform.maxSlots → (∀ d' acts', Q s.heap.size d' acts' (jw_pa s (cs s.heap.size))) → wp act Q E e d acts s
theorem jw_new {E : CtlPost} {e : Env} {d : Bool} {acts : List Action} {s : State} {c comp : ClassId} {k : Class} {ty : FieldType} {n : Nat} {v : Value} (hk : s.vm.classes[c]? = some k) (hkind : k.kind = .array comp ty)
    (hl : ¬ n > e.platform.arrayLengthLimit) (hh : ¬ n * componentBytes ty > e.platform.maxHeapBytes) (hf : fits ty v = true) (hd : v.isDefault = true) (h1 : s.heap.size < e.platform.maxCells) (h2 : s.slotsUsed + n ≤ e.platform.maxSlots)
    {Q : Addr → Pre} (hq : Q s.heap.size d acts (s.pushCell (arrV c n (fun _ => v)))) : wp (Jvm.newArray c n v) Q E e d acts s := by
  have hz : ∀ (i : Nat) (w : Value), (Array.replicate n v)[i]? = some w → s.fitsSlot c .none i w = true := fun i w hw => by
    rw [Array.getElem?_replicate] at hw
    split at hw
    · cases hw
      simp [State.fitsSlot, State.slotType?, hk, hkind, hf]
    · cases hw
  have ha : allocActs (Array.replicate n v) s.heap.size acts = acts := by
    have : ((Array.replicate n v).all (fun w => w.isDefault)) = true := by
      rw [Array.all_replicate]
      split <;> simp [hd]
    unfold allocActs
    rw [if_pos this]
  rw [← arrV_new] at hq
  simp only [Jvm.newArray, Jvm.arrayFits, wp_bind', W.ask, W.ite, hl, if_false, wp_pure', W.theClass, hk, hkind, hh, W.alloc, W.stop, Option.some.injEq, exists_eq_left', Array.size_replicate, ha]
  rw [if_neg (by omega)]
  exact ⟨h1, h2, hz, hq⟩
theorem jw_leaf {e : Env} {vm : Vm} {c comp : ClassId} {k : Class} {ty : FieldType} {m : Int32} {a0 : vp_A} (hk : vm.classes[c]? = some k) (hkind : k.kind = .array comp ty) (hm : ¬ m < 0) (hl : ¬ m.toNatClampNeg > e.platform.arrayLengthLimit) (hh : ¬ m.toNatClampNeg * componentBytes ty > e.platform.maxHeapBytes)
    (hf : fits ty (defaultValue ty) = true) (hd : (defaultValue ty).isDefault = true) (ha : vp_cell c a0 = arrV c m.toNatClampNeg (fun _ => defaultValue ty)) (hn : a0.1 = m.toNatClampNeg) : jw_mk e vm (Op.multianewarray.make c [m]) (fun _ => [(c, a0)]) 1 m.toNatClampNeg := by
  refine ⟨fun h => ⟨rfl, by simp [jw_sz, hn]⟩, fun E d acts s Q hvm h1 h2 hq => ?_⟩
  subst hvm
  rw [Op.multianewarray.make]
  simp only [wp_bind', W.ite, hm, if_false, wp_pure', W.theClass, hk, hkind, Option.some.injEq, exists_eq_left']
  refine jw_new hk hkind hl hh hf hd (by omega) h2 ?_
  have := hq d acts
  rw [jw_pa_one] at this
  rw [← ha]
  exact this
/-- the array of the rows, with its first i rows in place -/
def jw_oc (c : ClassId) (n h kc i : Nat) : jw_e := (c, n, .inr (.inr (.inr (.inr (fun j => if j < i then some (h + 1 + j * kc) else none)))))
def jw_in (cs : Nat → List jw_e) (kc h : Nat) : Nat → List jw_e
  | 0 => []
  | i + 1 => jw_in cs kc h i ++ cs (h + 1 + i * kc)
def jw_cs (c : ClassId) (n : Nat) (cs : Nat → List jw_e) (kc h : Nat) : List jw_e := jw_oc c n h kc n :: jw_in cs kc h n
theorem jw_in_len {cs : Nat → List jw_e} {kc ks : Nat} (hc : ∀ h, (cs h).length = kc ∧ jw_sz (cs h) = ks) (h : Nat) : ∀ i, (jw_in cs kc h i).length = i * kc ∧ jw_sz (jw_in cs kc h i) = i * ks
  | 0 => ⟨by simp [jw_in], by simp [jw_in, jw_sz]⟩
  | i + 1 => by
    obtain ⟨h1, h2⟩ := jw_in_len hc h i
    exact ⟨by rw [jw_in, List.length_append, h1, (hc _).1, Nat.succ_mul], by rw [jw_in, jw_sz_app, h2, (hc _).2, Nat.succ_mul]⟩
theorem jw_oc_st (c : ClassId) (n h kc i : Nat) : (jw_c (jw_oc c n h kc i)).setSlot i (.ref (h + 1 + i * kc)) = jw_c (jw_oc c n h kc (i + 1)) := by
  show (arrV c n (fun j => va_rf (if j < i then some (h + 1 + j * kc) else none))).setSlot i _ = arrV c n (fun j => va_rf (if j < i + 1 then some (h + 1 + j * kc) else none))
  rw [arrV_store]
  congr 1
  funext j
  by_cases e : j = i
  · subst e
    simp [updV, va_rf]
  · have : (j < i + 1) ↔ (j < i) := by omega
    simp [updV, e, this]
theorem jw_step {e : Env} {vm : Vm} {c comp : ClassId} {k : Class} {ty : FieldType} {n r0 : Int32} {rs : List Int32} {cs : Nat → List jw_e} {kc ks : Nat} (hk : vm.classes[c]? = some k) (hkind : k.kind = .array comp ty) (href : ty.isReference = true) (hn : ¬ n < 0) (hr : (r0 :: rs).find? (· < 0) = none)
    (hl : ¬ n.toNatClampNeg > e.platform.arrayLengthLimit) (hh : ¬ n.toNatClampNeg * componentBytes ty > e.platform.maxHeapBytes) (I : jw_mk e vm (Op.multianewarray.make comp (r0 :: rs)) cs kc ks) :
    jw_mk e vm (Op.multianewarray.make c (n :: r0 :: rs)) (jw_cs c n.toNatClampNeg cs kc) (1 + n.toNatClampNeg * kc) (n.toNatClampNeg + n.toNatClampNeg * ks) := by
  have hrf : ∀ v : Value, (v = .null ∨ ∃ a, v = .ref a) → fits ty v = true := fun v hv => by
    rcases hv with rfl | ⟨a, rfl⟩ <;> cases ty <;> simp [FieldType.isReference] at href <;> rfl
  have hlen := fun h i => jw_in_len I.1 h i
  refine ⟨fun h => ⟨?_, ?_⟩, fun E d acts s Q hvm h1 h2 hq => ?_⟩
  · simp only [jw_cs, List.length_cons, (hlen h _).1]
    omega
  · have : jw_sz (jw_cs c n.toNatClampNeg cs kc h) = n.toNatClampNeg + jw_sz (jw_in cs kc h n.toNatClampNeg) := by simp [jw_cs, jw_sz, jw_oc]
    rw [this, (hlen h _).2]
  subst hvm
  rw [Op.multianewarray.make]
  simp only [wp_bind', W.ite, hn, if_false, wp_pure', W.theClass, hk, hkind, Option.some.injEq, exists_eq_left']
  refine jw_new hk hkind hl hh (hrf _ (Or.inl rfl)) rfl (by omega) (by have := Nat.zero_le (n.toNatClampNeg * ks); omega) ?_
  simp only [hr]
  rw [ite_self, wp_bind', Std.Legacy.Range.forIn_eq_forIn_range']
  have hsz : ([:n.toNatClampNeg] : Std.Legacy.Range).size = n.toNatClampNeg := by simp [Std.Legacy.Range.size]
  rw [hsz]
  have h0 : s.pushCell (arrV c n.toNatClampNeg (fun _ => Value.null)) = jw_pa s (jw_oc c n.toNatClampNeg s.heap.size kc 0 :: jw_in cs kc s.heap.size 0) := by
    rw [jw_in, jw_pa_one]
    congr 1
  rw [h0]
  show wp (forIn (List.range' 0 n.toNatClampNeg 1) PUnit.unit _) _ E e d acts _
  refine wp_forIn_inv (fun rest s' => ∃ i, i ≤ n.toNatClampNeg ∧ rest = List.range' i (n.toNatClampNeg - i) ∧ s' = jw_pa s (jw_oc c n.toNatClampNeg s.heap.size kc i :: jw_in cs kc s.heap.size i)) _ _ ⟨0, Nat.zero_le _, rfl, rfl⟩ ?_ ?_
  · rintro x rest s' d' acts' Q' ⟨i, hi, hl2, rfl⟩ hnext
    have hlt : i < n.toNatClampNeg := by
      rcases Nat.lt_or_ge i n.toNatClampNeg with h | h
      · exact h
      · rw [show n.toNatClampNeg - i = 0 by omega] at hl2
        cases hl2
    rw [show n.toNatClampNeg - i = (n.toNatClampNeg - (i + 1)) + 1 by omega, List.range'_succ] at hl2
    obtain ⟨rfl, hrest⟩ := List.cons.inj hl2
    have hm1 : x * kc + kc ≤ n.toNatClampNeg * kc := by
      have := Nat.mul_le_mul_right kc (show x + 1 ≤ n.toNatClampNeg from hlt)
      rw [Nat.succ_mul] at this
      exact this
    have hm2 : x * ks + ks ≤ n.toNatClampNeg * ks := by
      have := Nat.mul_le_mul_right ks (show x + 1 ≤ n.toNatClampNeg from hlt)
      rw [Nat.succ_mul] at this
      exact this
    have z1 : (jw_pa s (jw_oc c n.toNatClampNeg s.heap.size kc x :: jw_in cs kc s.heap.size x)).heap.size = s.heap.size + 1 + x * kc := by
      rw [jw_pa_size, List.length_cons, (hlen _ _).1]
      omega
    have z2 : (jw_pa s (jw_oc c n.toNatClampNeg s.heap.size kc x :: jw_in cs kc s.heap.size x)).slotsUsed = s.slotsUsed + n.toNatClampNeg + x * ks := by
      show s.slotsUsed + jw_sz _ = _
      have : jw_sz (jw_oc c n.toNatClampNeg s.heap.size kc x :: jw_in cs kc s.heap.size x) = n.toNatClampNeg + jw_sz (jw_in cs kc s.heap.size x) := by simp [jw_sz, jw_oc]
      rw [this, (hlen _ _).2]
      omega
    simp only [wp_bind']
    refine I.2 E d' acts' _ _ rfl (by rw [z1]; omega) (by rw [z2]; omega) (fun d2 acts2 => ?_)
    rw [z1, ← jw_pa_app, List.cons_append]
    have e3 : jw_in cs kc s.heap.size x ++ cs (s.heap.size + 1 + x * kc) = jw_in cs kc s.heap.size (x + 1) := rfl
    rw [e3]
    simp only [wp_bind', W.writeLoc, wp_pure']
    refine ⟨jw_c (jw_oc c n.toNatClampNeg s.heap.size kc x), ?_, (fun q => by cases q), ?_, ?_, ?_⟩
    · have := jw_pa_get s (jw_oc c n.toNatClampNeg s.heap.size kc x :: jw_in cs kc s.heap.size (x + 1)) 0
      simpa using this
    · rw [jw_c_size]
      exact hlt
    · show State.fitsSlot _ c .none x _ = true
      have hk2 : (jw_pa s (jw_oc c n.toNatClampNeg s.heap.size kc x :: jw_in cs kc s.heap.size (x + 1))).vm.classes[c]? = some k := hk
      simp [State.fitsSlot, State.slotType?, hk2, hkind, hrf _ (Or.inr ⟨_, rfl⟩)]
    · rw [jw_oc_st, jw_set s (jw_oc c n.toNatClampNeg s.heap.size kc x) (jw_oc c n.toNatClampNeg s.heap.size kc (x + 1)) _ rfl]
      exact hnext _ _ _ ⟨x + 1, hlt, hrest, rfl⟩
  · rintro s' d' acts' ⟨i, hi, hl2, rfl⟩
    have : i = n.toNatClampNeg := by
      rcases Nat.lt_or_ge i n.toNatClampNeg with h | h
      · rw [show n.toNatClampNeg - i = (n.toNatClampNeg - (i + 1)) + 1 by omega, List.range'_succ] at hl2
        cases hl2
      · omega
    subst this
    simp only [wp_pure']
    exact hq _ _
theorem jw_ints {E : CtlPost} {e : Env} {s : State} {acts : List Action} {f : Value → Sem Int32} (hf : ∀ n, f (.int n) = Pure.pure n) : ∀ (Ls : List Int32) {d : Bool} {Q : List Int32 → Pre}, Q Ls d acts s → wp ((Ls.map Value.int).mapM f) Q E e d acts s
  | [], d, Q, h => by simpa using h
  | n :: Ls, d, Q, h => by
    rw [List.map_cons, List.mapM_cons, wp_bind', hf]
    show wp (do let rs ← (Ls.map Value.int).mapM f; Pure.pure (n :: rs)) Q E e d acts s
    rw [wp_bind']
    exact jw_ints hf Ls (Q := fun rs d acts s => Q (n :: rs) d acts s) h
theorem jw_sem {Q : Unit → Pre} {E : CtlPost} {e : Env} {d : Bool} {acts : List Action} {s : State} {f : JFrame} {index : Nat} {Ls : List Int32} {rest : List Value} {c : ClassId} {cs : Nat → List jw_e} {kc ks : Nat} (hs : s.topJava?.isSome) (hr : s.vm.classReady f.method.cls index c) (hstack : f.stack = (Ls.map Value.int).reverse ++ rest)
    (I : jw_mk e s.vm (Op.multianewarray.make c Ls) cs kc ks) (h1 : s.heap.size + kc ≤ e.platform.maxCells) (h2 : s.slotsUsed + ks ≤ e.platform.maxSlots) (hq : ∀ d' acts', Q () d' acts' ((jw_pa s (cs s.heap.size)).setTop { f with stack := .ref s.heap.size :: rest })) : wp (Op.multianewarray.sem index Ls.length) Q E e d acts (s.setTop f) := by
  have hle : Ls.length = (Ls.map Value.int).length := by simp
  unfold Op.multianewarray.sem
  simp only [wp_bind', W.resolveClassAt_ready (State.method?_setTop f hs) hr]
  rw [hle, Op.popN_top hs hstack, wp_bind']
  refine jw_ints ?_ Ls ?_
  · intro n
    rfl
  rw [wp_bind']
  refine I.2 E _ _ _ _ rfl h1 h2 (fun d' acts' => ?_)
  have ht : (jw_pa s (cs s.heap.size)).topJava?.isSome := hs
  have e1 : jw_pa (s.setTop { f with stack := rest }) (cs s.heap.size) = (jw_pa s (cs s.heap.size)).setTop { f with stack := rest } := rfl
  show wp _ _ E e d' acts' (jw_pa (s.setTop { f with stack := rest }) (cs s.heap.size))
  rw [e1]
  simp only [wp_bind', W.mark, W.pushRef, State.topJava?_setTop' _ ht, Option.some.injEq, exists_eq_left', State.setTop_setTop]
  exact hq _ _
theorem jw_cold {Q : Unit → Pre} {E : CtlPost} {e : Env} {d : Bool} {acts : List Action} {s : State} {f : JFrame} {index dm c : Nat} {vm' : Vm} (hs : s.topJava?.isSome) (hg : (Jvm.resolveClass f.method.cls index).Gives e.toSetting s.vm (.ok c) vm') (hr : vm'.classReady f.method.cls index c)
    (hsz : vm'.classes.size ≤ s.vm.classes.size) : wp (Op.multianewarray.sem index dm) Q E e d acts (s.setTop f) ↔ wp (Op.multianewarray.sem index dm) Q E e d acts ((s.setVm vm').setTop f) := by
  simp only [Op.multianewarray.sem, wp_bind']
  exact W.resolveClassAt_transfer (s := s.setTop f) (State.method?_setTop f hs) hg hr hsz
end JW
section JW2
variable {p : Program} {l : Launch} {e : Env} {R : Room} {s : State} {m : MethodId} {args : Array Value} {below : List Frame} {meth : Method} {c : Code} {Q : State → Prop}
variable {S : State} {D : va_G} {cl : List vw_C} {tys : List (ClassId × FieldType)} {G : List Cond} {cc : ByteArray} {nL pc dc ds : Nat} {own : String} {lv : List (Nat × Value)} {rest : List Value} {h : jm_H}
theorem jw_stand : ∀ (L : List jw_e) {T : State} {locs : List Loc} {cells slots : Nat}, Stand p l e R s m args below meth c T locs cells slots → Stand p l e R s m args below meth c (jw_pa T L) locs (cells + L.length) (slots + jw_sz L)
  | [], T, locs, cells, slots, X => by rw [jw_pa_nil]; exact X
  | q :: L, T, locs, cells, slots, X => by
    have h1 := X.pushed (jw_c q)
    rw [← jw_pa_one, jw_c_size] at h1
    have h2 := jw_stand L h1
    rw [← jw_pa_app] at h2
    have e1 : cells + (q :: L).length = cells + 1 + L.length := by rw [List.length_cons]; omega
    have e2 : slots + jw_sz (q :: L) = slots + q.2.1 + jw_sz L := by simp [jw_sz]; omega
    rw [e1, e2]
    exact h2
def jw_up (h : jm_H) (q : Nat) (L : List jw_e) : jm_H := fun b => if q ≤ b ∧ b < q + L.length then (L[b - q]?).map Sum.inl else h b
theorem jm_multi (X : jm_cx p s m args c S D cl tys G cc nL own) {C : String} {index : Nat} {Ls : List Int32} {c0 : ClassId} {cs : Nat → List jw_e} {kc ks : Nat} (hd : decode cc pc = .ok (.multianewarray index Ls.length, 4)) (hw : Cond.classLink own index C ∈ G) (hfc : s.vm.findClass C = some c0)
    (hI : l.admits e → ∀ vm : Vm, s.vm.Alike vm → jw_mk e vm (Op.multianewarray.make c0 Ls) cs kc ks) (hcells : dc + kc ≤ R.cells) (hslots : ds + ks ≤ R.slots)
    (kk : ∀ q : Nat, S.heap.size ≤ q → (∀ b : Nat, q ≤ b → h b = none) → jm_W p l e R s m args below meth c S D cl Q nL (pc + 4) lv (.ref q :: rest) (jw_up h q (cs q)) (dc + kc) (ds + ks)) : jm_W p l e R s m args below meth c S D cl Q nL pc lv ((Ls.map Value.int).reverse ++ rest) h dc ds := by
  intro H ls locs hl hr hS T hT Y
  have hpl : e.platform.magicAccessors = ({} : Platform).magicAccessors := by rw [Y.admits.platform]
  obtain ⟨c1, hfc1, hcl⟩ := Cond.classLink_spec X.2.2.2.1 (X.2.2.2.2.1 _ hw) e.platform hpl
  cases hfc.symm.trans hfc1
  obtain ⟨hg1, hwarm1, hready1⟩ := State.classEntry (e := e) Y.warmed hcl
  have hsz : (T.vm.noted m.cls index (.cls c0)).classes.size ≤ T.vm.classes.size := by no_record
  generalize T.vm.noted m.cls index (.cls c0) = vm1 at hg1 hwarm1 hready1 hsz
  have I := hI Y.admits vm1 hwarm1.alike
  have Y1 := jw_stand (cs T.heap.size) (Y.noted hwarm1)
  rw [(I.1 _).1, (I.1 _).2] at Y1
  obtain ⟨hr1, hr2⟩ := Y.roomAbove hcells hslots
  have hlS : S.heap.size ≤ H.size := Nat.le_trans X.2.2.2.2.2.2.1.2.1 hS.1
  have hfresh : ∀ b : Nat, H.size ≤ b → h b = none := fun b hb => by
    cases hh : h b with
    | none => rfl
    | some x =>
      have := (hr b x hh).2.lt
      exact absurd this (by show ¬ b < _; omega)
  have hH1 : (jw_pa (T.setVm vm1) (cs T.heap.size)).heap = H ++ ((cs H.size).map jw_c).toArray := by
    show T.heap ++ _ = _
    rw [hT]
  have old : ∀ b : Nat, b < H.size → (jw_pa (T.setVm vm1) (cs T.heap.size)).heap[b]? = H[b]? := fun b hb => by
    rw [jw_pa_old (T.setVm vm1) _ (show b < T.heap.size by rw [hT]; exact hb)]
    show T.heap[b]? = _
    rw [hT]
  obtain ⟨t, st, hq⟩ := kk H.size hlS hfresh (jw_pa (T.setVm vm1) (cs T.heap.size)).heap ls locs hl (fun b x hb => by
    unfold jw_up at hb
    split at hb
    next hc =>
      obtain ⟨y, hy, rfl⟩ := Option.map_eq_some_iff.mp hb
      refine ⟨by omega, ?_⟩
      show (jw_pa (T.setVm vm1) (cs T.heap.size)).heap[b]? = some (vp_cell y.1 y.2)
      have := jw_pa_get (T.setVm vm1) (cs T.heap.size) (b - H.size)
      rw [show (T.setVm vm1).heap.size + (b - H.size) = b by show T.heap.size + _ = b; rw [hT]; omega] at this
      rw [this, hT, hy]
      rfl
    next hc =>
      refine ⟨(hr b x hb).1, (hr b x hb).2.kept (old b ?_)⟩
      exact (hr b x hb).2.lt) ⟨Nat.le_trans hS.1 (by rw [hH1]; simp), fun b h1 h2 => (old b (Nat.lt_of_lt_of_le h1 hS.1)).trans (hS.2.1 b h1 h2), hS.2.2⟩ _ rfl Y1
  refine ⟨t, ?_, hq⟩
  rw [← hT] at st
  jvm_step Y.here [X.1, X.2.1, hd]
  rw [jw_cold (f := F0 m pc ls ((Ls.map Value.int).reverse ++ rest)) Y.here.top hg1 hready1 hsz]
  refine jw_sem (s := T.setVm vm1) (cs := cs) Y.here.top hready1 rfl I hr1 hr2 (fun d' acts' => ?_)
  intro acts
  rw [afterInstr_ok]
  exact st
end JW2
end
section
section JW3
variable {dA : Nat → ClassId} {K : (Nat × List Value) → Nat → Prop}
/-- these arrays are those of the small machine -/
def jw_ok (dA : Nat → ClassId) (R : List Nat) (Ms : jx_H) (L : List jw_e) : Prop := L.length = Ms.length ∧ ∀ (j : Nat) (c : Nat × List Value), Ms[j]? = some c → ∃ (t : Nat) (x : vp_A), c.1 = 100 + t ∧ t < 100 ∧ L[j]? = some (dA t, x) ∧ jx_ar R t c.2 x
theorem jw_ok_app {R : List Nat} {M1 M2 : jx_H} {L1 L2 : List jw_e} (h1 : jw_ok dA R M1 L1) (h2 : jw_ok dA R M2 L2) : jw_ok dA R (M1 ++ M2) (L1 ++ L2) := by
  refine ⟨by rw [List.length_append, List.length_append, h1.1, h2.1], fun j c hj => ?_⟩
  by_cases e : j < M1.length
  · rw [List.getElem?_append_left e] at hj
    rw [List.getElem?_append_left (by rw [h1.1]; exact e)]
    exact h1.2 j c hj
  · rw [List.getElem?_append_right (by omega)] at hj
    rw [List.getElem?_append_right (by rw [h1.1]; omega), h1.1]
    exact h2.2 _ c hj
theorem jw_ok_one {R : List Nat} {t : Nat} {L : List Value} {x : vp_A} (ht : t < 100) (h : jx_ar R t L x) : jw_ok dA R [(100 + t, L)] [(dA t, x)] := by
  refine ⟨rfl, fun j c hj => ?_⟩
  have : j = 0 := by
    have := (List.getElem?_eq_some_iff.mp hj).1
    simp at this
    exact this
  subst this
  cases hj
  exact ⟨t, x, rfl, ht, rfl, h⟩
theorem jw_ok_rep {R : List Nat} {t : Nat} {L : List Value} {x : vp_A} (ht : t < 100) (h : jx_ar R t L x) : ∀ n, jw_ok dA R (List.replicate n (100 + t, L)) (List.replicate n (dA t, x))
  | 0 => ⟨rfl, fun j c hj => by simp at hj⟩
  | n + 1 => by
    rw [List.replicate_succ, List.replicate_succ]
    exact jw_ok_app (M1 := [(100 + t, L)]) (L1 := [(dA t, x)]) (jw_ok_one ht h) (jw_ok_rep ht h n)
theorem jw_in_rep (x : jw_e) (h : Nat) : ∀ n, jw_in (fun _ => [x]) 1 h n = List.replicate n x
  | 0 => rfl
  | n + 1 => by rw [jw_in, jw_in_rep x h n, List.replicate_succ']
def jw_a0 (t n : Nat) : vp_A := if t < 3 then (n, .inl (fun _ => 0)) else (n, .inr (.inl (fun _ => 0)))
theorem jw_a0_ar {R : List Nat} {t n : Nat} (ht : t < 4) : jx_ar R t (List.replicate n (jx_el t)) (jw_a0 t n) := by
  obtain ⟨x, h1, -, h2, h3, -⟩ := jx_ar_new (R := R) (t := t) (n := n) (by omega)
  unfold jw_a0
  split
  next e => rw [← h2 e]; exact h1
  next e => rw [← h3 (by omega)]; exact h1
theorem jw_outer {R : List Nat} {t n a h kc : Nat} (ht : 4 ≤ t) (ht2 : t < 13) (hR : ∀ i, i < n → R[a + 1 + i * kc]? = some (h + 1 + i * kc)) : jx_ar R t ((List.range n).map (fun i => Value.ref (a + 1 + i * kc))) (jw_oc (dA t) n h kc n).2 := by
  refine Or.inr (Or.inr ⟨ht, ht2, fun j => if j < n then some (h + 1 + j * kc) else none, by simp [jw_oc], fun i v hv => ?_⟩)
  rw [List.getElem?_map] at hv
  obtain ⟨i', hi, rfl⟩ := Option.map_eq_some_iff.mp hv
  obtain ⟨hl, rfl⟩ := List.getElem?_eq_some_iff.mp hi
  rw [List.length_range] at hl
  rw [List.getElem_range]
  show jx_v R _ (va_rf (if i < n then some (h + 1 + i * kc) else none))
  rw [if_pos hl]
  exact ⟨_, hR i hl, rfl⟩
theorem jw_ok_m2 {R : List Nat} {a n1 n2 t1 t2 h : Nat} (h1 : 4 ≤ t1) (h2 : t1 < 13) (h3 : t2 < 4) (hR : ∀ i, i < n1 → R[a + 1 + i]? = some (h + 1 + i)) : jw_ok dA R (jx_m2 a n1 n2 t1 t2) (jw_cs (dA t1) n1 (fun _ => [(dA t2, jw_a0 t2 n2)]) 1 h) := by
  unfold jx_m2 jw_cs
  rw [jw_in_rep]
  have := jw_outer (dA := dA) (R := R) (t := t1) (n := n1) (a := a) (h := h) (kc := 1) h1 h2 (fun i hi => by rw [Nat.mul_one]; exact hR i hi)
  simp only [Nat.mul_one] at this
  exact jw_ok_app (M1 := [(100 + t1, _)]) (L1 := [jw_oc (dA t1) n1 h 1 n1]) (jw_ok_one (by omega) this) (jw_ok_rep (by omega) (jw_a0_ar h3) n1)
theorem jx_m3_sn (n2 n3 t2 t3 : Nat) : ∀ (n a : Nat), jx_m3 a n2 n3 t2 t3 (n + 1) = jx_m3 a n2 n3 t2 t3 n ++ jx_m2 (a + n * (1 + n2)) n2 n3 t2 t3
  | 0, a => by simp [jx_m3]
  | n + 1, a => by
    rw [jx_m3, jx_m3_sn n2 n3 t2 t3 n (a + 1 + n2), ← List.append_assoc]
    have e : a + 1 + n2 + n * (1 + n2) = a + (n + 1) * (1 + n2) := by rw [Nat.succ_mul]; omega
    rw [e]
    rfl
theorem jw_ok_m3 {R : List Nat} {a n2 n3 t2 t3 h : Nat} (h1 : 4 ≤ t2) (h2 : t2 < 13) (h3 : t3 < 4) : ∀ n, (∀ k, k < n * (1 + n2) → R[a + k]? = some (h + 1 + k)) → jw_ok dA R (jx_m3 a n2 n3 t2 t3 n) (jw_in (jw_cs (dA t2) n2 (fun _ => [(dA t3, jw_a0 t3 n3)]) 1) (1 + n2) h n)
  | 0, _ => ⟨rfl, fun j c hj => by simp [jx_m3] at hj⟩
  | n + 1, hR => by
    rw [jx_m3_sn, jw_in]
    have hs : (n + 1) * (1 + n2) = n * (1 + n2) + (1 + n2) := Nat.succ_mul _ _
    refine jw_ok_app (jw_ok_m3 h1 h2 h3 n (fun k hk => hR k (by omega))) (jw_ok_m2 h1 h2 h3 (fun i hi => ?_))
    have := hR (n * (1 + n2) + 1 + i) (by omega)
    rw [show a + n * (1 + n2) + 1 + i = a + (n * (1 + n2) + 1 + i) by omega, this]
    congr 1
    omega
theorem jx_re_app {R : List Nat} {M Ms : jx_H} {h : jm_H} {q : Nat} {L : List jw_e} (E : jx_re dA K R M h) (hq : ∀ b : Nat, q ≤ b → h b = none) (hok : jw_ok dA (R ++ (List.range L.length).map (fun i => q + i)) Ms L) : jx_re dA K (R ++ (List.range L.length).map (fun i => q + i)) (M ++ Ms) (jw_up h q L) := by
  obtain ⟨hlen, hc⟩ := hok
  have hp : R <+: R ++ (List.range L.length).map (fun i => q + i) := ⟨_, rfl⟩
  have old : ∀ (a : Nat) (x : Nat × List Value) (b : Nat), M[a]? = some x → R[a]? = some b → x.1 < 200 → b < q := fun a x b h1 h2 h3 => by
    refine Nat.not_le.mp fun e => ?_
    have := hq b e
    rcases E.2.1 a x b h1 h2 with ⟨-, fs, g, -⟩ | ⟨-, -, y, g, -⟩ | ⟨g, -⟩
    · rw [this] at g; cases g
    · rw [this] at g; cases g
    · omega
  have spl : ∀ (a : Nat) (x : Nat × List Value) (b : Nat), (M ++ Ms)[a]? = some x → (R ++ (List.range L.length).map (fun i => q + i))[a]? = some b → (M[a]? = some x ∧ R[a]? = some b) ∨ ∃ j, a = M.length + j ∧ Ms[j]? = some x ∧ b = q + j := fun a x b h1 h2 => by
    by_cases e : a < M.length
    · rw [List.getElem?_append_left e] at h1
      rw [List.getElem?_append_left (by rw [E.1]; exact e)] at h2
      exact Or.inl ⟨h1, h2⟩
    · rw [List.getElem?_append_right (by omega)] at h1
      rw [List.getElem?_append_right (by rw [E.1]; omega), E.1, List.getElem?_map] at h2
      obtain ⟨i, hi, rfl⟩ := Option.map_eq_some_iff.mp h2
      obtain ⟨hl, rfl⟩ := List.getElem?_eq_some_iff.mp hi
      exact Or.inr ⟨a - M.length, by omega, h1, by rw [List.getElem_range]⟩
  refine ⟨by simp [E.1, hlen], fun a x b h1 h2 => ?_, fun a a' x x' b h1 h2 g1 g2 f1 f2 => ?_⟩
  · rcases spl a x b h1 h2 with ⟨i1, i2⟩ | ⟨j, -, hj, rfl⟩
    · refine jx_ce_mono hp (fun g => ?_) (E.2.1 a x b i1 i2)
      have := old a x b i1 i2 g
      unfold jw_up
      rw [if_neg (by omega)]
    · obtain ⟨t, y, e1, e2, e3, e4⟩ := hc j x hj
      have hl := (List.getElem?_eq_some_iff.mp e3).1
      refine Or.inr (Or.inl ⟨by omega, by omega, y, ?_, ?_⟩)
      · unfold jw_up
        rw [if_pos (by omega), show q + j - q = j by omega, e3, show x.1 - 100 = t by omega]
        rfl
      · rw [show x.1 - 100 = t by omega]
        exact e4
  · rcases spl a x b h1 f1 with ⟨i1, i2⟩ | ⟨j, i1, i2, i3⟩ <;> rcases spl a' x' b h2 f2 with ⟨j1, j2⟩ | ⟨j', j1, j2, j3⟩
    · exact E.2.2 a a' x x' b i1 j1 g1 g2 i2 j2
    · have := old a x b i1 i2 g1
      omega
    · have := old a' x' b j1 j2 g2
      omega
    · omega
theorem jx_mu_inv {pc dc ds : Nat} {lv : List (Nat × Value)} {st : List Value} {M : jx_H} {x : List Nat} {z : jx_N} (hs : jx_mu pc lv M dc ds x st = some (.inl z)) :
    (∃ (t1 t2 : Nat) (a b : Int32) (r : List Value), x = [t1, t2] ∧ st = .int b :: .int a :: r ∧ ¬ a < 0 ∧ ¬ b < 0 ∧ a.toNatClampNeg ≤ 1000 ∧ b.toNatClampNeg ≤ 1000000 ∧ z = (pc + 4, lv, .ref M.length :: r, M ++ jx_m2 M.length a.toNatClampNeg b.toNatClampNeg t1 t2, dc + (1 + a.toNatClampNeg), ds + (a.toNatClampNeg + a.toNatClampNeg * b.toNatClampNeg))) ∨
    (∃ (t1 t2 t3 : Nat) (a b c : Int32) (r : List Value), x = [t1, t2, t3] ∧ st = .int c :: .int b :: .int a :: r ∧ ¬ a < 0 ∧ ¬ b < 0 ∧ ¬ c < 0 ∧ a.toNatClampNeg ≤ 1000 ∧ b.toNatClampNeg ≤ 1000 ∧ c.toNatClampNeg ≤ 1000000 ∧
      z = (pc + 4, lv, .ref M.length :: r, M ++ (100 + t1, (List.range a.toNatClampNeg).map (fun i => .ref (M.length + 1 + i * (1 + b.toNatClampNeg)))) :: jx_m3 (M.length + 1) b.toNatClampNeg c.toNatClampNeg t2 t3 a.toNatClampNeg, dc + (1 + a.toNatClampNeg + a.toNatClampNeg * b.toNatClampNeg), ds + (a.toNatClampNeg + a.toNatClampNeg * b.toNatClampNeg + a.toNatClampNeg * b.toNatClampNeg * c.toNatClampNeg))) := by
  unfold jx_mu at hs
  split at hs
  next t1 t2 b a r =>
    split at hs
    next => cases hs
    next e =>
      cases hs
      exact Or.inl ⟨t1, t2, a, b, r, rfl, rfl, fun q => e (Or.inl q), fun q => e (Or.inr (Or.inl q)), Nat.not_lt.mp fun q => e (Or.inr (Or.inr (Or.inl q))), Nat.not_lt.mp fun q => e (Or.inr (Or.inr (Or.inr q))), rfl⟩
  next t1 t2 t3 c b a r =>
    split at hs
    next => cases hs
    next e =>
      cases hs
      exact Or.inr ⟨t1, t2, t3, a, b, c, r, rfl, rfl, fun q => e (Or.inl q), fun q => e (Or.inr (Or.inl q)), fun q => e (Or.inr (Or.inr (Or.inl q))), Nat.not_lt.mp fun q => e (Or.inr (Or.inr (Or.inr (Or.inl q)))), Nat.not_lt.mp fun q => e (Or.inr (Or.inr (Or.inr (Or.inr (Or.inl q))))), Nat.not_lt.mp fun q => e (Or.inr (Or.inr (Or.inr (Or.inr (Or.inr q))))), rfl⟩
  next => cases hs
theorem jw_lim {l : Launch} {e : Env} (ha : l.admits e) {n k : Nat} (hn : n ≤ 1000000) (hk : k ≤ 8) : (¬ n > e.platform.arrayLengthLimit) ∧ ¬ n * k > e.platform.maxHeapBytes := by
  have : n * k ≤ 1000000 * 8 := Nat.mul_le_mul hn hk
  refine ⟨?_, ?_⟩
  · rw [Launch.admits_arrayLengthLimit ha]; omega
  · rw [Launch.admits_maxHeapBytes ha]; omega
theorem jw_Rget {R : List Nat} {q n k : Nat} (hk : k < n) : (R ++ (List.range n).map (fun i => q + i))[R.length + k]? = some (q + k) := by
  rw [List.getElem?_append_right (by omega)]
  simp [hk]
variable {p : Program} {l : Launch} {e : Env} {Rm : Room} {s : State} {m : MethodId} {args : Array Value} {below : List Frame} {meth : Method} {c : Code} {Q : State → Prop}
variable {S : State} {D : va_G} {cc : ByteArray} {nL pc dc ds : Nat} {own : String} {R R0 : List Nat} {M : jx_H} {h : jm_H} {lv lw : List (Nat × Value)} {st sw : List Value} {z : jx_N} {df : List (List Value)}
theorem jw_lf (X : jm_cx p s m args c S D jm_cl (jm_ty dA) jm_G cc nL own) (ha : l.admits e) {vm : Vm} (hvm : s.vm.Alike vm) {t : Nat} (ht : t < 4) {b : Int32} (hb : ¬ b < 0) (hb2 : b.toNatClampNeg ≤ 1000000) : jw_mk e vm (Op.multianewarray.make (dA t) [b]) (fun _ => [(dA t, jw_a0 t b.toNatClampNeg)]) 1 b.toNatClampNeg := by
  have key : ∀ ty : FieldType, (jm_ty dA)[t]? = some (dA t, ty) → ∃ (k : Class) (comp : ClassId), vm.classes[dA t]? = some k ∧ k.kind = .array comp ty := fun ty hty => by
    obtain ⟨-, k, hk, comp, hkind⟩ := (X.2.2.2.2.2.1.2 t _ hty).1 0 (fun _ => .null)
    obtain ⟨k', hk', he⟩ := hvm.2.2 _ _ hk
    exact ⟨k', comp, hk', by rw [he]; exact hkind⟩
  have : t = 0 ∨ t = 1 ∨ t = 2 ∨ t = 3 := by omega
  rcases this with rfl | rfl | rfl | rfl
  · obtain ⟨k, comp, h1, h2⟩ := key .byte rfl
    exact jw_leaf h1 h2 hb (jw_lim ha hb2 (show 1 ≤ 8 by omega)).1 (jw_lim ha hb2 (show 1 ≤ 8 by omega)).2 rfl rfl rfl rfl
  · obtain ⟨k, comp, h1, h2⟩ := key .boolean rfl
    exact jw_leaf h1 h2 hb (jw_lim ha hb2 (show 1 ≤ 8 by omega)).1 (jw_lim ha hb2 (show 1 ≤ 8 by omega)).2 rfl rfl rfl rfl
  · obtain ⟨k, comp, h1, h2⟩ := key .int rfl
    exact jw_leaf h1 h2 hb (jw_lim ha hb2 (show 4 ≤ 8 by omega)).1 (jw_lim ha hb2 (show 4 ≤ 8 by omega)).2 rfl rfl rfl rfl
  · obtain ⟨k, comp, h1, h2⟩ := key .long rfl
    exact jw_leaf h1 h2 hb (jw_lim ha hb2 (show 8 ≤ 8 by omega)).1 (jw_lim ha hb2 (show 8 ≤ 8 by omega)).2 rfl rfl rfl rfl
theorem jx_multi (X : jm_cx p s m args c S D jm_cl (jm_ty dA) jm_G cc nL own) {a b len : Nat} {x : List Nat} {va : Value} (hd : decode cc pc = .ok (.multianewarray a b, len)) (hl : jx_lok (.multianewarray a b) len = true) (hsi : jx_si S dA R0 df own (.multianewarray a b) x va) (E : jx_E dA K R M h lv st lw sw) (hs : jx_mu pc lv M dc ds x st = some (.inl z)) (hrm : z.2.2.2.2.1 ≤ Rm.cells ∧ z.2.2.2.2.2 ≤ Rm.slots)
    (kk : jx_go dA K (fun pc lv st h dc ds => jm_W p l e Rm s m args below meth c S D jm_cl Q nL pc lv st h dc ds) R z) : jm_W p l e Rm s m args below meth c S D jm_cl Q nL pc lw sw h dc ds := by
  have hl : len = 4 := by simpa [jx_lok, jx_len] using hl
  subst hl
  obtain ⟨E1, E2, E3⟩ := E
  have hal : S.vm.Alike s.vm := X.2.2.2.2.2.2.1.1.alike
  rcases jx_mu_inv hs with ⟨t1, t2, n1, n2, r, rfl, rfl, i1, i2, i3, i4, rfl⟩ | ⟨t1, t2, t3, n1, n2, n3, r, rfl, rfl, i1, i2, i3, i4, i5, i6, rfl⟩
  · rcases hsi with ⟨u1, u2, C, ex, rfl, g1, g2, g3, hw, hfc, hkd⟩ | ⟨u1, u2, u3, C, ex, -⟩
    · cases ex
      obtain ⟨s1, rfl, E4⟩ := jx_vs_int E3
      obtain ⟨s2, rfl, E5⟩ := jx_vs_int E4
      refine jm_multi (Ls := [n1, n2]) (rest := s2) (cs := jw_cs (dA t1) n1.toNatClampNeg (fun _ => [(dA t2, jw_a0 t2 n2.toNatClampNeg)]) 1) (kc := 1 + n1.toNatClampNeg * 1) (ks := n1.toNatClampNeg + n1.toNatClampNeg * n2.toNatClampNeg) X hd hw (by rw [hal.findClass]; exact hfc) (fun ha vm hvm => ?_) (by have := hrm.1; simp only at this; omega) hrm.2 (fun q hq1 hq2 => ?_)
      · obtain ⟨k, ty, k1, k2, k3, k4⟩ := hkd.moved (hal.trans hvm)
        have hlim := jw_lim ha (n := n1.toNatClampNeg) (k := componentBytes ty) (by omega) (by omega)
        exact jw_step k1 k2 k3 i1 (by simp [i2]) hlim.1 hlim.2 (jw_lf X ha hvm g3 i2 i4)
      · have hlen : (jw_cs (dA t1) n1.toNatClampNeg (fun _ => [(dA t2, jw_a0 t2 n2.toNatClampNeg)]) 1 q).length = 1 + n1.toNatClampNeg := by
          simp [jw_cs, jw_in_rep]
          omega
        have hRg : ∀ k, k < 1 + n1.toNatClampNeg → (R ++ (List.range (jw_cs (dA t1) n1.toNatClampNeg (fun _ => [(dA t2, jw_a0 t2 n2.toNatClampNeg)]) 1 q).length).map (fun i => q + i))[M.length + k]? = some (q + k) := fun k hk => by
          rw [← E1.1]
          exact jw_Rget (by rw [hlen]; exact hk)
        have hok := jw_ok_m2 (dA := dA) (R := R ++ (List.range (jw_cs (dA t1) n1.toNatClampNeg (fun _ => [(dA t2, jw_a0 t2 n2.toNatClampNeg)]) 1 q).length).map (fun i => q + i)) (a := M.length) (n1 := n1.toNatClampNeg) (n2 := n2.toNatClampNeg) (t1 := t1) (t2 := t2) (h := q) g1 g2 g3 (fun i hi => by
          have := hRg (1 + i) (by omega)
          rw [show M.length + 1 + i = M.length + (1 + i) by omega, this]
          congr 1
          omega)
        have hE := jx_re_app E1 hq2 hok
        have hp : R <+: R ++ (List.range (jw_cs (dA t1) n1.toNatClampNeg (fun _ => [(dA t2, jw_a0 t2 n2.toNatClampNeg)]) 1 q).length).map (fun i => q + i) := ⟨_, rfl⟩
        have := kk _ _ lw (.ref q :: s2) hp ⟨hE, jx_lv_mono hp E2, ⟨q, hRg 0 (by omega), rfl⟩, jx_vs_mono hp E5⟩
        rw [Nat.mul_one]
        exact this
    · cases ex
  · rcases hsi with ⟨u1, u2, C, ex, -⟩ | ⟨u1, u2, u3, C, ex, rfl, g1, g2, g3, g4, g5, hw, hfc, hkd, hkd2⟩
    · cases ex
    · cases ex
      obtain ⟨s1, rfl, E4⟩ := jx_vs_int E3
      obtain ⟨s2, rfl, E5⟩ := jx_vs_int E4
      obtain ⟨s3, rfl, E6⟩ := jx_vs_int E5
      have ec : dc + (1 + n1.toNatClampNeg * (1 + n2.toNatClampNeg * 1)) = dc + (1 + n1.toNatClampNeg + n1.toNatClampNeg * n2.toNatClampNeg) := by rw [Nat.mul_one, Nat.mul_add, Nat.mul_one]; omega
      have es : ds + (n1.toNatClampNeg + n1.toNatClampNeg * (n2.toNatClampNeg + n2.toNatClampNeg * n3.toNatClampNeg)) = ds + (n1.toNatClampNeg + n1.toNatClampNeg * n2.toNatClampNeg + n1.toNatClampNeg * n2.toNatClampNeg * n3.toNatClampNeg) := by rw [Nat.mul_add, ← Nat.mul_assoc]; omega
      refine jm_multi (Ls := [n1, n2, n3]) (rest := s3) (cs := jw_cs (dA t1) n1.toNatClampNeg (jw_cs (dA t2) n2.toNatClampNeg (fun _ => [(dA t3, jw_a0 t3 n3.toNatClampNeg)]) 1) (1 + n2.toNatClampNeg * 1)) (kc := 1 + n1.toNatClampNeg * (1 + n2.toNatClampNeg * 1)) (ks := n1.toNatClampNeg + n1.toNatClampNeg * (n2.toNatClampNeg + n2.toNatClampNeg * n3.toNatClampNeg)) X hd hw (by rw [hal.findClass]; exact hfc) (fun ha vm hvm => ?_) (by rw [ec]; exact hrm.1) (by rw [es]; exact hrm.2) (fun q hq1 hq2 => ?_)
      · obtain ⟨k, ty, k1, k2, k3, k4⟩ := hkd.moved (hal.trans hvm)
        obtain ⟨k', ty', k1', k2', k3', k4'⟩ := hkd2.moved (hal.trans hvm)
        have hlim := jw_lim ha (n := n1.toNatClampNeg) (k := componentBytes ty) (by omega) (by omega)
        have hlim2 := jw_lim ha (n := n2.toNatClampNeg) (k := componentBytes ty') (by omega) (by omega)
        exact jw_step k1 k2 k3 i1 (by simp [i2, i3]) hlim.1 hlim.2 (jw_step k1' k2' k3' i2 (by simp [i3]) hlim2.1 hlim2.2 (jw_lf X ha hvm g5 i3 i6))
      · rw [ec, es]
        simp only [Nat.mul_one]
        have hI2 : ∀ h, (jw_cs (dA t2) n2.toNatClampNeg (fun _ => [(dA t3, jw_a0 t3 n3.toNatClampNeg)]) 1 h).length = 1 + n2.toNatClampNeg ∧ jw_sz (jw_cs (dA t2) n2.toNatClampNeg (fun _ => [(dA t3, jw_a0 t3 n3.toNatClampNeg)]) 1 h) = jw_sz (jw_cs (dA t2) n2.toNatClampNeg (fun _ => [(dA t3, jw_a0 t3 n3.toNatClampNeg)]) 1 0) := fun h => by
          refine ⟨?_, ?_⟩
          · simp [jw_cs, jw_in_rep]
            omega
          · simp [jw_cs, jw_in_rep, jw_sz, jw_oc]
        have hlen : (jw_cs (dA t1) n1.toNatClampNeg (jw_cs (dA t2) n2.toNatClampNeg (fun _ => [(dA t3, jw_a0 t3 n3.toNatClampNeg)]) 1) (1 + n2.toNatClampNeg) q).length = 1 + n1.toNatClampNeg * (1 + n2.toNatClampNeg) := by
          rw [jw_cs, List.length_cons, (jw_in_len hI2 q _).1]
          omega
        have hRg : ∀ k, k < 1 + n1.toNatClampNeg * (1 + n2.toNatClampNeg) → (R ++ (List.range (jw_cs (dA t1) n1.toNatClampNeg (jw_cs (dA t2) n2.toNatClampNeg (fun _ => [(dA t3, jw_a0 t3 n3.toNatClampNeg)]) 1) (1 + n2.toNatClampNeg) q).length).map (fun i => q + i))[M.length + k]? = some (q + k) := fun k hk => by
          rw [← E1.1]
          exact jw_Rget (by rw [hlen]; exact hk)
        have hok := jw_ok_m3 (dA := dA) (R := R ++ (List.range (jw_cs (dA t1) n1.toNatClampNeg (jw_cs (dA t2) n2.toNatClampNeg (fun _ => [(dA t3, jw_a0 t3 n3.toNatClampNeg)]) 1) (1 + n2.toNatClampNeg) q).length).map (fun i => q + i)) (a := M.length + 1) (n2 := n2.toNatClampNeg) (n3 := n3.toNatClampNeg) (t2 := t2) (t3 := t3) (h := q) g3 g4 g5 n1.toNatClampNeg (fun k hk => by
          have := hRg (1 + k) (by omega)
          rw [show M.length + 1 + k = M.length + (1 + k) by omega, this]
          congr 1
          omega)
        have hou := jw_outer (dA := dA) (R := R ++ (List.range (jw_cs (dA t1) n1.toNatClampNeg (jw_cs (dA t2) n2.toNatClampNeg (fun _ => [(dA t3, jw_a0 t3 n3.toNatClampNeg)]) 1) (1 + n2.toNatClampNeg) q).length).map (fun i => q + i)) (t := t1) (n := n1.toNatClampNeg) (a := M.length) (h := q) (kc := 1 + n2.toNatClampNeg) g1 g2 (fun i hi => by
          have hm : i * (1 + n2.toNatClampNeg) + (1 + n2.toNatClampNeg) ≤ n1.toNatClampNeg * (1 + n2.toNatClampNeg) := by
            have := Nat.mul_le_mul_right (1 + n2.toNatClampNeg) (show i + 1 ≤ n1.toNatClampNeg from hi)
            rw [Nat.succ_mul] at this
            exact this
          have := hRg (1 + i * (1 + n2.toNatClampNeg)) (by omega)
          rw [show M.length + 1 + i * (1 + n2.toNatClampNeg) = M.length + (1 + i * (1 + n2.toNatClampNeg)) by omega, this]
          congr 1
          omega)
        have hE := jx_re_app E1 hq2 (jw_ok_app (M1 := [(100 + t1, _)]) (L1 := [jw_oc (dA t1) n1.toNatClampNeg q (1 + n2.toNatClampNeg) n1.toNatClampNeg]) (jw_ok_one (by omega) hou) hok)
        have hp : R <+: R ++ (List.range (jw_cs (dA t1) n1.toNatClampNeg (jw_cs (dA t2) n2.toNatClampNeg (fun _ => [(dA t3, jw_a0 t3 n3.toNatClampNeg)]) 1) (1 + n2.toNatClampNeg) q).length).map (fun i => q + i) := ⟨_, rfl⟩
        exact kk _ _ lw (.ref q :: s3) hp ⟨hE, jx_lv_mono hp E2, ⟨q, hRg 0 (by omega), rfl⟩, jx_vs_mono hp E6⟩
end JW3
end
section
section JY
variable {p : Program} {l : Launch} {e : Env} {R : Room} {s : State} {m : MethodId} {args : Array Value} {below : List Frame} {meth : Method} {c : Code} {Q : State → Prop}
variable {S : State} {D : va_G} {cl : List vw_C} {tys : List (ClassId × FieldType)} {G : List Cond} {cc : ByteArray} {nL pc dc ds : Nat} {own : String} {lv : List (Nat × Value)} {rest st : List Value} {h : jm_H}
theorem jm_callVS (X : jm_cx p s m args c S D cl tys G cc nL own) {index b : Nat} {y : MethodName} {wc : Cond} {rm : Room} {As : List Value} {Po : Outcome → jm_H → Prop} {mc ms maxL : Nat} (hd : decode cc pc = .ok (.invokevirtual index, 3)) (hM : jm_M l S D cl y wc rm (.ref b :: As) h Po mc ms) (hci : jm_ci G y wc maxL As.length) (hlk : Cond.methodLink own index y ∈ G ∨ ∃ host, Cond.methodLinkNest own index y host ∈ G) (hin : Cond.instanceMethod y ∈ G) (hse : Cond.selects y.cls y y ∈ G) (hb : va_O y.cls b (fun q => S.heap.size ≤ q) S S.heap) (hst : st = As.reverse ++ .ref b :: rest) (hrest : (rest.map fun v => v.category).sum ≤ 8) (hR : rm.frames + 1 ≤ R.frames ∧ 8 + (maxL + 11) + rm.locals ≤ R.locals) (hrm : rm.cells = mc ∧ rm.slots = ms) (hcs : dc + mc ≤ R.cells ∧ ds + ms ≤ R.slots)
    (k : ∀ o h1, Po o h1 → jm_K p l e R s m args below meth c S D cl Q nL pc lv rest h1 (dc + mc) (ds + ms) o) : jm_W p l e R s m args below meth c S D cl Q nL pc lv st h dc ds := by
  intro H ls locs hl hr hS T hT Y
  have hts := X.2.2.2.2.1
  obtain ⟨mk, methM, cM, hn, hmM, hcM, hlM, hsig⟩ := jm_cod hci.2.1 (hts _ hci.1)
  obtain ⟨mk2, methM2, hn2, hmM2, hstM, habM⟩ := Cond.instanceMethod_spec (hts _ hin)
  cases hn.symm.trans hn2
  cases hmM.symm.trans hmM2
  have hlen : As.length = methM.sig.parameters.length := by
    have h2 := hci.2.2.2.2
    rw [hsig] at h2
    exact (Option.some.inj h2).symm
  obtain ⟨cellB, hcB, hoB, hclB, -⟩ := ((va_O.moved X.2.2.2.2.2.2.1.1.alike hb).kept (jm_keptS X)).kept hS.2.1
  obtain ⟨c2, r2, m2, q1, q2, q3, q4, kP, hkP, hkPi⟩ := Cond.selects_spec (hts _ hse)
  cases hclB.symm.trans q1
  cases (State.methodFound?_of_named hn hci.2.2.2.1).symm.trans q2
  cases hn.symm.trans q3
  have hselP : selectMethod e.platform s.vm cellB.cls mk = .method mk := by rw [Launch.admits_selectMethod Y.admits]; exact q4
  have key : ∃ vm', Stand p l e R s m args below meth c (T.setVm vm') locs dc ds ∧ ∀ target, (∀ acts, Steps p.tables e below (doInvoke e ((T.setVm vm').setTop (F0 m pc ls rest)) acts mk (Value.ref b :: As).toArray).1 target) → Steps p.tables e below (T.setTop (F0 m pc ls st)) target := by
    rcases hlk with hw | ⟨host, hw⟩
    · exact Y.invokevirtual X.1 X.2.2.2.1 (hts _ hw) hn hmM hstM hkP hkPi hci.2.2.2.1 (a := b) (cell := cellB) (by rw [hT]; exact hcB) (fun z hz => by rw [hz] at hoB; cases hoB) hselP hmM habM hkP hkPi (g := F0 m pc ls st) rfl (argsL := As) (rest := rest) hlen hst (by rw [X.2.1]; exact hd)
    · exact Y.invokevirtualNest X.1 X.2.2.2.1 (hts _ hw) hn hmM hstM hkP hkPi hci.2.2.2.1 (a := b) (cell := cellB) (by rw [hT]; exact hcB) (fun z hz => by rw [hz] at hoB; cases hoB) hselP hmM habM hkP hkPi (g := F0 m pc ls st) rfl (argsL := As) (rest := rest) hlen hst (by rw [X.2.1]; exact hd)
  obtain ⟨vm', Y1, st1⟩ := key
  exact jm_cal X (T1 := T.setVm vm') (As := .ref b :: As) hT hl hr hS Y1 hn st1 hd hM hci hrest hR hrm hcs k
theorem jm_getfK (X : jm_cx p s m args c S D cl tys G cc nL own) {C n d : String} {index b : Nat} {v : Value} (hd : decode cc pc = .ok (.getfield index, 3)) (hb : va_OF C n d v b (fun q => S.heap.size ≤ q) S S.heap) (hw : Cond.fieldLink own index C n d ∈ G) (kk : jm_W p l e R s m args below meth c S D cl Q nL (pc + 3) lv (v :: rest) h dc ds) : jm_W p l e R s m args below meth c S D cl Q nL pc lv (.ref b :: rest) h dc ds := fun H ls locs hl hr hS =>
  vk_getf X.1 X.2.1 ((va_OF.moved X.2.2.2.2.2.2.1.1.alike hb).kept (jm_keptS X)) hS X.2.2.2.1 (X.2.2.2.2.1 _ hw) (fun _ q => q) hd (kk H ls locs hl hr hS)
theorem jm_baldK (X : jm_cx p s m args c S D cl tys G cc nL own) {b n : Nat} {f : Nat → Value} {i : Int32} (hd : decode cc pc = .ok (.baload, 1)) (hT : va_T .byte b n f (fun q => S.heap.size ≤ q) S S.heap) (hin : vp_in i n) (kk : jm_W p l e R s m args below meth c S D cl Q nL (pc + 1) lv (f i.toNatClampNeg :: rest) h dc ds) : jm_W p l e R s m args below meth c S D cl Q nL pc lv (.int i :: .ref b :: rest) h dc ds := fun H ls locs hl hr hS =>
  va_tb X.1 X.2.1 ((va_T.moved X.2.2.2.2.2.2.1.1.alike hT).kept (jm_keptS X)) hS hin rfl hd (kk H ls locs hl hr hS)
theorem jm_alenT (X : jm_cx p s m args c S D cl tys G cc nL own) {b n : Nat} {ty : FieldType} {f : Nat → Value} (hd : decode cc pc = .ok (.arraylength, 1)) (hT : va_T ty b n f (fun q => S.heap.size ≤ q) S S.heap) (kk : jm_W p l e R s m args below meth c S D cl Q nL (pc + 1) lv (.int (Int32.ofNat n) :: rest) h dc ds) : jm_W p l e R s m args below meth c S D cl Q nL pc lv (.ref b :: rest) h dc ds := fun H ls locs hl hr hS =>
  va_tlen X.1 X.2.1 ((va_T.moved X.2.2.2.2.2.2.1.1.alike hT).kept (jm_keptS X)) hS rfl hd (kk H ls locs hl hr hS)
theorem jm_i2c (X : jm_cx p s m args c S D cl tys G cc nL own) {x v : Int32} (hd : decode cc pc = .ok (.i2c, 1)) (hv : (x.toUInt32 % 65536).toInt32 = v) (k : jm_W p l e R s m args below meth c S D cl Q nL (pc + 1) lv (.int v :: rest) h dc ds) : jm_W p l e R s m args below meth c S D cl Q nL pc lv (.int x :: rest) h dc ds := fun H ls locs hl hr hS => lv_i2c X.1 X.2.1 hd hv (k H ls locs hl hr hS)
theorem jm_oinit (X : jm_cx p s m args c S D cl tys G cc nL own) {index b : Nat} (hd : decode cc pc = .ok (.invokespecial index, 3)) (w1 : Cond.methodLink own index Lib.objectInit ∈ G) (w2 : Cond.instanceMethod Lib.objectInit ∈ G) (w3 : Cond.code Lib.objectInit ⟨#[0xb1]⟩ 1 none ∈ G) (hf : 1 ≤ R.frames) (hlo : (rest.map fun v => v.category).sum + 12 ≤ R.locals)
    (kk : jm_W p l e R s m args below meth c S D cl Q nL (pc + 3) lv rest h dc ds) : jm_W p l e R s m args below meth c S D cl Q nL pc lv (.ref b :: rest) h dc ds := fun H ls locs hl hr hS =>
  W.objInit X.1 X.2.1 X.2.2.2.1 (X.2.2.2.2.1 _ w1) (X.2.2.2.2.1 _ w2) (X.2.2.2.2.1 _ w3) (g := F0 m pc ls (.ref b :: rest)) rfl (hl.1.trans X.2.2.1.symm) rfl hd hf (by show 2 * 0 + _ + 12 ≤ _; omega) (kk H ls locs hl hr hS)
theorem jm_natN {x : MethodName} {s U : State} (hW : s.WarmedH U.vm) (hZ : va_Nw (.native x) s) : va_Nw (.native x) U := va_tabs rfl (rfl : (s.setVm U.vm).vm = U.vm) (by rw [Cond.native_setVm hW.alike]; exact hZ)
theorem jm_copy (X : jm_cx p s m args c S D cl tys G cc nL own) {index t0 a b n0 n1 : Nat} {cA : ClassId} {f g : Nat → Int32} {sp dp n : Int32} (hd : decode cc pc = .ok (.invokestatic index, 3)) (w1 : Cond.methodLink own index arraycopyName ∈ G) (w2 : Cond.static arraycopyName ∈ G) (w3 : Cond.initialized "java/lang/System" ∈ G) (w4 : va_Nw (.native arraycopyName) S) (ht : tys[t0]? = some (cA, .int)) (ha : h a = some (.inl (cA, n0, .inl f))) (hb : h b = some (.inl (cA, n1, .inl g)))
    (h1 : ¬ sp < 0) (h2 : ¬ dp < 0) (h3 : ¬ n < 0) (h4 : sp.toNatClampNeg + n.toNatClampNeg ≤ n0) (h5 : dp.toNatClampNeg + n.toNatClampNeg ≤ n1) (hf : 1 ≤ R.frames) (hlo : (rest.map fun v => v.category).sum + 18 ≤ R.locals)
    (kk : jm_W p l e R s m args below meth c S D cl Q nL (pc + 3) lv rest (jm_up h b (.inl (cA, n1, .inl (va_cpy f g sp.toNatClampNeg dp.toNatClampNeg n.toNatClampNeg)))) dc ds) : jm_W p l e R s m args below meth c S D cl Q nL pc lv (.int n :: .int dp :: .ref b :: .int sp :: .ref a :: rest) h dc ds := by
  intro H ls locs hl hr hS
  obtain ⟨q0, hq0⟩ := jm_place hr ha
  obtain ⟨q1, hq1⟩ := jm_place hr hb
  exact va_copyi X.1 X.2.1 (X.2.2.1.trans hl.1.symm) X.2.2.2.1 (X.2.2.2.2.1 _ w1) (va_Nw.use rfl (jm_natN X.2.2.2.2.2.2.1.1 w4)) (X.2.2.2.2.1 _ w2) (X.2.2.2.2.1 _ w3) X.2.2.2.2.2.1 (jm_P hr) (jm_D hr) hS q0 q1 t0 t0 hq0 hq1 ht ht rfl h1 h2 h3 h4 h5 (fun _ _ => rfl) hf (by
    have : nativeFrameWords "java/lang/System" "arraycopy" 5 + 11 = 18 := by decide
    rw [this]; exact hlo) hd (fun H1 locs1 hP1 _ hS1 => kk H1 ls locs1 hl (jm_set hr hq1 hP1) hS1)
theorem jx_cp_len {sp dp n : Nat} {f g : List Value} (h1 : sp + n ≤ f.length) (h2 : dp + n ≤ g.length) : (jx_cp sp dp n f g).length = g.length := by
  simp only [jx_cp, List.length_append, List.length_take, List.length_drop]
  omega
theorem jx_cp_get {sp dp n : Nat} {f g : List Value} {f' g' : Nat → Int32} (h1 : sp + n ≤ f.length) (h2 : dp + n ≤ g.length) (hf : ∀ (i : Nat) (v : Value), f[i]? = some v → v = .int (f' i)) (hg : ∀ (i : Nat) (v : Value), g[i]? = some v → v = .int (g' i)) : ∀ (i : Nat) (v : Value), (jx_cp sp dp n f g)[i]? = some v → v = .int (va_cpy f' g' sp dp n i) := by
  intro i v hv
  unfold jx_cp at hv
  unfold va_cpy
  by_cases e1 : i < dp
  · rw [List.append_assoc, List.getElem?_append_left (by rw [List.length_take]; omega), List.getElem?_take_of_lt e1] at hv
    rw [if_neg (by omega)]
    exact hg i v hv
  · by_cases e2 : i < dp + n
    · rw [List.append_assoc, List.getElem?_append_right (by rw [List.length_take]; omega), List.getElem?_append_left (by simp only [List.length_take, List.length_drop]; omega)] at hv
      rw [List.length_take, List.getElem?_take_of_lt (by omega), List.getElem?_drop] at hv
      rw [if_pos (by omega)]
      have := hf _ v hv
      rw [this]
      congr 2
      omega
    · rw [List.getElem?_append_right (by simp only [List.length_append, List.length_take, List.length_drop]; omega), List.getElem?_drop] at hv
      rw [if_neg (by omega)]
      have := hg _ v hv
      rw [this]
      congr 2
      simp only [List.length_append, List.length_take, List.length_drop]
      omega
end JY
end
section
section JZ
def jz_len : MethodName := ⟨"java/lang/String", "length", "()I"⟩
abbrev jz_len_b : ByteArray := prog_21_method_54_code
theorem jz_len_ci : jm_ci jm_G jz_len (Cond.code jz_len jz_len_b 1 (some .int)) 1 0 := ⟨jm_g3 65 rfl rfl, Or.inl ⟨_, _, rfl⟩, jm_g1 19 rfl rfl, ⟨by decide, by decide⟩, by decide +kernel⟩
def jz_cod : MethodName := ⟨"java/lang/String", "coder", "()B"⟩
abbrev jz_cod_b : ByteArray := prog_21_method_152_code
theorem jz_cod_ci : jm_ci jm_G jz_cod (Cond.code jz_cod jz_cod_b 1 (some .byte)) 1 0 := ⟨jm_g3 69 rfl rfl, Or.inl ⟨_, _, rfl⟩, jm_g1 19 rfl rfl, ⟨by decide, by decide⟩, by decide +kernel⟩
def jz_chr : MethodName := ⟨"java/lang/String", "charAt", "(I)C"⟩
abbrev jz_chr_b : ByteArray := prog_21_method_56_code
theorem jz_chr_ci : jm_ci jm_G jz_chr (Cond.code jz_chr jz_chr_b 2 (some .char)) 2 1 := ⟨jm_g3 75 rfl rfl, Or.inl ⟨_, _, rfl⟩, jm_g1 19 rfl rfl, ⟨by decide, by decide⟩, by decide +kernel⟩
def jz_lat : MethodName := ⟨"java/lang/String", "isLatin1", "()Z"⟩
abbrev jz_lat_b : ByteArray := prog_21_method_154_code
theorem jz_lat_ci : jm_ci jm_G jz_lat (Cond.code jz_lat jz_lat_b 1 (some .boolean)) 1 0 := ⟨jm_g3 79 rfl rfl, Or.inl ⟨_, _, rfl⟩, jm_g1 19 rfl rfl, ⟨by decide, by decide⟩, by decide +kernel⟩
def jz_lch : MethodName := ⟨"java/lang/StringLatin1", "charAt", "([BI)C"⟩
abbrev jz_lch_b : ByteArray := prog_22_method_2_code
theorem jz_lch_ci : jm_ci jm_G jz_lch (Cond.code jz_lch jz_lch_b 2 (some .char)) 2 2 := ⟨jm_g3 82 rfl rfl, Or.inl ⟨_, _, rfl⟩, jm_g1 20 rfl rfl, ⟨by decide, by decide⟩, by decide +kernel⟩
def jz_chk : MethodName := ⟨"java/lang/String", "checkIndex", "(II)V"⟩
abbrev jz_chk_b : ByteArray := prog_21_method_155_code
theorem jz_chk_ci : jm_ci jm_G jz_chk (Cond.code jz_chk jz_chk_b 2 none) 2 2 := ⟨jm_g3 85 rfl rfl, Or.inl ⟨_, _, rfl⟩, jm_g1 19 rfl rfl, ⟨by decide, by decide⟩, by decide +kernel⟩
def jz_pre : MethodName := ⟨"jdk/internal/util/Preconditions", "checkIndex", "(IILjava/util/function/BiFunction;)I"⟩
abbrev jz_pre_b : ByteArray := prog_28_method_11_code
theorem jz_pre_ci : jm_ci jm_G jz_pre (Cond.code jz_pre jz_pre_b 3 (some .int)) 3 3 := ⟨jm_g3 90 rfl rfl, Or.inl ⟨_, _, rfl⟩, jm_g1 21 rfl rfl, ⟨by decide, by decide⟩, by decide +kernel⟩
variable {l : Launch} {S : State} {D : va_G} {dA : Nat → ClassId} {h : jm_H}
theorem jz_pre_ok (E : jm_en S D jm_cl (jm_ty dA) jm_G) {i n : Int32} {q : Nat} (h0 : ¬ i < 0) (h1 : i < n) : jm_M l S D jm_cl jz_pre (Cond.code jz_pre jz_pre_b 3 (some .int)) { frames := 0, cells := 0, slots := 0, locals := 0 } [.int i, .int n, .ref q] h (jm_R (some (.int i)) h) 0 0 := by
  refine jm_ofWF E (by decide +kernel) (Nat.le_of_ble_eq_true rfl) (fun p e s m below meth c X hr hk hmn hout hadm => ?_)
  have X : jm_cx p s m ([.int i, .int n, .ref q] : List Value).toArray c S D jm_cl (jm_ty dA) jm_G jz_pre_b 3 "jdk/internal/util/Preconditions" := X
  show jm_W p l e _ s m _ below meth c S D jm_cl _ 3 0 [(0, .int i), (1, .int n), (2, .ref q)] [] h 0 0
  refine jm_iload_n X (show decode jz_pre_b 0 = .ok (.iload_n 0, 1) by decide +kernel) rfl 0 rfl ?_
  refine jm_if_lt (tgt := 9) X (show decode jz_pre_b 1 = .ok (.ifCond .lt 8, 3) by decide +kernel) (by decide) (fun q => absurd q h0) (fun _ => ?_)
  refine jm_iload_n X (show decode jz_pre_b 4 = .ok (.iload_n 0, 1) by decide +kernel) rfl 0 rfl ?_
  refine jm_iload_n X (show decode jz_pre_b 5 = .ok (.iload_n 1, 1) by decide +kernel) rfl 1 rfl ?_
  refine jm_icmp_lt (tgt := 16) X (show decode jz_pre_b 6 = .ok (.if_icmp .lt 10, 3) by decide +kernel) (by decide) (fun _ => ?_) (fun q => absurd h1 q)
  refine jm_iload_n X (show decode jz_pre_b 16 = .ok (.iload_n 0, 1) by decide +kernel) rfl 0 rfl ?_
  exact jm_iret X hr hk (show decode jz_pre_b 17 = .ok (.ireturn, 1) by decide +kernel) ⟨rfl, rfl⟩
theorem jz_chk_ok (E : jm_en S D jm_cl (jm_ty dA) jm_G) (hz : ∃ q : Nat, va_Z "jdk/internal/util/Preconditions" "SIOOBE_FORMATTER" "Ljava/util/function/BiFunction;" (.ref q) (fun q => S.heap.size ≤ q) S S.heap) {i n : Int32} (h0 : ¬ i < 0) (h1 : i < n) : jm_M l S D jm_cl jz_chk (Cond.code jz_chk jz_chk_b 2 none) { frames := 1, cells := 0, slots := 0, locals := 22 } [.int i, .int n] h (jm_R none h) 0 0 := by
  obtain ⟨q, hz⟩ := hz
  refine jm_ofWF E (by decide +kernel) (Nat.le_of_ble_eq_true rfl) (fun p e s m below meth c X hr hk hmn hout hadm => ?_)
  have X : jm_cx p s m ([.int i, .int n] : List Value).toArray c S D jm_cl (jm_ty dA) jm_G jz_chk_b 2 "java/lang/String" := X
  show jm_W p l e _ s m _ below meth c S D jm_cl _ 2 0 [(0, .int i), (1, .int n)] [] h 0 0
  refine jm_iload_n X (show decode jz_chk_b 0 = .ok (.iload_n 0, 1) by decide +kernel) rfl 0 rfl ?_
  refine jm_iload_n X (show decode jz_chk_b 1 = .ok (.iload_n 1, 1) by decide +kernel) rfl 1 rfl ?_
  refine jm_getsK X (show decode jz_chk_b 2 = .ok (.getstatic 1053, 3) by decide +kernel) hz (jm_g3 86 rfl rfl) ?_
  refine jm_callS (rest := []) X (show decode jz_chk_b 5 = .ok (.invokestatic 1059, 3) by decide +kernel) (jz_pre_ok E h0 h1) jz_pre_ci (Or.inl (jm_g3 88 rfl rfl)) (jm_g3 89 rfl rfl) rfl (Nat.le_of_ble_eq_true rfl) ⟨Nat.le_of_ble_eq_true rfl, Nat.le_of_ble_eq_true rfl⟩ ⟨rfl, rfl⟩ ⟨Nat.le_of_ble_eq_true rfl, Nat.le_of_ble_eq_true rfl⟩ (jm_k1 ?_)
  refine jm_pop X (show decode jz_chk_b 8 = .ok (.pop, 1) by decide +kernel) rfl ?_
  exact jm_vret X hr hk (show decode jz_chk_b 9 = .ok (.return_, 1) by decide +kernel) ⟨rfl, rfl⟩
theorem jz_lt {x : Int32} (h : x &&& 255 = x) : x.toUInt32.toNat ≤ 255 := by
  have h1 : (x &&& 255).toUInt32.toNat ≤ 255 := by
    show (x.toUInt32 &&& 255).toNat ≤ 255
    rw [UInt32.toNat_and]
    exact Nat.and_le_right
  rw [h] at h1
  exact h1
theorem jz_and {x : Int32} (h : x &&& 255 = x) : ((x &&& 255).toUInt32 % 65536).toInt32 = x := by
  rw [h]
  have h1 := jz_lt h
  have h2 : x.toUInt32 % 65536 = x.toUInt32 := by
    apply UInt32.toNat_inj.mp
    rw [UInt32.toNat_mod]
    exact Nat.mod_eq_of_lt (Nat.lt_of_le_of_lt h1 (by decide))
  rw [h2]
  rfl
theorem jz_shr (z : Int32) : z >>> ((0 : Int32) &&& 31) = z := by
  have e : ((0 : Int32) &&& 31) = 0 := by decide
  rw [e]
  simp
theorem jz_cnar {x : Int32} (h : x &&& 255 = x) : narrow .char (.int x) = .int x := by
  have h1 := jz_lt h
  have h2 : x.toUInt32.toUInt16.toUInt32 = x.toUInt32 := by
    apply UInt32.toNat_inj.mp
    rw [UInt16.toNat_toUInt32, UInt32.toNat_toUInt16]
    exact Nat.mod_eq_of_lt (Nat.lt_of_le_of_lt h1 (by decide))
  show Value.int x.toUInt32.toUInt16.toUInt32.toInt32 = Value.int x
  rw [h2]
  rfl
theorem jz_lch_ok (E : jm_en S D jm_cl (jm_ty dA) jm_G) (hz : ∃ q : Nat, va_Z "jdk/internal/util/Preconditions" "SIOOBE_FORMATTER" "Ljava/util/function/BiFunction;" (.ref q) (fun q => S.heap.size ≤ q) S S.heap) {i : Int32} {b n : Nat} {xs : Nat → Int32} (hT : va_T .byte b n (fun j => .int (xs j)) (fun q => S.heap.size ≤ q) S S.heap) (hn : n < 1000) (hin : vp_in i n) (h8 : xs i.toNatClampNeg &&& 255 = xs i.toNatClampNeg) : jm_M l S D jm_cl jz_lch (Cond.code jz_lch jz_lch_b 2 (some .char)) { frames := 2, cells := 0, slots := 0, locals := 43 } [.ref b, .int i] h (jm_R (some (.int (xs i.toNatClampNeg))) h) 0 0 := by
  have h0 : ¬ i < 0 := fun q => hin (Or.inl q)
  have h1 : i < Int32.ofNat n := by
    have h2 := (vp_in_iff.mp hin).2
    rw [Int32.lt_iff_toInt_lt]
    have : (Int32.ofNat n).toInt = n := Int32.toInt_ofNat_of_lt (by omega)
    omega
  refine jm_ofWF E (by decide +kernel) (Nat.le_of_ble_eq_true rfl) (fun p e s m below meth c X hr hk hmn hout hadm => ?_)
  have X : jm_cx p s m ([.ref b, .int i] : List Value).toArray c S D jm_cl (jm_ty dA) jm_G jz_lch_b 2 "java/lang/StringLatin1" := X
  show jm_W p l e _ s m _ below meth c S D jm_cl _ 2 0 [(0, .ref b), (1, .int i)] [] h 0 0
  refine jm_iload_n X (show decode jz_lch_b 0 = .ok (.iload_n 1, 1) by decide +kernel) rfl 1 rfl ?_
  refine jm_aload_n X (show decode jz_lch_b 1 = .ok (.aload_n 0, 1) by decide +kernel) rfl 0 rfl ?_
  refine jm_alenT X (show decode jz_lch_b 2 = .ok (.arraylength, 1) by decide +kernel) hT ?_
  refine jm_callS (rest := []) X (show decode jz_lch_b 3 = .ok (.invokestatic 9, 3) by decide +kernel) (jz_chk_ok E hz h0 h1) jz_chk_ci (Or.inl (jm_g3 83 rfl rfl)) (jm_g3 84 rfl rfl) rfl (Nat.le_of_ble_eq_true rfl) ⟨Nat.le_of_ble_eq_true rfl, Nat.le_of_ble_eq_true rfl⟩ ⟨rfl, rfl⟩ ⟨Nat.le_of_ble_eq_true rfl, Nat.le_of_ble_eq_true rfl⟩ (jm_k0 ?_)
  refine jm_aload_n X (show decode jz_lch_b 6 = .ok (.aload_n 0, 1) by decide +kernel) rfl 0 rfl ?_
  refine jm_iload_n X (show decode jz_lch_b 7 = .ok (.iload_n 1, 1) by decide +kernel) rfl 1 rfl ?_
  refine jm_baldK X (show decode jz_lch_b 8 = .ok (.baload, 1) by decide +kernel) hT hin ?_
  refine jm_sipush (v := 255) X (show decode jz_lch_b 9 = .ok (.sipush 255, 3) by decide +kernel) (by decide) ?_
  refine jm_iand X (show decode jz_lch_b 12 = .ok (.iand, 1) by decide +kernel) ?_
  refine jm_i2c X (show decode jz_lch_b 13 = .ok (.i2c, 1) by decide +kernel) (jz_and h8) ?_
  exact jm_zret X hr (jz_cnar h8) hk (show decode jz_lch_b 14 = .ok (.ireturn, 1) by decide +kernel) ⟨rfl, rfl⟩
theorem jz_lat_ok (E : jm_en S D jm_cl (jm_ty dA) jm_G) (hZ : va_Z "java/lang/String" "COMPACT_STRINGS" "Z" (.int 1) (fun q => S.heap.size ≤ q) S S.heap) {b : Nat} (hc : va_OF "java/lang/String" "coder" "B" (.int 0) b (fun q => S.heap.size ≤ q) S S.heap) : jm_M l S D jm_cl jz_lat (Cond.code jz_lat jz_lat_b 1 (some .boolean)) { frames := 0, cells := 0, slots := 0, locals := 0 } [.ref b] h (jm_R (some (.int 1)) h) 0 0 := by
  refine jm_ofWF E (by decide +kernel) (Nat.le_of_ble_eq_true rfl) (fun p e s m below meth c X hr hk hmn hout hadm => ?_)
  have X : jm_cx p s m ([.ref b] : List Value).toArray c S D jm_cl (jm_ty dA) jm_G jz_lat_b 1 "java/lang/String" := X
  show jm_W p l e _ s m _ below meth c S D jm_cl _ 1 0 [(0, .ref b)] [] h 0 0
  refine jm_getsK X (show decode jz_lat_b 0 = .ok (.getstatic 38, 3) by decide +kernel) hZ (jm_g3 70 rfl rfl) ?_
  refine jm_if_eq (tgt := 17) X (show decode jz_lat_b 3 = .ok (.ifCond .eq 14, 3) by decide +kernel) (by decide) (fun q => absurd q (by decide)) (fun _ => ?_)
  refine jm_aload_n X (show decode jz_lat_b 6 = .ok (.aload_n 0, 1) by decide +kernel) rfl 0 rfl ?_
  refine jm_getfK X (show decode jz_lat_b 7 = .ok (.getfield 15, 3) by decide +kernel) hc (jm_g7 29 rfl rfl) ?_
  refine jm_if_ne (tgt := 17) X (show decode jz_lat_b 10 = .ok (.ifCond .ne 7, 3) by decide +kernel) (by decide) (fun q => absurd rfl q) (fun _ => ?_)
  refine jm_iconst (v := 1) X (show decode jz_lat_b 13 = .ok (.iconst 1, 1) by decide +kernel) (by decide) ?_
  refine jm_goto (tgt := 18) X (show decode jz_lat_b 14 = .ok (.goto 4, 3) by decide +kernel) (by decide) ?_
  exact jm_zret X hr (by decide) hk (show decode jz_lat_b 18 = .ok (.ireturn, 1) by decide +kernel) ⟨rfl, rfl⟩
theorem jz_cod_ok (E : jm_en S D jm_cl (jm_ty dA) jm_G) (hZ : va_Z "java/lang/String" "COMPACT_STRINGS" "Z" (.int 1) (fun q => S.heap.size ≤ q) S S.heap) {b : Nat} (hc : va_OF "java/lang/String" "coder" "B" (.int 0) b (fun q => S.heap.size ≤ q) S S.heap) : jm_M l S D jm_cl jz_cod (Cond.code jz_cod jz_cod_b 1 (some .byte)) { frames := 0, cells := 0, slots := 0, locals := 0 } [.ref b] h (jm_R (some (.int 0)) h) 0 0 := by
  refine jm_ofWF E (by decide +kernel) (Nat.le_of_ble_eq_true rfl) (fun p e s m below meth c X hr hk hmn hout hadm => ?_)
  have X : jm_cx p s m ([.ref b] : List Value).toArray c S D jm_cl (jm_ty dA) jm_G jz_cod_b 1 "java/lang/String" := X
  show jm_W p l e _ s m _ below meth c S D jm_cl _ 1 0 [(0, .ref b)] [] h 0 0
  refine jm_getsK X (show decode jz_cod_b 0 = .ok (.getstatic 38, 3) by decide +kernel) hZ (jm_g3 70 rfl rfl) ?_
  refine jm_if_eq (tgt := 13) X (show decode jz_cod_b 3 = .ok (.ifCond .eq 10, 3) by decide +kernel) (by decide) (fun q => absurd q (by decide)) (fun _ => ?_)
  refine jm_aload_n X (show decode jz_cod_b 6 = .ok (.aload_n 0, 1) by decide +kernel) rfl 0 rfl ?_
  refine jm_getfK X (show decode jz_cod_b 7 = .ok (.getfield 15, 3) by decide +kernel) hc (jm_g7 29 rfl rfl) ?_
  refine jm_goto (tgt := 14) X (show decode jz_cod_b 10 = .ok (.goto 4, 3) by decide +kernel) (by decide) ?_
  exact jm_zret X hr (by decide) hk (show decode jz_cod_b 14 = .ok (.ireturn, 1) by decide +kernel) ⟨rfl, rfl⟩
theorem jz_len_ok (E : jm_en S D jm_cl (jm_ty dA) jm_G) (hZ : va_Z "java/lang/String" "COMPACT_STRINGS" "Z" (.int 1) (fun q => S.heap.size ≤ q) S S.heap) {b v n : Nat} {f : Nat → Value} (hO : va_O "java/lang/String" b (fun q => S.heap.size ≤ q) S S.heap) (hc : va_OF "java/lang/String" "coder" "B" (.int 0) b (fun q => S.heap.size ≤ q) S S.heap) (hv : va_OF "java/lang/String" "value" "[B" (.ref v) b (fun q => S.heap.size ≤ q) S S.heap) (hT : va_T .byte v n f (fun q => S.heap.size ≤ q) S S.heap) : jm_M l S D jm_cl jz_len (Cond.code jz_len jz_len_b 1 (some .int)) { frames := 1, cells := 0, slots := 0, locals := 20 } [.ref b] h (jm_R (some (.int (Int32.ofNat n))) h) 0 0 := by
  refine jm_ofWF E (by decide +kernel) (Nat.le_of_ble_eq_true rfl) (fun p e s m below meth c X hr hk hmn hout hadm => ?_)
  have X : jm_cx p s m ([.ref b] : List Value).toArray c S D jm_cl (jm_ty dA) jm_G jz_len_b 1 "java/lang/String" := X
  show jm_W p l e _ s m _ below meth c S D jm_cl _ 1 0 [(0, .ref b)] [] h 0 0
  refine jm_aload_n X (show decode jz_len_b 0 = .ok (.aload_n 0, 1) by decide +kernel) rfl 0 rfl ?_
  refine jm_getfK X (show decode jz_len_b 1 = .ok (.getfield 9, 3) by decide +kernel) hv (jm_g7 28 rfl rfl) ?_
  refine jm_alenT X (show decode jz_len_b 4 = .ok (.arraylength, 1) by decide +kernel) hT ?_
  refine jm_aload_n X (show decode jz_len_b 5 = .ok (.aload_n 0, 1) by decide +kernel) rfl 0 rfl ?_
  refine jm_callVS (As := []) (rest := [.int (Int32.ofNat n)]) X (show decode jz_len_b 6 = .ok (.invokevirtual 335, 3) by decide +kernel) (jz_cod_ok E hZ hc) jz_cod_ci (Or.inl (jm_g3 66 rfl rfl)) (jm_g3 67 rfl rfl) (jm_g3 68 rfl rfl) hO rfl (Nat.le_of_ble_eq_true rfl) ⟨Nat.le_of_ble_eq_true rfl, Nat.le_of_ble_eq_true rfl⟩ ⟨rfl, rfl⟩ ⟨Nat.le_of_ble_eq_true rfl, Nat.le_of_ble_eq_true rfl⟩ (jm_k1 ?_)
  refine jm_ishr X (show decode jz_len_b 9 = .ok (.ishr, 1) by decide +kernel) ?_
  rw [jz_shr]
  exact jm_iret X hr hk (show decode jz_len_b 10 = .ok (.ireturn, 1) by decide +kernel) ⟨rfl, rfl⟩
theorem jz_chr_ok (E : jm_en S D jm_cl (jm_ty dA) jm_G) (hZ : va_Z "java/lang/String" "COMPACT_STRINGS" "Z" (.int 1) (fun q => S.heap.size ≤ q) S S.heap) (hz : ∃ q : Nat, va_Z "jdk/internal/util/Preconditions" "SIOOBE_FORMATTER" "Ljava/util/function/BiFunction;" (.ref q) (fun q => S.heap.size ≤ q) S S.heap) {i : Int32} {b v n : Nat} {xs : Nat → Int32} (hO : va_O "java/lang/String" b (fun q => S.heap.size ≤ q) S S.heap) (hc : va_OF "java/lang/String" "coder" "B" (.int 0) b (fun q => S.heap.size ≤ q) S S.heap) (hv : va_OF "java/lang/String" "value" "[B" (.ref v) b (fun q => S.heap.size ≤ q) S S.heap) (hT : va_T .byte v n (fun j => .int (xs j)) (fun q => S.heap.size ≤ q) S S.heap) (hn : n < 1000) (hin : vp_in i n) (h8 : xs i.toNatClampNeg &&& 255 = xs i.toNatClampNeg) :
    jm_M l S D jm_cl jz_chr (Cond.code jz_chr jz_chr_b 2 (some .char)) { frames := 3, cells := 0, slots := 0, locals := 64 } [.ref b, .int i] h (jm_R (some (.int (xs i.toNatClampNeg))) h) 0 0 := by
  refine jm_ofWF E (by decide +kernel) (Nat.le_of_ble_eq_true rfl) (fun p e s m below meth c X hr hk hmn hout hadm => ?_)
  have X : jm_cx p s m ([.ref b, .int i] : List Value).toArray c S D jm_cl (jm_ty dA) jm_G jz_chr_b 2 "java/lang/String" := X
  show jm_W p l e _ s m _ below meth c S D jm_cl _ 2 0 [(0, .ref b), (1, .int i)] [] h 0 0
  refine jm_aload_n X (show decode jz_chr_b 0 = .ok (.aload_n 0, 1) by decide +kernel) rfl 0 rfl ?_
  refine jm_callVS (As := []) (rest := []) X (show decode jz_chr_b 1 = .ok (.invokevirtual 492, 3) by decide +kernel) (jz_lat_ok E hZ hc) jz_lat_ci (Or.inl (jm_g3 76 rfl rfl)) (jm_g3 77 rfl rfl) (jm_g3 78 rfl rfl) hO rfl (Nat.le_of_ble_eq_true rfl) ⟨Nat.le_of_ble_eq_true rfl, Nat.le_of_ble_eq_true rfl⟩ ⟨rfl, rfl⟩ ⟨Nat.le_of_ble_eq_true rfl, Nat.le_of_ble_eq_true rfl⟩ (jm_k1 ?_)
  refine jm_if_eq (tgt := 16) X (show decode jz_chr_b 4 = .ok (.ifCond .eq 12, 3) by decide +kernel) (by decide) (fun q => absurd q (by decide)) (fun _ => ?_)
  refine jm_aload_n X (show decode jz_chr_b 7 = .ok (.aload_n 0, 1) by decide +kernel) rfl 0 rfl ?_
  refine jm_getfK X (show decode jz_chr_b 8 = .ok (.getfield 9, 3) by decide +kernel) hv (jm_g7 28 rfl rfl) ?_
  refine jm_iload_n X (show decode jz_chr_b 11 = .ok (.iload_n 1, 1) by decide +kernel) rfl 1 rfl ?_
  refine jm_callS (rest := []) X (show decode jz_chr_b 12 = .ok (.invokestatic 495, 3) by decide +kernel) (jz_lch_ok E hz hT hn hin h8) jz_lch_ci (Or.inl (jm_g3 80 rfl rfl)) (jm_g3 81 rfl rfl) rfl (Nat.le_of_ble_eq_true rfl) ⟨Nat.le_of_ble_eq_true rfl, Nat.le_of_ble_eq_true rfl⟩ ⟨rfl, rfl⟩ ⟨Nat.le_of_ble_eq_true rfl, Nat.le_of_ble_eq_true rfl⟩ (jm_k1 ?_)
  exact jm_zret X hr (jz_cnar h8) hk (show decode jz_chr_b 15 = .ok (.ireturn, 1) by decide +kernel) ⟨rfl, rfl⟩
variable {p : Program} {e : Env} {Rm : Room} {s : State} {m : MethodId} {args : Array Value} {below : List Frame} {meth : Method} {c : Code} {Q : State → Prop} {cc : ByteArray} {nL pc dc ds : Nat} {own : String} {lw : List (Nat × Value)} {rest : List Value}
theorem jy_callLen (X : jm_cx p s m args c S D jm_cl (jm_ty dA) jm_G cc nL own) {idx b v n : Nat} {xs : Nat → Int32} (hd : decode cc pc = .ok (.invokevirtual idx, 3)) (hw : Cond.methodLink own idx ⟨"java/lang/String", "length", "()I"⟩ ∈ jm_G) (hO : va_O "java/lang/String" b (fun q => S.heap.size ≤ q) S S.heap) (hc : va_OF "java/lang/String" "coder" "B" (.int 0) b (fun q => S.heap.size ≤ q) S S.heap) (hv : va_OF "java/lang/String" "value" "[B" (.ref v) b (fun q => S.heap.size ≤ q) S S.heap) (hT : va_T .byte v n (fun j => .int (xs j)) (fun q => S.heap.size ≤ q) S S.heap) (hZ : va_Z "java/lang/String" "COMPACT_STRINGS" "Z" (.int 1) (fun q => S.heap.size ≤ q) S S.heap) (_ : n < 1000) (hcat : (rest.map fun v => v.category).sum ≤ 8) (hroom : 6 ≤ Rm.frames ∧ 150 ≤ Rm.locals) (hcs : dc ≤ Rm.cells ∧ ds ≤ Rm.slots)
    (kk : jm_W p l e Rm s m args below meth c S D jm_cl Q nL (pc + 3) lw (.int (Int32.ofNat n) :: rest) h dc ds) : jm_W p l e Rm s m args below meth c S D jm_cl Q nL pc lw (.ref b :: rest) h dc ds := by
  refine jm_callVS (As := []) (rest := rest) X hd (jz_len_ok X.2.2.2.2.2.2.2 hZ hO hc hv hT) jz_len_ci (Or.inl hw) (jm_g3 63 rfl rfl) (jm_g3 64 rfl rfl) hO rfl hcat ⟨by show 1 + 1 ≤ _; omega, by show 8 + (1 + 11) + 20 ≤ _; omega⟩ ⟨rfl, rfl⟩ ⟨hcs.1, hcs.2⟩ (jm_k1 ?_)
  exact kk
theorem jy_callCh (X : jm_cx p s m args c S D jm_cl (jm_ty dA) jm_G cc nL own) {i : Int32} {idx b v n : Nat} {xs : Nat → Int32} (hd : decode cc pc = .ok (.invokevirtual idx, 3)) (hw : Cond.methodLink own idx ⟨"java/lang/String", "charAt", "(I)C"⟩ ∈ jm_G) (hO : va_O "java/lang/String" b (fun q => S.heap.size ≤ q) S S.heap) (hc : va_OF "java/lang/String" "coder" "B" (.int 0) b (fun q => S.heap.size ≤ q) S S.heap) (hv : va_OF "java/lang/String" "value" "[B" (.ref v) b (fun q => S.heap.size ≤ q) S S.heap) (hT : va_T .byte v n (fun j => .int (xs j)) (fun q => S.heap.size ≤ q) S S.heap) (hZ : va_Z "java/lang/String" "COMPACT_STRINGS" "Z" (.int 1) (fun q => S.heap.size ≤ q) S S.heap ∧ ∃ q : Nat, va_Z "jdk/internal/util/Preconditions" "SIOOBE_FORMATTER" "Ljava/util/function/BiFunction;" (.ref q) (fun q => S.heap.size ≤ q) S S.heap) (hn : n < 1000) (hin : vp_in i n) (h8 : xs i.toNatClampNeg &&& 255 = xs i.toNatClampNeg) (hcat : (rest.map fun v => v.category).sum ≤ 8) (hroom : 6 ≤ Rm.frames ∧ 150 ≤ Rm.locals) (hcs : dc ≤ Rm.cells ∧ ds ≤ Rm.slots)
    (kk : jm_W p l e Rm s m args below meth c S D jm_cl Q nL (pc + 3) lw (.int (xs i.toNatClampNeg) :: rest) h dc ds) : jm_W p l e Rm s m args below meth c S D jm_cl Q nL pc lw (.int i :: .ref b :: rest) h dc ds := by
  refine jm_callVS (As := [.int i]) (rest := rest) X hd (jz_chr_ok X.2.2.2.2.2.2.2 hZ.1 hZ.2 hO hc hv hT hn hin h8) jz_chr_ci (Or.inl hw) (jm_g3 73 rfl rfl) (jm_g3 74 rfl rfl) hO rfl hcat ⟨by show 3 + 1 ≤ _; omega, by show 8 + (2 + 11) + 64 ≤ _; omega⟩ ⟨rfl, rfl⟩ ⟨hcs.1, hcs.2⟩ (jm_k1 ?_)
  exact kk
end JZ
end
section
section JX9
variable {l : Launch} {S : State} {D : va_G} {dA : Nat → ClassId} {K : (Nat × List Value) → Nat → Prop} {R0 : List Nat} {df : List (List Value)} {P : List jx_Me}
/-- facts of a method's handlers -/
def jx_hf (own : String) (hs : List (Nat × Nat × Nat × Nat × Nat)) : Prop := (∀ q ∈ hs, q.2.2.2.1 ≠ 0 ∧ (10 ≤ q.2.2.2.2 ∧ q.2.2.2.2 < 15) ∧ ∃ (cls : String) (T0 : u_T), jm_cl[q.2.2.2.2]? = some (cls, T0, 0) ∧ Cond.classLink own q.2.2.2.1 cls ∈ jm_G) ∧ ∀ q ∈ hs, ∀ r ∈ hs, q.2.2.2.1 = r.2.2.2.1 → q.2.2.2.2 = r.2.2.2.2
def jx_mok (S : State) (dA : Nat → ClassId) (R0 : List Nat) (df : List (List Value)) (P : List jx_Me) (me : jx_Me) : Prop := plainFor me.1 = true ∧ jx_hf me.1.cls me.2.2.2.2.1 ∧ ∀ q ∈ me.2.2.2.2.2, decode me.2.1 q.1 = .ok (q.2.1, q.2.2.1) ∧ jx_lok q.2.1 q.2.2.1 = true ∧ jx_si S dA R0 df me.1.cls q.2.1 q.2.2.2.1 q.2.2.2.2 ∧ jx_sc S P me.2.1 me.1.cls q.1 q.2.1 q.2.2.2.1
/-- the body of a method, from any place -/
def jx_B (l : Launch) (S : State) (D : va_G) (dA : Nat → ClassId) (K : (Nat × List Value) → Nat → Prop) (R0 : List Nat) (df : List (List Value)) (P : List jx_Me) (n : Nat) : Prop :=
  ∀ (k : Nat) (me : jx_Me), P[k]? = some me → ∀ (fr lo pc : Nat) (lv : List (Nat × Value)) (st : List Value) (M : jx_H) (dc ds : Nat) (o : Option Value ⊕ Nat) (M' : jx_H) (mc ms : Nat), jx_run df P n me fr lo pc lv st M dc ds = some (o, M', mc, ms) →
  ∀ (p : Program) (e : Env) (s : State) (m : MethodId) (args : Array Value) (below : List Frame) (meth : Method) (c : Code), jm_cx p s m args c S D jm_cl (jm_ty dA) jm_G me.2.1 me.2.2.1 me.1.cls → meth.sig.returnType = me.2.2.2.1 → meth.locks = false → meth.name = me.1.name → jx_ex c me.2.2.2.2.1 → l.admits e →
  ∀ (Rk R : List Nat) (h : jm_H) (lw : List (Nat × Value)) (sw : List Value), R0 <+: R → Rk <+: R → jx_E dA K R M h lv st lw sw → jm_W p l e ⟨fr, mc, ms, lo⟩ s m args below meth c S D jm_cl (jm_Q S D jm_cl below s (jx_Po dA K Rk o M') mc ms) me.2.2.1 pc lw sw h dc ds
theorem jx_Aof (E0 : jm_en S D jm_cl (jm_ty dA) jm_G) (hP : ∀ (k : Nat) (me : jx_Me), P[k]? = some me → jx_mok S dA R0 df P me) {n : Nat} (hB : jx_B l S D dA K R0 df P n) {k : Nat} {me : jx_Me} (hk : P[k]? = some me) {fr lo : Nat} {As : List Value} {M : jx_H} {o : Option Value ⊕ Nat} {M' : jx_H} {mc ms : Nat} (hs : jx_run df P n me fr lo 0 (lv_args 0 As) [] M 0 0 = some (o, M', mc, ms)) (hL : (lg_sl As).length ≤ me.2.2.1)
    {R : List Nat} {h : jm_H} {Bs : List Value} (hR0 : R0 <+: R) (E1 : jx_re dA K R M h) (hA : jx_vs R As Bs) : jm_M l S D jm_cl me.1 (jx_wc me) ⟨fr, mc, ms, lo⟩ Bs h (jx_Po dA K R o M') mc ms := by
  have hL' : (lg_sl Bs).length ≤ me.2.2.1 := by rw [jx_vs_sl hA]; exact hL
  have hpl := (hP k me hk).1
  have hB2 := hB k me hk fr lo 0 (lv_args 0 As) [] M 0 0 o M' mc ms hs
  unfold jx_wc
  split
  next e0 =>
    refine jm_ofWF E0 hpl hL' (fun p e s m below meth c X hret hlk hnm hex hadm => ?_)
    exact hB2 p e s m _ below meth c X hret hlk hnm (by rw [e0]; exact jx_nil_ex hex) hadm R R h _ _ hR0 List.prefix_rfl ⟨E1, jx_lv_args 0 hA, trivial⟩
  next q hs0 e0 =>
    refine jm_ofWH E0 hpl hL' (fun p e s m below meth c X hret hlk hnm hex hadm => ?_)
    exact hB2 p e s m _ below meth c X hret hlk hnm (by rw [e0]; exact hex) hadm R R h _ _ hR0 List.prefix_rfl ⟨E1, jx_lv_args 0 hA, trivial⟩
theorem jx_prim {p : Program} {e : Env} {Rm : Room} {s : State} {m : MethodId} {args : Array Value} {below : List Frame} {meth : Method} {c : Code} {Q : State → Prop} {cc : ByteArray} {nL pc dc ds : Nat} {own : String} {R : List Nat} {M M1 : jx_H} {h : jm_H} {lv lw : List (Nat × Value)} {st sw : List Value}
    (X : jm_cx p s m args c S D jm_cl (jm_ty dA) jm_G cc nL own) (hKK : jx_KK S K) {i : Instr} {len k : Nat} {x : List Nat} {va : Value} {As r : List Value} {v : Option Value} {ret : Option FieldType} {ini : Bool} (hd : decode cc pc = .ok (i, len)) (hl : jx_lok i len = true) (hsc : jx_sc S P cc own pc i x) (E : jx_E dA K R M h lv st lw sw) (hs : jx_step df nL ret ini i x va pc lv st M dc ds = some (.inr (.inl (k, As, r)))) (h9 : 9000 ≤ k) (hpr : jx_pr k As M = some (v, M1)) (hroom : 6 ≤ Rm.frames ∧ 150 ≤ Rm.locals) (hcs : dc ≤ Rm.cells ∧ ds ≤ Rm.slots)
    (kk : ∀ (h1 : jm_H) (sw1 : List Value), jx_E dA K R M1 h1 lv (v.toList ++ r) lw sw1 → jm_W p l e Rm s m args below meth c S D jm_cl Q nL (pc + 3) lw sw1 h1 dc ds) : jm_W p l e Rm s m args below meth c S D jm_cl Q nL pc lw sw h dc ds := by
  obtain ⟨E1, E2, E3⟩ := E
  cases i with
  | invokespecial idx =>
    have hl : len = 3 := by simpa [jx_lok, jx_len] using hl
    subst hl
    obtain ⟨k2, n, rfl, -, hsc⟩ := hsc
    have hs : jx_ci [k2, n] st = some (.inr (.inl (k, As, r))) := hs
    unfold jx_ci at hs
    dsimp only at hs
    split at hs
    next b r2 hdr =>
      split at hs
      next hcat =>
        cases hs
        obtain ⟨rfl, rfl, w1, w2, w3⟩ := hsc h9
        have hst : st = .ref b :: r := hdr
        subst hst
        cases hpr
        obtain ⟨b1, r1, hb, rfl, E4⟩ := jx_vs_ref E3
        have hc2 := jx_vs_cat E4
        exact jm_oinit X hd w1 w2 w3 (by omega) (by rw [hc2]; omega) (kk h r1 ⟨E1, E2, E4⟩)
      next => cases hs
    next => cases hs
  | invokestatic idx =>
    have hl : len = 3 := by simpa [jx_lok, jx_len] using hl
    subst hl
    obtain ⟨k2, n, rfl, -, hsc⟩ := hsc
    have hs : jx_cs [k2, n] st = some (.inr (.inl (k, As, r))) := hs
    unfold jx_cs at hs
    dsimp only at hs
    split at hs
    next hcat =>
      cases hs
      obtain ⟨rfl, rfl, w1, w2, w3, w4⟩ := hsc h9
      unfold jx_pr at hpr
      split at hpr
      next => omega
      next => omega
      next => omega
      next a sp b dp n hk9 hAs =>
        have hst : st = .int n :: .int dp :: .ref b :: .int sp :: .ref a :: st.drop 5 := by
          have h1 := List.take_append_drop 5 st
          have h2 := congrArg List.reverse hAs
          rw [List.reverse_reverse] at h2
          rw [h2] at h1
          exact h1.symm
        have hcat2 := hcat.2
        generalize st.drop 5 = r at hst hcat2 kk
        subst hst
        split at hpr
        next f g hMa hMb =>
          split at hpr
          next hcond =>
            cases hpr
            obtain ⟨c1, c2, c3, c4, c5⟩ := hcond
            obtain ⟨s1, rfl, F1⟩ := jx_vs_int E3
            obtain ⟨s2, rfl, F2⟩ := jx_vs_int F1
            obtain ⟨b1, s3, hb1, rfl, F3⟩ := jx_vs_ref F2
            obtain ⟨s4, rfl, F4⟩ := jx_vs_int F3
            obtain ⟨a1, s5, ha1, rfl, F5⟩ := jx_vs_ref F4
            have key : ∀ (a a1 : Nat) (f : List Value), M[a]? = some (102, f) → R[a]? = some a1 → ∃ f' : Nat → Int32, h a1 = some (.inl (dA 2, f.length, .inl f')) ∧ ∀ (i : Nat) (v : Value), f[i]? = some v → v = .int (f' i) := fun a a1 f g1 g2 => by
              rcases E1.2.1 a _ a1 g1 g2 with ⟨q, -⟩ | ⟨-, -, x, g3, g4⟩ | ⟨q, -⟩
              · exact absurd (show (102 : Nat) < 100 from q) (by decide)
              · rcases g4 with ⟨-, f', rfl, g5⟩ | ⟨q, -⟩ | ⟨q, -⟩
                · exact ⟨f', g3, g5⟩
                · exact absurd (show (102 - 100 : Nat) = 3 from q) (by decide)
                · exact absurd (show 4 ≤ (102 - 100 : Nat) from q) (by decide)
              · exact absurd (show 200 ≤ (102 : Nat) from q) (by decide)
            obtain ⟨f', hf1, hf2⟩ := key a a1 f hMa ha1
            obtain ⟨g', hg1, hg2⟩ := key b b1 g hMb hb1
            have hc2 := jx_vs_cat F5
            refine jm_copy (t0 := 2) X hd w1 w2 w3 w4 rfl hf1 hg1 c1 c2 c3 c4 c5 (by omega) (by rw [hc2]; omega) (kk _ s5 ⟨jx_re_set E1 hMb hb1 (show 102 < 200 by decide) rfl (Or.inr (Or.inl ⟨show 100 ≤ 102 by decide, show 102 < 200 by decide, _, jm_up_eq _ _ _, Or.inl ⟨show 102 - 100 < 3 by decide, _, ?_, jx_cp_get c4 c5 hf2 hg2⟩⟩)), E2, F5⟩)
            rw [jx_cp_len c4 c5]
          next => cases hpr
        next => cases hpr
      next => cases hpr
    next => cases hs
  | invokevirtual idx =>
    have hl : len = 3 := by simpa [jx_lok, jx_len] using hl
    subst hl
    obtain ⟨k2, n, ci, rfl, -, hsc⟩ := hsc
    have hs : jx_cv M [k2, n, ci] st = some (.inr (.inl (k, As, r))) := hs
    unfold jx_cv at hs
    dsimp only at hs
    split at hs
    next b r2 hdr =>
      split at hs
      next cj L0 hMb0 =>
        split at hs
        next hcat =>
          cases hs
          have hcat2 := hcat.2
          obtain ⟨hci, hsd⟩ := hsc h9
          subst hci
          have key : ∀ (b1 : Nat) (L : List Value), M[b]? = some (300, L) → R[b]? = some b1 → K (300, L) b1 := fun b1 L g1 g2 => by
            rcases E1.2.1 b _ b1 g1 g2 with ⟨q, -⟩ | ⟨-, q, -⟩ | ⟨-, q⟩
            · exact absurd (show (300 : Nat) < 100 from q) (by decide)
            · exact absurd (show (300 : Nat) < 200 from q) (by decide)
            · exact q
          rcases hsd with ⟨rfl, rfl, hw⟩ | ⟨rfl, rfl, hw⟩
          · have hst : st = .ref b :: r := hdr
            subst hst
            obtain ⟨b1, r1, hb, rfl, E4⟩ := jx_vs_ref E3
            have hpr : (match M[b]? with | some (300, L) => some (some (Value.int (Int32.ofNat L.length)), M) | _ => none) = some (v, M1) := hpr
            split at hpr
            next L hMb =>
              cases hpr
              have hc2 := jx_vs_cat E4
              obtain ⟨k1, k2, vv, xs, k3, k4, k5, k6⟩ := hKK.2.1 L b1 (key b1 L hMb hb)
              exact jy_callLen X hd hw k1 k2 k3 k4 hKK.2.2.1 k5 (by rw [hc2]; exact hcat2) hroom hcs (kk h _ ⟨E1, E2, rfl, E4⟩)
            next => cases hpr
          · have hl2 : ∃ y, st = y :: .ref b :: r := by
              cases st with
              | nil => cases hdr
              | cons y st => exact ⟨y, by rw [show st = Value.ref b :: r from hdr]⟩
            obtain ⟨y, rfl⟩ := hl2
            obtain ⟨y1, t1, rfl, hy, E4⟩ := jx_vs_cons E3
            obtain ⟨b1, r1, hb, rfl, E5⟩ := jx_vs_ref E4
            cases y with
            | int i =>
              cases hy
              have hpr2 : (match M[b]? with | some (300, L) => (if i < 0 then none else (match L[i.toNatClampNeg]? with | some (Value.int v) => some (some (Value.int v), M) | _ => none)) | _ => none) = some (v, M1) := hpr
              split at hpr2
              next L hMb =>
                split at hpr2
                next => cases hpr2
                next hi =>
                  split at hpr2
                  next w hw2 =>
                    cases hpr2
                    have hc2 := jx_vs_cat E5
                    obtain ⟨k1, k2, vv, xs, k3, k4, k5, k6⟩ := hKK.2.1 L b1 (key b1 L hMb hb)
                    obtain ⟨k7, k8⟩ := k6 _ _ hw2
                    exact jy_callCh X hd hw k1 k2 k3 k4 hKK.2.2 k5 (jx_in' hi hw2) k8 (by rw [hc2]; exact hcat2) hroom hcs (kk h _ ⟨E1, E2, k7.symm, E5⟩)
                  next => cases hpr2
              next => cases hpr2
            | _ => cases hpr
        next => cases hs
      next => cases hs
    next => cases hs
  | iaload =>
    exfalso
    rcases jx_or_ok hs with hs | hs <;> simp only [jx_ald] at hs <;> (repeat' split at hs) <;> cases hs
  | aastore =>
    exfalso
    rcases jx_or_ok hs with hs | hs <;> simp only [jx_aas, jx_aat] at hs <;> (repeat' split at hs) <;> cases hs
  | _ =>
    exfalso
    simp only [jx_step, jx_k, jx_ii, jx_ll, jx_iz, jx_lz, jx_li, jx_lc, jx_i1, jx_l1, jx_or, jx_ald, jx_aas, jx_aat, jx_gf, jx_pf, jx_ast, jx_al, jx_nw, jx_na, jx_mu, jx_ri, jx_rl, jx_ra, jx_rv, jx_ld, jx_sr, jx_sr2, jx_inc, jx_du, jx_po, jx_d2, jx_ts, jx_lus, jx_bz, jx_bc, jx_to, reduceCtorEq] at hs <;> (repeat' split at hs) <;> cases hs
def jx_cst (S : State) (D : va_G) : Prop := ∀ ci cj : Nat, 10 ≤ ci ∧ ci < 15 → 10 ≤ cj ∧ cj < 15 → S.vm.assignable (D.1 ci) (D.1 cj) = decide (ci = cj)
theorem jx_hd_find {pc ci t : Nat} (A : ExceptionTableEntry → Bool) {hs0 : List (Nat × Nat × Nat × Nat × Nat)} (HA : ∀ (y : ExceptionTableEntry) (q : Nat × Nat × Nat × Nat × Nat), q ∈ hs0 → (y.startPc, y.endPc, y.handlerPc, y.catchType) = (q.1, q.2.1, q.2.2.1, q.2.2.2.1) → A y = decide (q.2.2.2.2 = ci)) :
    ∀ (hs : List (Nat × Nat × Nat × Nat × Nat)) (L : List ExceptionTableEntry), (∀ q ∈ hs, q ∈ hs0) → L.map (fun h => (h.startPc, h.endPc, h.handlerPc, h.catchType)) = hs.map (fun q => (q.1, q.2.1, q.2.2.1, q.2.2.2.1)) → jx_hd pc ci hs = some t → ∃ y, L.find? (fun y => covers y pc && A y) = some y ∧ y.handlerPc = t := by
  intro hs
  induction hs with
  | nil => intro L _ _ hh; cases hh
  | cons q hs ih =>
    intro L hsub hm hh
    cases L with
    | nil => simp at hm
    | cons y L =>
      simp only [List.map_cons, List.cons.injEq] at hm
      have hA := HA y q (hsub q List.mem_cons_self) hm.1
      have e1 : y.startPc = q.1 := congrArg (·.1) hm.1
      have e2 : y.endPc = q.2.1 := congrArg (·.2.1) hm.1
      have e3 : y.handlerPc = q.2.2.1 := congrArg (·.2.2.1) hm.1
      rw [List.find?_cons]
      unfold jx_hd at hh
      split at hh
      next hc =>
        cases hh
        have : (covers y pc && A y) = true := by simp [covers, e1, e2, hA, hc]
        rw [this]
        exact ⟨y, rfl, e3⟩
      next hc =>
        have : (covers y pc && A y) = false := by
          simp only [covers, e1, e2, hA]
          cases hcc : (decide (q.1 ≤ pc) && decide (pc < q.2.1) && decide (q.2.2.2.2 = ci)) with
          | false => rfl
          | true =>
            simp only [Bool.and_eq_true, decide_eq_true_eq] at hcc
            exact absurd ⟨hcc.1.1, hcc.1.2, hcc.2⟩ hc
        rw [this]
        exact ih L (fun r hr => hsub r (List.mem_cons_of_mem _ hr)) hm.2 hh
theorem jx_hd_mem {pc ci t : Nat} : ∀ {hs : List (Nat × Nat × Nat × Nat × Nat)}, jx_hd pc ci hs = some t → ∃ q ∈ hs, q.2.2.2.2 = ci
  | [], h => by cases h
  | q :: hs, h => by
    unfold jx_hd at h
    split at h
    next hc => exact ⟨q, List.mem_cons_self, hc.2.2⟩
    next =>
      obtain ⟨r, hr, e⟩ := jx_hd_mem h
      exact ⟨r, List.mem_cons_of_mem _ hr, e⟩
theorem jx_catch {p : Program} {e : Env} {Rm : Room} {s : State} {m : MethodId} {args : Array Value} {below : List Frame} {meth : Method} {c : Code} {Q : State → Prop} {cc : ByteArray} {nL pc dc ds : Nat} {own : String} {R : List Nat} {M : jx_H} {h : jm_H} {lw : List (Nat × Value)} {rest : List Value}
    (X : jm_cx p s m args c S D jm_cl (jm_ty dA) jm_G cc nL own) (hcst : jx_cst S D) {hs : List (Nat × Nat × Nat × Nat × Nat)} (hf : jx_hf own hs) (hex : jx_ex c hs) {a b ci t : Nat} {fs : List Value} (E : jx_re dA K R M h) (ha : M[a]? = some (ci, fs)) (hb : R[a]? = some b) (hh : jx_hd pc ci hs = some t)
    (kk : jm_W p l e Rm s m args below meth c S D jm_cl Q nL t lw [.ref b] h dc ds) : jm_X p l e Rm s m args below meth c S D jm_cl Q nL pc lw rest h b dc ds := by
  obtain ⟨q0, hq0, hci⟩ := jx_hd_mem hh
  obtain ⟨-, hlt, cls, T0, hcl, -⟩ := hf.1 q0 hq0
  rw [hci] at hlt hcl
  have hbo : ∃ fw, h b = some (.inr (ci, fw)) := by
    rcases E.2.1 a _ b ha hb with ⟨-, fw, g1, -⟩ | ⟨g1, -⟩ | ⟨g1, -⟩
    · exact ⟨fw, g1⟩
    · have g1 : 100 ≤ ci := g1
      omega
    · have g1 : 200 ≤ ci := g1
      omega
  obtain ⟨fw, hbo⟩ := hbo
  have HA : ∀ (y : ExceptionTableEntry) (q : Nat × Nat × Nat × Nat × Nat), q ∈ hs → (y.startPc, y.endPc, y.handlerPc, y.catchType) = (q.1, q.2.1, q.2.2.1, q.2.2.2.1) → hs.any (fun r => r.2.2.2.1 == y.catchType && r.2.2.2.2 == ci) = decide (q.2.2.2.2 = ci) := fun y q hq hy => by
    have e4 : y.catchType = q.2.2.2.1 := congrArg (·.2.2.2) hy
    rw [Bool.eq_iff_iff, List.any_eq_true]
    constructor
    · rintro ⟨r, hr, hr2⟩
      simp only [Bool.and_eq_true, beq_iff_eq] at hr2
      have := hf.2 q hq r hr (by rw [hr2.1, e4])
      simp [this, hr2.2]
    · intro hd
      have hd : q.2.2.2.2 = ci := by simpa using hd
      exact ⟨q, hq, by simp [e4, hd]⟩
  obtain ⟨y, hy, hyt⟩ := jx_hd_find (pc := pc) (ci := ci) (t := t) (fun y => hs.any (fun r => r.2.2.2.1 == y.catchType && r.2.2.2.2 == ci)) HA hs c.exceptionTable.toList (fun _ h => h) hex hh
  refine jm_catch X hcl hbo _ (fun y hy => ?_) hy (by rw [hyt]; exact kk)
  obtain ⟨j, hj⟩ := List.getElem?_of_mem hy
  have hj2 := congrArg (fun z => z[j]?) hex
  simp only [List.getElem?_map, hj, Option.map_some] at hj2
  obtain ⟨q, hq, hqe⟩ := Option.map_eq_some_iff.mp hj2.symm
  have hqm := List.mem_of_getElem? hq
  obtain ⟨k0, klt, cls2, T2, hcl2, hw⟩ := hf.1 q hqm
  have e4 : q.2.2.2.1 = y.catchType := congrArg (·.2.2.2) hqe
  refine ⟨by rw [← e4]; exact k0, cls2, by rw [← e4]; exact hw, D.1 q.2.2.2.2, (X.2.2.2.2.2.2.2.2.2.1 _ _ hcl2).2.1, ?_⟩
  rw [hcst ci q.2.2.2.2 hlt klt, HA y q hqm hqe.symm]
  simp [eq_comm]
theorem jx_ret {p : Program} {e : Env} {Rm : Room} {s : State} {m : MethodId} {args : Array Value} {below : List Frame} {meth : Method} {c : Code} {cc : ByteArray} {nL pc dc ds : Nat} {own : String} {R Rk : List Nat} {M : jx_H} {h : jm_H} {lv lw : List (Nat × Value)} {st sw : List Value}
    (X : jm_cx p s m args c S D jm_cl (jm_ty dA) jm_G cc nL own) {i : Instr} {len : Nat} {x : List Nat} {va : Value} {v : Option Value} {ret : Option FieldType} {ini : Bool} (hd : decode cc pc = .ok (i, len)) (hl : jx_lok i len = true) (hret : meth.sig.returnType = ret) (hlk : meth.locks = false) (hRk : Rk <+: R) (E : jx_E dA K R M h lv st lw sw) (hs : jx_step df nL ret ini i x va pc lv st M dc ds = some (.inr (.inr (.inl v)))) :
    jm_W p l e Rm s m args below meth c S D jm_cl (jm_Q S D jm_cl below s (jx_Po dA K Rk (.inl v) M) dc ds) nL pc lw sw h dc ds := by
  obtain ⟨E1, E2, E3⟩ := E
  cases i with
  | ireturn =>
    have hl : len = 1 := by simpa [jx_lok, jx_len] using hl
    subst hl
    have hs : jx_ri ret st = some (.inr (.inr (.inl v))) := hs
    unfold jx_ri at hs
    split at hs
    next ty w =>
      split at hs
      next hn =>
        cases hs
        obtain ⟨w1, rfl, E4⟩ := jx_vs_int E3
        cases jx_vs_nil E4
        exact jm_zret X hret hn hlk hd ⟨R, hRk, E1, _, rfl, rfl⟩
      next => cases hs
    next => cases hs
  | lreturn =>
    have hl : len = 1 := by simpa [jx_lok, jx_len] using hl
    subst hl
    have hs : jx_rl ret st = some (.inr (.inr (.inl v))) := hs
    unfold jx_rl at hs
    split at hs
    next w =>
      cases hs
      obtain ⟨w1, rfl, E4⟩ := jx_vs_long E3
      cases jx_vs_nil E4
      exact jm_lret X hret hlk hd ⟨R, hRk, E1, _, rfl, rfl⟩
    next => cases hs
  | areturn =>
    have hl : len = 1 := by simpa [jx_lok, jx_len] using hl
    subst hl
    have hs : jx_ra ret st = some (.inr (.inr (.inl v))) := hs
    unfold jx_ra at hs
    split at hs
    next C a =>
      cases hs
      obtain ⟨b, w1, hb, rfl, E4⟩ := jx_vs_ref E3
      cases jx_vs_nil E4
      exact jm_aret X hret (Or.inl ⟨_, rfl⟩) (Or.inr ⟨_, rfl⟩) hlk hd ⟨R, hRk, E1, _, rfl, b, hb, rfl⟩
    next C a =>
      cases hs
      obtain ⟨b, w1, hb, rfl, E4⟩ := jx_vs_ref E3
      cases jx_vs_nil E4
      exact jm_aret X hret (Or.inr ⟨_, rfl⟩) (Or.inr ⟨_, rfl⟩) hlk hd ⟨R, hRk, E1, _, rfl, b, hb, rfl⟩
    next => cases hs
  | return_ =>
    have hl : len = 1 := by simpa [jx_lok, jx_len] using hl
    subst hl
    have hs : jx_rv ret st = some (.inr (.inr (.inl v))) := hs
    unfold jx_rv at hs
    split at hs
    next =>
      cases hs
      cases jx_vs_nil E3
      exact jm_vret X hret hlk hd ⟨R, hRk, E1, rfl⟩
    next => cases hs
  | iaload =>
    exfalso
    rcases jx_or_ok hs with hs | hs <;> simp only [jx_ald] at hs <;> (repeat' split at hs) <;> cases hs
  | aastore =>
    exfalso
    rcases jx_or_ok hs with hs | hs <;> simp only [jx_aas, jx_aat] at hs <;> (repeat' split at hs) <;> cases hs
  | _ =>
    exfalso
    simp only [jx_step, jx_k, jx_ii, jx_ll, jx_iz, jx_lz, jx_li, jx_lc, jx_i1, jx_l1, jx_or, jx_ald, jx_aas, jx_aat, jx_gf, jx_pf, jx_ast, jx_al, jx_nw, jx_na, jx_mu, jx_cs, jx_cv, jx_ci, jx_ld, jx_sr, jx_sr2, jx_inc, jx_du, jx_po, jx_d2, jx_ts, jx_lus, jx_bz, jx_bc, jx_to, reduceCtorEq] at hs <;> (repeat' split at hs) <;> cases hs
theorem jx_thr {p : Program} {e : Env} {Rm : Room} {s : State} {m : MethodId} {args : Array Value} {below : List Frame} {meth : Method} {c : Code} {cc : ByteArray} {nL pc dc ds : Nat} {own : String} {R Rk : List Nat} {M : jx_H} {h : jm_H} {lv lw : List (Nat × Value)} {st sw : List Value}
    (X : jm_cx p s m args c S D jm_cl (jm_ty dA) jm_G cc nL own) (hst : l.stackTraces = false) (hdf : df.length = 10) {i : Instr} {len ci : Nat} {x : List Nat} {va : Value} {ret : Option FieldType} {ini : Bool} (hd : decode cc pc = .ok (i, len)) (hl : jx_lok i len = true) (hsc : jx_sc S P cc own pc i x) (hlk : meth.locks = false) (hex : c.exceptionTable.isEmpty = true) (hRk : Rk <+: R) (E : jx_E dA K R M h lv st lw sw) (hs : jx_step df nL ret ini i x va pc lv st M dc ds = some (.inr (.inr (.inr ci)))) (hroom : 5 < Rm.frames ∧ jx_cat st + 81 ≤ Rm.locals ∧ dc + 1 ≤ Rm.cells ∧ ds + 6 ≤ Rm.slots) :
    jm_W p l e Rm s m args below meth c S D jm_cl (jm_Q S D jm_cl below s (jx_Po dA K Rk (.inr M.length) (M ++ [(ci, [])])) (dc + 1) (ds + 6)) nL pc lw sw h dc ds := by
  obtain ⟨E1, E2, E3⟩ := E
  cases i with
  | new idx =>
    have hl : len = 3 := by simpa [jx_lok, jx_len] using hl
    subst hl
    obtain ⟨cj, rfl, hsc⟩ := hsc
    have hs : jx_nw pc lv M dc ds df [cj] st = some (.inr (.inr (.inr ci))) := hs
    simp only [jx_nw] at hs
    split at hs
    next => cases hs
    next hn =>
      split at hs
      next hlt =>
        cases hs
        have h10 : 10 ≤ ci := by
          have := List.getElem?_eq_none_iff.mp hn
          omega
        obtain ⟨cls, T0, ic, hcl, hfit, d3, d4, d7, w1, w2, w3, hat⟩ := hsc h10
        refine jm_throw X hst (names := ["java/lang/RuntimeException", "java/lang/Exception"]) hfit (by decide +kernel) hd d3 d4 d7 w1 w2 w3 hat hcl hex hlk (by show 2 + 3 < Rm.frames; omega) (by
          have := jx_vs_cat E3
          rw [List.map_cons, List.sum_cons, this]
          show 1 + jx_cat st + (13 * (2 + 1) + 41) ≤ Rm.locals
          omega) hroom.2.2.1 hroom.2.2.2 (fun q hq _ => ?_)
        refine ⟨R ++ [q], hRk.trans ⟨[q], rfl⟩, jx_re_new E1 hq (Or.inl ⟨show ci < 100 by omega, [], jm_up_eq _ _ _, trivial⟩), q, ?_, rfl⟩
        rw [← E1.1]
        simp
      next => cases hs
  | iaload =>
    exfalso
    rcases jx_or_ok hs with hs | hs <;> simp only [jx_ald] at hs <;> (repeat' split at hs) <;> cases hs
  | aastore =>
    exfalso
    rcases jx_or_ok hs with hs | hs <;> simp only [jx_aas, jx_aat] at hs <;> (repeat' split at hs) <;> cases hs
  | _ =>
    exfalso
    simp only [jx_step, jx_k, jx_ii, jx_ll, jx_iz, jx_lz, jx_li, jx_lc, jx_i1, jx_l1, jx_or, jx_ald, jx_aas, jx_aat, jx_gf, jx_pf, jx_ast, jx_al, jx_nw, jx_na, jx_mu, jx_cs, jx_cv, jx_ci, jx_ri, jx_rl, jx_ra, jx_rv, jx_ld, jx_sr, jx_sr2, jx_inc, jx_du, jx_po, jx_d2, jx_ts, jx_lus, jx_bz, jx_bc, jx_to, reduceCtorEq] at hs <;> (repeat' split at hs) <;> cases hs
end JX9
end
section
section JXA
variable {l : Launch} {S : State} {D : va_G} {dA : Nat → ClassId} {K : (Nat × List Value) → Nat → Prop} {R0 : List Nat} {df : List (List Value)} {P : List jx_Me}
theorem jx_cll {p : Program} {e : Env} {Rm : Room} {s : State} {m : MethodId} {args : Array Value} {below : List Frame} {meth : Method} {c : Code} {Q : State → Prop} {cc : ByteArray} {nL pc dc ds : Nat} {own : String} {R : List Nat} {M : jx_H} {h : jm_H} {lv lw : List (Nat × Value)} {st sw : List Value}
    (X : jm_cx p s m args c S D jm_cl (jm_ty dA) jm_G cc nL own) {i : Instr} {len k : Nat} {x : List Nat} {va : Value} {As r : List Value} {ret : Option FieldType} {ini : Bool} (hd : decode cc pc = .ok (i, len)) (hl : jx_lok i len = true) (hsc : jx_sc S P cc own pc i x) (E : jx_E dA K R M h lv st lw sw) (hs : jx_step df nL ret ini i x va pc lv st M dc ds = some (.inr (.inl (k, As, r)))) (h9 : k < 9000)
    {m2 : jx_Me} (hP2 : P[k]? = some m2) {rm : Room} {Po : Outcome → jm_H → Prop} {mc1 ms1 : Nat} (hM : ∀ Bs, jx_vs R As Bs → jm_M l S D jm_cl m2.1 (jx_wc m2) rm Bs h Po mc1 ms1) (hR : rm.frames + 1 ≤ Rm.frames ∧ 8 + (m2.2.2.1 + 11) + rm.locals ≤ Rm.locals) (hrm : rm.cells = mc1 ∧ rm.slots = ms1) (hcs : dc + mc1 ≤ Rm.cells ∧ ds + ms1 ≤ Rm.slots)
    (kk : ∀ (o : Outcome) (h1 : jm_H) (rw : List Value), jx_vs R r rw → Po o h1 → jm_K p l e Rm s m args below meth c S D jm_cl Q nL pc lw rw h1 (dc + mc1) (ds + ms1) o) : jm_W p l e Rm s m args below meth c S D jm_cl Q nL pc lw sw h dc ds := by
  obtain ⟨E1, E2, E3⟩ := E
  cases i with
  | invokestatic idx =>
    have hl : len = 3 := by simpa [jx_lok, jx_len] using hl
    subst hl
    obtain ⟨k0, n, rfl, hsc, -⟩ := hsc
    have hs : jx_cs [k0, n] st = some (.inr (.inl (k, As, r))) := hs
    simp only [jx_cs] at hs
    split at hs
    next e =>
      cases hs
      obtain ⟨me, hme, hci, hlk, hst⟩ := hsc h9
      cases hme.symm.trans hP2
      have h1 := jx_vs_rev (jx_vs_take n E3)
      have h2 := jx_vs_drop n E3
      have hlen : (sw.take n).reverse.length = n := by
        rw [List.length_reverse, List.length_take, jx_vs_len E3]
        omega
      exact jm_callS X hd (hM _ h1) (by rw [hlen]; exact hci) hlk hst (rest := sw.drop n) (by rw [List.reverse_reverse, List.take_append_drop]) (by rw [jx_vs_cat h2]; exact e.2) hR hrm hcs (fun o h3 hPo => kk o h3 _ h2 hPo)
    next => cases hs
  | invokevirtual idx =>
    have hl : len = 3 := by simpa [jx_lok, jx_len] using hl
    subst hl
    obtain ⟨k0, n, ci, rfl, hsc, -⟩ := hsc
    have hs : jx_cv M [k0, n, ci] st = some (.inr (.inl (k, As, r))) := hs
    simp only [jx_cv] at hs
    split at hs
    next b r2 hdr =>
      split at hs
      next cj fs hMb =>
        split at hs
        next e =>
          cases hs
          obtain ⟨hci9, me, T0, N, hme, hci, hlk, him, hse, hcl⟩ := hsc h9
          cases hme.symm.trans hP2
          obtain ⟨rfl, hcat⟩ := e
          have h1 := jx_vs_rev (jx_vs_take n E3)
          have h2 := jx_vs_drop n E3
          rw [hdr] at h2
          obtain ⟨b', rw', hb, hdw, h3⟩ := jx_vs_ref h2
          have hn : n ≤ st.length := by
            have : (st.drop n).length = (Value.ref b :: r).length := by rw [hdr]
            simp at this
            omega
          have hlen : (sw.take n).reverse.length = n := by
            rw [List.length_reverse, List.length_take, jx_vs_len E3]
            omega
          rcases E1.2.1 b _ b' hMb hb with ⟨-, fw, g1, g2⟩ | ⟨g1, -⟩ | ⟨g1, -⟩
          · exact jm_callV X hd (hM _ ⟨⟨b', hb, rfl⟩, h1⟩) (by rw [hlen]; exact hci) hlk him hse g1 hcl (rest := rw') (by rw [List.reverse_reverse, ← hdw, List.take_append_drop]) (by rw [jx_vs_cat h3]; exact hcat) hR hrm hcs (fun o h4 hPo => kk o h4 _ h3 hPo)
          · have g1 : 100 ≤ cj := g1
            omega
          · have g1 : 200 ≤ cj := g1
            omega
        next => cases hs
      next => cases hs
    next => cases hs
  | invokespecial idx =>
    have hl : len = 3 := by simpa [jx_lok, jx_len] using hl
    subst hl
    obtain ⟨k0, n, rfl, hsc, -⟩ := hsc
    have hs : jx_ci [k0, n] st = some (.inr (.inl (k, As, r))) := hs
    simp only [jx_ci] at hs
    split at hs
    next b r2 hdr =>
      split at hs
      next e =>
        cases hs
        obtain ⟨me, hme, hci, hlk, him, hnm, hr0, hh0⟩ := hsc h9
        cases hme.symm.trans hP2
        have h1 := jx_vs_rev (jx_vs_take n E3)
        have h2 := jx_vs_drop n E3
        rw [hdr] at h2
        obtain ⟨b', rw', hb, hdw, h3⟩ := jx_vs_ref h2
        have hn : n ≤ st.length := by
          have : (st.drop n).length = (Value.ref b :: r).length := by rw [hdr]
          simp at this
          omega
        have hlen : (sw.take n).reverse.length = n := by
          rw [List.length_reverse, List.length_take, jx_vs_len E3]
          omega
        have hwc : jx_wc m2 = Cond.code m2.1 m2.2.1 m2.2.2.1 none := by
          unfold jx_wc
          rw [hh0, hr0]
        have hM2 := hM (.ref b' :: (sw.take n).reverse) ⟨⟨b', hb, rfl⟩, h1⟩
        rw [hwc] at hM2 hci
        exact jm_callI X hd hM2 (by rw [hlen]; exact hci) hlk him hnm (rest := rw') (by rw [List.reverse_reverse, ← hdw, List.take_append_drop]) (by rw [jx_vs_cat h3]; exact e) hR hrm hcs (fun o h4 hPo => kk o h4 _ h3 hPo)
      next => cases hs
    next => cases hs
  | iaload =>
    exfalso
    rcases jx_or_ok hs with hs | hs <;> simp only [jx_ald] at hs <;> (repeat' split at hs) <;> cases hs
  | aastore =>
    exfalso
    rcases jx_or_ok hs with hs | hs <;> simp only [jx_aas, jx_aat] at hs <;> (repeat' split at hs) <;> cases hs
  | _ =>
    exfalso
    simp only [jx_step, jx_k, jx_ii, jx_ll, jx_iz, jx_lz, jx_li, jx_lc, jx_i1, jx_l1, jx_or, jx_ald, jx_aas, jx_aat, jx_gf, jx_pf, jx_ast, jx_al, jx_nw, jx_na, jx_mu, jx_ri, jx_rl, jx_ra, jx_rv, jx_ld, jx_sr, jx_sr2, jx_inc, jx_du, jx_po, jx_d2, jx_ts, jx_lus, jx_bz, jx_bc, jx_to, reduceCtorEq] at hs <;> (repeat' split at hs) <;> cases hs
theorem jx_hd_nil {pc ci : Nat} {hs : List (Nat × Nat × Nat × Nat × Nat)} (h : ∀ q ∈ hs, ¬ (q.1 ≤ pc ∧ pc < q.2.1 ∧ q.2.2.2.2 = ci)) : jx_hd pc ci hs = none := by
  induction hs with
  | nil => rfl
  | cons q hs ih =>
    unfold jx_hd
    rw [if_neg (h q List.mem_cons_self)]
    exact ih (fun r hr => h r (List.mem_cons_of_mem _ hr))
theorem jx_sound (E0 : jm_en S D jm_cl (jm_ty dA) jm_G) (hst : l.stackTraces = false) (hcst : jx_cst S D) (hKK : jx_KK S K) (hdf : ∀ ci fs, df[ci]? = some fs → ci < 100 ∧ ∀ R, jx_vs R fs fs) (hdl : df.length = 10) (hP : ∀ (k : Nat) (me : jx_Me), P[k]? = some me → jx_mok S dA R0 df P me) : ∀ n, jx_B l S D dA K R0 df P n := by
  intro n
  induction n with
  | zero => intro k me hk fr lo pc lv st M dc ds o M' mc ms hs; cases hs
  | succ n IH =>
    intro k me hk fr lo pc lv st M dc ds o M' mc ms hs p e s m args below meth c X hret hlk hnm hex hadm Rk R h lw sw hR0 hRk E
    have hmo := (hP k me hk).2.2
    have hhf := (hP k me hk).2.1
    unfold jx_run at hs
    split at hs
    · cases hs
    next i len x va hat =>
      obtain ⟨hd, hl, hsi, hsc⟩ := hmo _ (jx_at_mem hat)
      have hini : (me.1.name == "<init>") = true → meth.name = "<init>" := fun q => by rw [hnm]; simpa using q
      split at hs
      · cases hs
      next z hz =>
        have hm1 := jx_run_mono n hs
        have hgo : jx_go dA K (fun pc lv st h dc ds => jm_W p l e ⟨fr, mc, ms, lo⟩ s m args below meth c S D jm_cl (jm_Q S D jm_cl below s (jx_Po dA K Rk o M') mc ms) me.2.2.1 pc lv st h dc ds) R z := fun R' h' lw' sw' hp' E' => IH k me hk fr lo z.1 z.2.1 z.2.2.1 z.2.2.2.1 z.2.2.2.2.1 z.2.2.2.2.2 o M' mc ms hs p e s m args below meth c X hret hlk hnm hex hadm Rk R' h' lw' sw' (hR0.trans hp') (hRk.trans hp') E'
        by_cases hmu : ∃ a b, i = .multianewarray a b
        · obtain ⟨a, b, rfl⟩ := hmu
          exact jx_multi (va := va) X hd hl hsi E hz hm1 hgo
        · exact jx_next X hKK hR0 hdf hd hl hsi hini E hz hm1 (fun a b q => hmu ⟨a, b, q⟩) hgo
      next k2 As r hz =>
        split at hs
        next h9 =>
          split at hs
          next hroom =>
            split at hs
            next v M1 hpr =>
              exact jx_prim X hKK hd hl hsc E hz h9 hpr hroom (jx_run_mono n hs) (fun h1 sw1 E1 => IH k me hk fr lo (pc + 3) lv (v.toList ++ r) M1 dc ds o M' mc ms hs p e s m args below meth c X hret hlk hnm hex hadm Rk R h1 lw sw1 hR0 hRk E1)
            next => cases hs
          next => cases hs
        next h9 =>
          split at hs
          next => cases hs
          next m2 hP2 =>
            split at hs
            next hroom =>
              have hfr : fr - 1 + 1 ≤ fr := by omega
              have hlo : 8 + (m2.2.2.1 + 11) + (lo - (m2.2.2.1 + 19)) ≤ lo := by omega
              split at hs
              next => cases hs
              next v M1 c1 s1 hcall =>
                have hm1 := jx_run_mono n hs
                refine jx_cll X hd hl hsc E hz (by omega) hP2 (fun Bs hBs => jx_Aof E0 hP IH hP2 hcall hroom.2.2 hR0 E.1 hBs) ⟨hfr, hlo⟩ ⟨rfl, rfl⟩ hm1 (fun q h1 rw hrw hPo => ?_)
                obtain ⟨R', hp', E', hot⟩ := hPo
                have hk2 : ∀ sw1, jx_vs R' (v.toList ++ r) sw1 → jm_W p l e ⟨fr, mc, ms, lo⟩ s m args below meth c S D jm_cl (jm_Q S D jm_cl below s (jx_Po dA K Rk o M') mc ms) me.2.2.1 (pc + 3) lw sw1 h1 (dc + c1) (ds + s1) := fun sw1 hsw => IH k me hk fr lo (pc + 3) lv (v.toList ++ r) M1 (dc + c1) (ds + s1) o M' mc ms hs p e s m args below meth c X hret hlk hnm hex hadm Rk R' h1 lw sw1 (hR0.trans hp') (hRk.trans hp') ⟨E', jx_lv_mono hp' E.2.1, hsw⟩
                cases v with
                | none =>
                  have hot : q = .returned none := hot
                  subst hot
                  exact hk2 _ (jx_vs_mono hp' hrw)
                | some v =>
                  obtain ⟨w, rfl, hw⟩ := hot
                  exact hk2 _ ⟨hw, jx_vs_mono hp' hrw⟩
              next a M1 c1 s1 hcall =>
                split at hs
                next => cases hs
                next ci fs hM1 =>
                  split at hs
                  next hh0 =>
                    cases hs
                    refine jx_cll X hd hl hsc E hz (by omega) hP2 (fun Bs hBs => jx_Aof E0 hP IH hP2 hcall hroom.2.2 hR0 E.1 hBs) ⟨hfr, hlo⟩ ⟨rfl, rfl⟩ ⟨Nat.le_refl _, Nat.le_refl _⟩ (fun q h1 rw hrw hPo => ?_)
                    obtain ⟨R', hp', E', b, hb, rfl⟩ := hPo
                    exact jm_xout hlk (covers_of_empty (jx_ex_nil (by rw [← hh0]; exact hex)) _) ⟨R', hRk.trans hp', E', b, hb, rfl⟩
                  next => cases hs
                  next t hh0 hsome =>
                    have hm1 := jx_run_mono n hs
                    refine jx_cll X hd hl hsc E hz (by omega) hP2 (fun Bs hBs => jx_Aof E0 hP IH hP2 hcall hroom.2.2 hR0 E.1 hBs) ⟨hfr, hlo⟩ ⟨rfl, rfl⟩ hm1 (fun q h1 rw hrw hPo => ?_)
                    obtain ⟨R', hp', E', b, hb, rfl⟩ := hPo
                    exact jx_catch X hcst hhf hex E' hM1 hb hsome (IH k me hk fr lo t lv [.ref a] M1 (dc + c1) (ds + s1) o M' mc ms hs p e s m args below meth c X hret hlk hnm hex hadm Rk R' h1 lw [.ref b] (hR0.trans hp') (hRk.trans hp') ⟨E', jx_lv_mono hp' E.2.1, ⟨b, hb, rfl⟩, trivial⟩)
            next => cases hs
      next v hz =>
        cases hs
        exact jx_ret X hd hl hret hlk hRk E hz
      next ci hz =>
        split at hs
        next hh0 =>
          split at hs
          next hroom =>
            cases hs
            exact jx_thr X hst hdl hd hl hsc hlk (jx_ex_nil (by rw [← hh0]; exact hex)) hRk E hz ⟨hroom.1, hroom.2, Nat.le_refl _, Nat.le_refl _⟩
          next => cases hs
        next => cases hs
end JXA
end
section
section JP
def jp_J_init : jx_Me := (⟨"JobHouse", "<init>", "()V"⟩, prog_1_method_1_code, 2, none, [], [
  (0, .aload_n 0, 1, [], .null),
  (1, .invokespecial 1, 3, [9003, 0], .null),
  (4, .aload_n 0, 1, [], .null),
  (5, .new 7, 3, [1], .null),
  (8, .dup, 1, [], .null),
  (9, .invokespecial 9, 3, [145, 0], .null),
  (12, .putfield 10, 3, [0, 0, 4, 1], .null),
  (15, .aload_n 0, 1, [], .null),
  (16, .bipush 8, 2, [], .int 8),
  (18, .anewarray 16, 3, [4], .null),
  (21, .putfield 18, 3, [0, 1, 4, 1], .null),
  (24, .aload_n 0, 1, [], .null),
  (25, .bipush 16, 2, [], .int 16),
  (27, .anewarray 22, 3, [5], .null),
  (30, .putfield 24, 3, [0, 2, 4, 1], .null),
  (33, .aload_n 0, 1, [], .null),
  (34, .iconst 4, 1, [], .int 4),
  (35, .anewarray 28, 3, [6], .null),
  (38, .putfield 30, 3, [0, 3, 4, 1], .null),
  (41, .aload_n 0, 1, [], .null),
  (42, .new 28, 3, [5], .null),
  (45, .dup, 1, [], .null),
  (46, .iconst 0, 1, [], .int 0),
  (47, .invokespecial 34, 3, [135, 1], .null),
  (50, .putfield 37, 3, [0, 4, 4, 1], .null),
  (53, .aload_n 0, 1, [], .null),
  (54, .new 41, 3, [6], .null),
  (57, .dup, 1, [], .null),
  (58, .invokespecial 43, 3, [126, 0], .null),
  (61, .putfield 44, 3, [0, 5, 4, 1], .null),
  (64, .aload_n 0, 1, [], .null),
  (65, .new 16, 3, [2], .null),
  (68, .dup, 1, [], .null),
  (69, .invokespecial 48, 3, [163, 0], .null),
  (72, .putfield 49, 3, [0, 6, 4, 0], .null),
  (75, .aload_n 0, 1, [], .null),
  (76, .new 22, 3, [4], .null),
  (79, .dup, 1, [], .null),
  (80, .invokespecial 53, 3, [95, 0], .null),
  (83, .putfield 54, 3, [0, 7, 4, 0], .null),
  (86, .aload_n 0, 1, [], .null),
  (87, .bipush 100, 2, [], .int 100),
  (89, .anewarray 58, 3, [7], .null),
  (92, .putfield 60, 3, [0, 9, 4, 1], .null),
  (95, .aload_n 0, 1, [], .null),
  (96, .bipush 8, 2, [], .int 8),
  (98, .newarray .int, 2, [2], .null),
  (100, .putfield 64, 3, [0, 13, 4, 1], .null),
  (103, .aload_n 0, 1, [], .null),
  (104, .iconst 4, 1, [], .int 4),
  (105, .putfield 68, 3, [0, 15, 0, 0], .null),
  (108, .aload_n 0, 1, [], .null),
  (109, .new 72, 3, [8], .null),
  (112, .dup, 1, [], .null),
  (113, .invokespecial 74, 3, [143, 0], .null),
  (116, .putfield 75, 3, [0, 17, 4, 1], .null),
  (119, .iconst 0, 1, [], .int 0),
  (120, .istore_n 1, 1, [], .null),
  (121, .iload_n 1, 1, [], .null),
  (122, .bipush 8, 2, [], .int 8),
  (124, .if_icmp .ge 22, 3, [], .null),
  (127, .aload_n 0, 1, [], .null),
  (128, .getfield 18, 3, [0, 1], .null),
  (131, .iload_n 1, 1, [], .null),
  (132, .new 16, 3, [2], .null),
  (135, .dup, 1, [], .null),
  (136, .invokespecial 48, 3, [163, 0], .null),
  (139, .aastore, 1, [], .null),
  (140, .iinc 1 1, 3, [], .null),
  (143, .goto (-22), 3, [], .null),
  (146, .iconst 0, 1, [], .int 0),
  (147, .istore_n 1, 1, [], .null),
  (148, .iload_n 1, 1, [], .null),
  (149, .bipush 16, 2, [], .int 16),
  (151, .if_icmp .ge 22, 3, [], .null),
  (154, .aload_n 0, 1, [], .null),
  (155, .getfield 24, 3, [0, 2], .null),
  (158, .iload_n 1, 1, [], .null),
  (159, .new 22, 3, [4], .null),
  (162, .dup, 1, [], .null),
  (163, .invokespecial 53, 3, [95, 0], .null),
  (166, .aastore, 1, [], .null),
  (167, .iinc 1 1, 3, [], .null),
  (170, .goto (-22), 3, [], .null),
  (173, .iconst 0, 1, [], .int 0),
  (174, .istore_n 1, 1, [], .null),
  (175, .iload_n 1, 1, [], .null),
  (176, .iconst 4, 1, [], .int 4),
  (177, .if_icmp .ge 25, 3, [], .null),
  (180, .aload_n 0, 1, [], .null),
  (181, .getfield 30, 3, [0, 3], .null),
  (184, .iload_n 1, 1, [], .null),
  (185, .new 28, 3, [5], .null),
  (188, .dup, 1, [], .null),
  (189, .sipush 200, 3, [], .int 200),
  (192, .invokespecial 34, 3, [135, 1], .null),
  (195, .aastore, 1, [], .null),
  (196, .iinc 1 1, 3, [], .null),
  (199, .goto (-24), 3, [], .null),
  (202, .iconst 0, 1, [], .int 0),
  (203, .istore_n 1, 1, [], .null),
  (204, .iload_n 1, 1, [], .null),
  (205, .bipush 100, 2, [], .int 100),
  (207, .if_icmp .ge 22, 3, [], .null),
  (210, .aload_n 0, 1, [], .null),
  (211, .getfield 60, 3, [0, 9], .null),
  (214, .iload_n 1, 1, [], .null),
  (215, .new 58, 3, [7], .null),
  (218, .dup, 1, [], .null),
  (219, .invokespecial 79, 3, [139, 0], .null),
  (222, .aastore, 1, [], .null),
  (223, .iinc 1 1, 3, [], .null),
  (226, .goto (-22), 3, [], .null),
  (229, .return_, 1, [], .null)])
def jp_J_feed : jx_Me := (⟨"JobHouse", "feed", "(IIIII)I"⟩, prog_1_method_2_code, 6, (some FieldType.int), [], [
  (0, .aload_n 0, 1, [], .null),
  (1, .getfield 10, 3, [0, 0], .null),
  (4, .getfield 80, 3, [1, 1], .null),
  (7, .bipush 20, 2, [], .int 20),
  (9, .iadd, 1, [], .null),
  (10, .sipush 400, 3, [], .int 400),
  (13, .if_icmp .le 11, 3, [], .null),
  (16, .new 83, 3, [10], .null),
  (24, .aload_n 0, 1, [], .null),
  (25, .getfield 10, 3, [0, 0], .null),
  (28, .iload_n 1, 1, [], .null),
  (29, .invokevirtual 86, 3, [146, 1, 1], .null),
  (32, .aload_n 0, 1, [], .null),
  (33, .getfield 10, 3, [0, 0], .null),
  (36, .iload_n 2, 1, [], .null),
  (37, .invokevirtual 86, 3, [146, 1, 1], .null),
  (40, .aload_n 0, 1, [], .null),
  (41, .getfield 10, 3, [0, 0], .null),
  (44, .iload_n 3, 1, [], .null),
  (45, .invokevirtual 86, 3, [146, 1, 1], .null),
  (48, .aload_n 0, 1, [], .null),
  (49, .getfield 10, 3, [0, 0], .null),
  (52, .iload 4, 2, [], .null),
  (54, .invokevirtual 86, 3, [146, 1, 1], .null),
  (57, .aload_n 0, 1, [], .null),
  (58, .getfield 10, 3, [0, 0], .null),
  (61, .iload 5, 2, [], .null),
  (63, .invokevirtual 86, 3, [146, 1, 1], .null),
  (66, .aload_n 0, 1, [], .null),
  (67, .getfield 10, 3, [0, 0], .null),
  (70, .getfield 80, 3, [1, 1], .null),
  (73, .ireturn, 1, [], .null)])
def jp_J_end : jx_Me := (⟨"JobHouse", "end", "(I)I"⟩, prog_1_method_3_code, 2, (some FieldType.int), [], [
  (0, .iload_n 1, 1, [], .null),
  (1, .i2l, 1, [], .null),
  (2, .lconst 0, 1, [], .long 0),
  (3, .aload_n 0, 1, [], .null),
  (4, .getfield 10, 3, [0, 0], .null),
  (7, .getfield 80, 3, [1, 1], .null),
  (10, .i2l, 1, [], .null),
  (11, .invokestatic 89, 3, [19, 3], .null),
  (14, .aload_n 0, 1, [], .null),
  (15, .getfield 10, 3, [0, 0], .null),
  (18, .iload_n 1, 1, [], .null),
  (19, .putfield 80, 3, [1, 1, 0, 0], .null),
  (22, .iload_n 1, 1, [], .null),
  (23, .ireturn, 1, [], .null)])
def jp_J_zone : jx_Me := (⟨"JobHouse", "zone", "(I)V"⟩, prog_1_method_4_code, 3, none, [], [
  (0, .iload_n 1, 1, [], .null),
  (1, .i2l, 1, [], .null),
  (2, .lconst 0, 1, [], .long 0),
  (3, .ldc2_w 93, 3, [], .long 7),
  (6, .invokestatic 89, 3, [19, 3], .null),
  (9, .aload_n 0, 1, [], .null),
  (10, .getfield 10, 3, [0, 0], .null),
  (13, .invokevirtual 95, 3, [147, 0, 1], .null),
  (16, .aload_n 0, 1, [], .null),
  (17, .getfield 49, 3, [0, 6], .null),
  (20, .aload_n 0, 1, [], .null),
  (21, .getfield 10, 3, [0, 0], .null),
  (24, .invokevirtual 98, 3, [164, 1, 2], .null),
  (27, .aload_n 0, 1, [], .null),
  (28, .getfield 10, 3, [0, 0], .null),
  (31, .iconst 0, 1, [], .int 0),
  (32, .putfield 80, 3, [1, 1, 0, 0], .null),
  (35, .aload_n 0, 1, [], .null),
  (36, .invokevirtual 102, 3, [24, 0, 0], .null),
  (39, .aload_n 0, 1, [], .null),
  (40, .getfield 18, 3, [0, 1], .null),
  (43, .iload_n 1, 1, [], .null),
  (44, .aaload, 1, [], .null),
  (45, .astore_n 2, 1, [], .null),
  (46, .aload_n 0, 1, [], .null),
  (47, .getfield 18, 3, [0, 1], .null),
  (50, .iload_n 1, 1, [], .null),
  (51, .aload_n 0, 1, [], .null),
  (52, .getfield 49, 3, [0, 6], .null),
  (55, .aastore, 1, [], .null),
  (56, .aload_n 0, 1, [], .null),
  (57, .aload_n 2, 1, [], .null),
  (58, .putfield 49, 3, [0, 6, 4, 0], .null),
  (61, .return_, 1, [], .null)])
def jp_J_cron : jx_Me := (⟨"JobHouse", "cron", "(I)V"⟩, prog_1_method_5_code, 3, none, [], [
  (0, .iload_n 1, 1, [], .null),
  (1, .i2l, 1, [], .null),
  (2, .lconst 0, 1, [], .long 0),
  (3, .ldc2_w 105, 3, [], .long 15),
  (6, .invokestatic 89, 3, [19, 3], .null),
  (9, .aload_n 0, 1, [], .null),
  (10, .getfield 10, 3, [0, 0], .null),
  (13, .invokevirtual 95, 3, [147, 0, 1], .null),
  (16, .aload_n 0, 1, [], .null),
  (17, .getfield 10, 3, [0, 0], .null),
  (20, .aload_n 0, 1, [], .null),
  (21, .getfield 54, 3, [0, 7], .null),
  (24, .invokestatic 107, 3, [111, 2], .null),
  (27, .aload_n 0, 1, [], .null),
  (28, .getfield 10, 3, [0, 0], .null),
  (31, .iconst 0, 1, [], .int 0),
  (32, .putfield 80, 3, [1, 1, 0, 0], .null),
  (35, .aload_n 0, 1, [], .null),
  (36, .invokevirtual 102, 3, [24, 0, 0], .null),
  (39, .aload_n 0, 1, [], .null),
  (40, .getfield 24, 3, [0, 2], .null),
  (43, .iload_n 1, 1, [], .null),
  (44, .aaload, 1, [], .null),
  (45, .astore_n 2, 1, [], .null),
  (46, .aload_n 0, 1, [], .null),
  (47, .getfield 24, 3, [0, 2], .null),
  (50, .iload_n 1, 1, [], .null),
  (51, .aload_n 0, 1, [], .null),
  (52, .getfield 54, 3, [0, 7], .null),
  (55, .aastore, 1, [], .null),
  (56, .aload_n 0, 1, [], .null),
  (57, .aload_n 2, 1, [], .null),
  (58, .putfield 54, 3, [0, 7, 4, 0], .null),
  (61, .return_, 1, [], .null)])
def jp_J_holiday : jx_Me := (⟨"JobHouse", "holiday", "(IIZ)I"⟩, prog_1_method_6_code, 6, (some FieldType.int), [], [
  (0, .iload_n 1, 1, [], .null),
  (1, .i2l, 1, [], .null),
  (2, .lconst 0, 1, [], .long 0),
  (3, .ldc2_w 113, 3, [], .long 3),
  (6, .invokestatic 89, 3, [19, 3], .null),
  (9, .iload_n 2, 1, [], .null),
  (10, .i2l, 1, [], .null),
  (11, .lconst 0, 1, [], .long 0),
  (12, .ldc2_w 115, 3, [], .long 120529),
  (15, .invokestatic 89, 3, [19, 3], .null),
  (18, .aload_n 0, 1, [], .null),
  (19, .getfield 30, 3, [0, 3], .null),
  (22, .iload_n 1, 1, [], .null),
  (23, .aaload, 1, [], .null),
  (24, .astore 4, 2, [], .null),
  (26, .aload 4, 2, [], .null),
  (28, .iload_n 2, 1, [], .null),
  (29, .invokevirtual 117, 3, [136, 1, 5], .null),
  (32, .istore 5, 2, [], .null),
  (34, .iload_n 3, 1, [], .null),
  (35, .ifCond .eq 37, 3, [], .null),
  (38, .iload 5, 2, [], .null),
  (40, .ifCond .ge 32, 3, [], .null),
  (43, .aload 4, 2, [], .null),
  (45, .getfield 121, 3, [5, 1], .null),
  (48, .sipush 200, 3, [], .int 200),
  (51, .if_icmp .lt 11, 3, [], .null),
  (54, .new 83, 3, [10], .null),
  (62, .aload 4, 2, [], .null),
  (64, .iconst (-1), 1, [], .int (-1)),
  (65, .iload 5, 2, [], .null),
  (67, .isub, 1, [], .null),
  (68, .iload_n 2, 1, [], .null),
  (69, .invokevirtual 124, 3, [137, 2, 5], .null),
  (72, .iload_n 3, 1, [], .null),
  (73, .ifCond .ne 15, 3, [], .null),
  (76, .iload 5, 2, [], .null),
  (78, .ifCond .lt 10, 3, [], .null),
  (81, .aload 4, 2, [], .null),
  (83, .iload 5, 2, [], .null),
  (85, .invokevirtual 128, 3, [138, 1, 5], .null),
  (88, .aload 4, 2, [], .null),
  (90, .getfield 121, 3, [5, 1], .null),
  (93, .ireturn, 1, [], .null)])
def jp_J_next : jx_Me := (⟨"JobHouse", "next", "(IIIJ)J"⟩, prog_1_method_7_code, 6, (some FieldType.long), [], [
  (0, .iload_n 1, 1, [], .null),
  (1, .iload_n 2, 1, [], .null),
  (2, .iload_n 3, 1, [], .null),
  (3, .invokestatic 131, 3, [20, 3], .null),
  (6, .lload 4, 2, [], .null),
  (8, .lconst 0, 1, [], .long 0),
  (9, .ldc2_w 135, 3, [], .long 10413791999999),
  (12, .invokestatic 89, 3, [19, 3], .null),
  (15, .aload_n 0, 1, [], .null),
  (16, .iload_n 1, 1, [], .null),
  (17, .iload_n 2, 1, [], .null),
  (18, .iload_n 3, 1, [], .null),
  (19, .invokevirtual 137, 3, [25, 3, 0], .null),
  (22, .aload_n 0, 1, [], .null),
  (23, .getfield 44, 3, [0, 5], .null),
  (26, .lload 4, 2, [], .null),
  (28, .invokevirtual 140, 3, [127, 1, 6], .null),
  (31, .lreturn, 1, [], .null)])
def jp_J_last : jx_Me := (⟨"JobHouse", "last", "(IIIJ)J"⟩, prog_1_method_8_code, 6, (some FieldType.long), [], [
  (0, .iload_n 1, 1, [], .null),
  (1, .iload_n 2, 1, [], .null),
  (2, .iload_n 3, 1, [], .null),
  (3, .invokestatic 131, 3, [20, 3], .null),
  (6, .lload 4, 2, [], .null),
  (8, .lconst 0, 1, [], .long 0),
  (9, .ldc2_w 135, 3, [], .long 10413791999999),
  (12, .invokestatic 89, 3, [19, 3], .null),
  (15, .aload_n 0, 1, [], .null),
  (16, .iload_n 1, 1, [], .null),
  (17, .iload_n 2, 1, [], .null),
  (18, .iload_n 3, 1, [], .null),
  (19, .invokevirtual 137, 3, [25, 3, 0], .null),
  (22, .aload_n 0, 1, [], .null),
  (23, .getfield 44, 3, [0, 5], .null),
  (26, .lload 4, 2, [], .null),
  (28, .invokevirtual 144, 3, [128, 1, 6], .null),
  (31, .lreturn, 1, [], .null)])
def jp_J_local : jx_Me := (⟨"JobHouse", "local", "(IJI)I"⟩, prog_1_method_9_code, 12, (some FieldType.int), [], [
  (0, .iload_n 1, 1, [], .null),
  (1, .i2l, 1, [], .null),
  (2, .lconst 0, 1, [], .long 0),
  (3, .ldc2_w 93, 3, [], .long 7),
  (6, .invokestatic 89, 3, [19, 3], .null),
  (9, .lload_n 2, 1, [], .null),
  (10, .lconst 0, 1, [], .long 0),
  (11, .ldc2_w 135, 3, [], .long 10413791999999),
  (14, .invokestatic 89, 3, [19, 3], .null),
  (17, .iload 4, 2, [], .null),
  (19, .i2l, 1, [], .null),
  (20, .lconst 0, 1, [], .long 0),
  (21, .ldc2_w 93, 3, [], .long 7),
  (24, .invokestatic 89, 3, [19, 3], .null),
  (27, .aload_n 0, 1, [], .null),
  (28, .getfield 18, 3, [0, 1], .null),
  (31, .iload_n 1, 1, [], .null),
  (32, .aaload, 1, [], .null),
  (33, .lload_n 2, 1, [], .null),
  (34, .ldc2_w 147, 3, [], .long 1000),
  (37, .ldiv, 1, [], .null),
  (38, .invokevirtual 149, 3, [165, 1, 2], .null),
  (41, .istore 5, 2, [], .null),
  (43, .lload_n 2, 1, [], .null),
  (44, .ldc2_w 147, 3, [], .long 1000),
  (47, .ldiv, 1, [], .null),
  (48, .iload 5, 2, [], .null),
  (50, .i2l, 1, [], .null),
  (51, .ladd, 1, [], .null),
  (52, .lstore 6, 2, [], .null),
  (54, .lload 6, 2, [], .null),
  (56, .ldc2_w 153, 3, [], .long 86400),
  (59, .invokestatic 155, 3, [189, 2], .null),
  (62, .l2i, 1, [], .null),
  (63, .istore 8, 2, [], .null),
  (65, .lload 6, 2, [], .null),
  (67, .invokestatic 161, 3, [122, 1], .null),
  (70, .istore 9, 2, [], .null),
  (72, .iload 9, 2, [], .null),
  (74, .invokestatic 166, 3, [123, 1], .null),
  (77, .istore 10, 2, [], .null),
  (79, .iload 9, 2, [], .null),
  (81, .iload 10, 2, [], .null),
  (83, .invokestatic 169, 3, [124, 2], .null),
  (86, .istore 11, 2, [], .null),
  (88, .iload 4, 2, [], .null),
  (90, .tableswitch 89 0 6 #[42, 48, 57, 64, 77, 80, 83], 42, [], .null),
  (132, .iload 8, 2, [], .null),
  (134, .bipush 60, 2, [], .int 60),
  (136, .irem, 1, [], .null),
  (137, .ireturn, 1, [], .null),
  (138, .iload 8, 2, [], .null),
  (140, .bipush 60, 2, [], .int 60),
  (142, .idiv, 1, [], .null),
  (143, .bipush 60, 2, [], .int 60),
  (145, .irem, 1, [], .null),
  (146, .ireturn, 1, [], .null),
  (147, .iload 8, 2, [], .null),
  (149, .sipush 3600, 3, [], .int 3600),
  (152, .idiv, 1, [], .null),
  (153, .ireturn, 1, [], .null),
  (154, .iload 9, 2, [], .null),
  (156, .iload 10, 2, [], .null),
  (158, .iload 11, 2, [], .null),
  (160, .invokestatic 173, 3, [120, 2], .null),
  (163, .isub, 1, [], .null),
  (164, .iconst 1, 1, [], .int 1),
  (165, .iadd, 1, [], .null),
  (166, .ireturn, 1, [], .null),
  (167, .iload 11, 2, [], .null),
  (169, .ireturn, 1, [], .null),
  (170, .iload 10, 2, [], .null),
  (172, .ireturn, 1, [], .null),
  (173, .iload 9, 2, [], .null),
  (175, .invokestatic 176, 3, [125, 1], .null),
  (178, .ireturn, 1, [], .null),
  (179, .iload 5, 2, [], .null),
  (181, .bipush 60, 2, [], .int 60),
  (183, .idiv, 1, [], .null),
  (184, .ireturn, 1, [], .null)])
def jp_J_make : jx_Me := (⟨"JobHouse", "make", "(IJJJIII)I"⟩, prog_1_method_10_code, 13, (some FieldType.int), [], [
  (0, .iload_n 1, 1, [], .null),
  (1, .i2l, 1, [], .null),
  (2, .lconst 0, 1, [], .long 0),
  (3, .ldc2_w 179, 3, [], .long 2),
  (6, .invokestatic 89, 3, [19, 3], .null),
  (9, .lload_n 2, 1, [], .null),
  (10, .lconst 0, 1, [], .long 0),
  (11, .ldc2_w 181, 3, [], .long 1099511627776),
  (14, .ldc2_w 135, 3, [], .long 10413791999999),
  (17, .aload_n 0, 1, [], .null),
  (18, .getfield 183, 3, [0, 8], .null),
  (21, .lsub, 1, [], .null),
  (22, .invokestatic 187, 3, [193, 2], .null),
  (25, .invokestatic 89, 3, [19, 3], .null),
  (28, .iload_n 1, 1, [], .null),
  (29, .ifCond .ne 13, 3, [], .null),
  (32, .lload 4, 2, [], .null),
  (34, .lconst 0, 1, [], .long 0),
  (35, .lconst 0, 1, [], .long 0),
  (36, .invokestatic 89, 3, [19, 3], .null),
  (39, .goto 12, 3, [], .null),
  (42, .lload 4, 2, [], .null),
  (44, .lconst 1, 1, [], .long 1),
  (45, .ldc2_w 181, 3, [], .long 1099511627776),
  (48, .invokestatic 89, 3, [19, 3], .null),
  (51, .lload 6, 2, [], .null),
  (53, .iload 9, 2, [], .null),
  (55, .iload 10, 2, [], .null),
  (57, .invokestatic 190, 3, [21, 3], .null),
  (60, .aload_n 0, 1, [], .null),
  (61, .invokevirtual 194, 3, [23, 0, 0], .null),
  (64, .aload_n 0, 1, [], .null),
  (65, .invokevirtual 197, 3, [26, 0, 0], .null),
  (68, .istore 11, 2, [], .null),
  (70, .aload_n 0, 1, [], .null),
  (71, .getfield 60, 3, [0, 9], .null),
  (74, .iload 11, 2, [], .null),
  (76, .aaload, 1, [], .null),
  (77, .astore 12, 2, [], .null),
  (79, .aload_n 0, 1, [], .null),
  (80, .aload 12, 2, [], .null),
  (82, .lload 6, 2, [], .null),
  (84, .iload 8, 2, [], .null),
  (86, .iload 9, 2, [], .null),
  (88, .iload 10, 2, [], .null),
  (90, .invokevirtual 201, 3, [27, 5, 0], .null),
  (93, .aload 12, 2, [], .null),
  (95, .iload_n 1, 1, [], .null),
  (96, .putfield 205, 3, [7, 1, 0, 0], .null),
  (99, .aload 12, 2, [], .null),
  (101, .lload 4, 2, [], .null),
  (103, .putfield 208, 3, [7, 6, 1, 0], .null),
  (106, .aload 12, 2, [], .null),
  (108, .aload_n 0, 1, [], .null),
  (109, .getfield 183, 3, [0, 8], .null),
  (112, .lload_n 2, 1, [], .null),
  (113, .ladd, 1, [], .null),
  (114, .putfield 211, 3, [7, 4, 1, 0], .null),
  (117, .iload 11, 2, [], .null),
  (119, .ireturn, 1, [], .null)])
def jp_J_makeCron : jx_Me := (⟨"JobHouse", "makeCron", "(IIIJIII)I"⟩, prog_1_method_11_code, 13, (some FieldType.int), [], [
  (0, .iload_n 1, 1, [], .null),
  (1, .iload_n 2, 1, [], .null),
  (2, .iload_n 3, 1, [], .null),
  (3, .invokestatic 131, 3, [20, 3], .null),
  (6, .lload 4, 2, [], .null),
  (8, .iload 7, 2, [], .null),
  (10, .iload 8, 2, [], .null),
  (12, .invokestatic 190, 3, [21, 3], .null),
  (15, .aload_n 0, 1, [], .null),
  (16, .invokevirtual 194, 3, [23, 0, 0], .null),
  (19, .aload_n 0, 1, [], .null),
  (20, .iload_n 1, 1, [], .null),
  (21, .iload_n 2, 1, [], .null),
  (22, .iload_n 3, 1, [], .null),
  (23, .invokevirtual 137, 3, [25, 3, 0], .null),
  (26, .aload_n 0, 1, [], .null),
  (27, .getfield 44, 3, [0, 5], .null),
  (30, .aload_n 0, 1, [], .null),
  (31, .getfield 183, 3, [0, 8], .null),
  (34, .invokevirtual 140, 3, [127, 1, 6], .null),
  (37, .lstore 9, 2, [], .null),
  (39, .lload 9, 2, [], .null),
  (41, .lconst 0, 1, [], .long 0),
  (42, .lcmp, 1, [], .null),
  (43, .ifCond .ge 11, 3, [], .null),
  (46, .new 214, 3, [12], .null),
  (54, .aload_n 0, 1, [], .null),
  (55, .invokevirtual 197, 3, [26, 0, 0], .null),
  (58, .istore 11, 2, [], .null),
  (60, .aload_n 0, 1, [], .null),
  (61, .getfield 60, 3, [0, 9], .null),
  (64, .iload 11, 2, [], .null),
  (66, .aaload, 1, [], .null),
  (67, .astore 12, 2, [], .null),
  (69, .aload_n 0, 1, [], .null),
  (70, .aload 12, 2, [], .null),
  (72, .lload 4, 2, [], .null),
  (74, .iload 6, 2, [], .null),
  (76, .iload 7, 2, [], .null),
  (78, .iload 8, 2, [], .null),
  (80, .invokevirtual 201, 3, [27, 5, 0], .null),
  (83, .aload 12, 2, [], .null),
  (85, .iconst 3, 1, [], .int 3),
  (86, .putfield 205, 3, [7, 1, 0, 0], .null),
  (89, .aload 12, 2, [], .null),
  (91, .iload_n 1, 1, [], .null),
  (92, .putfield 217, 3, [7, 11, 0, 0], .null),
  (95, .aload 12, 2, [], .null),
  (97, .iload_n 2, 1, [], .null),
  (98, .putfield 220, 3, [7, 12, 0, 0], .null),
  (101, .aload 12, 2, [], .null),
  (103, .iload_n 3, 1, [], .null),
  (104, .putfield 223, 3, [7, 13, 0, 0], .null),
  (107, .aload 12, 2, [], .null),
  (109, .lload 9, 2, [], .null),
  (111, .putfield 211, 3, [7, 4, 1, 0], .null),
  (114, .iload 11, 2, [], .null),
  (116, .ireturn, 1, [], .null)])
def jp_J_cancel : jx_Me := (⟨"JobHouse", "cancel", "(I)I"⟩, prog_1_method_12_code, 3, (some FieldType.int), [], [
  (0, .aload_n 0, 1, [], .null),
  (1, .iload_n 1, 1, [], .null),
  (2, .invokevirtual 226, 3, [29, 1, 0], .null),
  (5, .astore_n 2, 1, [], .null),
  (6, .aload_n 2, 1, [], .null),
  (7, .getfield 230, 3, [7, 0], .null),
  (10, .iconst 1, 1, [], .int 1),
  (11, .if_icmp .ne 10, 3, [], .null),
  (14, .aload_n 0, 1, [], .null),
  (15, .aload_n 2, 1, [], .null),
  (16, .invokevirtual 233, 3, [28, 1, 0], .null),
  (19, .iconst 1, 1, [], .int 1),
  (20, .ireturn, 1, [], .null),
  (21, .aload_n 2, 1, [], .null),
  (22, .iconst 3, 1, [], .int 3),
  (23, .putfield 230, 3, [7, 0, 0, 0], .null),
  (26, .iconst 2, 1, [], .int 2),
  (27, .ireturn, 1, [], .null)])
def jp_J_workers : jx_Me := (⟨"JobHouse", "workers", "(I)I"⟩, prog_1_method_13_code, 3, (some FieldType.int), [], [
  (0, .iload_n 1, 1, [], .null),
  (1, .i2l, 1, [], .null),
  (2, .lconst 0, 1, [], .long 0),
  (3, .ldc2_w 237, 3, [], .long 8),
  (6, .invokestatic 89, 3, [19, 3], .null),
  (9, .aload_n 0, 1, [], .null),
  (10, .getfield 68, 3, [0, 15], .null),
  (13, .istore_n 2, 1, [], .null),
  (14, .aload_n 0, 1, [], .null),
  (15, .iload_n 1, 1, [], .null),
  (16, .putfield 68, 3, [0, 15, 0, 0], .null),
  (19, .iload_n 2, 1, [], .null),
  (20, .ireturn, 1, [], .null)])
def jp_J_advance : jx_Me := (⟨"JobHouse", "advance", "(J)I"⟩, prog_1_method_14_code, 10, (some FieldType.int), [], [
  (0, .aload_n 0, 1, [], .null),
  (1, .lload_n 1, 1, [], .null),
  (2, .invokevirtual 239, 3, [22, 1, 0], .null),
  (5, .aload_n 0, 1, [], .null),
  (6, .getfield 183, 3, [0, 8], .null),
  (9, .lload_n 1, 1, [], .null),
  (10, .ladd, 1, [], .null),
  (11, .lstore_n 3, 1, [], .null),
  (12, .aload_n 0, 1, [], .null),
  (13, .getfield 75, 3, [0, 17], .null),
  (16, .iconst 0, 1, [], .int 0),
  (17, .putfield 243, 3, [8, 3, 0, 0], .null),
  (20, .iconst 0, 1, [], .int 0),
  (21, .istore 5, 2, [], .null),
  (23, .iload 5, 2, [], .null),
  (25, .ldc 244, 2, [], .int 100000),
  (27, .if_icmp .ge 143, 3, [], .null),
  (30, .aload_n 0, 1, [], .null),
  (31, .invokevirtual 245, 3, [30, 0, 0], .null),
  (34, .istore 6, 2, [], .null),
  (36, .iload 6, 2, [], .null),
  (38, .ifCond .lt 28, 3, [], .null),
  (41, .aload_n 0, 1, [], .null),
  (42, .iload 6, 2, [], .null),
  (44, .aload_n 0, 1, [], .null),
  (45, .aload_n 0, 1, [], .null),
  (46, .getfield 60, 3, [0, 9], .null),
  (49, .aload_n 0, 1, [], .null),
  (50, .getfield 64, 3, [0, 13], .null),
  (53, .iload 6, 2, [], .null),
  (55, .iaload, 1, [], .null),
  (56, .aaload, 1, [], .null),
  (57, .invokevirtual 248, 3, [31, 1, 0], .null),
  (60, .invokevirtual 252, 3, [32, 2, 0], .null),
  (63, .goto 101, 3, [], .null),
  (66, .aload_n 0, 1, [], .null),
  (67, .getfield 75, 3, [0, 17], .null),
  (70, .getfield 243, 3, [8, 3], .null),
  (73, .sipush 500, 3, [], .int 500),
  (76, .if_icmp .lt 6, 3, [], .null),
  (79, .goto 91, 3, [], .null),
  (82, .aload_n 0, 1, [], .null),
  (83, .getfield 256, 3, [0, 14], .null),
  (86, .aload_n 0, 1, [], .null),
  (87, .getfield 68, 3, [0, 15], .null),
  (90, .if_icmp .ge 10, 3, [], .null),
  (93, .aload_n 0, 1, [], .null),
  (94, .invokevirtual 259, 3, [33, 0, 0], .null),
  (97, .goto 4, 3, [], .null),
  (100, .iconst (-1), 1, [], .int (-1)),
  (101, .istore 7, 2, [], .null),
  (103, .iload 7, 2, [], .null),
  (105, .ifCond .lt 30, 3, [], .null),
  (108, .aload_n 0, 1, [], .null),
  (109, .getfield 60, 3, [0, 9], .null),
  (112, .iload 7, 2, [], .null),
  (114, .aaload, 1, [], .null),
  (115, .getfield 211, 3, [7, 4], .null),
  (118, .aload_n 0, 1, [], .null),
  (119, .getfield 183, 3, [0, 8], .null),
  (122, .lcmp, 1, [], .null),
  (123, .ifCond .gt 12, 3, [], .null),
  (126, .aload_n 0, 1, [], .null),
  (127, .iload 7, 2, [], .null),
  (129, .invokevirtual 262, 3, [34, 1, 0], .null),
  (132, .goto 32, 3, [], .null),
  (135, .aload_n 0, 1, [], .null),
  (136, .iload 7, 2, [], .null),
  (138, .invokevirtual 265, 3, [35, 1, 0], .null),
  (141, .lstore 8, 2, [], .null),
  (143, .lload 8, 2, [], .null),
  (145, .lload_n 3, 1, [], .null),
  (146, .lcmp, 1, [], .null),
  (147, .ifCond .le 11, 3, [], .null),
  (150, .aload_n 0, 1, [], .null),
  (151, .lload_n 3, 1, [], .null),
  (152, .putfield 183, 3, [0, 8, 1, 0], .null),
  (155, .goto 15, 3, [], .null),
  (158, .aload_n 0, 1, [], .null),
  (159, .lload 8, 2, [], .null),
  (161, .putfield 183, 3, [0, 8, 1, 0], .null),
  (164, .iinc 5 1, 3, [], .null),
  (167, .goto (-144), 3, [], .null),
  (170, .aload_n 0, 1, [], .null),
  (171, .getfield 75, 3, [0, 17], .null),
  (174, .getfield 243, 3, [8, 3], .null),
  (177, .ireturn, 1, [], .null)])
def jp_J_stall : jx_Me := (⟨"JobHouse", "stall", "(J)V"⟩, prog_1_method_15_code, 3, none, [], [
  (0, .aload_n 0, 1, [], .null),
  (1, .lload_n 1, 1, [], .null),
  (2, .invokevirtual 239, 3, [22, 1, 0], .null),
  (5, .aload_n 0, 1, [], .null),
  (6, .dup, 1, [], .null),
  (7, .getfield 183, 3, [0, 8], .null),
  (10, .lload_n 1, 1, [], .null),
  (11, .ladd, 1, [], .null),
  (12, .putfield 183, 3, [0, 8, 1, 0], .null),
  (15, .return_, 1, [], .null)])
def jp_J_close : jx_Me := (⟨"JobHouse", "close", "(ZZ)I"⟩, prog_1_method_16_code, 6, (some FieldType.int), [], [
  (0, .aload_n 0, 1, [], .null),
  (1, .invokevirtual 194, 3, [23, 0, 0], .null),
  (4, .aload_n 0, 1, [], .null),
  (5, .iconst 1, 1, [], .int 1),
  (6, .putfield 269, 3, [0, 16, 2, 0], .null),
  (9, .iconst 0, 1, [], .int 0),
  (10, .istore_n 3, 1, [], .null),
  (11, .iload_n 3, 1, [], .null),
  (12, .aload_n 0, 1, [], .null),
  (13, .getfield 273, 3, [0, 10], .null),
  (16, .if_icmp .ge 83, 3, [], .null),
  (19, .aload_n 0, 1, [], .null),
  (20, .getfield 60, 3, [0, 9], .null),
  (23, .iload_n 3, 1, [], .null),
  (24, .aaload, 1, [], .null),
  (25, .astore 4, 2, [], .null),
  (27, .aload 4, 2, [], .null),
  (29, .getfield 205, 3, [7, 1], .null),
  (32, .ifCond .ne 7, 3, [], .null),
  (35, .iload_n 1, 1, [], .null),
  (36, .goto 4, 3, [], .null),
  (39, .iload_n 2, 1, [], .null),
  (40, .istore 5, 2, [], .null),
  (42, .iload 5, 2, [], .null),
  (44, .ifCond .eq 21, 3, [], .null),
  (47, .aload 4, 2, [], .null),
  (49, .getfield 230, 3, [7, 0], .null),
  (52, .iconst 1, 1, [], .int 1),
  (53, .if_icmp .ne 12, 3, [], .null),
  (56, .aload_n 0, 1, [], .null),
  (57, .aload 4, 2, [], .null),
  (59, .invokevirtual 233, 3, [28, 1, 0], .null),
  (62, .goto 31, 3, [], .null),
  (65, .iload 5, 2, [], .null),
  (67, .ifCond .eq 26, 3, [], .null),
  (70, .aload 4, 2, [], .null),
  (72, .getfield 230, 3, [7, 0], .null),
  (75, .iconst 2, 1, [], .int 2),
  (76, .if_icmp .ne 17, 3, [], .null),
  (79, .aload 4, 2, [], .null),
  (81, .getfield 205, 3, [7, 1], .null),
  (84, .ifCond .eq 9, 3, [], .null),
  (87, .aload 4, 2, [], .null),
  (89, .iconst 3, 1, [], .int 3),
  (90, .putfield 230, 3, [7, 0, 0, 0], .null),
  (93, .iinc 3 1, 3, [], .null),
  (96, .goto (-85), 3, [], .null),
  (99, .aload_n 0, 1, [], .null),
  (100, .getfield 276, 3, [0, 11], .null),
  (103, .ireturn, 1, [], .null)])
def jp_J_job : jx_Me := (⟨"JobHouse", "job", "(II)J"⟩, prog_1_method_17_code, 4, (some FieldType.long), [], [
  (0, .iload_n 2, 1, [], .null),
  (1, .i2l, 1, [], .null),
  (2, .lconst 0, 1, [], .long 0),
  (3, .ldc2_w 279, 3, [], .long 4),
  (6, .invokestatic 89, 3, [19, 3], .null),
  (9, .aload_n 0, 1, [], .null),
  (10, .iload_n 1, 1, [], .null),
  (11, .invokevirtual 226, 3, [29, 1, 0], .null),
  (14, .astore_n 3, 1, [], .null),
  (15, .iload_n 2, 1, [], .null),
  (16, .tableswitch 55 0 3 #[32, 38, 43, 49], 32, [], .null),
  (48, .aload_n 3, 1, [], .null),
  (49, .getfield 230, 3, [7, 0], .null),
  (52, .i2l, 1, [], .null),
  (53, .lreturn, 1, [], .null),
  (54, .aload_n 3, 1, [], .null),
  (55, .getfield 211, 3, [7, 4], .null),
  (58, .lreturn, 1, [], .null),
  (59, .aload_n 3, 1, [], .null),
  (60, .getfield 281, 3, [7, 3], .null),
  (63, .i2l, 1, [], .null),
  (64, .lreturn, 1, [], .null),
  (65, .aload_n 3, 1, [], .null),
  (66, .getfield 284, 3, [7, 2], .null),
  (69, .i2l, 1, [], .null),
  (70, .lreturn, 1, [], .null),
  (71, .aload_n 3, 1, [], .null),
  (72, .getfield 230, 3, [7, 0], .null),
  (75, .iconst 1, 1, [], .int 1),
  (76, .if_icmp .ne 9, 3, [], .null),
  (79, .ldc2_w 287, 3, [], .long (-1)),
  (82, .goto 7, 3, [], .null),
  (85, .aload_n 3, 1, [], .null),
  (86, .getfield 289, 3, [7, 5], .null),
  (89, .lreturn, 1, [], .null)])
def jp_J_start : jx_Me := (⟨"JobHouse", "start", "(II)J"⟩, prog_1_method_18_code, 3, (some FieldType.long), [], [
  (0, .iload_n 2, 1, [], .null),
  (1, .i2l, 1, [], .null),
  (2, .lconst 0, 1, [], .long 0),
  (3, .ldc2_w 179, 3, [], .long 2),
  (6, .invokestatic 89, 3, [19, 3], .null),
  (9, .iload_n 1, 1, [], .null),
  (10, .ifCond .lt 14, 3, [], .null),
  (13, .iload_n 1, 1, [], .null),
  (14, .aload_n 0, 1, [], .null),
  (15, .getfield 75, 3, [0, 17], .null),
  (18, .getfield 243, 3, [8, 3], .null),
  (21, .if_icmp .lt 11, 3, [], .null),
  (24, .new 292, 3, [14], .null),
  (32, .iload_n 2, 1, [], .null),
  (33, .lookupswitch 48 #[(0, 27), (1, 37)], 27, [], .null),
  (60, .aload_n 0, 1, [], .null),
  (61, .getfield 75, 3, [0, 17], .null),
  (64, .getfield 295, 3, [8, 0], .null),
  (67, .iload_n 1, 1, [], .null),
  (68, .laload, 1, [], .null),
  (69, .lreturn, 1, [], .null),
  (70, .aload_n 0, 1, [], .null),
  (71, .getfield 75, 3, [0, 17], .null),
  (74, .getfield 299, 3, [8, 1], .null),
  (77, .iload_n 1, 1, [], .null),
  (78, .iaload, 1, [], .null),
  (79, .i2l, 1, [], .null),
  (80, .lreturn, 1, [], .null),
  (81, .aload_n 0, 1, [], .null),
  (82, .getfield 75, 3, [0, 17], .null),
  (85, .getfield 302, 3, [8, 2], .null),
  (88, .iload_n 1, 1, [], .null),
  (89, .laload, 1, [], .null),
  (90, .lreturn, 1, [], .null)])
def jp_J_count : jx_Me := (⟨"JobHouse", "count", "(I)J"⟩, prog_1_method_19_code, 2, (some FieldType.long), [], [
  (0, .iload_n 1, 1, [], .null),
  (1, .i2l, 1, [], .null),
  (2, .lconst 0, 1, [], .long 0),
  (3, .ldc2_w 305, 3, [], .long 5),
  (6, .invokestatic 89, 3, [19, 3], .null),
  (9, .iload_n 1, 1, [], .null),
  (10, .tableswitch 68 0 4 #[34, 39, 45, 51, 59], 34, [], .null),
  (44, .aload_n 0, 1, [], .null),
  (45, .getfield 183, 3, [0, 8], .null),
  (48, .lreturn, 1, [], .null),
  (49, .aload_n 0, 1, [], .null),
  (50, .getfield 276, 3, [0, 11], .null),
  (53, .i2l, 1, [], .null),
  (54, .lreturn, 1, [], .null),
  (55, .aload_n 0, 1, [], .null),
  (56, .getfield 256, 3, [0, 14], .null),
  (59, .i2l, 1, [], .null),
  (60, .lreturn, 1, [], .null),
  (61, .aload_n 0, 1, [], .null),
  (62, .getfield 75, 3, [0, 17], .null),
  (65, .getfield 307, 3, [8, 4], .null),
  (68, .lreturn, 1, [], .null),
  (69, .aload_n 0, 1, [], .null),
  (70, .getfield 10, 3, [0, 0], .null),
  (73, .getfield 80, 3, [1, 1], .null),
  (76, .i2l, 1, [], .null),
  (77, .lreturn, 1, [], .null),
  (78, .aload_n 0, 1, [], .null),
  (79, .getfield 10, 3, [0, 0], .null),
  (82, .getfield 310, 3, [1, 3], .null),
  (85, .i2l, 1, [], .null),
  (86, .lreturn, 1, [], .null)])
def jp_J_checkRange : jx_Me := (⟨"JobHouse", "checkRange", "(JJJ)V"⟩, prog_1_method_20_code, 6, none, [], [
  (0, .lload_n 0, 1, [], .null),
  (1, .lload_n 2, 1, [], .null),
  (2, .lcmp, 1, [], .null),
  (3, .ifCond .lt 10, 3, [], .null),
  (6, .lload_n 0, 1, [], .null),
  (7, .lload 4, 2, [], .null),
  (9, .lcmp, 1, [], .null),
  (10, .ifCond .le 11, 3, [], .null),
  (13, .new 313, 3, [11], .null),
  (21, .return_, 1, [], .null)])
def jp_J_checkSearch : jx_Me := (⟨"JobHouse", "checkSearch", "(III)V"⟩, prog_1_method_21_code, 3, none, [], [
  (0, .iload_n 0, 1, [], .null),
  (1, .i2l, 1, [], .null),
  (2, .lconst 0, 1, [], .long 0),
  (3, .ldc2_w 105, 3, [], .long 15),
  (6, .invokestatic 89, 3, [19, 3], .null),
  (9, .iload_n 1, 1, [], .null),
  (10, .i2l, 1, [], .null),
  (11, .lconst 0, 1, [], .long 0),
  (12, .ldc2_w 93, 3, [], .long 7),
  (15, .invokestatic 89, 3, [19, 3], .null),
  (18, .iload_n 2, 1, [], .null),
  (19, .i2l, 1, [], .null),
  (20, .ldc2_w 287, 3, [], .long (-1)),
  (23, .ldc2_w 113, 3, [], .long 3),
  (26, .invokestatic 89, 3, [19, 3], .null),
  (29, .return_, 1, [], .null)])
def jp_J_checkRun : jx_Me := (⟨"JobHouse", "checkRun", "(JII)V"⟩, prog_1_method_22_code, 4, none, [], [
  (0, .lload_n 0, 1, [], .null),
  (1, .lconst 0, 1, [], .long 0),
  (2, .ldc2_w 181, 3, [], .long 1099511627776),
  (5, .invokestatic 89, 3, [19, 3], .null),
  (8, .iload_n 2, 1, [], .null),
  (9, .i2l, 1, [], .null),
  (10, .lconst 0, 1, [], .long 0),
  (11, .ldc2_w 179, 3, [], .long 2),
  (14, .invokestatic 89, 3, [19, 3], .null),
  (17, .iload_n 3, 1, [], .null),
  (18, .i2l, 1, [], .null),
  (19, .lconst 0, 1, [], .long 0),
  (20, .ldc2_w 316, 3, [], .long 1152921504606846976),
  (23, .invokestatic 89, 3, [19, 3], .null),
  (26, .return_, 1, [], .null)])
def jp_J_checkWay : jx_Me := (⟨"JobHouse", "checkWay", "(J)V"⟩, prog_1_method_23_code, 3, none, [], [
  (0, .lload_n 1, 1, [], .null),
  (1, .lconst 0, 1, [], .long 0),
  (2, .ldc2_w 318, 3, [], .long 8796093022208),
  (5, .ldc2_w 135, 3, [], .long 10413791999999),
  (8, .aload_n 0, 1, [], .null),
  (9, .getfield 183, 3, [0, 8], .null),
  (12, .lsub, 1, [], .null),
  (13, .invokestatic 187, 3, [193, 2], .null),
  (16, .invokestatic 89, 3, [19, 3], .null),
  (19, .return_, 1, [], .null)])
def jp_J_checkOpen : jx_Me := (⟨"JobHouse", "checkOpen", "()V"⟩, prog_1_method_24_code, 1, none, [], [
  (0, .aload_n 0, 1, [], .null),
  (1, .getfield 269, 3, [0, 16], .null),
  (4, .ifCond .eq 11, 3, [], .null),
  (7, .new 320, 3, [13], .null),
  (15, .return_, 1, [], .null)])
def jp_J_checkNotBroken : jx_Me := (⟨"JobHouse", "checkNotBroken", "()V"⟩, prog_1_method_25_code, 1, none, [], [
  (0, .aload_n 0, 1, [], .null),
  (1, .getfield 10, 3, [0, 0], .null),
  (4, .getfield 310, 3, [1, 3], .null),
  (7, .iconst (-1), 1, [], .int (-1)),
  (8, .if_icmp .eq 11, 3, [], .null),
  (11, .new 214, 3, [12], .null),
  (19, .return_, 1, [], .null)])
def jp_J_aimAt : jx_Me := (⟨"JobHouse", "aimAt", "(III)V"⟩, prog_1_method_26_code, 4, none, [], [
  (0, .aload_n 0, 1, [], .null),
  (1, .getfield 44, 3, [0, 5], .null),
  (4, .aload_n 0, 1, [], .null),
  (5, .getfield 24, 3, [0, 2], .null),
  (8, .iload_n 1, 1, [], .null),
  (9, .aaload, 1, [], .null),
  (10, .putfield 323, 3, [6, 0, 4, 0], .null),
  (13, .aload_n 0, 1, [], .null),
  (14, .getfield 44, 3, [0, 5], .null),
  (17, .aload_n 0, 1, [], .null),
  (18, .getfield 18, 3, [0, 1], .null),
  (21, .iload_n 2, 1, [], .null),
  (22, .aaload, 1, [], .null),
  (23, .putfield 326, 3, [6, 1, 4, 0], .null),
  (26, .aload_n 0, 1, [], .null),
  (27, .getfield 44, 3, [0, 5], .null),
  (30, .iload_n 3, 1, [], .null),
  (31, .ifCond .ge 10, 3, [], .null),
  (34, .aload_n 0, 1, [], .null),
  (35, .getfield 37, 3, [0, 4], .null),
  (38, .goto 9, 3, [], .null),
  (41, .aload_n 0, 1, [], .null),
  (42, .getfield 30, 3, [0, 3], .null),
  (45, .iload_n 3, 1, [], .null),
  (46, .aaload, 1, [], .null),
  (47, .putfield 329, 3, [6, 2, 4, 0], .null),
  (50, .return_, 1, [], .null)])
def jp_J_freeSlot : jx_Me := (⟨"JobHouse", "freeSlot", "()I"⟩, prog_1_method_27_code, 2, (some FieldType.int), [], [
  (0, .iconst 0, 1, [], .int 0),
  (1, .istore_n 1, 1, [], .null),
  (2, .iload_n 1, 1, [], .null),
  (3, .bipush 100, 2, [], .int 100),
  (5, .if_icmp .ge 23, 3, [], .null),
  (8, .aload_n 0, 1, [], .null),
  (9, .getfield 60, 3, [0, 9], .null),
  (12, .iload_n 1, 1, [], .null),
  (13, .aaload, 1, [], .null),
  (14, .getfield 230, 3, [7, 0], .null),
  (17, .ifCond .ne 5, 3, [], .null),
  (20, .iload_n 1, 1, [], .null),
  (21, .ireturn, 1, [], .null),
  (22, .iinc 1 1, 3, [], .null),
  (25, .goto (-23), 3, [], .null),
  (28, .new 83, 3, [10], .null)])
def jp_J_fill : jx_Me := (⟨"JobHouse", "fill", "(LJobHouse$Job;JIII)V"⟩, prog_1_method_28_code, 7, none, [], [
  (0, .aload_n 1, 1, [], .null),
  (1, .iconst 1, 1, [], .int 1),
  (2, .putfield 230, 3, [7, 0, 0, 0], .null),
  (5, .aload_n 1, 1, [], .null),
  (6, .lload_n 2, 1, [], .null),
  (7, .putfield 332, 3, [7, 7, 1, 0], .null),
  (10, .aload_n 1, 1, [], .null),
  (11, .iload 4, 2, [], .null),
  (13, .putfield 335, 3, [7, 8, 0, 0], .null),
  (16, .aload_n 1, 1, [], .null),
  (17, .iload 5, 2, [], .null),
  (19, .putfield 338, 3, [7, 9, 0, 0], .null),
  (22, .aload_n 1, 1, [], .null),
  (23, .iload 6, 2, [], .null),
  (25, .putfield 341, 3, [7, 10, 0, 0], .null),
  (28, .aload_n 1, 1, [], .null),
  (29, .iconst 0, 1, [], .int 0),
  (30, .putfield 281, 3, [7, 3, 0, 0], .null),
  (33, .aload_n 1, 1, [], .null),
  (34, .aload_n 0, 1, [], .null),
  (35, .getfield 344, 3, [0, 12], .null),
  (38, .putfield 284, 3, [7, 2, 0, 0], .null),
  (41, .aload_n 0, 1, [], .null),
  (42, .dup, 1, [], .null),
  (43, .getfield 344, 3, [0, 12], .null),
  (46, .iconst 1, 1, [], .int 1),
  (47, .iadd, 1, [], .null),
  (48, .putfield 344, 3, [0, 12, 0, 0], .null),
  (51, .aload_n 0, 1, [], .null),
  (52, .dup, 1, [], .null),
  (53, .getfield 276, 3, [0, 11], .null),
  (56, .iconst 1, 1, [], .int 1),
  (57, .iadd, 1, [], .null),
  (58, .putfield 276, 3, [0, 11, 0, 0], .null),
  (61, .aload_n 0, 1, [], .null),
  (62, .aload_n 0, 1, [], .null),
  (63, .getfield 273, 3, [0, 10], .null),
  (66, .aload_n 0, 1, [], .null),
  (67, .getfield 276, 3, [0, 11], .null),
  (70, .invokestatic 347, 3, [190, 2], .null),
  (73, .putfield 273, 3, [0, 10, 0, 0], .null),
  (76, .return_, 1, [], .null)])
def jp_J_remove : jx_Me := (⟨"JobHouse", "remove", "(LJobHouse$Job;)V"⟩, prog_1_method_29_code, 2, none, [], [
  (0, .aload_n 1, 1, [], .null),
  (1, .iconst 0, 1, [], .int 0),
  (2, .putfield 230, 3, [7, 0, 0, 0], .null),
  (5, .aload_n 0, 1, [], .null),
  (6, .dup, 1, [], .null),
  (7, .getfield 276, 3, [0, 11], .null),
  (10, .iconst 1, 1, [], .int 1),
  (11, .isub, 1, [], .null),
  (12, .putfield 276, 3, [0, 11, 0, 0], .null),
  (15, .return_, 1, [], .null)])
def jp_J_jobAt : jx_Me := (⟨"JobHouse", "jobAt", "(I)LJobHouse$Job;"⟩, prog_1_method_30_code, 2, (some (FieldType.object "JobHouse$Job")), [], [
  (0, .iload_n 1, 1, [], .null),
  (1, .ifCond .lt 21, 3, [], .null),
  (4, .iload_n 1, 1, [], .null),
  (5, .bipush 100, 2, [], .int 100),
  (7, .if_icmp .ge 15, 3, [], .null),
  (10, .aload_n 0, 1, [], .null),
  (11, .getfield 60, 3, [0, 9], .null),
  (14, .iload_n 1, 1, [], .null),
  (15, .aaload, 1, [], .null),
  (16, .getfield 230, 3, [7, 0], .null),
  (19, .ifCond .ne 11, 3, [], .null),
  (22, .new 292, 3, [14], .null),
  (30, .aload_n 0, 1, [], .null),
  (31, .getfield 60, 3, [0, 9], .null),
  (34, .iload_n 1, 1, [], .null),
  (35, .aaload, 1, [], .null),
  (36, .areturn, 1, [], .null)])
def jp_J_firstEnded : jx_Me := (⟨"JobHouse", "firstEnded", "()I"⟩, prog_1_method_31_code, 4, (some FieldType.int), [], [
  (0, .iconst (-1), 1, [], .int (-1)),
  (1, .istore_n 1, 1, [], .null),
  (2, .iconst 0, 1, [], .int 0),
  (3, .istore_n 2, 1, [], .null),
  (4, .iload_n 2, 1, [], .null),
  (5, .aload_n 0, 1, [], .null),
  (6, .getfield 256, 3, [0, 14], .null),
  (9, .if_icmp .ge 60, 3, [], .null),
  (12, .aload_n 0, 1, [], .null),
  (13, .getfield 60, 3, [0, 9], .null),
  (16, .aload_n 0, 1, [], .null),
  (17, .getfield 64, 3, [0, 13], .null),
  (20, .iload_n 2, 1, [], .null),
  (21, .iaload, 1, [], .null),
  (22, .aaload, 1, [], .null),
  (23, .astore_n 3, 1, [], .null),
  (24, .aload_n 3, 1, [], .null),
  (25, .getfield 289, 3, [7, 5], .null),
  (28, .aload_n 0, 1, [], .null),
  (29, .getfield 183, 3, [0, 8], .null),
  (32, .lcmp, 1, [], .null),
  (33, .ifCond .gt 30, 3, [], .null),
  (36, .iload_n 1, 1, [], .null),
  (37, .ifCond .lt 24, 3, [], .null),
  (40, .aload_n 3, 1, [], .null),
  (41, .getfield 284, 3, [7, 2], .null),
  (44, .aload_n 0, 1, [], .null),
  (45, .getfield 60, 3, [0, 9], .null),
  (48, .aload_n 0, 1, [], .null),
  (49, .getfield 64, 3, [0, 13], .null),
  (52, .iload_n 1, 1, [], .null),
  (53, .iaload, 1, [], .null),
  (54, .aaload, 1, [], .null),
  (55, .getfield 284, 3, [7, 2], .null),
  (58, .if_icmp .ge 5, 3, [], .null),
  (61, .iload_n 2, 1, [], .null),
  (62, .istore_n 1, 1, [], .null),
  (63, .iinc 2 1, 3, [], .null),
  (66, .goto (-62), 3, [], .null),
  (69, .iload_n 1, 1, [], .null),
  (70, .ireturn, 1, [], .null)])
def jp_J_nominalBehind : jx_Me := (⟨"JobHouse", "nominalBehind", "(LJobHouse$Job;)J"⟩, prog_1_method_32_code, 4, (some FieldType.long), [], [
  (0, .aload_n 1, 1, [], .null),
  (1, .invokevirtual 350, 3, [141, 0, 7], .null),
  (4, .ifCond .eq 7, 3, [], .null),
  (7, .ldc2_w 287, 3, [], .long (-1)),
  (10, .lreturn, 1, [], .null),
  (11, .aload_n 1, 1, [], .null),
  (12, .getfield 205, 3, [7, 1], .null),
  (15, .iconst 2, 1, [], .int 2),
  (16, .if_icmp .ne 13, 3, [], .null),
  (19, .aload_n 0, 1, [], .null),
  (20, .getfield 183, 3, [0, 8], .null),
  (23, .aload_n 1, 1, [], .null),
  (24, .getfield 208, 3, [7, 6], .null),
  (27, .ladd, 1, [], .null),
  (28, .lreturn, 1, [], .null),
  (29, .aload_n 1, 1, [], .null),
  (30, .getfield 205, 3, [7, 1], .null),
  (33, .iconst 1, 1, [], .int 1),
  (34, .if_icmp .ne 12, 3, [], .null),
  (37, .aload_n 1, 1, [], .null),
  (38, .aload_n 0, 1, [], .null),
  (39, .getfield 183, 3, [0, 8], .null),
  (42, .invokevirtual 354, 3, [142, 1, 7], .null),
  (45, .lreturn, 1, [], .null),
  (46, .aload_n 0, 1, [], .null),
  (47, .aload_n 1, 1, [], .null),
  (48, .getfield 217, 3, [7, 11], .null),
  (51, .aload_n 1, 1, [], .null),
  (52, .getfield 220, 3, [7, 12], .null),
  (55, .aload_n 1, 1, [], .null),
  (56, .getfield 223, 3, [7, 13], .null),
  (59, .invokevirtual 137, 3, [25, 3, 0], .null),
  (62, .aload_n 1, 1, [], .null),
  (63, .getfield 338, 3, [7, 9], .null),
  (66, .iconst 1, 1, [], .int 1),
  (67, .if_icmp .ne 26, 3, [], .null),
  (70, .aload_n 0, 1, [], .null),
  (71, .getfield 44, 3, [0, 5], .null),
  (74, .aload_n 0, 1, [], .null),
  (75, .getfield 183, 3, [0, 8], .null),
  (78, .invokevirtual 144, 3, [128, 1, 6], .null),
  (81, .lstore_n 2, 1, [], .null),
  (82, .lload_n 2, 1, [], .null),
  (83, .aload_n 1, 1, [], .null),
  (84, .getfield 211, 3, [7, 4], .null),
  (87, .lcmp, 1, [], .null),
  (88, .ifCond .le 5, 3, [], .null),
  (91, .lload_n 2, 1, [], .null),
  (92, .lreturn, 1, [], .null),
  (93, .aload_n 0, 1, [], .null),
  (94, .getfield 44, 3, [0, 5], .null),
  (97, .aload_n 1, 1, [], .null),
  (98, .getfield 338, 3, [7, 9], .null),
  (101, .iconst 2, 1, [], .int 2),
  (102, .if_icmp .ne 10, 3, [], .null),
  (105, .aload_n 0, 1, [], .null),
  (106, .getfield 183, 3, [0, 8], .null),
  (109, .goto 7, 3, [], .null),
  (112, .aload_n 1, 1, [], .null),
  (113, .getfield 211, 3, [7, 4], .null),
  (116, .invokevirtual 140, 3, [127, 1, 6], .null),
  (119, .lreturn, 1, [], .null)])
def jp_J_free : jx_Me := (⟨"JobHouse", "free", "(IJ)V"⟩, prog_1_method_33_code, 5, none, [], [
  (0, .aload_n 0, 1, [], .null),
  (1, .getfield 60, 3, [0, 9], .null),
  (4, .aload_n 0, 1, [], .null),
  (5, .getfield 64, 3, [0, 13], .null),
  (8, .iload_n 1, 1, [], .null),
  (9, .iaload, 1, [], .null),
  (10, .aaload, 1, [], .null),
  (11, .astore 4, 2, [], .null),
  (13, .aload_n 0, 1, [], .null),
  (14, .dup, 1, [], .null),
  (15, .getfield 256, 3, [0, 14], .null),
  (18, .iconst 1, 1, [], .int 1),
  (19, .isub, 1, [], .null),
  (20, .putfield 256, 3, [0, 14, 0, 0], .null),
  (23, .aload_n 0, 1, [], .null),
  (24, .getfield 64, 3, [0, 13], .null),
  (27, .iload_n 1, 1, [], .null),
  (28, .aload_n 0, 1, [], .null),
  (29, .getfield 64, 3, [0, 13], .null),
  (32, .aload_n 0, 1, [], .null),
  (33, .getfield 256, 3, [0, 14], .null),
  (36, .iaload, 1, [], .null),
  (37, .iastore, 1, [], .null),
  (38, .lload_n 2, 1, [], .null),
  (39, .lconst 0, 1, [], .long 0),
  (40, .lcmp, 1, [], .null),
  (41, .ifCond .lt 11, 3, [], .null),
  (44, .lload_n 2, 1, [], .null),
  (45, .ldc2_w 135, 3, [], .long 10413791999999),
  (48, .lcmp, 1, [], .null),
  (49, .ifCond .le 12, 3, [], .null),
  (52, .aload_n 0, 1, [], .null),
  (53, .aload 4, 2, [], .null),
  (55, .invokevirtual 233, 3, [28, 1, 0], .null),
  (58, .goto 15, 3, [], .null),
  (61, .aload 4, 2, [], .null),
  (63, .lload_n 2, 1, [], .null),
  (64, .putfield 211, 3, [7, 4, 1, 0], .null),
  (67, .aload 4, 2, [], .null),
  (69, .iconst 1, 1, [], .int 1),
  (70, .putfield 230, 3, [7, 0, 0, 0], .null),
  (73, .return_, 1, [], .null)])
def jp_J_firstPending : jx_Me := (⟨"JobHouse", "firstPending", "()I"⟩, prog_1_method_34_code, 3, (some FieldType.int), [], [
  (0, .iconst (-1), 1, [], .int (-1)),
  (1, .istore_n 1, 1, [], .null),
  (2, .iconst 0, 1, [], .int 0),
  (3, .istore_n 2, 1, [], .null),
  (4, .iload_n 2, 1, [], .null),
  (5, .aload_n 0, 1, [], .null),
  (6, .getfield 273, 3, [0, 10], .null),
  (9, .if_icmp .ge 46, 3, [], .null),
  (12, .aload_n 0, 1, [], .null),
  (13, .getfield 60, 3, [0, 9], .null),
  (16, .iload_n 2, 1, [], .null),
  (17, .aaload, 1, [], .null),
  (18, .getfield 230, 3, [7, 0], .null),
  (21, .iconst 1, 1, [], .int 1),
  (22, .if_icmp .ne 27, 3, [], .null),
  (25, .iload_n 1, 1, [], .null),
  (26, .ifCond .lt 21, 3, [], .null),
  (29, .aload_n 0, 1, [], .null),
  (30, .getfield 60, 3, [0, 9], .null),
  (33, .iload_n 2, 1, [], .null),
  (34, .aaload, 1, [], .null),
  (35, .aload_n 0, 1, [], .null),
  (36, .getfield 60, 3, [0, 9], .null),
  (39, .iload_n 1, 1, [], .null),
  (40, .aaload, 1, [], .null),
  (41, .invokevirtual 357, 3, [140, 1, 7], .null),
  (44, .ifCond .eq 5, 3, [], .null),
  (47, .iload_n 2, 1, [], .null),
  (48, .istore_n 1, 1, [], .null),
  (49, .iinc 2 1, 3, [], .null),
  (52, .goto (-48), 3, [], .null),
  (55, .iload_n 1, 1, [], .null),
  (56, .ireturn, 1, [], .null)])
def jp_J_begin : jx_Me := (⟨"JobHouse", "begin", "(I)V"⟩, prog_1_method_35_code, 3, none, [], [
  (0, .aload_n 0, 1, [], .null),
  (1, .getfield 60, 3, [0, 9], .null),
  (4, .iload_n 1, 1, [], .null),
  (5, .aaload, 1, [], .null),
  (6, .astore_n 2, 1, [], .null),
  (7, .aload_n 2, 1, [], .null),
  (8, .iconst 2, 1, [], .int 2),
  (9, .putfield 230, 3, [7, 0, 0, 0], .null),
  (12, .aload_n 2, 1, [], .null),
  (13, .dup, 1, [], .null),
  (14, .getfield 281, 3, [7, 3], .null),
  (17, .iconst 1, 1, [], .int 1),
  (18, .iadd, 1, [], .null),
  (19, .putfield 281, 3, [7, 3, 0, 0], .null),
  (22, .aload_n 2, 1, [], .null),
  (23, .aload_n 0, 1, [], .null),
  (24, .getfield 183, 3, [0, 8], .null),
  (27, .aload_n 2, 1, [], .null),
  (28, .getfield 332, 3, [7, 7], .null),
  (31, .ladd, 1, [], .null),
  (32, .putfield 289, 3, [7, 5, 1, 0], .null),
  (35, .aload_n 0, 1, [], .null),
  (36, .getfield 256, 3, [0, 14], .null),
  (39, .bipush 8, 2, [], .int 8),
  (41, .if_icmp .ge 23, 3, [], .null),
  (44, .aload_n 0, 1, [], .null),
  (45, .getfield 64, 3, [0, 13], .null),
  (48, .aload_n 0, 1, [], .null),
  (49, .getfield 256, 3, [0, 14], .null),
  (52, .iload_n 1, 1, [], .null),
  (53, .iastore, 1, [], .null),
  (54, .aload_n 0, 1, [], .null),
  (55, .dup, 1, [], .null),
  (56, .getfield 256, 3, [0, 14], .null),
  (59, .iconst 1, 1, [], .int 1),
  (60, .iadd, 1, [], .null),
  (61, .putfield 256, 3, [0, 14, 0, 0], .null),
  (64, .aload_n 0, 1, [], .null),
  (65, .getfield 75, 3, [0, 17], .null),
  (68, .aload_n 0, 1, [], .null),
  (69, .getfield 183, 3, [0, 8], .null),
  (72, .iload_n 1, 1, [], .null),
  (73, .aload_n 2, 1, [], .null),
  (74, .getfield 211, 3, [7, 4], .null),
  (77, .invokevirtual 361, 3, [144, 3, 8], .null),
  (80, .return_, 1, [], .null)])
def jp_J_nextTime : jx_Me := (⟨"JobHouse", "nextTime", "(I)J"⟩, prog_1_method_36_code, 5, (some FieldType.long), [], [
  (0, .iload_n 1, 1, [], .null),
  (1, .ifCond .ge 9, 3, [], .null),
  (4, .ldc2_w 316, 3, [], .long 1152921504606846976),
  (7, .goto 12, 3, [], .null),
  (10, .aload_n 0, 1, [], .null),
  (11, .getfield 60, 3, [0, 9], .null),
  (14, .iload_n 1, 1, [], .null),
  (15, .aaload, 1, [], .null),
  (16, .getfield 211, 3, [7, 4], .null),
  (19, .lstore_n 2, 1, [], .null),
  (20, .iconst 0, 1, [], .int 0),
  (21, .istore 4, 2, [], .null),
  (23, .iload 4, 2, [], .null),
  (25, .aload_n 0, 1, [], .null),
  (26, .getfield 256, 3, [0, 14], .null),
  (29, .if_icmp .ge 29, 3, [], .null),
  (32, .lload_n 2, 1, [], .null),
  (33, .aload_n 0, 1, [], .null),
  (34, .getfield 60, 3, [0, 9], .null),
  (37, .aload_n 0, 1, [], .null),
  (38, .getfield 64, 3, [0, 13], .null),
  (41, .iload 4, 2, [], .null),
  (43, .iaload, 1, [], .null),
  (44, .aaload, 1, [], .null),
  (45, .getfield 289, 3, [7, 5], .null),
  (48, .invokestatic 187, 3, [193, 2], .null),
  (51, .lstore_n 2, 1, [], .null),
  (52, .iinc 4 1, 3, [], .null),
  (55, .goto (-32), 3, [], .null),
  (58, .lload_n 2, 1, [], .null),
  (59, .lreturn, 1, [], .null)])
def jp_M_init : jx_Me := (⟨"JobHouseModel", "<init>", "()V"⟩, prog_13_method_1_code, 2, none, [], [
  (0, .aload_n 0, 1, [], .null),
  (1, .invokespecial 1, 3, [9003, 0], .null),
  (4, .aload_n 0, 1, [], .null),
  (5, .sipush 400, 3, [], .int 400),
  (8, .newarray .byte, 2, [0], .null),
  (10, .putfield 7, 3, [9, 1, 4, 1], .null),
  (13, .aload_n 0, 1, [], .null),
  (14, .iconst (-1), 1, [], .int (-1)),
  (15, .putfield 13, 3, [9, 3, 0, 0], .null),
  (18, .aload_n 0, 1, [], .null),
  (19, .bipush 8, 2, [], .int 8),
  (21, .newarray .int, 2, [2], .null),
  (23, .putfield 17, 3, [9, 8, 4, 1], .null),
  (26, .aload_n 0, 1, [], .null),
  (27, .bipush 8, 2, [], .int 8),
  (29, .newarray .int, 2, [2], .null),
  (31, .putfield 21, 3, [9, 9, 4, 1], .null),
  (34, .aload_n 0, 1, [], .null),
  (35, .bipush 8, 2, [], .int 8),
  (37, .sipush 660, 3, [], .int 660),
  (40, .multianewarray 24 2, 4, [9, 3], .null),
  (44, .putfield 26, 3, [9, 10, 4, 1], .null),
  (47, .aload_n 0, 1, [], .null),
  (48, .bipush 8, 2, [], .int 8),
  (50, .sipush 660, 3, [], .int 660),
  (53, .multianewarray 29 2, 4, [10, 1], .null),
  (57, .putfield 31, 3, [9, 11, 4, 1], .null),
  (60, .aload_n 0, 1, [], .null),
  (61, .bipush 8, 2, [], .int 8),
  (63, .newarray .int, 2, [2], .null),
  (65, .putfield 34, 3, [9, 12, 4, 1], .null),
  (68, .aload_n 0, 1, [], .null),
  (69, .bipush 8, 2, [], .int 8),
  (71, .newarray .int, 2, [2], .null),
  (73, .putfield 37, 3, [9, 13, 4, 1], .null),
  (76, .aload_n 0, 1, [], .null),
  (77, .bipush 16, 2, [], .int 16),
  (79, .bipush 7, 2, [], .int 7),
  (81, .sipush 330, 3, [], .int 330),
  (84, .multianewarray 40 3, 4, [11, 10, 1], .null),
  (88, .putfield 42, 3, [9, 14, 4, 1], .null),
  (91, .aload_n 0, 1, [], .null),
  (92, .bipush 7, 2, [], .int 7),
  (94, .sipush 330, 3, [], .int 330),
  (97, .multianewarray 29 2, 4, [10, 1], .null),
  (101, .putfield 45, 3, [9, 15, 4, 1], .null),
  (104, .aload_n 0, 1, [], .null),
  (105, .bipush 16, 2, [], .int 16),
  (107, .newarray .boolean, 2, [1], .null),
  (109, .putfield 48, 3, [9, 16, 4, 1], .null),
  (112, .aload_n 0, 1, [], .null),
  (113, .bipush 16, 2, [], .int 16),
  (115, .iconst 2, 1, [], .int 2),
  (116, .multianewarray 52 2, 4, [12, 2], .null),
  (120, .putfield 54, 3, [9, 17, 4, 1], .null),
  (123, .aload_n 0, 1, [], .null),
  (124, .bipush 16, 2, [], .int 16),
  (126, .iconst 2, 1, [], .int 2),
  (127, .multianewarray 52 2, 4, [12, 2], .null),
  (131, .putfield 57, 3, [9, 18, 4, 1], .null),
  (134, .aload_n 0, 1, [], .null),
  (135, .bipush 16, 2, [], .int 16),
  (137, .iconst 2, 1, [], .int 2),
  (138, .multianewarray 52 2, 4, [12, 2], .null),
  (142, .putfield 60, 3, [9, 19, 4, 1], .null),
  (145, .aload_n 0, 1, [], .null),
  (146, .bipush 12, 2, [], .int 12),
  (148, .anewarray 63, 3, [8], .null),
  (151, .dup, 1, [], .null),
  (152, .iconst 0, 1, [], .int 0),
  (153, .ldc 65, 2, [], .ref 5),
  (155, .aastore, 1, [], .null),
  (156, .dup, 1, [], .null),
  (157, .iconst 1, 1, [], .int 1),
  (158, .ldc 67, 2, [], .ref 6),
  (160, .aastore, 1, [], .null),
  (161, .dup, 1, [], .null),
  (162, .iconst 2, 1, [], .int 2),
  (163, .ldc 69, 2, [], .ref 7),
  (165, .aastore, 1, [], .null),
  (166, .dup, 1, [], .null),
  (167, .iconst 3, 1, [], .int 3),
  (168, .ldc 71, 2, [], .ref 8),
  (170, .aastore, 1, [], .null),
  (171, .dup, 1, [], .null),
  (172, .iconst 4, 1, [], .int 4),
  (173, .ldc 73, 2, [], .ref 9),
  (175, .aastore, 1, [], .null),
  (176, .dup, 1, [], .null),
  (177, .iconst 5, 1, [], .int 5),
  (178, .ldc 75, 2, [], .ref 10),
  (180, .aastore, 1, [], .null),
  (181, .dup, 1, [], .null),
  (182, .bipush 6, 2, [], .int 6),
  (184, .ldc 77, 2, [], .ref 11),
  (186, .aastore, 1, [], .null),
  (187, .dup, 1, [], .null),
  (188, .bipush 7, 2, [], .int 7),
  (190, .ldc 79, 2, [], .ref 12),
  (192, .aastore, 1, [], .null),
  (193, .dup, 1, [], .null),
  (194, .bipush 8, 2, [], .int 8),
  (196, .ldc 81, 2, [], .ref 13),
  (198, .aastore, 1, [], .null),
  (199, .dup, 1, [], .null),
  (200, .bipush 9, 2, [], .int 9),
  (202, .ldc 83, 2, [], .ref 14),
  (204, .aastore, 1, [], .null),
  (205, .dup, 1, [], .null),
  (206, .bipush 10, 2, [], .int 10),
  (208, .ldc 85, 2, [], .ref 15),
  (210, .aastore, 1, [], .null),
  (211, .dup, 1, [], .null),
  (212, .bipush 11, 2, [], .int 11),
  (214, .ldc 87, 2, [], .ref 16),
  (216, .aastore, 1, [], .null),
  (217, .putfield 89, 3, [9, 23, 4, 1], .null),
  (220, .aload_n 0, 1, [], .null),
  (221, .bipush 7, 2, [], .int 7),
  (223, .anewarray 63, 3, [8], .null),
  (226, .dup, 1, [], .null),
  (227, .iconst 0, 1, [], .int 0),
  (228, .ldc 93, 2, [], .ref 17),
  (230, .aastore, 1, [], .null),
  (231, .dup, 1, [], .null),
  (232, .iconst 1, 1, [], .int 1),
  (233, .ldc 95, 2, [], .ref 18),
  (235, .aastore, 1, [], .null),
  (236, .dup, 1, [], .null),
  (237, .iconst 2, 1, [], .int 2),
  (238, .ldc 97, 2, [], .ref 19),
  (240, .aastore, 1, [], .null),
  (241, .dup, 1, [], .null),
  (242, .iconst 3, 1, [], .int 3),
  (243, .ldc 99, 2, [], .ref 20),
  (245, .aastore, 1, [], .null),
  (246, .dup, 1, [], .null),
  (247, .iconst 4, 1, [], .int 4),
  (248, .ldc 101, 2, [], .ref 21),
  (250, .aastore, 1, [], .null),
  (251, .dup, 1, [], .null),
  (252, .iconst 5, 1, [], .int 5),
  (253, .ldc 103, 2, [], .ref 22),
  (255, .aastore, 1, [], .null),
  (256, .dup, 1, [], .null),
  (257, .bipush 6, 2, [], .int 6),
  (259, .ldc 105, 2, [], .ref 23),
  (261, .aastore, 1, [], .null),
  (262, .putfield 107, 3, [9, 24, 4, 1], .null),
  (265, .aload_n 0, 1, [], .null),
  (266, .iconst 4, 1, [], .int 4),
  (267, .ldc 110, 2, [], .int 120530),
  (269, .multianewarray 29 2, 4, [10, 1], .null),
  (273, .putfield 111, 3, [9, 25, 4, 1], .null),
  (276, .aload_n 0, 1, [], .null),
  (277, .iconst 4, 1, [], .int 4),
  (278, .newarray .int, 2, [2], .null),
  (280, .putfield 114, 3, [9, 26, 4, 1], .null),
  (283, .aload_n 0, 1, [], .null),
  (284, .bipush 100, 2, [], .int 100),
  (286, .newarray .int, 2, [2], .null),
  (288, .putfield 117, 3, [9, 27, 4, 1], .null),
  (291, .aload_n 0, 1, [], .null),
  (292, .bipush 100, 2, [], .int 100),
  (294, .newarray .int, 2, [2], .null),
  (296, .putfield 120, 3, [9, 28, 4, 1], .null),
  (299, .aload_n 0, 1, [], .null),
  (300, .bipush 100, 2, [], .int 100),
  (302, .newarray .long, 2, [3], .null),
  (304, .putfield 123, 3, [9, 29, 4, 1], .null),
  (307, .aload_n 0, 1, [], .null),
  (308, .bipush 100, 2, [], .int 100),
  (310, .newarray .long, 2, [3], .null),
  (312, .putfield 127, 3, [9, 30, 4, 1], .null),
  (315, .aload_n 0, 1, [], .null),
  (316, .bipush 100, 2, [], .int 100),
  (318, .newarray .long, 2, [3], .null),
  (320, .putfield 130, 3, [9, 31, 4, 1], .null),
  (323, .aload_n 0, 1, [], .null),
  (324, .bipush 100, 2, [], .int 100),
  (326, .newarray .long, 2, [3], .null),
  (328, .putfield 133, 3, [9, 32, 4, 1], .null),
  (331, .aload_n 0, 1, [], .null),
  (332, .bipush 100, 2, [], .int 100),
  (334, .newarray .long, 2, [3], .null),
  (336, .putfield 136, 3, [9, 33, 4, 1], .null),
  (339, .aload_n 0, 1, [], .null),
  (340, .bipush 100, 2, [], .int 100),
  (342, .newarray .long, 2, [3], .null),
  (344, .putfield 139, 3, [9, 34, 4, 1], .null),
  (347, .aload_n 0, 1, [], .null),
  (348, .bipush 100, 2, [], .int 100),
  (350, .newarray .int, 2, [2], .null),
  (352, .putfield 142, 3, [9, 35, 4, 1], .null),
  (355, .aload_n 0, 1, [], .null),
  (356, .bipush 100, 2, [], .int 100),
  (358, .newarray .int, 2, [2], .null),
  (360, .putfield 145, 3, [9, 36, 4, 1], .null),
  (363, .aload_n 0, 1, [], .null),
  (364, .bipush 100, 2, [], .int 100),
  (366, .newarray .int, 2, [2], .null),
  (368, .putfield 148, 3, [9, 37, 4, 1], .null),
  (371, .aload_n 0, 1, [], .null),
  (372, .bipush 100, 2, [], .int 100),
  (374, .newarray .int, 2, [2], .null),
  (376, .putfield 151, 3, [9, 38, 4, 1], .null),
  (379, .aload_n 0, 1, [], .null),
  (380, .bipush 100, 2, [], .int 100),
  (382, .newarray .int, 2, [2], .null),
  (384, .putfield 154, 3, [9, 39, 4, 1], .null),
  (387, .aload_n 0, 1, [], .null),
  (388, .bipush 100, 2, [], .int 100),
  (390, .newarray .int, 2, [2], .null),
  (392, .putfield 157, 3, [9, 40, 4, 1], .null),
  (395, .aload_n 0, 1, [], .null),
  (396, .iconst 4, 1, [], .int 4),
  (397, .putfield 160, 3, [9, 42, 0, 0], .null),
  (400, .aload_n 0, 1, [], .null),
  (401, .sipush 500, 3, [], .int 500),
  (404, .newarray .long, 2, [3], .null),
  (406, .putfield 163, 3, [9, 46, 4, 1], .null),
  (409, .aload_n 0, 1, [], .null),
  (410, .sipush 500, 3, [], .int 500),
  (413, .newarray .int, 2, [2], .null),
  (415, .putfield 166, 3, [9, 47, 4, 1], .null),
  (418, .aload_n 0, 1, [], .null),
  (419, .sipush 500, 3, [], .int 500),
  (422, .newarray .long, 2, [3], .null),
  (424, .putfield 169, 3, [9, 48, 4, 1], .null),
  (427, .iconst 0, 1, [], .int 0),
  (428, .istore_n 1, 1, [], .null),
  (429, .iload_n 1, 1, [], .null),
  (430, .bipush 8, 2, [], .int 8),
  (432, .if_icmp .ge 16, 3, [], .null),
  (435, .aload_n 0, 1, [], .null),
  (436, .getfield 34, 3, [9, 12], .null),
  (439, .iload_n 1, 1, [], .null),
  (440, .iconst 0, 1, [], .int 0),
  (441, .iastore, 1, [], .null),
  (442, .iinc 1 1, 3, [], .null),
  (445, .goto (-16), 3, [], .null),
  (448, .return_, 1, [], .null)])
def jp_M_thrown : jx_Me := (⟨"JobHouseModel", "thrown", "()I"⟩, prog_13_method_2_code, 1, (some FieldType.int), [], [
  (0, .aload_n 0, 1, [], .null),
  (1, .getfield 172, 3, [9, 0], .null),
  (4, .ireturn, 1, [], .null)])
def jp_M_fail : jx_Me := (⟨"JobHouseModel", "fail", "(I)I"⟩, prog_13_method_3_code, 2, (some FieldType.int), [], [
  (0, .aload_n 0, 1, [], .null),
  (1, .iload_n 1, 1, [], .null),
  (2, .putfield 172, 3, [9, 0, 0, 0], .null),
  (5, .iconst 0, 1, [], .int 0),
  (6, .ireturn, 1, [], .null)])
def jp_M_leap : jx_Me := (⟨"JobHouseModel", "leap", "(I)Z"⟩, prog_13_method_4_code, 1, (some FieldType.boolean), [], [
  (0, .iload_n 0, 1, [], .null),
  (1, .iconst 4, 1, [], .int 4),
  (2, .irem, 1, [], .null),
  (3, .ifCond .ne 10, 3, [], .null),
  (6, .iload_n 0, 1, [], .null),
  (7, .bipush 100, 2, [], .int 100),
  (9, .irem, 1, [], .null),
  (10, .ifCond .ne 11, 3, [], .null),
  (13, .iload_n 0, 1, [], .null),
  (14, .sipush 400, 3, [], .int 400),
  (17, .irem, 1, [], .null),
  (18, .ifCond .ne 7, 3, [], .null),
  (21, .iconst 1, 1, [], .int 1),
  (22, .goto 4, 3, [], .null),
  (25, .iconst 0, 1, [], .int 0),
  (26, .ireturn, 1, [], .null)])
def jp_M_length : jx_Me := (⟨"JobHouseModel", "length", "(II)I"⟩, prog_13_method_5_code, 2, (some FieldType.int), [], [
  (0, .iload_n 1, 1, [], .null),
  (1, .iconst 2, 1, [], .int 2),
  (2, .if_icmp .ne 20, 3, [], .null),
  (5, .iload_n 0, 1, [], .null),
  (6, .invokestatic 175, 3, [39, 1], .null),
  (9, .ifCond .eq 8, 3, [], .null),
  (12, .bipush 29, 2, [], .int 29),
  (14, .goto 38, 3, [], .null),
  (17, .bipush 28, 2, [], .int 28),
  (19, .goto 33, 3, [], .null),
  (22, .iload_n 1, 1, [], .null),
  (23, .iconst 4, 1, [], .int 4),
  (24, .if_icmp .eq 21, 3, [], .null),
  (27, .iload_n 1, 1, [], .null),
  (28, .bipush 6, 2, [], .int 6),
  (30, .if_icmp .eq 15, 3, [], .null),
  (33, .iload_n 1, 1, [], .null),
  (34, .bipush 9, 2, [], .int 9),
  (36, .if_icmp .eq 9, 3, [], .null),
  (39, .iload_n 1, 1, [], .null),
  (40, .bipush 11, 2, [], .int 11),
  (42, .if_icmp .ne 8, 3, [], .null),
  (45, .bipush 30, 2, [], .int 30),
  (47, .goto 5, 3, [], .null),
  (50, .bipush 31, 2, [], .int 31),
  (52, .ireturn, 1, [], .null)])
def jp_M_number : jx_Me := (⟨"JobHouseModel", "number", "(II)I"⟩, prog_13_method_6_code, 5, (some FieldType.int), [], [
  (0, .iload_n 0, 1, [], .null),
  (1, .iconst 1, 1, [], .int 1),
  (2, .isub, 1, [], .null),
  (3, .istore_n 2, 1, [], .null),
  (4, .sipush 365, 3, [], .int 365),
  (7, .iload_n 0, 1, [], .null),
  (8, .sipush 1970, 3, [], .int 1970),
  (11, .isub, 1, [], .null),
  (12, .imul, 1, [], .null),
  (13, .iload_n 2, 1, [], .null),
  (14, .iconst 4, 1, [], .int 4),
  (15, .idiv, 1, [], .null),
  (16, .iadd, 1, [], .null),
  (17, .iload_n 2, 1, [], .null),
  (18, .bipush 100, 2, [], .int 100),
  (20, .idiv, 1, [], .null),
  (21, .isub, 1, [], .null),
  (22, .iload_n 2, 1, [], .null),
  (23, .sipush 400, 3, [], .int 400),
  (26, .idiv, 1, [], .null),
  (27, .iadd, 1, [], .null),
  (28, .sipush 477, 3, [], .int 477),
  (31, .isub, 1, [], .null),
  (32, .istore_n 3, 1, [], .null),
  (33, .iconst 1, 1, [], .int 1),
  (34, .istore 4, 2, [], .null),
  (36, .iload 4, 2, [], .null),
  (38, .iload_n 1, 1, [], .null),
  (39, .if_icmp .ge 18, 3, [], .null),
  (42, .iload_n 3, 1, [], .null),
  (43, .iload_n 0, 1, [], .null),
  (44, .iload 4, 2, [], .null),
  (46, .invokestatic 179, 3, [40, 2], .null),
  (49, .iadd, 1, [], .null),
  (50, .istore_n 3, 1, [], .null),
  (51, .iinc 4 1, 3, [], .null),
  (54, .goto (-18), 3, [], .null),
  (57, .iload_n 3, 1, [], .null),
  (58, .ireturn, 1, [], .null)])
def jp_M_date : jx_Me := (⟨"JobHouseModel", "date", "(I)V"⟩, prog_13_method_7_code, 3, none, [], [
  (0, .aload_n 0, 1, [], .null),
  (1, .sipush 1970, 3, [], .int 1970),
  (4, .iload_n 1, 1, [], .null),
  (5, .sipush 365, 3, [], .int 365),
  (8, .invokestatic 183, 3, [186, 2], .null),
  (11, .iadd, 1, [], .null),
  (12, .putfield 188, 3, [9, 4, 0, 0], .null),
  (15, .aload_n 0, 1, [], .null),
  (16, .getfield 188, 3, [9, 4], .null),
  (19, .iconst 1, 1, [], .int 1),
  (20, .invokestatic 191, 3, [41, 2], .null),
  (23, .iload_n 1, 1, [], .null),
  (24, .if_icmp .le 16, 3, [], .null),
  (27, .aload_n 0, 1, [], .null),
  (28, .dup, 1, [], .null),
  (29, .getfield 188, 3, [9, 4], .null),
  (32, .iconst 1, 1, [], .int 1),
  (33, .isub, 1, [], .null),
  (34, .putfield 188, 3, [9, 4, 0, 0], .null),
  (37, .goto (-22), 3, [], .null),
  (40, .iload_n 1, 1, [], .null),
  (41, .aload_n 0, 1, [], .null),
  (42, .getfield 188, 3, [9, 4], .null),
  (45, .iconst 1, 1, [], .int 1),
  (46, .invokestatic 191, 3, [41, 2], .null),
  (49, .isub, 1, [], .null),
  (50, .istore_n 2, 1, [], .null),
  (51, .aload_n 0, 1, [], .null),
  (52, .iconst 1, 1, [], .int 1),
  (53, .putfield 194, 3, [9, 5, 0, 0], .null),
  (56, .iload_n 2, 1, [], .null),
  (57, .aload_n 0, 1, [], .null),
  (58, .getfield 188, 3, [9, 4], .null),
  (61, .aload_n 0, 1, [], .null),
  (62, .getfield 194, 3, [9, 5], .null),
  (65, .invokestatic 179, 3, [40, 2], .null),
  (68, .if_icmp .lt 30, 3, [], .null),
  (71, .iload_n 2, 1, [], .null),
  (72, .aload_n 0, 1, [], .null),
  (73, .getfield 188, 3, [9, 4], .null),
  (76, .aload_n 0, 1, [], .null),
  (77, .getfield 194, 3, [9, 5], .null),
  (80, .invokestatic 179, 3, [40, 2], .null),
  (83, .isub, 1, [], .null),
  (84, .istore_n 2, 1, [], .null),
  (85, .aload_n 0, 1, [], .null),
  (86, .dup, 1, [], .null),
  (87, .getfield 194, 3, [9, 5], .null),
  (90, .iconst 1, 1, [], .int 1),
  (91, .iadd, 1, [], .null),
  (92, .putfield 194, 3, [9, 5, 0, 0], .null),
  (95, .goto (-39), 3, [], .null),
  (98, .aload_n 0, 1, [], .null),
  (99, .iload_n 2, 1, [], .null),
  (100, .iconst 1, 1, [], .int 1),
  (101, .iadd, 1, [], .null),
  (102, .putfield 197, 3, [9, 6, 0, 0], .null),
  (105, .return_, 1, [], .null)])
def jp_M_weekday : jx_Me := (⟨"JobHouseModel", "weekday", "(I)I"⟩, prog_13_method_8_code, 1, (some FieldType.int), [], [
  (0, .iload_n 0, 1, [], .null),
  (1, .iconst 4, 1, [], .int 4),
  (2, .iadd, 1, [], .null),
  (3, .bipush 7, 2, [], .int 7),
  (5, .invokestatic 200, 3, [188, 2], .null),
  (8, .iconst 1, 1, [], .int 1),
  (9, .iadd, 1, [], .null),
  (10, .ireturn, 1, [], .null)])
def jp_M_bad : jx_Me := (⟨"JobHouseModel", "bad", "(I)V"⟩, prog_13_method_9_code, 2, none, [], [
  (0, .aload_n 0, 1, [], .null),
  (1, .iload_n 1, 1, [], .null),
  (2, .putfield 13, 3, [9, 3, 0, 0], .null),
  (5, .new 203, 3, [12], .null)])
def jp_M_peek : jx_Me := (⟨"JobHouseModel", "peek", "()I"⟩, prog_13_method_10_code, 1, (some FieldType.int), [], [
  (0, .aload_n 0, 1, [], .null),
  (1, .getfield 206, 3, [9, 7], .null),
  (4, .aload_n 0, 1, [], .null),
  (5, .getfield 209, 3, [9, 2], .null),
  (8, .if_icmp .ge 19, 3, [], .null),
  (11, .aload_n 0, 1, [], .null),
  (12, .getfield 7, 3, [9, 1], .null),
  (15, .aload_n 0, 1, [], .null),
  (16, .getfield 206, 3, [9, 7], .null),
  (19, .baload, 1, [], .null),
  (20, .sipush 255, 3, [], .int 255),
  (23, .iand, 1, [], .null),
  (24, .goto 4, 3, [], .null),
  (27, .iconst (-1), 1, [], .int (-1)),
  (28, .ireturn, 1, [], .null)])
def jp_M_digit : jx_Me := (⟨"JobHouseModel", "digit", "(I)Z"⟩, prog_13_method_11_code, 1, (some FieldType.boolean), [], [
  (0, .iload_n 0, 1, [], .null),
  (1, .bipush 48, 2, [], .int 48),
  (3, .if_icmp .lt 13, 3, [], .null),
  (6, .iload_n 0, 1, [], .null),
  (7, .bipush 57, 2, [], .int 57),
  (9, .if_icmp .gt 7, 3, [], .null),
  (12, .iconst 1, 1, [], .int 1),
  (13, .goto 4, 3, [], .null),
  (16, .iconst 0, 1, [], .int 0),
  (17, .ireturn, 1, [], .null)])
def jp_M_expect : jx_Me := (⟨"JobHouseModel", "expect", "(I)V"⟩, prog_13_method_12_code, 2, none, [], [
  (0, .aload_n 0, 1, [], .null),
  (1, .invokevirtual 212, 3, [45, 0, 9], .null),
  (4, .iload_n 1, 1, [], .null),
  (5, .if_icmp .eq 11, 3, [], .null),
  (8, .aload_n 0, 1, [], .null),
  (9, .aload_n 0, 1, [], .null),
  (10, .getfield 206, 3, [9, 7], .null),
  (13, .invokevirtual 216, 3, [44, 1, 9], .null),
  (16, .aload_n 0, 1, [], .null),
  (17, .dup, 1, [], .null),
  (18, .getfield 206, 3, [9, 7], .null),
  (21, .iconst 1, 1, [], .int 1),
  (22, .iadd, 1, [], .null),
  (23, .putfield 206, 3, [9, 7, 0, 0], .null),
  (26, .return_, 1, [], .null)])
def jp_M_blanks : jx_Me := (⟨"JobHouseModel", "blanks", "()V"⟩, prog_13_method_13_code, 1, none, [], [
  (0, .aload_n 0, 1, [], .null),
  (1, .invokevirtual 212, 3, [45, 0, 9], .null),
  (4, .bipush 32, 2, [], .int 32),
  (6, .if_icmp .eq 11, 3, [], .null),
  (9, .aload_n 0, 1, [], .null),
  (10, .aload_n 0, 1, [], .null),
  (11, .getfield 206, 3, [9, 7], .null),
  (14, .invokevirtual 216, 3, [44, 1, 9], .null),
  (17, .aload_n 0, 1, [], .null),
  (18, .invokevirtual 212, 3, [45, 0, 9], .null),
  (21, .bipush 32, 2, [], .int 32),
  (23, .if_icmp .ne 16, 3, [], .null),
  (26, .aload_n 0, 1, [], .null),
  (27, .dup, 1, [], .null),
  (28, .getfield 206, 3, [9, 7], .null),
  (31, .iconst 1, 1, [], .int 1),
  (32, .iadd, 1, [], .null),
  (33, .putfield 206, 3, [9, 7, 0, 0], .null),
  (36, .goto (-19), 3, [], .null),
  (39, .return_, 1, [], .null)])
def jp_M_ranged : jx_Me := (⟨"JobHouseModel", "ranged", "(II)I"⟩, prog_13_method_14_code, 5, (some FieldType.int), [], [
  (0, .aload_n 0, 1, [], .null),
  (1, .getfield 206, 3, [9, 7], .null),
  (4, .istore_n 3, 1, [], .null),
  (5, .aload_n 0, 1, [], .null),
  (6, .invokevirtual 212, 3, [45, 0, 9], .null),
  (9, .invokestatic 220, 3, [46, 1], .null),
  (12, .ifCond .ne 11, 3, [], .null),
  (15, .aload_n 0, 1, [], .null),
  (16, .aload_n 0, 1, [], .null),
  (17, .getfield 206, 3, [9, 7], .null),
  (20, .invokevirtual 216, 3, [44, 1, 9], .null),
  (23, .iconst 0, 1, [], .int 0),
  (24, .istore 4, 2, [], .null),
  (26, .aload_n 0, 1, [], .null),
  (27, .invokevirtual 212, 3, [45, 0, 9], .null),
  (30, .bipush 48, 2, [], .int 48),
  (32, .if_icmp .ne 16, 3, [], .null),
  (35, .aload_n 0, 1, [], .null),
  (36, .dup, 1, [], .null),
  (37, .getfield 206, 3, [9, 7], .null),
  (40, .iconst 1, 1, [], .int 1),
  (41, .iadd, 1, [], .null),
  (42, .putfield 206, 3, [9, 7, 0, 0], .null),
  (45, .goto 46, 3, [], .null),
  (48, .aload_n 0, 1, [], .null),
  (49, .invokevirtual 212, 3, [45, 0, 9], .null),
  (52, .invokestatic 220, 3, [46, 1], .null),
  (55, .ifCond .eq 36, 3, [], .null),
  (58, .bipush 10, 2, [], .int 10),
  (60, .iload 4, 2, [], .null),
  (62, .imul, 1, [], .null),
  (63, .aload_n 0, 1, [], .null),
  (64, .invokevirtual 212, 3, [45, 0, 9], .null),
  (67, .iadd, 1, [], .null),
  (68, .bipush 48, 2, [], .int 48),
  (70, .isub, 1, [], .null),
  (71, .ldc 223, 2, [], .int 100000),
  (73, .invokestatic 224, 3, [192, 2], .null),
  (76, .istore 4, 2, [], .null),
  (78, .aload_n 0, 1, [], .null),
  (79, .dup, 1, [], .null),
  (80, .getfield 206, 3, [9, 7], .null),
  (83, .iconst 1, 1, [], .int 1),
  (84, .iadd, 1, [], .null),
  (85, .putfield 206, 3, [9, 7, 0, 0], .null),
  (88, .goto (-40), 3, [], .null),
  (91, .iload 4, 2, [], .null),
  (93, .iload_n 1, 1, [], .null),
  (94, .if_icmp .lt 9, 3, [], .null),
  (97, .iload 4, 2, [], .null),
  (99, .iload_n 2, 1, [], .null),
  (100, .if_icmp .le 8, 3, [], .null),
  (103, .aload_n 0, 1, [], .null),
  (104, .iload_n 3, 1, [], .null),
  (105, .invokevirtual 216, 3, [44, 1, 9], .null),
  (108, .iload 4, 2, [], .null),
  (110, .ireturn, 1, [], .null)])
def jp_M_rule : jx_Me := (⟨"JobHouseModel", "rule", "(I)V"⟩, prog_13_method_15_code, 2, none, [], [
  (0, .aload_n 0, 1, [], .null),
  (1, .bipush 77, 2, [], .int 77),
  (3, .invokevirtual 227, 3, [47, 1, 9], .null),
  (6, .aload_n 0, 1, [], .null),
  (7, .getfield 37, 3, [9, 13], .null),
  (10, .iload_n 1, 1, [], .null),
  (11, .aload_n 0, 1, [], .null),
  (12, .iconst 1, 1, [], .int 1),
  (13, .bipush 12, 2, [], .int 12),
  (15, .invokevirtual 230, 3, [49, 2, 9], .null),
  (18, .iastore, 1, [], .null),
  (19, .aload_n 0, 1, [], .null),
  (20, .bipush 46, 2, [], .int 46),
  (22, .invokevirtual 227, 3, [47, 1, 9], .null),
  (25, .aload_n 0, 1, [], .null),
  (26, .getfield 37, 3, [9, 13], .null),
  (29, .iload_n 1, 1, [], .null),
  (30, .iconst 1, 1, [], .int 1),
  (31, .iadd, 1, [], .null),
  (32, .aload_n 0, 1, [], .null),
  (33, .iconst 1, 1, [], .int 1),
  (34, .iconst 5, 1, [], .int 5),
  (35, .invokevirtual 230, 3, [49, 2, 9], .null),
  (38, .iastore, 1, [], .null),
  (39, .aload_n 0, 1, [], .null),
  (40, .bipush 46, 2, [], .int 46),
  (42, .invokevirtual 227, 3, [47, 1, 9], .null),
  (45, .aload_n 0, 1, [], .null),
  (46, .getfield 37, 3, [9, 13], .null),
  (49, .iload_n 1, 1, [], .null),
  (50, .iconst 2, 1, [], .int 2),
  (51, .iadd, 1, [], .null),
  (52, .aload_n 0, 1, [], .null),
  (53, .iconst 0, 1, [], .int 0),
  (54, .bipush 6, 2, [], .int 6),
  (56, .invokevirtual 230, 3, [49, 2, 9], .null),
  (59, .iastore, 1, [], .null),
  (60, .aload_n 0, 1, [], .null),
  (61, .bipush 47, 2, [], .int 47),
  (63, .invokevirtual 227, 3, [47, 1, 9], .null),
  (66, .aload_n 0, 1, [], .null),
  (67, .getfield 37, 3, [9, 13], .null),
  (70, .iload_n 1, 1, [], .null),
  (71, .iconst 3, 1, [], .int 3),
  (72, .iadd, 1, [], .null),
  (73, .aload_n 0, 1, [], .null),
  (74, .iconst 0, 1, [], .int 0),
  (75, .sipush 1439, 3, [], .int 1439),
  (78, .invokevirtual 230, 3, [49, 2, 9], .null),
  (81, .iastore, 1, [], .null),
  (82, .return_, 1, [], .null)])
def jp_M_ruleDay : jx_Me := (⟨"JobHouseModel", "ruleDay", "(II)I"⟩, prog_13_method_16_code, 5, (some FieldType.int), [], [
  (0, .iload_n 2, 1, [], .null),
  (1, .aload_n 0, 1, [], .null),
  (2, .getfield 37, 3, [9, 13], .null),
  (5, .iload_n 1, 1, [], .null),
  (6, .iaload, 1, [], .null),
  (7, .invokestatic 191, 3, [41, 2], .null),
  (10, .istore_n 3, 1, [], .null),
  (11, .iload_n 3, 1, [], .null),
  (12, .aload_n 0, 1, [], .null),
  (13, .getfield 37, 3, [9, 13], .null),
  (16, .iload_n 1, 1, [], .null),
  (17, .iconst 2, 1, [], .int 2),
  (18, .iadd, 1, [], .null),
  (19, .iaload, 1, [], .null),
  (20, .iconst 1, 1, [], .int 1),
  (21, .iadd, 1, [], .null),
  (22, .iload_n 3, 1, [], .null),
  (23, .invokestatic 233, 3, [43, 1], .null),
  (26, .isub, 1, [], .null),
  (27, .bipush 7, 2, [], .int 7),
  (29, .invokestatic 200, 3, [188, 2], .null),
  (32, .iadd, 1, [], .null),
  (33, .bipush 7, 2, [], .int 7),
  (35, .aload_n 0, 1, [], .null),
  (36, .getfield 37, 3, [9, 13], .null),
  (39, .iload_n 1, 1, [], .null),
  (40, .iconst 1, 1, [], .int 1),
  (41, .iadd, 1, [], .null),
  (42, .iaload, 1, [], .null),
  (43, .iconst 1, 1, [], .int 1),
  (44, .isub, 1, [], .null),
  (45, .imul, 1, [], .null),
  (46, .iadd, 1, [], .null),
  (47, .istore 4, 2, [], .null),
  (49, .iload 4, 2, [], .null),
  (51, .iload_n 3, 1, [], .null),
  (52, .iload_n 2, 1, [], .null),
  (53, .aload_n 0, 1, [], .null),
  (54, .getfield 37, 3, [9, 13], .null),
  (57, .iload_n 1, 1, [], .null),
  (58, .iaload, 1, [], .null),
  (59, .invokestatic 179, 3, [40, 2], .null),
  (62, .iadd, 1, [], .null),
  (63, .if_icmp .lt 11, 3, [], .null),
  (66, .iload 4, 2, [], .null),
  (68, .bipush 7, 2, [], .int 7),
  (70, .isub, 1, [], .null),
  (71, .goto 5, 3, [], .null),
  (74, .iload 4, 2, [], .null),
  (76, .ireturn, 1, [], .null)])
def jp_M_event : jx_Me := (⟨"JobHouseModel", "event", "(IJZ)V"⟩, prog_13_method_17_code, 6, none, [], [
  (0, .aload_n 0, 1, [], .null),
  (1, .getfield 34, 3, [9, 12], .null),
  (4, .iload_n 1, 1, [], .null),
  (5, .iaload, 1, [], .null),
  (6, .istore 5, 2, [], .null),
  (8, .iload 5, 2, [], .null),
  (10, .ifCond .le 100, 3, [], .null),
  (13, .aload_n 0, 1, [], .null),
  (14, .getfield 26, 3, [9, 10], .null),
  (17, .iload_n 1, 1, [], .null),
  (18, .aaload, 1, [], .null),
  (19, .iload 5, 2, [], .null),
  (21, .iconst 1, 1, [], .int 1),
  (22, .isub, 1, [], .null),
  (23, .laload, 1, [], .null),
  (24, .lload_n 2, 1, [], .null),
  (25, .lcmp, 1, [], .null),
  (26, .ifCond .gt 38, 3, [], .null),
  (29, .aload_n 0, 1, [], .null),
  (30, .getfield 26, 3, [9, 10], .null),
  (33, .iload_n 1, 1, [], .null),
  (34, .aaload, 1, [], .null),
  (35, .iload 5, 2, [], .null),
  (37, .iconst 1, 1, [], .int 1),
  (38, .isub, 1, [], .null),
  (39, .laload, 1, [], .null),
  (40, .lload_n 2, 1, [], .null),
  (41, .lcmp, 1, [], .null),
  (42, .ifCond .ne 68, 3, [], .null),
  (45, .iload 4, 2, [], .null),
  (47, .ifCond .eq 63, 3, [], .null),
  (50, .aload_n 0, 1, [], .null),
  (51, .getfield 31, 3, [9, 11], .null),
  (54, .iload_n 1, 1, [], .null),
  (55, .aaload, 1, [], .null),
  (56, .iload 5, 2, [], .null),
  (58, .iconst 1, 1, [], .int 1),
  (59, .isub, 1, [], .null),
  (60, .baload, 1, [], .null),
  (61, .ifCond .ne 49, 3, [], .null),
  (64, .aload_n 0, 1, [], .null),
  (65, .getfield 26, 3, [9, 10], .null),
  (68, .iload_n 1, 1, [], .null),
  (69, .aaload, 1, [], .null),
  (70, .iload 5, 2, [], .null),
  (72, .aload_n 0, 1, [], .null),
  (73, .getfield 26, 3, [9, 10], .null),
  (76, .iload_n 1, 1, [], .null),
  (77, .aaload, 1, [], .null),
  (78, .iload 5, 2, [], .null),
  (80, .iconst 1, 1, [], .int 1),
  (81, .isub, 1, [], .null),
  (82, .laload, 1, [], .null),
  (83, .lastore, 1, [], .null),
  (84, .aload_n 0, 1, [], .null),
  (85, .getfield 31, 3, [9, 11], .null),
  (88, .iload_n 1, 1, [], .null),
  (89, .aaload, 1, [], .null),
  (90, .iload 5, 2, [], .null),
  (92, .aload_n 0, 1, [], .null),
  (93, .getfield 31, 3, [9, 11], .null),
  (96, .iload_n 1, 1, [], .null),
  (97, .aaload, 1, [], .null),
  (98, .iload 5, 2, [], .null),
  (100, .iconst 1, 1, [], .int 1),
  (101, .isub, 1, [], .null),
  (102, .baload, 1, [], .null),
  (103, .bastore, 1, [], .null),
  (104, .iinc 5 (-1), 3, [], .null),
  (107, .goto (-99), 3, [], .null),
  (110, .aload_n 0, 1, [], .null),
  (111, .getfield 26, 3, [9, 10], .null),
  (114, .iload_n 1, 1, [], .null),
  (115, .aaload, 1, [], .null),
  (116, .iload 5, 2, [], .null),
  (118, .lload_n 2, 1, [], .null),
  (119, .lastore, 1, [], .null),
  (120, .aload_n 0, 1, [], .null),
  (121, .getfield 31, 3, [9, 11], .null),
  (124, .iload_n 1, 1, [], .null),
  (125, .aaload, 1, [], .null),
  (126, .iload 5, 2, [], .null),
  (128, .iload 4, 2, [], .null),
  (130, .bastore, 1, [], .null),
  (131, .aload_n 0, 1, [], .null),
  (132, .getfield 34, 3, [9, 12], .null),
  (135, .iload_n 1, 1, [], .null),
  (136, .dup2, 1, [], .null),
  (137, .iaload, 1, [], .null),
  (138, .iconst 1, 1, [], .int 1),
  (139, .iadd, 1, [], .null),
  (140, .iastore, 1, [], .null),
  (141, .return_, 1, [], .null)])
def jp_M_zone : jx_Me := (⟨"JobHouseModel", "zone", "(I)V"⟩, prog_13_method_18_code, 3, none, [(28, 33, 36, 203, 12)], [
  (0, .aload_n 0, 1, [], .null),
  (1, .iconst 0, 1, [], .int 0),
  (2, .putfield 172, 3, [9, 0, 0, 0], .null),
  (5, .iload_n 1, 1, [], .null),
  (6, .ifCond .lt 9, 3, [], .null),
  (9, .iload_n 1, 1, [], .null),
  (10, .bipush 7, 2, [], .int 7),
  (12, .if_icmp .le 11, 3, [], .null),
  (15, .aload_n 0, 1, [], .null),
  (16, .iconst 1, 1, [], .int 1),
  (17, .putfield 172, 3, [9, 0, 0, 0], .null),
  (20, .goto 27, 3, [], .null),
  (23, .aload_n 0, 1, [], .null),
  (24, .iconst (-1), 1, [], .int (-1)),
  (25, .putfield 13, 3, [9, 3, 0, 0], .null),
  (28, .aload_n 0, 1, [], .null),
  (29, .iload_n 1, 1, [], .null),
  (30, .invokevirtual 237, 3, [54, 1, 9], .null),
  (33, .goto 9, 3, [], .null),
  (36, .astore_n 2, 1, [], .null),
  (37, .aload_n 0, 1, [], .null),
  (38, .iconst 2, 1, [], .int 2),
  (39, .putfield 172, 3, [9, 0, 0, 0], .null),
  (42, .aload_n 0, 1, [], .null),
  (43, .iconst 0, 1, [], .int 0),
  (44, .putfield 209, 3, [9, 2, 0, 0], .null),
  (47, .return_, 1, [], .null)])
def jp_M_readZone : jx_Me := (⟨"JobHouseModel", "readZone", "(I)V"⟩, prog_13_method_19_code, 6, none, [], [
  (0, .aload_n 0, 1, [], .null),
  (1, .iconst 0, 1, [], .int 0),
  (2, .putfield 206, 3, [9, 7, 0, 0], .null),
  (5, .aload_n 0, 1, [], .null),
  (6, .invokevirtual 212, 3, [45, 0, 9], .null),
  (9, .bipush 43, 2, [], .int 43),
  (11, .if_icmp .eq 17, 3, [], .null),
  (14, .aload_n 0, 1, [], .null),
  (15, .invokevirtual 212, 3, [45, 0, 9], .null),
  (18, .bipush 45, 2, [], .int 45),
  (20, .if_icmp .eq 8, 3, [], .null),
  (23, .aload_n 0, 1, [], .null),
  (24, .iconst 0, 1, [], .int 0),
  (25, .invokevirtual 216, 3, [44, 1, 9], .null),
  (28, .aload_n 0, 1, [], .null),
  (29, .invokevirtual 212, 3, [45, 0, 9], .null),
  (32, .bipush 45, 2, [], .int 45),
  (34, .if_icmp .ne 7, 3, [], .null),
  (37, .iconst 1, 1, [], .int 1),
  (38, .goto 4, 3, [], .null),
  (41, .iconst 0, 1, [], .int 0),
  (42, .istore_n 2, 1, [], .null),
  (43, .aload_n 0, 1, [], .null),
  (44, .dup, 1, [], .null),
  (45, .getfield 206, 3, [9, 7], .null),
  (48, .iconst 1, 1, [], .int 1),
  (49, .iadd, 1, [], .null),
  (50, .putfield 206, 3, [9, 7, 0, 0], .null),
  (53, .aload_n 0, 1, [], .null),
  (54, .iconst 0, 1, [], .int 0),
  (55, .sipush 840, 3, [], .int 840),
  (58, .invokevirtual 230, 3, [49, 2, 9], .null),
  (61, .istore_n 3, 1, [], .null),
  (62, .iload_n 2, 1, [], .null),
  (63, .ifCond .eq 6, 3, [], .null),
  (66, .iload_n 3, 1, [], .null),
  (67, .ineg, 1, [], .null),
  (68, .istore_n 3, 1, [], .null),
  (69, .iconst 0, 1, [], .int 0),
  (70, .istore 4, 2, [], .null),
  (72, .aload_n 0, 1, [], .null),
  (73, .getfield 206, 3, [9, 7], .null),
  (76, .aload_n 0, 1, [], .null),
  (77, .getfield 209, 3, [9, 2], .null),
  (80, .if_icmp .ge 53, 3, [], .null),
  (83, .aload_n 0, 1, [], .null),
  (84, .invokevirtual 240, 3, [48, 0, 9], .null),
  (87, .aload_n 0, 1, [], .null),
  (88, .iconst 1, 1, [], .int 1),
  (89, .bipush 120, 2, [], .int 120),
  (91, .invokevirtual 230, 3, [49, 2, 9], .null),
  (94, .istore 4, 2, [], .null),
  (96, .aload_n 0, 1, [], .null),
  (97, .invokevirtual 240, 3, [48, 0, 9], .null),
  (100, .aload_n 0, 1, [], .null),
  (101, .iconst 0, 1, [], .int 0),
  (102, .invokevirtual 243, 3, [50, 1, 9], .null),
  (105, .aload_n 0, 1, [], .null),
  (106, .invokevirtual 240, 3, [48, 0, 9], .null),
  (109, .aload_n 0, 1, [], .null),
  (110, .iconst 4, 1, [], .int 4),
  (111, .invokevirtual 243, 3, [50, 1, 9], .null),
  (114, .aload_n 0, 1, [], .null),
  (115, .getfield 206, 3, [9, 7], .null),
  (118, .aload_n 0, 1, [], .null),
  (119, .getfield 209, 3, [9, 2], .null),
  (122, .if_icmp .ge 11, 3, [], .null),
  (125, .aload_n 0, 1, [], .null),
  (126, .aload_n 0, 1, [], .null),
  (127, .getfield 206, 3, [9, 7], .null),
  (130, .invokevirtual 216, 3, [44, 1, 9], .null),
  (133, .aload_n 0, 1, [], .null),
  (134, .getfield 17, 3, [9, 8], .null),
  (137, .iload_n 1, 1, [], .null),
  (138, .iload_n 3, 1, [], .null),
  (139, .iastore, 1, [], .null),
  (140, .aload_n 0, 1, [], .null),
  (141, .getfield 21, 3, [9, 9], .null),
  (144, .iload_n 1, 1, [], .null),
  (145, .iload 4, 2, [], .null),
  (147, .iastore, 1, [], .null),
  (148, .aload_n 0, 1, [], .null),
  (149, .getfield 34, 3, [9, 12], .null),
  (152, .iload_n 1, 1, [], .null),
  (153, .iconst 0, 1, [], .int 0),
  (154, .iastore, 1, [], .null),
  (155, .iload 4, 2, [], .null),
  (157, .ifCond .ne 4, 3, [], .null),
  (160, .return_, 1, [], .null),
  (161, .sipush 1970, 3, [], .int 1970),
  (164, .istore 5, 2, [], .null),
  (166, .iload 5, 2, [], .null),
  (168, .sipush 2299, 3, [], .int 2299),
  (171, .if_icmp .gt 77, 3, [], .null),
  (174, .aload_n 0, 1, [], .null),
  (175, .iload_n 1, 1, [], .null),
  (176, .aload_n 0, 1, [], .null),
  (177, .iconst 0, 1, [], .int 0),
  (178, .iload 5, 2, [], .null),
  (180, .invokevirtual 245, 3, [51, 2, 9], .null),
  (183, .i2l, 1, [], .null),
  (184, .ldc2_w 248, 3, [], .long 86400000),
  (187, .lmul, 1, [], .null),
  (188, .ldc2_w 250, 3, [], .long 60000),
  (191, .aload_n 0, 1, [], .null),
  (192, .getfield 37, 3, [9, 13], .null),
  (195, .iconst 3, 1, [], .int 3),
  (196, .iaload, 1, [], .null),
  (197, .iload_n 3, 1, [], .null),
  (198, .isub, 1, [], .null),
  (199, .i2l, 1, [], .null),
  (200, .lmul, 1, [], .null),
  (201, .ladd, 1, [], .null),
  (202, .iconst 1, 1, [], .int 1),
  (203, .invokevirtual 252, 3, [52, 3, 9], .null),
  (206, .aload_n 0, 1, [], .null),
  (207, .iload_n 1, 1, [], .null),
  (208, .aload_n 0, 1, [], .null),
  (209, .iconst 4, 1, [], .int 4),
  (210, .iload 5, 2, [], .null),
  (212, .invokevirtual 245, 3, [51, 2, 9], .null),
  (215, .i2l, 1, [], .null),
  (216, .ldc2_w 248, 3, [], .long 86400000),
  (219, .lmul, 1, [], .null),
  (220, .ldc2_w 250, 3, [], .long 60000),
  (223, .aload_n 0, 1, [], .null),
  (224, .getfield 37, 3, [9, 13], .null),
  (227, .bipush 7, 2, [], .int 7),
  (229, .iaload, 1, [], .null),
  (230, .iload_n 3, 1, [], .null),
  (231, .isub, 1, [], .null),
  (232, .iload 4, 2, [], .null),
  (234, .isub, 1, [], .null),
  (235, .i2l, 1, [], .null),
  (236, .lmul, 1, [], .null),
  (237, .ladd, 1, [], .null),
  (238, .iconst 0, 1, [], .int 0),
  (239, .invokevirtual 252, 3, [52, 3, 9], .null),
  (242, .iinc 5 1, 3, [], .null),
  (245, .goto (-79), 3, [], .null),
  (248, .return_, 1, [], .null)])
def jp_M_passed : jx_Me := (⟨"JobHouseModel", "passed", "(IJ)I"⟩, prog_13_method_20_code, 7, (some FieldType.int), [], [
  (0, .iconst 0, 1, [], .int 0),
  (1, .istore 4, 2, [], .null),
  (3, .aload_n 0, 1, [], .null),
  (4, .getfield 34, 3, [9, 12], .null),
  (7, .iload_n 1, 1, [], .null),
  (8, .iaload, 1, [], .null),
  (9, .istore 5, 2, [], .null),
  (11, .iload 4, 2, [], .null),
  (13, .iload 5, 2, [], .null),
  (15, .if_icmp .ge 42, 3, [], .null),
  (18, .iload 4, 2, [], .null),
  (20, .iload 5, 2, [], .null),
  (22, .iadd, 1, [], .null),
  (23, .iconst 2, 1, [], .int 2),
  (24, .idiv, 1, [], .null),
  (25, .istore 6, 2, [], .null),
  (27, .aload_n 0, 1, [], .null),
  (28, .getfield 26, 3, [9, 10], .null),
  (31, .iload_n 1, 1, [], .null),
  (32, .aaload, 1, [], .null),
  (33, .iload 6, 2, [], .null),
  (35, .laload, 1, [], .null),
  (36, .lload_n 2, 1, [], .null),
  (37, .lcmp, 1, [], .null),
  (38, .ifCond .gt 12, 3, [], .null),
  (41, .iload 6, 2, [], .null),
  (43, .iconst 1, 1, [], .int 1),
  (44, .iadd, 1, [], .null),
  (45, .istore 4, 2, [], .null),
  (47, .goto 7, 3, [], .null),
  (50, .iload 6, 2, [], .null),
  (52, .istore 5, 2, [], .null),
  (54, .goto (-43), 3, [], .null),
  (57, .iload 4, 2, [], .null),
  (59, .ireturn, 1, [], .null)])
def jp_M_minutes : jx_Me := (⟨"JobHouseModel", "minutes", "(II)I"⟩, prog_13_method_21_code, 3, (some FieldType.int), [], [
  (0, .aload_n 0, 1, [], .null),
  (1, .getfield 17, 3, [9, 8], .null),
  (4, .iload_n 1, 1, [], .null),
  (5, .iaload, 1, [], .null),
  (6, .iload_n 2, 1, [], .null),
  (7, .ifCond .le 25, 3, [], .null),
  (10, .aload_n 0, 1, [], .null),
  (11, .getfield 31, 3, [9, 11], .null),
  (14, .iload_n 1, 1, [], .null),
  (15, .aaload, 1, [], .null),
  (16, .iload_n 2, 1, [], .null),
  (17, .iconst 1, 1, [], .int 1),
  (18, .isub, 1, [], .null),
  (19, .baload, 1, [], .null),
  (20, .ifCond .eq 12, 3, [], .null),
  (23, .aload_n 0, 1, [], .null),
  (24, .getfield 21, 3, [9, 9], .null),
  (27, .iload_n 1, 1, [], .null),
  (28, .iaload, 1, [], .null),
  (29, .goto 4, 3, [], .null),
  (32, .iconst 0, 1, [], .int 0),
  (33, .iadd, 1, [], .null),
  (34, .ireturn, 1, [], .null)])
def jp_M_letter : jx_Me := (⟨"JobHouseModel", "letter", "(I)Z"⟩, prog_13_method_22_code, 1, (some FieldType.boolean), [], [
  (0, .iload_n 0, 1, [], .null),
  (1, .bipush 65, 2, [], .int 65),
  (3, .if_icmp .lt 13, 3, [], .null),
  (6, .iload_n 0, 1, [], .null),
  (7, .bipush 90, 2, [], .int 90),
  (9, .if_icmp .gt 7, 3, [], .null),
  (12, .iconst 1, 1, [], .int 1),
  (13, .goto 4, 3, [], .null),
  (16, .iconst 0, 1, [], .int 0),
  (17, .ireturn, 1, [], .null)])
def jp_M_value : jx_Me := (⟨"JobHouseModel", "value", "(I)I"⟩, prog_13_method_23_code, 6, (some FieldType.int), [], [
  (0, .iload_n 1, 1, [], .null),
  (1, .iconst 4, 1, [], .int 4),
  (2, .if_icmp .eq 8, 3, [], .null),
  (5, .iload_n 1, 1, [], .null),
  (6, .iconst 5, 1, [], .int 5),
  (7, .if_icmp .ne 132, 3, [], .null),
  (10, .aload_n 0, 1, [], .null),
  (11, .invokevirtual 212, 3, [45, 0, 9], .null),
  (14, .invokestatic 256, 3, [57, 1], .null),
  (17, .ifCond .eq 122, 3, [], .null),
  (20, .iload_n 1, 1, [], .null),
  (21, .iconst 4, 1, [], .int 4),
  (22, .if_icmp .ne 10, 3, [], .null),
  (25, .aload_n 0, 1, [], .null),
  (26, .getfield 89, 3, [9, 23], .null),
  (29, .goto 7, 3, [], .null),
  (32, .aload_n 0, 1, [], .null),
  (33, .getfield 107, 3, [9, 24], .null),
  (36, .astore_n 2, 1, [], .null),
  (37, .iconst 0, 1, [], .int 0),
  (38, .istore_n 3, 1, [], .null),
  (39, .iload_n 3, 1, [], .null),
  (40, .aload_n 2, 1, [], .null),
  (41, .arraylength, 1, [], .null),
  (42, .if_icmp .ge 89, 3, [], .null),
  (45, .iconst 1, 1, [], .int 1),
  (46, .istore 4, 2, [], .null),
  (48, .iconst 0, 1, [], .int 0),
  (49, .istore 5, 2, [], .null),
  (51, .iload 5, 2, [], .null),
  (53, .iconst 3, 1, [], .int 3),
  (54, .if_icmp .ge 49, 3, [], .null),
  (57, .aload_n 0, 1, [], .null),
  (58, .getfield 206, 3, [9, 7], .null),
  (61, .iload 5, 2, [], .null),
  (63, .iadd, 1, [], .null),
  (64, .aload_n 0, 1, [], .null),
  (65, .getfield 209, 3, [9, 2], .null),
  (68, .if_icmp .ge 26, 3, [], .null),
  (71, .aload_n 0, 1, [], .null),
  (72, .getfield 7, 3, [9, 1], .null),
  (75, .aload_n 0, 1, [], .null),
  (76, .getfield 206, 3, [9, 7], .null),
  (79, .iload 5, 2, [], .null),
  (81, .iadd, 1, [], .null),
  (82, .baload, 1, [], .null),
  (83, .aload_n 2, 1, [], .null),
  (84, .iload_n 3, 1, [], .null),
  (85, .aaload, 1, [], .null),
  (86, .iload 5, 2, [], .null),
  (88, .invokevirtual 259, 3, [9001, 1, 300], .null),
  (91, .if_icmp .eq 6, 3, [], .null),
  (94, .iconst 0, 1, [], .int 0),
  (95, .istore 4, 2, [], .null),
  (97, .iinc 5 1, 3, [], .null),
  (100, .goto (-49), 3, [], .null),
  (103, .iload 4, 2, [], .null),
  (105, .ifCond .ne 6, 3, [], .null),
  (108, .goto 17, 3, [], .null),
  (111, .aload_n 0, 1, [], .null),
  (112, .dup, 1, [], .null),
  (113, .getfield 206, 3, [9, 7], .null),
  (116, .iconst 3, 1, [], .int 3),
  (117, .iadd, 1, [], .null),
  (118, .putfield 206, 3, [9, 7, 0, 0], .null),
  (121, .iload_n 3, 1, [], .null),
  (122, .iconst 1, 1, [], .int 1),
  (123, .iadd, 1, [], .null),
  (124, .ireturn, 1, [], .null),
  (125, .iinc 3 1, 3, [], .null),
  (128, .goto (-89), 3, [], .null),
  (131, .aload_n 0, 1, [], .null),
  (132, .aload_n 0, 1, [], .null),
  (133, .getfield 206, 3, [9, 7], .null),
  (136, .invokevirtual 216, 3, [44, 1, 9], .null),
  (139, .aload_n 0, 1, [], .null),
  (140, .getstatic 263, 3, [], .ref 1),
  (143, .iload_n 1, 1, [], .null),
  (144, .iaload, 1, [], .null),
  (145, .getstatic 266, 3, [], .ref 2),
  (148, .iload_n 1, 1, [], .null),
  (149, .iaload, 1, [], .null),
  (150, .invokevirtual 230, 3, [49, 2, 9], .null),
  (153, .ireturn, 1, [], .null)])
def jp_M_items : jx_Me := (⟨"JobHouseModel", "items", "(I)V"⟩, prog_13_method_24_code, 11, none, [], [
  (0, .iconst 0, 1, [], .int 0),
  (1, .istore_n 2, 1, [], .null),
  (2, .iload_n 2, 1, [], .null),
  (3, .sipush 330, 3, [], .int 330),
  (6, .if_icmp .ge 18, 3, [], .null),
  (9, .aload_n 0, 1, [], .null),
  (10, .getfield 45, 3, [9, 15], .null),
  (13, .iload_n 1, 1, [], .null),
  (14, .aaload, 1, [], .null),
  (15, .iload_n 2, 1, [], .null),
  (16, .iconst 0, 1, [], .int 0),
  (17, .bastore, 1, [], .null),
  (18, .iinc 2 1, 3, [], .null),
  (21, .goto (-19), 3, [], .null),
  (24, .iconst 1, 1, [], .int 1),
  (25, .istore_n 2, 1, [], .null),
  (26, .aload_n 0, 1, [], .null),
  (27, .invokevirtual 212, 3, [45, 0, 9], .null),
  (30, .bipush 42, 2, [], .int 42),
  (32, .if_icmp .ne 7, 3, [], .null),
  (35, .iconst 1, 1, [], .int 1),
  (36, .goto 4, 3, [], .null),
  (39, .iconst 0, 1, [], .int 0),
  (40, .istore_n 3, 1, [], .null),
  (41, .getstatic 263, 3, [], .ref 1),
  (44, .iload_n 1, 1, [], .null),
  (45, .iaload, 1, [], .null),
  (46, .istore 4, 2, [], .null),
  (48, .getstatic 266, 3, [], .ref 2),
  (51, .iload_n 1, 1, [], .null),
  (52, .iaload, 1, [], .null),
  (53, .istore 5, 2, [], .null),
  (55, .iconst 0, 1, [], .int 0),
  (56, .istore 6, 2, [], .null),
  (58, .iload_n 3, 1, [], .null),
  (59, .ifCond .eq 16, 3, [], .null),
  (62, .aload_n 0, 1, [], .null),
  (63, .dup, 1, [], .null),
  (64, .getfield 206, 3, [9, 7], .null),
  (67, .iconst 1, 1, [], .int 1),
  (68, .iadd, 1, [], .null),
  (69, .putfield 206, 3, [9, 7, 0, 0], .null),
  (72, .goto 113, 3, [], .null),
  (75, .aload_n 0, 1, [], .null),
  (76, .iload_n 1, 1, [], .null),
  (77, .invokevirtual 269, 3, [58, 1, 9], .null),
  (80, .istore 4, 2, [], .null),
  (82, .iload_n 2, 1, [], .null),
  (83, .ifCond .eq 14, 3, [], .null),
  (86, .aload_n 0, 1, [], .null),
  (87, .iload_n 1, 1, [], .null),
  (88, .iload 4, 2, [], .null),
  (90, .invokevirtual 272, 3, [60, 2, 9], .null),
  (93, .ifCond .eq 4, 3, [], .null),
  (96, .return_, 1, [], .null),
  (97, .aload_n 0, 1, [], .null),
  (98, .invokevirtual 212, 3, [45, 0, 9], .null),
  (101, .bipush 45, 2, [], .int 45),
  (103, .if_icmp .eq 16, 3, [], .null),
  (106, .aload_n 0, 1, [], .null),
  (107, .invokevirtual 212, 3, [45, 0, 9], .null),
  (110, .bipush 47, 2, [], .int 47),
  (112, .if_icmp .eq 7, 3, [], .null),
  (115, .iconst 1, 1, [], .int 1),
  (116, .goto 4, 3, [], .null),
  (119, .iconst 0, 1, [], .int 0),
  (120, .istore 6, 2, [], .null),
  (122, .aload_n 0, 1, [], .null),
  (123, .invokevirtual 212, 3, [45, 0, 9], .null),
  (126, .bipush 45, 2, [], .int 45),
  (128, .if_icmp .ne 48, 3, [], .null),
  (131, .aload_n 0, 1, [], .null),
  (132, .dup, 1, [], .null),
  (133, .getfield 206, 3, [9, 7], .null),
  (136, .iconst 1, 1, [], .int 1),
  (137, .iadd, 1, [], .null),
  (138, .putfield 206, 3, [9, 7, 0, 0], .null),
  (141, .aload_n 0, 1, [], .null),
  (142, .getfield 206, 3, [9, 7], .null),
  (145, .istore 7, 2, [], .null),
  (147, .aload_n 0, 1, [], .null),
  (148, .iload_n 1, 1, [], .null),
  (149, .invokevirtual 269, 3, [58, 1, 9], .null),
  (152, .istore 5, 2, [], .null),
  (154, .iload_n 1, 1, [], .null),
  (155, .bipush 6, 2, [], .int 6),
  (157, .if_icmp .ne 16, 3, [], .null),
  (160, .iload 4, 2, [], .null),
  (162, .iload 5, 2, [], .null),
  (164, .if_icmp .le 9, 3, [], .null),
  (167, .aload_n 0, 1, [], .null),
  (168, .iload 7, 2, [], .null),
  (170, .invokevirtual 216, 3, [44, 1, 9], .null),
  (173, .goto 12, 3, [], .null),
  (176, .iload 6, 2, [], .null),
  (178, .ifCond .eq 7, 3, [], .null),
  (181, .iload 4, 2, [], .null),
  (183, .istore 5, 2, [], .null),
  (185, .iconst 1, 1, [], .int 1),
  (186, .istore 7, 2, [], .null),
  (188, .aload_n 0, 1, [], .null),
  (189, .invokevirtual 212, 3, [45, 0, 9], .null),
  (192, .bipush 47, 2, [], .int 47),
  (194, .if_icmp .ne 22, 3, [], .null),
  (197, .aload_n 0, 1, [], .null),
  (198, .dup, 1, [], .null),
  (199, .getfield 206, 3, [9, 7], .null),
  (202, .iconst 1, 1, [], .int 1),
  (203, .iadd, 1, [], .null),
  (204, .putfield 206, 3, [9, 7, 0, 0], .null),
  (207, .aload_n 0, 1, [], .null),
  (208, .iconst 1, 1, [], .int 1),
  (209, .bipush 99, 2, [], .int 99),
  (211, .invokevirtual 230, 3, [49, 2, 9], .null),
  (214, .istore 7, 2, [], .null),
  (216, .getstatic 266, 3, [], .ref 2),
  (219, .iload_n 1, 1, [], .null),
  (220, .iaload, 1, [], .null),
  (221, .getstatic 263, 3, [], .ref 1),
  (224, .iload_n 1, 1, [], .null),
  (225, .iaload, 1, [], .null),
  (226, .isub, 1, [], .null),
  (227, .iconst 1, 1, [], .int 1),
  (228, .iadd, 1, [], .null),
  (229, .istore 8, 2, [], .null),
  (231, .iload 5, 2, [], .null),
  (233, .iload 4, 2, [], .null),
  (235, .isub, 1, [], .null),
  (236, .iload 8, 2, [], .null),
  (238, .invokestatic 200, 3, [188, 2], .null),
  (241, .iconst 1, 1, [], .int 1),
  (242, .iadd, 1, [], .null),
  (243, .istore 9, 2, [], .null),
  (245, .iconst 0, 1, [], .int 0),
  (246, .istore 10, 2, [], .null),
  (248, .iload 10, 2, [], .null),
  (250, .iload 9, 2, [], .null),
  (252, .if_icmp .ge 37, 3, [], .null),
  (255, .aload_n 0, 1, [], .null),
  (256, .getfield 45, 3, [9, 15], .null),
  (259, .iload_n 1, 1, [], .null),
  (260, .aaload, 1, [], .null),
  (261, .iload 4, 2, [], .null),
  (263, .getstatic 263, 3, [], .ref 1),
  (266, .iload_n 1, 1, [], .null),
  (267, .iaload, 1, [], .null),
  (268, .isub, 1, [], .null),
  (269, .iload 10, 2, [], .null),
  (271, .iadd, 1, [], .null),
  (272, .iload 8, 2, [], .null),
  (274, .invokestatic 200, 3, [188, 2], .null),
  (277, .iconst 1, 1, [], .int 1),
  (278, .bastore, 1, [], .null),
  (279, .iload 10, 2, [], .null),
  (281, .iload 7, 2, [], .null),
  (283, .iadd, 1, [], .null),
  (284, .istore 10, 2, [], .null),
  (286, .goto (-38), 3, [], .null),
  (289, .aload_n 0, 1, [], .null),
  (290, .invokevirtual 212, 3, [45, 0, 9], .null),
  (293, .bipush 44, 2, [], .int 44),
  (295, .if_icmp .eq 4, 3, [], .null),
  (298, .return_, 1, [], .null),
  (299, .aload_n 0, 1, [], .null),
  (300, .dup, 1, [], .null),
  (301, .getfield 206, 3, [9, 7], .null),
  (304, .iconst 1, 1, [], .int 1),
  (305, .iadd, 1, [], .null),
  (306, .putfield 206, 3, [9, 7, 0, 0], .null),
  (309, .iconst 0, 1, [], .int 0),
  (310, .istore_n 2, 1, [], .null),
  (311, .goto (-285), 3, [], .null)])
def jp_M_special : jx_Me := (⟨"JobHouseModel", "special", "(II)Z"⟩, prog_13_method_25_code, 3, (some FieldType.boolean), [], [
  (0, .iload_n 1, 1, [], .null),
  (1, .iconst 3, 1, [], .int 3),
  (2, .if_icmp .ne 34, 3, [], .null),
  (5, .aload_n 0, 1, [], .null),
  (6, .invokevirtual 212, 3, [45, 0, 9], .null),
  (9, .bipush 87, 2, [], .int 87),
  (11, .if_icmp .ne 25, 3, [], .null),
  (14, .aload_n 0, 1, [], .null),
  (15, .dup, 1, [], .null),
  (16, .getfield 206, 3, [9, 7], .null),
  (19, .iconst 1, 1, [], .int 1),
  (20, .iadd, 1, [], .null),
  (21, .putfield 206, 3, [9, 7, 0, 0], .null),
  (24, .aload_n 0, 1, [], .null),
  (25, .iconst 4, 1, [], .int 4),
  (26, .putfield 276, 3, [9, 20, 0, 0], .null),
  (29, .aload_n 0, 1, [], .null),
  (30, .iload_n 2, 1, [], .null),
  (31, .putfield 279, 3, [9, 21, 0, 0], .null),
  (34, .iconst 1, 1, [], .int 1),
  (35, .ireturn, 1, [], .null),
  (36, .iload_n 1, 1, [], .null),
  (37, .iconst 5, 1, [], .int 5),
  (38, .if_icmp .eq 5, 3, [], .null),
  (41, .iconst 0, 1, [], .int 0),
  (42, .ireturn, 1, [], .null),
  (43, .aload_n 0, 1, [], .null),
  (44, .invokevirtual 212, 3, [45, 0, 9], .null),
  (47, .bipush 76, 2, [], .int 76),
  (49, .if_icmp .ne 25, 3, [], .null),
  (52, .aload_n 0, 1, [], .null),
  (53, .dup, 1, [], .null),
  (54, .getfield 206, 3, [9, 7], .null),
  (57, .iconst 1, 1, [], .int 1),
  (58, .iadd, 1, [], .null),
  (59, .putfield 206, 3, [9, 7, 0, 0], .null),
  (62, .aload_n 0, 1, [], .null),
  (63, .iconst 5, 1, [], .int 5),
  (64, .putfield 276, 3, [9, 20, 0, 0], .null),
  (67, .aload_n 0, 1, [], .null),
  (68, .iload_n 2, 1, [], .null),
  (69, .putfield 279, 3, [9, 21, 0, 0], .null),
  (72, .iconst 1, 1, [], .int 1),
  (73, .ireturn, 1, [], .null),
  (74, .aload_n 0, 1, [], .null),
  (75, .invokevirtual 212, 3, [45, 0, 9], .null),
  (78, .bipush 35, 2, [], .int 35),
  (80, .if_icmp .eq 5, 3, [], .null),
  (83, .iconst 0, 1, [], .int 0),
  (84, .ireturn, 1, [], .null),
  (85, .aload_n 0, 1, [], .null),
  (86, .dup, 1, [], .null),
  (87, .getfield 206, 3, [9, 7], .null),
  (90, .iconst 1, 1, [], .int 1),
  (91, .iadd, 1, [], .null),
  (92, .putfield 206, 3, [9, 7, 0, 0], .null),
  (95, .aload_n 0, 1, [], .null),
  (96, .bipush 6, 2, [], .int 6),
  (98, .putfield 276, 3, [9, 20, 0, 0], .null),
  (101, .aload_n 0, 1, [], .null),
  (102, .iload_n 2, 1, [], .null),
  (103, .putfield 279, 3, [9, 21, 0, 0], .null),
  (106, .aload_n 0, 1, [], .null),
  (107, .aload_n 0, 1, [], .null),
  (108, .iconst 1, 1, [], .int 1),
  (109, .iconst 5, 1, [], .int 5),
  (110, .invokevirtual 230, 3, [49, 2, 9], .null),
  (113, .putfield 282, 3, [9, 22, 0, 0], .null),
  (116, .iconst 1, 1, [], .int 1),
  (117, .ireturn, 1, [], .null)])
def jp_M_field : jx_Me := (⟨"JobHouseModel", "field", "(I)V"⟩, prog_13_method_26_code, 3, none, [], [
  (0, .aload_n 0, 1, [], .null),
  (1, .iconst 0, 1, [], .int 0),
  (2, .putfield 276, 3, [9, 20, 0, 0], .null),
  (5, .aload_n 0, 1, [], .null),
  (6, .iconst 0, 1, [], .int 0),
  (7, .putfield 279, 3, [9, 21, 0, 0], .null),
  (10, .aload_n 0, 1, [], .null),
  (11, .iconst 0, 1, [], .int 0),
  (12, .putfield 282, 3, [9, 22, 0, 0], .null),
  (15, .iload_n 1, 1, [], .null),
  (16, .iconst 3, 1, [], .int 3),
  (17, .if_icmp .eq 8, 3, [], .null),
  (20, .iload_n 1, 1, [], .null),
  (21, .iconst 5, 1, [], .int 5),
  (22, .if_icmp .ne 30, 3, [], .null),
  (25, .aload_n 0, 1, [], .null),
  (26, .invokevirtual 212, 3, [45, 0, 9], .null),
  (29, .bipush 63, 2, [], .int 63),
  (31, .if_icmp .ne 21, 3, [], .null),
  (34, .aload_n 0, 1, [], .null),
  (35, .dup, 1, [], .null),
  (36, .getfield 206, 3, [9, 7], .null),
  (39, .iconst 1, 1, [], .int 1),
  (40, .iadd, 1, [], .null),
  (41, .putfield 206, 3, [9, 7, 0, 0], .null),
  (44, .aload_n 0, 1, [], .null),
  (45, .iconst 1, 1, [], .int 1),
  (46, .putfield 276, 3, [9, 20, 0, 0], .null),
  (49, .goto 158, 3, [], .null),
  (52, .iload_n 1, 1, [], .null),
  (53, .iconst 3, 1, [], .int 3),
  (54, .if_icmp .ne 87, 3, [], .null),
  (57, .aload_n 0, 1, [], .null),
  (58, .invokevirtual 212, 3, [45, 0, 9], .null),
  (61, .bipush 76, 2, [], .int 76),
  (63, .if_icmp .ne 78, 3, [], .null),
  (66, .aload_n 0, 1, [], .null),
  (67, .dup, 1, [], .null),
  (68, .getfield 206, 3, [9, 7], .null),
  (71, .iconst 1, 1, [], .int 1),
  (72, .iadd, 1, [], .null),
  (73, .putfield 206, 3, [9, 7, 0, 0], .null),
  (76, .aload_n 0, 1, [], .null),
  (77, .iconst 2, 1, [], .int 2),
  (78, .putfield 276, 3, [9, 20, 0, 0], .null),
  (81, .aload_n 0, 1, [], .null),
  (82, .invokevirtual 212, 3, [45, 0, 9], .null),
  (85, .bipush 87, 2, [], .int 87),
  (87, .if_icmp .ne 21, 3, [], .null),
  (90, .aload_n 0, 1, [], .null),
  (91, .dup, 1, [], .null),
  (92, .getfield 206, 3, [9, 7], .null),
  (95, .iconst 1, 1, [], .int 1),
  (96, .iadd, 1, [], .null),
  (97, .putfield 206, 3, [9, 7, 0, 0], .null),
  (100, .aload_n 0, 1, [], .null),
  (101, .iconst 3, 1, [], .int 3),
  (102, .putfield 276, 3, [9, 20, 0, 0], .null),
  (105, .goto 102, 3, [], .null),
  (108, .aload_n 0, 1, [], .null),
  (109, .invokevirtual 212, 3, [45, 0, 9], .null),
  (112, .bipush 45, 2, [], .int 45),
  (114, .if_icmp .ne 93, 3, [], .null),
  (117, .aload_n 0, 1, [], .null),
  (118, .dup, 1, [], .null),
  (119, .getfield 206, 3, [9, 7], .null),
  (122, .iconst 1, 1, [], .int 1),
  (123, .iadd, 1, [], .null),
  (124, .putfield 206, 3, [9, 7, 0, 0], .null),
  (127, .aload_n 0, 1, [], .null),
  (128, .aload_n 0, 1, [], .null),
  (129, .iconst 1, 1, [], .int 1),
  (130, .bipush 30, 2, [], .int 30),
  (132, .invokevirtual 230, 3, [49, 2, 9], .null),
  (135, .putfield 279, 3, [9, 21, 0, 0], .null),
  (138, .goto 69, 3, [], .null),
  (141, .iload_n 1, 1, [], .null),
  (142, .iconst 5, 1, [], .int 5),
  (143, .if_icmp .ne 59, 3, [], .null),
  (146, .aload_n 0, 1, [], .null),
  (147, .invokevirtual 212, 3, [45, 0, 9], .null),
  (150, .bipush 76, 2, [], .int 76),
  (152, .if_icmp .ne 50, 3, [], .null),
  (155, .aload_n 0, 1, [], .null),
  (156, .dup, 1, [], .null),
  (157, .getfield 206, 3, [9, 7], .null),
  (160, .iconst 1, 1, [], .int 1),
  (161, .iadd, 1, [], .null),
  (162, .putfield 206, 3, [9, 7, 0, 0], .null),
  (165, .iconst 0, 1, [], .int 0),
  (166, .istore_n 2, 1, [], .null),
  (167, .iload_n 2, 1, [], .null),
  (168, .sipush 330, 3, [], .int 330),
  (171, .if_icmp .ge 28, 3, [], .null),
  (174, .aload_n 0, 1, [], .null),
  (175, .getfield 45, 3, [9, 15], .null),
  (178, .iload_n 1, 1, [], .null),
  (179, .aaload, 1, [], .null),
  (180, .iload_n 2, 1, [], .null),
  (181, .iload_n 2, 1, [], .null),
  (182, .bipush 6, 2, [], .int 6),
  (184, .if_icmp .ne 7, 3, [], .null),
  (187, .iconst 1, 1, [], .int 1),
  (188, .goto 4, 3, [], .null),
  (191, .iconst 0, 1, [], .int 0),
  (192, .bastore, 1, [], .null),
  (193, .iinc 2 1, 3, [], .null),
  (196, .goto (-29), 3, [], .null),
  (199, .goto 8, 3, [], .null),
  (202, .aload_n 0, 1, [], .null),
  (203, .iload_n 1, 1, [], .null),
  (204, .invokevirtual 285, 3, [59, 1, 9], .null),
  (207, .return_, 1, [], .null)])
def jp_M_readCron : jx_Me := (⟨"JobHouseModel", "readCron", "(I)V"⟩, prog_13_method_27_code, 5, none, [], [
  (0, .aload_n 0, 1, [], .null),
  (1, .iconst 0, 1, [], .int 0),
  (2, .putfield 206, 3, [9, 7, 0, 0], .null),
  (5, .bipush 6, 2, [], .int 6),
  (7, .newarray .int, 2, [2], .null),
  (9, .astore_n 2, 1, [], .null),
  (10, .iconst 0, 1, [], .int 0),
  (11, .istore_n 3, 1, [], .null),
  (12, .iload_n 3, 1, [], .null),
  (13, .bipush 7, 2, [], .int 7),
  (15, .if_icmp .ge 212, 3, [], .null),
  (18, .iload_n 3, 1, [], .null),
  (19, .bipush 6, 2, [], .int 6),
  (21, .if_icmp .ne 45, 3, [], .null),
  (24, .aload_n 0, 1, [], .null),
  (25, .getfield 206, 3, [9, 7], .null),
  (28, .aload_n 0, 1, [], .null),
  (29, .getfield 209, 3, [9, 2], .null),
  (32, .if_icmp .ne 34, 3, [], .null),
  (35, .iconst 0, 1, [], .int 0),
  (36, .istore 4, 2, [], .null),
  (38, .iload 4, 2, [], .null),
  (40, .sipush 330, 3, [], .int 330),
  (43, .if_icmp .ge 20, 3, [], .null),
  (46, .aload_n 0, 1, [], .null),
  (47, .getfield 45, 3, [9, 15], .null),
  (50, .bipush 6, 2, [], .int 6),
  (52, .aaload, 1, [], .null),
  (53, .iload 4, 2, [], .null),
  (55, .iconst 1, 1, [], .int 1),
  (56, .bastore, 1, [], .null),
  (57, .iinc 4 1, 3, [], .null),
  (60, .goto (-22), 3, [], .null),
  (63, .goto 164, 3, [], .null),
  (66, .iload_n 3, 1, [], .null),
  (67, .ifCond .le 7, 3, [], .null),
  (70, .aload_n 0, 1, [], .null),
  (71, .invokevirtual 240, 3, [48, 0, 9], .null),
  (74, .iload_n 3, 1, [], .null),
  (75, .iconst 5, 1, [], .int 5),
  (76, .if_icmp .ne 40, 3, [], .null),
  (79, .aload_n 0, 1, [], .null),
  (80, .invokevirtual 212, 3, [45, 0, 9], .null),
  (83, .bipush 63, 2, [], .int 63),
  (85, .if_icmp .ne 7, 3, [], .null),
  (88, .iconst 1, 1, [], .int 1),
  (89, .goto 4, 3, [], .null),
  (92, .iconst 0, 1, [], .int 0),
  (93, .aload_n 2, 1, [], .null),
  (94, .iconst 0, 1, [], .int 0),
  (95, .iaload, 1, [], .null),
  (96, .iconst 1, 1, [], .int 1),
  (97, .if_icmp .ne 7, 3, [], .null),
  (100, .iconst 1, 1, [], .int 1),
  (101, .goto 4, 3, [], .null),
  (104, .iconst 0, 1, [], .int 0),
  (105, .if_icmp .ne 11, 3, [], .null),
  (108, .aload_n 0, 1, [], .null),
  (109, .aload_n 0, 1, [], .null),
  (110, .getfield 206, 3, [9, 7], .null),
  (113, .invokevirtual 216, 3, [44, 1, 9], .null),
  (116, .aload_n 0, 1, [], .null),
  (117, .iload_n 3, 1, [], .null),
  (118, .invokevirtual 288, 3, [61, 1, 9], .null),
  (121, .iload_n 3, 1, [], .null),
  (122, .iconst 3, 1, [], .int 3),
  (123, .if_icmp .eq 8, 3, [], .null),
  (126, .iload_n 3, 1, [], .null),
  (127, .iconst 5, 1, [], .int 5),
  (128, .if_icmp .ne 51, 3, [], .null),
  (131, .aload_n 2, 1, [], .null),
  (132, .iload_n 3, 1, [], .null),
  (133, .iconst 3, 1, [], .int 3),
  (134, .if_icmp .ne 7, 3, [], .null),
  (137, .iconst 0, 1, [], .int 0),
  (138, .goto 4, 3, [], .null),
  (141, .iconst 3, 1, [], .int 3),
  (142, .aload_n 0, 1, [], .null),
  (143, .getfield 276, 3, [9, 20], .null),
  (146, .iastore, 1, [], .null),
  (147, .aload_n 2, 1, [], .null),
  (148, .iload_n 3, 1, [], .null),
  (149, .iconst 3, 1, [], .int 3),
  (150, .if_icmp .ne 7, 3, [], .null),
  (153, .iconst 1, 1, [], .int 1),
  (154, .goto 4, 3, [], .null),
  (157, .iconst 4, 1, [], .int 4),
  (158, .aload_n 0, 1, [], .null),
  (159, .getfield 279, 3, [9, 21], .null),
  (162, .iastore, 1, [], .null),
  (163, .aload_n 2, 1, [], .null),
  (164, .iload_n 3, 1, [], .null),
  (165, .iconst 3, 1, [], .int 3),
  (166, .if_icmp .ne 7, 3, [], .null),
  (169, .iconst 2, 1, [], .int 2),
  (170, .goto 4, 3, [], .null),
  (173, .iconst 5, 1, [], .int 5),
  (174, .aload_n 0, 1, [], .null),
  (175, .getfield 282, 3, [9, 22], .null),
  (178, .iastore, 1, [], .null),
  (179, .iload_n 3, 1, [], .null),
  (180, .iconst 5, 1, [], .int 5),
  (181, .if_icmp .ge 12, 3, [], .null),
  (184, .aload_n 0, 1, [], .null),
  (185, .invokevirtual 212, 3, [45, 0, 9], .null),
  (188, .bipush 32, 2, [], .int 32),
  (190, .if_icmp .ne 23, 3, [], .null),
  (193, .aload_n 0, 1, [], .null),
  (194, .getfield 206, 3, [9, 7], .null),
  (197, .aload_n 0, 1, [], .null),
  (198, .getfield 209, 3, [9, 2], .null),
  (201, .if_icmp .ge 20, 3, [], .null),
  (204, .aload_n 0, 1, [], .null),
  (205, .invokevirtual 212, 3, [45, 0, 9], .null),
  (208, .bipush 32, 2, [], .int 32),
  (210, .if_icmp .eq 11, 3, [], .null),
  (213, .aload_n 0, 1, [], .null),
  (214, .aload_n 0, 1, [], .null),
  (215, .getfield 206, 3, [9, 7], .null),
  (218, .invokevirtual 216, 3, [44, 1, 9], .null),
  (221, .iinc 3 1, 3, [], .null),
  (224, .goto (-212), 3, [], .null),
  (227, .aload_n 0, 1, [], .null),
  (228, .getfield 206, 3, [9, 7], .null),
  (231, .aload_n 0, 1, [], .null),
  (232, .getfield 209, 3, [9, 2], .null),
  (235, .if_icmp .ge 11, 3, [], .null),
  (238, .aload_n 0, 1, [], .null),
  (239, .aload_n 0, 1, [], .null),
  (240, .getfield 206, 3, [9, 7], .null),
  (243, .invokevirtual 216, 3, [44, 1, 9], .null),
  (246, .iconst 0, 1, [], .int 0),
  (247, .istore_n 3, 1, [], .null),
  (248, .iload_n 3, 1, [], .null),
  (249, .bipush 7, 2, [], .int 7),
  (251, .if_icmp .ge 46, 3, [], .null),
  (254, .iconst 0, 1, [], .int 0),
  (255, .istore 4, 2, [], .null),
  (257, .iload 4, 2, [], .null),
  (259, .sipush 330, 3, [], .int 330),
  (262, .if_icmp .ge 29, 3, [], .null),
  (265, .aload_n 0, 1, [], .null),
  (266, .getfield 42, 3, [9, 14], .null),
  (269, .iload_n 1, 1, [], .null),
  (270, .aaload, 1, [], .null),
  (271, .iload_n 3, 1, [], .null),
  (272, .aaload, 1, [], .null),
  (273, .iload 4, 2, [], .null),
  (275, .aload_n 0, 1, [], .null),
  (276, .getfield 45, 3, [9, 15], .null),
  (279, .iload_n 3, 1, [], .null),
  (280, .aaload, 1, [], .null),
  (281, .iload 4, 2, [], .null),
  (283, .baload, 1, [], .null),
  (284, .bastore, 1, [], .null),
  (285, .iinc 4 1, 3, [], .null),
  (288, .goto (-31), 3, [], .null),
  (291, .iinc 3 1, 3, [], .null),
  (294, .goto (-46), 3, [], .null),
  (297, .iconst 0, 1, [], .int 0),
  (298, .istore_n 3, 1, [], .null),
  (299, .iload_n 3, 1, [], .null),
  (300, .iconst 2, 1, [], .int 2),
  (301, .if_icmp .ge 52, 3, [], .null),
  (304, .aload_n 0, 1, [], .null),
  (305, .getfield 54, 3, [9, 17], .null),
  (308, .iload_n 1, 1, [], .null),
  (309, .aaload, 1, [], .null),
  (310, .iload_n 3, 1, [], .null),
  (311, .aload_n 2, 1, [], .null),
  (312, .iconst 3, 1, [], .int 3),
  (313, .iload_n 3, 1, [], .null),
  (314, .imul, 1, [], .null),
  (315, .iaload, 1, [], .null),
  (316, .iastore, 1, [], .null),
  (317, .aload_n 0, 1, [], .null),
  (318, .getfield 57, 3, [9, 18], .null),
  (321, .iload_n 1, 1, [], .null),
  (322, .aaload, 1, [], .null),
  (323, .iload_n 3, 1, [], .null),
  (324, .aload_n 2, 1, [], .null),
  (325, .iconst 3, 1, [], .int 3),
  (326, .iload_n 3, 1, [], .null),
  (327, .imul, 1, [], .null),
  (328, .iconst 1, 1, [], .int 1),
  (329, .iadd, 1, [], .null),
  (330, .iaload, 1, [], .null),
  (331, .iastore, 1, [], .null),
  (332, .aload_n 0, 1, [], .null),
  (333, .getfield 60, 3, [9, 19], .null),
  (336, .iload_n 1, 1, [], .null),
  (337, .aaload, 1, [], .null),
  (338, .iload_n 3, 1, [], .null),
  (339, .aload_n 2, 1, [], .null),
  (340, .iconst 3, 1, [], .int 3),
  (341, .iload_n 3, 1, [], .null),
  (342, .imul, 1, [], .null),
  (343, .iconst 2, 1, [], .int 2),
  (344, .iadd, 1, [], .null),
  (345, .iaload, 1, [], .null),
  (346, .iastore, 1, [], .null),
  (347, .iinc 3 1, 3, [], .null),
  (350, .goto (-51), 3, [], .null),
  (353, .aload_n 0, 1, [], .null),
  (354, .getfield 48, 3, [9, 16], .null),
  (357, .iload_n 1, 1, [], .null),
  (358, .iconst 1, 1, [], .int 1),
  (359, .bastore, 1, [], .null),
  (360, .return_, 1, [], .null)])
def jp_M_cron : jx_Me := (⟨"JobHouseModel", "cron", "(I)V"⟩, prog_13_method_28_code, 3, none, [(28, 33, 36, 203, 12)], [
  (0, .aload_n 0, 1, [], .null),
  (1, .iconst 0, 1, [], .int 0),
  (2, .putfield 172, 3, [9, 0, 0, 0], .null),
  (5, .iload_n 1, 1, [], .null),
  (6, .ifCond .lt 9, 3, [], .null),
  (9, .iload_n 1, 1, [], .null),
  (10, .bipush 15, 2, [], .int 15),
  (12, .if_icmp .le 11, 3, [], .null),
  (15, .aload_n 0, 1, [], .null),
  (16, .iconst 1, 1, [], .int 1),
  (17, .putfield 172, 3, [9, 0, 0, 0], .null),
  (20, .goto 27, 3, [], .null),
  (23, .aload_n 0, 1, [], .null),
  (24, .iconst (-1), 1, [], .int (-1)),
  (25, .putfield 13, 3, [9, 3, 0, 0], .null),
  (28, .aload_n 0, 1, [], .null),
  (29, .iload_n 1, 1, [], .null),
  (30, .invokevirtual 291, 3, [62, 1, 9], .null),
  (33, .goto 9, 3, [], .null),
  (36, .astore_n 2, 1, [], .null),
  (37, .aload_n 0, 1, [], .null),
  (38, .iconst 2, 1, [], .int 2),
  (39, .putfield 172, 3, [9, 0, 0, 0], .null),
  (42, .aload_n 0, 1, [], .null),
  (43, .iconst 0, 1, [], .int 0),
  (44, .putfield 209, 3, [9, 2, 0, 0], .null),
  (47, .return_, 1, [], .null)])
def jp_M_holiday : jx_Me := (⟨"JobHouseModel", "holiday", "(IIZ)I"⟩, prog_13_method_29_code, 4, (some FieldType.int), [], [
  (0, .aload_n 0, 1, [], .null),
  (1, .iconst 0, 1, [], .int 0),
  (2, .putfield 172, 3, [9, 0, 0, 0], .null),
  (5, .iload_n 1, 1, [], .null),
  (6, .ifCond .lt 19, 3, [], .null),
  (9, .iload_n 1, 1, [], .null),
  (10, .iconst 3, 1, [], .int 3),
  (11, .if_icmp .gt 14, 3, [], .null),
  (14, .iload_n 2, 1, [], .null),
  (15, .ifCond .lt 10, 3, [], .null),
  (18, .iload_n 2, 1, [], .null),
  (19, .ldc_w 294, 3, [], .int 120529),
  (22, .if_icmp .le 9, 3, [], .null),
  (25, .aload_n 0, 1, [], .null),
  (26, .iconst 1, 1, [], .int 1),
  (27, .invokevirtual 295, 3, [38, 1, 9], .null),
  (30, .ireturn, 1, [], .null),
  (31, .iload_n 3, 1, [], .null),
  (32, .ifCond .eq 32, 3, [], .null),
  (35, .aload_n 0, 1, [], .null),
  (36, .getfield 111, 3, [9, 25], .null),
  (39, .iload_n 1, 1, [], .null),
  (40, .aaload, 1, [], .null),
  (41, .iload_n 2, 1, [], .null),
  (42, .baload, 1, [], .null),
  (43, .ifCond .ne 21, 3, [], .null),
  (46, .aload_n 0, 1, [], .null),
  (47, .getfield 114, 3, [9, 26], .null),
  (50, .iload_n 1, 1, [], .null),
  (51, .iaload, 1, [], .null),
  (52, .sipush 200, 3, [], .int 200),
  (55, .if_icmp .ne 9, 3, [], .null),
  (58, .aload_n 0, 1, [], .null),
  (59, .iconst 2, 1, [], .int 2),
  (60, .invokevirtual 295, 3, [38, 1, 9], .null),
  (63, .ireturn, 1, [], .null),
  (64, .aload_n 0, 1, [], .null),
  (65, .getfield 111, 3, [9, 25], .null),
  (68, .iload_n 1, 1, [], .null),
  (69, .aaload, 1, [], .null),
  (70, .iload_n 2, 1, [], .null),
  (71, .baload, 1, [], .null),
  (72, .iload_n 3, 1, [], .null),
  (73, .if_icmp .eq 21, 3, [], .null),
  (76, .aload_n 0, 1, [], .null),
  (77, .getfield 114, 3, [9, 26], .null),
  (80, .iload_n 1, 1, [], .null),
  (81, .dup2, 1, [], .null),
  (82, .iaload, 1, [], .null),
  (83, .iload_n 3, 1, [], .null),
  (84, .ifCond .eq 7, 3, [], .null),
  (87, .iconst 1, 1, [], .int 1),
  (88, .goto 4, 3, [], .null),
  (91, .iconst (-1), 1, [], .int (-1)),
  (92, .iadd, 1, [], .null),
  (93, .iastore, 1, [], .null),
  (94, .aload_n 0, 1, [], .null),
  (95, .getfield 111, 3, [9, 25], .null),
  (98, .iload_n 1, 1, [], .null),
  (99, .aaload, 1, [], .null),
  (100, .iload_n 2, 1, [], .null),
  (101, .iload_n 3, 1, [], .null),
  (102, .bastore, 1, [], .null),
  (103, .aload_n 0, 1, [], .null),
  (104, .getfield 114, 3, [9, 26], .null),
  (107, .iload_n 1, 1, [], .null),
  (108, .iaload, 1, [], .null),
  (109, .ireturn, 1, [], .null)])
def jp_M_special2 : jx_Me := (⟨"JobHouseModel", "special", "(I)I"⟩, prog_13_method_30_code, 6, (some FieldType.int), [], [
  (0, .aload_n 0, 1, [], .null),
  (1, .getfield 188, 3, [9, 4], .null),
  (4, .aload_n 0, 1, [], .null),
  (5, .getfield 194, 3, [9, 5], .null),
  (8, .invokestatic 179, 3, [40, 2], .null),
  (11, .istore_n 2, 1, [], .null),
  (12, .aload_n 0, 1, [], .null),
  (13, .getfield 188, 3, [9, 4], .null),
  (16, .aload_n 0, 1, [], .null),
  (17, .getfield 194, 3, [9, 5], .null),
  (20, .invokestatic 191, 3, [41, 2], .null),
  (23, .istore_n 3, 1, [], .null),
  (24, .aload_n 0, 1, [], .null),
  (25, .getfield 57, 3, [9, 18], .null),
  (28, .iload_n 1, 1, [], .null),
  (29, .aaload, 1, [], .null),
  (30, .iconst 0, 1, [], .int 0),
  (31, .iaload, 1, [], .null),
  (32, .istore 4, 2, [], .null),
  (34, .aload_n 0, 1, [], .null),
  (35, .getfield 54, 3, [9, 17], .null),
  (38, .iload_n 1, 1, [], .null),
  (39, .aaload, 1, [], .null),
  (40, .iconst 0, 1, [], .int 0),
  (41, .iaload, 1, [], .null),
  (42, .iconst 2, 1, [], .int 2),
  (43, .if_icmp .ne 19, 3, [], .null),
  (46, .iload_n 2, 1, [], .null),
  (47, .iload 4, 2, [], .null),
  (49, .isub, 1, [], .null),
  (50, .ifCond .le 10, 3, [], .null),
  (53, .iload_n 2, 1, [], .null),
  (54, .iload 4, 2, [], .null),
  (56, .isub, 1, [], .null),
  (57, .goto 4, 3, [], .null),
  (60, .iconst 0, 1, [], .int 0),
  (61, .ireturn, 1, [], .null),
  (62, .aload_n 0, 1, [], .null),
  (63, .getfield 54, 3, [9, 17], .null),
  (66, .iload_n 1, 1, [], .null),
  (67, .aaload, 1, [], .null),
  (68, .iconst 0, 1, [], .int 0),
  (69, .iaload, 1, [], .null),
  (70, .iconst 3, 1, [], .int 3),
  (71, .if_icmp .ne 40, 3, [], .null),
  (74, .iload_n 3, 1, [], .null),
  (75, .iload_n 2, 1, [], .null),
  (76, .iadd, 1, [], .null),
  (77, .iconst 1, 1, [], .int 1),
  (78, .isub, 1, [], .null),
  (79, .invokestatic 233, 3, [43, 1], .null),
  (82, .istore 5, 2, [], .null),
  (84, .iload 5, 2, [], .null),
  (86, .bipush 7, 2, [], .int 7),
  (88, .if_icmp .ne 9, 3, [], .null),
  (91, .iload_n 2, 1, [], .null),
  (92, .iconst 1, 1, [], .int 1),
  (93, .isub, 1, [], .null),
  (94, .goto 16, 3, [], .null),
  (97, .iload 5, 2, [], .null),
  (99, .iconst 1, 1, [], .int 1),
  (100, .if_icmp .ne 9, 3, [], .null),
  (103, .iload_n 2, 1, [], .null),
  (104, .iconst 2, 1, [], .int 2),
  (105, .isub, 1, [], .null),
  (106, .goto 4, 3, [], .null),
  (109, .iload_n 2, 1, [], .null),
  (110, .ireturn, 1, [], .null),
  (111, .iload 4, 2, [], .null),
  (113, .iload_n 2, 1, [], .null),
  (114, .if_icmp .le 5, 3, [], .null),
  (117, .iconst 0, 1, [], .int 0),
  (118, .ireturn, 1, [], .null),
  (119, .iload_n 3, 1, [], .null),
  (120, .iload 4, 2, [], .null),
  (122, .iadd, 1, [], .null),
  (123, .iconst 1, 1, [], .int 1),
  (124, .isub, 1, [], .null),
  (125, .invokestatic 233, 3, [43, 1], .null),
  (128, .istore 5, 2, [], .null),
  (130, .iload 5, 2, [], .null),
  (132, .bipush 7, 2, [], .int 7),
  (134, .if_icmp .ne 21, 3, [], .null),
  (137, .iload 4, 2, [], .null),
  (139, .iconst 1, 1, [], .int 1),
  (140, .if_icmp .le 10, 3, [], .null),
  (143, .iload 4, 2, [], .null),
  (145, .iconst 1, 1, [], .int 1),
  (146, .isub, 1, [], .null),
  (147, .goto 7, 3, [], .null),
  (150, .iload 4, 2, [], .null),
  (152, .iconst 2, 1, [], .int 2),
  (153, .iadd, 1, [], .null),
  (154, .ireturn, 1, [], .null),
  (155, .iload 5, 2, [], .null),
  (157, .iconst 1, 1, [], .int 1),
  (158, .if_icmp .ne 21, 3, [], .null),
  (161, .iload 4, 2, [], .null),
  (163, .iload_n 2, 1, [], .null),
  (164, .if_icmp .ge 10, 3, [], .null),
  (167, .iload 4, 2, [], .null),
  (169, .iconst 1, 1, [], .int 1),
  (170, .iadd, 1, [], .null),
  (171, .goto 7, 3, [], .null),
  (174, .iload 4, 2, [], .null),
  (176, .iconst 2, 1, [], .int 2),
  (177, .isub, 1, [], .null),
  (178, .ireturn, 1, [], .null),
  (179, .iload 4, 2, [], .null),
  (181, .ireturn, 1, [], .null)])
def jp_M_dayFits : jx_Me := (⟨"JobHouseModel", "dayFits", "(III)Z"⟩, prog_13_method_31_code, 5, (some FieldType.boolean), [], [
  (0, .aload_n 0, 1, [], .null),
  (1, .iload_n 3, 1, [], .null),
  (2, .invokevirtual 298, 3, [42, 1, 9], .null),
  (5, .aload_n 0, 1, [], .null),
  (6, .getfield 188, 3, [9, 4], .null),
  (9, .sipush 1970, 3, [], .int 1970),
  (12, .if_icmp .lt 52, 3, [], .null),
  (15, .aload_n 0, 1, [], .null),
  (16, .getfield 188, 3, [9, 4], .null),
  (19, .sipush 2299, 3, [], .int 2299),
  (22, .if_icmp .gt 42, 3, [], .null),
  (25, .aload_n 0, 1, [], .null),
  (26, .getfield 42, 3, [9, 14], .null),
  (29, .iload_n 1, 1, [], .null),
  (30, .aaload, 1, [], .null),
  (31, .bipush 6, 2, [], .int 6),
  (33, .aaload, 1, [], .null),
  (34, .aload_n 0, 1, [], .null),
  (35, .getfield 188, 3, [9, 4], .null),
  (38, .sipush 1970, 3, [], .int 1970),
  (41, .isub, 1, [], .null),
  (42, .baload, 1, [], .null),
  (43, .ifCond .eq 21, 3, [], .null),
  (46, .aload_n 0, 1, [], .null),
  (47, .getfield 42, 3, [9, 14], .null),
  (50, .iload_n 1, 1, [], .null),
  (51, .aaload, 1, [], .null),
  (52, .iconst 4, 1, [], .int 4),
  (53, .aaload, 1, [], .null),
  (54, .aload_n 0, 1, [], .null),
  (55, .getfield 194, 3, [9, 5], .null),
  (58, .iconst 1, 1, [], .int 1),
  (59, .isub, 1, [], .null),
  (60, .baload, 1, [], .null),
  (61, .ifCond .ne 5, 3, [], .null),
  (64, .iconst 0, 1, [], .int 0),
  (65, .ireturn, 1, [], .null),
  (66, .iload_n 2, 1, [], .null),
  (67, .ifCond .lt 27, 3, [], .null),
  (70, .iload_n 3, 1, [], .null),
  (71, .ifCond .lt 23, 3, [], .null),
  (74, .iload_n 3, 1, [], .null),
  (75, .ldc_w 294, 3, [], .int 120529),
  (78, .if_icmp .gt 16, 3, [], .null),
  (81, .aload_n 0, 1, [], .null),
  (82, .getfield 111, 3, [9, 25], .null),
  (85, .iload_n 2, 1, [], .null),
  (86, .aaload, 1, [], .null),
  (87, .iload_n 3, 1, [], .null),
  (88, .baload, 1, [], .null),
  (89, .ifCond .eq 5, 3, [], .null),
  (92, .iconst 0, 1, [], .int 0),
  (93, .ireturn, 1, [], .null),
  (94, .aload_n 0, 1, [], .null),
  (95, .getfield 54, 3, [9, 17], .null),
  (98, .iload_n 1, 1, [], .null),
  (99, .aaload, 1, [], .null),
  (100, .iconst 0, 1, [], .int 0),
  (101, .iaload, 1, [], .null),
  (102, .ifCond .ne 23, 3, [], .null),
  (105, .aload_n 0, 1, [], .null),
  (106, .getfield 42, 3, [9, 14], .null),
  (109, .iload_n 1, 1, [], .null),
  (110, .aaload, 1, [], .null),
  (111, .iconst 3, 1, [], .int 3),
  (112, .aaload, 1, [], .null),
  (113, .aload_n 0, 1, [], .null),
  (114, .getfield 197, 3, [9, 6], .null),
  (117, .iconst 1, 1, [], .int 1),
  (118, .isub, 1, [], .null),
  (119, .baload, 1, [], .null),
  (120, .ifCond .ne 5, 3, [], .null),
  (123, .iconst 0, 1, [], .int 0),
  (124, .ireturn, 1, [], .null),
  (125, .aload_n 0, 1, [], .null),
  (126, .getfield 54, 3, [9, 17], .null),
  (129, .iload_n 1, 1, [], .null),
  (130, .aaload, 1, [], .null),
  (131, .iconst 0, 1, [], .int 0),
  (132, .iaload, 1, [], .null),
  (133, .iconst 1, 1, [], .int 1),
  (134, .if_icmp .le 17, 3, [], .null),
  (137, .aload_n 0, 1, [], .null),
  (138, .iload_n 1, 1, [], .null),
  (139, .invokevirtual 301, 3, [65, 1, 9], .null),
  (142, .aload_n 0, 1, [], .null),
  (143, .getfield 197, 3, [9, 6], .null),
  (146, .if_icmp .eq 5, 3, [], .null),
  (149, .iconst 0, 1, [], .int 0),
  (150, .ireturn, 1, [], .null),
  (151, .iload_n 3, 1, [], .null),
  (152, .invokestatic 233, 3, [43, 1], .null),
  (155, .istore 4, 2, [], .null),
  (157, .aload_n 0, 1, [], .null),
  (158, .getfield 54, 3, [9, 17], .null),
  (161, .iload_n 1, 1, [], .null),
  (162, .aaload, 1, [], .null),
  (163, .iconst 1, 1, [], .int 1),
  (164, .iaload, 1, [], .null),
  (165, .ifCond .ne 17, 3, [], .null),
  (168, .aload_n 0, 1, [], .null),
  (169, .getfield 42, 3, [9, 14], .null),
  (172, .iload_n 1, 1, [], .null),
  (173, .aaload, 1, [], .null),
  (174, .iconst 5, 1, [], .int 5),
  (175, .aaload, 1, [], .null),
  (176, .iload 4, 2, [], .null),
  (178, .iconst 1, 1, [], .int 1),
  (179, .isub, 1, [], .null),
  (180, .baload, 1, [], .null),
  (181, .ireturn, 1, [], .null),
  (182, .aload_n 0, 1, [], .null),
  (183, .getfield 54, 3, [9, 17], .null),
  (186, .iload_n 1, 1, [], .null),
  (187, .aaload, 1, [], .null),
  (188, .iconst 1, 1, [], .int 1),
  (189, .iaload, 1, [], .null),
  (190, .iconst 1, 1, [], .int 1),
  (191, .if_icmp .ne 5, 3, [], .null),
  (194, .iconst 1, 1, [], .int 1),
  (195, .ireturn, 1, [], .null),
  (196, .iload 4, 2, [], .null),
  (198, .aload_n 0, 1, [], .null),
  (199, .getfield 57, 3, [9, 18], .null),
  (202, .iload_n 1, 1, [], .null),
  (203, .aaload, 1, [], .null),
  (204, .iconst 1, 1, [], .int 1),
  (205, .iaload, 1, [], .null),
  (206, .if_icmp .eq 5, 3, [], .null),
  (209, .iconst 0, 1, [], .int 0),
  (210, .ireturn, 1, [], .null),
  (211, .aload_n 0, 1, [], .null),
  (212, .getfield 54, 3, [9, 17], .null),
  (215, .iload_n 1, 1, [], .null),
  (216, .aaload, 1, [], .null),
  (217, .iconst 1, 1, [], .int 1),
  (218, .iaload, 1, [], .null),
  (219, .iconst 5, 1, [], .int 5),
  (220, .if_icmp .ne 32, 3, [], .null),
  (223, .aload_n 0, 1, [], .null),
  (224, .getfield 197, 3, [9, 6], .null),
  (227, .bipush 7, 2, [], .int 7),
  (229, .iadd, 1, [], .null),
  (230, .aload_n 0, 1, [], .null),
  (231, .getfield 188, 3, [9, 4], .null),
  (234, .aload_n 0, 1, [], .null),
  (235, .getfield 194, 3, [9, 5], .null),
  (238, .invokestatic 179, 3, [40, 2], .null),
  (241, .if_icmp .le 7, 3, [], .null),
  (244, .iconst 1, 1, [], .int 1),
  (245, .goto 34, 3, [], .null),
  (248, .iconst 0, 1, [], .int 0),
  (249, .goto 30, 3, [], .null),
  (252, .aload_n 0, 1, [], .null),
  (253, .getfield 197, 3, [9, 6], .null),
  (256, .iconst 1, 1, [], .int 1),
  (257, .isub, 1, [], .null),
  (258, .bipush 7, 2, [], .int 7),
  (260, .idiv, 1, [], .null),
  (261, .iconst 1, 1, [], .int 1),
  (262, .iadd, 1, [], .null),
  (263, .aload_n 0, 1, [], .null),
  (264, .getfield 60, 3, [9, 19], .null),
  (267, .iload_n 1, 1, [], .null),
  (268, .aaload, 1, [], .null),
  (269, .iconst 1, 1, [], .int 1),
  (270, .iaload, 1, [], .null),
  (271, .if_icmp .ne 7, 3, [], .null),
  (274, .iconst 1, 1, [], .int 1),
  (275, .goto 4, 3, [], .null),
  (278, .iconst 0, 1, [], .int 0),
  (279, .ireturn, 1, [], .null)])
def jp_M_secondFrom : jx_Me := (⟨"JobHouseModel", "secondFrom", "(II)I"⟩, prog_13_method_32_code, 6, (some FieldType.int), [], [
  (0, .iload_n 2, 1, [], .null),
  (1, .sipush 3600, 3, [], .int 3600),
  (4, .idiv, 1, [], .null),
  (5, .istore_n 3, 1, [], .null),
  (6, .iload_n 3, 1, [], .null),
  (7, .bipush 24, 2, [], .int 24),
  (9, .if_icmp .ge 143, 3, [], .null),
  (12, .aload_n 0, 1, [], .null),
  (13, .getfield 42, 3, [9, 14], .null),
  (16, .iload_n 1, 1, [], .null),
  (17, .aaload, 1, [], .null),
  (18, .iconst 2, 1, [], .int 2),
  (19, .aaload, 1, [], .null),
  (20, .iload_n 3, 1, [], .null),
  (21, .baload, 1, [], .null),
  (22, .ifCond .ne 6, 3, [], .null),
  (25, .goto 121, 3, [], .null),
  (28, .iload_n 3, 1, [], .null),
  (29, .iload_n 2, 1, [], .null),
  (30, .sipush 3600, 3, [], .int 3600),
  (33, .idiv, 1, [], .null),
  (34, .if_icmp .ne 13, 3, [], .null),
  (37, .iload_n 2, 1, [], .null),
  (38, .bipush 60, 2, [], .int 60),
  (40, .idiv, 1, [], .null),
  (41, .bipush 60, 2, [], .int 60),
  (43, .irem, 1, [], .null),
  (44, .goto 4, 3, [], .null),
  (47, .iconst 0, 1, [], .int 0),
  (48, .istore 4, 2, [], .null),
  (50, .iload 4, 2, [], .null),
  (52, .bipush 60, 2, [], .int 60),
  (54, .if_icmp .ge 92, 3, [], .null),
  (57, .aload_n 0, 1, [], .null),
  (58, .getfield 42, 3, [9, 14], .null),
  (61, .iload_n 1, 1, [], .null),
  (62, .aaload, 1, [], .null),
  (63, .iconst 1, 1, [], .int 1),
  (64, .aaload, 1, [], .null),
  (65, .iload 4, 2, [], .null),
  (67, .baload, 1, [], .null),
  (68, .ifCond .ne 6, 3, [], .null),
  (71, .goto 69, 3, [], .null),
  (74, .bipush 60, 2, [], .int 60),
  (76, .bipush 60, 2, [], .int 60),
  (78, .iload_n 3, 1, [], .null),
  (79, .imul, 1, [], .null),
  (80, .iload 4, 2, [], .null),
  (82, .iadd, 1, [], .null),
  (83, .imul, 1, [], .null),
  (84, .iload_n 2, 1, [], .null),
  (85, .if_icmp .ge 10, 3, [], .null),
  (88, .iload_n 2, 1, [], .null),
  (89, .bipush 60, 2, [], .int 60),
  (91, .irem, 1, [], .null),
  (92, .goto 4, 3, [], .null),
  (95, .iconst 0, 1, [], .int 0),
  (96, .istore 5, 2, [], .null),
  (98, .iload 5, 2, [], .null),
  (100, .bipush 60, 2, [], .int 60),
  (102, .if_icmp .ge 38, 3, [], .null),
  (105, .aload_n 0, 1, [], .null),
  (106, .getfield 42, 3, [9, 14], .null),
  (109, .iload_n 1, 1, [], .null),
  (110, .aaload, 1, [], .null),
  (111, .iconst 0, 1, [], .int 0),
  (112, .aaload, 1, [], .null),
  (113, .iload 5, 2, [], .null),
  (115, .baload, 1, [], .null),
  (116, .ifCond .eq 18, 3, [], .null),
  (119, .sipush 3600, 3, [], .int 3600),
  (122, .iload_n 3, 1, [], .null),
  (123, .imul, 1, [], .null),
  (124, .bipush 60, 2, [], .int 60),
  (126, .iload 4, 2, [], .null),
  (128, .imul, 1, [], .null),
  (129, .iadd, 1, [], .null),
  (130, .iload 5, 2, [], .null),
  (132, .iadd, 1, [], .null),
  (133, .ireturn, 1, [], .null),
  (134, .iinc 5 1, 3, [], .null),
  (137, .goto (-39), 3, [], .null),
  (140, .iinc 4 1, 3, [], .null),
  (143, .goto (-93), 3, [], .null),
  (146, .iinc 3 1, 3, [], .null),
  (149, .goto (-143), 3, [], .null),
  (152, .iconst (-1), 1, [], .int (-1)),
  (153, .ireturn, 1, [], .null)])
def jp_M_secondTo : jx_Me := (⟨"JobHouseModel", "secondTo", "(II)I"⟩, prog_13_method_33_code, 6, (some FieldType.int), [], [
  (0, .iload_n 2, 1, [], .null),
  (1, .sipush 3600, 3, [], .int 3600),
  (4, .idiv, 1, [], .null),
  (5, .istore_n 3, 1, [], .null),
  (6, .iload_n 3, 1, [], .null),
  (7, .ifCond .lt 144, 3, [], .null),
  (10, .aload_n 0, 1, [], .null),
  (11, .getfield 42, 3, [9, 14], .null),
  (14, .iload_n 1, 1, [], .null),
  (15, .aaload, 1, [], .null),
  (16, .iconst 2, 1, [], .int 2),
  (17, .aaload, 1, [], .null),
  (18, .iload_n 3, 1, [], .null),
  (19, .baload, 1, [], .null),
  (20, .ifCond .ne 6, 3, [], .null),
  (23, .goto 122, 3, [], .null),
  (26, .iload_n 3, 1, [], .null),
  (27, .iload_n 2, 1, [], .null),
  (28, .sipush 3600, 3, [], .int 3600),
  (31, .idiv, 1, [], .null),
  (32, .if_icmp .ne 13, 3, [], .null),
  (35, .iload_n 2, 1, [], .null),
  (36, .bipush 60, 2, [], .int 60),
  (38, .idiv, 1, [], .null),
  (39, .bipush 60, 2, [], .int 60),
  (41, .irem, 1, [], .null),
  (42, .goto 5, 3, [], .null),
  (45, .bipush 59, 2, [], .int 59),
  (47, .istore 4, 2, [], .null),
  (49, .iload 4, 2, [], .null),
  (51, .ifCond .lt 94, 3, [], .null),
  (54, .aload_n 0, 1, [], .null),
  (55, .getfield 42, 3, [9, 14], .null),
  (58, .iload_n 1, 1, [], .null),
  (59, .aaload, 1, [], .null),
  (60, .iconst 1, 1, [], .int 1),
  (61, .aaload, 1, [], .null),
  (62, .iload 4, 2, [], .null),
  (64, .baload, 1, [], .null),
  (65, .ifCond .ne 6, 3, [], .null),
  (68, .goto 71, 3, [], .null),
  (71, .bipush 60, 2, [], .int 60),
  (73, .bipush 60, 2, [], .int 60),
  (75, .iload_n 3, 1, [], .null),
  (76, .imul, 1, [], .null),
  (77, .iload 4, 2, [], .null),
  (79, .iadd, 1, [], .null),
  (80, .imul, 1, [], .null),
  (81, .bipush 59, 2, [], .int 59),
  (83, .iadd, 1, [], .null),
  (84, .iload_n 2, 1, [], .null),
  (85, .if_icmp .le 10, 3, [], .null),
  (88, .iload_n 2, 1, [], .null),
  (89, .bipush 60, 2, [], .int 60),
  (91, .irem, 1, [], .null),
  (92, .goto 5, 3, [], .null),
  (95, .bipush 59, 2, [], .int 59),
  (97, .istore 5, 2, [], .null),
  (99, .iload 5, 2, [], .null),
  (101, .ifCond .lt 38, 3, [], .null),
  (104, .aload_n 0, 1, [], .null),
  (105, .getfield 42, 3, [9, 14], .null),
  (108, .iload_n 1, 1, [], .null),
  (109, .aaload, 1, [], .null),
  (110, .iconst 0, 1, [], .int 0),
  (111, .aaload, 1, [], .null),
  (112, .iload 5, 2, [], .null),
  (114, .baload, 1, [], .null),
  (115, .ifCond .eq 18, 3, [], .null),
  (118, .sipush 3600, 3, [], .int 3600),
  (121, .iload_n 3, 1, [], .null),
  (122, .imul, 1, [], .null),
  (123, .bipush 60, 2, [], .int 60),
  (125, .iload 4, 2, [], .null),
  (127, .imul, 1, [], .null),
  (128, .iadd, 1, [], .null),
  (129, .iload 5, 2, [], .null),
  (131, .iadd, 1, [], .null),
  (132, .ireturn, 1, [], .null),
  (133, .iinc 5 (-1), 3, [], .null),
  (136, .goto (-37), 3, [], .null),
  (139, .iinc 4 (-1), 3, [], .null),
  (142, .goto (-93), 3, [], .null),
  (145, .iinc 3 (-1), 3, [], .null),
  (148, .goto (-142), 3, [], .null),
  (151, .iconst (-1), 1, [], .int (-1)),
  (152, .ireturn, 1, [], .null)])
def jp_M_nextFire : jx_Me := (⟨"JobHouseModel", "nextFire", "(IIIJ)J"⟩, prog_13_method_34_code, 19, (some FieldType.long), [], [
  (0, .aload_n 0, 1, [], .null),
  (1, .getfield 48, 3, [9, 16], .null),
  (4, .iload_n 1, 1, [], .null),
  (5, .baload, 1, [], .null),
  (6, .ifCond .ne 7, 3, [], .null),
  (9, .ldc2_w 303, 3, [], .long (-1)),
  (12, .lreturn, 1, [], .null),
  (13, .aload_n 0, 1, [], .null),
  (14, .iload_n 2, 1, [], .null),
  (15, .lload 4, 2, [], .null),
  (17, .invokevirtual 305, 3, [55, 2, 9], .null),
  (20, .istore 6, 2, [], .null),
  (22, .lload 4, 2, [], .null),
  (24, .ldc2_w 309, 3, [], .long 1000),
  (27, .invokestatic 311, 3, [187, 2], .null),
  (30, .lconst 1, 1, [], .long 1),
  (31, .ladd, 1, [], .null),
  (32, .lstore 7, 2, [], .null),
  (34, .iload 6, 2, [], .null),
  (36, .aload_n 0, 1, [], .null),
  (37, .getfield 34, 3, [9, 12], .null),
  (40, .iload_n 2, 1, [], .null),
  (41, .iaload, 1, [], .null),
  (42, .if_icmp .ge 23, 3, [], .null),
  (45, .aload_n 0, 1, [], .null),
  (46, .getfield 26, 3, [9, 10], .null),
  (49, .iload_n 2, 1, [], .null),
  (50, .aaload, 1, [], .null),
  (51, .iload 6, 2, [], .null),
  (53, .laload, 1, [], .null),
  (54, .lconst 1, 1, [], .long 1),
  (55, .lsub, 1, [], .null),
  (56, .ldc2_w 309, 3, [], .long 1000),
  (59, .invokestatic 311, 3, [187, 2], .null),
  (62, .goto 6, 3, [], .null),
  (65, .ldc2_w 314, 3, [], .long 10413791999),
  (68, .lstore 9, 2, [], .null),
  (70, .lload 9, 2, [], .null),
  (72, .ldc2_w 314, 3, [], .long 10413791999),
  (75, .lcmp, 1, [], .null),
  (76, .ifCond .le 8, 3, [], .null),
  (79, .ldc2_w 314, 3, [], .long 10413791999),
  (82, .lstore 9, 2, [], .null),
  (84, .ldc2_w 316, 3, [], .long 60),
  (87, .aload_n 0, 1, [], .null),
  (88, .iload_n 2, 1, [], .null),
  (89, .iload 6, 2, [], .null),
  (91, .invokevirtual 318, 3, [56, 2, 9], .null),
  (94, .i2l, 1, [], .null),
  (95, .lmul, 1, [], .null),
  (96, .lstore 11, 2, [], .null),
  (98, .lload 7, 2, [], .null),
  (100, .lload 11, 2, [], .null),
  (102, .ladd, 1, [], .null),
  (103, .lstore 13, 2, [], .null),
  (105, .lload 13, 2, [], .null),
  (107, .lload 9, 2, [], .null),
  (109, .lload 11, 2, [], .null),
  (111, .ladd, 1, [], .null),
  (112, .lcmp, 1, [], .null),
  (113, .ifCond .gt 95, 3, [], .null),
  (116, .lload 13, 2, [], .null),
  (118, .ldc2_w 321, 3, [], .long 86400),
  (121, .invokestatic 311, 3, [187, 2], .null),
  (124, .l2i, 1, [], .null),
  (125, .istore 15, 2, [], .null),
  (127, .aload_n 0, 1, [], .null),
  (128, .iload_n 1, 1, [], .null),
  (129, .iload_n 3, 1, [], .null),
  (130, .iload 15, 2, [], .null),
  (132, .invokevirtual 323, 3, [66, 3, 9], .null),
  (135, .ifCond .eq 20, 3, [], .null),
  (138, .aload_n 0, 1, [], .null),
  (139, .iload_n 1, 1, [], .null),
  (140, .lload 13, 2, [], .null),
  (142, .ldc2_w 321, 3, [], .long 86400),
  (145, .invokestatic 327, 3, [189, 2], .null),
  (148, .l2i, 1, [], .null),
  (149, .invokevirtual 329, 3, [67, 2, 9], .null),
  (152, .goto 4, 3, [], .null),
  (155, .iconst (-1), 1, [], .int (-1)),
  (156, .istore 16, 2, [], .null),
  (158, .iload 16, 2, [], .null),
  (160, .ifCond .lt 34, 3, [], .null),
  (163, .ldc2_w 321, 3, [], .long 86400),
  (166, .iload 15, 2, [], .null),
  (168, .i2l, 1, [], .null),
  (169, .lmul, 1, [], .null),
  (170, .iload 16, 2, [], .null),
  (172, .i2l, 1, [], .null),
  (173, .ladd, 1, [], .null),
  (174, .lload 11, 2, [], .null),
  (176, .lsub, 1, [], .null),
  (177, .lstore 17, 2, [], .null),
  (179, .lload 17, 2, [], .null),
  (181, .lload 9, 2, [], .null),
  (183, .lcmp, 1, [], .null),
  (184, .ifCond .gt 24, 3, [], .null),
  (187, .ldc2_w 309, 3, [], .long 1000),
  (190, .lload 17, 2, [], .null),
  (192, .lmul, 1, [], .null),
  (193, .lreturn, 1, [], .null),
  (194, .ldc2_w 321, 3, [], .long 86400),
  (197, .iload 15, 2, [], .null),
  (199, .i2l, 1, [], .null),
  (200, .lconst 1, 1, [], .long 1),
  (201, .ladd, 1, [], .null),
  (202, .lmul, 1, [], .null),
  (203, .lstore 13, 2, [], .null),
  (205, .goto (-100), 3, [], .null),
  (208, .iload 6, 2, [], .null),
  (210, .aload_n 0, 1, [], .null),
  (211, .getfield 34, 3, [9, 12], .null),
  (214, .iload_n 2, 1, [], .null),
  (215, .iaload, 1, [], .null),
  (216, .if_icmp .ge 12, 3, [], .null),
  (219, .lload 9, 2, [], .null),
  (221, .ldc2_w 314, 3, [], .long 10413791999),
  (224, .lcmp, 1, [], .null),
  (225, .ifCond .ne 7, 3, [], .null),
  (228, .ldc2_w 303, 3, [], .long (-1)),
  (231, .lreturn, 1, [], .null),
  (232, .lload 7, 2, [], .null),
  (234, .lload 9, 2, [], .null),
  (236, .lconst 1, 1, [], .long 1),
  (237, .ladd, 1, [], .null),
  (238, .invokestatic 332, 3, [191, 2], .null),
  (241, .lstore 7, 2, [], .null),
  (243, .iinc 6 1, 3, [], .null),
  (246, .goto (-212), 3, [], .null)])
def jp_M_lastFire : jx_Me := (⟨"JobHouseModel", "lastFire", "(IIIJ)J"⟩, prog_13_method_35_code, 19, (some FieldType.long), [], [
  (0, .aload_n 0, 1, [], .null),
  (1, .getfield 48, 3, [9, 16], .null),
  (4, .iload_n 1, 1, [], .null),
  (5, .baload, 1, [], .null),
  (6, .ifCond .ne 7, 3, [], .null),
  (9, .ldc2_w 303, 3, [], .long (-1)),
  (12, .lreturn, 1, [], .null),
  (13, .aload_n 0, 1, [], .null),
  (14, .iload_n 2, 1, [], .null),
  (15, .lload 4, 2, [], .null),
  (17, .invokevirtual 305, 3, [55, 2, 9], .null),
  (20, .istore 6, 2, [], .null),
  (22, .lload 4, 2, [], .null),
  (24, .ldc2_w 309, 3, [], .long 1000),
  (27, .invokestatic 311, 3, [187, 2], .null),
  (30, .lstore 7, 2, [], .null),
  (32, .iload 6, 2, [], .null),
  (34, .ifCond .le 27, 3, [], .null),
  (37, .aload_n 0, 1, [], .null),
  (38, .getfield 26, 3, [9, 10], .null),
  (41, .iload_n 2, 1, [], .null),
  (42, .aaload, 1, [], .null),
  (43, .iload 6, 2, [], .null),
  (45, .iconst 1, 1, [], .int 1),
  (46, .isub, 1, [], .null),
  (47, .laload, 1, [], .null),
  (48, .ldc2_w 335, 3, [], .long 999),
  (51, .ladd, 1, [], .null),
  (52, .ldc2_w 309, 3, [], .long 1000),
  (55, .invokestatic 311, 3, [187, 2], .null),
  (58, .goto 4, 3, [], .null),
  (61, .lconst 0, 1, [], .long 0),
  (62, .lstore 9, 2, [], .null),
  (64, .lload 9, 2, [], .null),
  (66, .lconst 0, 1, [], .long 0),
  (67, .lcmp, 1, [], .null),
  (68, .ifCond .ge 6, 3, [], .null),
  (71, .lconst 0, 1, [], .long 0),
  (72, .lstore 9, 2, [], .null),
  (74, .ldc2_w 316, 3, [], .long 60),
  (77, .aload_n 0, 1, [], .null),
  (78, .iload_n 2, 1, [], .null),
  (79, .iload 6, 2, [], .null),
  (81, .invokevirtual 318, 3, [56, 2, 9], .null),
  (84, .i2l, 1, [], .null),
  (85, .lmul, 1, [], .null),
  (86, .lstore 11, 2, [], .null),
  (88, .lload 7, 2, [], .null),
  (90, .lload 11, 2, [], .null),
  (92, .ladd, 1, [], .null),
  (93, .lstore 13, 2, [], .null),
  (95, .lload 13, 2, [], .null),
  (97, .lload 9, 2, [], .null),
  (99, .lload 11, 2, [], .null),
  (101, .ladd, 1, [], .null),
  (102, .lcmp, 1, [], .null),
  (103, .ifCond .lt 95, 3, [], .null),
  (106, .lload 13, 2, [], .null),
  (108, .ldc2_w 321, 3, [], .long 86400),
  (111, .invokestatic 311, 3, [187, 2], .null),
  (114, .l2i, 1, [], .null),
  (115, .istore 15, 2, [], .null),
  (117, .aload_n 0, 1, [], .null),
  (118, .iload_n 1, 1, [], .null),
  (119, .iload_n 3, 1, [], .null),
  (120, .iload 15, 2, [], .null),
  (122, .invokevirtual 323, 3, [66, 3, 9], .null),
  (125, .ifCond .eq 20, 3, [], .null),
  (128, .aload_n 0, 1, [], .null),
  (129, .iload_n 1, 1, [], .null),
  (130, .lload 13, 2, [], .null),
  (132, .ldc2_w 321, 3, [], .long 86400),
  (135, .invokestatic 327, 3, [189, 2], .null),
  (138, .l2i, 1, [], .null),
  (139, .invokevirtual 337, 3, [68, 2, 9], .null),
  (142, .goto 4, 3, [], .null),
  (145, .iconst (-1), 1, [], .int (-1)),
  (146, .istore 16, 2, [], .null),
  (148, .iload 16, 2, [], .null),
  (150, .ifCond .lt 34, 3, [], .null),
  (153, .ldc2_w 321, 3, [], .long 86400),
  (156, .iload 15, 2, [], .null),
  (158, .i2l, 1, [], .null),
  (159, .lmul, 1, [], .null),
  (160, .iload 16, 2, [], .null),
  (162, .i2l, 1, [], .null),
  (163, .ladd, 1, [], .null),
  (164, .lload 11, 2, [], .null),
  (166, .lsub, 1, [], .null),
  (167, .lstore 17, 2, [], .null),
  (169, .lload 17, 2, [], .null),
  (171, .lload 9, 2, [], .null),
  (173, .lcmp, 1, [], .null),
  (174, .ifCond .lt 24, 3, [], .null),
  (177, .ldc2_w 309, 3, [], .long 1000),
  (180, .lload 17, 2, [], .null),
  (182, .lmul, 1, [], .null),
  (183, .lreturn, 1, [], .null),
  (184, .ldc2_w 321, 3, [], .long 86400),
  (187, .iload 15, 2, [], .null),
  (189, .i2l, 1, [], .null),
  (190, .lmul, 1, [], .null),
  (191, .lconst 1, 1, [], .long 1),
  (192, .lsub, 1, [], .null),
  (193, .lstore 13, 2, [], .null),
  (195, .goto (-100), 3, [], .null),
  (198, .iload 6, 2, [], .null),
  (200, .ifCond .eq 10, 3, [], .null),
  (203, .lload 9, 2, [], .null),
  (205, .lconst 0, 1, [], .long 0),
  (206, .lcmp, 1, [], .null),
  (207, .ifCond .ne 7, 3, [], .null),
  (210, .ldc2_w 303, 3, [], .long (-1)),
  (213, .lreturn, 1, [], .null),
  (214, .lload 7, 2, [], .null),
  (216, .lload 9, 2, [], .null),
  (218, .lconst 1, 1, [], .long 1),
  (219, .lsub, 1, [], .null),
  (220, .invokestatic 340, 3, [193, 2], .null),
  (223, .lstore 7, 2, [], .null),
  (225, .iinc 6 (-1), 3, [], .null),
  (228, .goto (-196), 3, [], .null)])
def jp_M_badFire : jx_Me := (⟨"JobHouseModel", "badFire", "(IIIJ)Z"⟩, prog_13_method_36_code, 6, (some FieldType.boolean), [], [
  (0, .iload_n 1, 1, [], .null),
  (1, .ifCond .lt 45, 3, [], .null),
  (4, .iload_n 1, 1, [], .null),
  (5, .bipush 15, 2, [], .int 15),
  (7, .if_icmp .gt 39, 3, [], .null),
  (10, .iload_n 2, 1, [], .null),
  (11, .ifCond .lt 35, 3, [], .null),
  (14, .iload_n 2, 1, [], .null),
  (15, .bipush 7, 2, [], .int 7),
  (17, .if_icmp .gt 29, 3, [], .null),
  (20, .iload_n 3, 1, [], .null),
  (21, .iconst (-1), 1, [], .int (-1)),
  (22, .if_icmp .lt 24, 3, [], .null),
  (25, .iload_n 3, 1, [], .null),
  (26, .iconst 3, 1, [], .int 3),
  (27, .if_icmp .gt 19, 3, [], .null),
  (30, .lload 4, 2, [], .null),
  (32, .lconst 0, 1, [], .long 0),
  (33, .lcmp, 1, [], .null),
  (34, .ifCond .lt 12, 3, [], .null),
  (37, .lload 4, 2, [], .null),
  (39, .ldc2_w 342, 3, [], .long 10413791999999),
  (42, .lcmp, 1, [], .null),
  (43, .ifCond .le 7, 3, [], .null),
  (46, .iconst 1, 1, [], .int 1),
  (47, .goto 4, 3, [], .null),
  (50, .iconst 0, 1, [], .int 0),
  (51, .ireturn, 1, [], .null)])
def jp_M_next : jx_Me := (⟨"JobHouseModel", "next", "(IIIJ)J"⟩, prog_13_method_37_code, 6, (some FieldType.long), [], [
  (0, .aload_n 0, 1, [], .null),
  (1, .iconst 0, 1, [], .int 0),
  (2, .putfield 172, 3, [9, 0, 0, 0], .null),
  (5, .aload_n 0, 1, [], .null),
  (6, .iload_n 1, 1, [], .null),
  (7, .iload_n 2, 1, [], .null),
  (8, .iload_n 3, 1, [], .null),
  (9, .lload 4, 2, [], .null),
  (11, .invokevirtual 344, 3, [71, 4, 9], .null),
  (14, .ifCond .eq 12, 3, [], .null),
  (17, .aload_n 0, 1, [], .null),
  (18, .iconst 1, 1, [], .int 1),
  (19, .invokevirtual 295, 3, [38, 1, 9], .null),
  (22, .i2l, 1, [], .null),
  (23, .goto 12, 3, [], .null),
  (26, .aload_n 0, 1, [], .null),
  (27, .iload_n 1, 1, [], .null),
  (28, .iload_n 2, 1, [], .null),
  (29, .iload_n 3, 1, [], .null),
  (30, .lload 4, 2, [], .null),
  (32, .invokevirtual 348, 3, [69, 4, 9], .null),
  (35, .lreturn, 1, [], .null)])
def jp_M_last : jx_Me := (⟨"JobHouseModel", "last", "(IIIJ)J"⟩, prog_13_method_38_code, 6, (some FieldType.long), [], [
  (0, .aload_n 0, 1, [], .null),
  (1, .iconst 0, 1, [], .int 0),
  (2, .putfield 172, 3, [9, 0, 0, 0], .null),
  (5, .aload_n 0, 1, [], .null),
  (6, .iload_n 1, 1, [], .null),
  (7, .iload_n 2, 1, [], .null),
  (8, .iload_n 3, 1, [], .null),
  (9, .lload 4, 2, [], .null),
  (11, .invokevirtual 344, 3, [71, 4, 9], .null),
  (14, .ifCond .eq 12, 3, [], .null),
  (17, .aload_n 0, 1, [], .null),
  (18, .iconst 1, 1, [], .int 1),
  (19, .invokevirtual 295, 3, [38, 1, 9], .null),
  (22, .i2l, 1, [], .null),
  (23, .goto 12, 3, [], .null),
  (26, .aload_n 0, 1, [], .null),
  (27, .iload_n 1, 1, [], .null),
  (28, .iload_n 2, 1, [], .null),
  (29, .iload_n 3, 1, [], .null),
  (30, .lload 4, 2, [], .null),
  (32, .invokevirtual 352, 3, [70, 4, 9], .null),
  (35, .lreturn, 1, [], .null)])
def jp_M_local : jx_Me := (⟨"JobHouseModel", "local", "(IJI)I"⟩, prog_13_method_39_code, 10, (some FieldType.int), [], [
  (0, .aload_n 0, 1, [], .null),
  (1, .iconst 0, 1, [], .int 0),
  (2, .putfield 172, 3, [9, 0, 0, 0], .null),
  (5, .iload_n 1, 1, [], .null),
  (6, .ifCond .lt 35, 3, [], .null),
  (9, .iload_n 1, 1, [], .null),
  (10, .bipush 7, 2, [], .int 7),
  (12, .if_icmp .gt 29, 3, [], .null),
  (15, .lload_n 2, 1, [], .null),
  (16, .lconst 0, 1, [], .long 0),
  (17, .lcmp, 1, [], .null),
  (18, .ifCond .lt 23, 3, [], .null),
  (21, .lload_n 2, 1, [], .null),
  (22, .ldc2_w 342, 3, [], .long 10413791999999),
  (25, .lcmp, 1, [], .null),
  (26, .ifCond .gt 15, 3, [], .null),
  (29, .iload 4, 2, [], .null),
  (31, .ifCond .lt 10, 3, [], .null),
  (34, .iload 4, 2, [], .null),
  (36, .bipush 7, 2, [], .int 7),
  (38, .if_icmp .le 9, 3, [], .null),
  (41, .aload_n 0, 1, [], .null),
  (42, .iconst 1, 1, [], .int 1),
  (43, .invokevirtual 295, 3, [38, 1, 9], .null),
  (46, .ireturn, 1, [], .null),
  (47, .aload_n 0, 1, [], .null),
  (48, .iload_n 1, 1, [], .null),
  (49, .aload_n 0, 1, [], .null),
  (50, .iload_n 1, 1, [], .null),
  (51, .lload_n 2, 1, [], .null),
  (52, .invokevirtual 305, 3, [55, 2, 9], .null),
  (55, .invokevirtual 318, 3, [56, 2, 9], .null),
  (58, .istore 5, 2, [], .null),
  (60, .lload_n 2, 1, [], .null),
  (61, .ldc2_w 309, 3, [], .long 1000),
  (64, .invokestatic 311, 3, [187, 2], .null),
  (67, .ldc2_w 316, 3, [], .long 60),
  (70, .iload 5, 2, [], .null),
  (72, .i2l, 1, [], .null),
  (73, .lmul, 1, [], .null),
  (74, .ladd, 1, [], .null),
  (75, .lstore 6, 2, [], .null),
  (77, .lload 6, 2, [], .null),
  (79, .ldc2_w 321, 3, [], .long 86400),
  (82, .invokestatic 311, 3, [187, 2], .null),
  (85, .l2i, 1, [], .null),
  (86, .istore 8, 2, [], .null),
  (88, .lload 6, 2, [], .null),
  (90, .ldc2_w 321, 3, [], .long 86400),
  (93, .invokestatic 327, 3, [189, 2], .null),
  (96, .l2i, 1, [], .null),
  (97, .istore 9, 2, [], .null),
  (99, .aload_n 0, 1, [], .null),
  (100, .iload 8, 2, [], .null),
  (102, .invokevirtual 298, 3, [42, 1, 9], .null),
  (105, .iload 4, 2, [], .null),
  (107, .tableswitch 84 0 6 #[41, 47, 56, 63, 68, 73, 78], 41, [], .null),
  (148, .iload 9, 2, [], .null),
  (150, .bipush 60, 2, [], .int 60),
  (152, .irem, 1, [], .null),
  (153, .ireturn, 1, [], .null),
  (154, .iload 9, 2, [], .null),
  (156, .bipush 60, 2, [], .int 60),
  (158, .idiv, 1, [], .null),
  (159, .bipush 60, 2, [], .int 60),
  (161, .irem, 1, [], .null),
  (162, .ireturn, 1, [], .null),
  (163, .iload 9, 2, [], .null),
  (165, .sipush 3600, 3, [], .int 3600),
  (168, .idiv, 1, [], .null),
  (169, .ireturn, 1, [], .null),
  (170, .aload_n 0, 1, [], .null),
  (171, .getfield 197, 3, [9, 6], .null),
  (174, .ireturn, 1, [], .null),
  (175, .aload_n 0, 1, [], .null),
  (176, .getfield 194, 3, [9, 5], .null),
  (179, .ireturn, 1, [], .null),
  (180, .aload_n 0, 1, [], .null),
  (181, .getfield 188, 3, [9, 4], .null),
  (184, .ireturn, 1, [], .null),
  (185, .iload 8, 2, [], .null),
  (187, .invokestatic 233, 3, [43, 1], .null),
  (190, .ireturn, 1, [], .null),
  (191, .iload 5, 2, [], .null),
  (193, .ireturn, 1, [], .null)])
def jp_M_enter : jx_Me := (⟨"JobHouseModel", "enter", "(IJJJIII)I"⟩, prog_13_method_40_code, 12, (some FieldType.int), [], [
  (0, .iconst 0, 1, [], .int 0),
  (1, .istore 11, 2, [], .null),
  (3, .iload 11, 2, [], .null),
  (5, .bipush 100, 2, [], .int 100),
  (7, .if_icmp .ge 19, 3, [], .null),
  (10, .aload_n 0, 1, [], .null),
  (11, .getfield 117, 3, [9, 27], .null),
  (14, .iload 11, 2, [], .null),
  (16, .iaload, 1, [], .null),
  (17, .ifCond .eq 9, 3, [], .null),
  (20, .iinc 11 1, 3, [], .null),
  (23, .goto (-20), 3, [], .null),
  (26, .iload 11, 2, [], .null),
  (28, .bipush 100, 2, [], .int 100),
  (30, .if_icmp .ne 5, 3, [], .null),
  (33, .iconst (-1), 1, [], .int (-1)),
  (34, .ireturn, 1, [], .null),
  (35, .aload_n 0, 1, [], .null),
  (36, .getfield 117, 3, [9, 27], .null),
  (39, .iload 11, 2, [], .null),
  (41, .iconst 1, 1, [], .int 1),
  (42, .iastore, 1, [], .null),
  (43, .aload_n 0, 1, [], .null),
  (44, .getfield 120, 3, [9, 28], .null),
  (47, .iload 11, 2, [], .null),
  (49, .iload_n 1, 1, [], .null),
  (50, .iastore, 1, [], .null),
  (51, .aload_n 0, 1, [], .null),
  (52, .getfield 123, 3, [9, 29], .null),
  (55, .iload 11, 2, [], .null),
  (57, .lload_n 2, 1, [], .null),
  (58, .lastore, 1, [], .null),
  (59, .aload_n 0, 1, [], .null),
  (60, .getfield 136, 3, [9, 33], .null),
  (63, .iload 11, 2, [], .null),
  (65, .lload 4, 2, [], .null),
  (67, .lastore, 1, [], .null),
  (68, .aload_n 0, 1, [], .null),
  (69, .getfield 139, 3, [9, 34], .null),
  (72, .iload 11, 2, [], .null),
  (74, .lload 6, 2, [], .null),
  (76, .lastore, 1, [], .null),
  (77, .aload_n 0, 1, [], .null),
  (78, .getfield 142, 3, [9, 35], .null),
  (81, .iload 11, 2, [], .null),
  (83, .iload 8, 2, [], .null),
  (85, .iastore, 1, [], .null),
  (86, .aload_n 0, 1, [], .null),
  (87, .getfield 145, 3, [9, 36], .null),
  (90, .iload 11, 2, [], .null),
  (92, .iload 9, 2, [], .null),
  (94, .iastore, 1, [], .null),
  (95, .aload_n 0, 1, [], .null),
  (96, .getfield 148, 3, [9, 37], .null),
  (99, .iload 11, 2, [], .null),
  (101, .iload 10, 2, [], .null),
  (103, .iastore, 1, [], .null),
  (104, .aload_n 0, 1, [], .null),
  (105, .getfield 130, 3, [9, 31], .null),
  (108, .iload 11, 2, [], .null),
  (110, .lconst 0, 1, [], .long 0),
  (111, .lastore, 1, [], .null),
  (112, .aload_n 0, 1, [], .null),
  (113, .getfield 133, 3, [9, 32], .null),
  (116, .iload 11, 2, [], .null),
  (118, .aload_n 0, 1, [], .null),
  (119, .getfield 355, 3, [9, 43], .null),
  (122, .lastore, 1, [], .null),
  (123, .aload_n 0, 1, [], .null),
  (124, .dup, 1, [], .null),
  (125, .getfield 355, 3, [9, 43], .null),
  (128, .lconst 1, 1, [], .long 1),
  (129, .ladd, 1, [], .null),
  (130, .putfield 355, 3, [9, 43, 1, 0], .null),
  (133, .iload 11, 2, [], .null),
  (135, .ireturn, 1, [], .null)])
def jp_M_make : jx_Me := (⟨"JobHouseModel", "make", "(IJJJIII)I"⟩, prog_13_method_41_code, 12, (some FieldType.int), [], [
  (0, .aload_n 0, 1, [], .null),
  (1, .iconst 0, 1, [], .int 0),
  (2, .putfield 172, 3, [9, 0, 0, 0], .null),
  (5, .iload_n 1, 1, [], .null),
  (6, .ifCond .lt 97, 3, [], .null),
  (9, .iload_n 1, 1, [], .null),
  (10, .iconst 2, 1, [], .int 2),
  (11, .if_icmp .gt 92, 3, [], .null),
  (14, .lload_n 2, 1, [], .null),
  (15, .lconst 0, 1, [], .long 0),
  (16, .lcmp, 1, [], .null),
  (17, .ifCond .lt 86, 3, [], .null),
  (20, .lload_n 2, 1, [], .null),
  (21, .ldc2_w 359, 3, [], .long 1099511627776),
  (24, .lcmp, 1, [], .null),
  (25, .ifCond .gt 78, 3, [], .null),
  (28, .aload_n 0, 1, [], .null),
  (29, .getfield 361, 3, [9, 41], .null),
  (32, .lload_n 2, 1, [], .null),
  (33, .ladd, 1, [], .null),
  (34, .ldc2_w 342, 3, [], .long 10413791999999),
  (37, .lcmp, 1, [], .null),
  (38, .ifCond .gt 65, 3, [], .null),
  (41, .iload_n 1, 1, [], .null),
  (42, .ifCond .ne 13, 3, [], .null),
  (45, .lload 4, 2, [], .null),
  (47, .lconst 0, 1, [], .long 0),
  (48, .lcmp, 1, [], .null),
  (49, .ifCond .eq 22, 3, [], .null),
  (52, .goto 51, 3, [], .null),
  (55, .lload 4, 2, [], .null),
  (57, .lconst 1, 1, [], .long 1),
  (58, .lcmp, 1, [], .null),
  (59, .ifCond .lt 44, 3, [], .null),
  (62, .lload 4, 2, [], .null),
  (64, .ldc2_w 359, 3, [], .long 1099511627776),
  (67, .lcmp, 1, [], .null),
  (68, .ifCond .gt 35, 3, [], .null),
  (71, .lload 6, 2, [], .null),
  (73, .lconst 0, 1, [], .long 0),
  (74, .lcmp, 1, [], .null),
  (75, .ifCond .lt 28, 3, [], .null),
  (78, .lload 6, 2, [], .null),
  (80, .ldc2_w 359, 3, [], .long 1099511627776),
  (83, .lcmp, 1, [], .null),
  (84, .ifCond .gt 19, 3, [], .null),
  (87, .iload 9, 2, [], .null),
  (89, .ifCond .lt 14, 3, [], .null),
  (92, .iload 9, 2, [], .null),
  (94, .iconst 2, 1, [], .int 2),
  (95, .if_icmp .gt 8, 3, [], .null),
  (98, .iload 10, 2, [], .null),
  (100, .ifCond .ge 9, 3, [], .null),
  (103, .aload_n 0, 1, [], .null),
  (104, .iconst 1, 1, [], .int 1),
  (105, .invokevirtual 295, 3, [38, 1, 9], .null),
  (108, .ireturn, 1, [], .null),
  (109, .aload_n 0, 1, [], .null),
  (110, .getfield 364, 3, [9, 45], .null),
  (113, .ifCond .eq 9, 3, [], .null),
  (116, .aload_n 0, 1, [], .null),
  (117, .iconst 2, 1, [], .int 2),
  (118, .invokevirtual 295, 3, [38, 1, 9], .null),
  (121, .ireturn, 1, [], .null),
  (122, .aload_n 0, 1, [], .null),
  (123, .iload_n 1, 1, [], .null),
  (124, .aload_n 0, 1, [], .null),
  (125, .getfield 361, 3, [9, 41], .null),
  (128, .lload_n 2, 1, [], .null),
  (129, .ladd, 1, [], .null),
  (130, .lload 4, 2, [], .null),
  (132, .lload 6, 2, [], .null),
  (134, .iload 8, 2, [], .null),
  (136, .iload 9, 2, [], .null),
  (138, .iload 10, 2, [], .null),
  (140, .invokevirtual 368, 3, [75, 7, 9], .null),
  (143, .istore 11, 2, [], .null),
  (145, .iload 11, 2, [], .null),
  (147, .ifCond .ge 11, 3, [], .null),
  (150, .aload_n 0, 1, [], .null),
  (151, .iconst 3, 1, [], .int 3),
  (152, .invokevirtual 295, 3, [38, 1, 9], .null),
  (155, .goto 5, 3, [], .null),
  (158, .iload 11, 2, [], .null),
  (160, .ireturn, 1, [], .null)])
def jp_M_makeCron : jx_Me := (⟨"JobHouseModel", "makeCron", "(IIIJIII)I"⟩, prog_13_method_42_code, 12, (some FieldType.int), [], [
  (0, .aload_n 0, 1, [], .null),
  (1, .iconst 0, 1, [], .int 0),
  (2, .putfield 172, 3, [9, 0, 0, 0], .null),
  (5, .aload_n 0, 1, [], .null),
  (6, .iload_n 1, 1, [], .null),
  (7, .iload_n 2, 1, [], .null),
  (8, .iload_n 3, 1, [], .null),
  (9, .lconst 0, 1, [], .long 0),
  (10, .invokevirtual 344, 3, [71, 4, 9], .null),
  (13, .ifCond .ne 35, 3, [], .null),
  (16, .lload 4, 2, [], .null),
  (18, .lconst 0, 1, [], .long 0),
  (19, .lcmp, 1, [], .null),
  (20, .ifCond .lt 28, 3, [], .null),
  (23, .lload 4, 2, [], .null),
  (25, .ldc2_w 359, 3, [], .long 1099511627776),
  (28, .lcmp, 1, [], .null),
  (29, .ifCond .gt 19, 3, [], .null),
  (32, .iload 7, 2, [], .null),
  (34, .ifCond .lt 14, 3, [], .null),
  (37, .iload 7, 2, [], .null),
  (39, .iconst 2, 1, [], .int 2),
  (40, .if_icmp .gt 8, 3, [], .null),
  (43, .iload 8, 2, [], .null),
  (45, .ifCond .ge 9, 3, [], .null),
  (48, .aload_n 0, 1, [], .null),
  (49, .iconst 1, 1, [], .int 1),
  (50, .invokevirtual 295, 3, [38, 1, 9], .null),
  (53, .ireturn, 1, [], .null),
  (54, .aload_n 0, 1, [], .null),
  (55, .getfield 364, 3, [9, 45], .null),
  (58, .ifCond .eq 9, 3, [], .null),
  (61, .aload_n 0, 1, [], .null),
  (62, .iconst 2, 1, [], .int 2),
  (63, .invokevirtual 295, 3, [38, 1, 9], .null),
  (66, .ireturn, 1, [], .null),
  (67, .aload_n 0, 1, [], .null),
  (68, .iload_n 1, 1, [], .null),
  (69, .iload_n 2, 1, [], .null),
  (70, .iload_n 3, 1, [], .null),
  (71, .aload_n 0, 1, [], .null),
  (72, .getfield 361, 3, [9, 41], .null),
  (75, .invokevirtual 348, 3, [69, 4, 9], .null),
  (78, .lstore 9, 2, [], .null),
  (80, .lload 9, 2, [], .null),
  (82, .lconst 0, 1, [], .long 0),
  (83, .lcmp, 1, [], .null),
  (84, .ifCond .ge 9, 3, [], .null),
  (87, .aload_n 0, 1, [], .null),
  (88, .iconst 3, 1, [], .int 3),
  (89, .invokevirtual 295, 3, [38, 1, 9], .null),
  (92, .ireturn, 1, [], .null),
  (93, .aload_n 0, 1, [], .null),
  (94, .iconst 3, 1, [], .int 3),
  (95, .lload 9, 2, [], .null),
  (97, .lconst 0, 1, [], .long 0),
  (98, .lload 4, 2, [], .null),
  (100, .iload 6, 2, [], .null),
  (102, .iload 7, 2, [], .null),
  (104, .iload 8, 2, [], .null),
  (106, .invokevirtual 368, 3, [75, 7, 9], .null),
  (109, .istore 11, 2, [], .null),
  (111, .iload 11, 2, [], .null),
  (113, .ifCond .ge 9, 3, [], .null),
  (116, .aload_n 0, 1, [], .null),
  (117, .iconst 4, 1, [], .int 4),
  (118, .invokevirtual 295, 3, [38, 1, 9], .null),
  (121, .ireturn, 1, [], .null),
  (122, .aload_n 0, 1, [], .null),
  (123, .getfield 151, 3, [9, 38], .null),
  (126, .iload 11, 2, [], .null),
  (128, .iload_n 1, 1, [], .null),
  (129, .iastore, 1, [], .null),
  (130, .aload_n 0, 1, [], .null),
  (131, .getfield 154, 3, [9, 39], .null),
  (134, .iload 11, 2, [], .null),
  (136, .iload_n 2, 1, [], .null),
  (137, .iastore, 1, [], .null),
  (138, .aload_n 0, 1, [], .null),
  (139, .getfield 157, 3, [9, 40], .null),
  (142, .iload 11, 2, [], .null),
  (144, .iload_n 3, 1, [], .null),
  (145, .iastore, 1, [], .null),
  (146, .iload 11, 2, [], .null),
  (148, .ireturn, 1, [], .null)])
def jp_M_none : jx_Me := (⟨"JobHouseModel", "none", "(I)Z"⟩, prog_13_method_43_code, 2, (some FieldType.boolean), [], [
  (0, .iload_n 1, 1, [], .null),
  (1, .ifCond .lt 18, 3, [], .null),
  (4, .iload_n 1, 1, [], .null),
  (5, .bipush 99, 2, [], .int 99),
  (7, .if_icmp .gt 12, 3, [], .null),
  (10, .aload_n 0, 1, [], .null),
  (11, .getfield 117, 3, [9, 27], .null),
  (14, .iload_n 1, 1, [], .null),
  (15, .iaload, 1, [], .null),
  (16, .ifCond .ne 7, 3, [], .null),
  (19, .iconst 1, 1, [], .int 1),
  (20, .goto 4, 3, [], .null),
  (23, .iconst 0, 1, [], .int 0),
  (24, .ireturn, 1, [], .null)])
def jp_M_cancel : jx_Me := (⟨"JobHouseModel", "cancel", "(I)I"⟩, prog_13_method_44_code, 3, (some FieldType.int), [], [
  (0, .aload_n 0, 1, [], .null),
  (1, .iconst 0, 1, [], .int 0),
  (2, .putfield 172, 3, [9, 0, 0, 0], .null),
  (5, .aload_n 0, 1, [], .null),
  (6, .iload_n 1, 1, [], .null),
  (7, .invokevirtual 372, 3, [78, 1, 9], .null),
  (10, .ifCond .eq 9, 3, [], .null),
  (13, .aload_n 0, 1, [], .null),
  (14, .iconst 1, 1, [], .int 1),
  (15, .invokevirtual 295, 3, [38, 1, 9], .null),
  (18, .ireturn, 1, [], .null),
  (19, .aload_n 0, 1, [], .null),
  (20, .getfield 117, 3, [9, 27], .null),
  (23, .iload_n 1, 1, [], .null),
  (24, .iaload, 1, [], .null),
  (25, .istore_n 2, 1, [], .null),
  (26, .aload_n 0, 1, [], .null),
  (27, .getfield 117, 3, [9, 27], .null),
  (30, .iload_n 1, 1, [], .null),
  (31, .iload_n 2, 1, [], .null),
  (32, .iconst 1, 1, [], .int 1),
  (33, .if_icmp .ne 7, 3, [], .null),
  (36, .iconst 0, 1, [], .int 0),
  (37, .goto 4, 3, [], .null),
  (40, .iconst 3, 1, [], .int 3),
  (41, .iastore, 1, [], .null),
  (42, .iload_n 2, 1, [], .null),
  (43, .iconst 1, 1, [], .int 1),
  (44, .if_icmp .ne 7, 3, [], .null),
  (47, .iconst 1, 1, [], .int 1),
  (48, .goto 4, 3, [], .null),
  (51, .iconst 2, 1, [], .int 2),
  (52, .ireturn, 1, [], .null)])
def jp_M_workers : jx_Me := (⟨"JobHouseModel", "workers", "(I)I"⟩, prog_13_method_45_code, 3, (some FieldType.int), [], [
  (0, .aload_n 0, 1, [], .null),
  (1, .iconst 0, 1, [], .int 0),
  (2, .putfield 172, 3, [9, 0, 0, 0], .null),
  (5, .iload_n 1, 1, [], .null),
  (6, .ifCond .lt 9, 3, [], .null),
  (9, .iload_n 1, 1, [], .null),
  (10, .bipush 8, 2, [], .int 8),
  (12, .if_icmp .le 9, 3, [], .null),
  (15, .aload_n 0, 1, [], .null),
  (16, .iconst 1, 1, [], .int 1),
  (17, .invokevirtual 295, 3, [38, 1, 9], .null),
  (20, .ireturn, 1, [], .null),
  (21, .aload_n 0, 1, [], .null),
  (22, .getfield 160, 3, [9, 42], .null),
  (25, .istore_n 2, 1, [], .null),
  (26, .aload_n 0, 1, [], .null),
  (27, .iload_n 1, 1, [], .null),
  (28, .putfield 160, 3, [9, 42, 0, 0], .null),
  (31, .iload_n 2, 1, [], .null),
  (32, .ireturn, 1, [], .null)])
def jp_M_running : jx_Me := (⟨"JobHouseModel", "running", "()I"⟩, prog_13_method_46_code, 3, (some FieldType.int), [], [
  (0, .iconst 0, 1, [], .int 0),
  (1, .istore_n 1, 1, [], .null),
  (2, .iconst 0, 1, [], .int 0),
  (3, .istore_n 2, 1, [], .null),
  (4, .iload_n 2, 1, [], .null),
  (5, .bipush 100, 2, [], .int 100),
  (7, .if_icmp .ge 27, 3, [], .null),
  (10, .iload_n 1, 1, [], .null),
  (11, .aload_n 0, 1, [], .null),
  (12, .getfield 117, 3, [9, 27], .null),
  (15, .iload_n 2, 1, [], .null),
  (16, .iaload, 1, [], .null),
  (17, .iconst 1, 1, [], .int 1),
  (18, .if_icmp .le 7, 3, [], .null),
  (21, .iconst 1, 1, [], .int 1),
  (22, .goto 4, 3, [], .null),
  (25, .iconst 0, 1, [], .int 0),
  (26, .iadd, 1, [], .null),
  (27, .istore_n 1, 1, [], .null),
  (28, .iinc 2 1, 3, [], .null),
  (31, .goto (-27), 3, [], .null),
  (34, .iload_n 1, 1, [], .null),
  (35, .ireturn, 1, [], .null)])
def jp_M_following : jx_Me := (⟨"JobHouseModel", "following", "(I)J"⟩, prog_13_method_47_code, 10, (some FieldType.long), [], [
  (0, .aload_n 0, 1, [], .null),
  (1, .getfield 123, 3, [9, 29], .null),
  (4, .iload_n 1, 1, [], .null),
  (5, .laload, 1, [], .null),
  (6, .lstore_n 2, 1, [], .null),
  (7, .aload_n 0, 1, [], .null),
  (8, .getfield 136, 3, [9, 33], .null),
  (11, .iload_n 1, 1, [], .null),
  (12, .laload, 1, [], .null),
  (13, .lstore 4, 2, [], .null),
  (15, .aload_n 0, 1, [], .null),
  (16, .getfield 120, 3, [9, 28], .null),
  (19, .iload_n 1, 1, [], .null),
  (20, .iaload, 1, [], .null),
  (21, .iconst 2, 1, [], .int 2),
  (22, .if_icmp .ne 15, 3, [], .null),
  (25, .aload_n 0, 1, [], .null),
  (26, .getfield 361, 3, [9, 41], .null),
  (29, .lload 4, 2, [], .null),
  (31, .ladd, 1, [], .null),
  (32, .lstore 6, 2, [], .null),
  (34, .goto 212, 3, [], .null),
  (37, .aload_n 0, 1, [], .null),
  (38, .getfield 120, 3, [9, 28], .null),
  (41, .iload_n 1, 1, [], .null),
  (42, .iaload, 1, [], .null),
  (43, .iconst 1, 1, [], .int 1),
  (44, .if_icmp .ne 81, 3, [], .null),
  (47, .aload_n 0, 1, [], .null),
  (48, .getfield 361, 3, [9, 41], .null),
  (51, .lload_n 2, 1, [], .null),
  (52, .lcmp, 1, [], .null),
  (53, .ifCond .le 15, 3, [], .null),
  (56, .aload_n 0, 1, [], .null),
  (57, .getfield 361, 3, [9, 41], .null),
  (60, .lload_n 2, 1, [], .null),
  (61, .lsub, 1, [], .null),
  (62, .lload 4, 2, [], .null),
  (64, .ldiv, 1, [], .null),
  (65, .goto 4, 3, [], .null),
  (68, .lconst 0, 1, [], .long 0),
  (69, .lstore 8, 2, [], .null),
  (71, .aload_n 0, 1, [], .null),
  (72, .getfield 145, 3, [9, 36], .null),
  (75, .iload_n 1, 1, [], .null),
  (76, .iaload, 1, [], .null),
  (77, .ifCond .ne 10, 3, [], .null),
  (80, .lload_n 2, 1, [], .null),
  (81, .lload 4, 2, [], .null),
  (83, .ladd, 1, [], .null),
  (84, .goto 36, 3, [], .null),
  (87, .aload_n 0, 1, [], .null),
  (88, .getfield 145, 3, [9, 36], .null),
  (91, .iload_n 1, 1, [], .null),
  (92, .iaload, 1, [], .null),
  (93, .iconst 1, 1, [], .int 1),
  (94, .if_icmp .ne 17, 3, [], .null),
  (97, .lload_n 2, 1, [], .null),
  (98, .lload 4, 2, [], .null),
  (100, .lconst 1, 1, [], .long 1),
  (101, .lload 8, 2, [], .null),
  (103, .invokestatic 332, 3, [191, 2], .null),
  (106, .lmul, 1, [], .null),
  (107, .ladd, 1, [], .null),
  (108, .goto 12, 3, [], .null),
  (111, .lload_n 2, 1, [], .null),
  (112, .lload 4, 2, [], .null),
  (114, .lload 8, 2, [], .null),
  (116, .lconst 1, 1, [], .long 1),
  (117, .ladd, 1, [], .null),
  (118, .lmul, 1, [], .null),
  (119, .ladd, 1, [], .null),
  (120, .lstore 6, 2, [], .null),
  (122, .goto 124, 3, [], .null),
  (125, .aload_n 0, 1, [], .null),
  (126, .getfield 145, 3, [9, 36], .null),
  (129, .iload_n 1, 1, [], .null),
  (130, .iaload, 1, [], .null),
  (131, .iconst 2, 1, [], .int 2),
  (132, .if_icmp .ne 38, 3, [], .null),
  (135, .aload_n 0, 1, [], .null),
  (136, .aload_n 0, 1, [], .null),
  (137, .getfield 151, 3, [9, 38], .null),
  (140, .iload_n 1, 1, [], .null),
  (141, .iaload, 1, [], .null),
  (142, .aload_n 0, 1, [], .null),
  (143, .getfield 154, 3, [9, 39], .null),
  (146, .iload_n 1, 1, [], .null),
  (147, .iaload, 1, [], .null),
  (148, .aload_n 0, 1, [], .null),
  (149, .getfield 157, 3, [9, 40], .null),
  (152, .iload_n 1, 1, [], .null),
  (153, .iaload, 1, [], .null),
  (154, .lload_n 2, 1, [], .null),
  (155, .aload_n 0, 1, [], .null),
  (156, .getfield 361, 3, [9, 41], .null),
  (159, .invokestatic 332, 3, [191, 2], .null),
  (162, .invokevirtual 348, 3, [69, 4, 9], .null),
  (165, .lstore 6, 2, [], .null),
  (167, .goto 79, 3, [], .null),
  (170, .aload_n 0, 1, [], .null),
  (171, .getfield 145, 3, [9, 36], .null),
  (174, .iload_n 1, 1, [], .null),
  (175, .iaload, 1, [], .null),
  (176, .iconst 1, 1, [], .int 1),
  (177, .if_icmp .ne 32, 3, [], .null),
  (180, .aload_n 0, 1, [], .null),
  (181, .aload_n 0, 1, [], .null),
  (182, .getfield 151, 3, [9, 38], .null),
  (185, .iload_n 1, 1, [], .null),
  (186, .iaload, 1, [], .null),
  (187, .aload_n 0, 1, [], .null),
  (188, .getfield 154, 3, [9, 39], .null),
  (191, .iload_n 1, 1, [], .null),
  (192, .iaload, 1, [], .null),
  (193, .aload_n 0, 1, [], .null),
  (194, .getfield 157, 3, [9, 40], .null),
  (197, .iload_n 1, 1, [], .null),
  (198, .iaload, 1, [], .null),
  (199, .aload_n 0, 1, [], .null),
  (200, .getfield 361, 3, [9, 41], .null),
  (203, .invokevirtual 352, 3, [70, 4, 9], .null),
  (206, .goto 6, 3, [], .null),
  (209, .ldc2_w 303, 3, [], .long (-1)),
  (212, .lstore 6, 2, [], .null),
  (214, .lload 6, 2, [], .null),
  (216, .lload_n 2, 1, [], .null),
  (217, .lcmp, 1, [], .null),
  (218, .ifCond .gt 28, 3, [], .null),
  (221, .aload_n 0, 1, [], .null),
  (222, .aload_n 0, 1, [], .null),
  (223, .getfield 151, 3, [9, 38], .null),
  (226, .iload_n 1, 1, [], .null),
  (227, .iaload, 1, [], .null),
  (228, .aload_n 0, 1, [], .null),
  (229, .getfield 154, 3, [9, 39], .null),
  (232, .iload_n 1, 1, [], .null),
  (233, .iaload, 1, [], .null),
  (234, .aload_n 0, 1, [], .null),
  (235, .getfield 157, 3, [9, 40], .null),
  (238, .iload_n 1, 1, [], .null),
  (239, .iaload, 1, [], .null),
  (240, .lload_n 2, 1, [], .null),
  (241, .invokevirtual 348, 3, [69, 4, 9], .null),
  (244, .lstore 6, 2, [], .null),
  (246, .lload 6, 2, [], .null),
  (248, .ldc2_w 342, 3, [], .long 10413791999999),
  (251, .lcmp, 1, [], .null),
  (252, .ifCond .le 9, 3, [], .null),
  (255, .ldc2_w 303, 3, [], .long (-1)),
  (258, .goto 5, 3, [], .null),
  (261, .lload 6, 2, [], .null),
  (263, .lreturn, 1, [], .null)])
def jp_M_free : jx_Me := (⟨"JobHouseModel", "free", "(I)V"⟩, prog_13_method_48_code, 5, none, [], [
  (0, .aload_n 0, 1, [], .null),
  (1, .getfield 117, 3, [9, 27], .null),
  (4, .iload_n 1, 1, [], .null),
  (5, .iaload, 1, [], .null),
  (6, .iconst 3, 1, [], .int 3),
  (7, .if_icmp .eq 38, 3, [], .null),
  (10, .aload_n 0, 1, [], .null),
  (11, .getfield 120, 3, [9, 28], .null),
  (14, .iload_n 1, 1, [], .null),
  (15, .iaload, 1, [], .null),
  (16, .ifCond .eq 29, 3, [], .null),
  (19, .aload_n 0, 1, [], .null),
  (20, .getfield 148, 3, [9, 37], .null),
  (23, .iload_n 1, 1, [], .null),
  (24, .iaload, 1, [], .null),
  (25, .ifCond .le 24, 3, [], .null),
  (28, .aload_n 0, 1, [], .null),
  (29, .getfield 130, 3, [9, 31], .null),
  (32, .iload_n 1, 1, [], .null),
  (33, .laload, 1, [], .null),
  (34, .aload_n 0, 1, [], .null),
  (35, .getfield 148, 3, [9, 37], .null),
  (38, .iload_n 1, 1, [], .null),
  (39, .iaload, 1, [], .null),
  (40, .i2l, 1, [], .null),
  (41, .lcmp, 1, [], .null),
  (42, .ifCond .ne 7, 3, [], .null),
  (45, .iconst 1, 1, [], .int 1),
  (46, .goto 4, 3, [], .null),
  (49, .iconst 0, 1, [], .int 0),
  (50, .istore_n 2, 1, [], .null),
  (51, .iload_n 2, 1, [], .null),
  (52, .ifCond .eq 9, 3, [], .null),
  (55, .ldc2_w 303, 3, [], .long (-1)),
  (58, .goto 8, 3, [], .null),
  (61, .aload_n 0, 1, [], .null),
  (62, .iload_n 1, 1, [], .null),
  (63, .invokevirtual 375, 3, [82, 1, 9], .null),
  (66, .lstore_n 3, 1, [], .null),
  (67, .aload_n 0, 1, [], .null),
  (68, .getfield 117, 3, [9, 27], .null),
  (71, .iload_n 1, 1, [], .null),
  (72, .lload_n 3, 1, [], .null),
  (73, .lconst 0, 1, [], .long 0),
  (74, .lcmp, 1, [], .null),
  (75, .ifCond .ge 7, 3, [], .null),
  (78, .iconst 0, 1, [], .int 0),
  (79, .goto 4, 3, [], .null),
  (82, .iconst 1, 1, [], .int 1),
  (83, .iastore, 1, [], .null),
  (84, .aload_n 0, 1, [], .null),
  (85, .getfield 123, 3, [9, 29], .null),
  (88, .iload_n 1, 1, [], .null),
  (89, .lload_n 3, 1, [], .null),
  (90, .lconst 0, 1, [], .long 0),
  (91, .lcmp, 1, [], .null),
  (92, .ifCond .ge 12, 3, [], .null),
  (95, .aload_n 0, 1, [], .null),
  (96, .getfield 123, 3, [9, 29], .null),
  (99, .iload_n 1, 1, [], .null),
  (100, .laload, 1, [], .null),
  (101, .goto 4, 3, [], .null),
  (104, .lload_n 3, 1, [], .null),
  (105, .lastore, 1, [], .null),
  (106, .return_, 1, [], .null)])
def jp_M_first : jx_Me := (⟨"JobHouseModel", "first", "()I"⟩, prog_13_method_49_code, 3, (some FieldType.int), [], [
  (0, .iconst (-1), 1, [], .int (-1)),
  (1, .istore_n 1, 1, [], .null),
  (2, .iconst 0, 1, [], .int 0),
  (3, .istore_n 2, 1, [], .null),
  (4, .iload_n 2, 1, [], .null),
  (5, .bipush 100, 2, [], .int 100),
  (7, .if_icmp .ge 120, 3, [], .null),
  (10, .aload_n 0, 1, [], .null),
  (11, .getfield 117, 3, [9, 27], .null),
  (14, .iload_n 2, 1, [], .null),
  (15, .iaload, 1, [], .null),
  (16, .iconst 1, 1, [], .int 1),
  (17, .if_icmp .ne 104, 3, [], .null),
  (20, .aload_n 0, 1, [], .null),
  (21, .getfield 123, 3, [9, 29], .null),
  (24, .iload_n 2, 1, [], .null),
  (25, .laload, 1, [], .null),
  (26, .aload_n 0, 1, [], .null),
  (27, .getfield 361, 3, [9, 41], .null),
  (30, .lcmp, 1, [], .null),
  (31, .ifCond .le 6, 3, [], .null),
  (34, .goto 87, 3, [], .null),
  (37, .iload_n 1, 1, [], .null),
  (38, .ifCond .lt 81, 3, [], .null),
  (41, .aload_n 0, 1, [], .null),
  (42, .getfield 123, 3, [9, 29], .null),
  (45, .iload_n 2, 1, [], .null),
  (46, .laload, 1, [], .null),
  (47, .aload_n 0, 1, [], .null),
  (48, .getfield 123, 3, [9, 29], .null),
  (51, .iload_n 1, 1, [], .null),
  (52, .laload, 1, [], .null),
  (53, .lcmp, 1, [], .null),
  (54, .ifCond .lt 65, 3, [], .null),
  (57, .aload_n 0, 1, [], .null),
  (58, .getfield 123, 3, [9, 29], .null),
  (61, .iload_n 2, 1, [], .null),
  (62, .laload, 1, [], .null),
  (63, .aload_n 0, 1, [], .null),
  (64, .getfield 123, 3, [9, 29], .null),
  (67, .iload_n 1, 1, [], .null),
  (68, .laload, 1, [], .null),
  (69, .lcmp, 1, [], .null),
  (70, .ifCond .ne 51, 3, [], .null),
  (73, .aload_n 0, 1, [], .null),
  (74, .getfield 142, 3, [9, 35], .null),
  (77, .iload_n 2, 1, [], .null),
  (78, .iaload, 1, [], .null),
  (79, .aload_n 0, 1, [], .null),
  (80, .getfield 142, 3, [9, 35], .null),
  (83, .iload_n 1, 1, [], .null),
  (84, .iaload, 1, [], .null),
  (85, .if_icmp .gt 34, 3, [], .null),
  (88, .aload_n 0, 1, [], .null),
  (89, .getfield 142, 3, [9, 35], .null),
  (92, .iload_n 2, 1, [], .null),
  (93, .iaload, 1, [], .null),
  (94, .aload_n 0, 1, [], .null),
  (95, .getfield 142, 3, [9, 35], .null),
  (98, .iload_n 1, 1, [], .null),
  (99, .iaload, 1, [], .null),
  (100, .if_icmp .ne 21, 3, [], .null),
  (103, .aload_n 0, 1, [], .null),
  (104, .getfield 133, 3, [9, 32], .null),
  (107, .iload_n 2, 1, [], .null),
  (108, .laload, 1, [], .null),
  (109, .aload_n 0, 1, [], .null),
  (110, .getfield 133, 3, [9, 32], .null),
  (113, .iload_n 1, 1, [], .null),
  (114, .laload, 1, [], .null),
  (115, .lcmp, 1, [], .null),
  (116, .ifCond .ge 5, 3, [], .null),
  (119, .iload_n 2, 1, [], .null),
  (120, .istore_n 1, 1, [], .null),
  (121, .iinc 2 1, 3, [], .null),
  (124, .goto (-120), 3, [], .null),
  (127, .iload_n 1, 1, [], .null),
  (128, .ireturn, 1, [], .null)])
def jp_M_work : jx_Me := (⟨"JobHouseModel", "work", "()Z"⟩, prog_13_method_50_code, 3, (some FieldType.boolean), [], [
  (0, .iconst (-1), 1, [], .int (-1)),
  (1, .istore_n 1, 1, [], .null),
  (2, .iconst 0, 1, [], .int 0),
  (3, .istore_n 2, 1, [], .null),
  (4, .iload_n 2, 1, [], .null),
  (5, .bipush 100, 2, [], .int 100),
  (7, .if_icmp .ge 55, 3, [], .null),
  (10, .aload_n 0, 1, [], .null),
  (11, .getfield 117, 3, [9, 27], .null),
  (14, .iload_n 2, 1, [], .null),
  (15, .iaload, 1, [], .null),
  (16, .iconst 1, 1, [], .int 1),
  (17, .if_icmp .le 39, 3, [], .null),
  (20, .aload_n 0, 1, [], .null),
  (21, .getfield 127, 3, [9, 30], .null),
  (24, .iload_n 2, 1, [], .null),
  (25, .laload, 1, [], .null),
  (26, .aload_n 0, 1, [], .null),
  (27, .getfield 361, 3, [9, 41], .null),
  (30, .lcmp, 1, [], .null),
  (31, .ifCond .gt 25, 3, [], .null),
  (34, .iload_n 1, 1, [], .null),
  (35, .ifCond .lt 19, 3, [], .null),
  (38, .aload_n 0, 1, [], .null),
  (39, .getfield 133, 3, [9, 32], .null),
  (42, .iload_n 2, 1, [], .null),
  (43, .laload, 1, [], .null),
  (44, .aload_n 0, 1, [], .null),
  (45, .getfield 133, 3, [9, 32], .null),
  (48, .iload_n 1, 1, [], .null),
  (49, .laload, 1, [], .null),
  (50, .lcmp, 1, [], .null),
  (51, .ifCond .ge 5, 3, [], .null),
  (54, .iload_n 2, 1, [], .null),
  (55, .istore_n 1, 1, [], .null),
  (56, .iinc 2 1, 3, [], .null),
  (59, .goto (-55), 3, [], .null),
  (62, .iload_n 1, 1, [], .null),
  (63, .ifCond .ge 6, 3, [], .null),
  (66, .goto 11, 3, [], .null),
  (69, .aload_n 0, 1, [], .null),
  (70, .iload_n 1, 1, [], .null),
  (71, .invokevirtual 379, 3, [83, 1, 9], .null),
  (74, .goto (-74), 3, [], .null),
  (77, .aload_n 0, 1, [], .null),
  (78, .invokevirtual 382, 3, [81, 0, 9], .null),
  (81, .aload_n 0, 1, [], .null),
  (82, .getfield 160, 3, [9, 42], .null),
  (85, .if_icmp .ge 137, 3, [], .null),
  (88, .aload_n 0, 1, [], .null),
  (89, .invokevirtual 385, 3, [84, 0, 9], .null),
  (92, .istore_n 1, 1, [], .null),
  (93, .iload_n 1, 1, [], .null),
  (94, .ifCond .ge 5, 3, [], .null),
  (97, .iconst 1, 1, [], .int 1),
  (98, .ireturn, 1, [], .null),
  (99, .aload_n 0, 1, [], .null),
  (100, .getfield 163, 3, [9, 46], .null),
  (103, .aload_n 0, 1, [], .null),
  (104, .getfield 387, 3, [9, 49], .null),
  (107, .aload_n 0, 1, [], .null),
  (108, .getfield 361, 3, [9, 41], .null),
  (111, .lastore, 1, [], .null),
  (112, .aload_n 0, 1, [], .null),
  (113, .getfield 166, 3, [9, 47], .null),
  (116, .aload_n 0, 1, [], .null),
  (117, .getfield 387, 3, [9, 49], .null),
  (120, .iload_n 1, 1, [], .null),
  (121, .iastore, 1, [], .null),
  (122, .aload_n 0, 1, [], .null),
  (123, .getfield 169, 3, [9, 48], .null),
  (126, .aload_n 0, 1, [], .null),
  (127, .getfield 387, 3, [9, 49], .null),
  (130, .aload_n 0, 1, [], .null),
  (131, .getfield 123, 3, [9, 29], .null),
  (134, .iload_n 1, 1, [], .null),
  (135, .laload, 1, [], .null),
  (136, .lastore, 1, [], .null),
  (137, .aload_n 0, 1, [], .null),
  (138, .dup, 1, [], .null),
  (139, .getfield 387, 3, [9, 49], .null),
  (142, .iconst 1, 1, [], .int 1),
  (143, .iadd, 1, [], .null),
  (144, .putfield 387, 3, [9, 49, 0, 0], .null),
  (147, .aload_n 0, 1, [], .null),
  (148, .dup, 1, [], .null),
  (149, .getfield 390, 3, [9, 44], .null),
  (152, .lconst 1, 1, [], .long 1),
  (153, .ladd, 1, [], .null),
  (154, .putfield 390, 3, [9, 44, 1, 0], .null),
  (157, .aload_n 0, 1, [], .null),
  (158, .getfield 130, 3, [9, 31], .null),
  (161, .iload_n 1, 1, [], .null),
  (162, .dup2, 1, [], .null),
  (163, .laload, 1, [], .null),
  (164, .lconst 1, 1, [], .long 1),
  (165, .ladd, 1, [], .null),
  (166, .lastore, 1, [], .null),
  (167, .aload_n 0, 1, [], .null),
  (168, .getfield 117, 3, [9, 27], .null),
  (171, .iload_n 1, 1, [], .null),
  (172, .iconst 2, 1, [], .int 2),
  (173, .iastore, 1, [], .null),
  (174, .aload_n 0, 1, [], .null),
  (175, .getfield 127, 3, [9, 30], .null),
  (178, .iload_n 1, 1, [], .null),
  (179, .aload_n 0, 1, [], .null),
  (180, .getfield 361, 3, [9, 41], .null),
  (183, .aload_n 0, 1, [], .null),
  (184, .getfield 139, 3, [9, 34], .null),
  (187, .iload_n 1, 1, [], .null),
  (188, .laload, 1, [], .null),
  (189, .ladd, 1, [], .null),
  (190, .lastore, 1, [], .null),
  (191, .aload_n 0, 1, [], .null),
  (192, .getfield 139, 3, [9, 34], .null),
  (195, .iload_n 1, 1, [], .null),
  (196, .laload, 1, [], .null),
  (197, .lconst 0, 1, [], .long 0),
  (198, .lcmp, 1, [], .null),
  (199, .ifCond .ne 8, 3, [], .null),
  (202, .aload_n 0, 1, [], .null),
  (203, .iload_n 1, 1, [], .null),
  (204, .invokevirtual 379, 3, [83, 1, 9], .null),
  (207, .aload_n 0, 1, [], .null),
  (208, .getfield 387, 3, [9, 49], .null),
  (211, .sipush 500, 3, [], .int 500),
  (214, .if_icmp .ne 5, 3, [], .null),
  (217, .iconst 0, 1, [], .int 0),
  (218, .ireturn, 1, [], .null),
  (219, .goto (-142), 3, [], .null),
  (222, .iconst 1, 1, [], .int 1),
  (223, .ireturn, 1, [], .null)])
def jp_M_advance : jx_Me := (⟨"JobHouseModel", "advance", "(J)I"⟩, prog_13_method_51_code, 8, (some FieldType.int), [], [
  (0, .aload_n 0, 1, [], .null),
  (1, .iconst 0, 1, [], .int 0),
  (2, .putfield 172, 3, [9, 0, 0, 0], .null),
  (5, .lload_n 1, 1, [], .null),
  (6, .lconst 0, 1, [], .long 0),
  (7, .lcmp, 1, [], .null),
  (8, .ifCond .lt 24, 3, [], .null),
  (11, .lload_n 1, 1, [], .null),
  (12, .ldc2_w 393, 3, [], .long 8796093022208),
  (15, .lcmp, 1, [], .null),
  (16, .ifCond .gt 16, 3, [], .null),
  (19, .aload_n 0, 1, [], .null),
  (20, .getfield 361, 3, [9, 41], .null),
  (23, .lload_n 1, 1, [], .null),
  (24, .ladd, 1, [], .null),
  (25, .ldc2_w 342, 3, [], .long 10413791999999),
  (28, .lcmp, 1, [], .null),
  (29, .ifCond .le 9, 3, [], .null),
  (32, .aload_n 0, 1, [], .null),
  (33, .iconst 1, 1, [], .int 1),
  (34, .invokevirtual 295, 3, [38, 1, 9], .null),
  (37, .ireturn, 1, [], .null),
  (38, .aload_n 0, 1, [], .null),
  (39, .getfield 361, 3, [9, 41], .null),
  (42, .lload_n 1, 1, [], .null),
  (43, .ladd, 1, [], .null),
  (44, .lstore_n 3, 1, [], .null),
  (45, .aload_n 0, 1, [], .null),
  (46, .iconst 0, 1, [], .int 0),
  (47, .putfield 387, 3, [9, 49, 0, 0], .null),
  (50, .aload_n 0, 1, [], .null),
  (51, .invokevirtual 395, 3, [85, 0, 9], .null),
  (54, .ifCond .eq 130, 3, [], .null),
  (57, .lload_n 3, 1, [], .null),
  (58, .lconst 1, 1, [], .long 1),
  (59, .ladd, 1, [], .null),
  (60, .lstore 5, 2, [], .null),
  (62, .iconst 0, 1, [], .int 0),
  (63, .istore 7, 2, [], .null),
  (65, .iload 7, 2, [], .null),
  (67, .bipush 100, 2, [], .int 100),
  (69, .if_icmp .ge 89, 3, [], .null),
  (72, .aload_n 0, 1, [], .null),
  (73, .getfield 117, 3, [9, 27], .null),
  (76, .iload 7, 2, [], .null),
  (78, .iaload, 1, [], .null),
  (79, .iconst 1, 1, [], .int 1),
  (80, .if_icmp .le 32, 3, [], .null),
  (83, .aload_n 0, 1, [], .null),
  (84, .getfield 127, 3, [9, 30], .null),
  (87, .iload 7, 2, [], .null),
  (89, .laload, 1, [], .null),
  (90, .aload_n 0, 1, [], .null),
  (91, .getfield 361, 3, [9, 41], .null),
  (94, .lcmp, 1, [], .null),
  (95, .ifCond .le 17, 3, [], .null),
  (98, .lload 5, 2, [], .null),
  (100, .aload_n 0, 1, [], .null),
  (101, .getfield 127, 3, [9, 30], .null),
  (104, .iload 7, 2, [], .null),
  (106, .laload, 1, [], .null),
  (107, .invokestatic 340, 3, [193, 2], .null),
  (110, .lstore 5, 2, [], .null),
  (112, .aload_n 0, 1, [], .null),
  (113, .getfield 117, 3, [9, 27], .null),
  (116, .iload 7, 2, [], .null),
  (118, .iaload, 1, [], .null),
  (119, .iconst 1, 1, [], .int 1),
  (120, .if_icmp .ne 32, 3, [], .null),
  (123, .aload_n 0, 1, [], .null),
  (124, .getfield 123, 3, [9, 29], .null),
  (127, .iload 7, 2, [], .null),
  (129, .laload, 1, [], .null),
  (130, .aload_n 0, 1, [], .null),
  (131, .getfield 361, 3, [9, 41], .null),
  (134, .lcmp, 1, [], .null),
  (135, .ifCond .le 17, 3, [], .null),
  (138, .lload 5, 2, [], .null),
  (140, .aload_n 0, 1, [], .null),
  (141, .getfield 123, 3, [9, 29], .null),
  (144, .iload 7, 2, [], .null),
  (146, .laload, 1, [], .null),
  (147, .invokestatic 340, 3, [193, 2], .null),
  (150, .lstore 5, 2, [], .null),
  (152, .iinc 7 1, 3, [], .null),
  (155, .goto (-90), 3, [], .null),
  (158, .lload 5, 2, [], .null),
  (160, .lload_n 3, 1, [], .null),
  (161, .lcmp, 1, [], .null),
  (162, .ifCond .le 13, 3, [], .null),
  (165, .aload_n 0, 1, [], .null),
  (166, .lload_n 3, 1, [], .null),
  (167, .putfield 361, 3, [9, 41, 1, 0], .null),
  (170, .aload_n 0, 1, [], .null),
  (171, .getfield 387, 3, [9, 49], .null),
  (174, .ireturn, 1, [], .null),
  (175, .aload_n 0, 1, [], .null),
  (176, .lload 5, 2, [], .null),
  (178, .putfield 361, 3, [9, 41, 1, 0], .null),
  (181, .goto (-131), 3, [], .null),
  (184, .aload_n 0, 1, [], .null),
  (185, .getfield 387, 3, [9, 49], .null),
  (188, .ireturn, 1, [], .null)])
def jp_M_stall : jx_Me := (⟨"JobHouseModel", "stall", "(J)V"⟩, prog_13_method_52_code, 3, none, [], [
  (0, .aload_n 0, 1, [], .null),
  (1, .iconst 0, 1, [], .int 0),
  (2, .putfield 172, 3, [9, 0, 0, 0], .null),
  (5, .lload_n 1, 1, [], .null),
  (6, .lconst 0, 1, [], .long 0),
  (7, .lcmp, 1, [], .null),
  (8, .ifCond .lt 24, 3, [], .null),
  (11, .lload_n 1, 1, [], .null),
  (12, .ldc2_w 393, 3, [], .long 8796093022208),
  (15, .lcmp, 1, [], .null),
  (16, .ifCond .gt 16, 3, [], .null),
  (19, .aload_n 0, 1, [], .null),
  (20, .getfield 361, 3, [9, 41], .null),
  (23, .lload_n 1, 1, [], .null),
  (24, .ladd, 1, [], .null),
  (25, .ldc2_w 342, 3, [], .long 10413791999999),
  (28, .lcmp, 1, [], .null),
  (29, .ifCond .le 11, 3, [], .null),
  (32, .aload_n 0, 1, [], .null),
  (33, .iconst 1, 1, [], .int 1),
  (34, .putfield 172, 3, [9, 0, 0, 0], .null),
  (37, .goto 13, 3, [], .null),
  (40, .aload_n 0, 1, [], .null),
  (41, .dup, 1, [], .null),
  (42, .getfield 361, 3, [9, 41], .null),
  (45, .lload_n 1, 1, [], .null),
  (46, .ladd, 1, [], .null),
  (47, .putfield 361, 3, [9, 41, 1, 0], .null),
  (50, .return_, 1, [], .null)])
def jp_M_there : jx_Me := (⟨"JobHouseModel", "there", "()I"⟩, prog_13_method_53_code, 3, (some FieldType.int), [], [
  (0, .iconst 0, 1, [], .int 0),
  (1, .istore_n 1, 1, [], .null),
  (2, .iconst 0, 1, [], .int 0),
  (3, .istore_n 2, 1, [], .null),
  (4, .iload_n 2, 1, [], .null),
  (5, .bipush 100, 2, [], .int 100),
  (7, .if_icmp .ge 26, 3, [], .null),
  (10, .iload_n 1, 1, [], .null),
  (11, .aload_n 0, 1, [], .null),
  (12, .getfield 117, 3, [9, 27], .null),
  (15, .iload_n 2, 1, [], .null),
  (16, .iaload, 1, [], .null),
  (17, .ifCond .le 7, 3, [], .null),
  (20, .iconst 1, 1, [], .int 1),
  (21, .goto 4, 3, [], .null),
  (24, .iconst 0, 1, [], .int 0),
  (25, .iadd, 1, [], .null),
  (26, .istore_n 1, 1, [], .null),
  (27, .iinc 2 1, 3, [], .null),
  (30, .goto (-26), 3, [], .null),
  (33, .iload_n 1, 1, [], .null),
  (34, .ireturn, 1, [], .null)])
def jp_M_close : jx_Me := (⟨"JobHouseModel", "close", "(ZZ)I"⟩, prog_13_method_54_code, 4, (some FieldType.int), [], [
  (0, .aload_n 0, 1, [], .null),
  (1, .iconst 0, 1, [], .int 0),
  (2, .putfield 172, 3, [9, 0, 0, 0], .null),
  (5, .aload_n 0, 1, [], .null),
  (6, .getfield 364, 3, [9, 45], .null),
  (9, .ifCond .eq 9, 3, [], .null),
  (12, .aload_n 0, 1, [], .null),
  (13, .iconst 1, 1, [], .int 1),
  (14, .invokevirtual 295, 3, [38, 1, 9], .null),
  (17, .ireturn, 1, [], .null),
  (18, .aload_n 0, 1, [], .null),
  (19, .iconst 1, 1, [], .int 1),
  (20, .putfield 364, 3, [9, 45, 2, 0], .null),
  (23, .iconst 0, 1, [], .int 0),
  (24, .istore_n 3, 1, [], .null),
  (25, .iload_n 3, 1, [], .null),
  (26, .bipush 100, 2, [], .int 100),
  (28, .if_icmp .ge 79, 3, [], .null),
  (31, .aload_n 0, 1, [], .null),
  (32, .getfield 117, 3, [9, 27], .null),
  (35, .iload_n 3, 1, [], .null),
  (36, .iaload, 1, [], .null),
  (37, .iconst 1, 1, [], .int 1),
  (38, .if_icmp .ne 33, 3, [], .null),
  (41, .aload_n 0, 1, [], .null),
  (42, .getfield 120, 3, [9, 28], .null),
  (45, .iload_n 3, 1, [], .null),
  (46, .iaload, 1, [], .null),
  (47, .ifCond .ne 10, 3, [], .null),
  (50, .iload_n 1, 1, [], .null),
  (51, .ifCond .eq 20, 3, [], .null),
  (54, .goto 7, 3, [], .null),
  (57, .iload_n 2, 1, [], .null),
  (58, .ifCond .eq 13, 3, [], .null),
  (61, .aload_n 0, 1, [], .null),
  (62, .getfield 117, 3, [9, 27], .null),
  (65, .iload_n 3, 1, [], .null),
  (66, .iconst 0, 1, [], .int 0),
  (67, .iastore, 1, [], .null),
  (68, .goto 33, 3, [], .null),
  (71, .aload_n 0, 1, [], .null),
  (72, .getfield 117, 3, [9, 27], .null),
  (75, .iload_n 3, 1, [], .null),
  (76, .iaload, 1, [], .null),
  (77, .iconst 2, 1, [], .int 2),
  (78, .if_icmp .ne 23, 3, [], .null),
  (81, .aload_n 0, 1, [], .null),
  (82, .getfield 120, 3, [9, 28], .null),
  (85, .iload_n 3, 1, [], .null),
  (86, .iaload, 1, [], .null),
  (87, .ifCond .eq 14, 3, [], .null),
  (90, .iload_n 2, 1, [], .null),
  (91, .ifCond .eq 10, 3, [], .null),
  (94, .aload_n 0, 1, [], .null),
  (95, .getfield 117, 3, [9, 27], .null),
  (98, .iload_n 3, 1, [], .null),
  (99, .iconst 3, 1, [], .int 3),
  (100, .iastore, 1, [], .null),
  (101, .iinc 3 1, 3, [], .null),
  (104, .goto (-79), 3, [], .null),
  (107, .aload_n 0, 1, [], .null),
  (108, .invokevirtual 399, 3, [88, 0, 9], .null),
  (111, .ireturn, 1, [], .null)])
def jp_M_job : jx_Me := (⟨"JobHouseModel", "job", "(II)J"⟩, prog_13_method_55_code, 3, (some FieldType.long), [], [
  (0, .aload_n 0, 1, [], .null),
  (1, .iconst 0, 1, [], .int 0),
  (2, .putfield 172, 3, [9, 0, 0, 0], .null),
  (5, .iload_n 2, 1, [], .null),
  (6, .ifCond .lt 8, 3, [], .null),
  (9, .iload_n 2, 1, [], .null),
  (10, .iconst 4, 1, [], .int 4),
  (11, .if_icmp .le 10, 3, [], .null),
  (14, .aload_n 0, 1, [], .null),
  (15, .iconst 1, 1, [], .int 1),
  (16, .invokevirtual 295, 3, [38, 1, 9], .null),
  (19, .i2l, 1, [], .null),
  (20, .lreturn, 1, [], .null),
  (21, .aload_n 0, 1, [], .null),
  (22, .iload_n 1, 1, [], .null),
  (23, .invokevirtual 372, 3, [78, 1, 9], .null),
  (26, .ifCond .eq 10, 3, [], .null),
  (29, .aload_n 0, 1, [], .null),
  (30, .iconst 2, 1, [], .int 2),
  (31, .invokevirtual 295, 3, [38, 1, 9], .null),
  (34, .i2l, 1, [], .null),
  (35, .lreturn, 1, [], .null),
  (36, .iload_n 2, 1, [], .null),
  (37, .ifCond .ne 13, 3, [], .null),
  (40, .aload_n 0, 1, [], .null),
  (41, .getfield 117, 3, [9, 27], .null),
  (44, .iload_n 1, 1, [], .null),
  (45, .iaload, 1, [], .null),
  (46, .i2l, 1, [], .null),
  (47, .goto 67, 3, [], .null),
  (50, .iload_n 2, 1, [], .null),
  (51, .iconst 1, 1, [], .int 1),
  (52, .if_icmp .ne 12, 3, [], .null),
  (55, .aload_n 0, 1, [], .null),
  (56, .getfield 123, 3, [9, 29], .null),
  (59, .iload_n 1, 1, [], .null),
  (60, .laload, 1, [], .null),
  (61, .goto 53, 3, [], .null),
  (64, .iload_n 2, 1, [], .null),
  (65, .iconst 2, 1, [], .int 2),
  (66, .if_icmp .ne 12, 3, [], .null),
  (69, .aload_n 0, 1, [], .null),
  (70, .getfield 130, 3, [9, 31], .null),
  (73, .iload_n 1, 1, [], .null),
  (74, .laload, 1, [], .null),
  (75, .goto 39, 3, [], .null),
  (78, .iload_n 2, 1, [], .null),
  (79, .iconst 3, 1, [], .int 3),
  (80, .if_icmp .ne 12, 3, [], .null),
  (83, .aload_n 0, 1, [], .null),
  (84, .getfield 133, 3, [9, 32], .null),
  (87, .iload_n 1, 1, [], .null),
  (88, .laload, 1, [], .null),
  (89, .goto 25, 3, [], .null),
  (92, .aload_n 0, 1, [], .null),
  (93, .getfield 117, 3, [9, 27], .null),
  (96, .iload_n 1, 1, [], .null),
  (97, .iaload, 1, [], .null),
  (98, .iconst 1, 1, [], .int 1),
  (99, .if_icmp .ne 9, 3, [], .null),
  (102, .ldc2_w 303, 3, [], .long (-1)),
  (105, .goto 9, 3, [], .null),
  (108, .aload_n 0, 1, [], .null),
  (109, .getfield 127, 3, [9, 30], .null),
  (112, .iload_n 1, 1, [], .null),
  (113, .laload, 1, [], .null),
  (114, .lreturn, 1, [], .null)])
def jp_M_start : jx_Me := (⟨"JobHouseModel", "start", "(II)J"⟩, prog_13_method_56_code, 3, (some FieldType.long), [], [
  (0, .aload_n 0, 1, [], .null),
  (1, .iconst 0, 1, [], .int 0),
  (2, .putfield 172, 3, [9, 0, 0, 0], .null),
  (5, .iload_n 2, 1, [], .null),
  (6, .ifCond .lt 8, 3, [], .null),
  (9, .iload_n 2, 1, [], .null),
  (10, .iconst 2, 1, [], .int 2),
  (11, .if_icmp .le 10, 3, [], .null),
  (14, .aload_n 0, 1, [], .null),
  (15, .iconst 1, 1, [], .int 1),
  (16, .invokevirtual 295, 3, [38, 1, 9], .null),
  (19, .i2l, 1, [], .null),
  (20, .lreturn, 1, [], .null),
  (21, .iload_n 1, 1, [], .null),
  (22, .ifCond .lt 11, 3, [], .null),
  (25, .iload_n 1, 1, [], .null),
  (26, .aload_n 0, 1, [], .null),
  (27, .getfield 387, 3, [9, 49], .null),
  (30, .if_icmp .lt 10, 3, [], .null),
  (33, .aload_n 0, 1, [], .null),
  (34, .iconst 2, 1, [], .int 2),
  (35, .invokevirtual 295, 3, [38, 1, 9], .null),
  (38, .i2l, 1, [], .null),
  (39, .lreturn, 1, [], .null),
  (40, .iload_n 2, 1, [], .null),
  (41, .ifCond .ne 12, 3, [], .null),
  (44, .aload_n 0, 1, [], .null),
  (45, .getfield 163, 3, [9, 46], .null),
  (48, .iload_n 1, 1, [], .null),
  (49, .laload, 1, [], .null),
  (50, .goto 24, 3, [], .null),
  (53, .iload_n 2, 1, [], .null),
  (54, .iconst 1, 1, [], .int 1),
  (55, .if_icmp .ne 13, 3, [], .null),
  (58, .aload_n 0, 1, [], .null),
  (59, .getfield 166, 3, [9, 47], .null),
  (62, .iload_n 1, 1, [], .null),
  (63, .iaload, 1, [], .null),
  (64, .i2l, 1, [], .null),
  (65, .goto 9, 3, [], .null),
  (68, .aload_n 0, 1, [], .null),
  (69, .getfield 169, 3, [9, 48], .null),
  (72, .iload_n 1, 1, [], .null),
  (73, .laload, 1, [], .null),
  (74, .lreturn, 1, [], .null)])
def jp_M_feed : jx_Me := (⟨"JobHouseModel", "feed", "(IIIII)I"⟩, prog_13_method_57_code, 8, (some FieldType.int), [], [
  (0, .aload_n 0, 1, [], .null),
  (1, .iconst 0, 1, [], .int 0),
  (2, .putfield 172, 3, [9, 0, 0, 0], .null),
  (5, .aload_n 0, 1, [], .null),
  (6, .getfield 209, 3, [9, 2], .null),
  (9, .bipush 20, 2, [], .int 20),
  (11, .iadd, 1, [], .null),
  (12, .sipush 400, 3, [], .int 400),
  (15, .if_icmp .le 9, 3, [], .null),
  (18, .aload_n 0, 1, [], .null),
  (19, .iconst 1, 1, [], .int 1),
  (20, .invokevirtual 295, 3, [38, 1, 9], .null),
  (23, .ireturn, 1, [], .null),
  (24, .iconst 0, 1, [], .int 0),
  (25, .istore 6, 2, [], .null),
  (27, .iload 6, 2, [], .null),
  (29, .bipush 20, 2, [], .int 20),
  (31, .if_icmp .ge 90, 3, [], .null),
  (34, .iload 6, 2, [], .null),
  (36, .iconst 4, 1, [], .int 4),
  (37, .if_icmp .ge 7, 3, [], .null),
  (40, .iload_n 1, 1, [], .null),
  (41, .goto 39, 3, [], .null),
  (44, .iload 6, 2, [], .null),
  (46, .bipush 8, 2, [], .int 8),
  (48, .if_icmp .ge 7, 3, [], .null),
  (51, .iload_n 2, 1, [], .null),
  (52, .goto 28, 3, [], .null),
  (55, .iload 6, 2, [], .null),
  (57, .bipush 12, 2, [], .int 12),
  (59, .if_icmp .ge 7, 3, [], .null),
  (62, .iload_n 3, 1, [], .null),
  (63, .goto 17, 3, [], .null),
  (66, .iload 6, 2, [], .null),
  (68, .bipush 16, 2, [], .int 16),
  (70, .if_icmp .ge 8, 3, [], .null),
  (73, .iload 4, 2, [], .null),
  (75, .goto 5, 3, [], .null),
  (78, .iload 5, 2, [], .null),
  (80, .istore 7, 2, [], .null),
  (82, .aload_n 0, 1, [], .null),
  (83, .getfield 7, 3, [9, 1], .null),
  (86, .aload_n 0, 1, [], .null),
  (87, .getfield 209, 3, [9, 2], .null),
  (90, .iload 7, 2, [], .null),
  (92, .bipush 24, 2, [], .int 24),
  (94, .bipush 8, 2, [], .int 8),
  (96, .iload 6, 2, [], .null),
  (98, .iconst 4, 1, [], .int 4),
  (99, .irem, 1, [], .null),
  (100, .imul, 1, [], .null),
  (101, .isub, 1, [], .null),
  (102, .ishr, 1, [], .null),
  (103, .i2b, 1, [], .null),
  (104, .bastore, 1, [], .null),
  (105, .aload_n 0, 1, [], .null),
  (106, .dup, 1, [], .null),
  (107, .getfield 209, 3, [9, 2], .null),
  (110, .iconst 1, 1, [], .int 1),
  (111, .iadd, 1, [], .null),
  (112, .putfield 209, 3, [9, 2, 0, 0], .null),
  (115, .iinc 6 1, 3, [], .null),
  (118, .goto (-91), 3, [], .null),
  (121, .aload_n 0, 1, [], .null),
  (122, .getfield 209, 3, [9, 2], .null),
  (125, .ireturn, 1, [], .null)])
def jp_M_end : jx_Me := (⟨"JobHouseModel", "end", "(I)I"⟩, prog_13_method_58_code, 2, (some FieldType.int), [], [
  (0, .aload_n 0, 1, [], .null),
  (1, .iconst 0, 1, [], .int 0),
  (2, .putfield 172, 3, [9, 0, 0, 0], .null),
  (5, .iload_n 1, 1, [], .null),
  (6, .ifCond .lt 11, 3, [], .null),
  (9, .iload_n 1, 1, [], .null),
  (10, .aload_n 0, 1, [], .null),
  (11, .getfield 209, 3, [9, 2], .null),
  (14, .if_icmp .le 9, 3, [], .null),
  (17, .aload_n 0, 1, [], .null),
  (18, .iconst 1, 1, [], .int 1),
  (19, .invokevirtual 295, 3, [38, 1, 9], .null),
  (22, .ireturn, 1, [], .null),
  (23, .aload_n 0, 1, [], .null),
  (24, .iload_n 1, 1, [], .null),
  (25, .putfield 209, 3, [9, 2, 0, 0], .null),
  (28, .iload_n 1, 1, [], .null),
  (29, .ireturn, 1, [], .null)])
def jp_M_count : jx_Me := (⟨"JobHouseModel", "count", "(I)J"⟩, prog_13_method_59_code, 2, (some FieldType.long), [], [
  (0, .aload_n 0, 1, [], .null),
  (1, .iconst 0, 1, [], .int 0),
  (2, .putfield 172, 3, [9, 0, 0, 0], .null),
  (5, .iload_n 1, 1, [], .null),
  (6, .ifCond .lt 8, 3, [], .null),
  (9, .iload_n 1, 1, [], .null),
  (10, .iconst 5, 1, [], .int 5),
  (11, .if_icmp .le 10, 3, [], .null),
  (14, .aload_n 0, 1, [], .null),
  (15, .iconst 1, 1, [], .int 1),
  (16, .invokevirtual 295, 3, [38, 1, 9], .null),
  (19, .i2l, 1, [], .null),
  (20, .lreturn, 1, [], .null),
  (21, .iload_n 1, 1, [], .null),
  (22, .ifCond .ne 10, 3, [], .null),
  (25, .aload_n 0, 1, [], .null),
  (26, .getfield 361, 3, [9, 41], .null),
  (29, .goto 59, 3, [], .null),
  (32, .iload_n 1, 1, [], .null),
  (33, .iconst 1, 1, [], .int 1),
  (34, .if_icmp .ne 11, 3, [], .null),
  (37, .aload_n 0, 1, [], .null),
  (38, .invokevirtual 399, 3, [88, 0, 9], .null),
  (41, .i2l, 1, [], .null),
  (42, .goto 46, 3, [], .null),
  (45, .iload_n 1, 1, [], .null),
  (46, .iconst 2, 1, [], .int 2),
  (47, .if_icmp .ne 11, 3, [], .null),
  (50, .aload_n 0, 1, [], .null),
  (51, .invokevirtual 382, 3, [81, 0, 9], .null),
  (54, .i2l, 1, [], .null),
  (55, .goto 33, 3, [], .null),
  (58, .iload_n 1, 1, [], .null),
  (59, .iconst 3, 1, [], .int 3),
  (60, .if_icmp .ne 10, 3, [], .null),
  (63, .aload_n 0, 1, [], .null),
  (64, .getfield 390, 3, [9, 44], .null),
  (67, .goto 21, 3, [], .null),
  (70, .iload_n 1, 1, [], .null),
  (71, .iconst 4, 1, [], .int 4),
  (72, .if_icmp .ne 11, 3, [], .null),
  (75, .aload_n 0, 1, [], .null),
  (76, .getfield 209, 3, [9, 2], .null),
  (79, .i2l, 1, [], .null),
  (80, .goto 8, 3, [], .null),
  (83, .aload_n 0, 1, [], .null),
  (84, .getfield 13, 3, [9, 3], .null),
  (87, .i2l, 1, [], .null),
  (88, .lreturn, 1, [], .null)])
def jp_C_init : jx_Me := (⟨"JobHouse$Cron", "<init>", "()V"⟩, prog_2_method_1_code, 1, none, [], [
  (0, .aload_n 0, 1, [], .null),
  (1, .invokespecial 3, 3, [9003, 0], .null),
  (4, .aload_n 0, 1, [], .null),
  (5, .bipush 12, 2, [], .int 12),
  (7, .newarray .long, 2, [3], .null),
  (9, .putfield 11, 3, [4, 0, 4, 1], .null),
  (12, .return_, 1, [], .null)])
def jp_C_lowest : jx_Me := (⟨"JobHouse$Cron", "lowest", "(I)I"⟩, prog_2_method_2_code, 1, (some FieldType.int), [], [
  (0, .iload_n 0, 1, [], .null),
  (1, .tableswitch 37 3 6 #[31, 31, 31, 33], 31, [], .null),
  (32, .iconst 1, 1, [], .int 1),
  (33, .ireturn, 1, [], .null),
  (34, .sipush 1970, 3, [], .int 1970),
  (37, .ireturn, 1, [], .null),
  (38, .iconst 0, 1, [], .int 0),
  (39, .ireturn, 1, [], .null)])
def jp_C_highest : jx_Me := (⟨"JobHouse$Cron", "highest", "(I)I"⟩, prog_2_method_3_code, 1, (some FieldType.int), [], [
  (0, .iload_n 0, 1, [], .null),
  (1, .tableswitch 51 2 6 #[35, 38, 41, 44, 47], 35, [], .null),
  (36, .bipush 23, 2, [], .int 23),
  (38, .ireturn, 1, [], .null),
  (39, .bipush 31, 2, [], .int 31),
  (41, .ireturn, 1, [], .null),
  (42, .bipush 12, 2, [], .int 12),
  (44, .ireturn, 1, [], .null),
  (45, .bipush 7, 2, [], .int 7),
  (47, .ireturn, 1, [], .null),
  (48, .sipush 2299, 3, [], .int 2299),
  (51, .ireturn, 1, [], .null),
  (52, .bipush 59, 2, [], .int 59),
  (54, .ireturn, 1, [], .null)])
def jp_C_clear : jx_Me := (⟨"JobHouse$Cron", "clear", "()V"⟩, prog_2_method_4_code, 2, none, [], [
  (0, .iconst 0, 1, [], .int 0),
  (1, .istore_n 1, 1, [], .null),
  (2, .iload_n 1, 1, [], .null),
  (3, .bipush 12, 2, [], .int 12),
  (5, .if_icmp .ge 16, 3, [], .null),
  (8, .aload_n 0, 1, [], .null),
  (9, .getfield 11, 3, [4, 0], .null),
  (12, .iload_n 1, 1, [], .null),
  (13, .lconst 0, 1, [], .long 0),
  (14, .lastore, 1, [], .null),
  (15, .iinc 1 1, 3, [], .null),
  (18, .goto (-16), 3, [], .null),
  (21, .aload_n 0, 1, [], .null),
  (22, .iconst 0, 1, [], .int 0),
  (23, .putfield 15, 3, [4, 1, 0, 0], .null),
  (26, .return_, 1, [], .null)])
def jp_C_add : jx_Me := (⟨"JobHouse$Cron", "add", "(II)V"⟩, prog_2_method_5_code, 4, none, [], [
  (0, .iload_n 1, 1, [], .null),
  (1, .bipush 6, 2, [], .int 6),
  (3, .if_icmp .ne 33, 3, [], .null),
  (6, .iload_n 2, 1, [], .null),
  (7, .sipush 1970, 3, [], .int 1970),
  (10, .isub, 1, [], .null),
  (11, .istore_n 3, 1, [], .null),
  (12, .aload_n 0, 1, [], .null),
  (13, .getfield 11, 3, [4, 0], .null),
  (16, .bipush 6, 2, [], .int 6),
  (18, .iload_n 3, 1, [], .null),
  (19, .bipush 64, 2, [], .int 64),
  (21, .idiv, 1, [], .null),
  (22, .iadd, 1, [], .null),
  (23, .dup2, 1, [], .null),
  (24, .laload, 1, [], .null),
  (25, .lconst 1, 1, [], .long 1),
  (26, .iload_n 3, 1, [], .null),
  (27, .bipush 64, 2, [], .int 64),
  (29, .irem, 1, [], .null),
  (30, .lshl, 1, [], .null),
  (31, .lor, 1, [], .null),
  (32, .lastore, 1, [], .null),
  (33, .goto 15, 3, [], .null),
  (36, .aload_n 0, 1, [], .null),
  (37, .getfield 11, 3, [4, 0], .null),
  (40, .iload_n 1, 1, [], .null),
  (41, .dup2, 1, [], .null),
  (42, .laload, 1, [], .null),
  (43, .lconst 1, 1, [], .long 1),
  (44, .iload_n 2, 1, [], .null),
  (45, .lshl, 1, [], .null),
  (46, .lor, 1, [], .null),
  (47, .lastore, 1, [], .null),
  (48, .return_, 1, [], .null)])
def jp_C_hasMonth : jx_Me := (⟨"JobHouse$Cron", "hasMonth", "(I)Z"⟩, prog_2_method_6_code, 2, (some FieldType.boolean), [], [
  (0, .aload_n 0, 1, [], .null),
  (1, .getfield 11, 3, [4, 0], .null),
  (4, .iconst 4, 1, [], .int 4),
  (5, .laload, 1, [], .null),
  (6, .iload_n 1, 1, [], .null),
  (7, .lshr, 1, [], .null),
  (8, .lconst 1, 1, [], .long 1),
  (9, .land, 1, [], .null),
  (10, .lconst 0, 1, [], .long 0),
  (11, .lcmp, 1, [], .null),
  (12, .ifCond .eq 7, 3, [], .null),
  (15, .iconst 1, 1, [], .int 1),
  (16, .goto 4, 3, [], .null),
  (19, .iconst 0, 1, [], .int 0),
  (20, .ireturn, 1, [], .null)])
def jp_C_hasYear : jx_Me := (⟨"JobHouse$Cron", "hasYear", "(I)Z"⟩, prog_2_method_7_code, 3, (some FieldType.boolean), [], [
  (0, .iload_n 1, 1, [], .null),
  (1, .sipush 1970, 3, [], .int 1970),
  (4, .isub, 1, [], .null),
  (5, .istore_n 2, 1, [], .null),
  (6, .aload_n 0, 1, [], .null),
  (7, .getfield 11, 3, [4, 0], .null),
  (10, .bipush 6, 2, [], .int 6),
  (12, .iload_n 2, 1, [], .null),
  (13, .bipush 64, 2, [], .int 64),
  (15, .idiv, 1, [], .null),
  (16, .iadd, 1, [], .null),
  (17, .laload, 1, [], .null),
  (18, .iload_n 2, 1, [], .null),
  (19, .bipush 64, 2, [], .int 64),
  (21, .irem, 1, [], .null),
  (22, .lshr, 1, [], .null),
  (23, .lconst 1, 1, [], .long 1),
  (24, .land, 1, [], .null),
  (25, .lconst 0, 1, [], .long 0),
  (26, .lcmp, 1, [], .null),
  (27, .ifCond .eq 7, 3, [], .null),
  (30, .iconst 1, 1, [], .int 1),
  (31, .goto 4, 3, [], .null),
  (34, .iconst 0, 1, [], .int 0),
  (35, .ireturn, 1, [], .null)])
def jp_C_daysOf : jx_Me := (⟨"JobHouse$Cron", "daysOf", "(II)J"⟩, prog_2_method_8_code, 4, (some FieldType.long), [], [
  (0, .aload_n 0, 1, [], .null),
  (1, .getfield 15, 3, [4, 1], .null),
  (4, .tableswitch 87 0 4 #[36, 48, 59, 70, 77], 36, [], .null),
  (40, .aload_n 0, 1, [], .null),
  (41, .getfield 11, 3, [4, 0], .null),
  (44, .iconst 3, 1, [], .int 3),
  (45, .laload, 1, [], .null),
  (46, .iload_n 1, 1, [], .null),
  (47, .invokestatic 19, 3, [106, 1], .null),
  (50, .land, 1, [], .null),
  (51, .lreturn, 1, [], .null),
  (52, .aload_n 0, 1, [], .null),
  (53, .iload_n 2, 1, [], .null),
  (54, .invokevirtual 23, 3, [103, 1, 4], .null),
  (57, .iload_n 1, 1, [], .null),
  (58, .invokestatic 19, 3, [106, 1], .null),
  (61, .land, 1, [], .null),
  (62, .lreturn, 1, [], .null),
  (63, .iload_n 1, 1, [], .null),
  (64, .aload_n 0, 1, [], .null),
  (65, .getfield 26, 3, [4, 3], .null),
  (68, .isub, 1, [], .null),
  (69, .iload_n 1, 1, [], .null),
  (70, .invokestatic 29, 3, [105, 2], .null),
  (73, .lreturn, 1, [], .null),
  (74, .iload_n 1, 1, [], .null),
  (75, .iload_n 1, 1, [], .null),
  (76, .iload_n 2, 1, [], .null),
  (77, .invokestatic 33, 3, [104, 3], .null),
  (80, .lreturn, 1, [], .null),
  (81, .aload_n 0, 1, [], .null),
  (82, .getfield 37, 3, [4, 2], .null),
  (85, .iload_n 1, 1, [], .null),
  (86, .iload_n 2, 1, [], .null),
  (87, .invokestatic 33, 3, [104, 3], .null),
  (90, .lreturn, 1, [], .null),
  (91, .iconst 1, 1, [], .int 1),
  (92, .aload_n 0, 1, [], .null),
  (93, .getfield 37, 3, [4, 2], .null),
  (96, .iload_n 2, 1, [], .null),
  (97, .isub, 1, [], .null),
  (98, .bipush 7, 2, [], .int 7),
  (100, .invokestatic 40, 3, [188, 2], .null),
  (103, .iadd, 1, [], .null),
  (104, .istore_n 3, 1, [], .null),
  (105, .aload_n 0, 1, [], .null),
  (106, .getfield 15, 3, [4, 1], .null),
  (109, .iconst 5, 1, [], .int 5),
  (110, .if_icmp .ne 19, 3, [], .null),
  (113, .iload_n 3, 1, [], .null),
  (114, .iload_n 1, 1, [], .null),
  (115, .iload_n 3, 1, [], .null),
  (116, .isub, 1, [], .null),
  (117, .bipush 7, 2, [], .int 7),
  (119, .idiv, 1, [], .null),
  (120, .bipush 7, 2, [], .int 7),
  (122, .imul, 1, [], .null),
  (123, .iadd, 1, [], .null),
  (124, .iload_n 1, 1, [], .null),
  (125, .invokestatic 29, 3, [105, 2], .null),
  (128, .lreturn, 1, [], .null),
  (129, .iload_n 3, 1, [], .null),
  (130, .bipush 7, 2, [], .int 7),
  (132, .aload_n 0, 1, [], .null),
  (133, .getfield 26, 3, [4, 3], .null),
  (136, .iconst 1, 1, [], .int 1),
  (137, .isub, 1, [], .null),
  (138, .imul, 1, [], .null),
  (139, .iadd, 1, [], .null),
  (140, .iload_n 1, 1, [], .null),
  (141, .invokestatic 29, 3, [105, 2], .null),
  (144, .lreturn, 1, [], .null)])
def jp_C_weekdaysFrom : jx_Me := (⟨"JobHouse$Cron", "weekdaysFrom", "(I)J"⟩, prog_2_method_9_code, 4, (some FieldType.long), [], [
  (0, .aload_n 0, 1, [], .null),
  (1, .getfield 11, 3, [4, 0], .null),
  (4, .iconst 5, 1, [], .int 5),
  (5, .laload, 1, [], .null),
  (6, .iload_n 1, 1, [], .null),
  (7, .lshr, 1, [], .null),
  (8, .aload_n 0, 1, [], .null),
  (9, .getfield 11, 3, [4, 0], .null),
  (12, .iconst 5, 1, [], .int 5),
  (13, .laload, 1, [], .null),
  (14, .bipush 7, 2, [], .int 7),
  (16, .iload_n 1, 1, [], .null),
  (17, .isub, 1, [], .null),
  (18, .lshl, 1, [], .null),
  (19, .lor, 1, [], .null),
  (20, .lstore_n 2, 1, [], .null),
  (21, .lload_n 2, 1, [], .null),
  (22, .iconst 1, 1, [], .int 1),
  (23, .lshl, 1, [], .null),
  (24, .ldc2_w 46, 3, [], .long 254),
  (27, .land, 1, [], .null),
  (28, .lstore_n 2, 1, [], .null),
  (29, .lload_n 2, 1, [], .null),
  (30, .lload_n 2, 1, [], .null),
  (31, .bipush 7, 2, [], .int 7),
  (33, .lshl, 1, [], .null),
  (34, .lor, 1, [], .null),
  (35, .lload_n 2, 1, [], .null),
  (36, .bipush 14, 2, [], .int 14),
  (38, .lshl, 1, [], .null),
  (39, .lor, 1, [], .null),
  (40, .lload_n 2, 1, [], .null),
  (41, .bipush 21, 2, [], .int 21),
  (43, .lshl, 1, [], .null),
  (44, .lor, 1, [], .null),
  (45, .lload_n 2, 1, [], .null),
  (46, .bipush 28, 2, [], .int 28),
  (48, .lshl, 1, [], .null),
  (49, .lor, 1, [], .null),
  (50, .lreturn, 1, [], .null)])
def jp_C_workdayNearest : jx_Me := (⟨"JobHouse$Cron", "workdayNearest", "(III)J"⟩, prog_2_method_10_code, 4, (some FieldType.long), [], [
  (0, .iload_n 2, 1, [], .null),
  (1, .iload_n 0, 1, [], .null),
  (2, .iadd, 1, [], .null),
  (3, .iconst 2, 1, [], .int 2),
  (4, .isub, 1, [], .null),
  (5, .bipush 7, 2, [], .int 7),
  (7, .irem, 1, [], .null),
  (8, .iconst 1, 1, [], .int 1),
  (9, .iadd, 1, [], .null),
  (10, .istore_n 3, 1, [], .null),
  (11, .iload_n 0, 1, [], .null),
  (12, .iload_n 1, 1, [], .null),
  (13, .if_icmp .le 5, 3, [], .null),
  (16, .lconst 0, 1, [], .long 0),
  (17, .lreturn, 1, [], .null),
  (18, .iload_n 3, 1, [], .null),
  (19, .bipush 7, 2, [], .int 7),
  (21, .if_icmp .ne 20, 3, [], .null),
  (24, .lconst 1, 1, [], .long 1),
  (25, .iload_n 0, 1, [], .null),
  (26, .iconst 1, 1, [], .int 1),
  (27, .if_icmp .le 9, 3, [], .null),
  (30, .iload_n 0, 1, [], .null),
  (31, .iconst 1, 1, [], .int 1),
  (32, .isub, 1, [], .null),
  (33, .goto 6, 3, [], .null),
  (36, .iload_n 0, 1, [], .null),
  (37, .iconst 2, 1, [], .int 2),
  (38, .iadd, 1, [], .null),
  (39, .lshl, 1, [], .null),
  (40, .lreturn, 1, [], .null),
  (41, .iload_n 3, 1, [], .null),
  (42, .iconst 1, 1, [], .int 1),
  (43, .if_icmp .ne 20, 3, [], .null),
  (46, .lconst 1, 1, [], .long 1),
  (47, .iload_n 0, 1, [], .null),
  (48, .iload_n 1, 1, [], .null),
  (49, .if_icmp .ge 9, 3, [], .null),
  (52, .iload_n 0, 1, [], .null),
  (53, .iconst 1, 1, [], .int 1),
  (54, .iadd, 1, [], .null),
  (55, .goto 6, 3, [], .null),
  (58, .iload_n 0, 1, [], .null),
  (59, .iconst 2, 1, [], .int 2),
  (60, .isub, 1, [], .null),
  (61, .lshl, 1, [], .null),
  (62, .lreturn, 1, [], .null),
  (63, .lconst 1, 1, [], .long 1),
  (64, .iload_n 0, 1, [], .null),
  (65, .lshl, 1, [], .null),
  (66, .lreturn, 1, [], .null)])
def jp_C_bitOf : jx_Me := (⟨"JobHouse$Cron", "bitOf", "(II)J"⟩, prog_2_method_11_code, 2, (some FieldType.long), [], [
  (0, .iload_n 0, 1, [], .null),
  (1, .iconst 1, 1, [], .int 1),
  (2, .if_icmp .lt 8, 3, [], .null),
  (5, .iload_n 0, 1, [], .null),
  (6, .iload_n 1, 1, [], .null),
  (7, .if_icmp .le 7, 3, [], .null),
  (10, .lconst 0, 1, [], .long 0),
  (11, .goto 6, 3, [], .null),
  (14, .lconst 1, 1, [], .long 1),
  (15, .iload_n 0, 1, [], .null),
  (16, .lshl, 1, [], .null),
  (17, .lreturn, 1, [], .null)])
def jp_C_bitsUpTo : jx_Me := (⟨"JobHouse$Cron", "bitsUpTo", "(I)J"⟩, prog_2_method_12_code, 1, (some FieldType.long), [], [
  (0, .lconst 1, 1, [], .long 1),
  (1, .iload_n 0, 1, [], .null),
  (2, .iconst 1, 1, [], .int 1),
  (3, .iadd, 1, [], .null),
  (4, .lshl, 1, [], .null),
  (5, .lconst 1, 1, [], .long 1),
  (6, .lsub, 1, [], .null),
  (7, .lreturn, 1, [], .null)])
def jp_C_timeFrom : jx_Me := (⟨"JobHouse$Cron", "timeFrom", "(I)I"⟩, prog_2_method_13_code, 6, (some FieldType.int), [], [
  (0, .aload_n 0, 1, [], .null),
  (1, .getfield 11, 3, [4, 0], .null),
  (4, .iconst 2, 1, [], .int 2),
  (5, .laload, 1, [], .null),
  (6, .iload_n 1, 1, [], .null),
  (7, .sipush 3600, 3, [], .int 3600),
  (10, .idiv, 1, [], .null),
  (11, .invokestatic 48, 3, [109, 2], .null),
  (14, .istore_n 2, 1, [], .null),
  (15, .aload_n 0, 1, [], .null),
  (16, .getfield 11, 3, [4, 0], .null),
  (19, .iconst 1, 1, [], .int 1),
  (20, .laload, 1, [], .null),
  (21, .iload_n 2, 1, [], .null),
  (22, .iload_n 1, 1, [], .null),
  (23, .sipush 3600, 3, [], .int 3600),
  (26, .idiv, 1, [], .null),
  (27, .if_icmp .ne 13, 3, [], .null),
  (30, .iload_n 1, 1, [], .null),
  (31, .bipush 60, 2, [], .int 60),
  (33, .idiv, 1, [], .null),
  (34, .bipush 60, 2, [], .int 60),
  (36, .irem, 1, [], .null),
  (37, .goto 4, 3, [], .null),
  (40, .iconst 0, 1, [], .int 0),
  (41, .invokestatic 48, 3, [109, 2], .null),
  (44, .istore_n 3, 1, [], .null),
  (45, .iload_n 2, 1, [], .null),
  (46, .iload_n 1, 1, [], .null),
  (47, .sipush 3600, 3, [], .int 3600),
  (50, .idiv, 1, [], .null),
  (51, .if_icmp .ne 18, 3, [], .null),
  (54, .iload_n 3, 1, [], .null),
  (55, .iload_n 1, 1, [], .null),
  (56, .bipush 60, 2, [], .int 60),
  (58, .idiv, 1, [], .null),
  (59, .bipush 60, 2, [], .int 60),
  (61, .irem, 1, [], .null),
  (62, .if_icmp .ne 7, 3, [], .null),
  (65, .iconst 1, 1, [], .int 1),
  (66, .goto 4, 3, [], .null),
  (69, .iconst 0, 1, [], .int 0),
  (70, .istore 4, 2, [], .null),
  (72, .aload_n 0, 1, [], .null),
  (73, .getfield 11, 3, [4, 0], .null),
  (76, .iconst 0, 1, [], .int 0),
  (77, .laload, 1, [], .null),
  (78, .iload 4, 2, [], .null),
  (80, .ifCond .eq 10, 3, [], .null),
  (83, .iload_n 1, 1, [], .null),
  (84, .bipush 60, 2, [], .int 60),
  (86, .irem, 1, [], .null),
  (87, .goto 4, 3, [], .null),
  (90, .iconst 0, 1, [], .int 0),
  (91, .invokestatic 48, 3, [109, 2], .null),
  (94, .istore 5, 2, [], .null),
  (96, .iload 5, 2, [], .null),
  (98, .ifCond .ge 28, 3, [], .null),
  (101, .aload_n 0, 1, [], .null),
  (102, .getfield 11, 3, [4, 0], .null),
  (105, .iconst 1, 1, [], .int 1),
  (106, .laload, 1, [], .null),
  (107, .iload_n 3, 1, [], .null),
  (108, .iconst 1, 1, [], .int 1),
  (109, .iadd, 1, [], .null),
  (110, .invokestatic 48, 3, [109, 2], .null),
  (113, .istore_n 3, 1, [], .null),
  (114, .aload_n 0, 1, [], .null),
  (115, .getfield 11, 3, [4, 0], .null),
  (118, .iconst 0, 1, [], .int 0),
  (119, .laload, 1, [], .null),
  (120, .iconst 0, 1, [], .int 0),
  (121, .invokestatic 48, 3, [109, 2], .null),
  (124, .istore 5, 2, [], .null),
  (126, .iload_n 3, 1, [], .null),
  (127, .ifCond .ge 31, 3, [], .null),
  (130, .aload_n 0, 1, [], .null),
  (131, .getfield 11, 3, [4, 0], .null),
  (134, .iconst 2, 1, [], .int 2),
  (135, .laload, 1, [], .null),
  (136, .iload_n 1, 1, [], .null),
  (137, .sipush 3600, 3, [], .int 3600),
  (140, .idiv, 1, [], .null),
  (141, .iconst 1, 1, [], .int 1),
  (142, .iadd, 1, [], .null),
  (143, .invokestatic 48, 3, [109, 2], .null),
  (146, .istore_n 2, 1, [], .null),
  (147, .aload_n 0, 1, [], .null),
  (148, .getfield 11, 3, [4, 0], .null),
  (151, .iconst 1, 1, [], .int 1),
  (152, .laload, 1, [], .null),
  (153, .iconst 0, 1, [], .int 0),
  (154, .invokestatic 48, 3, [109, 2], .null),
  (157, .istore_n 3, 1, [], .null),
  (158, .iload_n 2, 1, [], .null),
  (159, .ifCond .ge 7, 3, [], .null),
  (162, .iconst (-1), 1, [], .int (-1)),
  (163, .goto 16, 3, [], .null),
  (166, .iload_n 2, 1, [], .null),
  (167, .sipush 3600, 3, [], .int 3600),
  (170, .imul, 1, [], .null),
  (171, .iload_n 3, 1, [], .null),
  (172, .bipush 60, 2, [], .int 60),
  (174, .imul, 1, [], .null),
  (175, .iadd, 1, [], .null),
  (176, .iload 5, 2, [], .null),
  (178, .iadd, 1, [], .null),
  (179, .ireturn, 1, [], .null)])
def jp_C_timeUpTo : jx_Me := (⟨"JobHouse$Cron", "timeUpTo", "(I)I"⟩, prog_2_method_14_code, 6, (some FieldType.int), [], [
  (0, .aload_n 0, 1, [], .null),
  (1, .getfield 11, 3, [4, 0], .null),
  (4, .iconst 2, 1, [], .int 2),
  (5, .laload, 1, [], .null),
  (6, .iload_n 1, 1, [], .null),
  (7, .sipush 3600, 3, [], .int 3600),
  (10, .idiv, 1, [], .null),
  (11, .invokestatic 52, 3, [110, 2], .null),
  (14, .istore_n 2, 1, [], .null),
  (15, .aload_n 0, 1, [], .null),
  (16, .getfield 11, 3, [4, 0], .null),
  (19, .iconst 1, 1, [], .int 1),
  (20, .laload, 1, [], .null),
  (21, .iload_n 2, 1, [], .null),
  (22, .iload_n 1, 1, [], .null),
  (23, .sipush 3600, 3, [], .int 3600),
  (26, .idiv, 1, [], .null),
  (27, .if_icmp .ne 13, 3, [], .null),
  (30, .iload_n 1, 1, [], .null),
  (31, .bipush 60, 2, [], .int 60),
  (33, .idiv, 1, [], .null),
  (34, .bipush 60, 2, [], .int 60),
  (36, .irem, 1, [], .null),
  (37, .goto 5, 3, [], .null),
  (40, .bipush 59, 2, [], .int 59),
  (42, .invokestatic 52, 3, [110, 2], .null),
  (45, .istore_n 3, 1, [], .null),
  (46, .iload_n 2, 1, [], .null),
  (47, .iload_n 1, 1, [], .null),
  (48, .sipush 3600, 3, [], .int 3600),
  (51, .idiv, 1, [], .null),
  (52, .if_icmp .ne 18, 3, [], .null),
  (55, .iload_n 3, 1, [], .null),
  (56, .iload_n 1, 1, [], .null),
  (57, .bipush 60, 2, [], .int 60),
  (59, .idiv, 1, [], .null),
  (60, .bipush 60, 2, [], .int 60),
  (62, .irem, 1, [], .null),
  (63, .if_icmp .ne 7, 3, [], .null),
  (66, .iconst 1, 1, [], .int 1),
  (67, .goto 4, 3, [], .null),
  (70, .iconst 0, 1, [], .int 0),
  (71, .istore 4, 2, [], .null),
  (73, .aload_n 0, 1, [], .null),
  (74, .getfield 11, 3, [4, 0], .null),
  (77, .iconst 0, 1, [], .int 0),
  (78, .laload, 1, [], .null),
  (79, .iload 4, 2, [], .null),
  (81, .ifCond .eq 10, 3, [], .null),
  (84, .iload_n 1, 1, [], .null),
  (85, .bipush 60, 2, [], .int 60),
  (87, .irem, 1, [], .null),
  (88, .goto 5, 3, [], .null),
  (91, .bipush 59, 2, [], .int 59),
  (93, .invokestatic 52, 3, [110, 2], .null),
  (96, .istore 5, 2, [], .null),
  (98, .iload 5, 2, [], .null),
  (100, .ifCond .ge 29, 3, [], .null),
  (103, .aload_n 0, 1, [], .null),
  (104, .getfield 11, 3, [4, 0], .null),
  (107, .iconst 1, 1, [], .int 1),
  (108, .laload, 1, [], .null),
  (109, .iload_n 3, 1, [], .null),
  (110, .iconst 1, 1, [], .int 1),
  (111, .isub, 1, [], .null),
  (112, .invokestatic 52, 3, [110, 2], .null),
  (115, .istore_n 3, 1, [], .null),
  (116, .aload_n 0, 1, [], .null),
  (117, .getfield 11, 3, [4, 0], .null),
  (120, .iconst 0, 1, [], .int 0),
  (121, .laload, 1, [], .null),
  (122, .bipush 59, 2, [], .int 59),
  (124, .invokestatic 52, 3, [110, 2], .null),
  (127, .istore 5, 2, [], .null),
  (129, .iload_n 3, 1, [], .null),
  (130, .ifCond .ge 32, 3, [], .null),
  (133, .aload_n 0, 1, [], .null),
  (134, .getfield 11, 3, [4, 0], .null),
  (137, .iconst 2, 1, [], .int 2),
  (138, .laload, 1, [], .null),
  (139, .iload_n 1, 1, [], .null),
  (140, .sipush 3600, 3, [], .int 3600),
  (143, .idiv, 1, [], .null),
  (144, .iconst 1, 1, [], .int 1),
  (145, .isub, 1, [], .null),
  (146, .invokestatic 52, 3, [110, 2], .null),
  (149, .istore_n 2, 1, [], .null),
  (150, .aload_n 0, 1, [], .null),
  (151, .getfield 11, 3, [4, 0], .null),
  (154, .iconst 1, 1, [], .int 1),
  (155, .laload, 1, [], .null),
  (156, .bipush 59, 2, [], .int 59),
  (158, .invokestatic 52, 3, [110, 2], .null),
  (161, .istore_n 3, 1, [], .null),
  (162, .iload_n 2, 1, [], .null),
  (163, .ifCond .ge 7, 3, [], .null),
  (166, .iconst (-1), 1, [], .int (-1)),
  (167, .goto 16, 3, [], .null),
  (170, .iload_n 2, 1, [], .null),
  (171, .sipush 3600, 3, [], .int 3600),
  (174, .imul, 1, [], .null),
  (175, .iload_n 3, 1, [], .null),
  (176, .bipush 60, 2, [], .int 60),
  (178, .imul, 1, [], .null),
  (179, .iadd, 1, [], .null),
  (180, .iload 5, 2, [], .null),
  (182, .iadd, 1, [], .null),
  (183, .ireturn, 1, [], .null)])
def jp_C_lowestBit : jx_Me := (⟨"JobHouse$Cron", "lowestBit", "(JI)I"⟩, prog_2_method_15_code, 5, (some FieldType.int), [], [
  (0, .lload_n 0, 1, [], .null),
  (1, .iload_n 2, 1, [], .null),
  (2, .lshr, 1, [], .null),
  (3, .iload_n 2, 1, [], .null),
  (4, .lshl, 1, [], .null),
  (5, .lstore_n 3, 1, [], .null),
  (6, .lload_n 3, 1, [], .null),
  (7, .lconst 0, 1, [], .long 0),
  (8, .lcmp, 1, [], .null),
  (9, .ifCond .ne 7, 3, [], .null),
  (12, .iconst (-1), 1, [], .int (-1)),
  (13, .goto 12, 3, [], .null),
  (16, .lload_n 3, 1, [], .null),
  (17, .lload_n 3, 1, [], .null),
  (18, .lneg, 1, [], .null),
  (19, .land, 1, [], .null),
  (20, .lconst 1, 1, [], .long 1),
  (21, .lsub, 1, [], .null),
  (22, .invokestatic 55, 3, [185, 1], .null),
  (25, .ireturn, 1, [], .null)])
def jp_C_highestBit : jx_Me := (⟨"JobHouse$Cron", "highestBit", "(JI)I"⟩, prog_2_method_16_code, 5, (some FieldType.int), [], [
  (0, .iload_n 2, 1, [], .null),
  (1, .ifCond .ge 5, 3, [], .null),
  (4, .iconst (-1), 1, [], .int (-1)),
  (5, .ireturn, 1, [], .null),
  (6, .lload_n 0, 1, [], .null),
  (7, .iload_n 2, 1, [], .null),
  (8, .invokestatic 19, 3, [106, 1], .null),
  (11, .land, 1, [], .null),
  (12, .lstore_n 3, 1, [], .null),
  (13, .lload_n 3, 1, [], .null),
  (14, .lload_n 3, 1, [], .null),
  (15, .iconst 1, 1, [], .int 1),
  (16, .lshr, 1, [], .null),
  (17, .lor, 1, [], .null),
  (18, .lstore_n 3, 1, [], .null),
  (19, .lload_n 3, 1, [], .null),
  (20, .lload_n 3, 1, [], .null),
  (21, .iconst 2, 1, [], .int 2),
  (22, .lshr, 1, [], .null),
  (23, .lor, 1, [], .null),
  (24, .lstore_n 3, 1, [], .null),
  (25, .lload_n 3, 1, [], .null),
  (26, .lload_n 3, 1, [], .null),
  (27, .iconst 4, 1, [], .int 4),
  (28, .lshr, 1, [], .null),
  (29, .lor, 1, [], .null),
  (30, .lstore_n 3, 1, [], .null),
  (31, .lload_n 3, 1, [], .null),
  (32, .lload_n 3, 1, [], .null),
  (33, .bipush 8, 2, [], .int 8),
  (35, .lshr, 1, [], .null),
  (36, .lor, 1, [], .null),
  (37, .lstore_n 3, 1, [], .null),
  (38, .lload_n 3, 1, [], .null),
  (39, .lload_n 3, 1, [], .null),
  (40, .bipush 16, 2, [], .int 16),
  (42, .lshr, 1, [], .null),
  (43, .lor, 1, [], .null),
  (44, .lstore_n 3, 1, [], .null),
  (45, .lload_n 3, 1, [], .null),
  (46, .lload_n 3, 1, [], .null),
  (47, .bipush 32, 2, [], .int 32),
  (49, .lshr, 1, [], .null),
  (50, .lor, 1, [], .null),
  (51, .lstore_n 3, 1, [], .null),
  (52, .lload_n 3, 1, [], .null),
  (53, .invokestatic 55, 3, [185, 1], .null),
  (56, .iconst 1, 1, [], .int 1),
  (57, .isub, 1, [], .null),
  (58, .ireturn, 1, [], .null)])
def jp_CR_readCron : jx_Me := (⟨"JobHouse$CronReader", "readCron", "(LJobHouse$Text;LJobHouse$Cron;)V"⟩, prog_3_method_2_code, 2, none, [], [
  (0, .aload_n 1, 1, [], .null),
  (1, .invokevirtual 9, 3, [98, 0, 4], .null),
  (4, .aload_n 0, 1, [], .null),
  (5, .aload_n 1, 1, [], .null),
  (6, .iconst 0, 1, [], .int 0),
  (7, .invokestatic 14, 3, [114, 3], .null),
  (10, .aload_n 0, 1, [], .null),
  (11, .invokevirtual 20, 3, [153, 0, 1], .null),
  (14, .aload_n 0, 1, [], .null),
  (15, .aload_n 1, 1, [], .null),
  (16, .iconst 1, 1, [], .int 1),
  (17, .invokestatic 14, 3, [114, 3], .null),
  (20, .aload_n 0, 1, [], .null),
  (21, .invokevirtual 20, 3, [153, 0, 1], .null),
  (24, .aload_n 0, 1, [], .null),
  (25, .aload_n 1, 1, [], .null),
  (26, .iconst 2, 1, [], .int 2),
  (27, .invokestatic 14, 3, [114, 3], .null),
  (30, .aload_n 0, 1, [], .null),
  (31, .invokevirtual 20, 3, [153, 0, 1], .null),
  (34, .aload_n 0, 1, [], .null),
  (35, .aload_n 1, 1, [], .null),
  (36, .invokestatic 25, 3, [112, 2], .null),
  (39, .ifCond .ne 9, 3, [], .null),
  (42, .aload_n 0, 1, [], .null),
  (43, .aload_n 1, 1, [], .null),
  (44, .iconst 3, 1, [], .int 3),
  (45, .invokestatic 14, 3, [114, 3], .null),
  (48, .aload_n 0, 1, [], .null),
  (49, .invokevirtual 20, 3, [153, 0, 1], .null),
  (52, .aload_n 0, 1, [], .null),
  (53, .aload_n 1, 1, [], .null),
  (54, .iconst 4, 1, [], .int 4),
  (55, .invokestatic 14, 3, [114, 3], .null),
  (58, .aload_n 0, 1, [], .null),
  (59, .invokevirtual 20, 3, [153, 0, 1], .null),
  (62, .aload_n 0, 1, [], .null),
  (63, .aload_n 1, 1, [], .null),
  (64, .invokestatic 29, 3, [113, 2], .null),
  (67, .ifCond .ne 9, 3, [], .null),
  (70, .aload_n 0, 1, [], .null),
  (71, .aload_n 1, 1, [], .null),
  (72, .iconst 5, 1, [], .int 5),
  (73, .invokestatic 14, 3, [114, 3], .null),
  (76, .aload_n 0, 1, [], .null),
  (77, .invokevirtual 32, 3, [149, 0, 1], .null),
  (80, .ifCond .eq 17, 3, [], .null),
  (83, .aload_n 1, 1, [], .null),
  (84, .bipush 6, 2, [], .int 6),
  (86, .sipush 1970, 3, [], .int 1970),
  (89, .sipush 2299, 3, [], .int 2299),
  (92, .iconst 1, 1, [], .int 1),
  (93, .invokestatic 36, 3, [119, 5], .null),
  (96, .return_, 1, [], .null),
  (97, .aload_n 0, 1, [], .null),
  (98, .invokevirtual 20, 3, [153, 0, 1], .null),
  (101, .aload_n 0, 1, [], .null),
  (102, .aload_n 1, 1, [], .null),
  (103, .bipush 6, 2, [], .int 6),
  (105, .invokestatic 14, 3, [114, 3], .null),
  (108, .aload_n 0, 1, [], .null),
  (109, .invokevirtual 40, 3, [154, 0, 1], .null),
  (112, .return_, 1, [], .null)])
def jp_CR_takeDayRule : jx_Me := (⟨"JobHouse$CronReader", "takeDayRule", "(LJobHouse$Text;LJobHouse$Cron;)Z"⟩, prog_3_method_3_code, 2, (some FieldType.boolean), [], [
  (0, .aload_n 0, 1, [], .null),
  (1, .bipush 63, 2, [], .int 63),
  (3, .invokevirtual 43, 3, [151, 1, 1], .null),
  (6, .ifCond .eq 10, 3, [], .null),
  (9, .aload_n 1, 1, [], .null),
  (10, .iconst 1, 1, [], .int 1),
  (11, .putfield 47, 3, [4, 1, 0, 0], .null),
  (14, .iconst 1, 1, [], .int 1),
  (15, .ireturn, 1, [], .null),
  (16, .aload_n 0, 1, [], .null),
  (17, .bipush 76, 2, [], .int 76),
  (19, .invokevirtual 43, 3, [151, 1, 1], .null),
  (22, .ifCond .ne 5, 3, [], .null),
  (25, .iconst 0, 1, [], .int 0),
  (26, .ireturn, 1, [], .null),
  (27, .aload_n 0, 1, [], .null),
  (28, .bipush 87, 2, [], .int 87),
  (30, .invokevirtual 43, 3, [151, 1, 1], .null),
  (33, .ifCond .eq 11, 3, [], .null),
  (36, .aload_n 1, 1, [], .null),
  (37, .iconst 3, 1, [], .int 3),
  (38, .putfield 47, 3, [4, 1, 0, 0], .null),
  (41, .goto 32, 3, [], .null),
  (44, .aload_n 1, 1, [], .null),
  (45, .iconst 2, 1, [], .int 2),
  (46, .putfield 47, 3, [4, 1, 0, 0], .null),
  (49, .aload_n 1, 1, [], .null),
  (50, .aload_n 0, 1, [], .null),
  (51, .bipush 45, 2, [], .int 45),
  (53, .invokevirtual 43, 3, [151, 1, 1], .null),
  (56, .ifCond .eq 13, 3, [], .null),
  (59, .aload_n 0, 1, [], .null),
  (60, .iconst 1, 1, [], .int 1),
  (61, .bipush 30, 2, [], .int 30),
  (63, .invokevirtual 51, 3, [155, 2, 1], .null),
  (66, .goto 4, 3, [], .null),
  (69, .iconst 0, 1, [], .int 0),
  (70, .putfield 55, 3, [4, 3, 0, 0], .null),
  (73, .iconst 1, 1, [], .int 1),
  (74, .ireturn, 1, [], .null)])
def jp_CR_takeWeekdayRule : jx_Me := (⟨"JobHouse$CronReader", "takeWeekdayRule", "(LJobHouse$Text;LJobHouse$Cron;)Z"⟩, prog_3_method_4_code, 2, (some FieldType.boolean), [], [
  (0, .aload_n 1, 1, [], .null),
  (1, .getfield 47, 3, [4, 1], .null),
  (4, .iconst 1, 1, [], .int 1),
  (5, .if_icmp .eq 11, 3, [], .null),
  (8, .aload_n 0, 1, [], .null),
  (9, .bipush 63, 2, [], .int 63),
  (11, .invokevirtual 58, 3, [152, 1, 1], .null),
  (14, .iconst 1, 1, [], .int 1),
  (15, .ireturn, 1, [], .null),
  (16, .aload_n 0, 1, [], .null),
  (17, .bipush 76, 2, [], .int 76),
  (19, .invokevirtual 43, 3, [151, 1, 1], .null),
  (22, .ifCond .eq 12, 3, [], .null),
  (25, .aload_n 1, 1, [], .null),
  (26, .iconst 5, 1, [], .int 5),
  (27, .bipush 7, 2, [], .int 7),
  (29, .invokevirtual 62, 3, [99, 2, 4], .null),
  (32, .iconst 1, 1, [], .int 1),
  (33, .ireturn, 1, [], .null),
  (34, .iconst 0, 1, [], .int 0),
  (35, .ireturn, 1, [], .null)])
def jp_CR_readItems : jx_Me := (⟨"JobHouse$CronReader", "readItems", "(LJobHouse$Text;LJobHouse$Cron;I)V"⟩, prog_3_method_5_code, 5, none, [], [
  (0, .iconst 1, 1, [], .int 1),
  (1, .istore_n 3, 1, [], .null),
  (2, .iconst 0, 1, [], .int 0),
  (3, .istore 4, 2, [], .null),
  (5, .iload_n 3, 1, [], .null),
  (6, .ifCond .eq 51, 3, [], .null),
  (9, .iload 4, 2, [], .null),
  (11, .sipush 400, 3, [], .int 400),
  (14, .if_icmp .ge 43, 3, [], .null),
  (17, .aload_n 0, 1, [], .null),
  (18, .aload_n 1, 1, [], .null),
  (19, .iload_n 2, 1, [], .null),
  (20, .iload 4, 2, [], .null),
  (22, .ifCond .ne 7, 3, [], .null),
  (25, .iconst 1, 1, [], .int 1),
  (26, .goto 4, 3, [], .null),
  (29, .iconst 0, 1, [], .int 0),
  (30, .invokestatic 66, 3, [115, 4], .null),
  (33, .ifCond .eq 16, 3, [], .null),
  (36, .aload_n 0, 1, [], .null),
  (37, .bipush 44, 2, [], .int 44),
  (39, .invokevirtual 43, 3, [151, 1, 1], .null),
  (42, .ifCond .eq 7, 3, [], .null),
  (45, .iconst 1, 1, [], .int 1),
  (46, .goto 4, 3, [], .null),
  (49, .iconst 0, 1, [], .int 0),
  (50, .istore_n 3, 1, [], .null),
  (51, .iinc 4 1, 3, [], .null),
  (54, .goto (-49), 3, [], .null),
  (57, .return_, 1, [], .null)])
def jp_CR_readItem : jx_Me := (⟨"JobHouse$CronReader", "readItem", "(LJobHouse$Text;LJobHouse$Cron;IZ)Z"⟩, prog_3_method_6_code, 7, (some FieldType.boolean), [], [
  (0, .iload_n 2, 1, [], .null),
  (1, .invokestatic 70, 3, [96, 1], .null),
  (4, .istore 4, 2, [], .null),
  (6, .iload_n 2, 1, [], .null),
  (7, .invokestatic 74, 3, [97, 1], .null),
  (10, .istore 5, 2, [], .null),
  (12, .aload_n 0, 1, [], .null),
  (13, .bipush 42, 2, [], .int 42),
  (15, .invokevirtual 43, 3, [151, 1, 1], .null),
  (18, .ifCond .ne 59, 3, [], .null),
  (21, .aload_n 0, 1, [], .null),
  (22, .iload_n 2, 1, [], .null),
  (23, .invokestatic 77, 3, [116, 2], .null),
  (26, .istore 4, 2, [], .null),
  (28, .iload_n 3, 1, [], .null),
  (29, .ifCond .eq 16, 3, [], .null),
  (32, .aload_n 0, 1, [], .null),
  (33, .aload_n 1, 1, [], .null),
  (34, .iload_n 2, 1, [], .null),
  (35, .iload 4, 2, [], .null),
  (37, .invokestatic 81, 3, [118, 4], .null),
  (40, .ifCond .eq 5, 3, [], .null),
  (43, .iconst 0, 1, [], .int 0),
  (44, .ireturn, 1, [], .null),
  (45, .aload_n 0, 1, [], .null),
  (46, .invokevirtual 85, 3, [150, 0, 1], .null),
  (49, .bipush 47, 2, [], .int 47),
  (51, .if_icmp .eq 26, 3, [], .null),
  (54, .aload_n 0, 1, [], .null),
  (55, .bipush 45, 2, [], .int 45),
  (57, .invokevirtual 43, 3, [151, 1, 1], .null),
  (60, .ifCond .eq 13, 3, [], .null),
  (63, .aload_n 0, 1, [], .null),
  (64, .iload_n 2, 1, [], .null),
  (65, .iload 4, 2, [], .null),
  (67, .invokestatic 89, 3, [117, 3], .null),
  (70, .goto 5, 3, [], .null),
  (73, .iload 4, 2, [], .null),
  (75, .istore 5, 2, [], .null),
  (77, .aload_n 0, 1, [], .null),
  (78, .bipush 47, 2, [], .int 47),
  (80, .invokevirtual 43, 3, [151, 1, 1], .null),
  (83, .ifCond .eq 13, 3, [], .null),
  (86, .aload_n 0, 1, [], .null),
  (87, .iconst 1, 1, [], .int 1),
  (88, .bipush 99, 2, [], .int 99),
  (90, .invokevirtual 51, 3, [155, 2, 1], .null),
  (93, .goto 4, 3, [], .null),
  (96, .iconst 1, 1, [], .int 1),
  (97, .istore 6, 2, [], .null),
  (99, .aload_n 1, 1, [], .null),
  (100, .iload_n 2, 1, [], .null),
  (101, .iload 4, 2, [], .null),
  (103, .iload 5, 2, [], .null),
  (105, .iload 6, 2, [], .null),
  (107, .invokestatic 36, 3, [119, 5], .null),
  (110, .iconst 1, 1, [], .int 1),
  (111, .ireturn, 1, [], .null)])
def jp_CR_readValue : jx_Me := (⟨"JobHouse$CronReader", "readValue", "(LJobHouse$Text;I)I"⟩, prog_3_method_7_code, 4, (some FieldType.int), [], [
  (0, .iconst (-1), 1, [], .int (-1)),
  (1, .istore_n 2, 1, [], .null),
  (2, .iload_n 1, 1, [], .null),
  (3, .iconst 4, 1, [], .int 4),
  (4, .if_icmp .ne 13, 3, [], .null),
  (7, .aload_n 0, 1, [], .null),
  (8, .ldc 93, 2, [], .ref 3),
  (10, .invokevirtual 95, 3, [156, 1, 1], .null),
  (13, .istore_n 2, 1, [], .null),
  (14, .goto 15, 3, [], .null),
  (17, .iload_n 1, 1, [], .null),
  (18, .iconst 5, 1, [], .int 5),
  (19, .if_icmp .ne 10, 3, [], .null),
  (22, .aload_n 0, 1, [], .null),
  (23, .ldc 99, 2, [], .ref 4),
  (25, .invokevirtual 95, 3, [156, 1, 1], .null),
  (28, .istore_n 2, 1, [], .null),
  (29, .iload_n 1, 1, [], .null),
  (30, .invokestatic 70, 3, [96, 1], .null),
  (33, .istore_n 3, 1, [], .null),
  (34, .iload_n 2, 1, [], .null),
  (35, .ifCond .ge 15, 3, [], .null),
  (38, .aload_n 0, 1, [], .null),
  (39, .iload_n 3, 1, [], .null),
  (40, .iload_n 1, 1, [], .null),
  (41, .invokestatic 74, 3, [97, 1], .null),
  (44, .invokevirtual 51, 3, [155, 2, 1], .null),
  (47, .goto 6, 3, [], .null),
  (50, .iload_n 3, 1, [], .null),
  (51, .iload_n 2, 1, [], .null),
  (52, .iadd, 1, [], .null),
  (53, .ireturn, 1, [], .null)])
def jp_CR_readUpper : jx_Me := (⟨"JobHouse$CronReader", "readUpper", "(LJobHouse$Text;II)I"⟩, prog_3_method_8_code, 5, (some FieldType.int), [], [
  (0, .aload_n 0, 1, [], .null),
  (1, .getfield 101, 3, [1, 2], .null),
  (4, .istore_n 3, 1, [], .null),
  (5, .aload_n 0, 1, [], .null),
  (6, .iload_n 1, 1, [], .null),
  (7, .invokestatic 77, 3, [116, 2], .null),
  (10, .istore 4, 2, [], .null),
  (12, .iload_n 1, 1, [], .null),
  (13, .bipush 6, 2, [], .int 6),
  (15, .if_icmp .ne 14, 3, [], .null),
  (18, .iload 4, 2, [], .null),
  (20, .iload_n 2, 1, [], .null),
  (21, .if_icmp .ge 8, 3, [], .null),
  (24, .aload_n 0, 1, [], .null),
  (25, .iload_n 3, 1, [], .null),
  (26, .invokevirtual 104, 3, [148, 1, 1], .null),
  (29, .iload 4, 2, [], .null),
  (31, .ireturn, 1, [], .null)])
def jp_CR_takeSign : jx_Me := (⟨"JobHouse$CronReader", "takeSign", "(LJobHouse$Text;LJobHouse$Cron;II)Z"⟩, prog_3_method_9_code, 4, (some FieldType.boolean), [], [
  (0, .iload_n 2, 1, [], .null),
  (1, .iconst 3, 1, [], .int 3),
  (2, .if_icmp .ne 20, 3, [], .null),
  (5, .aload_n 0, 1, [], .null),
  (6, .bipush 87, 2, [], .int 87),
  (8, .invokevirtual 43, 3, [151, 1, 1], .null),
  (11, .ifCond .eq 11, 3, [], .null),
  (14, .aload_n 1, 1, [], .null),
  (15, .iconst 4, 1, [], .int 4),
  (16, .putfield 47, 3, [4, 1, 0, 0], .null),
  (19, .goto 60, 3, [], .null),
  (22, .iload_n 2, 1, [], .null),
  (23, .iconst 5, 1, [], .int 5),
  (24, .if_icmp .ne 20, 3, [], .null),
  (27, .aload_n 0, 1, [], .null),
  (28, .bipush 76, 2, [], .int 76),
  (30, .invokevirtual 43, 3, [151, 1, 1], .null),
  (33, .ifCond .eq 11, 3, [], .null),
  (36, .aload_n 1, 1, [], .null),
  (37, .iconst 5, 1, [], .int 5),
  (38, .putfield 47, 3, [4, 1, 0, 0], .null),
  (41, .goto 38, 3, [], .null),
  (44, .iload_n 2, 1, [], .null),
  (45, .iconst 5, 1, [], .int 5),
  (46, .if_icmp .ne 31, 3, [], .null),
  (49, .aload_n 0, 1, [], .null),
  (50, .bipush 35, 2, [], .int 35),
  (52, .invokevirtual 43, 3, [151, 1, 1], .null),
  (55, .ifCond .eq 22, 3, [], .null),
  (58, .aload_n 1, 1, [], .null),
  (59, .bipush 6, 2, [], .int 6),
  (61, .putfield 47, 3, [4, 1, 0, 0], .null),
  (64, .aload_n 1, 1, [], .null),
  (65, .aload_n 0, 1, [], .null),
  (66, .iconst 1, 1, [], .int 1),
  (67, .iconst 5, 1, [], .int 5),
  (68, .invokevirtual 51, 3, [155, 2, 1], .null),
  (71, .putfield 55, 3, [4, 3, 0, 0], .null),
  (74, .goto 5, 3, [], .null),
  (77, .iconst 0, 1, [], .int 0),
  (78, .ireturn, 1, [], .null),
  (79, .aload_n 1, 1, [], .null),
  (80, .iload_n 3, 1, [], .null),
  (81, .putfield 107, 3, [4, 2, 0, 0], .null),
  (84, .iconst 1, 1, [], .int 1),
  (85, .ireturn, 1, [], .null)])
def jp_CR_addSome : jx_Me := (⟨"JobHouse$CronReader", "addSome", "(LJobHouse$Cron;IIII)V"⟩, prog_3_method_10_code, 11, none, [], [
  (0, .iload_n 1, 1, [], .null),
  (1, .invokestatic 70, 3, [96, 1], .null),
  (4, .istore 5, 2, [], .null),
  (6, .iload_n 1, 1, [], .null),
  (7, .invokestatic 74, 3, [97, 1], .null),
  (10, .istore 6, 2, [], .null),
  (12, .iload 6, 2, [], .null),
  (14, .iload 5, 2, [], .null),
  (16, .isub, 1, [], .null),
  (17, .iconst 1, 1, [], .int 1),
  (18, .iadd, 1, [], .null),
  (19, .istore 7, 2, [], .null),
  (21, .iload_n 3, 1, [], .null),
  (22, .iload_n 2, 1, [], .null),
  (23, .if_icmp .ge 12, 3, [], .null),
  (26, .iload_n 3, 1, [], .null),
  (27, .iload_n 2, 1, [], .null),
  (28, .isub, 1, [], .null),
  (29, .iload 7, 2, [], .null),
  (31, .iadd, 1, [], .null),
  (32, .goto 6, 3, [], .null),
  (35, .iload_n 3, 1, [], .null),
  (36, .iload_n 2, 1, [], .null),
  (37, .isub, 1, [], .null),
  (38, .istore 8, 2, [], .null),
  (40, .iconst 0, 1, [], .int 0),
  (41, .istore 9, 2, [], .null),
  (43, .iload 9, 2, [], .null),
  (45, .iload 8, 2, [], .null),
  (47, .if_icmp .gt 45, 3, [], .null),
  (50, .iload_n 2, 1, [], .null),
  (51, .iload 9, 2, [], .null),
  (53, .iadd, 1, [], .null),
  (54, .istore 10, 2, [], .null),
  (56, .aload_n 0, 1, [], .null),
  (57, .iload_n 1, 1, [], .null),
  (58, .iload 10, 2, [], .null),
  (60, .iload 6, 2, [], .null),
  (62, .if_icmp .le 11, 3, [], .null),
  (65, .iload 10, 2, [], .null),
  (67, .iload 7, 2, [], .null),
  (69, .isub, 1, [], .null),
  (70, .goto 5, 3, [], .null),
  (73, .iload 10, 2, [], .null),
  (75, .invokevirtual 62, 3, [99, 2, 4], .null),
  (78, .iload 9, 2, [], .null),
  (80, .iload 4, 2, [], .null),
  (82, .iconst 1, 1, [], .int 1),
  (83, .invokestatic 110, 3, [190, 2], .null),
  (86, .iadd, 1, [], .null),
  (87, .istore 9, 2, [], .null),
  (89, .goto (-46), 3, [], .null),
  (92, .return_, 1, [], .null)])
def jp_D_firstOfMonth : jx_Me := (⟨"JobHouse$Dates", "firstOfMonth", "(II)I"⟩, prog_4_method_2_code, 5, (some FieldType.int), [], [
  (0, .iload_n 1, 1, [], .null),
  (1, .iconst 2, 1, [], .int 2),
  (2, .if_icmp .le 7, 3, [], .null),
  (5, .iload_n 0, 1, [], .null),
  (6, .goto 6, 3, [], .null),
  (9, .iload_n 0, 1, [], .null),
  (10, .iconst 1, 1, [], .int 1),
  (11, .isub, 1, [], .null),
  (12, .istore_n 2, 1, [], .null),
  (13, .iload_n 1, 1, [], .null),
  (14, .iconst 2, 1, [], .int 2),
  (15, .if_icmp .le 9, 3, [], .null),
  (18, .iload_n 1, 1, [], .null),
  (19, .iconst 3, 1, [], .int 3),
  (20, .isub, 1, [], .null),
  (21, .goto 7, 3, [], .null),
  (24, .iload_n 1, 1, [], .null),
  (25, .bipush 9, 2, [], .int 9),
  (27, .iadd, 1, [], .null),
  (28, .istore_n 3, 1, [], .null),
  (29, .iload_n 2, 1, [], .null),
  (30, .iconst 4, 1, [], .int 4),
  (31, .idiv, 1, [], .null),
  (32, .iload_n 2, 1, [], .null),
  (33, .bipush 100, 2, [], .int 100),
  (35, .idiv, 1, [], .null),
  (36, .isub, 1, [], .null),
  (37, .iload_n 2, 1, [], .null),
  (38, .sipush 400, 3, [], .int 400),
  (41, .idiv, 1, [], .null),
  (42, .iadd, 1, [], .null),
  (43, .istore 4, 2, [], .null),
  (45, .sipush 365, 3, [], .int 365),
  (48, .iload_n 2, 1, [], .null),
  (49, .imul, 1, [], .null),
  (50, .iload 4, 2, [], .null),
  (52, .iadd, 1, [], .null),
  (53, .sipush 153, 3, [], .int 153),
  (56, .iload_n 3, 1, [], .null),
  (57, .imul, 1, [], .null),
  (58, .iconst 2, 1, [], .int 2),
  (59, .iadd, 1, [], .null),
  (60, .iconst 5, 1, [], .int 5),
  (61, .idiv, 1, [], .null),
  (62, .iadd, 1, [], .null),
  (63, .ldc 9, 2, [], .int 719468),
  (65, .isub, 1, [], .null),
  (66, .ireturn, 1, [], .null)])
def jp_D_monthLength : jx_Me := (⟨"JobHouse$Dates", "monthLength", "(II)I"⟩, prog_4_method_3_code, 3, (some FieldType.int), [], [
  (0, .iload_n 1, 1, [], .null),
  (1, .iconst 2, 1, [], .int 2),
  (2, .if_icmp .ne 42, 3, [], .null),
  (5, .iload_n 0, 1, [], .null),
  (6, .iconst 4, 1, [], .int 4),
  (7, .irem, 1, [], .null),
  (8, .ifCond .ne 22, 3, [], .null),
  (11, .iload_n 0, 1, [], .null),
  (12, .bipush 100, 2, [], .int 100),
  (14, .irem, 1, [], .null),
  (15, .ifCond .ne 11, 3, [], .null),
  (18, .iload_n 0, 1, [], .null),
  (19, .sipush 400, 3, [], .int 400),
  (22, .irem, 1, [], .null),
  (23, .ifCond .ne 7, 3, [], .null),
  (26, .iconst 1, 1, [], .int 1),
  (27, .goto 4, 3, [], .null),
  (30, .iconst 0, 1, [], .int 0),
  (31, .istore_n 2, 1, [], .null),
  (32, .iload_n 2, 1, [], .null),
  (33, .ifCond .eq 8, 3, [], .null),
  (36, .bipush 29, 2, [], .int 29),
  (38, .goto 5, 3, [], .null),
  (41, .bipush 28, 2, [], .int 28),
  (43, .ireturn, 1, [], .null),
  (44, .iload_n 1, 1, [], .null),
  (45, .iconst 4, 1, [], .int 4),
  (46, .if_icmp .eq 21, 3, [], .null),
  (49, .iload_n 1, 1, [], .null),
  (50, .bipush 6, 2, [], .int 6),
  (52, .if_icmp .eq 15, 3, [], .null),
  (55, .iload_n 1, 1, [], .null),
  (56, .bipush 9, 2, [], .int 9),
  (58, .if_icmp .eq 9, 3, [], .null),
  (61, .iload_n 1, 1, [], .null),
  (62, .bipush 11, 2, [], .int 11),
  (64, .if_icmp .ne 7, 3, [], .null),
  (67, .iconst 1, 1, [], .int 1),
  (68, .goto 4, 3, [], .null),
  (71, .iconst 0, 1, [], .int 0),
  (72, .istore_n 2, 1, [], .null),
  (73, .iload_n 2, 1, [], .null),
  (74, .ifCond .eq 8, 3, [], .null),
  (77, .bipush 30, 2, [], .int 30),
  (79, .goto 5, 3, [], .null),
  (82, .bipush 31, 2, [], .int 31),
  (84, .ireturn, 1, [], .null)])
def jp_D_dayOf : jx_Me := (⟨"JobHouse$Dates", "dayOf", "(J)I"⟩, prog_4_method_4_code, 2, (some FieldType.int), [], [
  (0, .lload_n 0, 1, [], .null),
  (1, .ldc2_w 10, 3, [], .long 86400),
  (4, .invokestatic 12, 3, [187, 2], .null),
  (7, .l2i, 1, [], .null),
  (8, .ireturn, 1, [], .null)])
def jp_D_yearOf : jx_Me := (⟨"JobHouse$Dates", "yearOf", "(I)I"⟩, prog_4_method_5_code, 2, (some FieldType.int), [], [
  (0, .sipush 1970, 3, [], .int 1970),
  (3, .iload_n 0, 1, [], .null),
  (4, .sipush 400, 3, [], .int 400),
  (7, .imul, 1, [], .null),
  (8, .ldc 18, 2, [], .int 146097),
  (10, .invokestatic 19, 3, [186, 2], .null),
  (13, .iadd, 1, [], .null),
  (14, .istore_n 1, 1, [], .null),
  (15, .iload_n 1, 1, [], .null),
  (16, .iconst 1, 1, [], .int 1),
  (17, .invokestatic 22, 3, [120, 2], .null),
  (20, .iload_n 0, 1, [], .null),
  (21, .if_icmp .le 7, 3, [], .null),
  (24, .iload_n 1, 1, [], .null),
  (25, .iconst 1, 1, [], .int 1),
  (26, .isub, 1, [], .null),
  (27, .ireturn, 1, [], .null),
  (28, .iload_n 1, 1, [], .null),
  (29, .iconst 1, 1, [], .int 1),
  (30, .iadd, 1, [], .null),
  (31, .iconst 1, 1, [], .int 1),
  (32, .invokestatic 22, 3, [120, 2], .null),
  (35, .iload_n 0, 1, [], .null),
  (36, .if_icmp .gt 9, 3, [], .null),
  (39, .iload_n 1, 1, [], .null),
  (40, .iconst 1, 1, [], .int 1),
  (41, .iadd, 1, [], .null),
  (42, .goto 4, 3, [], .null),
  (45, .iload_n 1, 1, [], .null),
  (46, .ireturn, 1, [], .null)])
def jp_D_monthOf : jx_Me := (⟨"JobHouse$Dates", "monthOf", "(II)I"⟩, prog_4_method_6_code, 3, (some FieldType.int), [], [
  (0, .iload_n 0, 1, [], .null),
  (1, .iload_n 1, 1, [], .null),
  (2, .iconst 1, 1, [], .int 1),
  (3, .invokestatic 22, 3, [120, 2], .null),
  (6, .isub, 1, [], .null),
  (7, .bipush 31, 2, [], .int 31),
  (9, .idiv, 1, [], .null),
  (10, .iconst 1, 1, [], .int 1),
  (11, .iadd, 1, [], .null),
  (12, .istore_n 2, 1, [], .null),
  (13, .iload_n 2, 1, [], .null),
  (14, .bipush 12, 2, [], .int 12),
  (16, .if_icmp .ge 20, 3, [], .null),
  (19, .iload_n 1, 1, [], .null),
  (20, .iload_n 2, 1, [], .null),
  (21, .iconst 1, 1, [], .int 1),
  (22, .iadd, 1, [], .null),
  (23, .invokestatic 22, 3, [120, 2], .null),
  (26, .iload_n 0, 1, [], .null),
  (27, .if_icmp .gt 9, 3, [], .null),
  (30, .iload_n 2, 1, [], .null),
  (31, .iconst 1, 1, [], .int 1),
  (32, .iadd, 1, [], .null),
  (33, .goto 4, 3, [], .null),
  (36, .iload_n 2, 1, [], .null),
  (37, .ireturn, 1, [], .null)])
def jp_D_weekdayOf : jx_Me := (⟨"JobHouse$Dates", "weekdayOf", "(I)I"⟩, prog_4_method_7_code, 1, (some FieldType.int), [], [
  (0, .iload_n 0, 1, [], .null),
  (1, .iconst 4, 1, [], .int 4),
  (2, .iadd, 1, [], .null),
  (3, .bipush 7, 2, [], .int 7),
  (5, .irem, 1, [], .null),
  (6, .iconst 1, 1, [], .int 1),
  (7, .iadd, 1, [], .null),
  (8, .ireturn, 1, [], .null)])
def jp_F_init : jx_Me := (⟨"JobHouse$Fires", "<init>", "()V"⟩, prog_5_method_1_code, 1, none, [], [
  (0, .aload_n 0, 1, [], .null),
  (1, .invokespecial 3, 3, [9003, 0], .null),
  (4, .aload_n 0, 1, [], .null),
  (5, .new 9, 3, [4], .null),
  (8, .dup, 1, [], .null),
  (9, .invokespecial 11, 3, [95, 0], .null),
  (12, .putfield 12, 3, [6, 0, 4, 0], .null),
  (15, .aload_n 0, 1, [], .null),
  (16, .new 18, 3, [2], .null),
  (19, .dup, 1, [], .null),
  (20, .invokespecial 20, 3, [163, 0], .null),
  (23, .putfield 21, 3, [6, 1, 4, 0], .null),
  (26, .aload_n 0, 1, [], .null),
  (27, .new 25, 3, [5], .null),
  (30, .dup, 1, [], .null),
  (31, .iconst 0, 1, [], .int 0),
  (32, .invokespecial 27, 3, [135, 1], .null),
  (35, .putfield 30, 3, [6, 2, 4, 0], .null),
  (38, .return_, 1, [], .null)])
def jp_F_firstAfter : jx_Me := (⟨"JobHouse$Fires", "firstAfter", "(J)J"⟩, prog_5_method_2_code, 10, (some FieldType.long), [], [
  (0, .lload_n 1, 1, [], .null),
  (1, .ldc2_w 34, 3, [], .long 1000),
  (4, .ldiv, 1, [], .null),
  (5, .lconst 1, 1, [], .long 1),
  (6, .ladd, 1, [], .null),
  (7, .lstore_n 3, 1, [], .null),
  (8, .iconst 0, 1, [], .int 0),
  (9, .istore 5, 2, [], .null),
  (11, .iload 5, 2, [], .null),
  (13, .sipush 10000, 3, [], .int 10000),
  (16, .if_icmp .ge 201, 3, [], .null),
  (19, .lload_n 3, 1, [], .null),
  (20, .ldc2_w 36, 3, [], .long 10413791999),
  (23, .lcmp, 1, [], .null),
  (24, .ifCond .gt 193, 3, [], .null),
  (27, .lload_n 3, 1, [], .null),
  (28, .aload_n 0, 1, [], .null),
  (29, .getfield 21, 3, [6, 1], .null),
  (32, .lload_n 3, 1, [], .null),
  (33, .invokevirtual 38, 3, [165, 1, 2], .null),
  (36, .i2l, 1, [], .null),
  (37, .ladd, 1, [], .null),
  (38, .lstore 6, 2, [], .null),
  (40, .aload_n 0, 1, [], .null),
  (41, .lload 6, 2, [], .null),
  (43, .invokevirtual 42, 3, [129, 1, 6], .null),
  (46, .lstore 8, 2, [], .null),
  (48, .lload 8, 2, [], .null),
  (50, .lconst 0, 1, [], .long 0),
  (51, .lcmp, 1, [], .null),
  (52, .ifCond .lt 65, 3, [], .null),
  (55, .lload 8, 2, [], .null),
  (57, .aload_n 0, 1, [], .null),
  (58, .getfield 21, 3, [6, 1], .null),
  (61, .getfield 46, 3, [2, 6], .null),
  (64, .i2l, 1, [], .null),
  (65, .lsub, 1, [], .null),
  (66, .aload_n 0, 1, [], .null),
  (67, .getfield 21, 3, [6, 1], .null),
  (70, .getfield 50, 3, [2, 5], .null),
  (73, .lcmp, 1, [], .null),
  (74, .ifCond .ge 43, 3, [], .null),
  (77, .lload 8, 2, [], .null),
  (79, .aload_n 0, 1, [], .null),
  (80, .getfield 21, 3, [6, 1], .null),
  (83, .getfield 46, 3, [2, 6], .null),
  (86, .i2l, 1, [], .null),
  (87, .lsub, 1, [], .null),
  (88, .ldc2_w 36, 3, [], .long 10413791999),
  (91, .lcmp, 1, [], .null),
  (92, .ifCond .le 9, 3, [], .null),
  (95, .ldc2_w 54, 3, [], .long (-1)),
  (98, .goto 18, 3, [], .null),
  (101, .lload 8, 2, [], .null),
  (103, .aload_n 0, 1, [], .null),
  (104, .getfield 21, 3, [6, 1], .null),
  (107, .getfield 46, 3, [2, 6], .null),
  (110, .i2l, 1, [], .null),
  (111, .lsub, 1, [], .null),
  (112, .ldc2_w 34, 3, [], .long 1000),
  (115, .lmul, 1, [], .null),
  (116, .lreturn, 1, [], .null),
  (117, .aload_n 0, 1, [], .null),
  (118, .getfield 21, 3, [6, 1], .null),
  (121, .getfield 50, 3, [2, 5], .null),
  (124, .ldc2_w 36, 3, [], .long 10413791999),
  (127, .lcmp, 1, [], .null),
  (128, .ifCond .le 7, 3, [], .null),
  (131, .ldc2_w 54, 3, [], .long (-1)),
  (134, .lreturn, 1, [], .null),
  (135, .aload_n 0, 1, [], .null),
  (136, .getfield 21, 3, [6, 1], .null),
  (139, .getfield 50, 3, [2, 5], .null),
  (142, .lstore_n 3, 1, [], .null),
  (143, .lload_n 3, 1, [], .null),
  (144, .aload_n 0, 1, [], .null),
  (145, .getfield 21, 3, [6, 1], .null),
  (148, .getfield 56, 3, [2, 0], .null),
  (151, .i2l, 1, [], .null),
  (152, .ladd, 1, [], .null),
  (153, .lload 6, 2, [], .null),
  (155, .lcmp, 1, [], .null),
  (156, .ifCond .ge 19, 3, [], .null),
  (159, .aload_n 0, 1, [], .null),
  (160, .lload_n 3, 1, [], .null),
  (161, .aload_n 0, 1, [], .null),
  (162, .getfield 21, 3, [6, 1], .null),
  (165, .getfield 56, 3, [2, 0], .null),
  (168, .i2l, 1, [], .null),
  (169, .ladd, 1, [], .null),
  (170, .invokevirtual 42, 3, [129, 1, 6], .null),
  (173, .lstore 8, 2, [], .null),
  (175, .lload 8, 2, [], .null),
  (177, .lconst 0, 1, [], .long 0),
  (178, .lcmp, 1, [], .null),
  (179, .ifCond .ge 7, 3, [], .null),
  (182, .ldc2_w 54, 3, [], .long (-1)),
  (185, .lreturn, 1, [], .null),
  (186, .lload_n 3, 1, [], .null),
  (187, .lload 8, 2, [], .null),
  (189, .aload_n 0, 1, [], .null),
  (190, .getfield 21, 3, [6, 1], .null),
  (193, .getfield 56, 3, [2, 0], .null),
  (196, .i2l, 1, [], .null),
  (197, .lsub, 1, [], .null),
  (198, .aload_n 0, 1, [], .null),
  (199, .getfield 21, 3, [6, 1], .null),
  (202, .getfield 59, 3, [2, 1], .null),
  (205, .i2l, 1, [], .null),
  (206, .lsub, 1, [], .null),
  (207, .invokestatic 62, 3, [191, 2], .null),
  (210, .lstore_n 3, 1, [], .null),
  (211, .iinc 5 1, 3, [], .null),
  (214, .goto (-203), 3, [], .null),
  (217, .ldc2_w 54, 3, [], .long (-1)),
  (220, .lreturn, 1, [], .null)])
def jp_F_latestUpTo : jx_Me := (⟨"JobHouse$Fires", "latestUpTo", "(J)J"⟩, prog_5_method_3_code, 10, (some FieldType.long), [], [
  (0, .lload_n 1, 1, [], .null),
  (1, .ldc2_w 34, 3, [], .long 1000),
  (4, .ldiv, 1, [], .null),
  (5, .lstore_n 3, 1, [], .null),
  (6, .iconst 0, 1, [], .int 0),
  (7, .istore 5, 2, [], .null),
  (9, .iload 5, 2, [], .null),
  (11, .sipush 10000, 3, [], .int 10000),
  (14, .if_icmp .ge 188, 3, [], .null),
  (17, .lload_n 3, 1, [], .null),
  (18, .lconst 0, 1, [], .long 0),
  (19, .lcmp, 1, [], .null),
  (20, .ifCond .lt 182, 3, [], .null),
  (23, .lload_n 3, 1, [], .null),
  (24, .aload_n 0, 1, [], .null),
  (25, .getfield 21, 3, [6, 1], .null),
  (28, .lload_n 3, 1, [], .null),
  (29, .invokevirtual 38, 3, [165, 1, 2], .null),
  (32, .i2l, 1, [], .null),
  (33, .ladd, 1, [], .null),
  (34, .lstore 6, 2, [], .null),
  (36, .aload_n 0, 1, [], .null),
  (37, .lload 6, 2, [], .null),
  (39, .invokevirtual 68, 3, [130, 1, 6], .null),
  (42, .lstore 8, 2, [], .null),
  (44, .lload 8, 2, [], .null),
  (46, .lconst 0, 1, [], .long 0),
  (47, .lcmp, 1, [], .null),
  (48, .ifCond .lt 45, 3, [], .null),
  (51, .lload 8, 2, [], .null),
  (53, .aload_n 0, 1, [], .null),
  (54, .getfield 21, 3, [6, 1], .null),
  (57, .getfield 46, 3, [2, 6], .null),
  (60, .i2l, 1, [], .null),
  (61, .lsub, 1, [], .null),
  (62, .aload_n 0, 1, [], .null),
  (63, .getfield 21, 3, [6, 1], .null),
  (66, .getfield 71, 3, [2, 4], .null),
  (69, .lconst 0, 1, [], .long 0),
  (70, .invokestatic 62, 3, [191, 2], .null),
  (73, .lcmp, 1, [], .null),
  (74, .ifCond .lt 19, 3, [], .null),
  (77, .lload 8, 2, [], .null),
  (79, .aload_n 0, 1, [], .null),
  (80, .getfield 21, 3, [6, 1], .null),
  (83, .getfield 46, 3, [2, 6], .null),
  (86, .i2l, 1, [], .null),
  (87, .lsub, 1, [], .null),
  (88, .ldc2_w 34, 3, [], .long 1000),
  (91, .lmul, 1, [], .null),
  (92, .lreturn, 1, [], .null),
  (93, .aload_n 0, 1, [], .null),
  (94, .getfield 21, 3, [6, 1], .null),
  (97, .getfield 71, 3, [2, 4], .null),
  (100, .lconst 0, 1, [], .long 0),
  (101, .lcmp, 1, [], .null),
  (102, .ifCond .gt 7, 3, [], .null),
  (105, .ldc2_w 54, 3, [], .long (-1)),
  (108, .lreturn, 1, [], .null),
  (109, .aload_n 0, 1, [], .null),
  (110, .getfield 21, 3, [6, 1], .null),
  (113, .getfield 71, 3, [2, 4], .null),
  (116, .lconst 1, 1, [], .long 1),
  (117, .lsub, 1, [], .null),
  (118, .lstore_n 3, 1, [], .null),
  (119, .lload_n 3, 1, [], .null),
  (120, .aload_n 0, 1, [], .null),
  (121, .getfield 21, 3, [6, 1], .null),
  (124, .getfield 56, 3, [2, 0], .null),
  (127, .i2l, 1, [], .null),
  (128, .ladd, 1, [], .null),
  (129, .aload_n 0, 1, [], .null),
  (130, .getfield 21, 3, [6, 1], .null),
  (133, .getfield 59, 3, [2, 1], .null),
  (136, .i2l, 1, [], .null),
  (137, .ladd, 1, [], .null),
  (138, .lload 6, 2, [], .null),
  (140, .lcmp, 1, [], .null),
  (141, .ifCond .le 28, 3, [], .null),
  (144, .aload_n 0, 1, [], .null),
  (145, .lload_n 3, 1, [], .null),
  (146, .aload_n 0, 1, [], .null),
  (147, .getfield 21, 3, [6, 1], .null),
  (150, .getfield 56, 3, [2, 0], .null),
  (153, .i2l, 1, [], .null),
  (154, .ladd, 1, [], .null),
  (155, .aload_n 0, 1, [], .null),
  (156, .getfield 21, 3, [6, 1], .null),
  (159, .getfield 59, 3, [2, 1], .null),
  (162, .i2l, 1, [], .null),
  (163, .ladd, 1, [], .null),
  (164, .invokevirtual 68, 3, [130, 1, 6], .null),
  (167, .lstore 8, 2, [], .null),
  (169, .lload 8, 2, [], .null),
  (171, .lconst 0, 1, [], .long 0),
  (172, .lcmp, 1, [], .null),
  (173, .ifCond .ge 7, 3, [], .null),
  (176, .ldc2_w 54, 3, [], .long (-1)),
  (179, .lreturn, 1, [], .null),
  (180, .lload_n 3, 1, [], .null),
  (181, .lload 8, 2, [], .null),
  (183, .aload_n 0, 1, [], .null),
  (184, .getfield 21, 3, [6, 1], .null),
  (187, .getfield 56, 3, [2, 0], .null),
  (190, .i2l, 1, [], .null),
  (191, .lsub, 1, [], .null),
  (192, .invokestatic 74, 3, [193, 2], .null),
  (195, .lstore_n 3, 1, [], .null),
  (196, .iinc 5 1, 3, [], .null),
  (199, .goto (-190), 3, [], .null),
  (202, .ldc2_w 54, 3, [], .long (-1)),
  (205, .lreturn, 1, [], .null)])
def jp_F_localFrom : jx_Me := (⟨"JobHouse$Fires", "localFrom", "(J)J"⟩, prog_5_method_4_code, 6, (some FieldType.long), [], [
  (0, .lload_n 1, 1, [], .null),
  (1, .invokestatic 77, 3, [122, 1], .null),
  (4, .istore_n 3, 1, [], .null),
  (5, .aload_n 0, 1, [], .null),
  (6, .iload_n 3, 1, [], .null),
  (7, .invokevirtual 82, 3, [131, 1, 6], .null),
  (10, .istore 4, 2, [], .null),
  (12, .iconst (-1), 1, [], .int (-1)),
  (13, .istore 5, 2, [], .null),
  (15, .iload 4, 2, [], .null),
  (17, .iload_n 3, 1, [], .null),
  (18, .if_icmp .ne 39, 3, [], .null),
  (21, .aload_n 0, 1, [], .null),
  (22, .getfield 12, 3, [6, 0], .null),
  (25, .lload_n 1, 1, [], .null),
  (26, .iload_n 3, 1, [], .null),
  (27, .i2l, 1, [], .null),
  (28, .ldc2_w 86, 3, [], .long 86400),
  (31, .lmul, 1, [], .null),
  (32, .lsub, 1, [], .null),
  (33, .l2i, 1, [], .null),
  (34, .invokevirtual 88, 3, [107, 1, 4], .null),
  (37, .istore 5, 2, [], .null),
  (39, .iload 5, 2, [], .null),
  (41, .ifCond .ge 13, 3, [], .null),
  (44, .aload_n 0, 1, [], .null),
  (45, .iload_n 3, 1, [], .null),
  (46, .iconst 1, 1, [], .int 1),
  (47, .iadd, 1, [], .null),
  (48, .invokevirtual 82, 3, [131, 1, 6], .null),
  (51, .goto 4, 3, [], .null),
  (54, .iload_n 3, 1, [], .null),
  (55, .istore 4, 2, [], .null),
  (57, .iload 4, 2, [], .null),
  (59, .ifCond .ge 7, 3, [], .null),
  (62, .ldc2_w 54, 3, [], .long (-1)),
  (65, .lreturn, 1, [], .null),
  (66, .iload 4, 2, [], .null),
  (68, .i2l, 1, [], .null),
  (69, .ldc2_w 86, 3, [], .long 86400),
  (72, .lmul, 1, [], .null),
  (73, .iload 5, 2, [], .null),
  (75, .ifCond .ge 14, 3, [], .null),
  (78, .aload_n 0, 1, [], .null),
  (79, .getfield 12, 3, [6, 0], .null),
  (82, .iconst 0, 1, [], .int 0),
  (83, .invokevirtual 88, 3, [107, 1, 4], .null),
  (86, .goto 5, 3, [], .null),
  (89, .iload 5, 2, [], .null),
  (91, .i2l, 1, [], .null),
  (92, .ladd, 1, [], .null),
  (93, .lreturn, 1, [], .null)])
def jp_F_localUpTo : jx_Me := (⟨"JobHouse$Fires", "localUpTo", "(J)J"⟩, prog_5_method_5_code, 7, (some FieldType.long), [], [
  (0, .lload_n 1, 1, [], .null),
  (1, .invokestatic 77, 3, [122, 1], .null),
  (4, .istore_n 3, 1, [], .null),
  (5, .aload_n 0, 1, [], .null),
  (6, .iload_n 3, 1, [], .null),
  (7, .invokevirtual 91, 3, [132, 1, 6], .null),
  (10, .istore 4, 2, [], .null),
  (12, .iconst (-1), 1, [], .int (-1)),
  (13, .istore 5, 2, [], .null),
  (15, .iload 4, 2, [], .null),
  (17, .iload_n 3, 1, [], .null),
  (18, .if_icmp .ne 39, 3, [], .null),
  (21, .aload_n 0, 1, [], .null),
  (22, .getfield 12, 3, [6, 0], .null),
  (25, .lload_n 1, 1, [], .null),
  (26, .iload_n 3, 1, [], .null),
  (27, .i2l, 1, [], .null),
  (28, .ldc2_w 86, 3, [], .long 86400),
  (31, .lmul, 1, [], .null),
  (32, .lsub, 1, [], .null),
  (33, .l2i, 1, [], .null),
  (34, .invokevirtual 94, 3, [108, 1, 4], .null),
  (37, .istore 5, 2, [], .null),
  (39, .iload 5, 2, [], .null),
  (41, .ifCond .ge 13, 3, [], .null),
  (44, .aload_n 0, 1, [], .null),
  (45, .iload_n 3, 1, [], .null),
  (46, .iconst 1, 1, [], .int 1),
  (47, .isub, 1, [], .null),
  (48, .invokevirtual 91, 3, [132, 1, 6], .null),
  (51, .goto 4, 3, [], .null),
  (54, .iload_n 3, 1, [], .null),
  (55, .istore 4, 2, [], .null),
  (57, .iload 4, 2, [], .null),
  (59, .ifCond .ge 7, 3, [], .null),
  (62, .ldc2_w 54, 3, [], .long (-1)),
  (65, .lreturn, 1, [], .null),
  (66, .iload 5, 2, [], .null),
  (68, .ifCond .ge 15, 3, [], .null),
  (71, .aload_n 0, 1, [], .null),
  (72, .getfield 12, 3, [6, 0], .null),
  (75, .ldc 97, 2, [], .int 86399),
  (77, .invokevirtual 94, 3, [108, 1, 4], .null),
  (80, .goto 5, 3, [], .null),
  (83, .iload 5, 2, [], .null),
  (85, .istore 6, 2, [], .null),
  (87, .iload 4, 2, [], .null),
  (89, .i2l, 1, [], .null),
  (90, .ldc2_w 86, 3, [], .long 86400),
  (93, .lmul, 1, [], .null),
  (94, .iload 6, 2, [], .null),
  (96, .i2l, 1, [], .null),
  (97, .ladd, 1, [], .null),
  (98, .lreturn, 1, [], .null)])
def jp_F_dayFrom : jx_Me := (⟨"JobHouse$Fires", "dayFrom", "(I)I"⟩, prog_5_method_6_code, 9, (some FieldType.int), [], [
  (0, .iload_n 1, 1, [], .null),
  (1, .iconst 0, 1, [], .int 0),
  (2, .invokestatic 98, 3, [190, 2], .null),
  (5, .istore_n 2, 1, [], .null),
  (6, .iload_n 2, 1, [], .null),
  (7, .invokestatic 101, 3, [123, 1], .null),
  (10, .istore_n 3, 1, [], .null),
  (11, .iload_n 2, 1, [], .null),
  (12, .iload_n 3, 1, [], .null),
  (13, .invokestatic 104, 3, [124, 2], .null),
  (16, .istore 4, 2, [], .null),
  (18, .iload_n 2, 1, [], .null),
  (19, .iload_n 3, 1, [], .null),
  (20, .iload 4, 2, [], .null),
  (22, .invokestatic 107, 3, [120, 2], .null),
  (25, .isub, 1, [], .null),
  (26, .iconst 1, 1, [], .int 1),
  (27, .iadd, 1, [], .null),
  (28, .istore 5, 2, [], .null),
  (30, .iload_n 3, 1, [], .null),
  (31, .istore 6, 2, [], .null),
  (33, .iload 6, 2, [], .null),
  (35, .sipush 2299, 3, [], .int 2299),
  (38, .if_icmp .gt 83, 3, [], .null),
  (41, .aload_n 0, 1, [], .null),
  (42, .getfield 12, 3, [6, 0], .null),
  (45, .iload 6, 2, [], .null),
  (47, .invokevirtual 110, 3, [101, 1, 4], .null),
  (50, .ifCond .eq 59, 3, [], .null),
  (53, .iload 4, 2, [], .null),
  (55, .istore 7, 2, [], .null),
  (57, .iload 7, 2, [], .null),
  (59, .bipush 12, 2, [], .int 12),
  (61, .if_icmp .gt 48, 3, [], .null),
  (64, .aload_n 0, 1, [], .null),
  (65, .getfield 12, 3, [6, 0], .null),
  (68, .iload 7, 2, [], .null),
  (70, .invokevirtual 114, 3, [100, 1, 4], .null),
  (73, .ifCond .eq 16, 3, [], .null),
  (76, .aload_n 0, 1, [], .null),
  (77, .iload 6, 2, [], .null),
  (79, .iload 7, 2, [], .null),
  (81, .iload 5, 2, [], .null),
  (83, .invokevirtual 117, 3, [133, 3, 6], .null),
  (86, .goto 4, 3, [], .null),
  (89, .iconst (-1), 1, [], .int (-1)),
  (90, .istore 8, 2, [], .null),
  (92, .iload 8, 2, [], .null),
  (94, .ifCond .lt 6, 3, [], .null),
  (97, .iload 8, 2, [], .null),
  (99, .ireturn, 1, [], .null),
  (100, .iconst 1, 1, [], .int 1),
  (101, .istore 5, 2, [], .null),
  (103, .iinc 7 1, 3, [], .null),
  (106, .goto (-49), 3, [], .null),
  (109, .iconst 1, 1, [], .int 1),
  (110, .istore 4, 2, [], .null),
  (112, .iconst 1, 1, [], .int 1),
  (113, .istore 5, 2, [], .null),
  (115, .iinc 6 1, 3, [], .null),
  (118, .goto (-85), 3, [], .null),
  (121, .iconst (-1), 1, [], .int (-1)),
  (122, .ireturn, 1, [], .null)])
def jp_F_dayUpTo : jx_Me := (⟨"JobHouse$Fires", "dayUpTo", "(I)I"⟩, prog_5_method_7_code, 9, (some FieldType.int), [], [
  (0, .iload_n 1, 1, [], .null),
  (1, .ldc 121, 2, [], .int 120529),
  (3, .invokestatic 122, 3, [192, 2], .null),
  (6, .istore_n 2, 1, [], .null),
  (7, .iload_n 2, 1, [], .null),
  (8, .invokestatic 101, 3, [123, 1], .null),
  (11, .istore_n 3, 1, [], .null),
  (12, .iload_n 2, 1, [], .null),
  (13, .iload_n 3, 1, [], .null),
  (14, .invokestatic 104, 3, [124, 2], .null),
  (17, .istore 4, 2, [], .null),
  (19, .iload_n 2, 1, [], .null),
  (20, .iload_n 3, 1, [], .null),
  (21, .iload 4, 2, [], .null),
  (23, .invokestatic 107, 3, [120, 2], .null),
  (26, .isub, 1, [], .null),
  (27, .iconst 1, 1, [], .int 1),
  (28, .iadd, 1, [], .null),
  (29, .istore 5, 2, [], .null),
  (31, .iload_n 3, 1, [], .null),
  (32, .istore 6, 2, [], .null),
  (34, .iload 6, 2, [], .null),
  (36, .sipush 1970, 3, [], .int 1970),
  (39, .if_icmp .lt 85, 3, [], .null),
  (42, .aload_n 0, 1, [], .null),
  (43, .getfield 12, 3, [6, 0], .null),
  (46, .iload 6, 2, [], .null),
  (48, .invokevirtual 110, 3, [101, 1, 4], .null),
  (51, .ifCond .eq 59, 3, [], .null),
  (54, .iload 4, 2, [], .null),
  (56, .istore 7, 2, [], .null),
  (58, .iload 7, 2, [], .null),
  (60, .iconst 1, 1, [], .int 1),
  (61, .if_icmp .lt 49, 3, [], .null),
  (64, .aload_n 0, 1, [], .null),
  (65, .getfield 12, 3, [6, 0], .null),
  (68, .iload 7, 2, [], .null),
  (70, .invokevirtual 114, 3, [100, 1, 4], .null),
  (73, .ifCond .eq 16, 3, [], .null),
  (76, .aload_n 0, 1, [], .null),
  (77, .iload 6, 2, [], .null),
  (79, .iload 7, 2, [], .null),
  (81, .iload 5, 2, [], .null),
  (83, .invokevirtual 124, 3, [134, 3, 6], .null),
  (86, .goto 4, 3, [], .null),
  (89, .iconst (-1), 1, [], .int (-1)),
  (90, .istore 8, 2, [], .null),
  (92, .iload 8, 2, [], .null),
  (94, .ifCond .lt 6, 3, [], .null),
  (97, .iload 8, 2, [], .null),
  (99, .ireturn, 1, [], .null),
  (100, .bipush 31, 2, [], .int 31),
  (102, .istore 5, 2, [], .null),
  (104, .iinc 7 (-1), 3, [], .null),
  (107, .goto (-49), 3, [], .null),
  (110, .bipush 12, 2, [], .int 12),
  (112, .istore 4, 2, [], .null),
  (114, .bipush 31, 2, [], .int 31),
  (116, .istore 5, 2, [], .null),
  (118, .iinc 6 (-1), 3, [], .null),
  (121, .goto (-87), 3, [], .null),
  (124, .iconst (-1), 1, [], .int (-1)),
  (125, .ireturn, 1, [], .null)])
def jp_F_dateFrom : jx_Me := (⟨"JobHouse$Fires", "dateFrom", "(III)I"⟩, prog_5_method_8_code, 10, (some FieldType.int), [], [
  (0, .iload_n 1, 1, [], .null),
  (1, .iload_n 2, 1, [], .null),
  (2, .invokestatic 107, 3, [120, 2], .null),
  (5, .istore 4, 2, [], .null),
  (7, .aload_n 0, 1, [], .null),
  (8, .getfield 12, 3, [6, 0], .null),
  (11, .iload_n 1, 1, [], .null),
  (12, .iload_n 2, 1, [], .null),
  (13, .invokestatic 127, 3, [121, 2], .null),
  (16, .iload 4, 2, [], .null),
  (18, .invokestatic 130, 3, [125, 1], .null),
  (21, .invokevirtual 133, 3, [102, 2, 4], .null),
  (24, .lstore 5, 2, [], .null),
  (26, .iload_n 3, 1, [], .null),
  (27, .istore 7, 2, [], .null),
  (29, .iconst 0, 1, [], .int 0),
  (30, .istore 8, 2, [], .null),
  (32, .iload 8, 2, [], .null),
  (34, .bipush 31, 2, [], .int 31),
  (36, .if_icmp .ge 56, 3, [], .null),
  (39, .lload 5, 2, [], .null),
  (41, .iload 7, 2, [], .null),
  (43, .invokestatic 137, 3, [109, 2], .null),
  (46, .istore 9, 2, [], .null),
  (48, .iload 9, 2, [], .null),
  (50, .ifCond .ge 5, 3, [], .null),
  (53, .iconst (-1), 1, [], .int (-1)),
  (54, .ireturn, 1, [], .null),
  (55, .aload_n 0, 1, [], .null),
  (56, .getfield 30, 3, [6, 2], .null),
  (59, .iload 4, 2, [], .null),
  (61, .iload 9, 2, [], .null),
  (63, .iadd, 1, [], .null),
  (64, .iconst 1, 1, [], .int 1),
  (65, .isub, 1, [], .null),
  (66, .invokevirtual 141, 3, [136, 1, 5], .null),
  (69, .ifCond .ge 11, 3, [], .null),
  (72, .iload 4, 2, [], .null),
  (74, .iload 9, 2, [], .null),
  (76, .iadd, 1, [], .null),
  (77, .iconst 1, 1, [], .int 1),
  (78, .isub, 1, [], .null),
  (79, .ireturn, 1, [], .null),
  (80, .iload 9, 2, [], .null),
  (82, .iconst 1, 1, [], .int 1),
  (83, .iadd, 1, [], .null),
  (84, .istore 7, 2, [], .null),
  (86, .iinc 8 1, 3, [], .null),
  (89, .goto (-57), 3, [], .null),
  (92, .iconst (-1), 1, [], .int (-1)),
  (93, .ireturn, 1, [], .null)])
def jp_F_dateUpTo : jx_Me := (⟨"JobHouse$Fires", "dateUpTo", "(III)I"⟩, prog_5_method_9_code, 10, (some FieldType.int), [], [
  (0, .iload_n 1, 1, [], .null),
  (1, .iload_n 2, 1, [], .null),
  (2, .invokestatic 107, 3, [120, 2], .null),
  (5, .istore 4, 2, [], .null),
  (7, .aload_n 0, 1, [], .null),
  (8, .getfield 12, 3, [6, 0], .null),
  (11, .iload_n 1, 1, [], .null),
  (12, .iload_n 2, 1, [], .null),
  (13, .invokestatic 127, 3, [121, 2], .null),
  (16, .iload 4, 2, [], .null),
  (18, .invokestatic 130, 3, [125, 1], .null),
  (21, .invokevirtual 133, 3, [102, 2, 4], .null),
  (24, .lstore 5, 2, [], .null),
  (26, .iload_n 3, 1, [], .null),
  (27, .istore 7, 2, [], .null),
  (29, .iconst 0, 1, [], .int 0),
  (30, .istore 8, 2, [], .null),
  (32, .iload 8, 2, [], .null),
  (34, .bipush 31, 2, [], .int 31),
  (36, .if_icmp .ge 56, 3, [], .null),
  (39, .lload 5, 2, [], .null),
  (41, .iload 7, 2, [], .null),
  (43, .invokestatic 144, 3, [110, 2], .null),
  (46, .istore 9, 2, [], .null),
  (48, .iload 9, 2, [], .null),
  (50, .ifCond .ge 5, 3, [], .null),
  (53, .iconst (-1), 1, [], .int (-1)),
  (54, .ireturn, 1, [], .null),
  (55, .aload_n 0, 1, [], .null),
  (56, .getfield 30, 3, [6, 2], .null),
  (59, .iload 4, 2, [], .null),
  (61, .iload 9, 2, [], .null),
  (63, .iadd, 1, [], .null),
  (64, .iconst 1, 1, [], .int 1),
  (65, .isub, 1, [], .null),
  (66, .invokevirtual 141, 3, [136, 1, 5], .null),
  (69, .ifCond .ge 11, 3, [], .null),
  (72, .iload 4, 2, [], .null),
  (74, .iload 9, 2, [], .null),
  (76, .iadd, 1, [], .null),
  (77, .iconst 1, 1, [], .int 1),
  (78, .isub, 1, [], .null),
  (79, .ireturn, 1, [], .null),
  (80, .iload 9, 2, [], .null),
  (82, .iconst 1, 1, [], .int 1),
  (83, .isub, 1, [], .null),
  (84, .istore 7, 2, [], .null),
  (86, .iinc 8 1, 3, [], .null),
  (89, .goto (-57), 3, [], .null),
  (92, .iconst (-1), 1, [], .int (-1)),
  (93, .ireturn, 1, [], .null)])
def jp_H_init : jx_Me := (⟨"JobHouse$Holidays", "<init>", "(I)V"⟩, prog_6_method_1_code, 2, none, [], [
  (0, .aload_n 0, 1, [], .null),
  (1, .invokespecial 1, 3, [9003, 0], .null),
  (4, .aload_n 0, 1, [], .null),
  (5, .iload_n 1, 1, [], .null),
  (6, .newarray .int, 2, [2], .null),
  (8, .putfield 7, 3, [5, 0, 4, 1], .null),
  (11, .return_, 1, [], .null)])
def jp_H_placeOf : jx_Me := (⟨"JobHouse$Holidays", "placeOf", "(I)I"⟩, prog_6_method_2_code, 5, (some FieldType.int), [], [
  (0, .iconst 0, 1, [], .int 0),
  (1, .istore_n 2, 1, [], .null),
  (2, .aload_n 0, 1, [], .null),
  (3, .getfield 13, 3, [5, 1], .null),
  (6, .istore_n 3, 1, [], .null),
  (7, .iload_n 2, 1, [], .null),
  (8, .iload_n 3, 1, [], .null),
  (9, .if_icmp .ge 35, 3, [], .null),
  (12, .iload_n 2, 1, [], .null),
  (13, .iload_n 3, 1, [], .null),
  (14, .iadd, 1, [], .null),
  (15, .iconst 2, 1, [], .int 2),
  (16, .idiv, 1, [], .null),
  (17, .istore 4, 2, [], .null),
  (19, .aload_n 0, 1, [], .null),
  (20, .getfield 7, 3, [5, 0], .null),
  (23, .iload 4, 2, [], .null),
  (25, .iaload, 1, [], .null),
  (26, .iload_n 1, 1, [], .null),
  (27, .if_icmp .ge 11, 3, [], .null),
  (30, .iload 4, 2, [], .null),
  (32, .iconst 1, 1, [], .int 1),
  (33, .iadd, 1, [], .null),
  (34, .istore_n 2, 1, [], .null),
  (35, .goto 6, 3, [], .null),
  (38, .iload 4, 2, [], .null),
  (40, .istore_n 3, 1, [], .null),
  (41, .goto (-34), 3, [], .null),
  (44, .iload_n 2, 1, [], .null),
  (45, .aload_n 0, 1, [], .null),
  (46, .getfield 13, 3, [5, 1], .null),
  (49, .if_icmp .ge 17, 3, [], .null),
  (52, .aload_n 0, 1, [], .null),
  (53, .getfield 7, 3, [5, 0], .null),
  (56, .iload_n 2, 1, [], .null),
  (57, .iaload, 1, [], .null),
  (58, .iload_n 1, 1, [], .null),
  (59, .if_icmp .ne 7, 3, [], .null),
  (62, .iload_n 2, 1, [], .null),
  (63, .goto 6, 3, [], .null),
  (66, .iconst (-1), 1, [], .int (-1)),
  (67, .iload_n 2, 1, [], .null),
  (68, .isub, 1, [], .null),
  (69, .ireturn, 1, [], .null)])
def jp_H_insert : jx_Me := (⟨"JobHouse$Holidays", "insert", "(II)V"⟩, prog_6_method_3_code, 3, none, [], [
  (0, .aload_n 0, 1, [], .null),
  (1, .getfield 7, 3, [5, 0], .null),
  (4, .iload_n 1, 1, [], .null),
  (5, .aload_n 0, 1, [], .null),
  (6, .getfield 7, 3, [5, 0], .null),
  (9, .iload_n 1, 1, [], .null),
  (10, .iconst 1, 1, [], .int 1),
  (11, .iadd, 1, [], .null),
  (12, .aload_n 0, 1, [], .null),
  (13, .getfield 13, 3, [5, 1], .null),
  (16, .iload_n 1, 1, [], .null),
  (17, .isub, 1, [], .null),
  (18, .invokestatic 17, 3, [9002, 5], .null),
  (21, .aload_n 0, 1, [], .null),
  (22, .getfield 7, 3, [5, 0], .null),
  (25, .iload_n 1, 1, [], .null),
  (26, .iload_n 2, 1, [], .null),
  (27, .iastore, 1, [], .null),
  (28, .aload_n 0, 1, [], .null),
  (29, .dup, 1, [], .null),
  (30, .getfield 13, 3, [5, 1], .null),
  (33, .iconst 1, 1, [], .int 1),
  (34, .iadd, 1, [], .null),
  (35, .putfield 13, 3, [5, 1, 0, 0], .null),
  (38, .return_, 1, [], .null)])
def jp_H_removeAt : jx_Me := (⟨"JobHouse$Holidays", "removeAt", "(I)V"⟩, prog_6_method_4_code, 2, none, [], [
  (0, .aload_n 0, 1, [], .null),
  (1, .getfield 7, 3, [5, 0], .null),
  (4, .iload_n 1, 1, [], .null),
  (5, .iconst 1, 1, [], .int 1),
  (6, .iadd, 1, [], .null),
  (7, .aload_n 0, 1, [], .null),
  (8, .getfield 7, 3, [5, 0], .null),
  (11, .iload_n 1, 1, [], .null),
  (12, .aload_n 0, 1, [], .null),
  (13, .getfield 13, 3, [5, 1], .null),
  (16, .iload_n 1, 1, [], .null),
  (17, .isub, 1, [], .null),
  (18, .iconst 1, 1, [], .int 1),
  (19, .isub, 1, [], .null),
  (20, .invokestatic 17, 3, [9002, 5], .null),
  (23, .aload_n 0, 1, [], .null),
  (24, .dup, 1, [], .null),
  (25, .getfield 13, 3, [5, 1], .null),
  (28, .iconst 1, 1, [], .int 1),
  (29, .isub, 1, [], .null),
  (30, .putfield 13, 3, [5, 1, 0, 0], .null),
  (33, .return_, 1, [], .null)])
def jp_B_init : jx_Me := (⟨"JobHouse$Job", "<init>", "()V"⟩, prog_7_method_1_code, 1, none, [], [
  (0, .aload_n 0, 1, [], .null),
  (1, .invokespecial 3, 3, [9003, 0], .null),
  (4, .return_, 1, [], .null)])
def jp_B_isAheadOf : jx_Me := (⟨"JobHouse$Job", "isAheadOf", "(LJobHouse$Job;)Z"⟩, prog_7_method_2_code, 2, (some FieldType.boolean), [], [
  (0, .aload_n 0, 1, [], .null),
  (1, .getfield 9, 3, [7, 4], .null),
  (4, .aload_n 1, 1, [], .null),
  (5, .getfield 9, 3, [7, 4], .null),
  (8, .lcmp, 1, [], .null),
  (9, .ifCond .eq 21, 3, [], .null),
  (12, .aload_n 0, 1, [], .null),
  (13, .getfield 9, 3, [7, 4], .null),
  (16, .aload_n 1, 1, [], .null),
  (17, .getfield 9, 3, [7, 4], .null),
  (20, .lcmp, 1, [], .null),
  (21, .ifCond .ge 7, 3, [], .null),
  (24, .iconst 1, 1, [], .int 1),
  (25, .goto 4, 3, [], .null),
  (28, .iconst 0, 1, [], .int 0),
  (29, .ireturn, 1, [], .null),
  (30, .aload_n 0, 1, [], .null),
  (31, .getfield 15, 3, [7, 8], .null),
  (34, .aload_n 1, 1, [], .null),
  (35, .getfield 15, 3, [7, 8], .null),
  (38, .if_icmp .eq 20, 3, [], .null),
  (41, .aload_n 0, 1, [], .null),
  (42, .getfield 15, 3, [7, 8], .null),
  (45, .aload_n 1, 1, [], .null),
  (46, .getfield 15, 3, [7, 8], .null),
  (49, .if_icmp .le 7, 3, [], .null),
  (52, .iconst 1, 1, [], .int 1),
  (53, .goto 4, 3, [], .null),
  (56, .iconst 0, 1, [], .int 0),
  (57, .ireturn, 1, [], .null),
  (58, .aload_n 0, 1, [], .null),
  (59, .getfield 19, 3, [7, 2], .null),
  (62, .aload_n 1, 1, [], .null),
  (63, .getfield 19, 3, [7, 2], .null),
  (66, .if_icmp .ge 7, 3, [], .null),
  (69, .iconst 1, 1, [], .int 1),
  (70, .goto 4, 3, [], .null),
  (73, .iconst 0, 1, [], .int 0),
  (74, .ireturn, 1, [], .null)])
def jp_B_isOver : jx_Me := (⟨"JobHouse$Job", "isOver", "()Z"⟩, prog_7_method_3_code, 1, (some FieldType.boolean), [], [
  (0, .aload_n 0, 1, [], .null),
  (1, .getfield 22, 3, [7, 0], .null),
  (4, .iconst 3, 1, [], .int 3),
  (5, .if_icmp .eq 21, 3, [], .null),
  (8, .aload_n 0, 1, [], .null),
  (9, .getfield 25, 3, [7, 1], .null),
  (12, .ifCond .eq 14, 3, [], .null),
  (15, .aload_n 0, 1, [], .null),
  (16, .getfield 28, 3, [7, 3], .null),
  (19, .aload_n 0, 1, [], .null),
  (20, .getfield 31, 3, [7, 10], .null),
  (23, .if_icmp .ne 7, 3, [], .null),
  (26, .iconst 1, 1, [], .int 1),
  (27, .goto 4, 3, [], .null),
  (30, .iconst 0, 1, [], .int 0),
  (31, .ireturn, 1, [], .null)])
def jp_B_rateTimeBehind : jx_Me := (⟨"JobHouse$Job", "rateTimeBehind", "(J)J"⟩, prog_7_method_4_code, 5, (some FieldType.long), [], [
  (0, .aload_n 0, 1, [], .null),
  (1, .getfield 34, 3, [7, 6], .null),
  (4, .lconst 1, 1, [], .long 1),
  (5, .lcmp, 1, [], .null),
  (6, .ifCond .ge 7, 3, [], .null),
  (9, .ldc2_w 37, 3, [], .long (-1)),
  (12, .lreturn, 1, [], .null),
  (13, .lload_n 1, 1, [], .null),
  (14, .aload_n 0, 1, [], .null),
  (15, .getfield 9, 3, [7, 4], .null),
  (18, .lsub, 1, [], .null),
  (19, .aload_n 0, 1, [], .null),
  (20, .getfield 34, 3, [7, 6], .null),
  (23, .ldiv, 1, [], .null),
  (24, .lstore_n 3, 1, [], .null),
  (25, .aload_n 0, 1, [], .null),
  (26, .getfield 39, 3, [7, 9], .null),
  (29, .iconst 2, 1, [], .int 2),
  (30, .if_icmp .ne 17, 3, [], .null),
  (33, .aload_n 0, 1, [], .null),
  (34, .getfield 9, 3, [7, 4], .null),
  (37, .lload_n 3, 1, [], .null),
  (38, .lconst 1, 1, [], .long 1),
  (39, .ladd, 1, [], .null),
  (40, .aload_n 0, 1, [], .null),
  (41, .getfield 34, 3, [7, 6], .null),
  (44, .lmul, 1, [], .null),
  (45, .ladd, 1, [], .null),
  (46, .lreturn, 1, [], .null),
  (47, .aload_n 0, 1, [], .null),
  (48, .getfield 39, 3, [7, 9], .null),
  (51, .iconst 1, 1, [], .int 1),
  (52, .if_icmp .ne 21, 3, [], .null),
  (55, .lload_n 3, 1, [], .null),
  (56, .lconst 1, 1, [], .long 1),
  (57, .lcmp, 1, [], .null),
  (58, .ifCond .le 15, 3, [], .null),
  (61, .aload_n 0, 1, [], .null),
  (62, .getfield 9, 3, [7, 4], .null),
  (65, .lload_n 3, 1, [], .null),
  (66, .aload_n 0, 1, [], .null),
  (67, .getfield 34, 3, [7, 6], .null),
  (70, .lmul, 1, [], .null),
  (71, .ladd, 1, [], .null),
  (72, .lreturn, 1, [], .null),
  (73, .aload_n 0, 1, [], .null),
  (74, .getfield 9, 3, [7, 4], .null),
  (77, .aload_n 0, 1, [], .null),
  (78, .getfield 34, 3, [7, 6], .null),
  (81, .ladd, 1, [], .null),
  (82, .lreturn, 1, [], .null)])
def jp_L_init : jx_Me := (⟨"JobHouse$StartLog", "<init>", "()V"⟩, prog_8_method_1_code, 1, none, [], [
  (0, .aload_n 0, 1, [], .null),
  (1, .invokespecial 3, 3, [9003, 0], .null),
  (4, .aload_n 0, 1, [], .null),
  (5, .sipush 500, 3, [], .int 500),
  (8, .newarray .long, 2, [3], .null),
  (10, .putfield 9, 3, [8, 0, 4, 1], .null),
  (13, .aload_n 0, 1, [], .null),
  (14, .sipush 500, 3, [], .int 500),
  (17, .newarray .int, 2, [2], .null),
  (19, .putfield 15, 3, [8, 1, 4, 1], .null),
  (22, .aload_n 0, 1, [], .null),
  (23, .sipush 500, 3, [], .int 500),
  (26, .newarray .long, 2, [3], .null),
  (28, .putfield 19, 3, [8, 2, 4, 1], .null),
  (31, .return_, 1, [], .null)])
def jp_L_add : jx_Me := (⟨"JobHouse$StartLog", "add", "(JIJ)V"⟩, prog_8_method_2_code, 6, none, [], [
  (0, .aload_n 0, 1, [], .null),
  (1, .getfield 22, 3, [8, 3], .null),
  (4, .sipush 500, 3, [], .int 500),
  (7, .if_icmp .ge 54, 3, [], .null),
  (10, .aload_n 0, 1, [], .null),
  (11, .getfield 9, 3, [8, 0], .null),
  (14, .aload_n 0, 1, [], .null),
  (15, .getfield 22, 3, [8, 3], .null),
  (18, .lload_n 1, 1, [], .null),
  (19, .lastore, 1, [], .null),
  (20, .aload_n 0, 1, [], .null),
  (21, .getfield 15, 3, [8, 1], .null),
  (24, .aload_n 0, 1, [], .null),
  (25, .getfield 22, 3, [8, 3], .null),
  (28, .iload_n 3, 1, [], .null),
  (29, .iastore, 1, [], .null),
  (30, .aload_n 0, 1, [], .null),
  (31, .getfield 19, 3, [8, 2], .null),
  (34, .aload_n 0, 1, [], .null),
  (35, .getfield 22, 3, [8, 3], .null),
  (38, .lload 4, 2, [], .null),
  (40, .lastore, 1, [], .null),
  (41, .aload_n 0, 1, [], .null),
  (42, .dup, 1, [], .null),
  (43, .getfield 22, 3, [8, 3], .null),
  (46, .iconst 1, 1, [], .int 1),
  (47, .iadd, 1, [], .null),
  (48, .putfield 22, 3, [8, 3, 0, 0], .null),
  (51, .aload_n 0, 1, [], .null),
  (52, .dup, 1, [], .null),
  (53, .getfield 26, 3, [8, 4], .null),
  (56, .lconst 1, 1, [], .long 1),
  (57, .ladd, 1, [], .null),
  (58, .putfield 26, 3, [8, 4, 1, 0], .null),
  (61, .return_, 1, [], .null)])
def jp_T_init : jx_Me := (⟨"JobHouse$Text", "<init>", "()V"⟩, prog_9_method_1_code, 1, none, [], [
  (0, .aload_n 0, 1, [], .null),
  (1, .invokespecial 3, 3, [9003, 0], .null),
  (4, .aload_n 0, 1, [], .null),
  (5, .sipush 400, 3, [], .int 400),
  (8, .newarray .byte, 2, [0], .null),
  (10, .putfield 9, 3, [1, 0, 4, 1], .null),
  (13, .aload_n 0, 1, [], .null),
  (14, .iconst (-1), 1, [], .int (-1)),
  (15, .putfield 15, 3, [1, 3, 0, 0], .null),
  (18, .return_, 1, [], .null)])
def jp_T_addWord : jx_Me := (⟨"JobHouse$Text", "addWord", "(I)V"⟩, prog_9_method_2_code, 3, none, [], [
  (0, .bipush 24, 2, [], .int 24),
  (2, .istore_n 2, 1, [], .null),
  (3, .iload_n 2, 1, [], .null),
  (4, .ifCond .lt 42, 3, [], .null),
  (7, .aload_n 0, 1, [], .null),
  (8, .getfield 19, 3, [1, 1], .null),
  (11, .sipush 400, 3, [], .int 400),
  (14, .if_icmp .ge 32, 3, [], .null),
  (17, .aload_n 0, 1, [], .null),
  (18, .getfield 9, 3, [1, 0], .null),
  (21, .aload_n 0, 1, [], .null),
  (22, .getfield 19, 3, [1, 1], .null),
  (25, .iload_n 1, 1, [], .null),
  (26, .iload_n 2, 1, [], .null),
  (27, .ishr, 1, [], .null),
  (28, .i2b, 1, [], .null),
  (29, .bastore, 1, [], .null),
  (30, .aload_n 0, 1, [], .null),
  (31, .dup, 1, [], .null),
  (32, .getfield 19, 3, [1, 1], .null),
  (35, .iconst 1, 1, [], .int 1),
  (36, .iadd, 1, [], .null),
  (37, .putfield 19, 3, [1, 1, 0, 0], .null),
  (40, .iinc 2 (-8), 3, [], .null),
  (43, .goto (-40), 3, [], .null),
  (46, .return_, 1, [], .null)])
def jp_T_rewind : jx_Me := (⟨"JobHouse$Text", "rewind", "()V"⟩, prog_9_method_3_code, 1, none, [], [
  (0, .aload_n 0, 1, [], .null),
  (1, .iconst 0, 1, [], .int 0),
  (2, .putfield 22, 3, [1, 2, 0, 0], .null),
  (5, .aload_n 0, 1, [], .null),
  (6, .iconst (-1), 1, [], .int (-1)),
  (7, .putfield 15, 3, [1, 3, 0, 0], .null),
  (10, .return_, 1, [], .null)])
def jp_T_breakAt : jx_Me := (⟨"JobHouse$Text", "breakAt", "(I)V"⟩, prog_9_method_4_code, 2, none, [], [
  (0, .aload_n 0, 1, [], .null),
  (1, .getfield 15, 3, [1, 3], .null),
  (4, .iconst (-1), 1, [], .int (-1)),
  (5, .if_icmp .ne 8, 3, [], .null),
  (8, .aload_n 0, 1, [], .null),
  (9, .iload_n 1, 1, [], .null),
  (10, .putfield 15, 3, [1, 3, 0, 0], .null),
  (13, .return_, 1, [], .null)])
def jp_T_isDone : jx_Me := (⟨"JobHouse$Text", "isDone", "()Z"⟩, prog_9_method_5_code, 1, (some FieldType.boolean), [], [
  (0, .aload_n 0, 1, [], .null),
  (1, .invokevirtual 25, 3, [150, 0, 1], .null),
  (4, .iconst (-1), 1, [], .int (-1)),
  (5, .if_icmp .ne 7, 3, [], .null),
  (8, .iconst 1, 1, [], .int 1),
  (9, .goto 4, 3, [], .null),
  (12, .iconst 0, 1, [], .int 0),
  (13, .ireturn, 1, [], .null)])
def jp_T_peek : jx_Me := (⟨"JobHouse$Text", "peek", "()I"⟩, prog_9_method_6_code, 1, (some FieldType.int), [], [
  (0, .aload_n 0, 1, [], .null),
  (1, .getfield 15, 3, [1, 3], .null),
  (4, .iconst (-1), 1, [], .int (-1)),
  (5, .if_icmp .ne 14, 3, [], .null),
  (8, .aload_n 0, 1, [], .null),
  (9, .getfield 22, 3, [1, 2], .null),
  (12, .aload_n 0, 1, [], .null),
  (13, .getfield 19, 3, [1, 1], .null),
  (16, .if_icmp .lt 7, 3, [], .null),
  (19, .iconst (-1), 1, [], .int (-1)),
  (20, .goto 16, 3, [], .null),
  (23, .aload_n 0, 1, [], .null),
  (24, .getfield 9, 3, [1, 0], .null),
  (27, .aload_n 0, 1, [], .null),
  (28, .getfield 22, 3, [1, 2], .null),
  (31, .baload, 1, [], .null),
  (32, .sipush 255, 3, [], .int 255),
  (35, .iand, 1, [], .null),
  (36, .ireturn, 1, [], .null)])
def jp_T_take : jx_Me := (⟨"JobHouse$Text", "take", "(I)Z"⟩, prog_9_method_7_code, 2, (some FieldType.boolean), [], [
  (0, .aload_n 0, 1, [], .null),
  (1, .invokevirtual 25, 3, [150, 0, 1], .null),
  (4, .iload_n 1, 1, [], .null),
  (5, .if_icmp .eq 5, 3, [], .null),
  (8, .iconst 0, 1, [], .int 0),
  (9, .ireturn, 1, [], .null),
  (10, .aload_n 0, 1, [], .null),
  (11, .dup, 1, [], .null),
  (12, .getfield 22, 3, [1, 2], .null),
  (15, .iconst 1, 1, [], .int 1),
  (16, .iadd, 1, [], .null),
  (17, .putfield 22, 3, [1, 2, 0, 0], .null),
  (20, .iconst 1, 1, [], .int 1),
  (21, .ireturn, 1, [], .null)])
def jp_T_require : jx_Me := (⟨"JobHouse$Text", "require", "(I)V"⟩, prog_9_method_8_code, 2, none, [], [
  (0, .aload_n 0, 1, [], .null),
  (1, .iload_n 1, 1, [], .null),
  (2, .invokevirtual 29, 3, [151, 1, 1], .null),
  (5, .ifCond .ne 11, 3, [], .null),
  (8, .aload_n 0, 1, [], .null),
  (9, .aload_n 0, 1, [], .null),
  (10, .getfield 22, 3, [1, 2], .null),
  (13, .invokevirtual 33, 3, [148, 1, 1], .null),
  (16, .return_, 1, [], .null)])
def jp_T_requireBlanks : jx_Me := (⟨"JobHouse$Text", "requireBlanks", "()V"⟩, prog_9_method_9_code, 1, none, [], [
  (0, .aload_n 0, 1, [], .null),
  (1, .bipush 32, 2, [], .int 32),
  (3, .invokevirtual 37, 3, [152, 1, 1], .null),
  (6, .aload_n 0, 1, [], .null),
  (7, .getfield 22, 3, [1, 2], .null),
  (10, .aload_n 0, 1, [], .null),
  (11, .getfield 19, 3, [1, 1], .null),
  (14, .if_icmp .ge 30, 3, [], .null),
  (17, .aload_n 0, 1, [], .null),
  (18, .getfield 9, 3, [1, 0], .null),
  (21, .aload_n 0, 1, [], .null),
  (22, .getfield 22, 3, [1, 2], .null),
  (25, .baload, 1, [], .null),
  (26, .bipush 32, 2, [], .int 32),
  (28, .if_icmp .ne 16, 3, [], .null),
  (31, .aload_n 0, 1, [], .null),
  (32, .dup, 1, [], .null),
  (33, .getfield 22, 3, [1, 2], .null),
  (36, .iconst 1, 1, [], .int 1),
  (37, .iadd, 1, [], .null),
  (38, .putfield 22, 3, [1, 2, 0, 0], .null),
  (41, .goto (-35), 3, [], .null),
  (44, .return_, 1, [], .null)])
def jp_T_requireEnd : jx_Me := (⟨"JobHouse$Text", "requireEnd", "()V"⟩, prog_9_method_10_code, 1, none, [], [
  (0, .aload_n 0, 1, [], .null),
  (1, .invokevirtual 40, 3, [149, 0, 1], .null),
  (4, .ifCond .ne 11, 3, [], .null),
  (7, .aload_n 0, 1, [], .null),
  (8, .aload_n 0, 1, [], .null),
  (9, .getfield 22, 3, [1, 2], .null),
  (12, .invokevirtual 33, 3, [148, 1, 1], .null),
  (15, .return_, 1, [], .null)])
def jp_T_number : jx_Me := (⟨"JobHouse$Text", "number", "(II)I"⟩, prog_9_method_11_code, 6, (some FieldType.int), [], [
  (0, .aload_n 0, 1, [], .null),
  (1, .getfield 22, 3, [1, 2], .null),
  (4, .istore_n 3, 1, [], .null),
  (5, .iconst 0, 1, [], .int 0),
  (6, .istore 4, 2, [], .null),
  (8, .aload_n 0, 1, [], .null),
  (9, .invokevirtual 25, 3, [150, 0, 1], .null),
  (12, .bipush 48, 2, [], .int 48),
  (14, .if_icmp .ne 7, 3, [], .null),
  (17, .iconst 1, 1, [], .int 1),
  (18, .goto 4, 3, [], .null),
  (21, .iconst 0, 1, [], .int 0),
  (22, .istore 5, 2, [], .null),
  (24, .aload_n 0, 1, [], .null),
  (25, .getfield 22, 3, [1, 2], .null),
  (28, .aload_n 0, 1, [], .null),
  (29, .getfield 19, 3, [1, 1], .null),
  (32, .if_icmp .ge 59, 3, [], .null),
  (35, .aload_n 0, 1, [], .null),
  (36, .invokevirtual 25, 3, [150, 0, 1], .null),
  (39, .invokestatic 44, 3, [157, 1], .null),
  (42, .ifCond .eq 49, 3, [], .null),
  (45, .iload 5, 2, [], .null),
  (47, .ifCond .eq 11, 3, [], .null),
  (50, .aload_n 0, 1, [], .null),
  (51, .getfield 22, 3, [1, 2], .null),
  (54, .iload_n 3, 1, [], .null),
  (55, .if_icmp .gt 36, 3, [], .null),
  (58, .iload 4, 2, [], .null),
  (60, .bipush 10, 2, [], .int 10),
  (62, .imul, 1, [], .null),
  (63, .aload_n 0, 1, [], .null),
  (64, .invokevirtual 25, 3, [150, 0, 1], .null),
  (67, .iadd, 1, [], .null),
  (68, .bipush 48, 2, [], .int 48),
  (70, .isub, 1, [], .null),
  (71, .ldc 47, 2, [], .int 1000000),
  (73, .invokestatic 48, 3, [192, 2], .null),
  (76, .istore 4, 2, [], .null),
  (78, .aload_n 0, 1, [], .null),
  (79, .dup, 1, [], .null),
  (80, .getfield 22, 3, [1, 2], .null),
  (83, .iconst 1, 1, [], .int 1),
  (84, .iadd, 1, [], .null),
  (85, .putfield 22, 3, [1, 2, 0, 0], .null),
  (88, .goto (-64), 3, [], .null),
  (91, .aload_n 0, 1, [], .null),
  (92, .getfield 22, 3, [1, 2], .null),
  (95, .iload_n 3, 1, [], .null),
  (96, .if_icmp .eq 15, 3, [], .null),
  (99, .iload 4, 2, [], .null),
  (101, .iload_n 1, 1, [], .null),
  (102, .if_icmp .lt 9, 3, [], .null),
  (105, .iload 4, 2, [], .null),
  (107, .iload_n 2, 1, [], .null),
  (108, .if_icmp .le 8, 3, [], .null),
  (111, .aload_n 0, 1, [], .null),
  (112, .iload_n 3, 1, [], .null),
  (113, .invokevirtual 33, 3, [148, 1, 1], .null),
  (116, .aload_n 0, 1, [], .null),
  (117, .getfield 15, 3, [1, 3], .null),
  (120, .iconst (-1), 1, [], .int (-1)),
  (121, .if_icmp .ne 8, 3, [], .null),
  (124, .iload 4, 2, [], .null),
  (126, .goto 4, 3, [], .null),
  (129, .iload_n 1, 1, [], .null),
  (130, .ireturn, 1, [], .null)])
def jp_T_takeName : jx_Me := (⟨"JobHouse$Text", "takeName", "(Ljava/lang/String;)I"⟩, prog_9_method_12_code, 4, (some FieldType.int), [], [
  (0, .aload_n 0, 1, [], .null),
  (1, .getfield 15, 3, [1, 3], .null),
  (4, .iconst (-1), 1, [], .int (-1)),
  (5, .if_icmp .ne 20, 3, [], .null),
  (8, .aload_n 0, 1, [], .null),
  (9, .getfield 22, 3, [1, 2], .null),
  (12, .iconst 3, 1, [], .int 3),
  (13, .iadd, 1, [], .null),
  (14, .aload_n 0, 1, [], .null),
  (15, .getfield 19, 3, [1, 1], .null),
  (18, .if_icmp .gt 7, 3, [], .null),
  (21, .iconst 1, 1, [], .int 1),
  (22, .goto 4, 3, [], .null),
  (25, .iconst 0, 1, [], .int 0),
  (26, .istore_n 2, 1, [], .null),
  (27, .iconst 0, 1, [], .int 0),
  (28, .istore_n 3, 1, [], .null),
  (29, .iload_n 2, 1, [], .null),
  (30, .ifCond .eq 92, 3, [], .null),
  (33, .iload_n 3, 1, [], .null),
  (34, .iconst 3, 1, [], .int 3),
  (35, .iadd, 1, [], .null),
  (36, .aload_n 1, 1, [], .null),
  (37, .invokevirtual 54, 3, [9000, 0, 300], .null),
  (40, .if_icmp .gt 82, 3, [], .null),
  (43, .aload_n 0, 1, [], .null),
  (44, .getfield 9, 3, [1, 0], .null),
  (47, .aload_n 0, 1, [], .null),
  (48, .getfield 22, 3, [1, 2], .null),
  (51, .baload, 1, [], .null),
  (52, .aload_n 1, 1, [], .null),
  (53, .iload_n 3, 1, [], .null),
  (54, .invokevirtual 58, 3, [9001, 1, 300], .null),
  (57, .if_icmp .ne 59, 3, [], .null),
  (60, .aload_n 0, 1, [], .null),
  (61, .getfield 9, 3, [1, 0], .null),
  (64, .aload_n 0, 1, [], .null),
  (65, .getfield 22, 3, [1, 2], .null),
  (68, .iconst 1, 1, [], .int 1),
  (69, .iadd, 1, [], .null),
  (70, .baload, 1, [], .null),
  (71, .aload_n 1, 1, [], .null),
  (72, .iload_n 3, 1, [], .null),
  (73, .iconst 1, 1, [], .int 1),
  (74, .iadd, 1, [], .null),
  (75, .invokevirtual 58, 3, [9001, 1, 300], .null),
  (78, .if_icmp .ne 38, 3, [], .null),
  (81, .aload_n 0, 1, [], .null),
  (82, .getfield 9, 3, [1, 0], .null),
  (85, .aload_n 0, 1, [], .null),
  (86, .getfield 22, 3, [1, 2], .null),
  (89, .iconst 2, 1, [], .int 2),
  (90, .iadd, 1, [], .null),
  (91, .baload, 1, [], .null),
  (92, .aload_n 1, 1, [], .null),
  (93, .iload_n 3, 1, [], .null),
  (94, .iconst 2, 1, [], .int 2),
  (95, .iadd, 1, [], .null),
  (96, .invokevirtual 58, 3, [9001, 1, 300], .null),
  (99, .if_icmp .ne 17, 3, [], .null),
  (102, .aload_n 0, 1, [], .null),
  (103, .dup, 1, [], .null),
  (104, .getfield 22, 3, [1, 2], .null),
  (107, .iconst 3, 1, [], .int 3),
  (108, .iadd, 1, [], .null),
  (109, .putfield 22, 3, [1, 2, 0, 0], .null),
  (112, .iload_n 3, 1, [], .null),
  (113, .iconst 3, 1, [], .int 3),
  (114, .idiv, 1, [], .null),
  (115, .ireturn, 1, [], .null),
  (116, .iinc 3 3, 3, [], .null),
  (119, .goto (-90), 3, [], .null),
  (122, .iconst (-1), 1, [], .int (-1)),
  (123, .ireturn, 1, [], .null)])
def jp_T_isDigit : jx_Me := (⟨"JobHouse$Text", "isDigit", "(I)Z"⟩, prog_9_method_13_code, 1, (some FieldType.boolean), [], [
  (0, .iload_n 0, 1, [], .null),
  (1, .bipush 48, 2, [], .int 48),
  (3, .if_icmp .lt 13, 3, [], .null),
  (6, .iload_n 0, 1, [], .null),
  (7, .bipush 57, 2, [], .int 57),
  (9, .if_icmp .gt 7, 3, [], .null),
  (12, .iconst 1, 1, [], .int 1),
  (13, .goto 4, 3, [], .null),
  (16, .iconst 0, 1, [], .int 0),
  (17, .ireturn, 1, [], .null)])
def jp_Y_init : jx_Me := (⟨"JobHouse$YearRule", "<init>", "()V"⟩, prog_10_method_1_code, 1, none, [], [
  (0, .aload_n 0, 1, [], .null),
  (1, .invokespecial 3, 3, [9003, 0], .null),
  (4, .return_, 1, [], .null)])
def jp_Y_readFrom : jx_Me := (⟨"JobHouse$YearRule", "readFrom", "(LJobHouse$Text;)V"⟩, prog_10_method_2_code, 2, none, [], [
  (0, .aload_n 1, 1, [], .null),
  (1, .bipush 77, 2, [], .int 77),
  (3, .invokevirtual 9, 3, [152, 1, 1], .null),
  (6, .aload_n 0, 1, [], .null),
  (7, .aload_n 1, 1, [], .null),
  (8, .iconst 1, 1, [], .int 1),
  (9, .bipush 12, 2, [], .int 12),
  (11, .invokevirtual 15, 3, [155, 2, 1], .null),
  (14, .putfield 19, 3, [3, 0, 0, 0], .null),
  (17, .aload_n 1, 1, [], .null),
  (18, .bipush 46, 2, [], .int 46),
  (20, .invokevirtual 9, 3, [152, 1, 1], .null),
  (23, .aload_n 0, 1, [], .null),
  (24, .aload_n 1, 1, [], .null),
  (25, .iconst 1, 1, [], .int 1),
  (26, .iconst 5, 1, [], .int 5),
  (27, .invokevirtual 15, 3, [155, 2, 1], .null),
  (30, .putfield 25, 3, [3, 1, 0, 0], .null),
  (33, .aload_n 1, 1, [], .null),
  (34, .bipush 46, 2, [], .int 46),
  (36, .invokevirtual 9, 3, [152, 1, 1], .null),
  (39, .aload_n 0, 1, [], .null),
  (40, .aload_n 1, 1, [], .null),
  (41, .iconst 0, 1, [], .int 0),
  (42, .bipush 6, 2, [], .int 6),
  (44, .invokevirtual 15, 3, [155, 2, 1], .null),
  (47, .putfield 28, 3, [3, 2, 0, 0], .null),
  (50, .aload_n 1, 1, [], .null),
  (51, .bipush 47, 2, [], .int 47),
  (53, .invokevirtual 9, 3, [152, 1, 1], .null),
  (56, .aload_n 0, 1, [], .null),
  (57, .aload_n 1, 1, [], .null),
  (58, .iconst 0, 1, [], .int 0),
  (59, .sipush 1439, 3, [], .int 1439),
  (62, .invokevirtual 15, 3, [155, 2, 1], .null),
  (65, .putfield 31, 3, [3, 3, 0, 0], .null),
  (68, .return_, 1, [], .null)])
def jp_Y_secondIn : jx_Me := (⟨"JobHouse$YearRule", "secondIn", "(I)J"⟩, prog_10_method_3_code, 5, (some FieldType.long), [], [
  (0, .iload_n 1, 1, [], .null),
  (1, .aload_n 0, 1, [], .null),
  (2, .getfield 19, 3, [3, 0], .null),
  (5, .invokestatic 34, 3, [120, 2], .null),
  (8, .istore_n 2, 1, [], .null),
  (9, .aload_n 0, 1, [], .null),
  (10, .getfield 28, 3, [3, 2], .null),
  (13, .iconst 1, 1, [], .int 1),
  (14, .iadd, 1, [], .null),
  (15, .iload_n 2, 1, [], .null),
  (16, .invokestatic 39, 3, [125, 1], .null),
  (19, .isub, 1, [], .null),
  (20, .bipush 7, 2, [], .int 7),
  (22, .invokestatic 43, 3, [188, 2], .null),
  (25, .istore_n 3, 1, [], .null),
  (26, .iload_n 3, 1, [], .null),
  (27, .bipush 7, 2, [], .int 7),
  (29, .aload_n 0, 1, [], .null),
  (30, .getfield 25, 3, [3, 1], .null),
  (33, .iconst 1, 1, [], .int 1),
  (34, .isub, 1, [], .null),
  (35, .imul, 1, [], .null),
  (36, .iadd, 1, [], .null),
  (37, .istore 4, 2, [], .null),
  (39, .iload 4, 2, [], .null),
  (41, .iload_n 1, 1, [], .null),
  (42, .aload_n 0, 1, [], .null),
  (43, .getfield 19, 3, [3, 0], .null),
  (46, .invokestatic 48, 3, [121, 2], .null),
  (49, .if_icmp .lt 6, 3, [], .null),
  (52, .iinc 4 (-7), 3, [], .null),
  (55, .iload_n 2, 1, [], .null),
  (56, .iload 4, 2, [], .null),
  (58, .iadd, 1, [], .null),
  (59, .i2l, 1, [], .null),
  (60, .ldc2_w 51, 3, [], .long 86400),
  (63, .lmul, 1, [], .null),
  (64, .aload_n 0, 1, [], .null),
  (65, .getfield 31, 3, [3, 3], .null),
  (68, .bipush 60, 2, [], .int 60),
  (70, .imul, 1, [], .null),
  (71, .i2l, 1, [], .null),
  (72, .ladd, 1, [], .null),
  (73, .lreturn, 1, [], .null)])
def jp_Y_latestUpTo : jx_Me := (⟨"JobHouse$YearRule", "latestUpTo", "(JII)J"⟩, prog_10_method_4_code, 6, (some FieldType.long), [], [
  (0, .iload 4, 2, [], .null),
  (2, .sipush 2299, 3, [], .int 2299),
  (5, .invokestatic 53, 3, [192, 2], .null),
  (8, .istore 5, 2, [], .null),
  (10, .iload 5, 2, [], .null),
  (12, .sipush 1970, 3, [], .int 1970),
  (15, .if_icmp .lt 20, 3, [], .null),
  (18, .aload_n 0, 1, [], .null),
  (19, .iload 5, 2, [], .null),
  (21, .invokevirtual 56, 3, [160, 1, 3], .null),
  (24, .iload_n 3, 1, [], .null),
  (25, .i2l, 1, [], .null),
  (26, .lsub, 1, [], .null),
  (27, .lload_n 1, 1, [], .null),
  (28, .lcmp, 1, [], .null),
  (29, .ifCond .le 6, 3, [], .null),
  (32, .iinc 5 (-1), 3, [], .null),
  (35, .iload 5, 2, [], .null),
  (37, .sipush 1970, 3, [], .int 1970),
  (40, .if_icmp .ge 9, 3, [], .null),
  (43, .ldc2_w 60, 3, [], .long (-1152921504606846976)),
  (46, .goto 12, 3, [], .null),
  (49, .aload_n 0, 1, [], .null),
  (50, .iload 5, 2, [], .null),
  (52, .invokevirtual 56, 3, [160, 1, 3], .null),
  (55, .iload_n 3, 1, [], .null),
  (56, .i2l, 1, [], .null),
  (57, .lsub, 1, [], .null),
  (58, .lreturn, 1, [], .null)])
def jp_Y_firstBehind : jx_Me := (⟨"JobHouse$YearRule", "firstBehind", "(JII)J"⟩, prog_10_method_5_code, 6, (some FieldType.long), [], [
  (0, .iload 4, 2, [], .null),
  (2, .sipush 1970, 3, [], .int 1970),
  (5, .invokestatic 62, 3, [190, 2], .null),
  (8, .istore 5, 2, [], .null),
  (10, .iload 5, 2, [], .null),
  (12, .sipush 2299, 3, [], .int 2299),
  (15, .if_icmp .gt 20, 3, [], .null),
  (18, .aload_n 0, 1, [], .null),
  (19, .iload 5, 2, [], .null),
  (21, .invokevirtual 56, 3, [160, 1, 3], .null),
  (24, .iload_n 3, 1, [], .null),
  (25, .i2l, 1, [], .null),
  (26, .lsub, 1, [], .null),
  (27, .lload_n 1, 1, [], .null),
  (28, .lcmp, 1, [], .null),
  (29, .ifCond .gt 6, 3, [], .null),
  (32, .iinc 5 1, 3, [], .null),
  (35, .iload 5, 2, [], .null),
  (37, .sipush 2299, 3, [], .int 2299),
  (40, .if_icmp .le 9, 3, [], .null),
  (43, .ldc2_w 65, 3, [], .long 1152921504606846976),
  (46, .goto 12, 3, [], .null),
  (49, .aload_n 0, 1, [], .null),
  (50, .iload 5, 2, [], .null),
  (52, .invokevirtual 56, 3, [160, 1, 3], .null),
  (55, .iload_n 3, 1, [], .null),
  (56, .i2l, 1, [], .null),
  (57, .lsub, 1, [], .null),
  (58, .lreturn, 1, [], .null)])
def jp_Z_init : jx_Me := (⟨"JobHouse$Zone", "<init>", "()V"⟩, prog_11_method_1_code, 1, none, [], [
  (0, .aload_n 0, 1, [], .null),
  (1, .invokespecial 3, 3, [9003, 0], .null),
  (4, .aload_n 0, 1, [], .null),
  (5, .new 9, 3, [3], .null),
  (8, .dup, 1, [], .null),
  (9, .invokespecial 11, 3, [158, 0], .null),
  (12, .putfield 12, 3, [2, 2, 4, 1], .null),
  (15, .aload_n 0, 1, [], .null),
  (16, .new 9, 3, [3], .null),
  (19, .dup, 1, [], .null),
  (20, .invokespecial 11, 3, [158, 0], .null),
  (23, .putfield 18, 3, [2, 3, 4, 1], .null),
  (26, .aload_n 0, 1, [], .null),
  (27, .ldc2_w 21, 3, [], .long (-1152921504606846976)),
  (30, .putfield 23, 3, [2, 5, 1, 0], .null),
  (33, .return_, 1, [], .null)])
def jp_Z_readFrom : jx_Me := (⟨"JobHouse$Zone", "readFrom", "(LJobHouse$Text;)V"⟩, prog_11_method_2_code, 4, none, [], [
  (0, .aload_n 0, 1, [], .null),
  (1, .ldc2_w 21, 3, [], .long (-1152921504606846976)),
  (4, .putfield 23, 3, [2, 5, 1, 0], .null),
  (7, .aload_n 0, 1, [], .null),
  (8, .iconst 0, 1, [], .int 0),
  (9, .putfield 27, 3, [2, 1, 0, 0], .null),
  (12, .aload_n 1, 1, [], .null),
  (13, .bipush 45, 2, [], .int 45),
  (15, .invokevirtual 31, 3, [151, 1, 1], .null),
  (18, .istore_n 2, 1, [], .null),
  (19, .iload_n 2, 1, [], .null),
  (20, .ifCond .ne 9, 3, [], .null),
  (23, .aload_n 1, 1, [], .null),
  (24, .bipush 43, 2, [], .int 43),
  (26, .invokevirtual 37, 3, [152, 1, 1], .null),
  (29, .aload_n 1, 1, [], .null),
  (30, .iconst 0, 1, [], .int 0),
  (31, .sipush 840, 3, [], .int 840),
  (34, .invokevirtual 41, 3, [155, 2, 1], .null),
  (37, .istore_n 3, 1, [], .null),
  (38, .aload_n 0, 1, [], .null),
  (39, .iload_n 2, 1, [], .null),
  (40, .ifCond .eq 8, 3, [], .null),
  (43, .iload_n 3, 1, [], .null),
  (44, .ineg, 1, [], .null),
  (45, .goto 4, 3, [], .null),
  (48, .iload_n 3, 1, [], .null),
  (49, .bipush 60, 2, [], .int 60),
  (51, .imul, 1, [], .null),
  (52, .putfield 45, 3, [2, 0, 0, 0], .null),
  (55, .aload_n 1, 1, [], .null),
  (56, .invokevirtual 48, 3, [149, 0, 1], .null),
  (59, .ifCond .eq 4, 3, [], .null),
  (62, .return_, 1, [], .null),
  (63, .aload_n 1, 1, [], .null),
  (64, .invokevirtual 52, 3, [153, 0, 1], .null),
  (67, .aload_n 0, 1, [], .null),
  (68, .aload_n 1, 1, [], .null),
  (69, .iconst 1, 1, [], .int 1),
  (70, .bipush 120, 2, [], .int 120),
  (72, .invokevirtual 41, 3, [155, 2, 1], .null),
  (75, .bipush 60, 2, [], .int 60),
  (77, .imul, 1, [], .null),
  (78, .putfield 27, 3, [2, 1, 0, 0], .null),
  (81, .aload_n 1, 1, [], .null),
  (82, .invokevirtual 52, 3, [153, 0, 1], .null),
  (85, .aload_n 0, 1, [], .null),
  (86, .getfield 12, 3, [2, 2], .null),
  (89, .aload_n 1, 1, [], .null),
  (90, .invokevirtual 55, 3, [159, 1, 3], .null),
  (93, .aload_n 1, 1, [], .null),
  (94, .invokevirtual 52, 3, [153, 0, 1], .null),
  (97, .aload_n 0, 1, [], .null),
  (98, .getfield 18, 3, [2, 3], .null),
  (101, .aload_n 1, 1, [], .null),
  (102, .invokevirtual 55, 3, [159, 1, 3], .null),
  (105, .aload_n 1, 1, [], .null),
  (106, .invokevirtual 59, 3, [154, 0, 1], .null),
  (109, .return_, 1, [], .null)])
def jp_Z_offsetAt : jx_Me := (⟨"JobHouse$Zone", "offsetAt", "(J)I"⟩, prog_11_method_3_code, 3, (some FieldType.int), [], [
  (0, .lload_n 1, 1, [], .null),
  (1, .aload_n 0, 1, [], .null),
  (2, .getfield 62, 3, [2, 4], .null),
  (5, .lcmp, 1, [], .null),
  (6, .ifCond .lt 12, 3, [], .null),
  (9, .lload_n 1, 1, [], .null),
  (10, .aload_n 0, 1, [], .null),
  (11, .getfield 23, 3, [2, 5], .null),
  (14, .lcmp, 1, [], .null),
  (15, .ifCond .lt 8, 3, [], .null),
  (18, .aload_n 0, 1, [], .null),
  (19, .lload_n 1, 1, [], .null),
  (20, .invokevirtual 65, 3, [166, 1, 2], .null),
  (23, .aload_n 0, 1, [], .null),
  (24, .getfield 69, 3, [2, 6], .null),
  (27, .ireturn, 1, [], .null)])
def jp_Z_findStretch : jx_Me := (⟨"JobHouse$Zone", "findStretch", "(J)V"⟩, prog_11_method_4_code, 14, none, [], [
  (0, .aload_n 0, 1, [], .null),
  (1, .getfield 27, 3, [2, 1], .null),
  (4, .ifCond .ne 26, 3, [], .null),
  (7, .aload_n 0, 1, [], .null),
  (8, .ldc2_w 21, 3, [], .long (-1152921504606846976)),
  (11, .putfield 62, 3, [2, 4, 1, 0], .null),
  (14, .aload_n 0, 1, [], .null),
  (15, .ldc2_w 72, 3, [], .long 1152921504606846976),
  (18, .putfield 23, 3, [2, 5, 1, 0], .null),
  (21, .aload_n 0, 1, [], .null),
  (22, .aload_n 0, 1, [], .null),
  (23, .getfield 45, 3, [2, 0], .null),
  (26, .putfield 69, 3, [2, 6, 0, 0], .null),
  (29, .return_, 1, [], .null),
  (30, .aload_n 0, 1, [], .null),
  (31, .getfield 45, 3, [2, 0], .null),
  (34, .aload_n 0, 1, [], .null),
  (35, .getfield 27, 3, [2, 1], .null),
  (38, .iadd, 1, [], .null),
  (39, .istore_n 3, 1, [], .null),
  (40, .lload_n 1, 1, [], .null),
  (41, .aload_n 0, 1, [], .null),
  (42, .getfield 45, 3, [2, 0], .null),
  (45, .i2l, 1, [], .null),
  (46, .ladd, 1, [], .null),
  (47, .invokestatic 74, 3, [122, 1], .null),
  (50, .invokestatic 80, 3, [123, 1], .null),
  (53, .istore 4, 2, [], .null),
  (55, .lload_n 1, 1, [], .null),
  (56, .iload_n 3, 1, [], .null),
  (57, .i2l, 1, [], .null),
  (58, .ladd, 1, [], .null),
  (59, .invokestatic 74, 3, [122, 1], .null),
  (62, .invokestatic 80, 3, [123, 1], .null),
  (65, .istore 5, 2, [], .null),
  (67, .aload_n 0, 1, [], .null),
  (68, .getfield 12, 3, [2, 2], .null),
  (71, .lload_n 1, 1, [], .null),
  (72, .aload_n 0, 1, [], .null),
  (73, .getfield 45, 3, [2, 0], .null),
  (76, .iload 4, 2, [], .null),
  (78, .invokevirtual 84, 3, [161, 3, 3], .null),
  (81, .lstore 6, 2, [], .null),
  (83, .aload_n 0, 1, [], .null),
  (84, .getfield 18, 3, [2, 3], .null),
  (87, .lload_n 1, 1, [], .null),
  (88, .iload_n 3, 1, [], .null),
  (89, .iload 5, 2, [], .null),
  (91, .invokevirtual 84, 3, [161, 3, 3], .null),
  (94, .lstore 8, 2, [], .null),
  (96, .aload_n 0, 1, [], .null),
  (97, .getfield 12, 3, [2, 2], .null),
  (100, .lload_n 1, 1, [], .null),
  (101, .aload_n 0, 1, [], .null),
  (102, .getfield 45, 3, [2, 0], .null),
  (105, .iload 4, 2, [], .null),
  (107, .invokevirtual 88, 3, [162, 3, 3], .null),
  (110, .lstore 10, 2, [], .null),
  (112, .aload_n 0, 1, [], .null),
  (113, .getfield 18, 3, [2, 3], .null),
  (116, .lload_n 1, 1, [], .null),
  (117, .iload_n 3, 1, [], .null),
  (118, .iload 5, 2, [], .null),
  (120, .invokevirtual 88, 3, [162, 3, 3], .null),
  (123, .lstore 12, 2, [], .null),
  (125, .aload_n 0, 1, [], .null),
  (126, .lload 6, 2, [], .null),
  (128, .lload 8, 2, [], .null),
  (130, .invokestatic 91, 3, [191, 2], .null),
  (133, .putfield 62, 3, [2, 4, 1, 0], .null),
  (136, .aload_n 0, 1, [], .null),
  (137, .lload 10, 2, [], .null),
  (139, .lload 12, 2, [], .null),
  (141, .invokestatic 97, 3, [193, 2], .null),
  (144, .putfield 23, 3, [2, 5, 1, 0], .null),
  (147, .aload_n 0, 1, [], .null),
  (148, .lload 6, 2, [], .null),
  (150, .lload 8, 2, [], .null),
  (152, .lcmp, 1, [], .null),
  (153, .ifCond .le 7, 3, [], .null),
  (156, .iload_n 3, 1, [], .null),
  (157, .goto 7, 3, [], .null),
  (160, .aload_n 0, 1, [], .null),
  (161, .getfield 45, 3, [2, 0], .null),
  (164, .putfield 69, 3, [2, 6, 0, 0], .null),
  (167, .return_, 1, [], .null)])
def jp_W_feed : jx_Me := (⟨"JobHouseLaw", "feed", "(LJobHouse;IIIII[J)I"⟩, method_3_code, 8, (some FieldType.int), [(0, 16, 19, 13, 10)], [
  (0, .aload 6, 2, [], .null),
  (2, .iconst 0, 1, [], .int 0),
  (3, .aload_n 0, 1, [], .null),
  (4, .iload_n 1, 1, [], .null),
  (5, .iload_n 2, 1, [], .null),
  (6, .iload_n 3, 1, [], .null),
  (7, .iload 4, 2, [], .null),
  (9, .iload 5, 2, [], .null),
  (11, .invokevirtual 7, 3, [1, 5, 0], .null),
  (14, .i2l, 1, [], .null),
  (15, .lastore, 1, [], .null),
  (16, .goto 7, 3, [], .null),
  (19, .astore 7, 2, [], .null),
  (21, .iconst 1, 1, [], .int 1),
  (22, .ireturn, 1, [], .null),
  (23, .iconst 0, 1, [], .int 0),
  (24, .ireturn, 1, [], .null)])
def jp_W_end : jx_Me := (⟨"JobHouseLaw", "end", "(LJobHouse;I[J)I"⟩, method_4_code, 4, (some FieldType.int), [(0, 9, 12, 19, 11)], [
  (0, .aload_n 2, 1, [], .null),
  (1, .iconst 0, 1, [], .int 0),
  (2, .aload_n 0, 1, [], .null),
  (3, .iload_n 1, 1, [], .null),
  (4, .invokevirtual 15, 3, [2, 1, 0], .null),
  (7, .i2l, 1, [], .null),
  (8, .lastore, 1, [], .null),
  (9, .goto 6, 3, [], .null),
  (12, .astore_n 3, 1, [], .null),
  (13, .iconst 1, 1, [], .int 1),
  (14, .ireturn, 1, [], .null),
  (15, .iconst 0, 1, [], .int 0),
  (16, .ireturn, 1, [], .null)])
def jp_W_zone : jx_Me := (⟨"JobHouseLaw", "zone", "(LJobHouse;I)I"⟩, method_5_code, 3, (some FieldType.int), [(0, 5, 8, 19, 11), (0, 5, 11, 25, 12)], [
  (0, .aload_n 0, 1, [], .null),
  (1, .iload_n 1, 1, [], .null),
  (2, .invokevirtual 21, 3, [3, 1, 0], .null),
  (5, .goto 9, 3, [], .null),
  (8, .astore_n 2, 1, [], .null),
  (9, .iconst 1, 1, [], .int 1),
  (10, .ireturn, 1, [], .null),
  (11, .astore_n 2, 1, [], .null),
  (12, .iconst 2, 1, [], .int 2),
  (13, .ireturn, 1, [], .null),
  (14, .iconst 0, 1, [], .int 0),
  (15, .ireturn, 1, [], .null)])
def jp_W_cron : jx_Me := (⟨"JobHouseLaw", "cron", "(LJobHouse;I)I"⟩, method_6_code, 3, (some FieldType.int), [(0, 5, 8, 19, 11), (0, 5, 11, 25, 12)], [
  (0, .aload_n 0, 1, [], .null),
  (1, .iload_n 1, 1, [], .null),
  (2, .invokevirtual 27, 3, [4, 1, 0], .null),
  (5, .goto 9, 3, [], .null),
  (8, .astore_n 2, 1, [], .null),
  (9, .iconst 1, 1, [], .int 1),
  (10, .ireturn, 1, [], .null),
  (11, .astore_n 2, 1, [], .null),
  (12, .iconst 2, 1, [], .int 2),
  (13, .ireturn, 1, [], .null),
  (14, .iconst 0, 1, [], .int 0),
  (15, .ireturn, 1, [], .null)])
def jp_W_holiday : jx_Me := (⟨"JobHouseLaw", "holiday", "(LJobHouse;IIZ[J)I"⟩, method_7_code, 6, (some FieldType.int), [(0, 12, 15, 19, 11), (0, 12, 19, 13, 10)], [
  (0, .aload 4, 2, [], .null),
  (2, .iconst 0, 1, [], .int 0),
  (3, .aload_n 0, 1, [], .null),
  (4, .iload_n 1, 1, [], .null),
  (5, .iload_n 2, 1, [], .null),
  (6, .iload_n 3, 1, [], .null),
  (7, .invokevirtual 30, 3, [5, 3, 0], .null),
  (10, .i2l, 1, [], .null),
  (11, .lastore, 1, [], .null),
  (12, .goto 11, 3, [], .null),
  (15, .astore 5, 2, [], .null),
  (17, .iconst 1, 1, [], .int 1),
  (18, .ireturn, 1, [], .null),
  (19, .astore 5, 2, [], .null),
  (21, .iconst 2, 1, [], .int 2),
  (22, .ireturn, 1, [], .null),
  (23, .iconst 0, 1, [], .int 0),
  (24, .ireturn, 1, [], .null)])
def jp_W_next : jx_Me := (⟨"JobHouseLaw", "next", "(LJobHouse;IIIJ[J)I"⟩, method_8_code, 8, (some FieldType.int), [(0, 13, 16, 19, 11)], [
  (0, .aload 6, 2, [], .null),
  (2, .iconst 0, 1, [], .int 0),
  (3, .aload_n 0, 1, [], .null),
  (4, .iload_n 1, 1, [], .null),
  (5, .iload_n 2, 1, [], .null),
  (6, .iload_n 3, 1, [], .null),
  (7, .lload 4, 2, [], .null),
  (9, .invokevirtual 34, 3, [6, 4, 0], .null),
  (12, .lastore, 1, [], .null),
  (13, .goto 7, 3, [], .null),
  (16, .astore 7, 2, [], .null),
  (18, .iconst 1, 1, [], .int 1),
  (19, .ireturn, 1, [], .null),
  (20, .iconst 0, 1, [], .int 0),
  (21, .ireturn, 1, [], .null)])
def jp_W_last : jx_Me := (⟨"JobHouseLaw", "last", "(LJobHouse;IIIJ[J)I"⟩, method_9_code, 8, (some FieldType.int), [(0, 13, 16, 19, 11)], [
  (0, .aload 6, 2, [], .null),
  (2, .iconst 0, 1, [], .int 0),
  (3, .aload_n 0, 1, [], .null),
  (4, .iload_n 1, 1, [], .null),
  (5, .iload_n 2, 1, [], .null),
  (6, .iload_n 3, 1, [], .null),
  (7, .lload 4, 2, [], .null),
  (9, .invokevirtual 38, 3, [7, 4, 0], .null),
  (12, .lastore, 1, [], .null),
  (13, .goto 7, 3, [], .null),
  (16, .astore 7, 2, [], .null),
  (18, .iconst 1, 1, [], .int 1),
  (19, .ireturn, 1, [], .null),
  (20, .iconst 0, 1, [], .int 0),
  (21, .ireturn, 1, [], .null)])
def jp_W_local : jx_Me := (⟨"JobHouseLaw", "local", "(LJobHouse;IJI[J)I"⟩, method_10_code, 7, (some FieldType.int), [(0, 13, 16, 19, 11)], [
  (0, .aload 5, 2, [], .null),
  (2, .iconst 0, 1, [], .int 0),
  (3, .aload_n 0, 1, [], .null),
  (4, .iload_n 1, 1, [], .null),
  (5, .lload_n 2, 1, [], .null),
  (6, .iload 4, 2, [], .null),
  (8, .invokevirtual 41, 3, [8, 3, 0], .null),
  (11, .i2l, 1, [], .null),
  (12, .lastore, 1, [], .null),
  (13, .goto 7, 3, [], .null),
  (16, .astore 6, 2, [], .null),
  (18, .iconst 1, 1, [], .int 1),
  (19, .ireturn, 1, [], .null),
  (20, .iconst 0, 1, [], .int 0),
  (21, .ireturn, 1, [], .null)])
def jp_W_make : jx_Me := (⟨"JobHouseLaw", "make", "(LJobHouse;IJJJIII[J)I"⟩, method_11_code, 13, (some FieldType.int), [(0, 21, 24, 19, 11), (0, 21, 28, 49, 13), (0, 21, 32, 13, 10)], [
  (0, .aload 11, 2, [], .null),
  (2, .iconst 0, 1, [], .int 0),
  (3, .aload_n 0, 1, [], .null),
  (4, .iload_n 1, 1, [], .null),
  (5, .lload_n 2, 1, [], .null),
  (6, .lload 4, 2, [], .null),
  (8, .lload 6, 2, [], .null),
  (10, .iload 8, 2, [], .null),
  (12, .iload 9, 2, [], .null),
  (14, .iload 10, 2, [], .null),
  (16, .invokevirtual 45, 3, [9, 7, 0], .null),
  (19, .i2l, 1, [], .null),
  (20, .lastore, 1, [], .null),
  (21, .goto 15, 3, [], .null),
  (24, .astore 12, 2, [], .null),
  (26, .iconst 1, 1, [], .int 1),
  (27, .ireturn, 1, [], .null),
  (28, .astore 12, 2, [], .null),
  (30, .iconst 2, 1, [], .int 2),
  (31, .ireturn, 1, [], .null),
  (32, .astore 12, 2, [], .null),
  (34, .iconst 3, 1, [], .int 3),
  (35, .ireturn, 1, [], .null),
  (36, .iconst 0, 1, [], .int 0),
  (37, .ireturn, 1, [], .null)])
def jp_W_makeCron : jx_Me := (⟨"JobHouseLaw", "makeCron", "(LJobHouse;IIIJIII[J)I"⟩, method_12_code, 11, (some FieldType.int), [(0, 20, 23, 19, 11), (0, 20, 27, 49, 13), (0, 20, 31, 25, 12), (0, 20, 35, 13, 10)], [
  (0, .aload 9, 2, [], .null),
  (2, .iconst 0, 1, [], .int 0),
  (3, .aload_n 0, 1, [], .null),
  (4, .iload_n 1, 1, [], .null),
  (5, .iload_n 2, 1, [], .null),
  (6, .iload_n 3, 1, [], .null),
  (7, .lload 4, 2, [], .null),
  (9, .iload 6, 2, [], .null),
  (11, .iload 7, 2, [], .null),
  (13, .iload 8, 2, [], .null),
  (15, .invokevirtual 51, 3, [10, 7, 0], .null),
  (18, .i2l, 1, [], .null),
  (19, .lastore, 1, [], .null),
  (20, .goto 19, 3, [], .null),
  (23, .astore 10, 2, [], .null),
  (25, .iconst 1, 1, [], .int 1),
  (26, .ireturn, 1, [], .null),
  (27, .astore 10, 2, [], .null),
  (29, .iconst 2, 1, [], .int 2),
  (30, .ireturn, 1, [], .null),
  (31, .astore 10, 2, [], .null),
  (33, .iconst 3, 1, [], .int 3),
  (34, .ireturn, 1, [], .null),
  (35, .astore 10, 2, [], .null),
  (37, .iconst 4, 1, [], .int 4),
  (38, .ireturn, 1, [], .null),
  (39, .iconst 0, 1, [], .int 0),
  (40, .ireturn, 1, [], .null)])
def jp_W_cancel : jx_Me := (⟨"JobHouseLaw", "cancel", "(LJobHouse;I[J)I"⟩, method_13_code, 4, (some FieldType.int), [(0, 9, 12, 58, 14)], [
  (0, .aload_n 2, 1, [], .null),
  (1, .iconst 0, 1, [], .int 0),
  (2, .aload_n 0, 1, [], .null),
  (3, .iload_n 1, 1, [], .null),
  (4, .invokevirtual 55, 3, [11, 1, 0], .null),
  (7, .i2l, 1, [], .null),
  (8, .lastore, 1, [], .null),
  (9, .goto 6, 3, [], .null),
  (12, .astore_n 3, 1, [], .null),
  (13, .iconst 1, 1, [], .int 1),
  (14, .ireturn, 1, [], .null),
  (15, .iconst 0, 1, [], .int 0),
  (16, .ireturn, 1, [], .null)])
def jp_W_workers : jx_Me := (⟨"JobHouseLaw", "workers", "(LJobHouse;I[J)I"⟩, method_14_code, 4, (some FieldType.int), [(0, 9, 12, 19, 11)], [
  (0, .aload_n 2, 1, [], .null),
  (1, .iconst 0, 1, [], .int 0),
  (2, .aload_n 0, 1, [], .null),
  (3, .iload_n 1, 1, [], .null),
  (4, .invokevirtual 60, 3, [12, 1, 0], .null),
  (7, .i2l, 1, [], .null),
  (8, .lastore, 1, [], .null),
  (9, .goto 6, 3, [], .null),
  (12, .astore_n 3, 1, [], .null),
  (13, .iconst 1, 1, [], .int 1),
  (14, .ireturn, 1, [], .null),
  (15, .iconst 0, 1, [], .int 0),
  (16, .ireturn, 1, [], .null)])
def jp_W_advance : jx_Me := (⟨"JobHouseLaw", "advance", "(LJobHouse;J[J)I"⟩, method_15_code, 5, (some FieldType.int), [(0, 9, 12, 19, 11)], [
  (0, .aload_n 3, 1, [], .null),
  (1, .iconst 0, 1, [], .int 0),
  (2, .aload_n 0, 1, [], .null),
  (3, .lload_n 1, 1, [], .null),
  (4, .invokevirtual 63, 3, [13, 1, 0], .null),
  (7, .i2l, 1, [], .null),
  (8, .lastore, 1, [], .null),
  (9, .goto 7, 3, [], .null),
  (12, .astore 4, 2, [], .null),
  (14, .iconst 1, 1, [], .int 1),
  (15, .ireturn, 1, [], .null),
  (16, .iconst 0, 1, [], .int 0),
  (17, .ireturn, 1, [], .null)])
def jp_W_stall : jx_Me := (⟨"JobHouseLaw", "stall", "(LJobHouse;J)I"⟩, method_16_code, 4, (some FieldType.int), [(0, 5, 8, 19, 11)], [
  (0, .aload_n 0, 1, [], .null),
  (1, .lload_n 1, 1, [], .null),
  (2, .invokevirtual 67, 3, [14, 1, 0], .null),
  (5, .goto 6, 3, [], .null),
  (8, .astore_n 3, 1, [], .null),
  (9, .iconst 1, 1, [], .int 1),
  (10, .ireturn, 1, [], .null),
  (11, .iconst 0, 1, [], .int 0),
  (12, .ireturn, 1, [], .null)])
def jp_W_close : jx_Me := (⟨"JobHouseLaw", "close", "(LJobHouse;ZZ[J)I"⟩, method_17_code, 5, (some FieldType.int), [(0, 10, 13, 49, 13)], [
  (0, .aload_n 3, 1, [], .null),
  (1, .iconst 0, 1, [], .int 0),
  (2, .aload_n 0, 1, [], .null),
  (3, .iload_n 1, 1, [], .null),
  (4, .iload_n 2, 1, [], .null),
  (5, .invokevirtual 71, 3, [15, 2, 0], .null),
  (8, .i2l, 1, [], .null),
  (9, .lastore, 1, [], .null),
  (10, .goto 7, 3, [], .null),
  (13, .astore 4, 2, [], .null),
  (15, .iconst 1, 1, [], .int 1),
  (16, .ireturn, 1, [], .null),
  (17, .iconst 0, 1, [], .int 0),
  (18, .ireturn, 1, [], .null)])
def jp_W_job : jx_Me := (⟨"JobHouseLaw", "job", "(LJobHouse;II[J)I"⟩, method_18_code, 5, (some FieldType.int), [(0, 9, 12, 19, 11), (0, 9, 16, 58, 14)], [
  (0, .aload_n 3, 1, [], .null),
  (1, .iconst 0, 1, [], .int 0),
  (2, .aload_n 0, 1, [], .null),
  (3, .iload_n 1, 1, [], .null),
  (4, .iload_n 2, 1, [], .null),
  (5, .invokevirtual 75, 3, [16, 2, 0], .null),
  (8, .lastore, 1, [], .null),
  (9, .goto 11, 3, [], .null),
  (12, .astore 4, 2, [], .null),
  (14, .iconst 1, 1, [], .int 1),
  (15, .ireturn, 1, [], .null),
  (16, .astore 4, 2, [], .null),
  (18, .iconst 2, 1, [], .int 2),
  (19, .ireturn, 1, [], .null),
  (20, .iconst 0, 1, [], .int 0),
  (21, .ireturn, 1, [], .null)])
def jp_W_start : jx_Me := (⟨"JobHouseLaw", "start", "(LJobHouse;II[J)I"⟩, method_19_code, 5, (some FieldType.int), [(0, 9, 12, 19, 11), (0, 9, 16, 58, 14)], [
  (0, .aload_n 3, 1, [], .null),
  (1, .iconst 0, 1, [], .int 0),
  (2, .aload_n 0, 1, [], .null),
  (3, .iload_n 1, 1, [], .null),
  (4, .iload_n 2, 1, [], .null),
  (5, .invokevirtual 79, 3, [17, 2, 0], .null),
  (8, .lastore, 1, [], .null),
  (9, .goto 11, 3, [], .null),
  (12, .astore 4, 2, [], .null),
  (14, .iconst 1, 1, [], .int 1),
  (15, .ireturn, 1, [], .null),
  (16, .astore 4, 2, [], .null),
  (18, .iconst 2, 1, [], .int 2),
  (19, .ireturn, 1, [], .null),
  (20, .iconst 0, 1, [], .int 0),
  (21, .ireturn, 1, [], .null)])
def jp_W_count : jx_Me := (⟨"JobHouseLaw", "count", "(LJobHouse;I[J)I"⟩, method_20_code, 4, (some FieldType.int), [(0, 8, 11, 19, 11)], [
  (0, .aload_n 2, 1, [], .null),
  (1, .iconst 0, 1, [], .int 0),
  (2, .aload_n 0, 1, [], .null),
  (3, .iload_n 1, 1, [], .null),
  (4, .invokevirtual 82, 3, [18, 1, 0], .null),
  (7, .lastore, 1, [], .null),
  (8, .goto 6, 3, [], .null),
  (11, .astore_n 3, 1, [], .null),
  (12, .iconst 1, 1, [], .int 1),
  (13, .ireturn, 1, [], .null),
  (14, .iconst 0, 1, [], .int 0),
  (15, .ireturn, 1, [], .null)])
def jp_Long_bitCount : jx_Me := (⟨"java/lang/Long", "bitCount", "(J)I"⟩, prog_18_method_50_code, 2, (some FieldType.int), [], [
  (0, .lload_n 0, 1, [], .null),
  (1, .lload_n 0, 1, [], .null),
  (2, .iconst 1, 1, [], .int 1),
  (3, .lushr, 1, [], .null),
  (4, .ldc2_w 314, 3, [], .long 6148914691236517205),
  (7, .land, 1, [], .null),
  (8, .lsub, 1, [], .null),
  (9, .lstore_n 0, 1, [], .null),
  (10, .lload_n 0, 1, [], .null),
  (11, .ldc2_w 316, 3, [], .long 3689348814741910323),
  (14, .land, 1, [], .null),
  (15, .lload_n 0, 1, [], .null),
  (16, .iconst 2, 1, [], .int 2),
  (17, .lushr, 1, [], .null),
  (18, .ldc2_w 316, 3, [], .long 3689348814741910323),
  (21, .land, 1, [], .null),
  (22, .ladd, 1, [], .null),
  (23, .lstore_n 0, 1, [], .null),
  (24, .lload_n 0, 1, [], .null),
  (25, .lload_n 0, 1, [], .null),
  (26, .iconst 4, 1, [], .int 4),
  (27, .lushr, 1, [], .null),
  (28, .ladd, 1, [], .null),
  (29, .ldc2_w 318, 3, [], .long 1085102592571150095),
  (32, .land, 1, [], .null),
  (33, .lstore_n 0, 1, [], .null),
  (34, .lload_n 0, 1, [], .null),
  (35, .lload_n 0, 1, [], .null),
  (36, .bipush 8, 2, [], .int 8),
  (38, .lushr, 1, [], .null),
  (39, .ladd, 1, [], .null),
  (40, .lstore_n 0, 1, [], .null),
  (41, .lload_n 0, 1, [], .null),
  (42, .lload_n 0, 1, [], .null),
  (43, .bipush 16, 2, [], .int 16),
  (45, .lushr, 1, [], .null),
  (46, .ladd, 1, [], .null),
  (47, .lstore_n 0, 1, [], .null),
  (48, .lload_n 0, 1, [], .null),
  (49, .lload_n 0, 1, [], .null),
  (50, .bipush 32, 2, [], .int 32),
  (52, .lushr, 1, [], .null),
  (53, .ladd, 1, [], .null),
  (54, .lstore_n 0, 1, [], .null),
  (55, .lload_n 0, 1, [], .null),
  (56, .l2i, 1, [], .null),
  (57, .bipush 127, 2, [], .int 127),
  (59, .iand, 1, [], .null),
  (60, .ireturn, 1, [], .null)])
def jp_Math_floorDiv : jx_Me := (⟨"java/lang/Math", "floorDiv", "(II)I"⟩, prog_19_method_47_code, 3, (some FieldType.int), [], [
  (0, .iload_n 0, 1, [], .null),
  (1, .iload_n 1, 1, [], .null),
  (2, .idiv, 1, [], .null),
  (3, .istore_n 2, 1, [], .null),
  (4, .iload_n 0, 1, [], .null),
  (5, .iload_n 1, 1, [], .null),
  (6, .ixor, 1, [], .null),
  (7, .ifCond .ge 14, 3, [], .null),
  (10, .iload_n 2, 1, [], .null),
  (11, .iload_n 1, 1, [], .null),
  (12, .imul, 1, [], .null),
  (13, .iload_n 0, 1, [], .null),
  (14, .if_icmp .eq 7, 3, [], .null),
  (17, .iload_n 2, 1, [], .null),
  (18, .iconst 1, 1, [], .int 1),
  (19, .isub, 1, [], .null),
  (20, .ireturn, 1, [], .null),
  (21, .iload_n 2, 1, [], .null),
  (22, .ireturn, 1, [], .null)])
def jp_Math_floorDiv2 : jx_Me := (⟨"java/lang/Math", "floorDiv", "(JJ)J"⟩, prog_19_method_49_code, 6, (some FieldType.long), [], [
  (0, .lload_n 0, 1, [], .null),
  (1, .lload_n 2, 1, [], .null),
  (2, .ldiv, 1, [], .null),
  (3, .lstore 4, 2, [], .null),
  (5, .lload_n 0, 1, [], .null),
  (6, .lload_n 2, 1, [], .null),
  (7, .lxor, 1, [], .null),
  (8, .lconst 0, 1, [], .long 0),
  (9, .lcmp, 1, [], .null),
  (10, .ifCond .ge 17, 3, [], .null),
  (13, .lload 4, 2, [], .null),
  (15, .lload_n 2, 1, [], .null),
  (16, .lmul, 1, [], .null),
  (17, .lload_n 0, 1, [], .null),
  (18, .lcmp, 1, [], .null),
  (19, .ifCond .eq 8, 3, [], .null),
  (22, .lload 4, 2, [], .null),
  (24, .lconst 1, 1, [], .long 1),
  (25, .lsub, 1, [], .null),
  (26, .lreturn, 1, [], .null),
  (27, .lload 4, 2, [], .null),
  (29, .lreturn, 1, [], .null)])
def jp_Math_floorMod : jx_Me := (⟨"java/lang/Math", "floorMod", "(II)I"⟩, prog_19_method_50_code, 3, (some FieldType.int), [], [
  (0, .iload_n 0, 1, [], .null),
  (1, .iload_n 1, 1, [], .null),
  (2, .irem, 1, [], .null),
  (3, .istore_n 2, 1, [], .null),
  (4, .iload_n 0, 1, [], .null),
  (5, .iload_n 1, 1, [], .null),
  (6, .ixor, 1, [], .null),
  (7, .ifCond .ge 11, 3, [], .null),
  (10, .iload_n 2, 1, [], .null),
  (11, .ifCond .eq 7, 3, [], .null),
  (14, .iload_n 2, 1, [], .null),
  (15, .iload_n 1, 1, [], .null),
  (16, .iadd, 1, [], .null),
  (17, .ireturn, 1, [], .null),
  (18, .iload_n 2, 1, [], .null),
  (19, .ireturn, 1, [], .null)])
def jp_Math_floorMod2 : jx_Me := (⟨"java/lang/Math", "floorMod", "(JJ)J"⟩, prog_19_method_52_code, 6, (some FieldType.long), [], [
  (0, .lload_n 0, 1, [], .null),
  (1, .lload_n 2, 1, [], .null),
  (2, .lrem, 1, [], .null),
  (3, .lstore 4, 2, [], .null),
  (5, .lload_n 0, 1, [], .null),
  (6, .lload_n 2, 1, [], .null),
  (7, .lxor, 1, [], .null),
  (8, .lconst 0, 1, [], .long 0),
  (9, .lcmp, 1, [], .null),
  (10, .ifCond .ge 15, 3, [], .null),
  (13, .lload 4, 2, [], .null),
  (15, .lconst 0, 1, [], .long 0),
  (16, .lcmp, 1, [], .null),
  (17, .ifCond .eq 8, 3, [], .null),
  (20, .lload 4, 2, [], .null),
  (22, .lload_n 2, 1, [], .null),
  (23, .ladd, 1, [], .null),
  (24, .lreturn, 1, [], .null),
  (25, .lload 4, 2, [], .null),
  (27, .lreturn, 1, [], .null)])
def jp_Math_max : jx_Me := (⟨"java/lang/Math", "max", "(II)I"⟩, prog_19_method_65_code, 2, (some FieldType.int), [], [
  (0, .iload_n 0, 1, [], .null),
  (1, .iload_n 1, 1, [], .null),
  (2, .if_icmp .lt 7, 3, [], .null),
  (5, .iload_n 0, 1, [], .null),
  (6, .goto 4, 3, [], .null),
  (9, .iload_n 1, 1, [], .null),
  (10, .ireturn, 1, [], .null)])
def jp_Math_max2 : jx_Me := (⟨"java/lang/Math", "max", "(JJ)J"⟩, prog_19_method_66_code, 4, (some FieldType.long), [], [
  (0, .lload_n 0, 1, [], .null),
  (1, .lload_n 2, 1, [], .null),
  (2, .lcmp, 1, [], .null),
  (3, .ifCond .lt 7, 3, [], .null),
  (6, .lload_n 0, 1, [], .null),
  (7, .goto 4, 3, [], .null),
  (10, .lload_n 2, 1, [], .null),
  (11, .lreturn, 1, [], .null)])
def jp_Math_min : jx_Me := (⟨"java/lang/Math", "min", "(II)I"⟩, prog_19_method_69_code, 2, (some FieldType.int), [], [
  (0, .iload_n 0, 1, [], .null),
  (1, .iload_n 1, 1, [], .null),
  (2, .if_icmp .gt 7, 3, [], .null),
  (5, .iload_n 0, 1, [], .null),
  (6, .goto 4, 3, [], .null),
  (9, .iload_n 1, 1, [], .null),
  (10, .ireturn, 1, [], .null)])
def jp_Math_min2 : jx_Me := (⟨"java/lang/Math", "min", "(JJ)J"⟩, prog_19_method_70_code, 4, (some FieldType.long), [], [
  (0, .lload_n 0, 1, [], .null),
  (1, .lload_n 2, 1, [], .null),
  (2, .lcmp, 1, [], .null),
  (3, .ifCond .gt 7, 3, [], .null),
  (6, .lload_n 0, 1, [], .null),
  (7, .goto 4, 3, [], .null),
  (10, .lload_n 2, 1, [], .null),
  (11, .lreturn, 1, [], .null)])
def jp_W_law : jx_Me := (⟨"JobHouseLaw", "law", "([I)Z"⟩, code, 8, (some FieldType.boolean), [], [
  (0, .new 8, 3, [0], .null),
  (3, .dup, 1, [], .null),
  (4, .invokespecial 86, 3, [0, 0], .null),
  (7, .astore_n 1, 1, [], .null),
  (8, .new 87, 3, [9], .null),
  (11, .dup, 1, [], .null),
  (12, .invokespecial 89, 3, [36, 0], .null),
  (15, .astore_n 2, 1, [], .null),
  (16, .iconst 1, 1, [], .int 1),
  (17, .newarray .long, 2, [3], .null),
  (19, .astore_n 3, 1, [], .null),
  (20, .iconst 0, 1, [], .int 0),
  (21, .istore 4, 2, [], .null),
  (23, .iload 4, 2, [], .null),
  (25, .aload_n 0, 1, [], .null),
  (26, .arraylength, 1, [], .null),
  (27, .bipush 11, 2, [], .int 11),
  (29, .isub, 1, [], .null),
  (30, .if_icmp .gt 1747, 3, [], .null),
  (33, .aload_n 0, 1, [], .null),
  (34, .iload 4, 2, [], .null),
  (36, .iaload, 1, [], .null),
  (37, .bipush 31, 2, [], .int 31),
  (39, .iand, 1, [], .null),
  (40, .tableswitch 1731 0 17 #[88, 192, 248, 284, 320, 416, 539, 662, 774, 1008, 1174, 1230, 1286, 1374, 1442, 1542, 1609, 1676], 88, [], .null),
  (128, .aload_n 1, 1, [], .null),
  (129, .aload_n 0, 1, [], .null),
  (130, .iload 4, 2, [], .null),
  (132, .iconst 1, 1, [], .int 1),
  (133, .iadd, 1, [], .null),
  (134, .iaload, 1, [], .null),
  (135, .aload_n 0, 1, [], .null),
  (136, .iload 4, 2, [], .null),
  (138, .iconst 2, 1, [], .int 2),
  (139, .iadd, 1, [], .null),
  (140, .iaload, 1, [], .null),
  (141, .aload_n 0, 1, [], .null),
  (142, .iload 4, 2, [], .null),
  (144, .iconst 3, 1, [], .int 3),
  (145, .iadd, 1, [], .null),
  (146, .iaload, 1, [], .null),
  (147, .aload_n 0, 1, [], .null),
  (148, .iload 4, 2, [], .null),
  (150, .iconst 4, 1, [], .int 4),
  (151, .iadd, 1, [], .null),
  (152, .iaload, 1, [], .null),
  (153, .aload_n 0, 1, [], .null),
  (154, .iload 4, 2, [], .null),
  (156, .iconst 5, 1, [], .int 5),
  (157, .iadd, 1, [], .null),
  (158, .iaload, 1, [], .null),
  (159, .aload_n 3, 1, [], .null),
  (160, .invokestatic 90, 3, [167, 7], .null),
  (163, .istore 5, 2, [], .null),
  (165, .aload_n 2, 1, [], .null),
  (166, .aload_n 0, 1, [], .null),
  (167, .iload 4, 2, [], .null),
  (169, .iconst 1, 1, [], .int 1),
  (170, .iadd, 1, [], .null),
  (171, .iaload, 1, [], .null),
  (172, .aload_n 0, 1, [], .null),
  (173, .iload 4, 2, [], .null),
  (175, .iconst 2, 1, [], .int 2),
  (176, .iadd, 1, [], .null),
  (177, .iaload, 1, [], .null),
  (178, .aload_n 0, 1, [], .null),
  (179, .iload 4, 2, [], .null),
  (181, .iconst 3, 1, [], .int 3),
  (182, .iadd, 1, [], .null),
  (183, .iaload, 1, [], .null),
  (184, .aload_n 0, 1, [], .null),
  (185, .iload 4, 2, [], .null),
  (187, .iconst 4, 1, [], .int 4),
  (188, .iadd, 1, [], .null),
  (189, .iaload, 1, [], .null),
  (190, .aload_n 0, 1, [], .null),
  (191, .iload 4, 2, [], .null),
  (193, .iconst 5, 1, [], .int 5),
  (194, .iadd, 1, [], .null),
  (195, .iaload, 1, [], .null),
  (196, .invokevirtual 95, 3, [92, 5, 9], .null),
  (199, .istore 6, 2, [], .null),
  (201, .aload_n 2, 1, [], .null),
  (202, .invokevirtual 96, 3, [37, 0, 9], .null),
  (205, .iload 5, 2, [], .null),
  (207, .if_icmp .eq 5, 3, [], .null),
  (210, .iconst 0, 1, [], .int 0),
  (211, .ireturn, 1, [], .null),
  (212, .iload 5, 2, [], .null),
  (214, .ifCond .ne 15, 3, [], .null),
  (217, .aload_n 3, 1, [], .null),
  (218, .iconst 0, 1, [], .int 0),
  (219, .laload, 1, [], .null),
  (220, .iload 6, 2, [], .null),
  (222, .i2l, 1, [], .null),
  (223, .lcmp, 1, [], .null),
  (224, .ifCond .eq 5, 3, [], .null),
  (227, .iconst 0, 1, [], .int 0),
  (228, .ireturn, 1, [], .null),
  (229, .goto 1542, 3, [], .null),
  (232, .aload_n 1, 1, [], .null),
  (233, .aload_n 0, 1, [], .null),
  (234, .iload 4, 2, [], .null),
  (236, .iconst 1, 1, [], .int 1),
  (237, .iadd, 1, [], .null),
  (238, .iaload, 1, [], .null),
  (239, .aload_n 3, 1, [], .null),
  (240, .invokestatic 100, 3, [168, 3], .null),
  (243, .istore 5, 2, [], .null),
  (245, .aload_n 2, 1, [], .null),
  (246, .aload_n 0, 1, [], .null),
  (247, .iload 4, 2, [], .null),
  (249, .iconst 1, 1, [], .int 1),
  (250, .iadd, 1, [], .null),
  (251, .iaload, 1, [], .null),
  (252, .invokevirtual 103, 3, [93, 1, 9], .null),
  (255, .istore 6, 2, [], .null),
  (257, .aload_n 2, 1, [], .null),
  (258, .invokevirtual 96, 3, [37, 0, 9], .null),
  (261, .iload 5, 2, [], .null),
  (263, .if_icmp .eq 5, 3, [], .null),
  (266, .iconst 0, 1, [], .int 0),
  (267, .ireturn, 1, [], .null),
  (268, .iload 5, 2, [], .null),
  (270, .ifCond .ne 15, 3, [], .null),
  (273, .aload_n 3, 1, [], .null),
  (274, .iconst 0, 1, [], .int 0),
  (275, .laload, 1, [], .null),
  (276, .iload 6, 2, [], .null),
  (278, .i2l, 1, [], .null),
  (279, .lcmp, 1, [], .null),
  (280, .ifCond .eq 5, 3, [], .null),
  (283, .iconst 0, 1, [], .int 0),
  (284, .ireturn, 1, [], .null),
  (285, .goto 1486, 3, [], .null),
  (288, .aload_n 1, 1, [], .null),
  (289, .aload_n 0, 1, [], .null),
  (290, .iload 4, 2, [], .null),
  (292, .iconst 1, 1, [], .int 1),
  (293, .iadd, 1, [], .null),
  (294, .iaload, 1, [], .null),
  (295, .invokestatic 104, 3, [169, 2], .null),
  (298, .istore 5, 2, [], .null),
  (300, .aload_n 2, 1, [], .null),
  (301, .aload_n 0, 1, [], .null),
  (302, .iload 4, 2, [], .null),
  (304, .iconst 1, 1, [], .int 1),
  (305, .iadd, 1, [], .null),
  (306, .iaload, 1, [], .null),
  (307, .invokevirtual 107, 3, [53, 1, 9], .null),
  (310, .aload_n 2, 1, [], .null),
  (311, .invokevirtual 96, 3, [37, 0, 9], .null),
  (314, .iload 5, 2, [], .null),
  (316, .if_icmp .eq 5, 3, [], .null),
  (319, .iconst 0, 1, [], .int 0),
  (320, .ireturn, 1, [], .null),
  (321, .goto 1450, 3, [], .null),
  (324, .aload_n 1, 1, [], .null),
  (325, .aload_n 0, 1, [], .null),
  (326, .iload 4, 2, [], .null),
  (328, .iconst 1, 1, [], .int 1),
  (329, .iadd, 1, [], .null),
  (330, .iaload, 1, [], .null),
  (331, .invokestatic 108, 3, [170, 2], .null),
  (334, .istore 5, 2, [], .null),
  (336, .aload_n 2, 1, [], .null),
  (337, .aload_n 0, 1, [], .null),
  (338, .iload 4, 2, [], .null),
  (340, .iconst 1, 1, [], .int 1),
  (341, .iadd, 1, [], .null),
  (342, .iaload, 1, [], .null),
  (343, .invokevirtual 110, 3, [63, 1, 9], .null),
  (346, .aload_n 2, 1, [], .null),
  (347, .invokevirtual 96, 3, [37, 0, 9], .null),
  (350, .iload 5, 2, [], .null),
  (352, .if_icmp .eq 5, 3, [], .null),
  (355, .iconst 0, 1, [], .int 0),
  (356, .ireturn, 1, [], .null),
  (357, .goto 1414, 3, [], .null),
  (360, .aload_n 1, 1, [], .null),
  (361, .aload_n 0, 1, [], .null),
  (362, .iload 4, 2, [], .null),
  (364, .iconst 1, 1, [], .int 1),
  (365, .iadd, 1, [], .null),
  (366, .iaload, 1, [], .null),
  (367, .aload_n 0, 1, [], .null),
  (368, .iload 4, 2, [], .null),
  (370, .iconst 2, 1, [], .int 2),
  (371, .iadd, 1, [], .null),
  (372, .iaload, 1, [], .null),
  (373, .aload_n 0, 1, [], .null),
  (374, .iload 4, 2, [], .null),
  (376, .iconst 3, 1, [], .int 3),
  (377, .iadd, 1, [], .null),
  (378, .iaload, 1, [], .null),
  (379, .ifCond .eq 7, 3, [], .null),
  (382, .iconst 1, 1, [], .int 1),
  (383, .goto 4, 3, [], .null),
  (386, .iconst 0, 1, [], .int 0),
  (387, .aload_n 3, 1, [], .null),
  (388, .invokestatic 111, 3, [171, 5], .null),
  (391, .istore 5, 2, [], .null),
  (393, .aload_n 2, 1, [], .null),
  (394, .aload_n 0, 1, [], .null),
  (395, .iload 4, 2, [], .null),
  (397, .iconst 1, 1, [], .int 1),
  (398, .iadd, 1, [], .null),
  (399, .iaload, 1, [], .null),
  (400, .aload_n 0, 1, [], .null),
  (401, .iload 4, 2, [], .null),
  (403, .iconst 2, 1, [], .int 2),
  (404, .iadd, 1, [], .null),
  (405, .iaload, 1, [], .null),
  (406, .aload_n 0, 1, [], .null),
  (407, .iload 4, 2, [], .null),
  (409, .iconst 3, 1, [], .int 3),
  (410, .iadd, 1, [], .null),
  (411, .iaload, 1, [], .null),
  (412, .ifCond .eq 7, 3, [], .null),
  (415, .iconst 1, 1, [], .int 1),
  (416, .goto 4, 3, [], .null),
  (419, .iconst 0, 1, [], .int 0),
  (420, .invokevirtual 114, 3, [64, 3, 9], .null),
  (423, .istore 6, 2, [], .null),
  (425, .aload_n 2, 1, [], .null),
  (426, .invokevirtual 96, 3, [37, 0, 9], .null),
  (429, .iload 5, 2, [], .null),
  (431, .if_icmp .eq 5, 3, [], .null),
  (434, .iconst 0, 1, [], .int 0),
  (435, .ireturn, 1, [], .null),
  (436, .iload 5, 2, [], .null),
  (438, .ifCond .ne 15, 3, [], .null),
  (441, .aload_n 3, 1, [], .null),
  (442, .iconst 0, 1, [], .int 0),
  (443, .laload, 1, [], .null),
  (444, .iload 6, 2, [], .null),
  (446, .i2l, 1, [], .null),
  (447, .lcmp, 1, [], .null),
  (448, .ifCond .eq 5, 3, [], .null),
  (451, .iconst 0, 1, [], .int 0),
  (452, .ireturn, 1, [], .null),
  (453, .goto 1318, 3, [], .null),
  (456, .aload_n 1, 1, [], .null),
  (457, .aload_n 0, 1, [], .null),
  (458, .iload 4, 2, [], .null),
  (460, .iconst 1, 1, [], .int 1),
  (461, .iadd, 1, [], .null),
  (462, .iaload, 1, [], .null),
  (463, .aload_n 0, 1, [], .null),
  (464, .iload 4, 2, [], .null),
  (466, .iconst 2, 1, [], .int 2),
  (467, .iadd, 1, [], .null),
  (468, .iaload, 1, [], .null),
  (469, .aload_n 0, 1, [], .null),
  (470, .iload 4, 2, [], .null),
  (472, .iconst 3, 1, [], .int 3),
  (473, .iadd, 1, [], .null),
  (474, .iaload, 1, [], .null),
  (475, .aload_n 0, 1, [], .null),
  (476, .iload 4, 2, [], .null),
  (478, .iconst 4, 1, [], .int 4),
  (479, .iadd, 1, [], .null),
  (480, .iaload, 1, [], .null),
  (481, .i2l, 1, [], .null),
  (482, .bipush 32, 2, [], .int 32),
  (484, .lshl, 1, [], .null),
  (485, .aload_n 0, 1, [], .null),
  (486, .iload 4, 2, [], .null),
  (488, .iconst 5, 1, [], .int 5),
  (489, .iadd, 1, [], .null),
  (490, .iaload, 1, [], .null),
  (491, .i2l, 1, [], .null),
  (492, .ldc2_w 115, 3, [], .long 4294967295),
  (495, .land, 1, [], .null),
  (496, .lor, 1, [], .null),
  (497, .aload_n 3, 1, [], .null),
  (498, .invokestatic 117, 3, [172, 6], .null),
  (501, .istore 5, 2, [], .null),
  (503, .aload_n 2, 1, [], .null),
  (504, .aload_n 0, 1, [], .null),
  (505, .iload 4, 2, [], .null),
  (507, .iconst 1, 1, [], .int 1),
  (508, .iadd, 1, [], .null),
  (509, .iaload, 1, [], .null),
  (510, .aload_n 0, 1, [], .null),
  (511, .iload 4, 2, [], .null),
  (513, .iconst 2, 1, [], .int 2),
  (514, .iadd, 1, [], .null),
  (515, .iaload, 1, [], .null),
  (516, .aload_n 0, 1, [], .null),
  (517, .iload 4, 2, [], .null),
  (519, .iconst 3, 1, [], .int 3),
  (520, .iadd, 1, [], .null),
  (521, .iaload, 1, [], .null),
  (522, .aload_n 0, 1, [], .null),
  (523, .iload 4, 2, [], .null),
  (525, .iconst 4, 1, [], .int 4),
  (526, .iadd, 1, [], .null),
  (527, .iaload, 1, [], .null),
  (528, .i2l, 1, [], .null),
  (529, .bipush 32, 2, [], .int 32),
  (531, .lshl, 1, [], .null),
  (532, .aload_n 0, 1, [], .null),
  (533, .iload 4, 2, [], .null),
  (535, .iconst 5, 1, [], .int 5),
  (536, .iadd, 1, [], .null),
  (537, .iaload, 1, [], .null),
  (538, .i2l, 1, [], .null),
  (539, .ldc2_w 115, 3, [], .long 4294967295),
  (542, .land, 1, [], .null),
  (543, .lor, 1, [], .null),
  (544, .invokevirtual 120, 3, [72, 4, 9], .null),
  (547, .lstore 6, 2, [], .null),
  (549, .aload_n 2, 1, [], .null),
  (550, .invokevirtual 96, 3, [37, 0, 9], .null),
  (553, .iload 5, 2, [], .null),
  (555, .if_icmp .eq 5, 3, [], .null),
  (558, .iconst 0, 1, [], .int 0),
  (559, .ireturn, 1, [], .null),
  (560, .iload 5, 2, [], .null),
  (562, .ifCond .ne 14, 3, [], .null),
  (565, .aload_n 3, 1, [], .null),
  (566, .iconst 0, 1, [], .int 0),
  (567, .laload, 1, [], .null),
  (568, .lload 6, 2, [], .null),
  (570, .lcmp, 1, [], .null),
  (571, .ifCond .eq 5, 3, [], .null),
  (574, .iconst 0, 1, [], .int 0),
  (575, .ireturn, 1, [], .null),
  (576, .goto 1195, 3, [], .null),
  (579, .aload_n 1, 1, [], .null),
  (580, .aload_n 0, 1, [], .null),
  (581, .iload 4, 2, [], .null),
  (583, .iconst 1, 1, [], .int 1),
  (584, .iadd, 1, [], .null),
  (585, .iaload, 1, [], .null),
  (586, .aload_n 0, 1, [], .null),
  (587, .iload 4, 2, [], .null),
  (589, .iconst 2, 1, [], .int 2),
  (590, .iadd, 1, [], .null),
  (591, .iaload, 1, [], .null),
  (592, .aload_n 0, 1, [], .null),
  (593, .iload 4, 2, [], .null),
  (595, .iconst 3, 1, [], .int 3),
  (596, .iadd, 1, [], .null),
  (597, .iaload, 1, [], .null),
  (598, .aload_n 0, 1, [], .null),
  (599, .iload 4, 2, [], .null),
  (601, .iconst 4, 1, [], .int 4),
  (602, .iadd, 1, [], .null),
  (603, .iaload, 1, [], .null),
  (604, .i2l, 1, [], .null),
  (605, .bipush 32, 2, [], .int 32),
  (607, .lshl, 1, [], .null),
  (608, .aload_n 0, 1, [], .null),
  (609, .iload 4, 2, [], .null),
  (611, .iconst 5, 1, [], .int 5),
  (612, .iadd, 1, [], .null),
  (613, .iaload, 1, [], .null),
  (614, .i2l, 1, [], .null),
  (615, .ldc2_w 115, 3, [], .long 4294967295),
  (618, .land, 1, [], .null),
  (619, .lor, 1, [], .null),
  (620, .aload_n 3, 1, [], .null),
  (621, .invokestatic 121, 3, [173, 6], .null),
  (624, .istore 5, 2, [], .null),
  (626, .aload_n 2, 1, [], .null),
  (627, .aload_n 0, 1, [], .null),
  (628, .iload 4, 2, [], .null),
  (630, .iconst 1, 1, [], .int 1),
  (631, .iadd, 1, [], .null),
  (632, .iaload, 1, [], .null),
  (633, .aload_n 0, 1, [], .null),
  (634, .iload 4, 2, [], .null),
  (636, .iconst 2, 1, [], .int 2),
  (637, .iadd, 1, [], .null),
  (638, .iaload, 1, [], .null),
  (639, .aload_n 0, 1, [], .null),
  (640, .iload 4, 2, [], .null),
  (642, .iconst 3, 1, [], .int 3),
  (643, .iadd, 1, [], .null),
  (644, .iaload, 1, [], .null),
  (645, .aload_n 0, 1, [], .null),
  (646, .iload 4, 2, [], .null),
  (648, .iconst 4, 1, [], .int 4),
  (649, .iadd, 1, [], .null),
  (650, .iaload, 1, [], .null),
  (651, .i2l, 1, [], .null),
  (652, .bipush 32, 2, [], .int 32),
  (654, .lshl, 1, [], .null),
  (655, .aload_n 0, 1, [], .null),
  (656, .iload 4, 2, [], .null),
  (658, .iconst 5, 1, [], .int 5),
  (659, .iadd, 1, [], .null),
  (660, .iaload, 1, [], .null),
  (661, .i2l, 1, [], .null),
  (662, .ldc2_w 115, 3, [], .long 4294967295),
  (665, .land, 1, [], .null),
  (666, .lor, 1, [], .null),
  (667, .invokevirtual 123, 3, [73, 4, 9], .null),
  (670, .lstore 6, 2, [], .null),
  (672, .aload_n 2, 1, [], .null),
  (673, .invokevirtual 96, 3, [37, 0, 9], .null),
  (676, .iload 5, 2, [], .null),
  (678, .if_icmp .eq 5, 3, [], .null),
  (681, .iconst 0, 1, [], .int 0),
  (682, .ireturn, 1, [], .null),
  (683, .iload 5, 2, [], .null),
  (685, .ifCond .ne 14, 3, [], .null),
  (688, .aload_n 3, 1, [], .null),
  (689, .iconst 0, 1, [], .int 0),
  (690, .laload, 1, [], .null),
  (691, .lload 6, 2, [], .null),
  (693, .lcmp, 1, [], .null),
  (694, .ifCond .eq 5, 3, [], .null),
  (697, .iconst 0, 1, [], .int 0),
  (698, .ireturn, 1, [], .null),
  (699, .goto 1072, 3, [], .null),
  (702, .aload_n 1, 1, [], .null),
  (703, .aload_n 0, 1, [], .null),
  (704, .iload 4, 2, [], .null),
  (706, .iconst 1, 1, [], .int 1),
  (707, .iadd, 1, [], .null),
  (708, .iaload, 1, [], .null),
  (709, .aload_n 0, 1, [], .null),
  (710, .iload 4, 2, [], .null),
  (712, .iconst 2, 1, [], .int 2),
  (713, .iadd, 1, [], .null),
  (714, .iaload, 1, [], .null),
  (715, .i2l, 1, [], .null),
  (716, .bipush 32, 2, [], .int 32),
  (718, .lshl, 1, [], .null),
  (719, .aload_n 0, 1, [], .null),
  (720, .iload 4, 2, [], .null),
  (722, .iconst 3, 1, [], .int 3),
  (723, .iadd, 1, [], .null),
  (724, .iaload, 1, [], .null),
  (725, .i2l, 1, [], .null),
  (726, .ldc2_w 115, 3, [], .long 4294967295),
  (729, .land, 1, [], .null),
  (730, .lor, 1, [], .null),
  (731, .aload_n 0, 1, [], .null),
  (732, .iload 4, 2, [], .null),
  (734, .iconst 4, 1, [], .int 4),
  (735, .iadd, 1, [], .null),
  (736, .iaload, 1, [], .null),
  (737, .aload_n 3, 1, [], .null),
  (738, .invokestatic 124, 3, [174, 5], .null),
  (741, .istore 5, 2, [], .null),
  (743, .aload_n 2, 1, [], .null),
  (744, .aload_n 0, 1, [], .null),
  (745, .iload 4, 2, [], .null),
  (747, .iconst 1, 1, [], .int 1),
  (748, .iadd, 1, [], .null),
  (749, .iaload, 1, [], .null),
  (750, .aload_n 0, 1, [], .null),
  (751, .iload 4, 2, [], .null),
  (753, .iconst 2, 1, [], .int 2),
  (754, .iadd, 1, [], .null),
  (755, .iaload, 1, [], .null),
  (756, .i2l, 1, [], .null),
  (757, .bipush 32, 2, [], .int 32),
  (759, .lshl, 1, [], .null),
  (760, .aload_n 0, 1, [], .null),
  (761, .iload 4, 2, [], .null),
  (763, .iconst 3, 1, [], .int 3),
  (764, .iadd, 1, [], .null),
  (765, .iaload, 1, [], .null),
  (766, .i2l, 1, [], .null),
  (767, .ldc2_w 115, 3, [], .long 4294967295),
  (770, .land, 1, [], .null),
  (771, .lor, 1, [], .null),
  (772, .aload_n 0, 1, [], .null),
  (773, .iload 4, 2, [], .null),
  (775, .iconst 4, 1, [], .int 4),
  (776, .iadd, 1, [], .null),
  (777, .iaload, 1, [], .null),
  (778, .invokevirtual 127, 3, [74, 3, 9], .null),
  (781, .istore 6, 2, [], .null),
  (783, .aload_n 2, 1, [], .null),
  (784, .invokevirtual 96, 3, [37, 0, 9], .null),
  (787, .iload 5, 2, [], .null),
  (789, .if_icmp .eq 5, 3, [], .null),
  (792, .iconst 0, 1, [], .int 0),
  (793, .ireturn, 1, [], .null),
  (794, .iload 5, 2, [], .null),
  (796, .ifCond .ne 15, 3, [], .null),
  (799, .aload_n 3, 1, [], .null),
  (800, .iconst 0, 1, [], .int 0),
  (801, .laload, 1, [], .null),
  (802, .iload 6, 2, [], .null),
  (804, .i2l, 1, [], .null),
  (805, .lcmp, 1, [], .null),
  (806, .ifCond .eq 5, 3, [], .null),
  (809, .iconst 0, 1, [], .int 0),
  (810, .ireturn, 1, [], .null),
  (811, .goto 960, 3, [], .null),
  (814, .aload_n 1, 1, [], .null),
  (815, .aload_n 0, 1, [], .null),
  (816, .iload 4, 2, [], .null),
  (818, .iconst 1, 1, [], .int 1),
  (819, .iadd, 1, [], .null),
  (820, .iaload, 1, [], .null),
  (821, .aload_n 0, 1, [], .null),
  (822, .iload 4, 2, [], .null),
  (824, .iconst 2, 1, [], .int 2),
  (825, .iadd, 1, [], .null),
  (826, .iaload, 1, [], .null),
  (827, .i2l, 1, [], .null),
  (828, .bipush 32, 2, [], .int 32),
  (830, .lshl, 1, [], .null),
  (831, .aload_n 0, 1, [], .null),
  (832, .iload 4, 2, [], .null),
  (834, .iconst 3, 1, [], .int 3),
  (835, .iadd, 1, [], .null),
  (836, .iaload, 1, [], .null),
  (837, .i2l, 1, [], .null),
  (838, .ldc2_w 115, 3, [], .long 4294967295),
  (841, .land, 1, [], .null),
  (842, .lor, 1, [], .null),
  (843, .aload_n 0, 1, [], .null),
  (844, .iload 4, 2, [], .null),
  (846, .iconst 4, 1, [], .int 4),
  (847, .iadd, 1, [], .null),
  (848, .iaload, 1, [], .null),
  (849, .i2l, 1, [], .null),
  (850, .bipush 32, 2, [], .int 32),
  (852, .lshl, 1, [], .null),
  (853, .aload_n 0, 1, [], .null),
  (854, .iload 4, 2, [], .null),
  (856, .iconst 5, 1, [], .int 5),
  (857, .iadd, 1, [], .null),
  (858, .iaload, 1, [], .null),
  (859, .i2l, 1, [], .null),
  (860, .ldc2_w 115, 3, [], .long 4294967295),
  (863, .land, 1, [], .null),
  (864, .lor, 1, [], .null),
  (865, .aload_n 0, 1, [], .null),
  (866, .iload 4, 2, [], .null),
  (868, .bipush 6, 2, [], .int 6),
  (870, .iadd, 1, [], .null),
  (871, .iaload, 1, [], .null),
  (872, .i2l, 1, [], .null),
  (873, .bipush 32, 2, [], .int 32),
  (875, .lshl, 1, [], .null),
  (876, .aload_n 0, 1, [], .null),
  (877, .iload 4, 2, [], .null),
  (879, .bipush 7, 2, [], .int 7),
  (881, .iadd, 1, [], .null),
  (882, .iaload, 1, [], .null),
  (883, .i2l, 1, [], .null),
  (884, .ldc2_w 115, 3, [], .long 4294967295),
  (887, .land, 1, [], .null),
  (888, .lor, 1, [], .null),
  (889, .aload_n 0, 1, [], .null),
  (890, .iload 4, 2, [], .null),
  (892, .bipush 8, 2, [], .int 8),
  (894, .iadd, 1, [], .null),
  (895, .iaload, 1, [], .null),
  (896, .aload_n 0, 1, [], .null),
  (897, .iload 4, 2, [], .null),
  (899, .bipush 9, 2, [], .int 9),
  (901, .iadd, 1, [], .null),
  (902, .iaload, 1, [], .null),
  (903, .aload_n 0, 1, [], .null),
  (904, .iload 4, 2, [], .null),
  (906, .bipush 10, 2, [], .int 10),
  (908, .iadd, 1, [], .null),
  (909, .iaload, 1, [], .null),
  (910, .aload_n 3, 1, [], .null),
  (911, .invokestatic 128, 3, [175, 9], .null),
  (914, .istore 5, 2, [], .null),
  (916, .aload_n 2, 1, [], .null),
  (917, .aload_n 0, 1, [], .null),
  (918, .iload 4, 2, [], .null),
  (920, .iconst 1, 1, [], .int 1),
  (921, .iadd, 1, [], .null),
  (922, .iaload, 1, [], .null),
  (923, .aload_n 0, 1, [], .null),
  (924, .iload 4, 2, [], .null),
  (926, .iconst 2, 1, [], .int 2),
  (927, .iadd, 1, [], .null),
  (928, .iaload, 1, [], .null),
  (929, .i2l, 1, [], .null),
  (930, .bipush 32, 2, [], .int 32),
  (932, .lshl, 1, [], .null),
  (933, .aload_n 0, 1, [], .null),
  (934, .iload 4, 2, [], .null),
  (936, .iconst 3, 1, [], .int 3),
  (937, .iadd, 1, [], .null),
  (938, .iaload, 1, [], .null),
  (939, .i2l, 1, [], .null),
  (940, .ldc2_w 115, 3, [], .long 4294967295),
  (943, .land, 1, [], .null),
  (944, .lor, 1, [], .null),
  (945, .aload_n 0, 1, [], .null),
  (946, .iload 4, 2, [], .null),
  (948, .iconst 4, 1, [], .int 4),
  (949, .iadd, 1, [], .null),
  (950, .iaload, 1, [], .null),
  (951, .i2l, 1, [], .null),
  (952, .bipush 32, 2, [], .int 32),
  (954, .lshl, 1, [], .null),
  (955, .aload_n 0, 1, [], .null),
  (956, .iload 4, 2, [], .null),
  (958, .iconst 5, 1, [], .int 5),
  (959, .iadd, 1, [], .null),
  (960, .iaload, 1, [], .null),
  (961, .i2l, 1, [], .null),
  (962, .ldc2_w 115, 3, [], .long 4294967295),
  (965, .land, 1, [], .null),
  (966, .lor, 1, [], .null),
  (967, .aload_n 0, 1, [], .null),
  (968, .iload 4, 2, [], .null),
  (970, .bipush 6, 2, [], .int 6),
  (972, .iadd, 1, [], .null),
  (973, .iaload, 1, [], .null),
  (974, .i2l, 1, [], .null),
  (975, .bipush 32, 2, [], .int 32),
  (977, .lshl, 1, [], .null),
  (978, .aload_n 0, 1, [], .null),
  (979, .iload 4, 2, [], .null),
  (981, .bipush 7, 2, [], .int 7),
  (983, .iadd, 1, [], .null),
  (984, .iaload, 1, [], .null),
  (985, .i2l, 1, [], .null),
  (986, .ldc2_w 115, 3, [], .long 4294967295),
  (989, .land, 1, [], .null),
  (990, .lor, 1, [], .null),
  (991, .aload_n 0, 1, [], .null),
  (992, .iload 4, 2, [], .null),
  (994, .bipush 8, 2, [], .int 8),
  (996, .iadd, 1, [], .null),
  (997, .iaload, 1, [], .null),
  (998, .aload_n 0, 1, [], .null),
  (999, .iload 4, 2, [], .null),
  (1001, .bipush 9, 2, [], .int 9),
  (1003, .iadd, 1, [], .null),
  (1004, .iaload, 1, [], .null),
  (1005, .aload_n 0, 1, [], .null),
  (1006, .iload 4, 2, [], .null),
  (1008, .bipush 10, 2, [], .int 10),
  (1010, .iadd, 1, [], .null),
  (1011, .iaload, 1, [], .null),
  (1012, .invokevirtual 131, 3, [76, 7, 9], .null),
  (1015, .istore 6, 2, [], .null),
  (1017, .aload_n 2, 1, [], .null),
  (1018, .invokevirtual 96, 3, [37, 0, 9], .null),
  (1021, .iload 5, 2, [], .null),
  (1023, .if_icmp .eq 5, 3, [], .null),
  (1026, .iconst 0, 1, [], .int 0),
  (1027, .ireturn, 1, [], .null),
  (1028, .iload 5, 2, [], .null),
  (1030, .ifCond .ne 15, 3, [], .null),
  (1033, .aload_n 3, 1, [], .null),
  (1034, .iconst 0, 1, [], .int 0),
  (1035, .laload, 1, [], .null),
  (1036, .iload 6, 2, [], .null),
  (1038, .i2l, 1, [], .null),
  (1039, .lcmp, 1, [], .null),
  (1040, .ifCond .eq 5, 3, [], .null),
  (1043, .iconst 0, 1, [], .int 0),
  (1044, .ireturn, 1, [], .null),
  (1045, .goto 726, 3, [], .null),
  (1048, .aload_n 1, 1, [], .null),
  (1049, .aload_n 0, 1, [], .null),
  (1050, .iload 4, 2, [], .null),
  (1052, .iconst 1, 1, [], .int 1),
  (1053, .iadd, 1, [], .null),
  (1054, .iaload, 1, [], .null),
  (1055, .aload_n 0, 1, [], .null),
  (1056, .iload 4, 2, [], .null),
  (1058, .iconst 2, 1, [], .int 2),
  (1059, .iadd, 1, [], .null),
  (1060, .iaload, 1, [], .null),
  (1061, .aload_n 0, 1, [], .null),
  (1062, .iload 4, 2, [], .null),
  (1064, .iconst 3, 1, [], .int 3),
  (1065, .iadd, 1, [], .null),
  (1066, .iaload, 1, [], .null),
  (1067, .aload_n 0, 1, [], .null),
  (1068, .iload 4, 2, [], .null),
  (1070, .iconst 4, 1, [], .int 4),
  (1071, .iadd, 1, [], .null),
  (1072, .iaload, 1, [], .null),
  (1073, .i2l, 1, [], .null),
  (1074, .bipush 32, 2, [], .int 32),
  (1076, .lshl, 1, [], .null),
  (1077, .aload_n 0, 1, [], .null),
  (1078, .iload 4, 2, [], .null),
  (1080, .iconst 5, 1, [], .int 5),
  (1081, .iadd, 1, [], .null),
  (1082, .iaload, 1, [], .null),
  (1083, .i2l, 1, [], .null),
  (1084, .ldc2_w 115, 3, [], .long 4294967295),
  (1087, .land, 1, [], .null),
  (1088, .lor, 1, [], .null),
  (1089, .aload_n 0, 1, [], .null),
  (1090, .iload 4, 2, [], .null),
  (1092, .bipush 6, 2, [], .int 6),
  (1094, .iadd, 1, [], .null),
  (1095, .iaload, 1, [], .null),
  (1096, .aload_n 0, 1, [], .null),
  (1097, .iload 4, 2, [], .null),
  (1099, .bipush 7, 2, [], .int 7),
  (1101, .iadd, 1, [], .null),
  (1102, .iaload, 1, [], .null),
  (1103, .aload_n 0, 1, [], .null),
  (1104, .iload 4, 2, [], .null),
  (1106, .bipush 8, 2, [], .int 8),
  (1108, .iadd, 1, [], .null),
  (1109, .iaload, 1, [], .null),
  (1110, .aload_n 3, 1, [], .null),
  (1111, .invokestatic 132, 3, [176, 9], .null),
  (1114, .istore 5, 2, [], .null),
  (1116, .aload_n 2, 1, [], .null),
  (1117, .aload_n 0, 1, [], .null),
  (1118, .iload 4, 2, [], .null),
  (1120, .iconst 1, 1, [], .int 1),
  (1121, .iadd, 1, [], .null),
  (1122, .iaload, 1, [], .null),
  (1123, .aload_n 0, 1, [], .null),
  (1124, .iload 4, 2, [], .null),
  (1126, .iconst 2, 1, [], .int 2),
  (1127, .iadd, 1, [], .null),
  (1128, .iaload, 1, [], .null),
  (1129, .aload_n 0, 1, [], .null),
  (1130, .iload 4, 2, [], .null),
  (1132, .iconst 3, 1, [], .int 3),
  (1133, .iadd, 1, [], .null),
  (1134, .iaload, 1, [], .null),
  (1135, .aload_n 0, 1, [], .null),
  (1136, .iload 4, 2, [], .null),
  (1138, .iconst 4, 1, [], .int 4),
  (1139, .iadd, 1, [], .null),
  (1140, .iaload, 1, [], .null),
  (1141, .i2l, 1, [], .null),
  (1142, .bipush 32, 2, [], .int 32),
  (1144, .lshl, 1, [], .null),
  (1145, .aload_n 0, 1, [], .null),
  (1146, .iload 4, 2, [], .null),
  (1148, .iconst 5, 1, [], .int 5),
  (1149, .iadd, 1, [], .null),
  (1150, .iaload, 1, [], .null),
  (1151, .i2l, 1, [], .null),
  (1152, .ldc2_w 115, 3, [], .long 4294967295),
  (1155, .land, 1, [], .null),
  (1156, .lor, 1, [], .null),
  (1157, .aload_n 0, 1, [], .null),
  (1158, .iload 4, 2, [], .null),
  (1160, .bipush 6, 2, [], .int 6),
  (1162, .iadd, 1, [], .null),
  (1163, .iaload, 1, [], .null),
  (1164, .aload_n 0, 1, [], .null),
  (1165, .iload 4, 2, [], .null),
  (1167, .bipush 7, 2, [], .int 7),
  (1169, .iadd, 1, [], .null),
  (1170, .iaload, 1, [], .null),
  (1171, .aload_n 0, 1, [], .null),
  (1172, .iload 4, 2, [], .null),
  (1174, .bipush 8, 2, [], .int 8),
  (1176, .iadd, 1, [], .null),
  (1177, .iaload, 1, [], .null),
  (1178, .invokevirtual 135, 3, [77, 7, 9], .null),
  (1181, .istore 6, 2, [], .null),
  (1183, .aload_n 2, 1, [], .null),
  (1184, .invokevirtual 96, 3, [37, 0, 9], .null),
  (1187, .iload 5, 2, [], .null),
  (1189, .if_icmp .eq 5, 3, [], .null),
  (1192, .iconst 0, 1, [], .int 0),
  (1193, .ireturn, 1, [], .null),
  (1194, .iload 5, 2, [], .null),
  (1196, .ifCond .ne 15, 3, [], .null),
  (1199, .aload_n 3, 1, [], .null),
  (1200, .iconst 0, 1, [], .int 0),
  (1201, .laload, 1, [], .null),
  (1202, .iload 6, 2, [], .null),
  (1204, .i2l, 1, [], .null),
  (1205, .lcmp, 1, [], .null),
  (1206, .ifCond .eq 5, 3, [], .null),
  (1209, .iconst 0, 1, [], .int 0),
  (1210, .ireturn, 1, [], .null),
  (1211, .goto 560, 3, [], .null),
  (1214, .aload_n 1, 1, [], .null),
  (1215, .aload_n 0, 1, [], .null),
  (1216, .iload 4, 2, [], .null),
  (1218, .iconst 1, 1, [], .int 1),
  (1219, .iadd, 1, [], .null),
  (1220, .iaload, 1, [], .null),
  (1221, .aload_n 3, 1, [], .null),
  (1222, .invokestatic 136, 3, [177, 3], .null),
  (1225, .istore 5, 2, [], .null),
  (1227, .aload_n 2, 1, [], .null),
  (1228, .aload_n 0, 1, [], .null),
  (1229, .iload 4, 2, [], .null),
  (1231, .iconst 1, 1, [], .int 1),
  (1232, .iadd, 1, [], .null),
  (1233, .iaload, 1, [], .null),
  (1234, .invokevirtual 138, 3, [79, 1, 9], .null),
  (1237, .istore 6, 2, [], .null),
  (1239, .aload_n 2, 1, [], .null),
  (1240, .invokevirtual 96, 3, [37, 0, 9], .null),
  (1243, .iload 5, 2, [], .null),
  (1245, .if_icmp .eq 5, 3, [], .null),
  (1248, .iconst 0, 1, [], .int 0),
  (1249, .ireturn, 1, [], .null),
  (1250, .iload 5, 2, [], .null),
  (1252, .ifCond .ne 15, 3, [], .null),
  (1255, .aload_n 3, 1, [], .null),
  (1256, .iconst 0, 1, [], .int 0),
  (1257, .laload, 1, [], .null),
  (1258, .iload 6, 2, [], .null),
  (1260, .i2l, 1, [], .null),
  (1261, .lcmp, 1, [], .null),
  (1262, .ifCond .eq 5, 3, [], .null),
  (1265, .iconst 0, 1, [], .int 0),
  (1266, .ireturn, 1, [], .null),
  (1267, .goto 504, 3, [], .null),
  (1270, .aload_n 1, 1, [], .null),
  (1271, .aload_n 0, 1, [], .null),
  (1272, .iload 4, 2, [], .null),
  (1274, .iconst 1, 1, [], .int 1),
  (1275, .iadd, 1, [], .null),
  (1276, .iaload, 1, [], .null),
  (1277, .aload_n 3, 1, [], .null),
  (1278, .invokestatic 139, 3, [178, 3], .null),
  (1281, .istore 5, 2, [], .null),
  (1283, .aload_n 2, 1, [], .null),
  (1284, .aload_n 0, 1, [], .null),
  (1285, .iload 4, 2, [], .null),
  (1287, .iconst 1, 1, [], .int 1),
  (1288, .iadd, 1, [], .null),
  (1289, .iaload, 1, [], .null),
  (1290, .invokevirtual 141, 3, [80, 1, 9], .null),
  (1293, .istore 6, 2, [], .null),
  (1295, .aload_n 2, 1, [], .null),
  (1296, .invokevirtual 96, 3, [37, 0, 9], .null),
  (1299, .iload 5, 2, [], .null),
  (1301, .if_icmp .eq 5, 3, [], .null),
  (1304, .iconst 0, 1, [], .int 0),
  (1305, .ireturn, 1, [], .null),
  (1306, .iload 5, 2, [], .null),
  (1308, .ifCond .ne 15, 3, [], .null),
  (1311, .aload_n 3, 1, [], .null),
  (1312, .iconst 0, 1, [], .int 0),
  (1313, .laload, 1, [], .null),
  (1314, .iload 6, 2, [], .null),
  (1316, .i2l, 1, [], .null),
  (1317, .lcmp, 1, [], .null),
  (1318, .ifCond .eq 5, 3, [], .null),
  (1321, .iconst 0, 1, [], .int 0),
  (1322, .ireturn, 1, [], .null),
  (1323, .goto 448, 3, [], .null),
  (1326, .aload_n 1, 1, [], .null),
  (1327, .aload_n 0, 1, [], .null),
  (1328, .iload 4, 2, [], .null),
  (1330, .iconst 1, 1, [], .int 1),
  (1331, .iadd, 1, [], .null),
  (1332, .iaload, 1, [], .null),
  (1333, .i2l, 1, [], .null),
  (1334, .bipush 32, 2, [], .int 32),
  (1336, .lshl, 1, [], .null),
  (1337, .aload_n 0, 1, [], .null),
  (1338, .iload 4, 2, [], .null),
  (1340, .iconst 2, 1, [], .int 2),
  (1341, .iadd, 1, [], .null),
  (1342, .iaload, 1, [], .null),
  (1343, .i2l, 1, [], .null),
  (1344, .ldc2_w 115, 3, [], .long 4294967295),
  (1347, .land, 1, [], .null),
  (1348, .lor, 1, [], .null),
  (1349, .aload_n 3, 1, [], .null),
  (1350, .invokestatic 142, 3, [179, 3], .null),
  (1353, .istore 5, 2, [], .null),
  (1355, .aload_n 2, 1, [], .null),
  (1356, .aload_n 0, 1, [], .null),
  (1357, .iload 4, 2, [], .null),
  (1359, .iconst 1, 1, [], .int 1),
  (1360, .iadd, 1, [], .null),
  (1361, .iaload, 1, [], .null),
  (1362, .i2l, 1, [], .null),
  (1363, .bipush 32, 2, [], .int 32),
  (1365, .lshl, 1, [], .null),
  (1366, .aload_n 0, 1, [], .null),
  (1367, .iload 4, 2, [], .null),
  (1369, .iconst 2, 1, [], .int 2),
  (1370, .iadd, 1, [], .null),
  (1371, .iaload, 1, [], .null),
  (1372, .i2l, 1, [], .null),
  (1373, .ldc2_w 115, 3, [], .long 4294967295),
  (1376, .land, 1, [], .null),
  (1377, .lor, 1, [], .null),
  (1378, .invokevirtual 145, 3, [86, 1, 9], .null),
  (1381, .istore 6, 2, [], .null),
  (1383, .aload_n 2, 1, [], .null),
  (1384, .invokevirtual 96, 3, [37, 0, 9], .null),
  (1387, .iload 5, 2, [], .null),
  (1389, .if_icmp .eq 5, 3, [], .null),
  (1392, .iconst 0, 1, [], .int 0),
  (1393, .ireturn, 1, [], .null),
  (1394, .iload 5, 2, [], .null),
  (1396, .ifCond .ne 15, 3, [], .null),
  (1399, .aload_n 3, 1, [], .null),
  (1400, .iconst 0, 1, [], .int 0),
  (1401, .laload, 1, [], .null),
  (1402, .iload 6, 2, [], .null),
  (1404, .i2l, 1, [], .null),
  (1405, .lcmp, 1, [], .null),
  (1406, .ifCond .eq 5, 3, [], .null),
  (1409, .iconst 0, 1, [], .int 0),
  (1410, .ireturn, 1, [], .null),
  (1411, .goto 360, 3, [], .null),
  (1414, .aload_n 1, 1, [], .null),
  (1415, .aload_n 0, 1, [], .null),
  (1416, .iload 4, 2, [], .null),
  (1418, .iconst 1, 1, [], .int 1),
  (1419, .iadd, 1, [], .null),
  (1420, .iaload, 1, [], .null),
  (1421, .i2l, 1, [], .null),
  (1422, .bipush 32, 2, [], .int 32),
  (1424, .lshl, 1, [], .null),
  (1425, .aload_n 0, 1, [], .null),
  (1426, .iload 4, 2, [], .null),
  (1428, .iconst 2, 1, [], .int 2),
  (1429, .iadd, 1, [], .null),
  (1430, .iaload, 1, [], .null),
  (1431, .i2l, 1, [], .null),
  (1432, .ldc2_w 115, 3, [], .long 4294967295),
  (1435, .land, 1, [], .null),
  (1436, .lor, 1, [], .null),
  (1437, .invokestatic 146, 3, [180, 2], .null),
  (1440, .istore 5, 2, [], .null),
  (1442, .aload_n 2, 1, [], .null),
  (1443, .aload_n 0, 1, [], .null),
  (1444, .iload 4, 2, [], .null),
  (1446, .iconst 1, 1, [], .int 1),
  (1447, .iadd, 1, [], .null),
  (1448, .iaload, 1, [], .null),
  (1449, .i2l, 1, [], .null),
  (1450, .bipush 32, 2, [], .int 32),
  (1452, .lshl, 1, [], .null),
  (1453, .aload_n 0, 1, [], .null),
  (1454, .iload 4, 2, [], .null),
  (1456, .iconst 2, 1, [], .int 2),
  (1457, .iadd, 1, [], .null),
  (1458, .iaload, 1, [], .null),
  (1459, .i2l, 1, [], .null),
  (1460, .ldc2_w 115, 3, [], .long 4294967295),
  (1463, .land, 1, [], .null),
  (1464, .lor, 1, [], .null),
  (1465, .invokevirtual 149, 3, [87, 1, 9], .null),
  (1468, .aload_n 2, 1, [], .null),
  (1469, .invokevirtual 96, 3, [37, 0, 9], .null),
  (1472, .iload 5, 2, [], .null),
  (1474, .if_icmp .eq 5, 3, [], .null),
  (1477, .iconst 0, 1, [], .int 0),
  (1478, .ireturn, 1, [], .null),
  (1479, .goto 292, 3, [], .null),
  (1482, .aload_n 1, 1, [], .null),
  (1483, .aload_n 0, 1, [], .null),
  (1484, .iload 4, 2, [], .null),
  (1486, .iconst 1, 1, [], .int 1),
  (1487, .iadd, 1, [], .null),
  (1488, .iaload, 1, [], .null),
  (1489, .ifCond .eq 7, 3, [], .null),
  (1492, .iconst 1, 1, [], .int 1),
  (1493, .goto 4, 3, [], .null),
  (1496, .iconst 0, 1, [], .int 0),
  (1497, .aload_n 0, 1, [], .null),
  (1498, .iload 4, 2, [], .null),
  (1500, .iconst 2, 1, [], .int 2),
  (1501, .iadd, 1, [], .null),
  (1502, .iaload, 1, [], .null),
  (1503, .ifCond .eq 7, 3, [], .null),
  (1506, .iconst 1, 1, [], .int 1),
  (1507, .goto 4, 3, [], .null),
  (1510, .iconst 0, 1, [], .int 0),
  (1511, .aload_n 3, 1, [], .null),
  (1512, .invokestatic 150, 3, [181, 4], .null),
  (1515, .istore 5, 2, [], .null),
  (1517, .aload_n 2, 1, [], .null),
  (1518, .aload_n 0, 1, [], .null),
  (1519, .iload 4, 2, [], .null),
  (1521, .iconst 1, 1, [], .int 1),
  (1522, .iadd, 1, [], .null),
  (1523, .iaload, 1, [], .null),
  (1524, .ifCond .eq 7, 3, [], .null),
  (1527, .iconst 1, 1, [], .int 1),
  (1528, .goto 4, 3, [], .null),
  (1531, .iconst 0, 1, [], .int 0),
  (1532, .aload_n 0, 1, [], .null),
  (1533, .iload 4, 2, [], .null),
  (1535, .iconst 2, 1, [], .int 2),
  (1536, .iadd, 1, [], .null),
  (1537, .iaload, 1, [], .null),
  (1538, .ifCond .eq 7, 3, [], .null),
  (1541, .iconst 1, 1, [], .int 1),
  (1542, .goto 4, 3, [], .null),
  (1545, .iconst 0, 1, [], .int 0),
  (1546, .invokevirtual 153, 3, [89, 2, 9], .null),
  (1549, .istore 6, 2, [], .null),
  (1551, .aload_n 2, 1, [], .null),
  (1552, .invokevirtual 96, 3, [37, 0, 9], .null),
  (1555, .iload 5, 2, [], .null),
  (1557, .if_icmp .eq 5, 3, [], .null),
  (1560, .iconst 0, 1, [], .int 0),
  (1561, .ireturn, 1, [], .null),
  (1562, .iload 5, 2, [], .null),
  (1564, .ifCond .ne 15, 3, [], .null),
  (1567, .aload_n 3, 1, [], .null),
  (1568, .iconst 0, 1, [], .int 0),
  (1569, .laload, 1, [], .null),
  (1570, .iload 6, 2, [], .null),
  (1572, .i2l, 1, [], .null),
  (1573, .lcmp, 1, [], .null),
  (1574, .ifCond .eq 5, 3, [], .null),
  (1577, .iconst 0, 1, [], .int 0),
  (1578, .ireturn, 1, [], .null),
  (1579, .goto 192, 3, [], .null),
  (1582, .aload_n 1, 1, [], .null),
  (1583, .aload_n 0, 1, [], .null),
  (1584, .iload 4, 2, [], .null),
  (1586, .iconst 1, 1, [], .int 1),
  (1587, .iadd, 1, [], .null),
  (1588, .iaload, 1, [], .null),
  (1589, .aload_n 0, 1, [], .null),
  (1590, .iload 4, 2, [], .null),
  (1592, .iconst 2, 1, [], .int 2),
  (1593, .iadd, 1, [], .null),
  (1594, .iaload, 1, [], .null),
  (1595, .aload_n 3, 1, [], .null),
  (1596, .invokestatic 154, 3, [182, 4], .null),
  (1599, .istore 5, 2, [], .null),
  (1601, .aload_n 2, 1, [], .null),
  (1602, .aload_n 0, 1, [], .null),
  (1603, .iload 4, 2, [], .null),
  (1605, .iconst 1, 1, [], .int 1),
  (1606, .iadd, 1, [], .null),
  (1607, .iaload, 1, [], .null),
  (1608, .aload_n 0, 1, [], .null),
  (1609, .iload 4, 2, [], .null),
  (1611, .iconst 2, 1, [], .int 2),
  (1612, .iadd, 1, [], .null),
  (1613, .iaload, 1, [], .null),
  (1614, .invokevirtual 157, 3, [90, 2, 9], .null),
  (1617, .lstore 6, 2, [], .null),
  (1619, .aload_n 2, 1, [], .null),
  (1620, .invokevirtual 96, 3, [37, 0, 9], .null),
  (1623, .iload 5, 2, [], .null),
  (1625, .if_icmp .eq 5, 3, [], .null),
  (1628, .iconst 0, 1, [], .int 0),
  (1629, .ireturn, 1, [], .null),
  (1630, .iload 5, 2, [], .null),
  (1632, .ifCond .ne 14, 3, [], .null),
  (1635, .aload_n 3, 1, [], .null),
  (1636, .iconst 0, 1, [], .int 0),
  (1637, .laload, 1, [], .null),
  (1638, .lload 6, 2, [], .null),
  (1640, .lcmp, 1, [], .null),
  (1641, .ifCond .eq 5, 3, [], .null),
  (1644, .iconst 0, 1, [], .int 0),
  (1645, .ireturn, 1, [], .null),
  (1646, .goto 125, 3, [], .null),
  (1649, .aload_n 1, 1, [], .null),
  (1650, .aload_n 0, 1, [], .null),
  (1651, .iload 4, 2, [], .null),
  (1653, .iconst 1, 1, [], .int 1),
  (1654, .iadd, 1, [], .null),
  (1655, .iaload, 1, [], .null),
  (1656, .aload_n 0, 1, [], .null),
  (1657, .iload 4, 2, [], .null),
  (1659, .iconst 2, 1, [], .int 2),
  (1660, .iadd, 1, [], .null),
  (1661, .iaload, 1, [], .null),
  (1662, .aload_n 3, 1, [], .null),
  (1663, .invokestatic 158, 3, [183, 4], .null),
  (1666, .istore 5, 2, [], .null),
  (1668, .aload_n 2, 1, [], .null),
  (1669, .aload_n 0, 1, [], .null),
  (1670, .iload 4, 2, [], .null),
  (1672, .iconst 1, 1, [], .int 1),
  (1673, .iadd, 1, [], .null),
  (1674, .iaload, 1, [], .null),
  (1675, .aload_n 0, 1, [], .null),
  (1676, .iload 4, 2, [], .null),
  (1678, .iconst 2, 1, [], .int 2),
  (1679, .iadd, 1, [], .null),
  (1680, .iaload, 1, [], .null),
  (1681, .invokevirtual 160, 3, [91, 2, 9], .null),
  (1684, .lstore 6, 2, [], .null),
  (1686, .aload_n 2, 1, [], .null),
  (1687, .invokevirtual 96, 3, [37, 0, 9], .null),
  (1690, .iload 5, 2, [], .null),
  (1692, .if_icmp .eq 5, 3, [], .null),
  (1695, .iconst 0, 1, [], .int 0),
  (1696, .ireturn, 1, [], .null),
  (1697, .iload 5, 2, [], .null),
  (1699, .ifCond .ne 14, 3, [], .null),
  (1702, .aload_n 3, 1, [], .null),
  (1703, .iconst 0, 1, [], .int 0),
  (1704, .laload, 1, [], .null),
  (1705, .lload 6, 2, [], .null),
  (1707, .lcmp, 1, [], .null),
  (1708, .ifCond .eq 5, 3, [], .null),
  (1711, .iconst 0, 1, [], .int 0),
  (1712, .ireturn, 1, [], .null),
  (1713, .goto 58, 3, [], .null),
  (1716, .aload_n 1, 1, [], .null),
  (1717, .aload_n 0, 1, [], .null),
  (1718, .iload 4, 2, [], .null),
  (1720, .iconst 1, 1, [], .int 1),
  (1721, .iadd, 1, [], .null),
  (1722, .iaload, 1, [], .null),
  (1723, .aload_n 3, 1, [], .null),
  (1724, .invokestatic 161, 3, [184, 3], .null),
  (1727, .istore 5, 2, [], .null),
  (1729, .aload_n 2, 1, [], .null),
  (1730, .aload_n 0, 1, [], .null),
  (1731, .iload 4, 2, [], .null),
  (1733, .iconst 1, 1, [], .int 1),
  (1734, .iadd, 1, [], .null),
  (1735, .iaload, 1, [], .null),
  (1736, .invokevirtual 163, 3, [94, 1, 9], .null),
  (1739, .lstore 6, 2, [], .null),
  (1741, .aload_n 2, 1, [], .null),
  (1742, .invokevirtual 96, 3, [37, 0, 9], .null),
  (1745, .iload 5, 2, [], .null),
  (1747, .if_icmp .eq 5, 3, [], .null),
  (1750, .iconst 0, 1, [], .int 0),
  (1751, .ireturn, 1, [], .null),
  (1752, .iload 5, 2, [], .null),
  (1754, .ifCond .ne 14, 3, [], .null),
  (1757, .aload_n 3, 1, [], .null),
  (1758, .iconst 0, 1, [], .int 0),
  (1759, .laload, 1, [], .null),
  (1760, .lload 6, 2, [], .null),
  (1762, .lcmp, 1, [], .null),
  (1763, .ifCond .eq 5, 3, [], .null),
  (1766, .iconst 0, 1, [], .int 0),
  (1767, .ireturn, 1, [], .null),
  (1768, .goto 3, 3, [], .null),
  (1771, .iinc 4 11, 3, [], .null),
  (1774, .goto (-1751), 3, [], .null),
  (1777, .iconst 1, 1, [], .int 1),
  (1778, .ireturn, 1, [], .null)])
def jx_P : List jx_Me := [jp_J_init, jp_J_feed, jp_J_end, jp_J_zone, jp_J_cron, jp_J_holiday, jp_J_next, jp_J_last, jp_J_local, jp_J_make, jp_J_makeCron, jp_J_cancel, jp_J_workers, jp_J_advance, jp_J_stall, jp_J_close, jp_J_job, jp_J_start, jp_J_count, jp_J_checkRange, jp_J_checkSearch, jp_J_checkRun, jp_J_checkWay, jp_J_checkOpen, jp_J_checkNotBroken, jp_J_aimAt, jp_J_freeSlot, jp_J_fill, jp_J_remove, jp_J_jobAt, jp_J_firstEnded, jp_J_nominalBehind, jp_J_free, jp_J_firstPending, jp_J_begin, jp_J_nextTime, jp_M_init, jp_M_thrown, jp_M_fail, jp_M_leap, jp_M_length, jp_M_number, jp_M_date, jp_M_weekday, jp_M_bad, jp_M_peek, jp_M_digit, jp_M_expect, jp_M_blanks, jp_M_ranged, jp_M_rule, jp_M_ruleDay, jp_M_event, jp_M_zone, jp_M_readZone, jp_M_passed, jp_M_minutes, jp_M_letter, jp_M_value, jp_M_items, jp_M_special, jp_M_field, jp_M_readCron, jp_M_cron, jp_M_holiday, jp_M_special2, jp_M_dayFits, jp_M_secondFrom, jp_M_secondTo, jp_M_nextFire, jp_M_lastFire, jp_M_badFire, jp_M_next, jp_M_last, jp_M_local, jp_M_enter, jp_M_make, jp_M_makeCron, jp_M_none, jp_M_cancel, jp_M_workers, jp_M_running, jp_M_following, jp_M_free, jp_M_first, jp_M_work, jp_M_advance, jp_M_stall, jp_M_there, jp_M_close, jp_M_job, jp_M_start, jp_M_feed, jp_M_end, jp_M_count, jp_C_init, jp_C_lowest, jp_C_highest, jp_C_clear, jp_C_add, jp_C_hasMonth, jp_C_hasYear, jp_C_daysOf, jp_C_weekdaysFrom, jp_C_workdayNearest, jp_C_bitOf, jp_C_bitsUpTo, jp_C_timeFrom, jp_C_timeUpTo, jp_C_lowestBit, jp_C_highestBit, jp_CR_readCron, jp_CR_takeDayRule, jp_CR_takeWeekdayRule, jp_CR_readItems, jp_CR_readItem, jp_CR_readValue, jp_CR_readUpper, jp_CR_takeSign, jp_CR_addSome, jp_D_firstOfMonth, jp_D_monthLength, jp_D_dayOf, jp_D_yearOf, jp_D_monthOf, jp_D_weekdayOf, jp_F_init, jp_F_firstAfter, jp_F_latestUpTo, jp_F_localFrom, jp_F_localUpTo, jp_F_dayFrom, jp_F_dayUpTo, jp_F_dateFrom, jp_F_dateUpTo, jp_H_init, jp_H_placeOf, jp_H_insert, jp_H_removeAt, jp_B_init, jp_B_isAheadOf, jp_B_isOver, jp_B_rateTimeBehind, jp_L_init, jp_L_add, jp_T_init, jp_T_addWord, jp_T_rewind, jp_T_breakAt, jp_T_isDone, jp_T_peek, jp_T_take, jp_T_require, jp_T_requireBlanks, jp_T_requireEnd, jp_T_number, jp_T_takeName, jp_T_isDigit, jp_Y_init, jp_Y_readFrom, jp_Y_secondIn, jp_Y_latestUpTo, jp_Y_firstBehind, jp_Z_init, jp_Z_readFrom, jp_Z_offsetAt, jp_Z_findStretch, jp_W_feed, jp_W_end, jp_W_zone, jp_W_cron, jp_W_holiday, jp_W_next, jp_W_last, jp_W_local, jp_W_make, jp_W_makeCron, jp_W_cancel, jp_W_workers, jp_W_advance, jp_W_stall, jp_W_close, jp_W_job, jp_W_start, jp_W_count, jp_Long_bitCount, jp_Math_floorDiv, jp_Math_floorDiv2, jp_Math_floorMod, jp_Math_floorMod2, jp_Math_max, jp_Math_max2, jp_Math_min, jp_Math_min2, jp_W_law]
def jx_df : List (List Value) := [[.null, .null, .null, .null, .null, .null, .null, .null, .long 0, .null, .int 0, .int 0, .int 0, .null, .int 0, .int 0, .int 0, .null], [.null, .int 0, .int 0, .int 0], [.int 0, .int 0, .null, .null, .long 0, .long 0, .int 0], [.int 0, .int 0, .int 0, .int 0], [.null, .int 0, .int 0, .int 0], [.null, .int 0], [.null, .null, .null], [.int 0, .int 0, .int 0, .int 0, .long 0, .long 0, .long 0, .long 0, .int 0, .int 0, .int 0, .int 0, .int 0, .int 0], [.null, .null, .null, .int 0, .long 0], [.int 0, .null, .int 0, .int 0, .int 0, .int 0, .int 0, .int 0, .null, .null, .null, .null, .null, .null, .null, .null, .null, .null, .null, .null, .int 0, .int 0, .int 0, .null, .null, .null, .null, .null, .null, .null, .null, .null, .null, .null, .null, .null, .null, .null, .null, .null, .null, .long 0, .int 0, .long 0, .long 0, .int 0, .null, .null, .null, .int 0]]
end JP
end
section
section JI
theorem ji_J_init : jm_ci jm_G jp_J_init.1 (jx_wc jp_J_init) jp_J_init.2.2.1 0 := ⟨jm_g1 32 rfl rfl, Or.inl ⟨_, _, rfl⟩, jm_g1 1 rfl rfl, ⟨by decide, by decide⟩, by decide +kernel⟩
theorem ji_J_feed : jm_ci jm_G jp_J_feed.1 (jx_wc jp_J_feed) jp_J_feed.2.2.1 5 := ⟨jm_g2 86 rfl rfl, Or.inl ⟨_, _, rfl⟩, jm_g1 1 rfl rfl, ⟨by decide, by decide⟩, by decide +kernel⟩
theorem ji_J_end : jm_ci jm_G jp_J_end.1 (jx_wc jp_J_end) jp_J_end.2.2.1 1 := ⟨jm_g2 163 rfl rfl, Or.inl ⟨_, _, rfl⟩, jm_g1 1 rfl rfl, ⟨by decide, by decide⟩, by decide +kernel⟩
theorem ji_J_zone : jm_ci jm_G jp_J_zone.1 (jx_wc jp_J_zone) jp_J_zone.2.2.1 1 := ⟨jm_g2 189 rfl rfl, Or.inl ⟨_, _, rfl⟩, jm_g1 1 rfl rfl, ⟨by decide, by decide⟩, by decide +kernel⟩
theorem ji_J_cron : jm_ci jm_G jp_J_cron.1 (jx_wc jp_J_cron) jp_J_cron.2.2.1 1 := ⟨jm_g3 32 rfl rfl, Or.inl ⟨_, _, rfl⟩, jm_g1 1 rfl rfl, ⟨by decide, by decide⟩, by decide +kernel⟩
theorem ji_J_holiday : jm_ci jm_G jp_J_holiday.1 (jx_wc jp_J_holiday) jp_J_holiday.2.2.1 3 := ⟨jm_g3 146 rfl rfl, Or.inl ⟨_, _, rfl⟩, jm_g1 1 rfl rfl, ⟨by decide, by decide⟩, by decide +kernel⟩
theorem ji_J_next : jm_ci jm_G jp_J_next.1 (jx_wc jp_J_next) jp_J_next.2.2.1 4 := ⟨jm_g3 170 rfl rfl, Or.inl ⟨_, _, rfl⟩, jm_g1 1 rfl rfl, ⟨by decide, by decide⟩, by decide +kernel⟩
theorem ji_J_last : jm_ci jm_G jp_J_last.1 (jx_wc jp_J_last) jp_J_last.2.2.1 4 := ⟨jm_g4 78 rfl rfl, Or.inl ⟨_, _, rfl⟩, jm_g1 1 rfl rfl, ⟨by decide, by decide⟩, by decide +kernel⟩
theorem ji_J_local : jm_ci jm_G jp_J_local.1 (jx_wc jp_J_local) jp_J_local.2.2.1 3 := ⟨jm_g4 113 rfl rfl, Or.inl ⟨_, _, rfl⟩, jm_g1 1 rfl rfl, ⟨by decide, by decide⟩, by decide +kernel⟩
theorem ji_J_make : jm_ci jm_G jp_J_make.1 (jx_wc jp_J_make) jp_J_make.2.2.1 7 := ⟨jm_g4 132 rfl rfl, Or.inl ⟨_, _, rfl⟩, jm_g1 1 rfl rfl, ⟨by decide, by decide⟩, by decide +kernel⟩
theorem ji_J_makeCron : jm_ci jm_G jp_J_makeCron.1 (jx_wc jp_J_makeCron) jp_J_makeCron.2.2.1 7 := ⟨jm_g4 174 rfl rfl, Or.inl ⟨_, _, rfl⟩, jm_g1 1 rfl rfl, ⟨by decide, by decide⟩, by decide +kernel⟩
theorem ji_J_cancel : jm_ci jm_G jp_J_cancel.1 (jx_wc jp_J_cancel) jp_J_cancel.2.2.1 1 := ⟨jm_g4 182 rfl rfl, Or.inl ⟨_, _, rfl⟩, jm_g1 1 rfl rfl, ⟨by decide, by decide⟩, by decide +kernel⟩
theorem ji_J_workers : jm_ci jm_G jp_J_workers.1 (jx_wc jp_J_workers) jp_J_workers.2.2.1 1 := ⟨jm_g4 212 rfl rfl, Or.inl ⟨_, _, rfl⟩, jm_g1 1 rfl rfl, ⟨by decide, by decide⟩, by decide +kernel⟩
theorem ji_J_advance : jm_ci jm_G jp_J_advance.1 (jx_wc jp_J_advance) jp_J_advance.2.2.1 1 := ⟨jm_g4 220 rfl rfl, Or.inl ⟨_, _, rfl⟩, jm_g1 1 rfl rfl, ⟨by decide, by decide⟩, by decide +kernel⟩
theorem ji_J_stall : jm_ci jm_G jp_J_stall.1 (jx_wc jp_J_stall) jp_J_stall.2.2.1 1 := ⟨jm_g5 34 rfl rfl, Or.inl ⟨_, _, rfl⟩, jm_g1 1 rfl rfl, ⟨by decide, by decide⟩, by decide +kernel⟩
theorem ji_J_close : jm_ci jm_G jp_J_close.1 (jx_wc jp_J_close) jp_J_close.2.2.1 2 := ⟨jm_g5 41 rfl rfl, Or.inl ⟨_, _, rfl⟩, jm_g1 1 rfl rfl, ⟨by decide, by decide⟩, by decide +kernel⟩
theorem ji_J_job : jm_ci jm_G jp_J_job.1 (jx_wc jp_J_job) jp_J_job.2.2.1 2 := ⟨jm_g5 48 rfl rfl, Or.inl ⟨_, _, rfl⟩, jm_g1 1 rfl rfl, ⟨by decide, by decide⟩, by decide +kernel⟩
theorem ji_J_start : jm_ci jm_G jp_J_start.1 (jx_wc jp_J_start) jp_J_start.2.2.1 2 := ⟨jm_g5 56 rfl rfl, Or.inl ⟨_, _, rfl⟩, jm_g1 1 rfl rfl, ⟨by decide, by decide⟩, by decide +kernel⟩
theorem ji_J_count : jm_ci jm_G jp_J_count.1 (jx_wc jp_J_count) jp_J_count.2.2.1 1 := ⟨jm_g5 63 rfl rfl, Or.inl ⟨_, _, rfl⟩, jm_g1 1 rfl rfl, ⟨by decide, by decide⟩, by decide +kernel⟩
theorem ji_J_checkRange : jm_ci jm_G jp_J_checkRange.1 (jx_wc jp_J_checkRange) jp_J_checkRange.2.2.1 3 := ⟨jm_g2 166 rfl rfl, Or.inl ⟨_, _, rfl⟩, jm_g1 1 rfl rfl, ⟨by decide, by decide⟩, by decide +kernel⟩
theorem ji_J_checkSearch : jm_ci jm_G jp_J_checkSearch.1 (jx_wc jp_J_checkSearch) jp_J_checkSearch.2.2.1 3 := ⟨jm_g3 173 rfl rfl, Or.inl ⟨_, _, rfl⟩, jm_g1 1 rfl rfl, ⟨by decide, by decide⟩, by decide +kernel⟩
theorem ji_J_checkRun : jm_ci jm_G jp_J_checkRun.1 (jx_wc jp_J_checkRun) jp_J_checkRun.2.2.1 3 := ⟨jm_g4 138 rfl rfl, Or.inl ⟨_, _, rfl⟩, jm_g1 1 rfl rfl, ⟨by decide, by decide⟩, by decide +kernel⟩
theorem ji_J_checkWay : jm_ci jm_G jp_J_checkWay.1 (jx_wc jp_J_checkWay) jp_J_checkWay.2.2.1 1 := ⟨jm_g4 224 rfl rfl, Or.inl ⟨_, _, rfl⟩, jm_g1 1 rfl rfl, ⟨by decide, by decide⟩, by decide +kernel⟩
theorem ji_J_checkOpen : jm_ci jm_G jp_J_checkOpen.1 (jx_wc jp_J_checkOpen) jp_J_checkOpen.2.2.1 0 := ⟨jm_g4 143 rfl rfl, Or.inl ⟨_, _, rfl⟩, jm_g1 1 rfl rfl, ⟨by decide, by decide⟩, by decide +kernel⟩
theorem ji_J_checkNotBroken : jm_ci jm_G jp_J_checkNotBroken.1 (jx_wc jp_J_checkNotBroken) jp_J_checkNotBroken.2.2.1 0 := ⟨jm_g3 10 rfl rfl, Or.inl ⟨_, _, rfl⟩, jm_g1 1 rfl rfl, ⟨by decide, by decide⟩, by decide +kernel⟩
theorem ji_J_aimAt : jm_ci jm_G jp_J_aimAt.1 (jx_wc jp_J_aimAt) jp_J_aimAt.2.2.1 3 := ⟨jm_g3 179 rfl rfl, Or.inl ⟨_, _, rfl⟩, jm_g1 1 rfl rfl, ⟨by decide, by decide⟩, by decide +kernel⟩
theorem ji_J_freeSlot : jm_ci jm_G jp_J_freeSlot.1 (jx_wc jp_J_freeSlot) jp_J_freeSlot.2.2.1 0 := ⟨jm_g4 162 rfl rfl, Or.inl ⟨_, _, rfl⟩, jm_g1 1 rfl rfl, ⟨by decide, by decide⟩, by decide +kernel⟩
theorem ji_J_fill : jm_ci jm_G jp_J_fill.1 (jx_wc jp_J_fill) jp_J_fill.2.2.1 5 := ⟨jm_g4 166 rfl rfl, Or.inl ⟨_, _, rfl⟩, jm_g1 1 rfl rfl, ⟨by decide, by decide⟩, by decide +kernel⟩
theorem ji_J_remove : jm_ci jm_G jp_J_remove.1 (jx_wc jp_J_remove) jp_J_remove.2.2.1 1 := ⟨jm_g4 205 rfl rfl, Or.inl ⟨_, _, rfl⟩, jm_g1 1 rfl rfl, ⟨by decide, by decide⟩, by decide +kernel⟩
theorem ji_J_jobAt : jm_ci jm_G jp_J_jobAt.1 (jx_wc jp_J_jobAt) jp_J_jobAt.2.2.1 1 := ⟨jm_g4 186 rfl rfl, Or.inl ⟨_, _, rfl⟩, jm_g1 1 rfl rfl, ⟨by decide, by decide⟩, by decide +kernel⟩
theorem ji_J_firstEnded : jm_ci jm_G jp_J_firstEnded.1 (jx_wc jp_J_firstEnded) jp_J_firstEnded.2.2.1 0 := ⟨jm_g4 230 rfl rfl, Or.inl ⟨_, _, rfl⟩, jm_g1 1 rfl rfl, ⟨by decide, by decide⟩, by decide +kernel⟩
theorem ji_J_nominalBehind : jm_ci jm_G jp_J_nominalBehind.1 (jx_wc jp_J_nominalBehind) jp_J_nominalBehind.2.2.1 1 := ⟨jm_g4 234 rfl rfl, Or.inl ⟨_, _, rfl⟩, jm_g1 1 rfl rfl, ⟨by decide, by decide⟩, by decide +kernel⟩
theorem ji_J_free : jm_ci jm_G jp_J_free.1 (jx_wc jp_J_free) jp_J_free.2.2.1 2 := ⟨jm_g5 7 rfl rfl, Or.inl ⟨_, _, rfl⟩, jm_g1 1 rfl rfl, ⟨by decide, by decide⟩, by decide +kernel⟩
theorem ji_J_firstPending : jm_ci jm_G jp_J_firstPending.1 (jx_wc jp_J_firstPending) jp_J_firstPending.2.2.1 0 := ⟨jm_g5 11 rfl rfl, Or.inl ⟨_, _, rfl⟩, jm_g1 1 rfl rfl, ⟨by decide, by decide⟩, by decide +kernel⟩
theorem ji_J_begin : jm_ci jm_G jp_J_begin.1 (jx_wc jp_J_begin) jp_J_begin.2.2.1 1 := ⟨jm_g5 19 rfl rfl, Or.inl ⟨_, _, rfl⟩, jm_g1 1 rfl rfl, ⟨by decide, by decide⟩, by decide +kernel⟩
theorem ji_J_nextTime : jm_ci jm_G jp_J_nextTime.1 (jx_wc jp_J_nextTime) jp_J_nextTime.2.2.1 1 := ⟨jm_g5 27 rfl rfl, Or.inl ⟨_, _, rfl⟩, jm_g1 1 rfl rfl, ⟨by decide, by decide⟩, by decide +kernel⟩
theorem ji_M_init : jm_ci jm_G jp_M_init.1 (jx_wc jp_M_init) jp_M_init.2.2.1 0 := ⟨jm_g5 69 rfl rfl, Or.inl ⟨_, _, rfl⟩, jm_g1 10 rfl rfl, ⟨by decide, by decide⟩, by decide +kernel⟩
theorem ji_M_thrown : jm_ci jm_G jp_M_thrown.1 (jx_wc jp_M_thrown) jp_M_thrown.2.2.1 0 := ⟨jm_g6 16 rfl rfl, Or.inl ⟨_, _, rfl⟩, jm_g1 10 rfl rfl, ⟨by decide, by decide⟩, by decide +kernel⟩
theorem ji_M_fail : jm_ci jm_G jp_M_fail.1 (jx_wc jp_M_fail) jp_M_fail.2.2.1 1 := ⟨jm_g6 119 rfl rfl, Or.inl ⟨_, _, rfl⟩, jm_g1 10 rfl rfl, ⟨by decide, by decide⟩, by decide +kernel⟩
theorem ji_M_leap : jm_ci jm_G jp_M_leap.1 (jx_wc jp_M_leap) jp_M_leap.2.2.1 1 := ⟨jm_g6 68 rfl rfl, Or.inl ⟨_, _, rfl⟩, jm_g1 10 rfl rfl, ⟨by decide, by decide⟩, by decide +kernel⟩
theorem ji_M_length : jm_ci jm_G jp_M_length.1 (jx_wc jp_M_length) jp_M_length.2.2.1 2 := ⟨jm_g6 65 rfl rfl, Or.inl ⟨_, _, rfl⟩, jm_g1 10 rfl rfl, ⟨by decide, by decide⟩, by decide +kernel⟩
theorem ji_M_number : jm_ci jm_G jp_M_number.1 (jx_wc jp_M_number) jp_M_number.2.2.1 2 := ⟨jm_g6 62 rfl rfl, Or.inl ⟨_, _, rfl⟩, jm_g1 10 rfl rfl, ⟨by decide, by decide⟩, by decide +kernel⟩
theorem ji_M_date : jm_ci jm_G jp_M_date.1 (jx_wc jp_M_date) jp_M_date.2.2.1 1 := ⟨jm_g6 154 rfl rfl, Or.inl ⟨_, _, rfl⟩, jm_g1 10 rfl rfl, ⟨by decide, by decide⟩, by decide +kernel⟩
theorem ji_M_weekday : jm_ci jm_G jp_M_weekday.1 (jx_wc jp_M_weekday) jp_M_weekday.2.2.1 1 := ⟨jm_g6 71 rfl rfl, Or.inl ⟨_, _, rfl⟩, jm_g1 10 rfl rfl, ⟨by decide, by decide⟩, by decide +kernel⟩
theorem ji_M_bad : jm_ci jm_G jp_M_bad.1 (jx_wc jp_M_bad) jp_M_bad.2.2.1 1 := ⟨jm_g6 33 rfl rfl, Or.inl ⟨_, _, rfl⟩, jm_g1 10 rfl rfl, ⟨by decide, by decide⟩, by decide +kernel⟩
theorem ji_M_peek : jm_ci jm_G jp_M_peek.1 (jx_wc jp_M_peek) jp_M_peek.2.2.1 0 := ⟨jm_g6 29 rfl rfl, Or.inl ⟨_, _, rfl⟩, jm_g1 10 rfl rfl, ⟨by decide, by decide⟩, by decide +kernel⟩
theorem ji_M_digit : jm_ci jm_G jp_M_digit.1 (jx_wc jp_M_digit) jp_M_digit.2.2.1 1 := ⟨jm_g6 41 rfl rfl, Or.inl ⟨_, _, rfl⟩, jm_g1 10 rfl rfl, ⟨by decide, by decide⟩, by decide +kernel⟩
theorem ji_M_expect : jm_ci jm_G jp_M_expect.1 (jx_wc jp_M_expect) jp_M_expect.2.2.1 1 := ⟨jm_g6 55 rfl rfl, Or.inl ⟨_, _, rfl⟩, jm_g1 10 rfl rfl, ⟨by decide, by decide⟩, by decide +kernel⟩
theorem ji_M_blanks : jm_ci jm_G jp_M_blanks.1 (jx_wc jp_M_blanks) jp_M_blanks.2.2.1 0 := ⟨jm_g6 47 rfl rfl, Or.inl ⟨_, _, rfl⟩, jm_g1 10 rfl rfl, ⟨by decide, by decide⟩, by decide +kernel⟩
theorem ji_M_ranged : jm_ci jm_G jp_M_ranged.1 (jx_wc jp_M_ranged) jp_M_ranged.2.2.1 2 := ⟨jm_g6 38 rfl rfl, Or.inl ⟨_, _, rfl⟩, jm_g1 10 rfl rfl, ⟨by decide, by decide⟩, by decide +kernel⟩
theorem ji_M_rule : jm_ci jm_G jp_M_rule.1 (jx_wc jp_M_rule) jp_M_rule.2.2.1 1 := ⟨jm_g6 51 rfl rfl, Or.inl ⟨_, _, rfl⟩, jm_g1 10 rfl rfl, ⟨by decide, by decide⟩, by decide +kernel⟩
theorem ji_M_ruleDay : jm_ci jm_G jp_M_ruleDay.1 (jx_wc jp_M_ruleDay) jp_M_ruleDay.2.2.1 2 := ⟨jm_g6 59 rfl rfl, Or.inl ⟨_, _, rfl⟩, jm_g1 10 rfl rfl, ⟨by decide, by decide⟩, by decide +kernel⟩
theorem ji_M_event : jm_ci jm_G jp_M_event.1 (jx_wc jp_M_event) jp_M_event.2.2.1 3 := ⟨jm_g6 78 rfl rfl, Or.inl ⟨_, _, rfl⟩, jm_g1 10 rfl rfl, ⟨by decide, by decide⟩, by decide +kernel⟩
theorem ji_M_zone : jm_ci jm_G jp_M_zone.1 (jx_wc jp_M_zone) jp_M_zone.2.2.1 1 := ⟨jm_g6 20 rfl rfl, Or.inr ⟨_, _, _, rfl⟩, jm_g1 10 rfl rfl, ⟨by decide, by decide⟩, by decide +kernel⟩
theorem ji_M_readZone : jm_ci jm_G jp_M_readZone.1 (jx_wc jp_M_readZone) jp_M_readZone.2.2.1 1 := ⟨jm_g6 25 rfl rfl, Or.inl ⟨_, _, rfl⟩, jm_g1 10 rfl rfl, ⟨by decide, by decide⟩, by decide +kernel⟩
theorem ji_M_passed : jm_ci jm_G jp_M_passed.1 (jx_wc jp_M_passed) jp_M_passed.2.2.1 2 := ⟨jm_g6 137 rfl rfl, Or.inl ⟨_, _, rfl⟩, jm_g1 10 rfl rfl, ⟨by decide, by decide⟩, by decide +kernel⟩
theorem ji_M_minutes : jm_ci jm_G jp_M_minutes.1 (jx_wc jp_M_minutes) jp_M_minutes.2.2.1 2 := ⟨jm_g6 145 rfl rfl, Or.inl ⟨_, _, rfl⟩, jm_g1 10 rfl rfl, ⟨by decide, by decide⟩, by decide +kernel⟩
theorem ji_M_letter : jm_ci jm_G jp_M_letter.1 (jx_wc jp_M_letter) jp_M_letter.2.2.1 1 := ⟨jm_g6 105 rfl rfl, Or.inl ⟨_, _, rfl⟩, jm_g1 10 rfl rfl, ⟨by decide, by decide⟩, by decide +kernel⟩
theorem ji_M_value : jm_ci jm_G jp_M_value.1 (jx_wc jp_M_value) jp_M_value.2.2.1 1 := ⟨jm_g6 102 rfl rfl, Or.inl ⟨_, _, rfl⟩, jm_g1 10 rfl rfl, ⟨by decide, by decide⟩, by decide +kernel⟩
theorem ji_M_items : jm_ci jm_G jp_M_items.1 (jx_wc jp_M_items) jp_M_items.2.2.1 1 := ⟨jm_g6 94 rfl rfl, Or.inl ⟨_, _, rfl⟩, jm_g1 10 rfl rfl, ⟨by decide, by decide⟩, by decide +kernel⟩
theorem ji_M_special : jm_ci jm_G jp_M_special.1 (jx_wc jp_M_special) jp_M_special.2.2.1 2 := ⟨jm_g6 110 rfl rfl, Or.inl ⟨_, _, rfl⟩, jm_g1 10 rfl rfl, ⟨by decide, by decide⟩, by decide +kernel⟩
theorem ji_M_field : jm_ci jm_G jp_M_field.1 (jx_wc jp_M_field) jp_M_field.2.2.1 1 := ⟨jm_g6 90 rfl rfl, Or.inl ⟨_, _, rfl⟩, jm_g1 10 rfl rfl, ⟨by decide, by decide⟩, by decide +kernel⟩
theorem ji_M_readCron : jm_ci jm_G jp_M_readCron.1 (jx_wc jp_M_readCron) jp_M_readCron.2.2.1 1 := ⟨jm_g6 86 rfl rfl, Or.inl ⟨_, _, rfl⟩, jm_g1 10 rfl rfl, ⟨by decide, by decide⟩, by decide +kernel⟩
theorem ji_M_cron : jm_ci jm_G jp_M_cron.1 (jx_wc jp_M_cron) jp_M_cron.2.2.1 1 := ⟨jm_g6 82 rfl rfl, Or.inr ⟨_, _, _, rfl⟩, jm_g1 10 rfl rfl, ⟨by decide, by decide⟩, by decide +kernel⟩
theorem ji_M_holiday : jm_ci jm_G jp_M_holiday.1 (jx_wc jp_M_holiday) jp_M_holiday.2.2.1 3 := ⟨jm_g6 114 rfl rfl, Or.inl ⟨_, _, rfl⟩, jm_g1 10 rfl rfl, ⟨by decide, by decide⟩, by decide +kernel⟩
theorem ji_M_special2 : jm_ci jm_G jp_M_special2.1 (jx_wc jp_M_special2) jp_M_special2.2.2.1 1 := ⟨jm_g6 159 rfl rfl, Or.inl ⟨_, _, rfl⟩, jm_g1 10 rfl rfl, ⟨by decide, by decide⟩, by decide +kernel⟩
theorem ji_M_dayFits : jm_ci jm_G jp_M_dayFits.1 (jx_wc jp_M_dayFits) jp_M_dayFits.2.2.1 3 := ⟨jm_g6 150 rfl rfl, Or.inl ⟨_, _, rfl⟩, jm_g1 10 rfl rfl, ⟨by decide, by decide⟩, by decide +kernel⟩
theorem ji_M_secondFrom : jm_ci jm_G jp_M_secondFrom.1 (jx_wc jp_M_secondFrom) jp_M_secondFrom.2.2.1 2 := ⟨jm_g6 164 rfl rfl, Or.inl ⟨_, _, rfl⟩, jm_g1 10 rfl rfl, ⟨by decide, by decide⟩, by decide +kernel⟩
theorem ji_M_secondTo : jm_ci jm_G jp_M_secondTo.1 (jx_wc jp_M_secondTo) jp_M_secondTo.2.2.1 2 := ⟨jm_g6 178 rfl rfl, Or.inl ⟨_, _, rfl⟩, jm_g1 10 rfl rfl, ⟨by decide, by decide⟩, by decide +kernel⟩
theorem ji_M_nextFire : jm_ci jm_G jp_M_nextFire.1 (jx_wc jp_M_nextFire) jp_M_nextFire.2.2.1 4 := ⟨jm_g6 132 rfl rfl, Or.inl ⟨_, _, rfl⟩, jm_g1 10 rfl rfl, ⟨by decide, by decide⟩, by decide +kernel⟩
theorem ji_M_lastFire : jm_ci jm_G jp_M_lastFire.1 (jx_wc jp_M_lastFire) jp_M_lastFire.2.2.1 4 := ⟨jm_g6 173 rfl rfl, Or.inl ⟨_, _, rfl⟩, jm_g1 10 rfl rfl, ⟨by decide, by decide⟩, by decide +kernel⟩
theorem ji_M_badFire : jm_ci jm_G jp_M_badFire.1 (jx_wc jp_M_badFire) jp_M_badFire.2.2.1 4 := ⟨jm_g6 127 rfl rfl, Or.inl ⟨_, _, rfl⟩, jm_g1 10 rfl rfl, ⟨by decide, by decide⟩, by decide +kernel⟩
theorem ji_M_next : jm_ci jm_G jp_M_next.1 (jx_wc jp_M_next) jp_M_next.2.2.1 4 := ⟨jm_g6 123 rfl rfl, Or.inl ⟨_, _, rfl⟩, jm_g1 10 rfl rfl, ⟨by decide, by decide⟩, by decide +kernel⟩
theorem ji_M_last : jm_ci jm_G jp_M_last.1 (jx_wc jp_M_last) jp_M_last.2.2.1 4 := ⟨jm_g6 169 rfl rfl, Or.inl ⟨_, _, rfl⟩, jm_g1 10 rfl rfl, ⟨by decide, by decide⟩, by decide +kernel⟩
theorem ji_M_local : jm_ci jm_G jp_M_local.1 (jx_wc jp_M_local) jp_M_local.2.2.1 3 := ⟨jm_g6 183 rfl rfl, Or.inl ⟨_, _, rfl⟩, jm_g1 10 rfl rfl, ⟨by decide, by decide⟩, by decide +kernel⟩
theorem ji_M_enter : jm_ci jm_G jp_M_enter.1 (jx_wc jp_M_enter) jp_M_enter.2.2.1 7 := ⟨jm_g6 192 rfl rfl, Or.inl ⟨_, _, rfl⟩, jm_g1 10 rfl rfl, ⟨by decide, by decide⟩, by decide +kernel⟩
theorem ji_M_make : jm_ci jm_G jp_M_make.1 (jx_wc jp_M_make) jp_M_make.2.2.1 7 := ⟨jm_g6 187 rfl rfl, Or.inl ⟨_, _, rfl⟩, jm_g1 10 rfl rfl, ⟨by decide, by decide⟩, by decide +kernel⟩
theorem ji_M_makeCron : jm_ci jm_G jp_M_makeCron.1 (jx_wc jp_M_makeCron) jp_M_makeCron.2.2.1 7 := ⟨jm_g6 196 rfl rfl, Or.inl ⟨_, _, rfl⟩, jm_g1 10 rfl rfl, ⟨by decide, by decide⟩, by decide +kernel⟩
theorem ji_M_none : jm_ci jm_G jp_M_none.1 (jx_wc jp_M_none) jp_M_none.2.2.1 1 := ⟨jm_g6 204 rfl rfl, Or.inl ⟨_, _, rfl⟩, jm_g1 10 rfl rfl, ⟨by decide, by decide⟩, by decide +kernel⟩
theorem ji_M_cancel : jm_ci jm_G jp_M_cancel.1 (jx_wc jp_M_cancel) jp_M_cancel.2.2.1 1 := ⟨jm_g6 200 rfl rfl, Or.inl ⟨_, _, rfl⟩, jm_g1 10 rfl rfl, ⟨by decide, by decide⟩, by decide +kernel⟩
theorem ji_M_workers : jm_ci jm_G jp_M_workers.1 (jx_wc jp_M_workers) jp_M_workers.2.2.1 1 := ⟨jm_g6 208 rfl rfl, Or.inl ⟨_, _, rfl⟩, jm_g1 10 rfl rfl, ⟨by decide, by decide⟩, by decide +kernel⟩
theorem ji_M_running : jm_ci jm_G jp_M_running.1 (jx_wc jp_M_running) jp_M_running.2.2.1 0 := ⟨jm_g6 229 rfl rfl, Or.inl ⟨_, _, rfl⟩, jm_g1 10 rfl rfl, ⟨by decide, by decide⟩, by decide +kernel⟩
theorem ji_M_following : jm_ci jm_G jp_M_following.1 (jx_wc jp_M_following) jp_M_following.2.2.1 1 := ⟨jm_g6 225 rfl rfl, Or.inl ⟨_, _, rfl⟩, jm_g1 10 rfl rfl, ⟨by decide, by decide⟩, by decide +kernel⟩
theorem ji_M_free : jm_ci jm_G jp_M_free.1 (jx_wc jp_M_free) jp_M_free.2.2.1 1 := ⟨jm_g6 221 rfl rfl, Or.inl ⟨_, _, rfl⟩, jm_g1 10 rfl rfl, ⟨by decide, by decide⟩, by decide +kernel⟩
theorem ji_M_first : jm_ci jm_G jp_M_first.1 (jx_wc jp_M_first) jp_M_first.2.2.1 0 := ⟨jm_g6 233 rfl rfl, Or.inl ⟨_, _, rfl⟩, jm_g1 10 rfl rfl, ⟨by decide, by decide⟩, by decide +kernel⟩
theorem ji_M_work : jm_ci jm_G jp_M_work.1 (jx_wc jp_M_work) jp_M_work.2.2.1 0 := ⟨jm_g6 217 rfl rfl, Or.inl ⟨_, _, rfl⟩, jm_g1 10 rfl rfl, ⟨by decide, by decide⟩, by decide +kernel⟩
theorem ji_M_advance : jm_ci jm_G jp_M_advance.1 (jx_wc jp_M_advance) jp_M_advance.2.2.1 1 := ⟨jm_g6 212 rfl rfl, Or.inl ⟨_, _, rfl⟩, jm_g1 10 rfl rfl, ⟨by decide, by decide⟩, by decide +kernel⟩
theorem ji_M_stall : jm_ci jm_G jp_M_stall.1 (jx_wc jp_M_stall) jp_M_stall.2.2.1 1 := ⟨jm_g6 237 rfl rfl, Or.inl ⟨_, _, rfl⟩, jm_g1 10 rfl rfl, ⟨by decide, by decide⟩, by decide +kernel⟩
theorem ji_M_there : jm_ci jm_G jp_M_there.1 (jx_wc jp_M_there) jp_M_there.2.2.1 0 := ⟨jm_g7 5 rfl rfl, Or.inl ⟨_, _, rfl⟩, jm_g1 10 rfl rfl, ⟨by decide, by decide⟩, by decide +kernel⟩
theorem ji_M_close : jm_ci jm_G jp_M_close.1 (jx_wc jp_M_close) jp_M_close.2.2.1 2 := ⟨jm_g7 1 rfl rfl, Or.inl ⟨_, _, rfl⟩, jm_g1 10 rfl rfl, ⟨by decide, by decide⟩, by decide +kernel⟩
theorem ji_M_job : jm_ci jm_G jp_M_job.1 (jx_wc jp_M_job) jp_M_job.2.2.1 2 := ⟨jm_g7 9 rfl rfl, Or.inl ⟨_, _, rfl⟩, jm_g1 10 rfl rfl, ⟨by decide, by decide⟩, by decide +kernel⟩
theorem ji_M_start : jm_ci jm_G jp_M_start.1 (jx_wc jp_M_start) jp_M_start.2.2.1 2 := ⟨jm_g7 13 rfl rfl, Or.inl ⟨_, _, rfl⟩, jm_g1 10 rfl rfl, ⟨by decide, by decide⟩, by decide +kernel⟩
theorem ji_M_feed : jm_ci jm_G jp_M_feed.1 (jx_wc jp_M_feed) jp_M_feed.2.2.1 5 := ⟨jm_g7 17 rfl rfl, Or.inl ⟨_, _, rfl⟩, jm_g1 10 rfl rfl, ⟨by decide, by decide⟩, by decide +kernel⟩
theorem ji_M_end : jm_ci jm_G jp_M_end.1 (jx_wc jp_M_end) jp_M_end.2.2.1 1 := ⟨jm_g7 21 rfl rfl, Or.inl ⟨_, _, rfl⟩, jm_g1 10 rfl rfl, ⟨by decide, by decide⟩, by decide +kernel⟩
theorem ji_M_count : jm_ci jm_G jp_M_count.1 (jx_wc jp_M_count) jp_M_count.2.2.1 1 := ⟨jm_g7 25 rfl rfl, Or.inl ⟨_, _, rfl⟩, jm_g1 10 rfl rfl, ⟨by decide, by decide⟩, by decide +kernel⟩
theorem ji_C_init : jm_ci jm_G jp_C_init.1 (jx_wc jp_C_init) jp_C_init.2.2.1 0 := ⟨jm_g1 89 rfl rfl, Or.inl ⟨_, _, rfl⟩, jm_g1 5 rfl rfl, ⟨by decide, by decide⟩, by decide +kernel⟩
theorem ji_C_lowest : jm_ci jm_G jp_C_lowest.1 (jx_wc jp_C_lowest) jp_C_lowest.2.2.1 1 := ⟨jm_g3 49 rfl rfl, Or.inl ⟨_, _, rfl⟩, jm_g1 5 rfl rfl, ⟨by decide, by decide⟩, by decide +kernel⟩
theorem ji_C_highest : jm_ci jm_G jp_C_highest.1 (jx_wc jp_C_highest) jp_C_highest.2.2.1 1 := ⟨jm_g3 52 rfl rfl, Or.inl ⟨_, _, rfl⟩, jm_g1 5 rfl rfl, ⟨by decide, by decide⟩, by decide +kernel⟩
theorem ji_C_clear : jm_ci jm_G jp_C_clear.1 (jx_wc jp_C_clear) jp_C_clear.2.2.1 0 := ⟨jm_g3 40 rfl rfl, Or.inl ⟨_, _, rfl⟩, jm_g1 5 rfl rfl, ⟨by decide, by decide⟩, by decide +kernel⟩
theorem ji_C_add : jm_ci jm_G jp_C_add.1 (jx_wc jp_C_add) jp_C_add.2.2.1 2 := ⟨jm_g3 126 rfl rfl, Or.inl ⟨_, _, rfl⟩, jm_g1 5 rfl rfl, ⟨by decide, by decide⟩, by decide +kernel⟩
theorem ji_C_hasMonth : jm_ci jm_G jp_C_hasMonth.1 (jx_wc jp_C_hasMonth) jp_C_hasMonth.2.2.1 1 := ⟨jm_g4 28 rfl rfl, Or.inl ⟨_, _, rfl⟩, jm_g1 5 rfl rfl, ⟨by decide, by decide⟩, by decide +kernel⟩
theorem ji_C_hasYear : jm_ci jm_G jp_C_hasYear.1 (jx_wc jp_C_hasYear) jp_C_hasYear.2.2.1 1 := ⟨jm_g4 24 rfl rfl, Or.inl ⟨_, _, rfl⟩, jm_g1 5 rfl rfl, ⟨by decide, by decide⟩, by decide +kernel⟩
theorem ji_C_daysOf : jm_ci jm_G jp_C_daysOf.1 (jx_wc jp_C_daysOf) jp_C_daysOf.2.2.1 2 := ⟨jm_g4 38 rfl rfl, Or.inl ⟨_, _, rfl⟩, jm_g1 5 rfl rfl, ⟨by decide, by decide⟩, by decide +kernel⟩
theorem ji_C_weekdaysFrom : jm_ci jm_G jp_C_weekdaysFrom.1 (jx_wc jp_C_weekdaysFrom) jp_C_weekdaysFrom.2.2.1 1 := ⟨jm_g4 45 rfl rfl, Or.inl ⟨_, _, rfl⟩, jm_g1 5 rfl rfl, ⟨by decide, by decide⟩, by decide +kernel⟩
theorem ji_C_workdayNearest : jm_ci jm_G jp_C_workdayNearest.1 (jx_wc jp_C_workdayNearest) jp_C_workdayNearest.2.2.1 3 := ⟨jm_g4 52 rfl rfl, Or.inl ⟨_, _, rfl⟩, jm_g1 5 rfl rfl, ⟨by decide, by decide⟩, by decide +kernel⟩
theorem ji_C_bitOf : jm_ci jm_G jp_C_bitOf.1 (jx_wc jp_C_bitOf) jp_C_bitOf.2.2.1 2 := ⟨jm_g4 49 rfl rfl, Or.inl ⟨_, _, rfl⟩, jm_g1 5 rfl rfl, ⟨by decide, by decide⟩, by decide +kernel⟩
theorem ji_C_bitsUpTo : jm_ci jm_G jp_C_bitsUpTo.1 (jx_wc jp_C_bitsUpTo) jp_C_bitsUpTo.2.2.1 1 := ⟨jm_g4 41 rfl rfl, Or.inl ⟨_, _, rfl⟩, jm_g1 5 rfl rfl, ⟨by decide, by decide⟩, by decide +kernel⟩
theorem ji_C_timeFrom : jm_ci jm_G jp_C_timeFrom.1 (jx_wc jp_C_timeFrom) jp_C_timeFrom.2.2.1 1 := ⟨jm_g4 68 rfl rfl, Or.inl ⟨_, _, rfl⟩, jm_g1 5 rfl rfl, ⟨by decide, by decide⟩, by decide +kernel⟩
theorem ji_C_timeUpTo : jm_ci jm_G jp_C_timeUpTo.1 (jx_wc jp_C_timeUpTo) jp_C_timeUpTo.2.2.1 1 := ⟨jm_g4 103 rfl rfl, Or.inl ⟨_, _, rfl⟩, jm_g1 5 rfl rfl, ⟨by decide, by decide⟩, by decide +kernel⟩
theorem ji_C_lowestBit : jm_ci jm_G jp_C_lowestBit.1 (jx_wc jp_C_lowestBit) jp_C_lowestBit.2.2.1 2 := ⟨jm_g4 56 rfl rfl, Or.inl ⟨_, _, rfl⟩, jm_g1 5 rfl rfl, ⟨by decide, by decide⟩, by decide +kernel⟩
theorem ji_C_highestBit : jm_ci jm_G jp_C_highestBit.1 (jx_wc jp_C_highestBit) jp_C_highestBit.2.2.1 2 := ⟨jm_g4 99 rfl rfl, Or.inl ⟨_, _, rfl⟩, jm_g1 5 rfl rfl, ⟨by decide, by decide⟩, by decide +kernel⟩
theorem ji_CR_readCron : jm_ci jm_G jp_CR_readCron.1 (jx_wc jp_CR_readCron) jp_CR_readCron.2.2.1 2 := ⟨jm_g3 36 rfl rfl, Or.inl ⟨_, _, rfl⟩, jm_g1 18 rfl rfl, ⟨by decide, by decide⟩, by decide +kernel⟩
theorem ji_CR_takeDayRule : jm_ci jm_G jp_CR_takeDayRule.1 (jx_wc jp_CR_takeDayRule) jp_CR_takeDayRule.2.2.1 2 := ⟨jm_g3 133 rfl rfl, Or.inl ⟨_, _, rfl⟩, jm_g1 18 rfl rfl, ⟨by decide, by decide⟩, by decide +kernel⟩
theorem ji_CR_takeWeekdayRule : jm_ci jm_G jp_CR_takeWeekdayRule.1 (jx_wc jp_CR_takeWeekdayRule) jp_CR_takeWeekdayRule.2.2.1 2 := ⟨jm_g3 136 rfl rfl, Or.inl ⟨_, _, rfl⟩, jm_g1 18 rfl rfl, ⟨by decide, by decide⟩, by decide +kernel⟩
theorem ji_CR_readItems : jm_ci jm_G jp_CR_readItems.1 (jx_wc jp_CR_readItems) jp_CR_readItems.2.2.1 3 := ⟨jm_g3 43 rfl rfl, Or.inl ⟨_, _, rfl⟩, jm_g1 18 rfl rfl, ⟨by decide, by decide⟩, by decide +kernel⟩
theorem ji_CR_readItem : jm_ci jm_G jp_CR_readItem.1 (jx_wc jp_CR_readItem) jp_CR_readItem.2.2.1 4 := ⟨jm_g3 46 rfl rfl, Or.inl ⟨_, _, rfl⟩, jm_g1 18 rfl rfl, ⟨by decide, by decide⟩, by decide +kernel⟩
theorem ji_CR_readValue : jm_ci jm_G jp_CR_readValue.1 (jx_wc jp_CR_readValue) jp_CR_readValue.2.2.1 2 := ⟨jm_g3 56 rfl rfl, Or.inl ⟨_, _, rfl⟩, jm_g1 18 rfl rfl, ⟨by decide, by decide⟩, by decide +kernel⟩
theorem ji_CR_readUpper : jm_ci jm_G jp_CR_readUpper.1 (jx_wc jp_CR_readUpper) jp_CR_readUpper.2.2.1 3 := ⟨jm_g3 118 rfl rfl, Or.inl ⟨_, _, rfl⟩, jm_g1 18 rfl rfl, ⟨by decide, by decide⟩, by decide +kernel⟩
theorem ji_CR_takeSign : jm_ci jm_G jp_CR_takeSign.1 (jx_wc jp_CR_takeSign) jp_CR_takeSign.2.2.1 4 := ⟨jm_g3 114 rfl rfl, Or.inl ⟨_, _, rfl⟩, jm_g1 18 rfl rfl, ⟨by decide, by decide⟩, by decide +kernel⟩
theorem ji_CR_addSome : jm_ci jm_G jp_CR_addSome.1 (jx_wc jp_CR_addSome) jp_CR_addSome.2.2.1 5 := ⟨jm_g3 122 rfl rfl, Or.inl ⟨_, _, rfl⟩, jm_g1 18 rfl rfl, ⟨by decide, by decide⟩, by decide +kernel⟩
theorem ji_D_firstOfMonth : jm_ci jm_G jp_D_firstOfMonth.1 (jx_wc jp_D_firstOfMonth) jp_D_firstOfMonth.2.2.1 2 := ⟨jm_g3 211 rfl rfl, Or.inl ⟨_, _, rfl⟩, jm_g1 24 rfl rfl, ⟨by decide, by decide⟩, by decide +kernel⟩
theorem ji_D_monthLength : jm_ci jm_G jp_D_monthLength.1 (jx_wc jp_D_monthLength) jp_D_monthLength.2.2.1 2 := ⟨jm_g3 231 rfl rfl, Or.inl ⟨_, _, rfl⟩, jm_g1 24 rfl rfl, ⟨by decide, by decide⟩, by decide +kernel⟩
theorem ji_D_dayOf : jm_ci jm_G jp_D_dayOf.1 (jx_wc jp_D_dayOf) jp_D_dayOf.2.2.1 1 := ⟨jm_g3 197 rfl rfl, Or.inl ⟨_, _, rfl⟩, jm_g1 24 rfl rfl, ⟨by decide, by decide⟩, by decide +kernel⟩
theorem ji_D_yearOf : jm_ci jm_G jp_D_yearOf.1 (jx_wc jp_D_yearOf) jp_D_yearOf.2.2.1 1 := ⟨jm_g3 204 rfl rfl, Or.inl ⟨_, _, rfl⟩, jm_g1 24 rfl rfl, ⟨by decide, by decide⟩, by decide +kernel⟩
theorem ji_D_monthOf : jm_ci jm_G jp_D_monthOf.1 (jx_wc jp_D_monthOf) jp_D_monthOf.2.2.1 2 := ⟨jm_g4 19 rfl rfl, Or.inl ⟨_, _, rfl⟩, jm_g1 24 rfl rfl, ⟨by decide, by decide⟩, by decide +kernel⟩
theorem ji_D_weekdayOf : jm_ci jm_G jp_D_weekdayOf.1 (jx_wc jp_D_weekdayOf) jp_D_weekdayOf.2.2.1 1 := ⟨jm_g3 225 rfl rfl, Or.inl ⟨_, _, rfl⟩, jm_g1 24 rfl rfl, ⟨by decide, by decide⟩, by decide +kernel⟩
theorem ji_F_init : jm_ci jm_G jp_F_init.1 (jx_wc jp_F_init) jp_F_init.2.2.1 0 := ⟨jm_g1 83 rfl rfl, Or.inl ⟨_, _, rfl⟩, jm_g1 4 rfl rfl, ⟨by decide, by decide⟩, by decide +kernel⟩
theorem ji_F_firstAfter : jm_ci jm_G jp_F_firstAfter.1 (jx_wc jp_F_firstAfter) jp_F_firstAfter.2.2.1 1 := ⟨jm_g3 183 rfl rfl, Or.inl ⟨_, _, rfl⟩, jm_g1 4 rfl rfl, ⟨by decide, by decide⟩, by decide +kernel⟩
theorem ji_F_latestUpTo : jm_ci jm_G jp_F_latestUpTo.1 (jx_wc jp_F_latestUpTo) jp_F_latestUpTo.2.2.1 1 := ⟨jm_g4 82 rfl rfl, Or.inl ⟨_, _, rfl⟩, jm_g1 4 rfl rfl, ⟨by decide, by decide⟩, by decide +kernel⟩
theorem ji_F_localFrom : jm_ci jm_G jp_F_localFrom.1 (jx_wc jp_F_localFrom) jp_F_localFrom.2.2.1 1 := ⟨jm_g4 9 rfl rfl, Or.inl ⟨_, _, rfl⟩, jm_g1 4 rfl rfl, ⟨by decide, by decide⟩, by decide +kernel⟩
theorem ji_F_localUpTo : jm_ci jm_G jp_F_localUpTo.1 (jx_wc jp_F_localUpTo) jp_F_localUpTo.2.2.1 1 := ⟨jm_g4 86 rfl rfl, Or.inl ⟨_, _, rfl⟩, jm_g1 4 rfl rfl, ⟨by decide, by decide⟩, by decide +kernel⟩
theorem ji_F_dayFrom : jm_ci jm_G jp_F_dayFrom.1 (jx_wc jp_F_dayFrom) jp_F_dayFrom.2.2.1 1 := ⟨jm_g4 14 rfl rfl, Or.inl ⟨_, _, rfl⟩, jm_g1 4 rfl rfl, ⟨by decide, by decide⟩, by decide +kernel⟩
theorem ji_F_dayUpTo : jm_ci jm_G jp_F_dayUpTo.1 (jx_wc jp_F_dayUpTo) jp_F_dayUpTo.2.2.1 1 := ⟨jm_g4 90 rfl rfl, Or.inl ⟨_, _, rfl⟩, jm_g1 4 rfl rfl, ⟨by decide, by decide⟩, by decide +kernel⟩
theorem ji_F_dateFrom : jm_ci jm_G jp_F_dateFrom.1 (jx_wc jp_F_dateFrom) jp_F_dateFrom.2.2.1 3 := ⟨jm_g4 32 rfl rfl, Or.inl ⟨_, _, rfl⟩, jm_g1 4 rfl rfl, ⟨by decide, by decide⟩, by decide +kernel⟩
theorem ji_F_dateUpTo : jm_ci jm_G jp_F_dateUpTo.1 (jx_wc jp_F_dateUpTo) jp_F_dateUpTo.2.2.1 3 := ⟨jm_g4 96 rfl rfl, Or.inl ⟨_, _, rfl⟩, jm_g1 4 rfl rfl, ⟨by decide, by decide⟩, by decide +kernel⟩
theorem ji_H_init : jm_ci jm_G jp_H_init.1 (jx_wc jp_H_init) jp_H_init.2.2.1 1 := ⟨jm_g1 68 rfl rfl, Or.inl ⟨_, _, rfl⟩, jm_g1 3 rfl rfl, ⟨by decide, by decide⟩, by decide +kernel⟩
theorem ji_H_placeOf : jm_ci jm_G jp_H_placeOf.1 (jx_wc jp_H_placeOf) jp_H_placeOf.2.2.1 1 := ⟨jm_g3 152 rfl rfl, Or.inl ⟨_, _, rfl⟩, jm_g1 3 rfl rfl, ⟨by decide, by decide⟩, by decide +kernel⟩
theorem ji_H_insert : jm_ci jm_G jp_H_insert.1 (jx_wc jp_H_insert) jp_H_insert.2.2.1 2 := ⟨jm_g3 156 rfl rfl, Or.inl ⟨_, _, rfl⟩, jm_g1 3 rfl rfl, ⟨by decide, by decide⟩, by decide +kernel⟩
theorem ji_H_removeAt : jm_ci jm_G jp_H_removeAt.1 (jx_wc jp_H_removeAt) jp_H_removeAt.2.2.1 1 := ⟨jm_g3 163 rfl rfl, Or.inl ⟨_, _, rfl⟩, jm_g1 3 rfl rfl, ⟨by decide, by decide⟩, by decide +kernel⟩
theorem ji_B_init : jm_ci jm_G jp_B_init.1 (jx_wc jp_B_init) jp_B_init.2.2.1 0 := ⟨jm_g1 210 rfl rfl, Or.inl ⟨_, _, rfl⟩, jm_g1 9 rfl rfl, ⟨by decide, by decide⟩, by decide +kernel⟩
theorem ji_B_isAheadOf : jm_ci jm_G jp_B_isAheadOf.1 (jx_wc jp_B_isAheadOf) jp_B_isAheadOf.2.2.1 1 := ⟨jm_g5 15 rfl rfl, Or.inl ⟨_, _, rfl⟩, jm_g1 9 rfl rfl, ⟨by decide, by decide⟩, by decide +kernel⟩
theorem ji_B_isOver : jm_ci jm_G jp_B_isOver.1 (jx_wc jp_B_isOver) jp_B_isOver.2.2.1 0 := ⟨jm_g4 238 rfl rfl, Or.inl ⟨_, _, rfl⟩, jm_g1 9 rfl rfl, ⟨by decide, by decide⟩, by decide +kernel⟩
theorem ji_B_rateTimeBehind : jm_ci jm_G jp_B_rateTimeBehind.1 (jx_wc jp_B_rateTimeBehind) jp_B_rateTimeBehind.2.2.1 1 := ⟨jm_g5 2 rfl rfl, Or.inl ⟨_, _, rfl⟩, jm_g1 9 rfl rfl, ⟨by decide, by decide⟩, by decide +kernel⟩
theorem ji_L_init : jm_ci jm_G jp_L_init.1 (jx_wc jp_L_init) jp_L_init.2.2.1 0 := ⟨jm_g1 184 rfl rfl, Or.inl ⟨_, _, rfl⟩, jm_g1 8 rfl rfl, ⟨by decide, by decide⟩, by decide +kernel⟩
theorem ji_L_add : jm_ci jm_G jp_L_add.1 (jx_wc jp_L_add) jp_L_add.2.2.1 3 := ⟨jm_g5 23 rfl rfl, Or.inl ⟨_, _, rfl⟩, jm_g1 8 rfl rfl, ⟨by decide, by decide⟩, by decide +kernel⟩
theorem ji_T_init : jm_ci jm_G jp_T_init.1 (jx_wc jp_T_init) jp_T_init.2.2.1 0 := ⟨jm_g1 40 rfl rfl, Or.inl ⟨_, _, rfl⟩, jm_g1 2 rfl rfl, ⟨by decide, by decide⟩, by decide +kernel⟩
theorem ji_T_addWord : jm_ci jm_G jp_T_addWord.1 (jx_wc jp_T_addWord) jp_T_addWord.2.2.1 1 := ⟨jm_g2 155 rfl rfl, Or.inl ⟨_, _, rfl⟩, jm_g1 2 rfl rfl, ⟨by decide, by decide⟩, by decide +kernel⟩
theorem ji_T_rewind : jm_ci jm_G jp_T_rewind.1 (jx_wc jp_T_rewind) jp_T_rewind.2.2.1 0 := ⟨jm_g2 194 rfl rfl, Or.inl ⟨_, _, rfl⟩, jm_g1 2 rfl rfl, ⟨by decide, by decide⟩, by decide +kernel⟩
theorem ji_T_breakAt : jm_ci jm_G jp_T_breakAt.1 (jx_wc jp_T_breakAt) jp_T_breakAt.2.2.1 1 := ⟨jm_g2 215 rfl rfl, Or.inl ⟨_, _, rfl⟩, jm_g1 2 rfl rfl, ⟨by decide, by decide⟩, by decide +kernel⟩
theorem ji_T_isDone : jm_ci jm_G jp_T_isDone.1 (jx_wc jp_T_isDone) jp_T_isDone.2.2.1 0 := ⟨jm_g2 230 rfl rfl, Or.inl ⟨_, _, rfl⟩, jm_g1 2 rfl rfl, ⟨by decide, by decide⟩, by decide +kernel⟩
theorem ji_T_peek : jm_ci jm_G jp_T_peek.1 (jx_wc jp_T_peek) jp_T_peek.2.2.1 0 := ⟨jm_g2 206 rfl rfl, Or.inl ⟨_, _, rfl⟩, jm_g1 2 rfl rfl, ⟨by decide, by decide⟩, by decide +kernel⟩
theorem ji_T_take : jm_ci jm_G jp_T_take.1 (jx_wc jp_T_take) jp_T_take.2.2.1 1 := ⟨jm_g2 202 rfl rfl, Or.inl ⟨_, _, rfl⟩, jm_g1 2 rfl rfl, ⟨by decide, by decide⟩, by decide +kernel⟩
theorem ji_T_require : jm_ci jm_G jp_T_require.1 (jx_wc jp_T_require) jp_T_require.2.2.1 1 := ⟨jm_g2 210 rfl rfl, Or.inl ⟨_, _, rfl⟩, jm_g1 2 rfl rfl, ⟨by decide, by decide⟩, by decide +kernel⟩
theorem ji_T_requireBlanks : jm_ci jm_G jp_T_requireBlanks.1 (jx_wc jp_T_requireBlanks) jp_T_requireBlanks.2.2.1 0 := ⟨jm_g2 234 rfl rfl, Or.inl ⟨_, _, rfl⟩, jm_g1 2 rfl rfl, ⟨by decide, by decide⟩, by decide +kernel⟩
theorem ji_T_requireEnd : jm_ci jm_G jp_T_requireEnd.1 (jx_wc jp_T_requireEnd) jp_T_requireEnd.2.2.1 0 := ⟨jm_g3 5 rfl rfl, Or.inl ⟨_, _, rfl⟩, jm_g1 2 rfl rfl, ⟨by decide, by decide⟩, by decide +kernel⟩
theorem ji_T_number : jm_ci jm_G jp_T_number.1 (jx_wc jp_T_number) jp_T_number.2.2.1 2 := ⟨jm_g2 219 rfl rfl, Or.inl ⟨_, _, rfl⟩, jm_g1 2 rfl rfl, ⟨by decide, by decide⟩, by decide +kernel⟩
theorem ji_T_takeName : jm_ci jm_G jp_T_takeName.1 (jx_wc jp_T_takeName) jp_T_takeName.2.2.1 1 := ⟨jm_g3 61 rfl rfl, Or.inl ⟨_, _, rfl⟩, jm_g1 2 rfl rfl, ⟨by decide, by decide⟩, by decide +kernel⟩
theorem ji_T_isDigit : jm_ci jm_G jp_T_isDigit.1 (jx_wc jp_T_isDigit) jp_T_isDigit.2.2.1 1 := ⟨jm_g2 222 rfl rfl, Or.inl ⟨_, _, rfl⟩, jm_g1 2 rfl rfl, ⟨by decide, by decide⟩, by decide +kernel⟩
theorem ji_Y_init : jm_ci jm_G jp_Y_init.1 (jx_wc jp_Y_init) jp_Y_init.2.2.1 0 := ⟨jm_g1 118 rfl rfl, Or.inl ⟨_, _, rfl⟩, jm_g1 7 rfl rfl, ⟨by decide, by decide⟩, by decide +kernel⟩
theorem ji_Y_readFrom : jm_ci jm_G jp_Y_readFrom.1 (jx_wc jp_Y_readFrom) jp_Y_readFrom.2.2.1 1 := ⟨jm_g2 239 rfl rfl, Or.inl ⟨_, _, rfl⟩, jm_g1 7 rfl rfl, ⟨by decide, by decide⟩, by decide +kernel⟩
theorem ji_Y_secondIn : jm_ci jm_G jp_Y_secondIn.1 (jx_wc jp_Y_secondIn) jp_Y_secondIn.2.2.1 1 := ⟨jm_g3 221 rfl rfl, Or.inl ⟨_, _, rfl⟩, jm_g1 7 rfl rfl, ⟨by decide, by decide⟩, by decide +kernel⟩
theorem ji_Y_latestUpTo : jm_ci jm_G jp_Y_latestUpTo.1 (jx_wc jp_Y_latestUpTo) jp_Y_latestUpTo.2.2.1 3 := ⟨jm_g3 216 rfl rfl, Or.inl ⟨_, _, rfl⟩, jm_g1 7 rfl rfl, ⟨by decide, by decide⟩, by decide +kernel⟩
theorem ji_Y_firstBehind : jm_ci jm_G jp_Y_firstBehind.1 (jx_wc jp_Y_firstBehind) jp_Y_firstBehind.2.2.1 3 := ⟨jm_g3 237 rfl rfl, Or.inl ⟨_, _, rfl⟩, jm_g1 7 rfl rfl, ⟨by decide, by decide⟩, by decide +kernel⟩
theorem ji_Z_init : jm_ci jm_G jp_Z_init.1 (jx_wc jp_Z_init) jp_Z_init.2.2.1 0 := ⟨jm_g1 112 rfl rfl, Or.inl ⟨_, _, rfl⟩, jm_g1 6 rfl rfl, ⟨by decide, by decide⟩, by decide +kernel⟩
theorem ji_Z_readFrom : jm_ci jm_G jp_Z_readFrom.1 (jx_wc jp_Z_readFrom) jp_Z_readFrom.2.2.1 1 := ⟨jm_g2 198 rfl rfl, Or.inl ⟨_, _, rfl⟩, jm_g1 6 rfl rfl, ⟨by decide, by decide⟩, by decide +kernel⟩
theorem ji_Z_offsetAt : jm_ci jm_G jp_Z_offsetAt.1 (jx_wc jp_Z_offsetAt) jp_Z_offsetAt.2.2.1 1 := ⟨jm_g3 189 rfl rfl, Or.inl ⟨_, _, rfl⟩, jm_g1 6 rfl rfl, ⟨by decide, by decide⟩, by decide +kernel⟩
theorem ji_Z_findStretch : jm_ci jm_G jp_Z_findStretch.1 (jx_wc jp_Z_findStretch) jp_Z_findStretch.2.2.1 1 := ⟨jm_g3 193 rfl rfl, Or.inl ⟨_, _, rfl⟩, jm_g1 6 rfl rfl, ⟨by decide, by decide⟩, by decide +kernel⟩
theorem ji_W_feed : jm_ci jm_G jp_W_feed.1 (jx_wc jp_W_feed) jp_W_feed.2.2.1 7 := ⟨jm_g2 81 rfl rfl, Or.inr ⟨_, _, _, rfl⟩, jm_g1 0 rfl rfl, ⟨by decide, by decide⟩, by decide +kernel⟩
theorem ji_W_end : jm_ci jm_G jp_W_end.1 (jx_wc jp_W_end) jp_W_end.2.2.1 3 := ⟨jm_g2 158 rfl rfl, Or.inr ⟨_, _, _, rfl⟩, jm_g1 0 rfl rfl, ⟨by decide, by decide⟩, by decide +kernel⟩
theorem ji_W_zone : jm_ci jm_G jp_W_zone.1 (jx_wc jp_W_zone) jp_W_zone.2.2.1 2 := ⟨jm_g2 184 rfl rfl, Or.inr ⟨_, _, _, rfl⟩, jm_g1 0 rfl rfl, ⟨by decide, by decide⟩, by decide +kernel⟩
theorem ji_W_cron : jm_ci jm_G jp_W_cron.1 (jx_wc jp_W_cron) jp_W_cron.2.2.1 2 := ⟨jm_g3 28 rfl rfl, Or.inr ⟨_, _, _, rfl⟩, jm_g1 0 rfl rfl, ⟨by decide, by decide⟩, by decide +kernel⟩
theorem ji_W_holiday : jm_ci jm_G jp_W_holiday.1 (jx_wc jp_W_holiday) jp_W_holiday.2.2.1 5 := ⟨jm_g3 142 rfl rfl, Or.inr ⟨_, _, _, rfl⟩, jm_g1 0 rfl rfl, ⟨by decide, by decide⟩, by decide +kernel⟩
theorem ji_W_next : jm_ci jm_G jp_W_next.1 (jx_wc jp_W_next) jp_W_next.2.2.1 6 := ⟨jm_g3 166 rfl rfl, Or.inr ⟨_, _, _, rfl⟩, jm_g1 0 rfl rfl, ⟨by decide, by decide⟩, by decide +kernel⟩
theorem ji_W_last : jm_ci jm_G jp_W_last.1 (jx_wc jp_W_last) jp_W_last.2.2.1 6 := ⟨jm_g4 74 rfl rfl, Or.inr ⟨_, _, _, rfl⟩, jm_g1 0 rfl rfl, ⟨by decide, by decide⟩, by decide +kernel⟩
theorem ji_W_local : jm_ci jm_G jp_W_local.1 (jx_wc jp_W_local) jp_W_local.2.2.1 5 := ⟨jm_g4 109 rfl rfl, Or.inr ⟨_, _, _, rfl⟩, jm_g1 0 rfl rfl, ⟨by decide, by decide⟩, by decide +kernel⟩
theorem ji_W_make : jm_ci jm_G jp_W_make.1 (jx_wc jp_W_make) jp_W_make.2.2.1 9 := ⟨jm_g4 127 rfl rfl, Or.inr ⟨_, _, _, rfl⟩, jm_g1 0 rfl rfl, ⟨by decide, by decide⟩, by decide +kernel⟩
theorem ji_W_makeCron : jm_ci jm_G jp_W_makeCron.1 (jx_wc jp_W_makeCron) jp_W_makeCron.2.2.1 9 := ⟨jm_g4 170 rfl rfl, Or.inr ⟨_, _, _, rfl⟩, jm_g1 0 rfl rfl, ⟨by decide, by decide⟩, by decide +kernel⟩
theorem ji_W_cancel : jm_ci jm_G jp_W_cancel.1 (jx_wc jp_W_cancel) jp_W_cancel.2.2.1 3 := ⟨jm_g4 177 rfl rfl, Or.inr ⟨_, _, _, rfl⟩, jm_g1 0 rfl rfl, ⟨by decide, by decide⟩, by decide +kernel⟩
theorem ji_W_workers : jm_ci jm_G jp_W_workers.1 (jx_wc jp_W_workers) jp_W_workers.2.2.1 3 := ⟨jm_g4 208 rfl rfl, Or.inr ⟨_, _, _, rfl⟩, jm_g1 0 rfl rfl, ⟨by decide, by decide⟩, by decide +kernel⟩
theorem ji_W_advance : jm_ci jm_G jp_W_advance.1 (jx_wc jp_W_advance) jp_W_advance.2.2.1 3 := ⟨jm_g4 216 rfl rfl, Or.inr ⟨_, _, _, rfl⟩, jm_g1 0 rfl rfl, ⟨by decide, by decide⟩, by decide +kernel⟩
theorem ji_W_stall : jm_ci jm_G jp_W_stall.1 (jx_wc jp_W_stall) jp_W_stall.2.2.1 2 := ⟨jm_g5 30 rfl rfl, Or.inr ⟨_, _, _, rfl⟩, jm_g1 0 rfl rfl, ⟨by decide, by decide⟩, by decide +kernel⟩
theorem ji_W_close : jm_ci jm_G jp_W_close.1 (jx_wc jp_W_close) jp_W_close.2.2.1 4 := ⟨jm_g5 37 rfl rfl, Or.inr ⟨_, _, _, rfl⟩, jm_g1 0 rfl rfl, ⟨by decide, by decide⟩, by decide +kernel⟩
theorem ji_W_job : jm_ci jm_G jp_W_job.1 (jx_wc jp_W_job) jp_W_job.2.2.1 4 := ⟨jm_g5 44 rfl rfl, Or.inr ⟨_, _, _, rfl⟩, jm_g1 0 rfl rfl, ⟨by decide, by decide⟩, by decide +kernel⟩
theorem ji_W_start : jm_ci jm_G jp_W_start.1 (jx_wc jp_W_start) jp_W_start.2.2.1 4 := ⟨jm_g5 52 rfl rfl, Or.inr ⟨_, _, _, rfl⟩, jm_g1 0 rfl rfl, ⟨by decide, by decide⟩, by decide +kernel⟩
theorem ji_W_count : jm_ci jm_G jp_W_count.1 (jx_wc jp_W_count) jp_W_count.2.2.1 3 := ⟨jm_g5 59 rfl rfl, Or.inr ⟨_, _, _, rfl⟩, jm_g1 0 rfl rfl, ⟨by decide, by decide⟩, by decide +kernel⟩
theorem ji_Long_bitCount : jm_ci jm_G jp_Long_bitCount.1 (jx_wc jp_Long_bitCount) jp_Long_bitCount.2.2.1 1 := ⟨jm_g4 59 rfl rfl, Or.inl ⟨_, _, rfl⟩, jm_g1 25 rfl rfl, ⟨by decide, by decide⟩, by decide +kernel⟩
theorem ji_Math_floorDiv : jm_ci jm_G jp_Math_floorDiv.1 (jx_wc jp_Math_floorDiv) jp_Math_floorDiv.2.2.1 2 := ⟨jm_g3 208 rfl rfl, Or.inl ⟨_, _, rfl⟩, jm_g1 16 rfl rfl, ⟨by decide, by decide⟩, by decide +kernel⟩
theorem ji_Math_floorDiv2 : jm_ci jm_G jp_Math_floorDiv2.1 (jx_wc jp_Math_floorDiv2) jp_Math_floorDiv2.2.2.1 2 := ⟨jm_g3 201 rfl rfl, Or.inl ⟨_, _, rfl⟩, jm_g1 16 rfl rfl, ⟨by decide, by decide⟩, by decide +kernel⟩
theorem ji_Math_floorMod : jm_ci jm_G jp_Math_floorMod.1 (jx_wc jp_Math_floorMod) jp_Math_floorMod.2.2.1 2 := ⟨jm_g3 228 rfl rfl, Or.inl ⟨_, _, rfl⟩, jm_g1 16 rfl rfl, ⟨by decide, by decide⟩, by decide +kernel⟩
theorem ji_Math_floorMod2 : jm_ci jm_G jp_Math_floorMod2.1 (jx_wc jp_Math_floorMod2) jp_Math_floorMod2.2.2.1 2 := ⟨jm_g4 119 rfl rfl, Or.inl ⟨_, _, rfl⟩, jm_g1 16 rfl rfl, ⟨by decide, by decide⟩, by decide +kernel⟩
theorem ji_Math_max : jm_ci jm_G jp_Math_max.1 (jx_wc jp_Math_max) jp_Math_max.2.2.1 2 := ⟨jm_g3 129 rfl rfl, Or.inl ⟨_, _, rfl⟩, jm_g1 16 rfl rfl, ⟨by decide, by decide⟩, by decide +kernel⟩
theorem ji_Math_max2 : jm_ci jm_G jp_Math_max2.1 (jx_wc jp_Math_max2) jp_Math_max2.2.2.1 2 := ⟨jm_g4 2 rfl rfl, Or.inl ⟨_, _, rfl⟩, jm_g1 16 rfl rfl, ⟨by decide, by decide⟩, by decide +kernel⟩
theorem ji_Math_min : jm_ci jm_G jp_Math_min.1 (jx_wc jp_Math_min) jp_Math_min.2.2.1 2 := ⟨jm_g2 226 rfl rfl, Or.inl ⟨_, _, rfl⟩, jm_g1 16 rfl rfl, ⟨by decide, by decide⟩, by decide +kernel⟩
theorem ji_Math_min2 : jm_ci jm_G jp_Math_min2.1 (jx_wc jp_Math_min2) jp_Math_min2.2.2.1 2 := ⟨jm_g4 5 rfl rfl, Or.inl ⟨_, _, rfl⟩, jm_g1 16 rfl rfl, ⟨by decide, by decide⟩, by decide +kernel⟩
end JI
end
section
section JS
def jx_strs : List (Nat × String × Nat × String) := [(0, "JobHouse$CronReader", 93, "JANFEBMARAPRMAYJUNJULAUGSEPOCTNOVDEC"), (1, "JobHouse$CronReader", 99, "SUNMONTUEWEDTHUFRISAT"), (2, "JobHouseModel", 65, "JAN"), (3, "JobHouseModel", 67, "FEB"), (4, "JobHouseModel", 69, "MAR"), (5, "JobHouseModel", 71, "APR"), (6, "JobHouseModel", 73, "MAY"), (7, "JobHouseModel", 75, "JUN"), (8, "JobHouseModel", 77, "JUL"), (9, "JobHouseModel", 79, "AUG"), (10, "JobHouseModel", 81, "SEP"), (11, "JobHouseModel", 83, "OCT"), (12, "JobHouseModel", 85, "NOV"), (13, "JobHouseModel", 87, "DEC"), (14, "JobHouseModel", 93, "SUN"), (15, "JobHouseModel", 95, "MON"), (16, "JobHouseModel", 97, "TUE"), (17, "JobHouseModel", 99, "WED"), (18, "JobHouseModel", 101, "THU"), (19, "JobHouseModel", 103, "FRI"), (20, "JobHouseModel", 105, "SAT")]
def jx_R1 (sc aL aM : Nat) (adK : Nat → Nat) : List Nat := [sc, aL, aM, adK 0, adK 1, adK 2, adK 3, adK 4, adK 5, adK 6, adK 7, adK 8, adK 9, adK 10, adK 11, adK 12, adK 13, adK 14, adK 15, adK 16, adK 17, adK 18, adK 19, adK 20]
def jx_hw : List Cond := [.laysStatic "java/lang/Throwable" "UNASSIGNED_STACK" "[Ljava/lang/StackTraceElement;", .laysStatic "java/lang/Throwable" "SUPPRESSED_SENTINEL" "Ljava/util/List;", .isRef (.static "java/lang/Throwable" "UNASSIGNED_STACK" "[Ljava/lang/StackTraceElement;"), .isRef (.static "java/lang/Throwable" "SUPPRESSED_SENTINEL" "Ljava/util/List;"), .castable "java/lang/IndexOutOfBoundsException" "java/lang/IndexOutOfBoundsException", .castable "java/lang/IllegalArgumentException" "java/lang/IllegalArgumentException", .castable "java/lang/UnsupportedOperationException" "java/lang/UnsupportedOperationException", .castable "java/lang/IllegalStateException" "java/lang/IllegalStateException", .castable "java/util/NoSuchElementException" "java/util/NoSuchElementException"]
/-- what the start says of constants and of the words that the tables do not keep -/
def jx_MF (S : State) (dA : Nat → ClassId) : Prop := (S.vm.findClass "[[I" = some (dA 12) ∧ jx_kd S (dA 12) (dA 2)) ∧ (S.vm.findClass "[[J" = some (dA 9) ∧ jx_kd S (dA 9) (dA 3)) ∧ (S.vm.findClass "[[Z" = some (dA 10) ∧ jx_kd S (dA 10) (dA 1)) ∧ (S.vm.findClass "[[[Z" = some (dA 11) ∧ jx_kd S (dA 11) (dA 10))
def jx_SF (S : State) (dA : Nat → ClassId) (aL aM : Nat) (adK : Nat → Nat) : Prop := va_Z "JobHouseModel" "LEAST" "[I" (.ref aL) (fun q => S.heap.size ≤ q) S S.heap ∧ va_Z "JobHouseModel" "MOSTS" "[I" (.ref aM) (fun q => S.heap.size ≤ q) S S.heap ∧ (∀ (i : Nat) (own : String) (idx : Nat) (tx : String), (i, own, idx, tx) ∈ jx_strs → vk_R own idx tx (adK i) S) ∧ (∀ w ∈ jx_hw, jm_hs S w) ∧ va_Nw (.native arraycopyName) S ∧ (∀ C ∈ ["JobHouse$Zone", "JobHouse$Cron", "JobHouse$Holidays", "JobHouse$Job", "java/lang/String"], va_AO C S) ∧ jx_MF S dA
variable {S : State} {dA : Nat → ClassId} {sc aL aM : Nat} {adK : Nat → Nat}
def jx_cl (i : Instr) : Bool := match i with
  | .ldc _ | .ldc_w _ | .ldc2_w _ | .getfield _ | .putfield _ | .getstatic _ | .new _ | .newarray _ | .anewarray _ | .invokestatic _ | .invokevirtual _ | .invokespecial _ | .multianewarray _ _ => true
  | _ => false
def jx_pl (i : Instr) (va : Value) : Bool := match i with
  | .iconst n => va == .int (Int32.ofInt n)
  | .bipush n => va == .int (Int8.ofInt n).toInt32
  | .sipush n => va == .int (Int16.ofInt n).toInt32
  | .lconst n => va == .long (Int64.ofNat n.val)
  | i => !jx_cl i
def jx_thn (i : Instr) (x : List Nat) : Bool := match i, x with
  | .new _, [ci] => decide (10 ≤ ci)
  | _, _ => false
theorem jx_pl_ok {R0 : List Nat} {df : List (List Value)} {P : List jx_Me} {cc : ByteArray} {own : String} {pc : Nat} {i : Instr} {x : List Nat} {va : Value} (h : jx_pl i va = true) : jx_si S dA R0 df own i x va ∧ jx_sc S P cc own pc i x := by
  cases i <;> first | exact ⟨trivial, trivial⟩ | (simp [jx_pl, jx_cl] at h; done) | (simp [jx_pl, jx_cl] at h; exact ⟨h, trivial⟩)
def jl_J_0 : List (Instr × List Nat × Value) := [(.invokespecial 1, [9003, 0], .null), (.new 7, [1], .null), (.invokespecial 9, [145, 0], .null), (.putfield 10, [0, 0, 4, 1], .null), (.anewarray 16, [4], .null), (.putfield 18, [0, 1, 4, 1], .null), (.anewarray 22, [5], .null), (.putfield 24, [0, 2, 4, 1], .null), (.anewarray 28, [6], .null), (.putfield 30, [0, 3, 4, 1], .null), (.new 28, [5], .null), (.invokespecial 34, [135, 1], .null), (.putfield 37, [0, 4, 4, 1], .null), (.new 41, [6], .null), (.invokespecial 43, [126, 0], .null), (.putfield 44, [0, 5, 4, 1], .null), (.new 16, [2], .null), (.invokespecial 48, [163, 0], .null), (.putfield 49, [0, 6, 4, 0], .null), (.new 22, [4], .null), (.invokespecial 53, [95, 0], .null), (.putfield 54, [0, 7, 4, 0], .null), (.anewarray 58, [7], .null), (.putfield 60, [0, 9, 4, 1], .null), (.newarray .int, [2], .null), (.putfield 64, [0, 13, 4, 1], .null), (.putfield 68, [0, 15, 0, 0], .null), (.new 72, [8], .null), (.invokespecial 74, [143, 0], .null), (.putfield 75, [0, 17, 4, 1], .null), (.getfield 18, [0, 1], .null), (.getfield 24, [0, 2], .null), (.getfield 30, [0, 3], .null), (.getfield 60, [0, 9], .null), (.new 58, [7], .null), (.invokespecial 79, [139, 0], .null), (.getfield 10, [0, 0], .null), (.getfield 80, [1, 1], .null), (.invokevirtual 86, [146, 1, 1], .null), (.invokestatic 89, [19, 3], .null), (.putfield 80, [1, 1, 0, 0], .null), (.ldc2_w 93, [], .long 7), (.invokevirtual 95, [147, 0, 1], .null), (.getfield 49, [0, 6], .null), (.invokevirtual 98, [164, 1, 2], .null), (.invokevirtual 102, [24, 0, 0], .null), (.ldc2_w 105, [], .long 15), (.getfield 54, [0, 7], .null), (.invokestatic 107, [111, 2], .null), (.ldc2_w 113, [], .long 3), (.ldc2_w 115, [], .long 120529), (.invokevirtual 117, [136, 1, 5], .null), (.getfield 121, [5, 1], .null), (.invokevirtual 124, [137, 2, 5], .null), (.invokevirtual 128, [138, 1, 5], .null), (.invokestatic 131, [20, 3], .null), (.ldc2_w 135, [], .long 10413791999999), (.invokevirtual 137, [25, 3, 0], .null), (.getfield 44, [0, 5], .null), (.invokevirtual 140, [127, 1, 6], .null)]
theorem js_J_0 (F : jx_SF S dA aL aM adK) (cc : ByteArray) (pc : Nat) : ∀ r ∈ jl_J_0, jx_si S dA (jx_R1 sc aL aM adK) jx_df "JobHouse" r.1 r.2.1 r.2.2 ∧ jx_sc S jx_P cc "JobHouse" pc r.1 r.2.1 := by
  intro r hr
  simp only [jl_J_0, List.mem_cons, List.not_mem_nil, or_false] at hr
  rcases hr with rfl | rfl | rfl | rfl | rfl | rfl | rfl | rfl | rfl | rfl | rfl | rfl | rfl | rfl | rfl | rfl | rfl | rfl | rfl | rfl | rfl | rfl | rfl | rfl | rfl | rfl | rfl | rfl | rfl | rfl | rfl | rfl | rfl | rfl | rfl | rfl | rfl | rfl | rfl | rfl | rfl | rfl | rfl | rfl | rfl | rfl | rfl | rfl | rfl | rfl | rfl | rfl | rfl | rfl | rfl | rfl | rfl | rfl | rfl | rfl
  · exact ⟨trivial, ⟨9003, 0, rfl, fun q => absurd q (by decide), fun _ => ⟨rfl, rfl, jm_g1 33 rfl rfl, jm_g1 34 rfl rfl, jm_g1 35 rfl rfl⟩⟩⟩
  · exact ⟨⟨1, rfl, fun fs hfs => by
      cases hfs
      exact ⟨_, jn_T1, jn_y1, rfl, jn_i1, jn_o1, by decide +kernel, jm_g1 36 rfl rfl, jm_g1 37 rfl rfl, jm_g1 2 rfl rfl⟩⟩, ⟨1, rfl, fun q => absurd q (by decide)⟩⟩
  · exact ⟨trivial, ⟨145, 0, rfl, fun _ => ⟨jp_T_init, rfl, ji_T_init, Or.inr ⟨_, jm_g1 38 rfl rfl⟩, jm_g1 39 rfl rfl, rfl, rfl, rfl⟩, fun q => absurd q (by decide)⟩⟩
  · exact ⟨⟨0, 0, 4, 1, .object "JobHouse$Text", rfl, by decide, Or.inr (Or.inr (Or.inr ⟨rfl, Or.inl ⟨_, rfl⟩⟩)), Or.inr ⟨rfl, ⟨jn_T0, 18, jn_y0, rfl, by decide, jn_i0, jn_o0, jn_n0, rfl, rfl, by decide +kernel, jm_g2 24 rfl rfl⟩⟩⟩, trivial⟩
  · exact ⟨⟨4, _, rfl, by decide, rfl, jm_g1 59 rfl rfl, F.2.2.2.2.2.1 _ (by decide)⟩, trivial⟩
  · exact ⟨⟨0, 1, 4, 1, .array (.object "JobHouse$Zone"), rfl, by decide, Or.inr (Or.inr (Or.inr ⟨rfl, Or.inr ⟨_, rfl⟩⟩)), Or.inr ⟨rfl, ⟨jn_T0, 18, jn_y0, rfl, by decide, jn_i0, jn_o0, jn_n0, rfl, rfl, by decide +kernel, jm_g2 25 rfl rfl⟩⟩⟩, trivial⟩
  · exact ⟨⟨5, _, rfl, by decide, rfl, jm_g1 61 rfl rfl, F.2.2.2.2.2.1 _ (by decide)⟩, trivial⟩
  · exact ⟨⟨0, 2, 4, 1, .array (.object "JobHouse$Cron"), rfl, by decide, Or.inr (Or.inr (Or.inr ⟨rfl, Or.inr ⟨_, rfl⟩⟩)), Or.inr ⟨rfl, ⟨jn_T0, 18, jn_y0, rfl, by decide, jn_i0, jn_o0, jn_n0, rfl, rfl, by decide +kernel, jm_g2 26 rfl rfl⟩⟩⟩, trivial⟩
  · exact ⟨⟨6, _, rfl, by decide, rfl, jm_g1 63 rfl rfl, F.2.2.2.2.2.1 _ (by decide)⟩, trivial⟩
  · exact ⟨⟨0, 3, 4, 1, .array (.object "JobHouse$Holidays"), rfl, by decide, Or.inr (Or.inr (Or.inr ⟨rfl, Or.inr ⟨_, rfl⟩⟩)), Or.inr ⟨rfl, ⟨jn_T0, 18, jn_y0, rfl, by decide, jn_i0, jn_o0, jn_n0, rfl, rfl, by decide +kernel, jm_g2 27 rfl rfl⟩⟩⟩, trivial⟩
  · exact ⟨⟨5, rfl, fun fs hfs => by
      cases hfs
      exact ⟨_, jn_T5, jn_y5, rfl, jn_i5, jn_o5, by decide +kernel, jm_g1 63 rfl rfl, jm_g1 65 rfl rfl, jm_g1 3 rfl rfl⟩⟩, ⟨5, rfl, fun q => absurd q (by decide)⟩⟩
  · exact ⟨trivial, ⟨135, 1, rfl, fun _ => ⟨jp_H_init, rfl, ji_H_init, Or.inl (jm_g1 66 rfl rfl), jm_g1 67 rfl rfl, rfl, rfl, rfl⟩, fun q => absurd q (by decide)⟩⟩
  · exact ⟨⟨0, 4, 4, 1, .object "JobHouse$Holidays", rfl, by decide, Or.inr (Or.inr (Or.inr ⟨rfl, Or.inl ⟨_, rfl⟩⟩)), Or.inr ⟨rfl, ⟨jn_T0, 18, jn_y0, rfl, by decide, jn_i0, jn_o0, jn_n0, rfl, rfl, by decide +kernel, jm_g2 28 rfl rfl⟩⟩⟩, trivial⟩
  · exact ⟨⟨6, rfl, fun fs hfs => by
      cases hfs
      exact ⟨_, jn_T6, jn_y6, rfl, jn_i6, jn_o6, by decide +kernel, jm_g1 79 rfl rfl, jm_g1 80 rfl rfl, jm_g1 4 rfl rfl⟩⟩, ⟨6, rfl, fun q => absurd q (by decide)⟩⟩
  · exact ⟨trivial, ⟨126, 0, rfl, fun _ => ⟨jp_F_init, rfl, ji_F_init, Or.inr ⟨_, jm_g1 81 rfl rfl⟩, jm_g1 82 rfl rfl, rfl, rfl, rfl⟩, fun q => absurd q (by decide)⟩⟩
  · exact ⟨⟨0, 5, 4, 1, .object "JobHouse$Fires", rfl, by decide, Or.inr (Or.inr (Or.inr ⟨rfl, Or.inl ⟨_, rfl⟩⟩)), Or.inr ⟨rfl, ⟨jn_T0, 18, jn_y0, rfl, by decide, jn_i0, jn_o0, jn_n0, rfl, rfl, by decide +kernel, jm_g2 29 rfl rfl⟩⟩⟩, trivial⟩
  · exact ⟨⟨2, rfl, fun fs hfs => by
      cases hfs
      exact ⟨_, jn_T2, jn_y2, rfl, jn_i2, jn_o2, by decide +kernel, jm_g1 59 rfl rfl, jm_g1 109 rfl rfl, jm_g1 6 rfl rfl⟩⟩, ⟨2, rfl, fun q => absurd q (by decide)⟩⟩
  · exact ⟨trivial, ⟨163, 0, rfl, fun _ => ⟨jp_Z_init, rfl, ji_Z_init, Or.inr ⟨_, jm_g1 176 rfl rfl⟩, jm_g1 111 rfl rfl, rfl, rfl, rfl⟩, fun q => absurd q (by decide)⟩⟩
  · exact ⟨⟨0, 6, 4, 0, .object "JobHouse$Zone", rfl, by decide, Or.inr (Or.inr (Or.inr ⟨rfl, Or.inl ⟨_, rfl⟩⟩)), Or.inl ⟨rfl, ⟨_, jn_T0, 18, jn_y0, rfl, by decide, jn_i0, jn_o0, jn_n0, rfl, rfl, by decide +kernel, Or.inl (jm_g2 30 rfl rfl)⟩⟩⟩, trivial⟩
  · exact ⟨⟨4, rfl, fun fs hfs => by
      cases hfs
      exact ⟨_, jn_T4, jn_y4, rfl, jn_i4, jn_o4, by decide +kernel, jm_g1 61 rfl rfl, jm_g1 86 rfl rfl, jm_g1 5 rfl rfl⟩⟩, ⟨4, rfl, fun q => absurd q (by decide)⟩⟩
  · exact ⟨trivial, ⟨95, 0, rfl, fun _ => ⟨jp_C_init, rfl, ji_C_init, Or.inr ⟨_, jm_g1 177 rfl rfl⟩, jm_g1 88 rfl rfl, rfl, rfl, rfl⟩, fun q => absurd q (by decide)⟩⟩
  · exact ⟨⟨0, 7, 4, 0, .object "JobHouse$Cron", rfl, by decide, Or.inr (Or.inr (Or.inr ⟨rfl, Or.inl ⟨_, rfl⟩⟩)), Or.inl ⟨rfl, ⟨_, jn_T0, 18, jn_y0, rfl, by decide, jn_i0, jn_o0, jn_n0, rfl, rfl, by decide +kernel, Or.inl (jm_g2 31 rfl rfl)⟩⟩⟩, trivial⟩
  · exact ⟨⟨7, _, rfl, by decide, rfl, jm_g1 178 rfl rfl, F.2.2.2.2.2.1 _ (by decide)⟩, trivial⟩
  · exact ⟨⟨0, 9, 4, 1, .array (.object "JobHouse$Job"), rfl, by decide, Or.inr (Or.inr (Or.inr ⟨rfl, Or.inr ⟨_, rfl⟩⟩)), Or.inr ⟨rfl, ⟨jn_T0, 18, jn_y0, rfl, by decide, jn_i0, jn_o0, jn_n0, rfl, rfl, by decide +kernel, jm_g2 33 rfl rfl⟩⟩⟩, trivial⟩
  · exact ⟨⟨2, _, rfl, by decide, rfl, rfl, jm_g1 78 rfl rfl⟩, trivial⟩
  · exact ⟨⟨0, 13, 4, 1, .array .int, rfl, by decide, Or.inr (Or.inr (Or.inr ⟨rfl, Or.inr ⟨_, rfl⟩⟩)), Or.inr ⟨rfl, ⟨jn_T0, 18, jn_y0, rfl, by decide, jn_i0, jn_o0, jn_n0, rfl, rfl, by decide +kernel, jm_g2 37 rfl rfl⟩⟩⟩, trivial⟩
  · exact ⟨⟨0, 15, 0, 0, .int, rfl, by decide, Or.inl ⟨rfl, rfl⟩, Or.inl ⟨rfl, ⟨_, jn_T0, 18, jn_y0, rfl, by decide, jn_i0, jn_o0, jn_n0, rfl, rfl, by decide +kernel, Or.inl (jm_g2 39 rfl rfl)⟩⟩⟩, trivial⟩
  · exact ⟨⟨8, rfl, fun fs hfs => by
      cases hfs
      exact ⟨_, jn_T8, jn_y8, rfl, jn_i8, jn_o8, by decide +kernel, jm_g1 180 rfl rfl, jm_g1 181 rfl rfl, jm_g1 8 rfl rfl⟩⟩, ⟨8, rfl, fun q => absurd q (by decide)⟩⟩
  · exact ⟨trivial, ⟨143, 0, rfl, fun _ => ⟨jp_L_init, rfl, ji_L_init, Or.inr ⟨_, jm_g1 182 rfl rfl⟩, jm_g1 183 rfl rfl, rfl, rfl, rfl⟩, fun q => absurd q (by decide)⟩⟩
  · exact ⟨⟨0, 17, 4, 1, .object "JobHouse$StartLog", rfl, by decide, Or.inr (Or.inr (Or.inr ⟨rfl, Or.inl ⟨_, rfl⟩⟩)), Or.inr ⟨rfl, ⟨jn_T0, 18, jn_y0, rfl, by decide, jn_i0, jn_o0, jn_n0, rfl, rfl, by decide +kernel, jm_g2 41 rfl rfl⟩⟩⟩, trivial⟩
  · exact ⟨⟨0, 1, .array (.object "JobHouse$Zone"), true, rfl, by decide, ⟨_, jn_T0, 18, jn_y0, rfl, by decide, jn_i0, jn_o0, jn_n0, rfl, rfl, by decide +kernel, Or.inl (jm_g2 25 rfl rfl)⟩⟩, trivial⟩
  · exact ⟨⟨0, 2, .array (.object "JobHouse$Cron"), true, rfl, by decide, ⟨_, jn_T0, 18, jn_y0, rfl, by decide, jn_i0, jn_o0, jn_n0, rfl, rfl, by decide +kernel, Or.inl (jm_g2 26 rfl rfl)⟩⟩, trivial⟩
  · exact ⟨⟨0, 3, .array (.object "JobHouse$Holidays"), true, rfl, by decide, ⟨_, jn_T0, 18, jn_y0, rfl, by decide, jn_i0, jn_o0, jn_n0, rfl, rfl, by decide +kernel, Or.inl (jm_g2 27 rfl rfl)⟩⟩, trivial⟩
  · exact ⟨⟨0, 9, .array (.object "JobHouse$Job"), true, rfl, by decide, ⟨_, jn_T0, 18, jn_y0, rfl, by decide, jn_i0, jn_o0, jn_n0, rfl, rfl, by decide +kernel, Or.inl (jm_g2 33 rfl rfl)⟩⟩, trivial⟩
  · exact ⟨⟨7, rfl, fun fs hfs => by
      cases hfs
      exact ⟨_, jn_T7, jn_y7, rfl, jn_i7, jn_o7, by decide +kernel, jm_g1 178 rfl rfl, jm_g1 207 rfl rfl, jm_g1 9 rfl rfl⟩⟩, ⟨7, rfl, fun q => absurd q (by decide)⟩⟩
  · exact ⟨trivial, ⟨139, 0, rfl, fun _ => ⟨jp_B_init, rfl, ji_B_init, Or.inr ⟨_, jm_g1 208 rfl rfl⟩, jm_g1 209 rfl rfl, rfl, rfl, rfl⟩, fun q => absurd q (by decide)⟩⟩
  · exact ⟨⟨0, 0, .object "JobHouse$Text", true, rfl, by decide, ⟨_, jn_T0, 18, jn_y0, rfl, by decide, jn_i0, jn_o0, jn_n0, rfl, rfl, by decide +kernel, Or.inl (jm_g2 24 rfl rfl)⟩⟩, trivial⟩
  · exact ⟨⟨1, 1, .int, false, rfl, by decide, ⟨_, jn_T1, 4, jn_y1, rfl, by decide, jn_i1, jn_o1, jn_n1, rfl, rfl, by decide +kernel, Or.inr ⟨_, jm_g1 43 rfl rfl⟩⟩⟩, trivial⟩
  · exact ⟨trivial, ⟨146, 1, 1, rfl, fun _ => ⟨by decide, jp_T_addWord, _, _, rfl, ji_T_addWord, Or.inl (jm_g2 152 rfl rfl), jm_g2 153 rfl rfl, jm_g2 154 rfl rfl, rfl⟩, fun q => absurd q (by decide)⟩⟩
  · exact ⟨trivial, ⟨19, 3, rfl, fun _ => ⟨jp_J_checkRange, rfl, ji_J_checkRange, Or.inl (jm_g2 164 rfl rfl), jm_g2 165 rfl rfl⟩, fun q => absurd q (by decide)⟩⟩
  · exact ⟨⟨1, 1, 0, 0, .int, rfl, by decide, Or.inl ⟨rfl, rfl⟩, Or.inl ⟨rfl, ⟨_, jn_T1, 4, jn_y1, rfl, by decide, jn_i1, jn_o1, jn_n1, rfl, rfl, by decide +kernel, Or.inr ⟨_, jm_g1 43 rfl rfl⟩⟩⟩⟩, trivial⟩
  · exact ⟨⟨_, rfl, jm_g2 190 rfl rfl⟩, trivial⟩
  · exact ⟨trivial, ⟨147, 0, 1, rfl, fun _ => ⟨by decide, jp_T_rewind, _, _, rfl, ji_T_rewind, Or.inl (jm_g2 191 rfl rfl), jm_g2 192 rfl rfl, jm_g2 193 rfl rfl, rfl⟩, fun q => absurd q (by decide)⟩⟩
  · exact ⟨⟨0, 6, .object "JobHouse$Zone", false, rfl, by decide, ⟨_, jn_T0, 18, jn_y0, rfl, by decide, jn_i0, jn_o0, jn_n0, rfl, rfl, by decide +kernel, Or.inl (jm_g2 30 rfl rfl)⟩⟩, trivial⟩
  · exact ⟨trivial, ⟨164, 1, 2, rfl, fun _ => ⟨by decide, jp_Z_readFrom, _, _, rfl, ji_Z_readFrom, Or.inl (jm_g2 195 rfl rfl), jm_g2 196 rfl rfl, jm_g2 197 rfl rfl, rfl⟩, fun q => absurd q (by decide)⟩⟩
  · exact ⟨trivial, ⟨24, 0, 0, rfl, fun _ => ⟨by decide, jp_J_checkNotBroken, _, _, rfl, ji_J_checkNotBroken, Or.inl (jm_g3 7 rfl rfl), jm_g3 9 rfl rfl, jm_g0 1 rfl rfl, rfl⟩, fun q => absurd q (by decide)⟩⟩
  · exact ⟨⟨_, rfl, jm_g3 33 rfl rfl⟩, trivial⟩
  · exact ⟨⟨0, 7, .object "JobHouse$Cron", false, rfl, by decide, ⟨_, jn_T0, 18, jn_y0, rfl, by decide, jn_i0, jn_o0, jn_n0, rfl, rfl, by decide +kernel, Or.inl (jm_g2 31 rfl rfl)⟩⟩, trivial⟩
  · exact ⟨trivial, ⟨111, 2, rfl, fun _ => ⟨jp_CR_readCron, rfl, ji_CR_readCron, Or.inl (jm_g3 34 rfl rfl), jm_g3 35 rfl rfl⟩, fun q => absurd q (by decide)⟩⟩
  · exact ⟨⟨_, rfl, jm_g3 147 rfl rfl⟩, trivial⟩
  · exact ⟨⟨_, rfl, jm_g3 148 rfl rfl⟩, trivial⟩
  · exact ⟨trivial, ⟨136, 1, 5, rfl, fun _ => ⟨by decide, jp_H_placeOf, _, _, rfl, ji_H_placeOf, Or.inl (jm_g3 149 rfl rfl), jm_g3 150 rfl rfl, jm_g3 151 rfl rfl, rfl⟩, fun q => absurd q (by decide)⟩⟩
  · exact ⟨⟨5, 1, .int, false, rfl, by decide, ⟨_, jn_T5, 2, jn_y5, rfl, by decide, jn_i5, jn_o5, jn_n5, rfl, rfl, by decide +kernel, Or.inr ⟨_, jm_g1 72 rfl rfl⟩⟩⟩, trivial⟩
  · exact ⟨trivial, ⟨137, 2, 5, rfl, fun _ => ⟨by decide, jp_H_insert, _, _, rfl, ji_H_insert, Or.inl (jm_g3 153 rfl rfl), jm_g3 154 rfl rfl, jm_g3 155 rfl rfl, rfl⟩, fun q => absurd q (by decide)⟩⟩
  · exact ⟨trivial, ⟨138, 1, 5, rfl, fun _ => ⟨by decide, jp_H_removeAt, _, _, rfl, ji_H_removeAt, Or.inl (jm_g3 160 rfl rfl), jm_g3 161 rfl rfl, jm_g3 162 rfl rfl, rfl⟩, fun q => absurd q (by decide)⟩⟩
  · exact ⟨trivial, ⟨20, 3, rfl, fun _ => ⟨jp_J_checkSearch, rfl, ji_J_checkSearch, Or.inl (jm_g3 171 rfl rfl), jm_g3 172 rfl rfl⟩, fun q => absurd q (by decide)⟩⟩
  · exact ⟨⟨_, rfl, jm_g3 175 rfl rfl⟩, trivial⟩
  · exact ⟨trivial, ⟨25, 3, 0, rfl, fun _ => ⟨by decide, jp_J_aimAt, _, _, rfl, ji_J_aimAt, Or.inl (jm_g3 176 rfl rfl), jm_g3 178 rfl rfl, jm_g0 2 rfl rfl, rfl⟩, fun q => absurd q (by decide)⟩⟩
  · exact ⟨⟨0, 5, .object "JobHouse$Fires", true, rfl, by decide, ⟨_, jn_T0, 18, jn_y0, rfl, by decide, jn_i0, jn_o0, jn_n0, rfl, rfl, by decide +kernel, Or.inl (jm_g2 29 rfl rfl)⟩⟩, trivial⟩
  · exact ⟨trivial, ⟨127, 1, 6, rfl, fun _ => ⟨by decide, jp_F_firstAfter, _, _, rfl, ji_F_firstAfter, Or.inl (jm_g3 180 rfl rfl), jm_g3 181 rfl rfl, jm_g3 182 rfl rfl, rfl⟩, fun q => absurd q (by decide)⟩⟩
def jl_J_1 : List (Instr × List Nat × Value) := [(.invokevirtual 144, [128, 1, 6], .null), (.ldc2_w 147, [], .long 1000), (.invokevirtual 149, [165, 1, 2], .null), (.ldc2_w 153, [], .long 86400), (.invokestatic 155, [189, 2], .null), (.invokestatic 161, [122, 1], .null), (.invokestatic 166, [123, 1], .null), (.invokestatic 169, [124, 2], .null), (.invokestatic 173, [120, 2], .null), (.invokestatic 176, [125, 1], .null), (.ldc2_w 179, [], .long 2), (.ldc2_w 181, [], .long 1099511627776), (.getfield 183, [0, 8], .null), (.invokestatic 187, [193, 2], .null), (.invokestatic 190, [21, 3], .null), (.invokevirtual 194, [23, 0, 0], .null), (.invokevirtual 197, [26, 0, 0], .null), (.invokevirtual 201, [27, 5, 0], .null), (.putfield 205, [7, 1, 0, 0], .null), (.putfield 208, [7, 6, 1, 0], .null), (.putfield 211, [7, 4, 1, 0], .null), (.putfield 217, [7, 11, 0, 0], .null), (.putfield 220, [7, 12, 0, 0], .null), (.putfield 223, [7, 13, 0, 0], .null), (.invokevirtual 226, [29, 1, 0], .null), (.getfield 230, [7, 0], .null), (.invokevirtual 233, [28, 1, 0], .null), (.putfield 230, [7, 0, 0, 0], .null), (.ldc2_w 237, [], .long 8), (.getfield 68, [0, 15], .null), (.invokevirtual 239, [22, 1, 0], .null), (.getfield 75, [0, 17], .null), (.putfield 243, [8, 3, 0, 0], .null), (.ldc 244, [], .int 100000), (.invokevirtual 245, [30, 0, 0], .null), (.getfield 64, [0, 13], .null), (.invokevirtual 248, [31, 1, 0], .null), (.invokevirtual 252, [32, 2, 0], .null), (.getfield 243, [8, 3], .null), (.getfield 256, [0, 14], .null), (.invokevirtual 259, [33, 0, 0], .null), (.getfield 211, [7, 4], .null), (.invokevirtual 262, [34, 1, 0], .null), (.invokevirtual 265, [35, 1, 0], .null), (.putfield 183, [0, 8, 1, 0], .null), (.putfield 269, [0, 16, 2, 0], .null), (.getfield 273, [0, 10], .null), (.getfield 205, [7, 1], .null), (.getfield 276, [0, 11], .null), (.ldc2_w 279, [], .long 4), (.getfield 281, [7, 3], .null), (.getfield 284, [7, 2], .null), (.ldc2_w 287, [], .long (-1)), (.getfield 289, [7, 5], .null), (.getfield 295, [8, 0], .null), (.getfield 299, [8, 1], .null), (.getfield 302, [8, 2], .null), (.ldc2_w 305, [], .long 5), (.getfield 307, [8, 4], .null), (.getfield 310, [1, 3], .null)]
theorem js_J_1 (F : jx_SF S dA aL aM adK) (cc : ByteArray) (pc : Nat) : ∀ r ∈ jl_J_1, jx_si S dA (jx_R1 sc aL aM adK) jx_df "JobHouse" r.1 r.2.1 r.2.2 ∧ jx_sc S jx_P cc "JobHouse" pc r.1 r.2.1 := by
  intro r hr
  simp only [jl_J_1, List.mem_cons, List.not_mem_nil, or_false] at hr
  rcases hr with rfl | rfl | rfl | rfl | rfl | rfl | rfl | rfl | rfl | rfl | rfl | rfl | rfl | rfl | rfl | rfl | rfl | rfl | rfl | rfl | rfl | rfl | rfl | rfl | rfl | rfl | rfl | rfl | rfl | rfl | rfl | rfl | rfl | rfl | rfl | rfl | rfl | rfl | rfl | rfl | rfl | rfl | rfl | rfl | rfl | rfl | rfl | rfl | rfl | rfl | rfl | rfl | rfl | rfl | rfl | rfl | rfl | rfl | rfl | rfl
  · exact ⟨trivial, ⟨128, 1, 6, rfl, fun _ => ⟨by decide, jp_F_latestUpTo, _, _, rfl, ji_F_latestUpTo, Or.inl (jm_g4 79 rfl rfl), jm_g4 80 rfl rfl, jm_g4 81 rfl rfl, rfl⟩, fun q => absurd q (by decide)⟩⟩
  · exact ⟨⟨_, rfl, jm_g4 114 rfl rfl⟩, trivial⟩
  · exact ⟨trivial, ⟨165, 1, 2, rfl, fun _ => ⟨by decide, jp_Z_offsetAt, _, _, rfl, ji_Z_offsetAt, Or.inl (jm_g4 115 rfl rfl), jm_g3 187 rfl rfl, jm_g3 188 rfl rfl, rfl⟩, fun q => absurd q (by decide)⟩⟩
  · exact ⟨⟨_, rfl, jm_g4 116 rfl rfl⟩, trivial⟩
  · exact ⟨trivial, ⟨189, 2, rfl, fun _ => ⟨jp_Math_floorMod2, rfl, ji_Math_floorMod2, Or.inl (jm_g4 117 rfl rfl), jm_g4 118 rfl rfl⟩, fun q => absurd q (by decide)⟩⟩
  · exact ⟨trivial, ⟨122, 1, rfl, fun _ => ⟨jp_D_dayOf, rfl, ji_D_dayOf, Or.inl (jm_g4 120 rfl rfl), jm_g3 196 rfl rfl⟩, fun q => absurd q (by decide)⟩⟩
  · exact ⟨trivial, ⟨123, 1, rfl, fun _ => ⟨jp_D_yearOf, rfl, ji_D_yearOf, Or.inl (jm_g4 121 rfl rfl), jm_g3 203 rfl rfl⟩, fun q => absurd q (by decide)⟩⟩
  · exact ⟨trivial, ⟨124, 2, rfl, fun _ => ⟨jp_D_monthOf, rfl, ji_D_monthOf, Or.inl (jm_g4 122 rfl rfl), jm_g4 18 rfl rfl⟩, fun q => absurd q (by decide)⟩⟩
  · exact ⟨trivial, ⟨120, 2, rfl, fun _ => ⟨jp_D_firstOfMonth, rfl, ji_D_firstOfMonth, Or.inl (jm_g4 123 rfl rfl), jm_g3 210 rfl rfl⟩, fun q => absurd q (by decide)⟩⟩
  · exact ⟨trivial, ⟨125, 1, rfl, fun _ => ⟨jp_D_weekdayOf, rfl, ji_D_weekdayOf, Or.inl (jm_g4 124 rfl rfl), jm_g3 224 rfl rfl⟩, fun q => absurd q (by decide)⟩⟩
  · exact ⟨⟨_, rfl, jm_g4 133 rfl rfl⟩, trivial⟩
  · exact ⟨⟨_, rfl, jm_g4 134 rfl rfl⟩, trivial⟩
  · exact ⟨⟨0, 8, .long, false, rfl, by decide, ⟨_, jn_T0, 18, jn_y0, rfl, by decide, jn_i0, jn_o0, jn_n0, rfl, rfl, by decide +kernel, Or.inl (jm_g2 32 rfl rfl)⟩⟩, trivial⟩
  · exact ⟨trivial, ⟨193, 2, rfl, fun _ => ⟨jp_Math_min2, rfl, ji_Math_min2, Or.inl (jm_g4 135 rfl rfl), jm_g4 4 rfl rfl⟩, fun q => absurd q (by decide)⟩⟩
  · exact ⟨trivial, ⟨21, 3, rfl, fun _ => ⟨jp_J_checkRun, rfl, ji_J_checkRun, Or.inl (jm_g4 136 rfl rfl), jm_g4 137 rfl rfl⟩, fun q => absurd q (by decide)⟩⟩
  · exact ⟨trivial, ⟨23, 0, 0, rfl, fun _ => ⟨by decide, jp_J_checkOpen, _, _, rfl, ji_J_checkOpen, Or.inl (jm_g4 140 rfl rfl), jm_g4 142 rfl rfl, jm_g0 11 rfl rfl, rfl⟩, fun q => absurd q (by decide)⟩⟩
  · exact ⟨trivial, ⟨26, 0, 0, rfl, fun _ => ⟨by decide, jp_J_freeSlot, _, _, rfl, ji_J_freeSlot, Or.inl (jm_g4 159 rfl rfl), jm_g4 161 rfl rfl, jm_g0 12 rfl rfl, rfl⟩, fun q => absurd q (by decide)⟩⟩
  · exact ⟨trivial, ⟨27, 5, 0, rfl, fun _ => ⟨by decide, jp_J_fill, _, _, rfl, ji_J_fill, Or.inl (jm_g4 163 rfl rfl), jm_g4 165 rfl rfl, jm_g0 13 rfl rfl, rfl⟩, fun q => absurd q (by decide)⟩⟩
  · exact ⟨⟨7, 1, 0, 0, .int, rfl, by decide, Or.inl ⟨rfl, rfl⟩, Or.inl ⟨rfl, ⟨_, jn_T7, 14, jn_y7, rfl, by decide, jn_i7, jn_o7, jn_n7, rfl, rfl, by decide +kernel, Or.inr ⟨_, jm_g1 215 rfl rfl⟩⟩⟩⟩, trivial⟩
  · exact ⟨⟨7, 6, 1, 0, .long, rfl, by decide, Or.inr (Or.inl ⟨rfl, rfl⟩), Or.inl ⟨rfl, ⟨_, jn_T7, 14, jn_y7, rfl, by decide, jn_i7, jn_o7, jn_n7, rfl, rfl, by decide +kernel, Or.inr ⟨_, jm_g1 224 rfl rfl⟩⟩⟩⟩, trivial⟩
  · exact ⟨⟨7, 4, 1, 0, .long, rfl, by decide, Or.inr (Or.inl ⟨rfl, rfl⟩), Or.inl ⟨rfl, ⟨_, jn_T7, 14, jn_y7, rfl, by decide, jn_i7, jn_o7, jn_n7, rfl, rfl, by decide +kernel, Or.inr ⟨_, jm_g1 221 rfl rfl⟩⟩⟩⟩, trivial⟩
  · exact ⟨⟨7, 11, 0, 0, .int, rfl, by decide, Or.inl ⟨rfl, rfl⟩, Or.inl ⟨rfl, ⟨_, jn_T7, 14, jn_y7, rfl, by decide, jn_i7, jn_o7, jn_n7, rfl, rfl, by decide +kernel, Or.inr ⟨_, jm_g1 232 rfl rfl⟩⟩⟩⟩, trivial⟩
  · exact ⟨⟨7, 12, 0, 0, .int, rfl, by decide, Or.inl ⟨rfl, rfl⟩, Or.inl ⟨rfl, ⟨_, jn_T7, 14, jn_y7, rfl, by decide, jn_i7, jn_o7, jn_n7, rfl, rfl, by decide +kernel, Or.inr ⟨_, jm_g1 233 rfl rfl⟩⟩⟩⟩, trivial⟩
  · exact ⟨⟨7, 13, 0, 0, .int, rfl, by decide, Or.inl ⟨rfl, rfl⟩, Or.inl ⟨rfl, ⟨_, jn_T7, 14, jn_y7, rfl, by decide, jn_i7, jn_o7, jn_n7, rfl, rfl, by decide +kernel, Or.inr ⟨_, jm_g1 234 rfl rfl⟩⟩⟩⟩, trivial⟩
  · exact ⟨trivial, ⟨29, 1, 0, rfl, fun _ => ⟨by decide, jp_J_jobAt, _, _, rfl, ji_J_jobAt, Or.inl (jm_g4 183 rfl rfl), jm_g4 185 rfl rfl, jm_g0 14 rfl rfl, rfl⟩, fun q => absurd q (by decide)⟩⟩
  · exact ⟨⟨7, 0, .int, false, rfl, by decide, ⟨_, jn_T7, 14, jn_y7, rfl, by decide, jn_i7, jn_o7, jn_n7, rfl, rfl, by decide +kernel, Or.inr ⟨_, jm_g1 213 rfl rfl⟩⟩⟩, trivial⟩
  · exact ⟨trivial, ⟨28, 1, 0, rfl, fun _ => ⟨by decide, jp_J_remove, _, _, rfl, ji_J_remove, Or.inl (jm_g4 202 rfl rfl), jm_g4 204 rfl rfl, jm_g0 15 rfl rfl, rfl⟩, fun q => absurd q (by decide)⟩⟩
  · exact ⟨⟨7, 0, 0, 0, .int, rfl, by decide, Or.inl ⟨rfl, rfl⟩, Or.inl ⟨rfl, ⟨_, jn_T7, 14, jn_y7, rfl, by decide, jn_i7, jn_o7, jn_n7, rfl, rfl, by decide +kernel, Or.inr ⟨_, jm_g1 213 rfl rfl⟩⟩⟩⟩, trivial⟩
  · exact ⟨⟨_, rfl, jm_g4 213 rfl rfl⟩, trivial⟩
  · exact ⟨⟨0, 15, .int, false, rfl, by decide, ⟨_, jn_T0, 18, jn_y0, rfl, by decide, jn_i0, jn_o0, jn_n0, rfl, rfl, by decide +kernel, Or.inl (jm_g2 39 rfl rfl)⟩⟩, trivial⟩
  · exact ⟨trivial, ⟨22, 1, 0, rfl, fun _ => ⟨by decide, jp_J_checkWay, _, _, rfl, ji_J_checkWay, Or.inl (jm_g4 221 rfl rfl), jm_g4 223 rfl rfl, jm_g0 16 rfl rfl, rfl⟩, fun q => absurd q (by decide)⟩⟩
  · exact ⟨⟨0, 17, .object "JobHouse$StartLog", true, rfl, by decide, ⟨_, jn_T0, 18, jn_y0, rfl, by decide, jn_i0, jn_o0, jn_n0, rfl, rfl, by decide +kernel, Or.inl (jm_g2 41 rfl rfl)⟩⟩, trivial⟩
  · exact ⟨⟨8, 3, 0, 0, .int, rfl, by decide, Or.inl ⟨rfl, rfl⟩, Or.inl ⟨rfl, ⟨_, jn_T8, 5, jn_y8, rfl, by decide, jn_i8, jn_o8, jn_n8, rfl, rfl, by decide +kernel, Or.inr ⟨_, jm_g1 193 rfl rfl⟩⟩⟩⟩, trivial⟩
  · exact ⟨Or.inl ⟨_, rfl, jm_g4 226 rfl rfl⟩, trivial⟩
  · exact ⟨trivial, ⟨30, 0, 0, rfl, fun _ => ⟨by decide, jp_J_firstEnded, _, _, rfl, ji_J_firstEnded, Or.inl (jm_g4 227 rfl rfl), jm_g4 229 rfl rfl, jm_g0 17 rfl rfl, rfl⟩, fun q => absurd q (by decide)⟩⟩
  · exact ⟨⟨0, 13, .array .int, true, rfl, by decide, ⟨_, jn_T0, 18, jn_y0, rfl, by decide, jn_i0, jn_o0, jn_n0, rfl, rfl, by decide +kernel, Or.inl (jm_g2 37 rfl rfl)⟩⟩, trivial⟩
  · exact ⟨trivial, ⟨31, 1, 0, rfl, fun _ => ⟨by decide, jp_J_nominalBehind, _, _, rfl, ji_J_nominalBehind, Or.inl (jm_g4 231 rfl rfl), jm_g4 233 rfl rfl, jm_g0 18 rfl rfl, rfl⟩, fun q => absurd q (by decide)⟩⟩
  · exact ⟨trivial, ⟨32, 2, 0, rfl, fun _ => ⟨by decide, jp_J_free, _, _, rfl, ji_J_free, Or.inl (jm_g5 4 rfl rfl), jm_g5 6 rfl rfl, jm_g0 19 rfl rfl, rfl⟩, fun q => absurd q (by decide)⟩⟩
  · exact ⟨⟨8, 3, .int, false, rfl, by decide, ⟨_, jn_T8, 5, jn_y8, rfl, by decide, jn_i8, jn_o8, jn_n8, rfl, rfl, by decide +kernel, Or.inr ⟨_, jm_g1 193 rfl rfl⟩⟩⟩, trivial⟩
  · exact ⟨⟨0, 14, .int, false, rfl, by decide, ⟨_, jn_T0, 18, jn_y0, rfl, by decide, jn_i0, jn_o0, jn_n0, rfl, rfl, by decide +kernel, Or.inl (jm_g2 38 rfl rfl)⟩⟩, trivial⟩
  · exact ⟨trivial, ⟨33, 0, 0, rfl, fun _ => ⟨by decide, jp_J_firstPending, _, _, rfl, ji_J_firstPending, Or.inl (jm_g5 8 rfl rfl), jm_g5 10 rfl rfl, jm_g0 20 rfl rfl, rfl⟩, fun q => absurd q (by decide)⟩⟩
  · exact ⟨⟨7, 4, .long, false, rfl, by decide, ⟨_, jn_T7, 14, jn_y7, rfl, by decide, jn_i7, jn_o7, jn_n7, rfl, rfl, by decide +kernel, Or.inr ⟨_, jm_g1 221 rfl rfl⟩⟩⟩, trivial⟩
  · exact ⟨trivial, ⟨34, 1, 0, rfl, fun _ => ⟨by decide, jp_J_begin, _, _, rfl, ji_J_begin, Or.inl (jm_g5 16 rfl rfl), jm_g5 18 rfl rfl, jm_g0 21 rfl rfl, rfl⟩, fun q => absurd q (by decide)⟩⟩
  · exact ⟨trivial, ⟨35, 1, 0, rfl, fun _ => ⟨by decide, jp_J_nextTime, _, _, rfl, ji_J_nextTime, Or.inl (jm_g5 24 rfl rfl), jm_g5 26 rfl rfl, jm_g0 22 rfl rfl, rfl⟩, fun q => absurd q (by decide)⟩⟩
  · exact ⟨⟨0, 8, 1, 0, .long, rfl, by decide, Or.inr (Or.inl ⟨rfl, rfl⟩), Or.inl ⟨rfl, ⟨_, jn_T0, 18, jn_y0, rfl, by decide, jn_i0, jn_o0, jn_n0, rfl, rfl, by decide +kernel, Or.inl (jm_g2 32 rfl rfl)⟩⟩⟩, trivial⟩
  · exact ⟨⟨0, 16, 2, 0, .boolean, rfl, by decide, Or.inr (Or.inr (Or.inl ⟨rfl, rfl⟩)), Or.inl ⟨rfl, ⟨_, jn_T0, 18, jn_y0, rfl, by decide, jn_i0, jn_o0, jn_n0, rfl, rfl, by decide +kernel, Or.inl (jm_g2 40 rfl rfl)⟩⟩⟩, trivial⟩
  · exact ⟨⟨0, 10, .int, false, rfl, by decide, ⟨_, jn_T0, 18, jn_y0, rfl, by decide, jn_i0, jn_o0, jn_n0, rfl, rfl, by decide +kernel, Or.inl (jm_g2 34 rfl rfl)⟩⟩, trivial⟩
  · exact ⟨⟨7, 1, .int, false, rfl, by decide, ⟨_, jn_T7, 14, jn_y7, rfl, by decide, jn_i7, jn_o7, jn_n7, rfl, rfl, by decide +kernel, Or.inr ⟨_, jm_g1 215 rfl rfl⟩⟩⟩, trivial⟩
  · exact ⟨⟨0, 11, .int, false, rfl, by decide, ⟨_, jn_T0, 18, jn_y0, rfl, by decide, jn_i0, jn_o0, jn_n0, rfl, rfl, by decide +kernel, Or.inl (jm_g2 35 rfl rfl)⟩⟩, trivial⟩
  · exact ⟨⟨_, rfl, jm_g5 49 rfl rfl⟩, trivial⟩
  · exact ⟨⟨7, 3, .int, false, rfl, by decide, ⟨_, jn_T7, 14, jn_y7, rfl, by decide, jn_i7, jn_o7, jn_n7, rfl, rfl, by decide +kernel, Or.inr ⟨_, jm_g1 219 rfl rfl⟩⟩⟩, trivial⟩
  · exact ⟨⟨7, 2, .int, false, rfl, by decide, ⟨_, jn_T7, 14, jn_y7, rfl, by decide, jn_i7, jn_o7, jn_n7, rfl, rfl, by decide +kernel, Or.inr ⟨_, jm_g1 217 rfl rfl⟩⟩⟩, trivial⟩
  · exact ⟨⟨_, rfl, jm_g3 174 rfl rfl⟩, trivial⟩
  · exact ⟨⟨7, 5, .long, false, rfl, by decide, ⟨_, jn_T7, 14, jn_y7, rfl, by decide, jn_i7, jn_o7, jn_n7, rfl, rfl, by decide +kernel, Or.inr ⟨_, jm_g1 222 rfl rfl⟩⟩⟩, trivial⟩
  · exact ⟨⟨8, 0, .array .long, true, rfl, by decide, ⟨_, jn_T8, 5, jn_y8, rfl, by decide, jn_i8, jn_o8, jn_n8, rfl, rfl, by decide +kernel, Or.inr ⟨_, jm_g1 187 rfl rfl⟩⟩⟩, trivial⟩
  · exact ⟨⟨8, 1, .array .int, true, rfl, by decide, ⟨_, jn_T8, 5, jn_y8, rfl, by decide, jn_i8, jn_o8, jn_n8, rfl, rfl, by decide +kernel, Or.inr ⟨_, jm_g1 189 rfl rfl⟩⟩⟩, trivial⟩
  · exact ⟨⟨8, 2, .array .long, true, rfl, by decide, ⟨_, jn_T8, 5, jn_y8, rfl, by decide, jn_i8, jn_o8, jn_n8, rfl, rfl, by decide +kernel, Or.inr ⟨_, jm_g1 191 rfl rfl⟩⟩⟩, trivial⟩
  · exact ⟨⟨_, rfl, jm_g5 64 rfl rfl⟩, trivial⟩
  · exact ⟨⟨8, 4, .long, false, rfl, by decide, ⟨_, jn_T8, 5, jn_y8, rfl, by decide, jn_i8, jn_o8, jn_n8, rfl, rfl, by decide +kernel, Or.inr ⟨_, jm_g1 195 rfl rfl⟩⟩⟩, trivial⟩
  · exact ⟨⟨1, 3, .int, false, rfl, by decide, ⟨_, jn_T1, 4, jn_y1, rfl, by decide, jn_i1, jn_o1, jn_n1, rfl, rfl, by decide +kernel, Or.inr ⟨_, jm_g1 48 rfl rfl⟩⟩⟩, trivial⟩
def jl_J_2 : List (Instr × List Nat × Value) := [(.ldc2_w 316, [], .long 1152921504606846976), (.ldc2_w 318, [], .long 8796093022208), (.getfield 269, [0, 16], .null), (.putfield 323, [6, 0, 4, 0], .null), (.putfield 326, [6, 1, 4, 0], .null), (.getfield 37, [0, 4], .null), (.putfield 329, [6, 2, 4, 0], .null), (.putfield 332, [7, 7, 1, 0], .null), (.putfield 335, [7, 8, 0, 0], .null), (.putfield 338, [7, 9, 0, 0], .null), (.putfield 341, [7, 10, 0, 0], .null), (.putfield 281, [7, 3, 0, 0], .null), (.getfield 344, [0, 12], .null), (.putfield 284, [7, 2, 0, 0], .null), (.putfield 344, [0, 12, 0, 0], .null), (.putfield 276, [0, 11, 0, 0], .null), (.invokestatic 347, [190, 2], .null), (.putfield 273, [0, 10, 0, 0], .null), (.invokevirtual 350, [141, 0, 7], .null), (.getfield 208, [7, 6], .null), (.invokevirtual 354, [142, 1, 7], .null), (.getfield 217, [7, 11], .null), (.getfield 220, [7, 12], .null), (.getfield 223, [7, 13], .null), (.getfield 338, [7, 9], .null), (.putfield 256, [0, 14, 0, 0], .null), (.invokevirtual 357, [140, 1, 7], .null), (.getfield 332, [7, 7], .null), (.putfield 289, [7, 5, 1, 0], .null), (.invokevirtual 361, [144, 3, 8], .null)]
theorem js_J_2 (F : jx_SF S dA aL aM adK) (cc : ByteArray) (pc : Nat) : ∀ r ∈ jl_J_2, jx_si S dA (jx_R1 sc aL aM adK) jx_df "JobHouse" r.1 r.2.1 r.2.2 ∧ jx_sc S jx_P cc "JobHouse" pc r.1 r.2.1 := by
  intro r hr
  simp only [jl_J_2, List.mem_cons, List.not_mem_nil, or_false] at hr
  rcases hr with rfl | rfl | rfl | rfl | rfl | rfl | rfl | rfl | rfl | rfl | rfl | rfl | rfl | rfl | rfl | rfl | rfl | rfl | rfl | rfl | rfl | rfl | rfl | rfl | rfl | rfl | rfl | rfl | rfl | rfl
  · exact ⟨⟨_, rfl, jm_g4 139 rfl rfl⟩, trivial⟩
  · exact ⟨⟨_, rfl, jm_g4 225 rfl rfl⟩, trivial⟩
  · exact ⟨⟨0, 16, .boolean, false, rfl, by decide, ⟨_, jn_T0, 18, jn_y0, rfl, by decide, jn_i0, jn_o0, jn_n0, rfl, rfl, by decide +kernel, Or.inl (jm_g2 40 rfl rfl)⟩⟩, trivial⟩
  · exact ⟨⟨6, 0, 4, 0, .object "JobHouse$Cron", rfl, by decide, Or.inr (Or.inr (Or.inr ⟨rfl, Or.inl ⟨_, rfl⟩⟩)), Or.inl ⟨rfl, ⟨_, jn_T6, 3, jn_y6, rfl, by decide, jn_i6, jn_o6, jn_n6, rfl, rfl, by decide +kernel, Or.inr ⟨_, jm_g1 164 rfl rfl⟩⟩⟩⟩, trivial⟩
  · exact ⟨⟨6, 1, 4, 0, .object "JobHouse$Zone", rfl, by decide, Or.inr (Or.inr (Or.inr ⟨rfl, Or.inl ⟨_, rfl⟩⟩)), Or.inl ⟨rfl, ⟨_, jn_T6, 3, jn_y6, rfl, by decide, jn_i6, jn_o6, jn_n6, rfl, rfl, by decide +kernel, Or.inr ⟨_, jm_g1 166 rfl rfl⟩⟩⟩⟩, trivial⟩
  · exact ⟨⟨0, 4, .object "JobHouse$Holidays", true, rfl, by decide, ⟨_, jn_T0, 18, jn_y0, rfl, by decide, jn_i0, jn_o0, jn_n0, rfl, rfl, by decide +kernel, Or.inl (jm_g2 28 rfl rfl)⟩⟩, trivial⟩
  · exact ⟨⟨6, 2, 4, 0, .object "JobHouse$Holidays", rfl, by decide, Or.inr (Or.inr (Or.inr ⟨rfl, Or.inl ⟨_, rfl⟩⟩)), Or.inl ⟨rfl, ⟨_, jn_T6, 3, jn_y6, rfl, by decide, jn_i6, jn_o6, jn_n6, rfl, rfl, by decide +kernel, Or.inr ⟨_, jm_g1 168 rfl rfl⟩⟩⟩⟩, trivial⟩
  · exact ⟨⟨7, 7, 1, 0, .long, rfl, by decide, Or.inr (Or.inl ⟨rfl, rfl⟩), Or.inl ⟨rfl, ⟨_, jn_T7, 14, jn_y7, rfl, by decide, jn_i7, jn_o7, jn_n7, rfl, rfl, by decide +kernel, Or.inr ⟨_, jm_g1 225 rfl rfl⟩⟩⟩⟩, trivial⟩
  · exact ⟨⟨7, 8, 0, 0, .int, rfl, by decide, Or.inl ⟨rfl, rfl⟩, Or.inl ⟨rfl, ⟨_, jn_T7, 14, jn_y7, rfl, by decide, jn_i7, jn_o7, jn_n7, rfl, rfl, by decide +kernel, Or.inr ⟨_, jm_g1 227 rfl rfl⟩⟩⟩⟩, trivial⟩
  · exact ⟨⟨7, 9, 0, 0, .int, rfl, by decide, Or.inl ⟨rfl, rfl⟩, Or.inl ⟨rfl, ⟨_, jn_T7, 14, jn_y7, rfl, by decide, jn_i7, jn_o7, jn_n7, rfl, rfl, by decide +kernel, Or.inr ⟨_, jm_g1 229 rfl rfl⟩⟩⟩⟩, trivial⟩
  · exact ⟨⟨7, 10, 0, 0, .int, rfl, by decide, Or.inl ⟨rfl, rfl⟩, Or.inl ⟨rfl, ⟨_, jn_T7, 14, jn_y7, rfl, by decide, jn_i7, jn_o7, jn_n7, rfl, rfl, by decide +kernel, Or.inr ⟨_, jm_g1 231 rfl rfl⟩⟩⟩⟩, trivial⟩
  · exact ⟨⟨7, 3, 0, 0, .int, rfl, by decide, Or.inl ⟨rfl, rfl⟩, Or.inl ⟨rfl, ⟨_, jn_T7, 14, jn_y7, rfl, by decide, jn_i7, jn_o7, jn_n7, rfl, rfl, by decide +kernel, Or.inr ⟨_, jm_g1 219 rfl rfl⟩⟩⟩⟩, trivial⟩
  · exact ⟨⟨0, 12, .int, false, rfl, by decide, ⟨_, jn_T0, 18, jn_y0, rfl, by decide, jn_i0, jn_o0, jn_n0, rfl, rfl, by decide +kernel, Or.inl (jm_g2 36 rfl rfl)⟩⟩, trivial⟩
  · exact ⟨⟨7, 2, 0, 0, .int, rfl, by decide, Or.inl ⟨rfl, rfl⟩, Or.inl ⟨rfl, ⟨_, jn_T7, 14, jn_y7, rfl, by decide, jn_i7, jn_o7, jn_n7, rfl, rfl, by decide +kernel, Or.inr ⟨_, jm_g1 217 rfl rfl⟩⟩⟩⟩, trivial⟩
  · exact ⟨⟨0, 12, 0, 0, .int, rfl, by decide, Or.inl ⟨rfl, rfl⟩, Or.inl ⟨rfl, ⟨_, jn_T0, 18, jn_y0, rfl, by decide, jn_i0, jn_o0, jn_n0, rfl, rfl, by decide +kernel, Or.inl (jm_g2 36 rfl rfl)⟩⟩⟩, trivial⟩
  · exact ⟨⟨0, 11, 0, 0, .int, rfl, by decide, Or.inl ⟨rfl, rfl⟩, Or.inl ⟨rfl, ⟨_, jn_T0, 18, jn_y0, rfl, by decide, jn_i0, jn_o0, jn_n0, rfl, rfl, by decide +kernel, Or.inl (jm_g2 35 rfl rfl)⟩⟩⟩, trivial⟩
  · exact ⟨trivial, ⟨190, 2, rfl, fun _ => ⟨jp_Math_max, rfl, ji_Math_max, Or.inl (jm_g4 167 rfl rfl), jm_g3 128 rfl rfl⟩, fun q => absurd q (by decide)⟩⟩
  · exact ⟨⟨0, 10, 0, 0, .int, rfl, by decide, Or.inl ⟨rfl, rfl⟩, Or.inl ⟨rfl, ⟨_, jn_T0, 18, jn_y0, rfl, by decide, jn_i0, jn_o0, jn_n0, rfl, rfl, by decide +kernel, Or.inl (jm_g2 34 rfl rfl)⟩⟩⟩, trivial⟩
  · exact ⟨trivial, ⟨141, 0, 7, rfl, fun _ => ⟨by decide, jp_B_isOver, _, _, rfl, ji_B_isOver, Or.inl (jm_g4 235 rfl rfl), jm_g4 236 rfl rfl, jm_g4 237 rfl rfl, rfl⟩, fun q => absurd q (by decide)⟩⟩
  · exact ⟨⟨7, 6, .long, false, rfl, by decide, ⟨_, jn_T7, 14, jn_y7, rfl, by decide, jn_i7, jn_o7, jn_n7, rfl, rfl, by decide +kernel, Or.inr ⟨_, jm_g1 224 rfl rfl⟩⟩⟩, trivial⟩
  · exact ⟨trivial, ⟨142, 1, 7, rfl, fun _ => ⟨by decide, jp_B_rateTimeBehind, _, _, rfl, ji_B_rateTimeBehind, Or.inl (jm_g4 239 rfl rfl), jm_g5 0 rfl rfl, jm_g5 1 rfl rfl, rfl⟩, fun q => absurd q (by decide)⟩⟩
  · exact ⟨⟨7, 11, .int, false, rfl, by decide, ⟨_, jn_T7, 14, jn_y7, rfl, by decide, jn_i7, jn_o7, jn_n7, rfl, rfl, by decide +kernel, Or.inr ⟨_, jm_g1 232 rfl rfl⟩⟩⟩, trivial⟩
  · exact ⟨⟨7, 12, .int, false, rfl, by decide, ⟨_, jn_T7, 14, jn_y7, rfl, by decide, jn_i7, jn_o7, jn_n7, rfl, rfl, by decide +kernel, Or.inr ⟨_, jm_g1 233 rfl rfl⟩⟩⟩, trivial⟩
  · exact ⟨⟨7, 13, .int, false, rfl, by decide, ⟨_, jn_T7, 14, jn_y7, rfl, by decide, jn_i7, jn_o7, jn_n7, rfl, rfl, by decide +kernel, Or.inr ⟨_, jm_g1 234 rfl rfl⟩⟩⟩, trivial⟩
  · exact ⟨⟨7, 9, .int, false, rfl, by decide, ⟨_, jn_T7, 14, jn_y7, rfl, by decide, jn_i7, jn_o7, jn_n7, rfl, rfl, by decide +kernel, Or.inr ⟨_, jm_g1 229 rfl rfl⟩⟩⟩, trivial⟩
  · exact ⟨⟨0, 14, 0, 0, .int, rfl, by decide, Or.inl ⟨rfl, rfl⟩, Or.inl ⟨rfl, ⟨_, jn_T0, 18, jn_y0, rfl, by decide, jn_i0, jn_o0, jn_n0, rfl, rfl, by decide +kernel, Or.inl (jm_g2 38 rfl rfl)⟩⟩⟩, trivial⟩
  · exact ⟨trivial, ⟨140, 1, 7, rfl, fun _ => ⟨by decide, jp_B_isAheadOf, _, _, rfl, ji_B_isAheadOf, Or.inl (jm_g5 12 rfl rfl), jm_g5 13 rfl rfl, jm_g5 14 rfl rfl, rfl⟩, fun q => absurd q (by decide)⟩⟩
  · exact ⟨⟨7, 7, .long, false, rfl, by decide, ⟨_, jn_T7, 14, jn_y7, rfl, by decide, jn_i7, jn_o7, jn_n7, rfl, rfl, by decide +kernel, Or.inr ⟨_, jm_g1 225 rfl rfl⟩⟩⟩, trivial⟩
  · exact ⟨⟨7, 5, 1, 0, .long, rfl, by decide, Or.inr (Or.inl ⟨rfl, rfl⟩), Or.inl ⟨rfl, ⟨_, jn_T7, 14, jn_y7, rfl, by decide, jn_i7, jn_o7, jn_n7, rfl, rfl, by decide +kernel, Or.inr ⟨_, jm_g1 222 rfl rfl⟩⟩⟩⟩, trivial⟩
  · exact ⟨trivial, ⟨144, 3, 8, rfl, fun _ => ⟨by decide, jp_L_add, _, _, rfl, ji_L_add, Or.inl (jm_g5 20 rfl rfl), jm_g5 21 rfl rfl, jm_g5 22 rfl rfl, rfl⟩, fun q => absurd q (by decide)⟩⟩
def jl_J : List (Instr × List Nat × Value) := jl_J_0 ++ jl_J_1 ++ jl_J_2
theorem js_J (F : jx_SF S dA aL aM adK) (cc : ByteArray) (pc : Nat) : ∀ r ∈ jl_J, jx_si S dA (jx_R1 sc aL aM adK) jx_df "JobHouse" r.1 r.2.1 r.2.2 ∧ jx_sc S jx_P cc "JobHouse" pc r.1 r.2.1 := by
  intro r hr
  simp only [jl_J, List.mem_append] at hr
  rcases hr with (h0 | h1) | h2
  · exact js_J_0 F cc pc r h0
  · exact js_J_1 F cc pc r h1
  · exact js_J_2 F cc pc r h2
def jl_M_0 : List (Instr × List Nat × Value) := [(.invokespecial 1, [9003, 0], .null), (.newarray .byte, [0], .null), (.putfield 7, [9, 1, 4, 1], .null), (.putfield 13, [9, 3, 0, 0], .null), (.newarray .int, [2], .null), (.putfield 17, [9, 8, 4, 1], .null), (.putfield 21, [9, 9, 4, 1], .null), (.multianewarray 24 2, [9, 3], .null), (.putfield 26, [9, 10, 4, 1], .null), (.multianewarray 29 2, [10, 1], .null), (.putfield 31, [9, 11, 4, 1], .null), (.putfield 34, [9, 12, 4, 1], .null), (.putfield 37, [9, 13, 4, 1], .null), (.multianewarray 40 3, [11, 10, 1], .null), (.putfield 42, [9, 14, 4, 1], .null), (.putfield 45, [9, 15, 4, 1], .null), (.newarray .boolean, [1], .null), (.putfield 48, [9, 16, 4, 1], .null), (.multianewarray 52 2, [12, 2], .null), (.putfield 54, [9, 17, 4, 1], .null), (.putfield 57, [9, 18, 4, 1], .null), (.putfield 60, [9, 19, 4, 1], .null), (.anewarray 63, [8], .null), (.ldc 65, [], .ref 5), (.ldc 67, [], .ref 6), (.ldc 69, [], .ref 7), (.ldc 71, [], .ref 8), (.ldc 73, [], .ref 9), (.ldc 75, [], .ref 10), (.ldc 77, [], .ref 11), (.ldc 79, [], .ref 12), (.ldc 81, [], .ref 13), (.ldc 83, [], .ref 14), (.ldc 85, [], .ref 15), (.ldc 87, [], .ref 16), (.putfield 89, [9, 23, 4, 1], .null), (.ldc 93, [], .ref 17), (.ldc 95, [], .ref 18), (.ldc 97, [], .ref 19), (.ldc 99, [], .ref 20), (.ldc 101, [], .ref 21), (.ldc 103, [], .ref 22), (.ldc 105, [], .ref 23), (.putfield 107, [9, 24, 4, 1], .null), (.ldc 110, [], .int 120530), (.putfield 111, [9, 25, 4, 1], .null), (.putfield 114, [9, 26, 4, 1], .null), (.putfield 117, [9, 27, 4, 1], .null), (.putfield 120, [9, 28, 4, 1], .null), (.newarray .long, [3], .null), (.putfield 123, [9, 29, 4, 1], .null), (.putfield 127, [9, 30, 4, 1], .null), (.putfield 130, [9, 31, 4, 1], .null), (.putfield 133, [9, 32, 4, 1], .null), (.putfield 136, [9, 33, 4, 1], .null), (.putfield 139, [9, 34, 4, 1], .null), (.putfield 142, [9, 35, 4, 1], .null), (.putfield 145, [9, 36, 4, 1], .null), (.putfield 148, [9, 37, 4, 1], .null), (.putfield 151, [9, 38, 4, 1], .null)]
theorem js_M_0 (F : jx_SF S dA aL aM adK) (cc : ByteArray) (pc : Nat) : ∀ r ∈ jl_M_0, jx_si S dA (jx_R1 sc aL aM adK) jx_df "JobHouseModel" r.1 r.2.1 r.2.2 ∧ jx_sc S jx_P cc "JobHouseModel" pc r.1 r.2.1 := by
  intro r hr
  simp only [jl_M_0, List.mem_cons, List.not_mem_nil, or_false] at hr
  rcases hr with rfl | rfl | rfl | rfl | rfl | rfl | rfl | rfl | rfl | rfl | rfl | rfl | rfl | rfl | rfl | rfl | rfl | rfl | rfl | rfl | rfl | rfl | rfl | rfl | rfl | rfl | rfl | rfl | rfl | rfl | rfl | rfl | rfl | rfl | rfl | rfl | rfl | rfl | rfl | rfl | rfl | rfl | rfl | rfl | rfl | rfl | rfl | rfl | rfl | rfl | rfl | rfl | rfl | rfl | rfl | rfl | rfl | rfl | rfl | rfl
  · exact ⟨trivial, ⟨9003, 0, rfl, fun q => absurd q (by decide), fun _ => ⟨rfl, rfl, jm_g5 70 rfl rfl, jm_g1 34 rfl rfl, jm_g1 35 rfl rfl⟩⟩⟩
  · exact ⟨⟨0, _, rfl, by decide, rfl, rfl, jm_g1 58 rfl rfl⟩, trivial⟩
  · exact ⟨⟨9, 1, 4, 1, .array .byte, rfl, by decide, Or.inr (Or.inr (Or.inr ⟨rfl, Or.inr ⟨_, rfl⟩⟩)), Or.inr ⟨rfl, ⟨jn_T9, 50, jn_y9, rfl, by decide, jn_i9, jn_o9, jn_n9, rfl, rfl, by decide +kernel, jm_g5 102 rfl rfl⟩⟩⟩, trivial⟩
  · exact ⟨⟨9, 3, 0, 0, .int, rfl, by decide, Or.inl ⟨rfl, rfl⟩, Or.inl ⟨rfl, ⟨_, jn_T9, 50, jn_y9, rfl, by decide, jn_i9, jn_o9, jn_n9, rfl, rfl, by decide +kernel, Or.inl (jm_g5 104 rfl rfl)⟩⟩⟩, trivial⟩
  · exact ⟨⟨2, _, rfl, by decide, rfl, rfl, jm_g1 78 rfl rfl⟩, trivial⟩
  · exact ⟨⟨9, 8, 4, 1, .array .int, rfl, by decide, Or.inr (Or.inr (Or.inr ⟨rfl, Or.inr ⟨_, rfl⟩⟩)), Or.inr ⟨rfl, ⟨jn_T9, 50, jn_y9, rfl, by decide, jn_i9, jn_o9, jn_n9, rfl, rfl, by decide +kernel, jm_g5 109 rfl rfl⟩⟩⟩, trivial⟩
  · exact ⟨⟨9, 9, 4, 1, .array .int, rfl, by decide, Or.inr (Or.inr (Or.inr ⟨rfl, Or.inr ⟨_, rfl⟩⟩)), Or.inr ⟨rfl, ⟨jn_T9, 50, jn_y9, rfl, by decide, jn_i9, jn_o9, jn_n9, rfl, rfl, by decide +kernel, jm_g5 110 rfl rfl⟩⟩⟩, trivial⟩
  · exact ⟨Or.inl ⟨9, 3, _, rfl, rfl, by decide, by decide, by decide, jm_g5 71 rfl rfl, F.2.2.2.2.2.2.2.1.1, F.2.2.2.2.2.2.2.1.2⟩, trivial⟩
  · exact ⟨⟨9, 10, 4, 1, .array (.array .long), rfl, by decide, Or.inr (Or.inr (Or.inr ⟨rfl, Or.inr ⟨_, rfl⟩⟩)), Or.inr ⟨rfl, ⟨jn_T9, 50, jn_y9, rfl, by decide, jn_i9, jn_o9, jn_n9, rfl, rfl, by decide +kernel, jm_g5 111 rfl rfl⟩⟩⟩, trivial⟩
  · exact ⟨Or.inl ⟨10, 1, _, rfl, rfl, by decide, by decide, by decide, jm_g5 73 rfl rfl, F.2.2.2.2.2.2.2.2.1.1, F.2.2.2.2.2.2.2.2.1.2⟩, trivial⟩
  · exact ⟨⟨9, 11, 4, 1, .array (.array .boolean), rfl, by decide, Or.inr (Or.inr (Or.inr ⟨rfl, Or.inr ⟨_, rfl⟩⟩)), Or.inr ⟨rfl, ⟨jn_T9, 50, jn_y9, rfl, by decide, jn_i9, jn_o9, jn_n9, rfl, rfl, by decide +kernel, jm_g5 112 rfl rfl⟩⟩⟩, trivial⟩
  · exact ⟨⟨9, 12, 4, 1, .array .int, rfl, by decide, Or.inr (Or.inr (Or.inr ⟨rfl, Or.inr ⟨_, rfl⟩⟩)), Or.inr ⟨rfl, ⟨jn_T9, 50, jn_y9, rfl, by decide, jn_i9, jn_o9, jn_n9, rfl, rfl, by decide +kernel, jm_g5 113 rfl rfl⟩⟩⟩, trivial⟩
  · exact ⟨⟨9, 13, 4, 1, .array .int, rfl, by decide, Or.inr (Or.inr (Or.inr ⟨rfl, Or.inr ⟨_, rfl⟩⟩)), Or.inr ⟨rfl, ⟨jn_T9, 50, jn_y9, rfl, by decide, jn_i9, jn_o9, jn_n9, rfl, rfl, by decide +kernel, jm_g5 114 rfl rfl⟩⟩⟩, trivial⟩
  · exact ⟨Or.inr ⟨11, 10, 1, _, rfl, rfl, by decide, by decide, by decide, by decide, by decide, jm_g5 75 rfl rfl, F.2.2.2.2.2.2.2.2.2.1, F.2.2.2.2.2.2.2.2.2.2, F.2.2.2.2.2.2.2.2.1.2⟩, trivial⟩
  · exact ⟨⟨9, 14, 4, 1, .array (.array (.array .boolean)), rfl, by decide, Or.inr (Or.inr (Or.inr ⟨rfl, Or.inr ⟨_, rfl⟩⟩)), Or.inr ⟨rfl, ⟨jn_T9, 50, jn_y9, rfl, by decide, jn_i9, jn_o9, jn_n9, rfl, rfl, by decide +kernel, jm_g5 115 rfl rfl⟩⟩⟩, trivial⟩
  · exact ⟨⟨9, 15, 4, 1, .array (.array .boolean), rfl, by decide, Or.inr (Or.inr (Or.inr ⟨rfl, Or.inr ⟨_, rfl⟩⟩)), Or.inr ⟨rfl, ⟨jn_T9, 50, jn_y9, rfl, by decide, jn_i9, jn_o9, jn_n9, rfl, rfl, by decide +kernel, jm_g5 116 rfl rfl⟩⟩⟩, trivial⟩
  · exact ⟨⟨1, _, rfl, by decide, rfl, rfl, jm_g6 12 rfl rfl⟩, trivial⟩
  · exact ⟨⟨9, 16, 4, 1, .array .boolean, rfl, by decide, Or.inr (Or.inr (Or.inr ⟨rfl, Or.inr ⟨_, rfl⟩⟩)), Or.inr ⟨rfl, ⟨jn_T9, 50, jn_y9, rfl, by decide, jn_i9, jn_o9, jn_n9, rfl, rfl, by decide +kernel, jm_g5 117 rfl rfl⟩⟩⟩, trivial⟩
  · exact ⟨Or.inl ⟨12, 2, _, rfl, rfl, by decide, by decide, by decide, jm_g5 77 rfl rfl, F.2.2.2.2.2.2.1.1, F.2.2.2.2.2.2.1.2⟩, trivial⟩
  · exact ⟨⟨9, 17, 4, 1, .array (.array .int), rfl, by decide, Or.inr (Or.inr (Or.inr ⟨rfl, Or.inr ⟨_, rfl⟩⟩)), Or.inr ⟨rfl, ⟨jn_T9, 50, jn_y9, rfl, by decide, jn_i9, jn_o9, jn_n9, rfl, rfl, by decide +kernel, jm_g5 118 rfl rfl⟩⟩⟩, trivial⟩
  · exact ⟨⟨9, 18, 4, 1, .array (.array .int), rfl, by decide, Or.inr (Or.inr (Or.inr ⟨rfl, Or.inr ⟨_, rfl⟩⟩)), Or.inr ⟨rfl, ⟨jn_T9, 50, jn_y9, rfl, by decide, jn_i9, jn_o9, jn_n9, rfl, rfl, by decide +kernel, jm_g5 119 rfl rfl⟩⟩⟩, trivial⟩
  · exact ⟨⟨9, 19, 4, 1, .array (.array .int), rfl, by decide, Or.inr (Or.inr (Or.inr ⟨rfl, Or.inr ⟨_, rfl⟩⟩)), Or.inr ⟨rfl, ⟨jn_T9, 50, jn_y9, rfl, by decide, jn_i9, jn_o9, jn_n9, rfl, rfl, by decide +kernel, jm_g5 120 rfl rfl⟩⟩⟩, trivial⟩
  · exact ⟨⟨8, _, rfl, by decide, rfl, jm_g5 79 rfl rfl, F.2.2.2.2.2.1 _ (by decide)⟩, trivial⟩
  · exact ⟨Or.inr ⟨5, adK 2, "JAN", rfl, rfl, F.2.2.1 2 _ _ _ (by decide +kernel)⟩, trivial⟩
  · exact ⟨Or.inr ⟨6, adK 3, "FEB", rfl, rfl, F.2.2.1 3 _ _ _ (by decide +kernel)⟩, trivial⟩
  · exact ⟨Or.inr ⟨7, adK 4, "MAR", rfl, rfl, F.2.2.1 4 _ _ _ (by decide +kernel)⟩, trivial⟩
  · exact ⟨Or.inr ⟨8, adK 5, "APR", rfl, rfl, F.2.2.1 5 _ _ _ (by decide +kernel)⟩, trivial⟩
  · exact ⟨Or.inr ⟨9, adK 6, "MAY", rfl, rfl, F.2.2.1 6 _ _ _ (by decide +kernel)⟩, trivial⟩
  · exact ⟨Or.inr ⟨10, adK 7, "JUN", rfl, rfl, F.2.2.1 7 _ _ _ (by decide +kernel)⟩, trivial⟩
  · exact ⟨Or.inr ⟨11, adK 8, "JUL", rfl, rfl, F.2.2.1 8 _ _ _ (by decide +kernel)⟩, trivial⟩
  · exact ⟨Or.inr ⟨12, adK 9, "AUG", rfl, rfl, F.2.2.1 9 _ _ _ (by decide +kernel)⟩, trivial⟩
  · exact ⟨Or.inr ⟨13, adK 10, "SEP", rfl, rfl, F.2.2.1 10 _ _ _ (by decide +kernel)⟩, trivial⟩
  · exact ⟨Or.inr ⟨14, adK 11, "OCT", rfl, rfl, F.2.2.1 11 _ _ _ (by decide +kernel)⟩, trivial⟩
  · exact ⟨Or.inr ⟨15, adK 12, "NOV", rfl, rfl, F.2.2.1 12 _ _ _ (by decide +kernel)⟩, trivial⟩
  · exact ⟨Or.inr ⟨16, adK 13, "DEC", rfl, rfl, F.2.2.1 13 _ _ _ (by decide +kernel)⟩, trivial⟩
  · exact ⟨⟨9, 23, 4, 1, .array (.object "java/lang/String"), rfl, by decide, Or.inr (Or.inr (Or.inr ⟨rfl, Or.inr ⟨_, rfl⟩⟩)), Or.inr ⟨rfl, ⟨jn_T9, 50, jn_y9, rfl, by decide, jn_i9, jn_o9, jn_n9, rfl, rfl, by decide +kernel, jm_g5 124 rfl rfl⟩⟩⟩, trivial⟩
  · exact ⟨Or.inr ⟨17, adK 14, "SUN", rfl, rfl, F.2.2.1 14 _ _ _ (by decide +kernel)⟩, trivial⟩
  · exact ⟨Or.inr ⟨18, adK 15, "MON", rfl, rfl, F.2.2.1 15 _ _ _ (by decide +kernel)⟩, trivial⟩
  · exact ⟨Or.inr ⟨19, adK 16, "TUE", rfl, rfl, F.2.2.1 16 _ _ _ (by decide +kernel)⟩, trivial⟩
  · exact ⟨Or.inr ⟨20, adK 17, "WED", rfl, rfl, F.2.2.1 17 _ _ _ (by decide +kernel)⟩, trivial⟩
  · exact ⟨Or.inr ⟨21, adK 18, "THU", rfl, rfl, F.2.2.1 18 _ _ _ (by decide +kernel)⟩, trivial⟩
  · exact ⟨Or.inr ⟨22, adK 19, "FRI", rfl, rfl, F.2.2.1 19 _ _ _ (by decide +kernel)⟩, trivial⟩
  · exact ⟨Or.inr ⟨23, adK 20, "SAT", rfl, rfl, F.2.2.1 20 _ _ _ (by decide +kernel)⟩, trivial⟩
  · exact ⟨⟨9, 24, 4, 1, .array (.object "java/lang/String"), rfl, by decide, Or.inr (Or.inr (Or.inr ⟨rfl, Or.inr ⟨_, rfl⟩⟩)), Or.inr ⟨rfl, ⟨jn_T9, 50, jn_y9, rfl, by decide, jn_i9, jn_o9, jn_n9, rfl, rfl, by decide +kernel, jm_g5 125 rfl rfl⟩⟩⟩, trivial⟩
  · exact ⟨Or.inl ⟨_, rfl, jm_g5 100 rfl rfl⟩, trivial⟩
  · exact ⟨⟨9, 25, 4, 1, .array (.array .boolean), rfl, by decide, Or.inr (Or.inr (Or.inr ⟨rfl, Or.inr ⟨_, rfl⟩⟩)), Or.inr ⟨rfl, ⟨jn_T9, 50, jn_y9, rfl, by decide, jn_i9, jn_o9, jn_n9, rfl, rfl, by decide +kernel, jm_g5 126 rfl rfl⟩⟩⟩, trivial⟩
  · exact ⟨⟨9, 26, 4, 1, .array .int, rfl, by decide, Or.inr (Or.inr (Or.inr ⟨rfl, Or.inr ⟨_, rfl⟩⟩)), Or.inr ⟨rfl, ⟨jn_T9, 50, jn_y9, rfl, by decide, jn_i9, jn_o9, jn_n9, rfl, rfl, by decide +kernel, jm_g5 127 rfl rfl⟩⟩⟩, trivial⟩
  · exact ⟨⟨9, 27, 4, 1, .array .int, rfl, by decide, Or.inr (Or.inr (Or.inr ⟨rfl, Or.inr ⟨_, rfl⟩⟩)), Or.inr ⟨rfl, ⟨jn_T9, 50, jn_y9, rfl, by decide, jn_i9, jn_o9, jn_n9, rfl, rfl, by decide +kernel, jm_g5 128 rfl rfl⟩⟩⟩, trivial⟩
  · exact ⟨⟨9, 28, 4, 1, .array .int, rfl, by decide, Or.inr (Or.inr (Or.inr ⟨rfl, Or.inr ⟨_, rfl⟩⟩)), Or.inr ⟨rfl, ⟨jn_T9, 50, jn_y9, rfl, by decide, jn_i9, jn_o9, jn_n9, rfl, rfl, by decide +kernel, jm_g5 129 rfl rfl⟩⟩⟩, trivial⟩
  · exact ⟨⟨3, _, rfl, by decide, rfl, rfl, jm_g1 107 rfl rfl⟩, trivial⟩
  · exact ⟨⟨9, 29, 4, 1, .array .long, rfl, by decide, Or.inr (Or.inr (Or.inr ⟨rfl, Or.inr ⟨_, rfl⟩⟩)), Or.inr ⟨rfl, ⟨jn_T9, 50, jn_y9, rfl, by decide, jn_i9, jn_o9, jn_n9, rfl, rfl, by decide +kernel, jm_g5 130 rfl rfl⟩⟩⟩, trivial⟩
  · exact ⟨⟨9, 30, 4, 1, .array .long, rfl, by decide, Or.inr (Or.inr (Or.inr ⟨rfl, Or.inr ⟨_, rfl⟩⟩)), Or.inr ⟨rfl, ⟨jn_T9, 50, jn_y9, rfl, by decide, jn_i9, jn_o9, jn_n9, rfl, rfl, by decide +kernel, jm_g5 131 rfl rfl⟩⟩⟩, trivial⟩
  · exact ⟨⟨9, 31, 4, 1, .array .long, rfl, by decide, Or.inr (Or.inr (Or.inr ⟨rfl, Or.inr ⟨_, rfl⟩⟩)), Or.inr ⟨rfl, ⟨jn_T9, 50, jn_y9, rfl, by decide, jn_i9, jn_o9, jn_n9, rfl, rfl, by decide +kernel, jm_g5 132 rfl rfl⟩⟩⟩, trivial⟩
  · exact ⟨⟨9, 32, 4, 1, .array .long, rfl, by decide, Or.inr (Or.inr (Or.inr ⟨rfl, Or.inr ⟨_, rfl⟩⟩)), Or.inr ⟨rfl, ⟨jn_T9, 50, jn_y9, rfl, by decide, jn_i9, jn_o9, jn_n9, rfl, rfl, by decide +kernel, jm_g5 133 rfl rfl⟩⟩⟩, trivial⟩
  · exact ⟨⟨9, 33, 4, 1, .array .long, rfl, by decide, Or.inr (Or.inr (Or.inr ⟨rfl, Or.inr ⟨_, rfl⟩⟩)), Or.inr ⟨rfl, ⟨jn_T9, 50, jn_y9, rfl, by decide, jn_i9, jn_o9, jn_n9, rfl, rfl, by decide +kernel, jm_g5 134 rfl rfl⟩⟩⟩, trivial⟩
  · exact ⟨⟨9, 34, 4, 1, .array .long, rfl, by decide, Or.inr (Or.inr (Or.inr ⟨rfl, Or.inr ⟨_, rfl⟩⟩)), Or.inr ⟨rfl, ⟨jn_T9, 50, jn_y9, rfl, by decide, jn_i9, jn_o9, jn_n9, rfl, rfl, by decide +kernel, jm_g5 135 rfl rfl⟩⟩⟩, trivial⟩
  · exact ⟨⟨9, 35, 4, 1, .array .int, rfl, by decide, Or.inr (Or.inr (Or.inr ⟨rfl, Or.inr ⟨_, rfl⟩⟩)), Or.inr ⟨rfl, ⟨jn_T9, 50, jn_y9, rfl, by decide, jn_i9, jn_o9, jn_n9, rfl, rfl, by decide +kernel, jm_g5 136 rfl rfl⟩⟩⟩, trivial⟩
  · exact ⟨⟨9, 36, 4, 1, .array .int, rfl, by decide, Or.inr (Or.inr (Or.inr ⟨rfl, Or.inr ⟨_, rfl⟩⟩)), Or.inr ⟨rfl, ⟨jn_T9, 50, jn_y9, rfl, by decide, jn_i9, jn_o9, jn_n9, rfl, rfl, by decide +kernel, jm_g5 137 rfl rfl⟩⟩⟩, trivial⟩
  · exact ⟨⟨9, 37, 4, 1, .array .int, rfl, by decide, Or.inr (Or.inr (Or.inr ⟨rfl, Or.inr ⟨_, rfl⟩⟩)), Or.inr ⟨rfl, ⟨jn_T9, 50, jn_y9, rfl, by decide, jn_i9, jn_o9, jn_n9, rfl, rfl, by decide +kernel, jm_g5 138 rfl rfl⟩⟩⟩, trivial⟩
  · exact ⟨⟨9, 38, 4, 1, .array .int, rfl, by decide, Or.inr (Or.inr (Or.inr ⟨rfl, Or.inr ⟨_, rfl⟩⟩)), Or.inr ⟨rfl, ⟨jn_T9, 50, jn_y9, rfl, by decide, jn_i9, jn_o9, jn_n9, rfl, rfl, by decide +kernel, jm_g5 139 rfl rfl⟩⟩⟩, trivial⟩
def jl_M_1 : List (Instr × List Nat × Value) := [(.putfield 154, [9, 39, 4, 1], .null), (.putfield 157, [9, 40, 4, 1], .null), (.putfield 160, [9, 42, 0, 0], .null), (.putfield 163, [9, 46, 4, 1], .null), (.putfield 166, [9, 47, 4, 1], .null), (.putfield 169, [9, 48, 4, 1], .null), (.getfield 34, [9, 12], .null), (.getfield 172, [9, 0], .null), (.putfield 172, [9, 0, 0, 0], .null), (.invokestatic 175, [39, 1], .null), (.invokestatic 179, [40, 2], .null), (.invokestatic 183, [186, 2], .null), (.putfield 188, [9, 4, 0, 0], .null), (.getfield 188, [9, 4], .null), (.invokestatic 191, [41, 2], .null), (.putfield 194, [9, 5, 0, 0], .null), (.getfield 194, [9, 5], .null), (.putfield 197, [9, 6, 0, 0], .null), (.invokestatic 200, [188, 2], .null), (.getfield 206, [9, 7], .null), (.getfield 209, [9, 2], .null), (.getfield 7, [9, 1], .null), (.invokevirtual 212, [45, 0, 9], .null), (.invokevirtual 216, [44, 1, 9], .null), (.putfield 206, [9, 7, 0, 0], .null), (.invokestatic 220, [46, 1], .null), (.ldc 223, [], .int 100000), (.invokestatic 224, [192, 2], .null), (.invokevirtual 227, [47, 1, 9], .null), (.getfield 37, [9, 13], .null), (.invokevirtual 230, [49, 2, 9], .null), (.invokestatic 233, [43, 1], .null), (.getfield 26, [9, 10], .null), (.getfield 31, [9, 11], .null), (.invokevirtual 237, [54, 1, 9], .null), (.putfield 209, [9, 2, 0, 0], .null), (.invokevirtual 240, [48, 0, 9], .null), (.invokevirtual 243, [50, 1, 9], .null), (.getfield 17, [9, 8], .null), (.getfield 21, [9, 9], .null), (.invokevirtual 245, [51, 2, 9], .null), (.ldc2_w 248, [], .long 86400000), (.ldc2_w 250, [], .long 60000), (.invokevirtual 252, [52, 3, 9], .null), (.invokestatic 256, [57, 1], .null), (.getfield 89, [9, 23], .null), (.getfield 107, [9, 24], .null), (.invokevirtual 259, [9001, 1, 300], .null), (.getstatic 263, [], .ref 1), (.getstatic 266, [], .ref 2), (.getfield 45, [9, 15], .null), (.invokevirtual 269, [58, 1, 9], .null), (.invokevirtual 272, [60, 2, 9], .null), (.putfield 276, [9, 20, 0, 0], .null), (.putfield 279, [9, 21, 0, 0], .null), (.putfield 282, [9, 22, 0, 0], .null), (.invokevirtual 285, [59, 1, 9], .null), (.invokevirtual 288, [61, 1, 9], .null), (.getfield 276, [9, 20], .null), (.getfield 279, [9, 21], .null)]
theorem js_M_1 (F : jx_SF S dA aL aM adK) (cc : ByteArray) (pc : Nat) : ∀ r ∈ jl_M_1, jx_si S dA (jx_R1 sc aL aM adK) jx_df "JobHouseModel" r.1 r.2.1 r.2.2 ∧ jx_sc S jx_P cc "JobHouseModel" pc r.1 r.2.1 := by
  intro r hr
  simp only [jl_M_1, List.mem_cons, List.not_mem_nil, or_false] at hr
  rcases hr with rfl | rfl | rfl | rfl | rfl | rfl | rfl | rfl | rfl | rfl | rfl | rfl | rfl | rfl | rfl | rfl | rfl | rfl | rfl | rfl | rfl | rfl | rfl | rfl | rfl | rfl | rfl | rfl | rfl | rfl | rfl | rfl | rfl | rfl | rfl | rfl | rfl | rfl | rfl | rfl | rfl | rfl | rfl | rfl | rfl | rfl | rfl | rfl | rfl | rfl | rfl | rfl | rfl | rfl | rfl | rfl | rfl | rfl | rfl | rfl
  · exact ⟨⟨9, 39, 4, 1, .array .int, rfl, by decide, Or.inr (Or.inr (Or.inr ⟨rfl, Or.inr ⟨_, rfl⟩⟩)), Or.inr ⟨rfl, ⟨jn_T9, 50, jn_y9, rfl, by decide, jn_i9, jn_o9, jn_n9, rfl, rfl, by decide +kernel, jm_g5 140 rfl rfl⟩⟩⟩, trivial⟩
  · exact ⟨⟨9, 40, 4, 1, .array .int, rfl, by decide, Or.inr (Or.inr (Or.inr ⟨rfl, Or.inr ⟨_, rfl⟩⟩)), Or.inr ⟨rfl, ⟨jn_T9, 50, jn_y9, rfl, by decide, jn_i9, jn_o9, jn_n9, rfl, rfl, by decide +kernel, jm_g5 141 rfl rfl⟩⟩⟩, trivial⟩
  · exact ⟨⟨9, 42, 0, 0, .int, rfl, by decide, Or.inl ⟨rfl, rfl⟩, Or.inl ⟨rfl, ⟨_, jn_T9, 50, jn_y9, rfl, by decide, jn_i9, jn_o9, jn_n9, rfl, rfl, by decide +kernel, Or.inl (jm_g5 143 rfl rfl)⟩⟩⟩, trivial⟩
  · exact ⟨⟨9, 46, 4, 1, .array .long, rfl, by decide, Or.inr (Or.inr (Or.inr ⟨rfl, Or.inr ⟨_, rfl⟩⟩)), Or.inr ⟨rfl, ⟨jn_T9, 50, jn_y9, rfl, by decide, jn_i9, jn_o9, jn_n9, rfl, rfl, by decide +kernel, jm_g5 147 rfl rfl⟩⟩⟩, trivial⟩
  · exact ⟨⟨9, 47, 4, 1, .array .int, rfl, by decide, Or.inr (Or.inr (Or.inr ⟨rfl, Or.inr ⟨_, rfl⟩⟩)), Or.inr ⟨rfl, ⟨jn_T9, 50, jn_y9, rfl, by decide, jn_i9, jn_o9, jn_n9, rfl, rfl, by decide +kernel, jm_g5 148 rfl rfl⟩⟩⟩, trivial⟩
  · exact ⟨⟨9, 48, 4, 1, .array .long, rfl, by decide, Or.inr (Or.inr (Or.inr ⟨rfl, Or.inr ⟨_, rfl⟩⟩)), Or.inr ⟨rfl, ⟨jn_T9, 50, jn_y9, rfl, by decide, jn_i9, jn_o9, jn_n9, rfl, rfl, by decide +kernel, jm_g5 149 rfl rfl⟩⟩⟩, trivial⟩
  · exact ⟨⟨9, 12, .array .int, true, rfl, by decide, ⟨_, jn_T9, 50, jn_y9, rfl, by decide, jn_i9, jn_o9, jn_n9, rfl, rfl, by decide +kernel, Or.inl (jm_g5 113 rfl rfl)⟩⟩, trivial⟩
  · exact ⟨⟨9, 0, .int, false, rfl, by decide, ⟨_, jn_T9, 50, jn_y9, rfl, by decide, jn_i9, jn_o9, jn_n9, rfl, rfl, by decide +kernel, Or.inl (jm_g5 101 rfl rfl)⟩⟩, trivial⟩
  · exact ⟨⟨9, 0, 0, 0, .int, rfl, by decide, Or.inl ⟨rfl, rfl⟩, Or.inl ⟨rfl, ⟨_, jn_T9, 50, jn_y9, rfl, by decide, jn_i9, jn_o9, jn_n9, rfl, rfl, by decide +kernel, Or.inl (jm_g5 101 rfl rfl)⟩⟩⟩, trivial⟩
  · exact ⟨trivial, ⟨39, 1, rfl, fun _ => ⟨jp_M_leap, rfl, ji_M_leap, Or.inl (jm_g6 66 rfl rfl), jm_g6 67 rfl rfl⟩, fun q => absurd q (by decide)⟩⟩
  · exact ⟨trivial, ⟨40, 2, rfl, fun _ => ⟨jp_M_length, rfl, ji_M_length, Or.inl (jm_g6 63 rfl rfl), jm_g6 64 rfl rfl⟩, fun q => absurd q (by decide)⟩⟩
  · exact ⟨trivial, ⟨186, 2, rfl, fun _ => ⟨jp_Math_floorDiv, rfl, ji_Math_floorDiv, Or.inl (jm_g6 155 rfl rfl), jm_g3 207 rfl rfl⟩, fun q => absurd q (by decide)⟩⟩
  · exact ⟨⟨9, 4, 0, 0, .int, rfl, by decide, Or.inl ⟨rfl, rfl⟩, Or.inl ⟨rfl, ⟨_, jn_T9, 50, jn_y9, rfl, by decide, jn_i9, jn_o9, jn_n9, rfl, rfl, by decide +kernel, Or.inl (jm_g5 105 rfl rfl)⟩⟩⟩, trivial⟩
  · exact ⟨⟨9, 4, .int, false, rfl, by decide, ⟨_, jn_T9, 50, jn_y9, rfl, by decide, jn_i9, jn_o9, jn_n9, rfl, rfl, by decide +kernel, Or.inl (jm_g5 105 rfl rfl)⟩⟩, trivial⟩
  · exact ⟨trivial, ⟨41, 2, rfl, fun _ => ⟨jp_M_number, rfl, ji_M_number, Or.inl (jm_g6 60 rfl rfl), jm_g6 61 rfl rfl⟩, fun q => absurd q (by decide)⟩⟩
  · exact ⟨⟨9, 5, 0, 0, .int, rfl, by decide, Or.inl ⟨rfl, rfl⟩, Or.inl ⟨rfl, ⟨_, jn_T9, 50, jn_y9, rfl, by decide, jn_i9, jn_o9, jn_n9, rfl, rfl, by decide +kernel, Or.inl (jm_g5 106 rfl rfl)⟩⟩⟩, trivial⟩
  · exact ⟨⟨9, 5, .int, false, rfl, by decide, ⟨_, jn_T9, 50, jn_y9, rfl, by decide, jn_i9, jn_o9, jn_n9, rfl, rfl, by decide +kernel, Or.inl (jm_g5 106 rfl rfl)⟩⟩, trivial⟩
  · exact ⟨⟨9, 6, 0, 0, .int, rfl, by decide, Or.inl ⟨rfl, rfl⟩, Or.inl ⟨rfl, ⟨_, jn_T9, 50, jn_y9, rfl, by decide, jn_i9, jn_o9, jn_n9, rfl, rfl, by decide +kernel, Or.inl (jm_g5 107 rfl rfl)⟩⟩⟩, trivial⟩
  · exact ⟨trivial, ⟨188, 2, rfl, fun _ => ⟨jp_Math_floorMod, rfl, ji_Math_floorMod, Or.inl (jm_g6 72 rfl rfl), jm_g3 227 rfl rfl⟩, fun q => absurd q (by decide)⟩⟩
  · exact ⟨⟨9, 7, .int, false, rfl, by decide, ⟨_, jn_T9, 50, jn_y9, rfl, by decide, jn_i9, jn_o9, jn_n9, rfl, rfl, by decide +kernel, Or.inl (jm_g5 108 rfl rfl)⟩⟩, trivial⟩
  · exact ⟨⟨9, 2, .int, false, rfl, by decide, ⟨_, jn_T9, 50, jn_y9, rfl, by decide, jn_i9, jn_o9, jn_n9, rfl, rfl, by decide +kernel, Or.inl (jm_g5 103 rfl rfl)⟩⟩, trivial⟩
  · exact ⟨⟨9, 1, .array .byte, true, rfl, by decide, ⟨_, jn_T9, 50, jn_y9, rfl, by decide, jn_i9, jn_o9, jn_n9, rfl, rfl, by decide +kernel, Or.inl (jm_g5 102 rfl rfl)⟩⟩, trivial⟩
  · exact ⟨trivial, ⟨45, 0, 9, rfl, fun _ => ⟨by decide, jp_M_peek, _, _, rfl, ji_M_peek, Or.inl (jm_g6 26 rfl rfl), jm_g6 28 rfl rfl, jm_g0 24 rfl rfl, rfl⟩, fun q => absurd q (by decide)⟩⟩
  · exact ⟨trivial, ⟨44, 1, 9, rfl, fun _ => ⟨by decide, jp_M_bad, _, _, rfl, ji_M_bad, Or.inl (jm_g6 30 rfl rfl), jm_g6 32 rfl rfl, jm_g0 25 rfl rfl, rfl⟩, fun q => absurd q (by decide)⟩⟩
  · exact ⟨⟨9, 7, 0, 0, .int, rfl, by decide, Or.inl ⟨rfl, rfl⟩, Or.inl ⟨rfl, ⟨_, jn_T9, 50, jn_y9, rfl, by decide, jn_i9, jn_o9, jn_n9, rfl, rfl, by decide +kernel, Or.inl (jm_g5 108 rfl rfl)⟩⟩⟩, trivial⟩
  · exact ⟨trivial, ⟨46, 1, rfl, fun _ => ⟨jp_M_digit, rfl, ji_M_digit, Or.inl (jm_g6 39 rfl rfl), jm_g6 40 rfl rfl⟩, fun q => absurd q (by decide)⟩⟩
  · exact ⟨Or.inl ⟨_, rfl, jm_g6 42 rfl rfl⟩, trivial⟩
  · exact ⟨trivial, ⟨192, 2, rfl, fun _ => ⟨jp_Math_min, rfl, ji_Math_min, Or.inl (jm_g6 43 rfl rfl), jm_g2 225 rfl rfl⟩, fun q => absurd q (by decide)⟩⟩
  · exact ⟨trivial, ⟨47, 1, 9, rfl, fun _ => ⟨by decide, jp_M_expect, _, _, rfl, ji_M_expect, Or.inl (jm_g6 52 rfl rfl), jm_g6 54 rfl rfl, jm_g0 29 rfl rfl, rfl⟩, fun q => absurd q (by decide)⟩⟩
  · exact ⟨⟨9, 13, .array .int, true, rfl, by decide, ⟨_, jn_T9, 50, jn_y9, rfl, by decide, jn_i9, jn_o9, jn_n9, rfl, rfl, by decide +kernel, Or.inl (jm_g5 114 rfl rfl)⟩⟩, trivial⟩
  · exact ⟨trivial, ⟨49, 2, 9, rfl, fun _ => ⟨by decide, jp_M_ranged, _, _, rfl, ji_M_ranged, Or.inl (jm_g6 35 rfl rfl), jm_g6 37 rfl rfl, jm_g0 26 rfl rfl, rfl⟩, fun q => absurd q (by decide)⟩⟩
  · exact ⟨trivial, ⟨43, 1, rfl, fun _ => ⟨jp_M_weekday, rfl, ji_M_weekday, Or.inl (jm_g6 69 rfl rfl), jm_g6 70 rfl rfl⟩, fun q => absurd q (by decide)⟩⟩
  · exact ⟨⟨9, 10, .array (.array .long), true, rfl, by decide, ⟨_, jn_T9, 50, jn_y9, rfl, by decide, jn_i9, jn_o9, jn_n9, rfl, rfl, by decide +kernel, Or.inl (jm_g5 111 rfl rfl)⟩⟩, trivial⟩
  · exact ⟨⟨9, 11, .array (.array .boolean), true, rfl, by decide, ⟨_, jn_T9, 50, jn_y9, rfl, by decide, jn_i9, jn_o9, jn_n9, rfl, rfl, by decide +kernel, Or.inl (jm_g5 112 rfl rfl)⟩⟩, trivial⟩
  · exact ⟨trivial, ⟨54, 1, 9, rfl, fun _ => ⟨by decide, jp_M_readZone, _, _, rfl, ji_M_readZone, Or.inl (jm_g6 22 rfl rfl), jm_g6 24 rfl rfl, jm_g0 23 rfl rfl, rfl⟩, fun q => absurd q (by decide)⟩⟩
  · exact ⟨⟨9, 2, 0, 0, .int, rfl, by decide, Or.inl ⟨rfl, rfl⟩, Or.inl ⟨rfl, ⟨_, jn_T9, 50, jn_y9, rfl, by decide, jn_i9, jn_o9, jn_n9, rfl, rfl, by decide +kernel, Or.inl (jm_g5 103 rfl rfl)⟩⟩⟩, trivial⟩
  · exact ⟨trivial, ⟨48, 0, 9, rfl, fun _ => ⟨by decide, jp_M_blanks, _, _, rfl, ji_M_blanks, Or.inl (jm_g6 44 rfl rfl), jm_g6 46 rfl rfl, jm_g0 27 rfl rfl, rfl⟩, fun q => absurd q (by decide)⟩⟩
  · exact ⟨trivial, ⟨50, 1, 9, rfl, fun _ => ⟨by decide, jp_M_rule, _, _, rfl, ji_M_rule, Or.inl (jm_g6 48 rfl rfl), jm_g6 50 rfl rfl, jm_g0 28 rfl rfl, rfl⟩, fun q => absurd q (by decide)⟩⟩
  · exact ⟨⟨9, 8, .array .int, true, rfl, by decide, ⟨_, jn_T9, 50, jn_y9, rfl, by decide, jn_i9, jn_o9, jn_n9, rfl, rfl, by decide +kernel, Or.inl (jm_g5 109 rfl rfl)⟩⟩, trivial⟩
  · exact ⟨⟨9, 9, .array .int, true, rfl, by decide, ⟨_, jn_T9, 50, jn_y9, rfl, by decide, jn_i9, jn_o9, jn_n9, rfl, rfl, by decide +kernel, Or.inl (jm_g5 110 rfl rfl)⟩⟩, trivial⟩
  · exact ⟨trivial, ⟨51, 2, 9, rfl, fun _ => ⟨by decide, jp_M_ruleDay, _, _, rfl, ji_M_ruleDay, Or.inl (jm_g6 56 rfl rfl), jm_g6 58 rfl rfl, jm_g0 30 rfl rfl, rfl⟩, fun q => absurd q (by decide)⟩⟩
  · exact ⟨⟨_, rfl, jm_g6 73 rfl rfl⟩, trivial⟩
  · exact ⟨⟨_, rfl, jm_g6 74 rfl rfl⟩, trivial⟩
  · exact ⟨trivial, ⟨52, 3, 9, rfl, fun _ => ⟨by decide, jp_M_event, _, _, rfl, ji_M_event, Or.inl (jm_g6 75 rfl rfl), jm_g6 77 rfl rfl, jm_g0 31 rfl rfl, rfl⟩, fun q => absurd q (by decide)⟩⟩
  · exact ⟨trivial, ⟨57, 1, rfl, fun _ => ⟨jp_M_letter, rfl, ji_M_letter, Or.inl (jm_g6 103 rfl rfl), jm_g6 104 rfl rfl⟩, fun q => absurd q (by decide)⟩⟩
  · exact ⟨⟨9, 23, .array (.object "java/lang/String"), true, rfl, by decide, ⟨_, jn_T9, 50, jn_y9, rfl, by decide, jn_i9, jn_o9, jn_n9, rfl, rfl, by decide +kernel, Or.inl (jm_g5 124 rfl rfl)⟩⟩, trivial⟩
  · exact ⟨⟨9, 24, .array (.object "java/lang/String"), true, rfl, by decide, ⟨_, jn_T9, 50, jn_y9, rfl, by decide, jn_i9, jn_o9, jn_n9, rfl, rfl, by decide +kernel, Or.inl (jm_g5 125 rfl rfl)⟩⟩, trivial⟩
  · exact ⟨trivial, ⟨9001, 1, 300, rfl, fun q => absurd q (by decide), fun _ => ⟨rfl, Or.inr ⟨rfl, rfl, jm_g6 106 rfl rfl⟩⟩⟩⟩
  · exact ⟨⟨1, aL, _, _, _, rfl, rfl, F.1, jm_g6 95 rfl rfl⟩, trivial⟩
  · exact ⟨⟨2, aM, _, _, _, rfl, rfl, F.2.1, jm_g6 97 rfl rfl⟩, trivial⟩
  · exact ⟨⟨9, 15, .array (.array .boolean), true, rfl, by decide, ⟨_, jn_T9, 50, jn_y9, rfl, by decide, jn_i9, jn_o9, jn_n9, rfl, rfl, by decide +kernel, Or.inl (jm_g5 116 rfl rfl)⟩⟩, trivial⟩
  · exact ⟨trivial, ⟨58, 1, 9, rfl, fun _ => ⟨by decide, jp_M_value, _, _, rfl, ji_M_value, Or.inl (jm_g6 99 rfl rfl), jm_g6 101 rfl rfl, jm_g0 35 rfl rfl, rfl⟩, fun q => absurd q (by decide)⟩⟩
  · exact ⟨trivial, ⟨60, 2, 9, rfl, fun _ => ⟨by decide, jp_M_special, _, _, rfl, ji_M_special, Or.inl (jm_g6 107 rfl rfl), jm_g6 109 rfl rfl, jm_g0 36 rfl rfl, rfl⟩, fun q => absurd q (by decide)⟩⟩
  · exact ⟨⟨9, 20, 0, 0, .int, rfl, by decide, Or.inl ⟨rfl, rfl⟩, Or.inl ⟨rfl, ⟨_, jn_T9, 50, jn_y9, rfl, by decide, jn_i9, jn_o9, jn_n9, rfl, rfl, by decide +kernel, Or.inl (jm_g5 121 rfl rfl)⟩⟩⟩, trivial⟩
  · exact ⟨⟨9, 21, 0, 0, .int, rfl, by decide, Or.inl ⟨rfl, rfl⟩, Or.inl ⟨rfl, ⟨_, jn_T9, 50, jn_y9, rfl, by decide, jn_i9, jn_o9, jn_n9, rfl, rfl, by decide +kernel, Or.inl (jm_g5 122 rfl rfl)⟩⟩⟩, trivial⟩
  · exact ⟨⟨9, 22, 0, 0, .int, rfl, by decide, Or.inl ⟨rfl, rfl⟩, Or.inl ⟨rfl, ⟨_, jn_T9, 50, jn_y9, rfl, by decide, jn_i9, jn_o9, jn_n9, rfl, rfl, by decide +kernel, Or.inl (jm_g5 123 rfl rfl)⟩⟩⟩, trivial⟩
  · exact ⟨trivial, ⟨59, 1, 9, rfl, fun _ => ⟨by decide, jp_M_items, _, _, rfl, ji_M_items, Or.inl (jm_g6 91 rfl rfl), jm_g6 93 rfl rfl, jm_g0 34 rfl rfl, rfl⟩, fun q => absurd q (by decide)⟩⟩
  · exact ⟨trivial, ⟨61, 1, 9, rfl, fun _ => ⟨by decide, jp_M_field, _, _, rfl, ji_M_field, Or.inl (jm_g6 87 rfl rfl), jm_g6 89 rfl rfl, jm_g0 33 rfl rfl, rfl⟩, fun q => absurd q (by decide)⟩⟩
  · exact ⟨⟨9, 20, .int, false, rfl, by decide, ⟨_, jn_T9, 50, jn_y9, rfl, by decide, jn_i9, jn_o9, jn_n9, rfl, rfl, by decide +kernel, Or.inl (jm_g5 121 rfl rfl)⟩⟩, trivial⟩
  · exact ⟨⟨9, 21, .int, false, rfl, by decide, ⟨_, jn_T9, 50, jn_y9, rfl, by decide, jn_i9, jn_o9, jn_n9, rfl, rfl, by decide +kernel, Or.inl (jm_g5 122 rfl rfl)⟩⟩, trivial⟩
def jl_M_2 : List (Instr × List Nat × Value) := [(.getfield 282, [9, 22], .null), (.getfield 42, [9, 14], .null), (.getfield 54, [9, 17], .null), (.getfield 57, [9, 18], .null), (.getfield 60, [9, 19], .null), (.getfield 48, [9, 16], .null), (.invokevirtual 291, [62, 1, 9], .null), (.ldc_w 294, [], .int 120529), (.invokevirtual 295, [38, 1, 9], .null), (.getfield 111, [9, 25], .null), (.getfield 114, [9, 26], .null), (.invokevirtual 298, [42, 1, 9], .null), (.getfield 197, [9, 6], .null), (.invokevirtual 301, [65, 1, 9], .null), (.ldc2_w 303, [], .long (-1)), (.invokevirtual 305, [55, 2, 9], .null), (.ldc2_w 309, [], .long 1000), (.invokestatic 311, [187, 2], .null), (.ldc2_w 314, [], .long 10413791999), (.ldc2_w 316, [], .long 60), (.invokevirtual 318, [56, 2, 9], .null), (.ldc2_w 321, [], .long 86400), (.invokevirtual 323, [66, 3, 9], .null), (.invokestatic 327, [189, 2], .null), (.invokevirtual 329, [67, 2, 9], .null), (.invokestatic 332, [191, 2], .null), (.ldc2_w 335, [], .long 999), (.invokevirtual 337, [68, 2, 9], .null), (.invokestatic 340, [193, 2], .null), (.ldc2_w 342, [], .long 10413791999999), (.invokevirtual 344, [71, 4, 9], .null), (.invokevirtual 348, [69, 4, 9], .null), (.invokevirtual 352, [70, 4, 9], .null), (.getfield 117, [9, 27], .null), (.getfield 120, [9, 28], .null), (.getfield 123, [9, 29], .null), (.getfield 136, [9, 33], .null), (.getfield 139, [9, 34], .null), (.getfield 142, [9, 35], .null), (.getfield 145, [9, 36], .null), (.getfield 148, [9, 37], .null), (.getfield 130, [9, 31], .null), (.getfield 133, [9, 32], .null), (.getfield 355, [9, 43], .null), (.putfield 355, [9, 43, 1, 0], .null), (.ldc2_w 359, [], .long 1099511627776), (.getfield 361, [9, 41], .null), (.getfield 364, [9, 45], .null), (.invokevirtual 368, [75, 7, 9], .null), (.getfield 151, [9, 38], .null), (.getfield 154, [9, 39], .null), (.getfield 157, [9, 40], .null), (.invokevirtual 372, [78, 1, 9], .null), (.getfield 160, [9, 42], .null), (.invokevirtual 375, [82, 1, 9], .null), (.getfield 127, [9, 30], .null), (.invokevirtual 379, [83, 1, 9], .null), (.invokevirtual 382, [81, 0, 9], .null), (.invokevirtual 385, [84, 0, 9], .null), (.getfield 163, [9, 46], .null)]
theorem js_M_2 (F : jx_SF S dA aL aM adK) (cc : ByteArray) (pc : Nat) : ∀ r ∈ jl_M_2, jx_si S dA (jx_R1 sc aL aM adK) jx_df "JobHouseModel" r.1 r.2.1 r.2.2 ∧ jx_sc S jx_P cc "JobHouseModel" pc r.1 r.2.1 := by
  intro r hr
  simp only [jl_M_2, List.mem_cons, List.not_mem_nil, or_false] at hr
  rcases hr with rfl | rfl | rfl | rfl | rfl | rfl | rfl | rfl | rfl | rfl | rfl | rfl | rfl | rfl | rfl | rfl | rfl | rfl | rfl | rfl | rfl | rfl | rfl | rfl | rfl | rfl | rfl | rfl | rfl | rfl | rfl | rfl | rfl | rfl | rfl | rfl | rfl | rfl | rfl | rfl | rfl | rfl | rfl | rfl | rfl | rfl | rfl | rfl | rfl | rfl | rfl | rfl | rfl | rfl | rfl | rfl | rfl | rfl | rfl | rfl
  · exact ⟨⟨9, 22, .int, false, rfl, by decide, ⟨_, jn_T9, 50, jn_y9, rfl, by decide, jn_i9, jn_o9, jn_n9, rfl, rfl, by decide +kernel, Or.inl (jm_g5 123 rfl rfl)⟩⟩, trivial⟩
  · exact ⟨⟨9, 14, .array (.array (.array .boolean)), true, rfl, by decide, ⟨_, jn_T9, 50, jn_y9, rfl, by decide, jn_i9, jn_o9, jn_n9, rfl, rfl, by decide +kernel, Or.inl (jm_g5 115 rfl rfl)⟩⟩, trivial⟩
  · exact ⟨⟨9, 17, .array (.array .int), true, rfl, by decide, ⟨_, jn_T9, 50, jn_y9, rfl, by decide, jn_i9, jn_o9, jn_n9, rfl, rfl, by decide +kernel, Or.inl (jm_g5 118 rfl rfl)⟩⟩, trivial⟩
  · exact ⟨⟨9, 18, .array (.array .int), true, rfl, by decide, ⟨_, jn_T9, 50, jn_y9, rfl, by decide, jn_i9, jn_o9, jn_n9, rfl, rfl, by decide +kernel, Or.inl (jm_g5 119 rfl rfl)⟩⟩, trivial⟩
  · exact ⟨⟨9, 19, .array (.array .int), true, rfl, by decide, ⟨_, jn_T9, 50, jn_y9, rfl, by decide, jn_i9, jn_o9, jn_n9, rfl, rfl, by decide +kernel, Or.inl (jm_g5 120 rfl rfl)⟩⟩, trivial⟩
  · exact ⟨⟨9, 16, .array .boolean, true, rfl, by decide, ⟨_, jn_T9, 50, jn_y9, rfl, by decide, jn_i9, jn_o9, jn_n9, rfl, rfl, by decide +kernel, Or.inl (jm_g5 117 rfl rfl)⟩⟩, trivial⟩
  · exact ⟨trivial, ⟨62, 1, 9, rfl, fun _ => ⟨by decide, jp_M_readCron, _, _, rfl, ji_M_readCron, Or.inl (jm_g6 83 rfl rfl), jm_g6 85 rfl rfl, jm_g0 32 rfl rfl, rfl⟩, fun q => absurd q (by decide)⟩⟩
  · exact ⟨⟨_, rfl, jm_g6 115 rfl rfl⟩, trivial⟩
  · exact ⟨trivial, ⟨38, 1, 9, rfl, fun _ => ⟨by decide, jp_M_fail, _, _, rfl, ji_M_fail, Or.inl (jm_g6 116 rfl rfl), jm_g6 118 rfl rfl, jm_g0 37 rfl rfl, rfl⟩, fun q => absurd q (by decide)⟩⟩
  · exact ⟨⟨9, 25, .array (.array .boolean), true, rfl, by decide, ⟨_, jn_T9, 50, jn_y9, rfl, by decide, jn_i9, jn_o9, jn_n9, rfl, rfl, by decide +kernel, Or.inl (jm_g5 126 rfl rfl)⟩⟩, trivial⟩
  · exact ⟨⟨9, 26, .array .int, true, rfl, by decide, ⟨_, jn_T9, 50, jn_y9, rfl, by decide, jn_i9, jn_o9, jn_n9, rfl, rfl, by decide +kernel, Or.inl (jm_g5 127 rfl rfl)⟩⟩, trivial⟩
  · exact ⟨trivial, ⟨42, 1, 9, rfl, fun _ => ⟨by decide, jp_M_date, _, _, rfl, ji_M_date, Or.inl (jm_g6 151 rfl rfl), jm_g6 153 rfl rfl, jm_g0 43 rfl rfl, rfl⟩, fun q => absurd q (by decide)⟩⟩
  · exact ⟨⟨9, 6, .int, false, rfl, by decide, ⟨_, jn_T9, 50, jn_y9, rfl, by decide, jn_i9, jn_o9, jn_n9, rfl, rfl, by decide +kernel, Or.inl (jm_g5 107 rfl rfl)⟩⟩, trivial⟩
  · exact ⟨trivial, ⟨65, 1, 9, rfl, fun _ => ⟨by decide, jp_M_special2, _, _, rfl, ji_M_special2, Or.inl (jm_g6 156 rfl rfl), jm_g6 158 rfl rfl, jm_g0 44 rfl rfl, rfl⟩, fun q => absurd q (by decide)⟩⟩
  · exact ⟨⟨_, rfl, jm_g6 133 rfl rfl⟩, trivial⟩
  · exact ⟨trivial, ⟨55, 2, 9, rfl, fun _ => ⟨by decide, jp_M_passed, _, _, rfl, ji_M_passed, Or.inl (jm_g6 134 rfl rfl), jm_g6 136 rfl rfl, jm_g0 40 rfl rfl, rfl⟩, fun q => absurd q (by decide)⟩⟩
  · exact ⟨⟨_, rfl, jm_g6 138 rfl rfl⟩, trivial⟩
  · exact ⟨trivial, ⟨187, 2, rfl, fun _ => ⟨jp_Math_floorDiv2, rfl, ji_Math_floorDiv2, Or.inl (jm_g6 139 rfl rfl), jm_g3 200 rfl rfl⟩, fun q => absurd q (by decide)⟩⟩
  · exact ⟨⟨_, rfl, jm_g6 140 rfl rfl⟩, trivial⟩
  · exact ⟨⟨_, rfl, jm_g6 141 rfl rfl⟩, trivial⟩
  · exact ⟨trivial, ⟨56, 2, 9, rfl, fun _ => ⟨by decide, jp_M_minutes, _, _, rfl, ji_M_minutes, Or.inl (jm_g6 142 rfl rfl), jm_g6 144 rfl rfl, jm_g0 41 rfl rfl, rfl⟩, fun q => absurd q (by decide)⟩⟩
  · exact ⟨⟨_, rfl, jm_g6 146 rfl rfl⟩, trivial⟩
  · exact ⟨trivial, ⟨66, 3, 9, rfl, fun _ => ⟨by decide, jp_M_dayFits, _, _, rfl, ji_M_dayFits, Or.inl (jm_g6 147 rfl rfl), jm_g6 149 rfl rfl, jm_g0 42 rfl rfl, rfl⟩, fun q => absurd q (by decide)⟩⟩
  · exact ⟨trivial, ⟨189, 2, rfl, fun _ => ⟨jp_Math_floorMod2, rfl, ji_Math_floorMod2, Or.inl (jm_g6 160 rfl rfl), jm_g4 118 rfl rfl⟩, fun q => absurd q (by decide)⟩⟩
  · exact ⟨trivial, ⟨67, 2, 9, rfl, fun _ => ⟨by decide, jp_M_secondFrom, _, _, rfl, ji_M_secondFrom, Or.inl (jm_g6 161 rfl rfl), jm_g6 163 rfl rfl, jm_g0 45 rfl rfl, rfl⟩, fun q => absurd q (by decide)⟩⟩
  · exact ⟨trivial, ⟨191, 2, rfl, fun _ => ⟨jp_Math_max2, rfl, ji_Math_max2, Or.inl (jm_g6 165 rfl rfl), jm_g4 1 rfl rfl⟩, fun q => absurd q (by decide)⟩⟩
  · exact ⟨⟨_, rfl, jm_g6 174 rfl rfl⟩, trivial⟩
  · exact ⟨trivial, ⟨68, 2, 9, rfl, fun _ => ⟨by decide, jp_M_secondTo, _, _, rfl, ji_M_secondTo, Or.inl (jm_g6 175 rfl rfl), jm_g6 177 rfl rfl, jm_g0 47 rfl rfl, rfl⟩, fun q => absurd q (by decide)⟩⟩
  · exact ⟨trivial, ⟨193, 2, rfl, fun _ => ⟨jp_Math_min2, rfl, ji_Math_min2, Or.inl (jm_g6 179 rfl rfl), jm_g4 4 rfl rfl⟩, fun q => absurd q (by decide)⟩⟩
  · exact ⟨⟨_, rfl, jm_g6 128 rfl rfl⟩, trivial⟩
  · exact ⟨trivial, ⟨71, 4, 9, rfl, fun _ => ⟨by decide, jp_M_badFire, _, _, rfl, ji_M_badFire, Or.inl (jm_g6 124 rfl rfl), jm_g6 126 rfl rfl, jm_g0 38 rfl rfl, rfl⟩, fun q => absurd q (by decide)⟩⟩
  · exact ⟨trivial, ⟨69, 4, 9, rfl, fun _ => ⟨by decide, jp_M_nextFire, _, _, rfl, ji_M_nextFire, Or.inl (jm_g6 129 rfl rfl), jm_g6 131 rfl rfl, jm_g0 39 rfl rfl, rfl⟩, fun q => absurd q (by decide)⟩⟩
  · exact ⟨trivial, ⟨70, 4, 9, rfl, fun _ => ⟨by decide, jp_M_lastFire, _, _, rfl, ji_M_lastFire, Or.inl (jm_g6 170 rfl rfl), jm_g6 172 rfl rfl, jm_g0 46 rfl rfl, rfl⟩, fun q => absurd q (by decide)⟩⟩
  · exact ⟨⟨9, 27, .array .int, true, rfl, by decide, ⟨_, jn_T9, 50, jn_y9, rfl, by decide, jn_i9, jn_o9, jn_n9, rfl, rfl, by decide +kernel, Or.inl (jm_g5 128 rfl rfl)⟩⟩, trivial⟩
  · exact ⟨⟨9, 28, .array .int, true, rfl, by decide, ⟨_, jn_T9, 50, jn_y9, rfl, by decide, jn_i9, jn_o9, jn_n9, rfl, rfl, by decide +kernel, Or.inl (jm_g5 129 rfl rfl)⟩⟩, trivial⟩
  · exact ⟨⟨9, 29, .array .long, true, rfl, by decide, ⟨_, jn_T9, 50, jn_y9, rfl, by decide, jn_i9, jn_o9, jn_n9, rfl, rfl, by decide +kernel, Or.inl (jm_g5 130 rfl rfl)⟩⟩, trivial⟩
  · exact ⟨⟨9, 33, .array .long, true, rfl, by decide, ⟨_, jn_T9, 50, jn_y9, rfl, by decide, jn_i9, jn_o9, jn_n9, rfl, rfl, by decide +kernel, Or.inl (jm_g5 134 rfl rfl)⟩⟩, trivial⟩
  · exact ⟨⟨9, 34, .array .long, true, rfl, by decide, ⟨_, jn_T9, 50, jn_y9, rfl, by decide, jn_i9, jn_o9, jn_n9, rfl, rfl, by decide +kernel, Or.inl (jm_g5 135 rfl rfl)⟩⟩, trivial⟩
  · exact ⟨⟨9, 35, .array .int, true, rfl, by decide, ⟨_, jn_T9, 50, jn_y9, rfl, by decide, jn_i9, jn_o9, jn_n9, rfl, rfl, by decide +kernel, Or.inl (jm_g5 136 rfl rfl)⟩⟩, trivial⟩
  · exact ⟨⟨9, 36, .array .int, true, rfl, by decide, ⟨_, jn_T9, 50, jn_y9, rfl, by decide, jn_i9, jn_o9, jn_n9, rfl, rfl, by decide +kernel, Or.inl (jm_g5 137 rfl rfl)⟩⟩, trivial⟩
  · exact ⟨⟨9, 37, .array .int, true, rfl, by decide, ⟨_, jn_T9, 50, jn_y9, rfl, by decide, jn_i9, jn_o9, jn_n9, rfl, rfl, by decide +kernel, Or.inl (jm_g5 138 rfl rfl)⟩⟩, trivial⟩
  · exact ⟨⟨9, 31, .array .long, true, rfl, by decide, ⟨_, jn_T9, 50, jn_y9, rfl, by decide, jn_i9, jn_o9, jn_n9, rfl, rfl, by decide +kernel, Or.inl (jm_g5 132 rfl rfl)⟩⟩, trivial⟩
  · exact ⟨⟨9, 32, .array .long, true, rfl, by decide, ⟨_, jn_T9, 50, jn_y9, rfl, by decide, jn_i9, jn_o9, jn_n9, rfl, rfl, by decide +kernel, Or.inl (jm_g5 133 rfl rfl)⟩⟩, trivial⟩
  · exact ⟨⟨9, 43, .long, false, rfl, by decide, ⟨_, jn_T9, 50, jn_y9, rfl, by decide, jn_i9, jn_o9, jn_n9, rfl, rfl, by decide +kernel, Or.inl (jm_g5 144 rfl rfl)⟩⟩, trivial⟩
  · exact ⟨⟨9, 43, 1, 0, .long, rfl, by decide, Or.inr (Or.inl ⟨rfl, rfl⟩), Or.inl ⟨rfl, ⟨_, jn_T9, 50, jn_y9, rfl, by decide, jn_i9, jn_o9, jn_n9, rfl, rfl, by decide +kernel, Or.inl (jm_g5 144 rfl rfl)⟩⟩⟩, trivial⟩
  · exact ⟨⟨_, rfl, jm_g6 188 rfl rfl⟩, trivial⟩
  · exact ⟨⟨9, 41, .long, false, rfl, by decide, ⟨_, jn_T9, 50, jn_y9, rfl, by decide, jn_i9, jn_o9, jn_n9, rfl, rfl, by decide +kernel, Or.inl (jm_g5 142 rfl rfl)⟩⟩, trivial⟩
  · exact ⟨⟨9, 45, .boolean, false, rfl, by decide, ⟨_, jn_T9, 50, jn_y9, rfl, by decide, jn_i9, jn_o9, jn_n9, rfl, rfl, by decide +kernel, Or.inl (jm_g5 146 rfl rfl)⟩⟩, trivial⟩
  · exact ⟨trivial, ⟨75, 7, 9, rfl, fun _ => ⟨by decide, jp_M_enter, _, _, rfl, ji_M_enter, Or.inl (jm_g6 189 rfl rfl), jm_g6 191 rfl rfl, jm_g0 48 rfl rfl, rfl⟩, fun q => absurd q (by decide)⟩⟩
  · exact ⟨⟨9, 38, .array .int, true, rfl, by decide, ⟨_, jn_T9, 50, jn_y9, rfl, by decide, jn_i9, jn_o9, jn_n9, rfl, rfl, by decide +kernel, Or.inl (jm_g5 139 rfl rfl)⟩⟩, trivial⟩
  · exact ⟨⟨9, 39, .array .int, true, rfl, by decide, ⟨_, jn_T9, 50, jn_y9, rfl, by decide, jn_i9, jn_o9, jn_n9, rfl, rfl, by decide +kernel, Or.inl (jm_g5 140 rfl rfl)⟩⟩, trivial⟩
  · exact ⟨⟨9, 40, .array .int, true, rfl, by decide, ⟨_, jn_T9, 50, jn_y9, rfl, by decide, jn_i9, jn_o9, jn_n9, rfl, rfl, by decide +kernel, Or.inl (jm_g5 141 rfl rfl)⟩⟩, trivial⟩
  · exact ⟨trivial, ⟨78, 1, 9, rfl, fun _ => ⟨by decide, jp_M_none, _, _, rfl, ji_M_none, Or.inl (jm_g6 201 rfl rfl), jm_g6 203 rfl rfl, jm_g0 49 rfl rfl, rfl⟩, fun q => absurd q (by decide)⟩⟩
  · exact ⟨⟨9, 42, .int, false, rfl, by decide, ⟨_, jn_T9, 50, jn_y9, rfl, by decide, jn_i9, jn_o9, jn_n9, rfl, rfl, by decide +kernel, Or.inl (jm_g5 143 rfl rfl)⟩⟩, trivial⟩
  · exact ⟨trivial, ⟨82, 1, 9, rfl, fun _ => ⟨by decide, jp_M_following, _, _, rfl, ji_M_following, Or.inl (jm_g6 222 rfl rfl), jm_g6 224 rfl rfl, jm_g0 52 rfl rfl, rfl⟩, fun q => absurd q (by decide)⟩⟩
  · exact ⟨⟨9, 30, .array .long, true, rfl, by decide, ⟨_, jn_T9, 50, jn_y9, rfl, by decide, jn_i9, jn_o9, jn_n9, rfl, rfl, by decide +kernel, Or.inl (jm_g5 131 rfl rfl)⟩⟩, trivial⟩
  · exact ⟨trivial, ⟨83, 1, 9, rfl, fun _ => ⟨by decide, jp_M_free, _, _, rfl, ji_M_free, Or.inl (jm_g6 218 rfl rfl), jm_g6 220 rfl rfl, jm_g0 51 rfl rfl, rfl⟩, fun q => absurd q (by decide)⟩⟩
  · exact ⟨trivial, ⟨81, 0, 9, rfl, fun _ => ⟨by decide, jp_M_running, _, _, rfl, ji_M_running, Or.inl (jm_g6 226 rfl rfl), jm_g6 228 rfl rfl, jm_g0 53 rfl rfl, rfl⟩, fun q => absurd q (by decide)⟩⟩
  · exact ⟨trivial, ⟨84, 0, 9, rfl, fun _ => ⟨by decide, jp_M_first, _, _, rfl, ji_M_first, Or.inl (jm_g6 230 rfl rfl), jm_g6 232 rfl rfl, jm_g0 54 rfl rfl, rfl⟩, fun q => absurd q (by decide)⟩⟩
  · exact ⟨⟨9, 46, .array .long, true, rfl, by decide, ⟨_, jn_T9, 50, jn_y9, rfl, by decide, jn_i9, jn_o9, jn_n9, rfl, rfl, by decide +kernel, Or.inl (jm_g5 147 rfl rfl)⟩⟩, trivial⟩
def jl_M_3 : List (Instr × List Nat × Value) := [(.getfield 387, [9, 49], .null), (.getfield 166, [9, 47], .null), (.getfield 169, [9, 48], .null), (.putfield 387, [9, 49, 0, 0], .null), (.getfield 390, [9, 44], .null), (.putfield 390, [9, 44, 1, 0], .null), (.ldc2_w 393, [], .long 8796093022208), (.invokevirtual 395, [85, 0, 9], .null), (.putfield 361, [9, 41, 1, 0], .null), (.putfield 364, [9, 45, 2, 0], .null), (.invokevirtual 399, [88, 0, 9], .null), (.getfield 13, [9, 3], .null)]
theorem js_M_3 (F : jx_SF S dA aL aM adK) (cc : ByteArray) (pc : Nat) : ∀ r ∈ jl_M_3, jx_si S dA (jx_R1 sc aL aM adK) jx_df "JobHouseModel" r.1 r.2.1 r.2.2 ∧ jx_sc S jx_P cc "JobHouseModel" pc r.1 r.2.1 := by
  intro r hr
  simp only [jl_M_3, List.mem_cons, List.not_mem_nil, or_false] at hr
  rcases hr with rfl | rfl | rfl | rfl | rfl | rfl | rfl | rfl | rfl | rfl | rfl | rfl
  · exact ⟨⟨9, 49, .int, false, rfl, by decide, ⟨_, jn_T9, 50, jn_y9, rfl, by decide, jn_i9, jn_o9, jn_n9, rfl, rfl, by decide +kernel, Or.inl (jm_g5 150 rfl rfl)⟩⟩, trivial⟩
  · exact ⟨⟨9, 47, .array .int, true, rfl, by decide, ⟨_, jn_T9, 50, jn_y9, rfl, by decide, jn_i9, jn_o9, jn_n9, rfl, rfl, by decide +kernel, Or.inl (jm_g5 148 rfl rfl)⟩⟩, trivial⟩
  · exact ⟨⟨9, 48, .array .long, true, rfl, by decide, ⟨_, jn_T9, 50, jn_y9, rfl, by decide, jn_i9, jn_o9, jn_n9, rfl, rfl, by decide +kernel, Or.inl (jm_g5 149 rfl rfl)⟩⟩, trivial⟩
  · exact ⟨⟨9, 49, 0, 0, .int, rfl, by decide, Or.inl ⟨rfl, rfl⟩, Or.inl ⟨rfl, ⟨_, jn_T9, 50, jn_y9, rfl, by decide, jn_i9, jn_o9, jn_n9, rfl, rfl, by decide +kernel, Or.inl (jm_g5 150 rfl rfl)⟩⟩⟩, trivial⟩
  · exact ⟨⟨9, 44, .long, false, rfl, by decide, ⟨_, jn_T9, 50, jn_y9, rfl, by decide, jn_i9, jn_o9, jn_n9, rfl, rfl, by decide +kernel, Or.inl (jm_g5 145 rfl rfl)⟩⟩, trivial⟩
  · exact ⟨⟨9, 44, 1, 0, .long, rfl, by decide, Or.inr (Or.inl ⟨rfl, rfl⟩), Or.inl ⟨rfl, ⟨_, jn_T9, 50, jn_y9, rfl, by decide, jn_i9, jn_o9, jn_n9, rfl, rfl, by decide +kernel, Or.inl (jm_g5 145 rfl rfl)⟩⟩⟩, trivial⟩
  · exact ⟨⟨_, rfl, jm_g6 213 rfl rfl⟩, trivial⟩
  · exact ⟨trivial, ⟨85, 0, 9, rfl, fun _ => ⟨by decide, jp_M_work, _, _, rfl, ji_M_work, Or.inl (jm_g6 214 rfl rfl), jm_g6 216 rfl rfl, jm_g0 50 rfl rfl, rfl⟩, fun q => absurd q (by decide)⟩⟩
  · exact ⟨⟨9, 41, 1, 0, .long, rfl, by decide, Or.inr (Or.inl ⟨rfl, rfl⟩), Or.inl ⟨rfl, ⟨_, jn_T9, 50, jn_y9, rfl, by decide, jn_i9, jn_o9, jn_n9, rfl, rfl, by decide +kernel, Or.inl (jm_g5 142 rfl rfl)⟩⟩⟩, trivial⟩
  · exact ⟨⟨9, 45, 2, 0, .boolean, rfl, by decide, Or.inr (Or.inr (Or.inl ⟨rfl, rfl⟩)), Or.inl ⟨rfl, ⟨_, jn_T9, 50, jn_y9, rfl, by decide, jn_i9, jn_o9, jn_n9, rfl, rfl, by decide +kernel, Or.inl (jm_g5 146 rfl rfl)⟩⟩⟩, trivial⟩
  · exact ⟨trivial, ⟨88, 0, 9, rfl, fun _ => ⟨by decide, jp_M_there, _, _, rfl, ji_M_there, Or.inl (jm_g7 2 rfl rfl), jm_g7 4 rfl rfl, jm_g0 55 rfl rfl, rfl⟩, fun q => absurd q (by decide)⟩⟩
  · exact ⟨⟨9, 3, .int, false, rfl, by decide, ⟨_, jn_T9, 50, jn_y9, rfl, by decide, jn_i9, jn_o9, jn_n9, rfl, rfl, by decide +kernel, Or.inl (jm_g5 104 rfl rfl)⟩⟩, trivial⟩
def jl_M : List (Instr × List Nat × Value) := jl_M_0 ++ jl_M_1 ++ jl_M_2 ++ jl_M_3
theorem js_M (F : jx_SF S dA aL aM adK) (cc : ByteArray) (pc : Nat) : ∀ r ∈ jl_M, jx_si S dA (jx_R1 sc aL aM adK) jx_df "JobHouseModel" r.1 r.2.1 r.2.2 ∧ jx_sc S jx_P cc "JobHouseModel" pc r.1 r.2.1 := by
  intro r hr
  simp only [jl_M, List.mem_append] at hr
  rcases hr with ((h0 | h1) | h2) | h3
  · exact js_M_0 F cc pc r h0
  · exact js_M_1 F cc pc r h1
  · exact js_M_2 F cc pc r h2
  · exact js_M_3 F cc pc r h3
def jl_C_0 : List (Instr × List Nat × Value) := [(.invokespecial 3, [9003, 0], .null), (.newarray .long, [3], .null), (.putfield 11, [4, 0, 4, 1], .null), (.getfield 11, [4, 0], .null), (.putfield 15, [4, 1, 0, 0], .null), (.getfield 15, [4, 1], .null), (.invokestatic 19, [106, 1], .null), (.invokevirtual 23, [103, 1, 4], .null), (.getfield 26, [4, 3], .null), (.invokestatic 29, [105, 2], .null), (.invokestatic 33, [104, 3], .null), (.getfield 37, [4, 2], .null), (.invokestatic 40, [188, 2], .null), (.ldc2_w 46, [], .long 254), (.invokestatic 48, [109, 2], .null), (.invokestatic 52, [110, 2], .null), (.invokestatic 55, [185, 1], .null)]
theorem js_C_0 (F : jx_SF S dA aL aM adK) (cc : ByteArray) (pc : Nat) : ∀ r ∈ jl_C_0, jx_si S dA (jx_R1 sc aL aM adK) jx_df "JobHouse$Cron" r.1 r.2.1 r.2.2 ∧ jx_sc S jx_P cc "JobHouse$Cron" pc r.1 r.2.1 := by
  intro r hr
  simp only [jl_C_0, List.mem_cons, List.not_mem_nil, or_false] at hr
  rcases hr with rfl | rfl | rfl | rfl | rfl | rfl | rfl | rfl | rfl | rfl | rfl | rfl | rfl | rfl | rfl | rfl | rfl
  · exact ⟨trivial, ⟨9003, 0, rfl, fun q => absurd q (by decide), fun _ => ⟨rfl, rfl, jm_g1 90 rfl rfl, jm_g1 34 rfl rfl, jm_g1 35 rfl rfl⟩⟩⟩
  · exact ⟨⟨3, _, rfl, by decide, rfl, rfl, jm_g1 107 rfl rfl⟩, trivial⟩
  · exact ⟨⟨4, 0, 4, 1, .array .long, rfl, by decide, Or.inr (Or.inr (Or.inr ⟨rfl, Or.inr ⟨_, rfl⟩⟩)), Or.inr ⟨rfl, ⟨jn_T4, 4, jn_y4, rfl, by decide, jn_i4, jn_o4, jn_n4, rfl, rfl, by decide +kernel, jm_g1 91 rfl rfl⟩⟩⟩, trivial⟩
  · exact ⟨⟨4, 0, .array .long, true, rfl, by decide, ⟨_, jn_T4, 4, jn_y4, rfl, by decide, jn_i4, jn_o4, jn_n4, rfl, rfl, by decide +kernel, Or.inl (jm_g1 91 rfl rfl)⟩⟩, trivial⟩
  · exact ⟨⟨4, 1, 0, 0, .int, rfl, by decide, Or.inl ⟨rfl, rfl⟩, Or.inl ⟨rfl, ⟨_, jn_T4, 4, jn_y4, rfl, by decide, jn_i4, jn_o4, jn_n4, rfl, rfl, by decide +kernel, Or.inl (jm_g1 93 rfl rfl)⟩⟩⟩, trivial⟩
  · exact ⟨⟨4, 1, .int, false, rfl, by decide, ⟨_, jn_T4, 4, jn_y4, rfl, by decide, jn_i4, jn_o4, jn_n4, rfl, rfl, by decide +kernel, Or.inl (jm_g1 93 rfl rfl)⟩⟩, trivial⟩
  · exact ⟨trivial, ⟨106, 1, rfl, fun _ => ⟨jp_C_bitsUpTo, rfl, ji_C_bitsUpTo, Or.inl (jm_g4 39 rfl rfl), jm_g4 40 rfl rfl⟩, fun q => absurd q (by decide)⟩⟩
  · exact ⟨trivial, ⟨103, 1, 4, rfl, fun _ => ⟨by decide, jp_C_weekdaysFrom, _, _, rfl, ji_C_weekdaysFrom, Or.inl (jm_g4 42 rfl rfl), jm_g4 44 rfl rfl, jm_g0 7 rfl rfl, rfl⟩, fun q => absurd q (by decide)⟩⟩
  · exact ⟨⟨4, 3, .int, false, rfl, by decide, ⟨_, jn_T4, 4, jn_y4, rfl, by decide, jn_i4, jn_o4, jn_n4, rfl, rfl, by decide +kernel, Or.inl (jm_g1 97 rfl rfl)⟩⟩, trivial⟩
  · exact ⟨trivial, ⟨105, 2, rfl, fun _ => ⟨jp_C_bitOf, rfl, ji_C_bitOf, Or.inl (jm_g4 47 rfl rfl), jm_g4 48 rfl rfl⟩, fun q => absurd q (by decide)⟩⟩
  · exact ⟨trivial, ⟨104, 3, rfl, fun _ => ⟨jp_C_workdayNearest, rfl, ji_C_workdayNearest, Or.inl (jm_g4 50 rfl rfl), jm_g4 51 rfl rfl⟩, fun q => absurd q (by decide)⟩⟩
  · exact ⟨⟨4, 2, .int, false, rfl, by decide, ⟨_, jn_T4, 4, jn_y4, rfl, by decide, jn_i4, jn_o4, jn_n4, rfl, rfl, by decide +kernel, Or.inl (jm_g1 94 rfl rfl)⟩⟩, trivial⟩
  · exact ⟨trivial, ⟨188, 2, rfl, fun _ => ⟨jp_Math_floorMod, rfl, ji_Math_floorMod, Or.inl (jm_g4 53 rfl rfl), jm_g3 227 rfl rfl⟩, fun q => absurd q (by decide)⟩⟩
  · exact ⟨⟨_, rfl, jm_g4 46 rfl rfl⟩, trivial⟩
  · exact ⟨trivial, ⟨109, 2, rfl, fun _ => ⟨jp_C_lowestBit, rfl, ji_C_lowestBit, Or.inl (jm_g4 69 rfl rfl), jm_g4 55 rfl rfl⟩, fun q => absurd q (by decide)⟩⟩
  · exact ⟨trivial, ⟨110, 2, rfl, fun _ => ⟨jp_C_highestBit, rfl, ji_C_highestBit, Or.inl (jm_g4 104 rfl rfl), jm_g4 98 rfl rfl⟩, fun q => absurd q (by decide)⟩⟩
  · exact ⟨trivial, ⟨185, 1, rfl, fun _ => ⟨jp_Long_bitCount, rfl, ji_Long_bitCount, Or.inl (jm_g4 57 rfl rfl), jm_g4 58 rfl rfl⟩, fun q => absurd q (by decide)⟩⟩
def jl_C : List (Instr × List Nat × Value) := jl_C_0
theorem js_C (F : jx_SF S dA aL aM adK) (cc : ByteArray) (pc : Nat) : ∀ r ∈ jl_C, jx_si S dA (jx_R1 sc aL aM adK) jx_df "JobHouse$Cron" r.1 r.2.1 r.2.2 ∧ jx_sc S jx_P cc "JobHouse$Cron" pc r.1 r.2.1 := by
  intro r hr
  exact js_C_0 F cc pc r hr
def jl_CR_0 : List (Instr × List Nat × Value) := [(.invokevirtual 9, [98, 0, 4], .null), (.invokestatic 14, [114, 3], .null), (.invokevirtual 20, [153, 0, 1], .null), (.invokestatic 25, [112, 2], .null), (.invokestatic 29, [113, 2], .null), (.invokevirtual 32, [149, 0, 1], .null), (.invokestatic 36, [119, 5], .null), (.invokevirtual 40, [154, 0, 1], .null), (.invokevirtual 43, [151, 1, 1], .null), (.putfield 47, [4, 1, 0, 0], .null), (.invokevirtual 51, [155, 2, 1], .null), (.putfield 55, [4, 3, 0, 0], .null), (.getfield 47, [4, 1], .null), (.invokevirtual 58, [152, 1, 1], .null), (.invokevirtual 62, [99, 2, 4], .null), (.invokestatic 66, [115, 4], .null), (.invokestatic 70, [96, 1], .null), (.invokestatic 74, [97, 1], .null), (.invokestatic 77, [116, 2], .null), (.invokestatic 81, [118, 4], .null), (.invokevirtual 85, [150, 0, 1], .null), (.invokestatic 89, [117, 3], .null), (.ldc 93, [], .ref 3), (.invokevirtual 95, [156, 1, 1], .null), (.ldc 99, [], .ref 4), (.getfield 101, [1, 2], .null), (.invokevirtual 104, [148, 1, 1], .null), (.putfield 107, [4, 2, 0, 0], .null), (.invokestatic 110, [190, 2], .null)]
theorem js_CR_0 (F : jx_SF S dA aL aM adK) (cc : ByteArray) (pc : Nat) : ∀ r ∈ jl_CR_0, jx_si S dA (jx_R1 sc aL aM adK) jx_df "JobHouse$CronReader" r.1 r.2.1 r.2.2 ∧ jx_sc S jx_P cc "JobHouse$CronReader" pc r.1 r.2.1 := by
  intro r hr
  simp only [jl_CR_0, List.mem_cons, List.not_mem_nil, or_false] at hr
  rcases hr with rfl | rfl | rfl | rfl | rfl | rfl | rfl | rfl | rfl | rfl | rfl | rfl | rfl | rfl | rfl | rfl | rfl | rfl | rfl | rfl | rfl | rfl | rfl | rfl | rfl | rfl | rfl | rfl | rfl
  · exact ⟨trivial, ⟨98, 0, 4, rfl, fun _ => ⟨by decide, jp_C_clear, _, _, rfl, ji_C_clear, Or.inl (jm_g3 37 rfl rfl), jm_g3 38 rfl rfl, jm_g3 39 rfl rfl, rfl⟩, fun q => absurd q (by decide)⟩⟩
  · exact ⟨trivial, ⟨114, 3, rfl, fun _ => ⟨jp_CR_readItems, rfl, ji_CR_readItems, Or.inl (jm_g3 41 rfl rfl), jm_g3 42 rfl rfl⟩, fun q => absurd q (by decide)⟩⟩
  · exact ⟨trivial, ⟨153, 0, 1, rfl, fun _ => ⟨by decide, jp_T_requireBlanks, _, _, rfl, ji_T_requireBlanks, Or.inl (jm_g3 130 rfl rfl), jm_g2 232 rfl rfl, jm_g2 233 rfl rfl, rfl⟩, fun q => absurd q (by decide)⟩⟩
  · exact ⟨trivial, ⟨112, 2, rfl, fun _ => ⟨jp_CR_takeDayRule, rfl, ji_CR_takeDayRule, Or.inl (jm_g3 131 rfl rfl), jm_g3 132 rfl rfl⟩, fun q => absurd q (by decide)⟩⟩
  · exact ⟨trivial, ⟨113, 2, rfl, fun _ => ⟨jp_CR_takeWeekdayRule, rfl, ji_CR_takeWeekdayRule, Or.inl (jm_g3 134 rfl rfl), jm_g3 135 rfl rfl⟩, fun q => absurd q (by decide)⟩⟩
  · exact ⟨trivial, ⟨149, 0, 1, rfl, fun _ => ⟨by decide, jp_T_isDone, _, _, rfl, ji_T_isDone, Or.inl (jm_g3 138 rfl rfl), jm_g2 228 rfl rfl, jm_g2 229 rfl rfl, rfl⟩, fun q => absurd q (by decide)⟩⟩
  · exact ⟨trivial, ⟨119, 5, rfl, fun _ => ⟨jp_CR_addSome, rfl, ji_CR_addSome, Or.inl (jm_g3 120 rfl rfl), jm_g3 121 rfl rfl⟩, fun q => absurd q (by decide)⟩⟩
  · exact ⟨trivial, ⟨154, 0, 1, rfl, fun _ => ⟨by decide, jp_T_requireEnd, _, _, rfl, ji_T_requireEnd, Or.inl (jm_g3 139 rfl rfl), jm_g3 3 rfl rfl, jm_g3 4 rfl rfl, rfl⟩, fun q => absurd q (by decide)⟩⟩
  · exact ⟨trivial, ⟨151, 1, 1, rfl, fun _ => ⟨by decide, jp_T_take, _, _, rfl, ji_T_take, Or.inl (jm_g3 53 rfl rfl), jm_g2 200 rfl rfl, jm_g2 201 rfl rfl, rfl⟩, fun q => absurd q (by decide)⟩⟩
  · exact ⟨⟨4, 1, 0, 0, .int, rfl, by decide, Or.inl ⟨rfl, rfl⟩, Or.inl ⟨rfl, ⟨_, jn_T4, 4, jn_y4, rfl, by decide, jn_i4, jn_o4, jn_n4, rfl, rfl, by decide +kernel, Or.inr ⟨_, jm_g1 92 rfl rfl⟩⟩⟩⟩, trivial⟩
  · exact ⟨trivial, ⟨155, 2, 1, rfl, fun _ => ⟨by decide, jp_T_number, _, _, rfl, ji_T_number, Or.inl (jm_g3 111 rfl rfl), jm_g2 217 rfl rfl, jm_g2 218 rfl rfl, rfl⟩, fun q => absurd q (by decide)⟩⟩
  · exact ⟨⟨4, 3, 0, 0, .int, rfl, by decide, Or.inl ⟨rfl, rfl⟩, Or.inl ⟨rfl, ⟨_, jn_T4, 4, jn_y4, rfl, by decide, jn_i4, jn_o4, jn_n4, rfl, rfl, by decide +kernel, Or.inr ⟨_, jm_g1 96 rfl rfl⟩⟩⟩⟩, trivial⟩
  · exact ⟨⟨4, 1, .int, false, rfl, by decide, ⟨_, jn_T4, 4, jn_y4, rfl, by decide, jn_i4, jn_o4, jn_n4, rfl, rfl, by decide +kernel, Or.inr ⟨_, jm_g1 92 rfl rfl⟩⟩⟩, trivial⟩
  · exact ⟨trivial, ⟨152, 1, 1, rfl, fun _ => ⟨by decide, jp_T_require, _, _, rfl, ji_T_require, Or.inl (jm_g3 137 rfl rfl), jm_g2 208 rfl rfl, jm_g2 209 rfl rfl, rfl⟩, fun q => absurd q (by decide)⟩⟩
  · exact ⟨trivial, ⟨99, 2, 4, rfl, fun _ => ⟨by decide, jp_C_add, _, _, rfl, ji_C_add, Or.inl (jm_g3 123 rfl rfl), jm_g3 124 rfl rfl, jm_g3 125 rfl rfl, rfl⟩, fun q => absurd q (by decide)⟩⟩
  · exact ⟨trivial, ⟨115, 4, rfl, fun _ => ⟨jp_CR_readItem, rfl, ji_CR_readItem, Or.inl (jm_g3 44 rfl rfl), jm_g3 45 rfl rfl⟩, fun q => absurd q (by decide)⟩⟩
  · exact ⟨trivial, ⟨96, 1, rfl, fun _ => ⟨jp_C_lowest, rfl, ji_C_lowest, Or.inl (jm_g3 47 rfl rfl), jm_g3 48 rfl rfl⟩, fun q => absurd q (by decide)⟩⟩
  · exact ⟨trivial, ⟨97, 1, rfl, fun _ => ⟨jp_C_highest, rfl, ji_C_highest, Or.inl (jm_g3 50 rfl rfl), jm_g3 51 rfl rfl⟩, fun q => absurd q (by decide)⟩⟩
  · exact ⟨trivial, ⟨116, 2, rfl, fun _ => ⟨jp_CR_readValue, rfl, ji_CR_readValue, Or.inl (jm_g3 54 rfl rfl), jm_g3 55 rfl rfl⟩, fun q => absurd q (by decide)⟩⟩
  · exact ⟨trivial, ⟨118, 4, rfl, fun _ => ⟨jp_CR_takeSign, rfl, ji_CR_takeSign, Or.inl (jm_g3 112 rfl rfl), jm_g3 113 rfl rfl⟩, fun q => absurd q (by decide)⟩⟩
  · exact ⟨trivial, ⟨150, 0, 1, rfl, fun _ => ⟨by decide, jp_T_peek, _, _, rfl, ji_T_peek, Or.inl (jm_g3 115 rfl rfl), jm_g2 204 rfl rfl, jm_g2 205 rfl rfl, rfl⟩, fun q => absurd q (by decide)⟩⟩
  · exact ⟨trivial, ⟨117, 3, rfl, fun _ => ⟨jp_CR_readUpper, rfl, ji_CR_readUpper, Or.inl (jm_g3 116 rfl rfl), jm_g3 117 rfl rfl⟩, fun q => absurd q (by decide)⟩⟩
  · exact ⟨Or.inr ⟨3, adK 0, "JANFEBMARAPRMAYJUNJULAUGSEPOCTNOVDEC", rfl, rfl, F.2.2.1 0 _ _ _ (by decide +kernel)⟩, trivial⟩
  · exact ⟨trivial, ⟨156, 1, 1, rfl, fun _ => ⟨by decide, jp_T_takeName, _, _, rfl, ji_T_takeName, Or.inl (jm_g3 58 rfl rfl), jm_g3 59 rfl rfl, jm_g3 60 rfl rfl, rfl⟩, fun q => absurd q (by decide)⟩⟩
  · exact ⟨Or.inr ⟨4, adK 1, "SUNMONTUEWEDTHUFRISAT", rfl, rfl, F.2.2.1 1 _ _ _ (by decide +kernel)⟩, trivial⟩
  · exact ⟨⟨1, 2, .int, false, rfl, by decide, ⟨_, jn_T1, 4, jn_y1, rfl, by decide, jn_i1, jn_o1, jn_n1, rfl, rfl, by decide +kernel, Or.inr ⟨_, jm_g1 46 rfl rfl⟩⟩⟩, trivial⟩
  · exact ⟨trivial, ⟨148, 1, 1, rfl, fun _ => ⟨by decide, jp_T_breakAt, _, _, rfl, ji_T_breakAt, Or.inl (jm_g3 119 rfl rfl), jm_g2 213 rfl rfl, jm_g2 214 rfl rfl, rfl⟩, fun q => absurd q (by decide)⟩⟩
  · exact ⟨⟨4, 2, 0, 0, .int, rfl, by decide, Or.inl ⟨rfl, rfl⟩, Or.inl ⟨rfl, ⟨_, jn_T4, 4, jn_y4, rfl, by decide, jn_i4, jn_o4, jn_n4, rfl, rfl, by decide +kernel, Or.inr ⟨_, jm_g1 95 rfl rfl⟩⟩⟩⟩, trivial⟩
  · exact ⟨trivial, ⟨190, 2, rfl, fun _ => ⟨jp_Math_max, rfl, ji_Math_max, Or.inl (jm_g3 127 rfl rfl), jm_g3 128 rfl rfl⟩, fun q => absurd q (by decide)⟩⟩
def jl_CR : List (Instr × List Nat × Value) := jl_CR_0
theorem js_CR (F : jx_SF S dA aL aM adK) (cc : ByteArray) (pc : Nat) : ∀ r ∈ jl_CR, jx_si S dA (jx_R1 sc aL aM adK) jx_df "JobHouse$CronReader" r.1 r.2.1 r.2.2 ∧ jx_sc S jx_P cc "JobHouse$CronReader" pc r.1 r.2.1 := by
  intro r hr
  exact js_CR_0 F cc pc r hr
def jl_D_0 : List (Instr × List Nat × Value) := [(.ldc 9, [], .int 719468), (.ldc2_w 10, [], .long 86400), (.invokestatic 12, [187, 2], .null), (.ldc 18, [], .int 146097), (.invokestatic 19, [186, 2], .null), (.invokestatic 22, [120, 2], .null)]
theorem js_D_0 (F : jx_SF S dA aL aM adK) (cc : ByteArray) (pc : Nat) : ∀ r ∈ jl_D_0, jx_si S dA (jx_R1 sc aL aM adK) jx_df "JobHouse$Dates" r.1 r.2.1 r.2.2 ∧ jx_sc S jx_P cc "JobHouse$Dates" pc r.1 r.2.1 := by
  intro r hr
  simp only [jl_D_0, List.mem_cons, List.not_mem_nil, or_false] at hr
  rcases hr with rfl | rfl | rfl | rfl | rfl | rfl
  · exact ⟨Or.inl ⟨_, rfl, jm_g3 212 rfl rfl⟩, trivial⟩
  · exact ⟨⟨_, rfl, jm_g3 198 rfl rfl⟩, trivial⟩
  · exact ⟨trivial, ⟨187, 2, rfl, fun _ => ⟨jp_Math_floorDiv2, rfl, ji_Math_floorDiv2, Or.inl (jm_g3 199 rfl rfl), jm_g3 200 rfl rfl⟩, fun q => absurd q (by decide)⟩⟩
  · exact ⟨Or.inl ⟨_, rfl, jm_g3 205 rfl rfl⟩, trivial⟩
  · exact ⟨trivial, ⟨186, 2, rfl, fun _ => ⟨jp_Math_floorDiv, rfl, ji_Math_floorDiv, Or.inl (jm_g3 206 rfl rfl), jm_g3 207 rfl rfl⟩, fun q => absurd q (by decide)⟩⟩
  · exact ⟨trivial, ⟨120, 2, rfl, fun _ => ⟨jp_D_firstOfMonth, rfl, ji_D_firstOfMonth, Or.inl (jm_g3 209 rfl rfl), jm_g3 210 rfl rfl⟩, fun q => absurd q (by decide)⟩⟩
def jl_D : List (Instr × List Nat × Value) := jl_D_0
theorem js_D (F : jx_SF S dA aL aM adK) (cc : ByteArray) (pc : Nat) : ∀ r ∈ jl_D, jx_si S dA (jx_R1 sc aL aM adK) jx_df "JobHouse$Dates" r.1 r.2.1 r.2.2 ∧ jx_sc S jx_P cc "JobHouse$Dates" pc r.1 r.2.1 := by
  intro r hr
  exact js_D_0 F cc pc r hr
def jl_F_0 : List (Instr × List Nat × Value) := [(.invokespecial 3, [9003, 0], .null), (.new 9, [4], .null), (.invokespecial 11, [95, 0], .null), (.putfield 12, [6, 0, 4, 0], .null), (.new 18, [2], .null), (.invokespecial 20, [163, 0], .null), (.putfield 21, [6, 1, 4, 0], .null), (.new 25, [5], .null), (.invokespecial 27, [135, 1], .null), (.putfield 30, [6, 2, 4, 0], .null), (.ldc2_w 34, [], .long 1000), (.ldc2_w 36, [], .long 10413791999), (.getfield 21, [6, 1], .null), (.invokevirtual 38, [165, 1, 2], .null), (.invokevirtual 42, [129, 1, 6], .null), (.getfield 46, [2, 6], .null), (.getfield 50, [2, 5], .null), (.ldc2_w 54, [], .long (-1)), (.getfield 56, [2, 0], .null), (.getfield 59, [2, 1], .null), (.invokestatic 62, [191, 2], .null), (.invokevirtual 68, [130, 1, 6], .null), (.getfield 71, [2, 4], .null), (.invokestatic 74, [193, 2], .null), (.invokestatic 77, [122, 1], .null), (.invokevirtual 82, [131, 1, 6], .null), (.getfield 12, [6, 0], .null), (.ldc2_w 86, [], .long 86400), (.invokevirtual 88, [107, 1, 4], .null), (.invokevirtual 91, [132, 1, 6], .null), (.invokevirtual 94, [108, 1, 4], .null), (.ldc 97, [], .int 86399), (.invokestatic 98, [190, 2], .null), (.invokestatic 101, [123, 1], .null), (.invokestatic 104, [124, 2], .null), (.invokestatic 107, [120, 2], .null), (.invokevirtual 110, [101, 1, 4], .null), (.invokevirtual 114, [100, 1, 4], .null), (.invokevirtual 117, [133, 3, 6], .null), (.ldc 121, [], .int 120529), (.invokestatic 122, [192, 2], .null), (.invokevirtual 124, [134, 3, 6], .null), (.invokestatic 127, [121, 2], .null), (.invokestatic 130, [125, 1], .null), (.invokevirtual 133, [102, 2, 4], .null), (.invokestatic 137, [109, 2], .null), (.getfield 30, [6, 2], .null), (.invokevirtual 141, [136, 1, 5], .null), (.invokestatic 144, [110, 2], .null)]
theorem js_F_0 (F : jx_SF S dA aL aM adK) (cc : ByteArray) (pc : Nat) : ∀ r ∈ jl_F_0, jx_si S dA (jx_R1 sc aL aM adK) jx_df "JobHouse$Fires" r.1 r.2.1 r.2.2 ∧ jx_sc S jx_P cc "JobHouse$Fires" pc r.1 r.2.1 := by
  intro r hr
  simp only [jl_F_0, List.mem_cons, List.not_mem_nil, or_false] at hr
  rcases hr with rfl | rfl | rfl | rfl | rfl | rfl | rfl | rfl | rfl | rfl | rfl | rfl | rfl | rfl | rfl | rfl | rfl | rfl | rfl | rfl | rfl | rfl | rfl | rfl | rfl | rfl | rfl | rfl | rfl | rfl | rfl | rfl | rfl | rfl | rfl | rfl | rfl | rfl | rfl | rfl | rfl | rfl | rfl | rfl | rfl | rfl | rfl | rfl | rfl
  · exact ⟨trivial, ⟨9003, 0, rfl, fun q => absurd q (by decide), fun _ => ⟨rfl, rfl, jm_g1 84 rfl rfl, jm_g1 34 rfl rfl, jm_g1 35 rfl rfl⟩⟩⟩
  · exact ⟨⟨4, rfl, fun fs hfs => by
      cases hfs
      exact ⟨_, jn_T4, jn_y4, rfl, jn_i4, jn_o4, by decide +kernel, jm_g1 85 rfl rfl, jm_g1 86 rfl rfl, jm_g1 5 rfl rfl⟩⟩, ⟨4, rfl, fun q => absurd q (by decide)⟩⟩
  · exact ⟨trivial, ⟨95, 0, rfl, fun _ => ⟨jp_C_init, rfl, ji_C_init, Or.inr ⟨_, jm_g1 87 rfl rfl⟩, jm_g1 88 rfl rfl, rfl, rfl, rfl⟩, fun q => absurd q (by decide)⟩⟩
  · exact ⟨⟨6, 0, 4, 0, .object "JobHouse$Cron", rfl, by decide, Or.inr (Or.inr (Or.inr ⟨rfl, Or.inl ⟨_, rfl⟩⟩)), Or.inl ⟨rfl, ⟨_, jn_T6, 3, jn_y6, rfl, by decide, jn_i6, jn_o6, jn_n6, rfl, rfl, by decide +kernel, Or.inl (jm_g1 163 rfl rfl)⟩⟩⟩, trivial⟩
  · exact ⟨⟨2, rfl, fun fs hfs => by
      cases hfs
      exact ⟨_, jn_T2, jn_y2, rfl, jn_i2, jn_o2, by decide +kernel, jm_g1 108 rfl rfl, jm_g1 109 rfl rfl, jm_g1 6 rfl rfl⟩⟩, ⟨2, rfl, fun q => absurd q (by decide)⟩⟩
  · exact ⟨trivial, ⟨163, 0, rfl, fun _ => ⟨jp_Z_init, rfl, ji_Z_init, Or.inr ⟨_, jm_g1 110 rfl rfl⟩, jm_g1 111 rfl rfl, rfl, rfl, rfl⟩, fun q => absurd q (by decide)⟩⟩
  · exact ⟨⟨6, 1, 4, 0, .object "JobHouse$Zone", rfl, by decide, Or.inr (Or.inr (Or.inr ⟨rfl, Or.inl ⟨_, rfl⟩⟩)), Or.inl ⟨rfl, ⟨_, jn_T6, 3, jn_y6, rfl, by decide, jn_i6, jn_o6, jn_n6, rfl, rfl, by decide +kernel, Or.inl (jm_g1 165 rfl rfl)⟩⟩⟩, trivial⟩
  · exact ⟨⟨5, rfl, fun fs hfs => by
      cases hfs
      exact ⟨_, jn_T5, jn_y5, rfl, jn_i5, jn_o5, by decide +kernel, jm_g1 161 rfl rfl, jm_g1 65 rfl rfl, jm_g1 3 rfl rfl⟩⟩, ⟨5, rfl, fun q => absurd q (by decide)⟩⟩
  · exact ⟨trivial, ⟨135, 1, rfl, fun _ => ⟨jp_H_init, rfl, ji_H_init, Or.inl (jm_g1 162 rfl rfl), jm_g1 67 rfl rfl, rfl, rfl, rfl⟩, fun q => absurd q (by decide)⟩⟩
  · exact ⟨⟨6, 2, 4, 0, .object "JobHouse$Holidays", rfl, by decide, Or.inr (Or.inr (Or.inr ⟨rfl, Or.inl ⟨_, rfl⟩⟩)), Or.inl ⟨rfl, ⟨_, jn_T6, 3, jn_y6, rfl, by decide, jn_i6, jn_o6, jn_n6, rfl, rfl, by decide +kernel, Or.inl (jm_g1 167 rfl rfl)⟩⟩⟩, trivial⟩
  · exact ⟨⟨_, rfl, jm_g3 184 rfl rfl⟩, trivial⟩
  · exact ⟨⟨_, rfl, jm_g3 185 rfl rfl⟩, trivial⟩
  · exact ⟨⟨6, 1, .object "JobHouse$Zone", false, rfl, by decide, ⟨_, jn_T6, 3, jn_y6, rfl, by decide, jn_i6, jn_o6, jn_n6, rfl, rfl, by decide +kernel, Or.inl (jm_g1 165 rfl rfl)⟩⟩, trivial⟩
  · exact ⟨trivial, ⟨165, 1, 2, rfl, fun _ => ⟨by decide, jp_Z_offsetAt, _, _, rfl, ji_Z_offsetAt, Or.inl (jm_g3 186 rfl rfl), jm_g3 187 rfl rfl, jm_g3 188 rfl rfl, rfl⟩, fun q => absurd q (by decide)⟩⟩
  · exact ⟨trivial, ⟨129, 1, 6, rfl, fun _ => ⟨by decide, jp_F_localFrom, _, _, rfl, ji_F_localFrom, Or.inl (jm_g4 6 rfl rfl), jm_g4 8 rfl rfl, jm_g0 4 rfl rfl, rfl⟩, fun q => absurd q (by decide)⟩⟩
  · exact ⟨⟨2, 6, .int, false, rfl, by decide, ⟨_, jn_T2, 7, jn_y2, rfl, by decide, jn_i2, jn_o2, jn_n2, rfl, rfl, by decide +kernel, Or.inr ⟨_, jm_g1 144 rfl rfl⟩⟩⟩, trivial⟩
  · exact ⟨⟨2, 5, .long, false, rfl, by decide, ⟨_, jn_T2, 7, jn_y2, rfl, by decide, jn_i2, jn_o2, jn_n2, rfl, rfl, by decide +kernel, Or.inr ⟨_, jm_g1 143 rfl rfl⟩⟩⟩, trivial⟩
  · exact ⟨⟨_, rfl, jm_g4 70 rfl rfl⟩, trivial⟩
  · exact ⟨⟨2, 0, .int, false, rfl, by decide, ⟨_, jn_T2, 7, jn_y2, rfl, by decide, jn_i2, jn_o2, jn_n2, rfl, rfl, by decide +kernel, Or.inr ⟨_, jm_g1 135 rfl rfl⟩⟩⟩, trivial⟩
  · exact ⟨⟨2, 1, .int, false, rfl, by decide, ⟨_, jn_T2, 7, jn_y2, rfl, by decide, jn_i2, jn_o2, jn_n2, rfl, rfl, by decide +kernel, Or.inr ⟨_, jm_g1 137 rfl rfl⟩⟩⟩, trivial⟩
  · exact ⟨trivial, ⟨191, 2, rfl, fun _ => ⟨jp_Math_max2, rfl, ji_Math_max2, Or.inl (jm_g4 71 rfl rfl), jm_g4 1 rfl rfl⟩, fun q => absurd q (by decide)⟩⟩
  · exact ⟨trivial, ⟨130, 1, 6, rfl, fun _ => ⟨by decide, jp_F_localUpTo, _, _, rfl, ji_F_localUpTo, Or.inl (jm_g4 83 rfl rfl), jm_g4 85 rfl rfl, jm_g0 8 rfl rfl, rfl⟩, fun q => absurd q (by decide)⟩⟩
  · exact ⟨⟨2, 4, .long, false, rfl, by decide, ⟨_, jn_T2, 7, jn_y2, rfl, by decide, jn_i2, jn_o2, jn_n2, rfl, rfl, by decide +kernel, Or.inr ⟨_, jm_g1 141 rfl rfl⟩⟩⟩, trivial⟩
  · exact ⟨trivial, ⟨193, 2, rfl, fun _ => ⟨jp_Math_min2, rfl, ji_Math_min2, Or.inl (jm_g4 106 rfl rfl), jm_g4 4 rfl rfl⟩, fun q => absurd q (by decide)⟩⟩
  · exact ⟨trivial, ⟨122, 1, rfl, fun _ => ⟨jp_D_dayOf, rfl, ji_D_dayOf, Or.inl (jm_g4 10 rfl rfl), jm_g3 196 rfl rfl⟩, fun q => absurd q (by decide)⟩⟩
  · exact ⟨trivial, ⟨131, 1, 6, rfl, fun _ => ⟨by decide, jp_F_dayFrom, _, _, rfl, ji_F_dayFrom, Or.inl (jm_g4 11 rfl rfl), jm_g4 13 rfl rfl, jm_g0 5 rfl rfl, rfl⟩, fun q => absurd q (by decide)⟩⟩
  · exact ⟨⟨6, 0, .object "JobHouse$Cron", false, rfl, by decide, ⟨_, jn_T6, 3, jn_y6, rfl, by decide, jn_i6, jn_o6, jn_n6, rfl, rfl, by decide +kernel, Or.inl (jm_g1 163 rfl rfl)⟩⟩, trivial⟩
  · exact ⟨⟨_, rfl, jm_g4 64 rfl rfl⟩, trivial⟩
  · exact ⟨trivial, ⟨107, 1, 4, rfl, fun _ => ⟨by decide, jp_C_timeFrom, _, _, rfl, ji_C_timeFrom, Or.inl (jm_g4 65 rfl rfl), jm_g4 66 rfl rfl, jm_g4 67 rfl rfl, rfl⟩, fun q => absurd q (by decide)⟩⟩
  · exact ⟨trivial, ⟨132, 1, 6, rfl, fun _ => ⟨by decide, jp_F_dayUpTo, _, _, rfl, ji_F_dayUpTo, Or.inl (jm_g4 87 rfl rfl), jm_g4 89 rfl rfl, jm_g0 9 rfl rfl, rfl⟩, fun q => absurd q (by decide)⟩⟩
  · exact ⟨trivial, ⟨108, 1, 4, rfl, fun _ => ⟨by decide, jp_C_timeUpTo, _, _, rfl, ji_C_timeUpTo, Or.inl (jm_g4 100 rfl rfl), jm_g4 101 rfl rfl, jm_g4 102 rfl rfl, rfl⟩, fun q => absurd q (by decide)⟩⟩
  · exact ⟨Or.inl ⟨_, rfl, jm_g4 105 rfl rfl⟩, trivial⟩
  · exact ⟨trivial, ⟨190, 2, rfl, fun _ => ⟨jp_Math_max, rfl, ji_Math_max, Or.inl (jm_g4 15 rfl rfl), jm_g3 128 rfl rfl⟩, fun q => absurd q (by decide)⟩⟩
  · exact ⟨trivial, ⟨123, 1, rfl, fun _ => ⟨jp_D_yearOf, rfl, ji_D_yearOf, Or.inl (jm_g4 16 rfl rfl), jm_g3 203 rfl rfl⟩, fun q => absurd q (by decide)⟩⟩
  · exact ⟨trivial, ⟨124, 2, rfl, fun _ => ⟨jp_D_monthOf, rfl, ji_D_monthOf, Or.inl (jm_g4 17 rfl rfl), jm_g4 18 rfl rfl⟩, fun q => absurd q (by decide)⟩⟩
  · exact ⟨trivial, ⟨120, 2, rfl, fun _ => ⟨jp_D_firstOfMonth, rfl, ji_D_firstOfMonth, Or.inl (jm_g4 20 rfl rfl), jm_g3 210 rfl rfl⟩, fun q => absurd q (by decide)⟩⟩
  · exact ⟨trivial, ⟨101, 1, 4, rfl, fun _ => ⟨by decide, jp_C_hasYear, _, _, rfl, ji_C_hasYear, Or.inl (jm_g4 21 rfl rfl), jm_g4 22 rfl rfl, jm_g4 23 rfl rfl, rfl⟩, fun q => absurd q (by decide)⟩⟩
  · exact ⟨trivial, ⟨100, 1, 4, rfl, fun _ => ⟨by decide, jp_C_hasMonth, _, _, rfl, ji_C_hasMonth, Or.inl (jm_g4 25 rfl rfl), jm_g4 26 rfl rfl, jm_g4 27 rfl rfl, rfl⟩, fun q => absurd q (by decide)⟩⟩
  · exact ⟨trivial, ⟨133, 3, 6, rfl, fun _ => ⟨by decide, jp_F_dateFrom, _, _, rfl, ji_F_dateFrom, Or.inl (jm_g4 29 rfl rfl), jm_g4 31 rfl rfl, jm_g0 6 rfl rfl, rfl⟩, fun q => absurd q (by decide)⟩⟩
  · exact ⟨Or.inl ⟨_, rfl, jm_g4 91 rfl rfl⟩, trivial⟩
  · exact ⟨trivial, ⟨192, 2, rfl, fun _ => ⟨jp_Math_min, rfl, ji_Math_min, Or.inl (jm_g4 92 rfl rfl), jm_g2 225 rfl rfl⟩, fun q => absurd q (by decide)⟩⟩
  · exact ⟨trivial, ⟨134, 3, 6, rfl, fun _ => ⟨by decide, jp_F_dateUpTo, _, _, rfl, ji_F_dateUpTo, Or.inl (jm_g4 93 rfl rfl), jm_g4 95 rfl rfl, jm_g0 10 rfl rfl, rfl⟩, fun q => absurd q (by decide)⟩⟩
  · exact ⟨trivial, ⟨121, 2, rfl, fun _ => ⟨jp_D_monthLength, rfl, ji_D_monthLength, Or.inl (jm_g4 33 rfl rfl), jm_g3 230 rfl rfl⟩, fun q => absurd q (by decide)⟩⟩
  · exact ⟨trivial, ⟨125, 1, rfl, fun _ => ⟨jp_D_weekdayOf, rfl, ji_D_weekdayOf, Or.inl (jm_g4 34 rfl rfl), jm_g3 224 rfl rfl⟩, fun q => absurd q (by decide)⟩⟩
  · exact ⟨trivial, ⟨102, 2, 4, rfl, fun _ => ⟨by decide, jp_C_daysOf, _, _, rfl, ji_C_daysOf, Or.inl (jm_g4 35 rfl rfl), jm_g4 36 rfl rfl, jm_g4 37 rfl rfl, rfl⟩, fun q => absurd q (by decide)⟩⟩
  · exact ⟨trivial, ⟨109, 2, rfl, fun _ => ⟨jp_C_lowestBit, rfl, ji_C_lowestBit, Or.inl (jm_g4 54 rfl rfl), jm_g4 55 rfl rfl⟩, fun q => absurd q (by decide)⟩⟩
  · exact ⟨⟨6, 2, .object "JobHouse$Holidays", false, rfl, by decide, ⟨_, jn_T6, 3, jn_y6, rfl, by decide, jn_i6, jn_o6, jn_n6, rfl, rfl, by decide +kernel, Or.inl (jm_g1 167 rfl rfl)⟩⟩, trivial⟩
  · exact ⟨trivial, ⟨136, 1, 5, rfl, fun _ => ⟨by decide, jp_H_placeOf, _, _, rfl, ji_H_placeOf, Or.inl (jm_g4 63 rfl rfl), jm_g3 150 rfl rfl, jm_g3 151 rfl rfl, rfl⟩, fun q => absurd q (by decide)⟩⟩
  · exact ⟨trivial, ⟨110, 2, rfl, fun _ => ⟨jp_C_highestBit, rfl, ji_C_highestBit, Or.inl (jm_g4 97 rfl rfl), jm_g4 98 rfl rfl⟩, fun q => absurd q (by decide)⟩⟩
def jl_F : List (Instr × List Nat × Value) := jl_F_0
theorem js_F (F : jx_SF S dA aL aM adK) (cc : ByteArray) (pc : Nat) : ∀ r ∈ jl_F, jx_si S dA (jx_R1 sc aL aM adK) jx_df "JobHouse$Fires" r.1 r.2.1 r.2.2 ∧ jx_sc S jx_P cc "JobHouse$Fires" pc r.1 r.2.1 := by
  intro r hr
  exact js_F_0 F cc pc r hr
def jl_H_0 : List (Instr × List Nat × Value) := [(.invokespecial 1, [9003, 0], .null), (.newarray .int, [2], .null), (.putfield 7, [5, 0, 4, 1], .null), (.getfield 13, [5, 1], .null), (.getfield 7, [5, 0], .null), (.invokestatic 17, [9002, 5], .null), (.putfield 13, [5, 1, 0, 0], .null)]
theorem js_H_0 (F : jx_SF S dA aL aM adK) (cc : ByteArray) (pc : Nat) : ∀ r ∈ jl_H_0, jx_si S dA (jx_R1 sc aL aM adK) jx_df "JobHouse$Holidays" r.1 r.2.1 r.2.2 ∧ jx_sc S jx_P cc "JobHouse$Holidays" pc r.1 r.2.1 := by
  intro r hr
  simp only [jl_H_0, List.mem_cons, List.not_mem_nil, or_false] at hr
  rcases hr with rfl | rfl | rfl | rfl | rfl | rfl | rfl
  · exact ⟨trivial, ⟨9003, 0, rfl, fun q => absurd q (by decide), fun _ => ⟨rfl, rfl, jm_g1 69 rfl rfl, jm_g1 34 rfl rfl, jm_g1 35 rfl rfl⟩⟩⟩
  · exact ⟨⟨2, _, rfl, by decide, rfl, rfl, jm_g1 78 rfl rfl⟩, trivial⟩
  · exact ⟨⟨5, 0, 4, 1, .array .int, rfl, by decide, Or.inr (Or.inr (Or.inr ⟨rfl, Or.inr ⟨_, rfl⟩⟩)), Or.inr ⟨rfl, ⟨jn_T5, 2, jn_y5, rfl, by decide, jn_i5, jn_o5, jn_n5, rfl, rfl, by decide +kernel, jm_g1 70 rfl rfl⟩⟩⟩, trivial⟩
  · exact ⟨⟨5, 1, .int, false, rfl, by decide, ⟨_, jn_T5, 2, jn_y5, rfl, by decide, jn_i5, jn_o5, jn_n5, rfl, rfl, by decide +kernel, Or.inl (jm_g1 71 rfl rfl)⟩⟩, trivial⟩
  · exact ⟨⟨5, 0, .array .int, true, rfl, by decide, ⟨_, jn_T5, 2, jn_y5, rfl, by decide, jn_i5, jn_o5, jn_n5, rfl, rfl, by decide +kernel, Or.inl (jm_g1 70 rfl rfl)⟩⟩, trivial⟩
  · exact ⟨trivial, ⟨9002, 5, rfl, fun q => absurd q (by decide), fun _ => ⟨rfl, rfl, jm_g3 157 rfl rfl, jm_g3 158 rfl rfl, jm_g1 23 rfl rfl, F.2.2.2.2.1⟩⟩⟩
  · exact ⟨⟨5, 1, 0, 0, .int, rfl, by decide, Or.inl ⟨rfl, rfl⟩, Or.inl ⟨rfl, ⟨_, jn_T5, 2, jn_y5, rfl, by decide, jn_i5, jn_o5, jn_n5, rfl, rfl, by decide +kernel, Or.inl (jm_g1 71 rfl rfl)⟩⟩⟩, trivial⟩
def jl_H : List (Instr × List Nat × Value) := jl_H_0
theorem js_H (F : jx_SF S dA aL aM adK) (cc : ByteArray) (pc : Nat) : ∀ r ∈ jl_H, jx_si S dA (jx_R1 sc aL aM adK) jx_df "JobHouse$Holidays" r.1 r.2.1 r.2.2 ∧ jx_sc S jx_P cc "JobHouse$Holidays" pc r.1 r.2.1 := by
  intro r hr
  exact js_H_0 F cc pc r hr
def jl_B_0 : List (Instr × List Nat × Value) := [(.invokespecial 3, [9003, 0], .null), (.getfield 9, [7, 4], .null), (.getfield 15, [7, 8], .null), (.getfield 19, [7, 2], .null), (.getfield 22, [7, 0], .null), (.getfield 25, [7, 1], .null), (.getfield 28, [7, 3], .null), (.getfield 31, [7, 10], .null), (.getfield 34, [7, 6], .null), (.ldc2_w 37, [], .long (-1)), (.getfield 39, [7, 9], .null)]
theorem js_B_0 (F : jx_SF S dA aL aM adK) (cc : ByteArray) (pc : Nat) : ∀ r ∈ jl_B_0, jx_si S dA (jx_R1 sc aL aM adK) jx_df "JobHouse$Job" r.1 r.2.1 r.2.2 ∧ jx_sc S jx_P cc "JobHouse$Job" pc r.1 r.2.1 := by
  intro r hr
  simp only [jl_B_0, List.mem_cons, List.not_mem_nil, or_false] at hr
  rcases hr with rfl | rfl | rfl | rfl | rfl | rfl | rfl | rfl | rfl | rfl | rfl
  · exact ⟨trivial, ⟨9003, 0, rfl, fun q => absurd q (by decide), fun _ => ⟨rfl, rfl, jm_g1 211 rfl rfl, jm_g1 34 rfl rfl, jm_g1 35 rfl rfl⟩⟩⟩
  · exact ⟨⟨7, 4, .long, false, rfl, by decide, ⟨_, jn_T7, 14, jn_y7, rfl, by decide, jn_i7, jn_o7, jn_n7, rfl, rfl, by decide +kernel, Or.inl (jm_g1 220 rfl rfl)⟩⟩, trivial⟩
  · exact ⟨⟨7, 8, .int, false, rfl, by decide, ⟨_, jn_T7, 14, jn_y7, rfl, by decide, jn_i7, jn_o7, jn_n7, rfl, rfl, by decide +kernel, Or.inl (jm_g1 226 rfl rfl)⟩⟩, trivial⟩
  · exact ⟨⟨7, 2, .int, false, rfl, by decide, ⟨_, jn_T7, 14, jn_y7, rfl, by decide, jn_i7, jn_o7, jn_n7, rfl, rfl, by decide +kernel, Or.inl (jm_g1 216 rfl rfl)⟩⟩, trivial⟩
  · exact ⟨⟨7, 0, .int, false, rfl, by decide, ⟨_, jn_T7, 14, jn_y7, rfl, by decide, jn_i7, jn_o7, jn_n7, rfl, rfl, by decide +kernel, Or.inl (jm_g1 212 rfl rfl)⟩⟩, trivial⟩
  · exact ⟨⟨7, 1, .int, false, rfl, by decide, ⟨_, jn_T7, 14, jn_y7, rfl, by decide, jn_i7, jn_o7, jn_n7, rfl, rfl, by decide +kernel, Or.inl (jm_g1 214 rfl rfl)⟩⟩, trivial⟩
  · exact ⟨⟨7, 3, .int, false, rfl, by decide, ⟨_, jn_T7, 14, jn_y7, rfl, by decide, jn_i7, jn_o7, jn_n7, rfl, rfl, by decide +kernel, Or.inl (jm_g1 218 rfl rfl)⟩⟩, trivial⟩
  · exact ⟨⟨7, 10, .int, false, rfl, by decide, ⟨_, jn_T7, 14, jn_y7, rfl, by decide, jn_i7, jn_o7, jn_n7, rfl, rfl, by decide +kernel, Or.inl (jm_g1 230 rfl rfl)⟩⟩, trivial⟩
  · exact ⟨⟨7, 6, .long, false, rfl, by decide, ⟨_, jn_T7, 14, jn_y7, rfl, by decide, jn_i7, jn_o7, jn_n7, rfl, rfl, by decide +kernel, Or.inl (jm_g1 223 rfl rfl)⟩⟩, trivial⟩
  · exact ⟨⟨_, rfl, jm_g5 3 rfl rfl⟩, trivial⟩
  · exact ⟨⟨7, 9, .int, false, rfl, by decide, ⟨_, jn_T7, 14, jn_y7, rfl, by decide, jn_i7, jn_o7, jn_n7, rfl, rfl, by decide +kernel, Or.inl (jm_g1 228 rfl rfl)⟩⟩, trivial⟩
def jl_B : List (Instr × List Nat × Value) := jl_B_0
theorem js_B (F : jx_SF S dA aL aM adK) (cc : ByteArray) (pc : Nat) : ∀ r ∈ jl_B, jx_si S dA (jx_R1 sc aL aM adK) jx_df "JobHouse$Job" r.1 r.2.1 r.2.2 ∧ jx_sc S jx_P cc "JobHouse$Job" pc r.1 r.2.1 := by
  intro r hr
  exact js_B_0 F cc pc r hr
def jl_L_0 : List (Instr × List Nat × Value) := [(.invokespecial 3, [9003, 0], .null), (.newarray .long, [3], .null), (.putfield 9, [8, 0, 4, 1], .null), (.newarray .int, [2], .null), (.putfield 15, [8, 1, 4, 1], .null), (.putfield 19, [8, 2, 4, 1], .null), (.getfield 22, [8, 3], .null), (.getfield 9, [8, 0], .null), (.getfield 15, [8, 1], .null), (.getfield 19, [8, 2], .null), (.putfield 22, [8, 3, 0, 0], .null), (.getfield 26, [8, 4], .null), (.putfield 26, [8, 4, 1, 0], .null)]
theorem js_L_0 (F : jx_SF S dA aL aM adK) (cc : ByteArray) (pc : Nat) : ∀ r ∈ jl_L_0, jx_si S dA (jx_R1 sc aL aM adK) jx_df "JobHouse$StartLog" r.1 r.2.1 r.2.2 ∧ jx_sc S jx_P cc "JobHouse$StartLog" pc r.1 r.2.1 := by
  intro r hr
  simp only [jl_L_0, List.mem_cons, List.not_mem_nil, or_false] at hr
  rcases hr with rfl | rfl | rfl | rfl | rfl | rfl | rfl | rfl | rfl | rfl | rfl | rfl | rfl
  · exact ⟨trivial, ⟨9003, 0, rfl, fun q => absurd q (by decide), fun _ => ⟨rfl, rfl, jm_g1 185 rfl rfl, jm_g1 34 rfl rfl, jm_g1 35 rfl rfl⟩⟩⟩
  · exact ⟨⟨3, _, rfl, by decide, rfl, rfl, jm_g1 107 rfl rfl⟩, trivial⟩
  · exact ⟨⟨8, 0, 4, 1, .array .long, rfl, by decide, Or.inr (Or.inr (Or.inr ⟨rfl, Or.inr ⟨_, rfl⟩⟩)), Or.inr ⟨rfl, ⟨jn_T8, 5, jn_y8, rfl, by decide, jn_i8, jn_o8, jn_n8, rfl, rfl, by decide +kernel, jm_g1 186 rfl rfl⟩⟩⟩, trivial⟩
  · exact ⟨⟨2, _, rfl, by decide, rfl, rfl, jm_g1 78 rfl rfl⟩, trivial⟩
  · exact ⟨⟨8, 1, 4, 1, .array .int, rfl, by decide, Or.inr (Or.inr (Or.inr ⟨rfl, Or.inr ⟨_, rfl⟩⟩)), Or.inr ⟨rfl, ⟨jn_T8, 5, jn_y8, rfl, by decide, jn_i8, jn_o8, jn_n8, rfl, rfl, by decide +kernel, jm_g1 188 rfl rfl⟩⟩⟩, trivial⟩
  · exact ⟨⟨8, 2, 4, 1, .array .long, rfl, by decide, Or.inr (Or.inr (Or.inr ⟨rfl, Or.inr ⟨_, rfl⟩⟩)), Or.inr ⟨rfl, ⟨jn_T8, 5, jn_y8, rfl, by decide, jn_i8, jn_o8, jn_n8, rfl, rfl, by decide +kernel, jm_g1 190 rfl rfl⟩⟩⟩, trivial⟩
  · exact ⟨⟨8, 3, .int, false, rfl, by decide, ⟨_, jn_T8, 5, jn_y8, rfl, by decide, jn_i8, jn_o8, jn_n8, rfl, rfl, by decide +kernel, Or.inl (jm_g1 192 rfl rfl)⟩⟩, trivial⟩
  · exact ⟨⟨8, 0, .array .long, true, rfl, by decide, ⟨_, jn_T8, 5, jn_y8, rfl, by decide, jn_i8, jn_o8, jn_n8, rfl, rfl, by decide +kernel, Or.inl (jm_g1 186 rfl rfl)⟩⟩, trivial⟩
  · exact ⟨⟨8, 1, .array .int, true, rfl, by decide, ⟨_, jn_T8, 5, jn_y8, rfl, by decide, jn_i8, jn_o8, jn_n8, rfl, rfl, by decide +kernel, Or.inl (jm_g1 188 rfl rfl)⟩⟩, trivial⟩
  · exact ⟨⟨8, 2, .array .long, true, rfl, by decide, ⟨_, jn_T8, 5, jn_y8, rfl, by decide, jn_i8, jn_o8, jn_n8, rfl, rfl, by decide +kernel, Or.inl (jm_g1 190 rfl rfl)⟩⟩, trivial⟩
  · exact ⟨⟨8, 3, 0, 0, .int, rfl, by decide, Or.inl ⟨rfl, rfl⟩, Or.inl ⟨rfl, ⟨_, jn_T8, 5, jn_y8, rfl, by decide, jn_i8, jn_o8, jn_n8, rfl, rfl, by decide +kernel, Or.inl (jm_g1 192 rfl rfl)⟩⟩⟩, trivial⟩
  · exact ⟨⟨8, 4, .long, false, rfl, by decide, ⟨_, jn_T8, 5, jn_y8, rfl, by decide, jn_i8, jn_o8, jn_n8, rfl, rfl, by decide +kernel, Or.inl (jm_g1 194 rfl rfl)⟩⟩, trivial⟩
  · exact ⟨⟨8, 4, 1, 0, .long, rfl, by decide, Or.inr (Or.inl ⟨rfl, rfl⟩), Or.inl ⟨rfl, ⟨_, jn_T8, 5, jn_y8, rfl, by decide, jn_i8, jn_o8, jn_n8, rfl, rfl, by decide +kernel, Or.inl (jm_g1 194 rfl rfl)⟩⟩⟩, trivial⟩
def jl_L : List (Instr × List Nat × Value) := jl_L_0
theorem js_L (F : jx_SF S dA aL aM adK) (cc : ByteArray) (pc : Nat) : ∀ r ∈ jl_L, jx_si S dA (jx_R1 sc aL aM adK) jx_df "JobHouse$StartLog" r.1 r.2.1 r.2.2 ∧ jx_sc S jx_P cc "JobHouse$StartLog" pc r.1 r.2.1 := by
  intro r hr
  exact js_L_0 F cc pc r hr
def jl_T_0 : List (Instr × List Nat × Value) := [(.invokespecial 3, [9003, 0], .null), (.newarray .byte, [0], .null), (.putfield 9, [1, 0, 4, 1], .null), (.putfield 15, [1, 3, 0, 0], .null), (.getfield 19, [1, 1], .null), (.getfield 9, [1, 0], .null), (.putfield 19, [1, 1, 0, 0], .null), (.putfield 22, [1, 2, 0, 0], .null), (.getfield 15, [1, 3], .null), (.invokevirtual 25, [150, 0, 1], .null), (.getfield 22, [1, 2], .null), (.invokevirtual 29, [151, 1, 1], .null), (.invokevirtual 33, [148, 1, 1], .null), (.invokevirtual 37, [152, 1, 1], .null), (.invokevirtual 40, [149, 0, 1], .null), (.invokestatic 44, [157, 1], .null), (.ldc 47, [], .int 1000000), (.invokestatic 48, [192, 2], .null), (.invokevirtual 54, [9000, 0, 300], .null), (.invokevirtual 58, [9001, 1, 300], .null)]
theorem js_T_0 (F : jx_SF S dA aL aM adK) (cc : ByteArray) (pc : Nat) : ∀ r ∈ jl_T_0, jx_si S dA (jx_R1 sc aL aM adK) jx_df "JobHouse$Text" r.1 r.2.1 r.2.2 ∧ jx_sc S jx_P cc "JobHouse$Text" pc r.1 r.2.1 := by
  intro r hr
  simp only [jl_T_0, List.mem_cons, List.not_mem_nil, or_false] at hr
  rcases hr with rfl | rfl | rfl | rfl | rfl | rfl | rfl | rfl | rfl | rfl | rfl | rfl | rfl | rfl | rfl | rfl | rfl | rfl | rfl | rfl
  · exact ⟨trivial, ⟨9003, 0, rfl, fun q => absurd q (by decide), fun _ => ⟨rfl, rfl, jm_g1 41 rfl rfl, jm_g1 34 rfl rfl, jm_g1 35 rfl rfl⟩⟩⟩
  · exact ⟨⟨0, _, rfl, by decide, rfl, rfl, jm_g1 58 rfl rfl⟩, trivial⟩
  · exact ⟨⟨1, 0, 4, 1, .array .byte, rfl, by decide, Or.inr (Or.inr (Or.inr ⟨rfl, Or.inr ⟨_, rfl⟩⟩)), Or.inr ⟨rfl, ⟨jn_T1, 4, jn_y1, rfl, by decide, jn_i1, jn_o1, jn_n1, rfl, rfl, by decide +kernel, jm_g1 42 rfl rfl⟩⟩⟩, trivial⟩
  · exact ⟨⟨1, 3, 0, 0, .int, rfl, by decide, Or.inl ⟨rfl, rfl⟩, Or.inl ⟨rfl, ⟨_, jn_T1, 4, jn_y1, rfl, by decide, jn_i1, jn_o1, jn_n1, rfl, rfl, by decide +kernel, Or.inl (jm_g1 47 rfl rfl)⟩⟩⟩, trivial⟩
  · exact ⟨⟨1, 1, .int, false, rfl, by decide, ⟨_, jn_T1, 4, jn_y1, rfl, by decide, jn_i1, jn_o1, jn_n1, rfl, rfl, by decide +kernel, Or.inl (jm_g1 44 rfl rfl)⟩⟩, trivial⟩
  · exact ⟨⟨1, 0, .array .byte, true, rfl, by decide, ⟨_, jn_T1, 4, jn_y1, rfl, by decide, jn_i1, jn_o1, jn_n1, rfl, rfl, by decide +kernel, Or.inl (jm_g1 42 rfl rfl)⟩⟩, trivial⟩
  · exact ⟨⟨1, 1, 0, 0, .int, rfl, by decide, Or.inl ⟨rfl, rfl⟩, Or.inl ⟨rfl, ⟨_, jn_T1, 4, jn_y1, rfl, by decide, jn_i1, jn_o1, jn_n1, rfl, rfl, by decide +kernel, Or.inl (jm_g1 44 rfl rfl)⟩⟩⟩, trivial⟩
  · exact ⟨⟨1, 2, 0, 0, .int, rfl, by decide, Or.inl ⟨rfl, rfl⟩, Or.inl ⟨rfl, ⟨_, jn_T1, 4, jn_y1, rfl, by decide, jn_i1, jn_o1, jn_n1, rfl, rfl, by decide +kernel, Or.inl (jm_g1 45 rfl rfl)⟩⟩⟩, trivial⟩
  · exact ⟨⟨1, 3, .int, false, rfl, by decide, ⟨_, jn_T1, 4, jn_y1, rfl, by decide, jn_i1, jn_o1, jn_n1, rfl, rfl, by decide +kernel, Or.inl (jm_g1 47 rfl rfl)⟩⟩, trivial⟩
  · exact ⟨trivial, ⟨150, 0, 1, rfl, fun _ => ⟨by decide, jp_T_peek, _, _, rfl, ji_T_peek, Or.inl (jm_g2 203 rfl rfl), jm_g2 204 rfl rfl, jm_g2 205 rfl rfl, rfl⟩, fun q => absurd q (by decide)⟩⟩
  · exact ⟨⟨1, 2, .int, false, rfl, by decide, ⟨_, jn_T1, 4, jn_y1, rfl, by decide, jn_i1, jn_o1, jn_n1, rfl, rfl, by decide +kernel, Or.inl (jm_g1 45 rfl rfl)⟩⟩, trivial⟩
  · exact ⟨trivial, ⟨151, 1, 1, rfl, fun _ => ⟨by decide, jp_T_take, _, _, rfl, ji_T_take, Or.inl (jm_g2 211 rfl rfl), jm_g2 200 rfl rfl, jm_g2 201 rfl rfl, rfl⟩, fun q => absurd q (by decide)⟩⟩
  · exact ⟨trivial, ⟨148, 1, 1, rfl, fun _ => ⟨by decide, jp_T_breakAt, _, _, rfl, ji_T_breakAt, Or.inl (jm_g2 212 rfl rfl), jm_g2 213 rfl rfl, jm_g2 214 rfl rfl, rfl⟩, fun q => absurd q (by decide)⟩⟩
  · exact ⟨trivial, ⟨152, 1, 1, rfl, fun _ => ⟨by decide, jp_T_require, _, _, rfl, ji_T_require, Or.inl (jm_g2 235 rfl rfl), jm_g2 208 rfl rfl, jm_g2 209 rfl rfl, rfl⟩, fun q => absurd q (by decide)⟩⟩
  · exact ⟨trivial, ⟨149, 0, 1, rfl, fun _ => ⟨by decide, jp_T_isDone, _, _, rfl, ji_T_isDone, Or.inl (jm_g3 6 rfl rfl), jm_g2 228 rfl rfl, jm_g2 229 rfl rfl, rfl⟩, fun q => absurd q (by decide)⟩⟩
  · exact ⟨trivial, ⟨157, 1, rfl, fun _ => ⟨jp_T_isDigit, rfl, ji_T_isDigit, Or.inl (jm_g2 220 rfl rfl), jm_g2 221 rfl rfl⟩, fun q => absurd q (by decide)⟩⟩
  · exact ⟨Or.inl ⟨_, rfl, jm_g2 223 rfl rfl⟩, trivial⟩
  · exact ⟨trivial, ⟨192, 2, rfl, fun _ => ⟨jp_Math_min, rfl, ji_Math_min, Or.inl (jm_g2 224 rfl rfl), jm_g2 225 rfl rfl⟩, fun q => absurd q (by decide)⟩⟩
  · exact ⟨trivial, ⟨9000, 0, 300, rfl, fun q => absurd q (by decide), fun _ => ⟨rfl, Or.inl ⟨rfl, rfl, jm_g3 62 rfl rfl⟩⟩⟩⟩
  · exact ⟨trivial, ⟨9001, 1, 300, rfl, fun q => absurd q (by decide), fun _ => ⟨rfl, Or.inr ⟨rfl, rfl, jm_g3 72 rfl rfl⟩⟩⟩⟩
def jl_T : List (Instr × List Nat × Value) := jl_T_0
theorem js_T (F : jx_SF S dA aL aM adK) (cc : ByteArray) (pc : Nat) : ∀ r ∈ jl_T, jx_si S dA (jx_R1 sc aL aM adK) jx_df "JobHouse$Text" r.1 r.2.1 r.2.2 ∧ jx_sc S jx_P cc "JobHouse$Text" pc r.1 r.2.1 := by
  intro r hr
  exact js_T_0 F cc pc r hr
def jl_Y_0 : List (Instr × List Nat × Value) := [(.invokespecial 3, [9003, 0], .null), (.invokevirtual 9, [152, 1, 1], .null), (.invokevirtual 15, [155, 2, 1], .null), (.putfield 19, [3, 0, 0, 0], .null), (.putfield 25, [3, 1, 0, 0], .null), (.putfield 28, [3, 2, 0, 0], .null), (.putfield 31, [3, 3, 0, 0], .null), (.getfield 19, [3, 0], .null), (.invokestatic 34, [120, 2], .null), (.getfield 28, [3, 2], .null), (.invokestatic 39, [125, 1], .null), (.invokestatic 43, [188, 2], .null), (.getfield 25, [3, 1], .null), (.invokestatic 48, [121, 2], .null), (.ldc2_w 51, [], .long 86400), (.getfield 31, [3, 3], .null), (.invokestatic 53, [192, 2], .null), (.invokevirtual 56, [160, 1, 3], .null), (.ldc2_w 60, [], .long (-1152921504606846976)), (.invokestatic 62, [190, 2], .null), (.ldc2_w 65, [], .long 1152921504606846976)]
theorem js_Y_0 (F : jx_SF S dA aL aM adK) (cc : ByteArray) (pc : Nat) : ∀ r ∈ jl_Y_0, jx_si S dA (jx_R1 sc aL aM adK) jx_df "JobHouse$YearRule" r.1 r.2.1 r.2.2 ∧ jx_sc S jx_P cc "JobHouse$YearRule" pc r.1 r.2.1 := by
  intro r hr
  simp only [jl_Y_0, List.mem_cons, List.not_mem_nil, or_false] at hr
  rcases hr with rfl | rfl | rfl | rfl | rfl | rfl | rfl | rfl | rfl | rfl | rfl | rfl | rfl | rfl | rfl | rfl | rfl | rfl | rfl | rfl | rfl
  · exact ⟨trivial, ⟨9003, 0, rfl, fun q => absurd q (by decide), fun _ => ⟨rfl, rfl, jm_g1 119 rfl rfl, jm_g1 34 rfl rfl, jm_g1 35 rfl rfl⟩⟩⟩
  · exact ⟨trivial, ⟨152, 1, 1, rfl, fun _ => ⟨by decide, jp_T_require, _, _, rfl, ji_T_require, Or.inl (jm_g3 0 rfl rfl), jm_g2 208 rfl rfl, jm_g2 209 rfl rfl, rfl⟩, fun q => absurd q (by decide)⟩⟩
  · exact ⟨trivial, ⟨155, 2, 1, rfl, fun _ => ⟨by decide, jp_T_number, _, _, rfl, ji_T_number, Or.inl (jm_g3 1 rfl rfl), jm_g2 217 rfl rfl, jm_g2 218 rfl rfl, rfl⟩, fun q => absurd q (by decide)⟩⟩
  · exact ⟨⟨3, 0, 0, 0, .int, rfl, by decide, Or.inl ⟨rfl, rfl⟩, Or.inl ⟨rfl, ⟨_, jn_T3, 4, jn_y3, rfl, by decide, jn_i3, jn_o3, jn_n3, rfl, rfl, by decide +kernel, Or.inl (jm_g1 120 rfl rfl)⟩⟩⟩, trivial⟩
  · exact ⟨⟨3, 1, 0, 0, .int, rfl, by decide, Or.inl ⟨rfl, rfl⟩, Or.inl ⟨rfl, ⟨_, jn_T3, 4, jn_y3, rfl, by decide, jn_i3, jn_o3, jn_n3, rfl, rfl, by decide +kernel, Or.inl (jm_g1 121 rfl rfl)⟩⟩⟩, trivial⟩
  · exact ⟨⟨3, 2, 0, 0, .int, rfl, by decide, Or.inl ⟨rfl, rfl⟩, Or.inl ⟨rfl, ⟨_, jn_T3, 4, jn_y3, rfl, by decide, jn_i3, jn_o3, jn_n3, rfl, rfl, by decide +kernel, Or.inl (jm_g1 122 rfl rfl)⟩⟩⟩, trivial⟩
  · exact ⟨⟨3, 3, 0, 0, .int, rfl, by decide, Or.inl ⟨rfl, rfl⟩, Or.inl ⟨rfl, ⟨_, jn_T3, 4, jn_y3, rfl, by decide, jn_i3, jn_o3, jn_n3, rfl, rfl, by decide +kernel, Or.inl (jm_g1 123 rfl rfl)⟩⟩⟩, trivial⟩
  · exact ⟨⟨3, 0, .int, false, rfl, by decide, ⟨_, jn_T3, 4, jn_y3, rfl, by decide, jn_i3, jn_o3, jn_n3, rfl, rfl, by decide +kernel, Or.inl (jm_g1 120 rfl rfl)⟩⟩, trivial⟩
  · exact ⟨trivial, ⟨120, 2, rfl, fun _ => ⟨jp_D_firstOfMonth, rfl, ji_D_firstOfMonth, Or.inl (jm_g3 222 rfl rfl), jm_g3 210 rfl rfl⟩, fun q => absurd q (by decide)⟩⟩
  · exact ⟨⟨3, 2, .int, false, rfl, by decide, ⟨_, jn_T3, 4, jn_y3, rfl, by decide, jn_i3, jn_o3, jn_n3, rfl, rfl, by decide +kernel, Or.inl (jm_g1 122 rfl rfl)⟩⟩, trivial⟩
  · exact ⟨trivial, ⟨125, 1, rfl, fun _ => ⟨jp_D_weekdayOf, rfl, ji_D_weekdayOf, Or.inl (jm_g3 223 rfl rfl), jm_g3 224 rfl rfl⟩, fun q => absurd q (by decide)⟩⟩
  · exact ⟨trivial, ⟨188, 2, rfl, fun _ => ⟨jp_Math_floorMod, rfl, ji_Math_floorMod, Or.inl (jm_g3 226 rfl rfl), jm_g3 227 rfl rfl⟩, fun q => absurd q (by decide)⟩⟩
  · exact ⟨⟨3, 1, .int, false, rfl, by decide, ⟨_, jn_T3, 4, jn_y3, rfl, by decide, jn_i3, jn_o3, jn_n3, rfl, rfl, by decide +kernel, Or.inl (jm_g1 121 rfl rfl)⟩⟩, trivial⟩
  · exact ⟨trivial, ⟨121, 2, rfl, fun _ => ⟨jp_D_monthLength, rfl, ji_D_monthLength, Or.inl (jm_g3 229 rfl rfl), jm_g3 230 rfl rfl⟩, fun q => absurd q (by decide)⟩⟩
  · exact ⟨⟨_, rfl, jm_g3 232 rfl rfl⟩, trivial⟩
  · exact ⟨⟨3, 3, .int, false, rfl, by decide, ⟨_, jn_T3, 4, jn_y3, rfl, by decide, jn_i3, jn_o3, jn_n3, rfl, rfl, by decide +kernel, Or.inl (jm_g1 123 rfl rfl)⟩⟩, trivial⟩
  · exact ⟨trivial, ⟨192, 2, rfl, fun _ => ⟨jp_Math_min, rfl, ji_Math_min, Or.inl (jm_g3 217 rfl rfl), jm_g2 225 rfl rfl⟩, fun q => absurd q (by decide)⟩⟩
  · exact ⟨trivial, ⟨160, 1, 3, rfl, fun _ => ⟨by decide, jp_Y_secondIn, _, _, rfl, ji_Y_secondIn, Or.inl (jm_g3 218 rfl rfl), jm_g3 219 rfl rfl, jm_g3 220 rfl rfl, rfl⟩, fun q => absurd q (by decide)⟩⟩
  · exact ⟨⟨_, rfl, jm_g3 233 rfl rfl⟩, trivial⟩
  · exact ⟨trivial, ⟨190, 2, rfl, fun _ => ⟨jp_Math_max, rfl, ji_Math_max, Or.inl (jm_g3 238 rfl rfl), jm_g3 128 rfl rfl⟩, fun q => absurd q (by decide)⟩⟩
  · exact ⟨⟨_, rfl, jm_g3 239 rfl rfl⟩, trivial⟩
def jl_Y : List (Instr × List Nat × Value) := jl_Y_0
theorem js_Y (F : jx_SF S dA aL aM adK) (cc : ByteArray) (pc : Nat) : ∀ r ∈ jl_Y, jx_si S dA (jx_R1 sc aL aM adK) jx_df "JobHouse$YearRule" r.1 r.2.1 r.2.2 ∧ jx_sc S jx_P cc "JobHouse$YearRule" pc r.1 r.2.1 := by
  intro r hr
  exact js_Y_0 F cc pc r hr
def jl_Z_0 : List (Instr × List Nat × Value) := [(.invokespecial 3, [9003, 0], .null), (.new 9, [3], .null), (.invokespecial 11, [158, 0], .null), (.putfield 12, [2, 2, 4, 1], .null), (.putfield 18, [2, 3, 4, 1], .null), (.ldc2_w 21, [], .long (-1152921504606846976)), (.putfield 23, [2, 5, 1, 0], .null), (.putfield 27, [2, 1, 0, 0], .null), (.invokevirtual 31, [151, 1, 1], .null), (.invokevirtual 37, [152, 1, 1], .null), (.invokevirtual 41, [155, 2, 1], .null), (.putfield 45, [2, 0, 0, 0], .null), (.invokevirtual 48, [149, 0, 1], .null), (.invokevirtual 52, [153, 0, 1], .null), (.getfield 12, [2, 2], .null), (.invokevirtual 55, [159, 1, 3], .null), (.getfield 18, [2, 3], .null), (.invokevirtual 59, [154, 0, 1], .null), (.getfield 62, [2, 4], .null), (.getfield 23, [2, 5], .null), (.invokevirtual 65, [166, 1, 2], .null), (.getfield 69, [2, 6], .null), (.getfield 27, [2, 1], .null), (.putfield 62, [2, 4, 1, 0], .null), (.ldc2_w 72, [], .long 1152921504606846976), (.getfield 45, [2, 0], .null), (.putfield 69, [2, 6, 0, 0], .null), (.invokestatic 74, [122, 1], .null), (.invokestatic 80, [123, 1], .null), (.invokevirtual 84, [161, 3, 3], .null), (.invokevirtual 88, [162, 3, 3], .null), (.invokestatic 91, [191, 2], .null), (.invokestatic 97, [193, 2], .null)]
theorem js_Z_0 (F : jx_SF S dA aL aM adK) (cc : ByteArray) (pc : Nat) : ∀ r ∈ jl_Z_0, jx_si S dA (jx_R1 sc aL aM adK) jx_df "JobHouse$Zone" r.1 r.2.1 r.2.2 ∧ jx_sc S jx_P cc "JobHouse$Zone" pc r.1 r.2.1 := by
  intro r hr
  simp only [jl_Z_0, List.mem_cons, List.not_mem_nil, or_false] at hr
  rcases hr with rfl | rfl | rfl | rfl | rfl | rfl | rfl | rfl | rfl | rfl | rfl | rfl | rfl | rfl | rfl | rfl | rfl | rfl | rfl | rfl | rfl | rfl | rfl | rfl | rfl | rfl | rfl | rfl | rfl | rfl | rfl | rfl | rfl
  · exact ⟨trivial, ⟨9003, 0, rfl, fun q => absurd q (by decide), fun _ => ⟨rfl, rfl, jm_g1 113 rfl rfl, jm_g1 34 rfl rfl, jm_g1 35 rfl rfl⟩⟩⟩
  · exact ⟨⟨3, rfl, fun fs hfs => by
      cases hfs
      exact ⟨_, jn_T3, jn_y3, rfl, jn_i3, jn_o3, by decide +kernel, jm_g1 114 rfl rfl, jm_g1 115 rfl rfl, jm_g1 7 rfl rfl⟩⟩, ⟨3, rfl, fun q => absurd q (by decide)⟩⟩
  · exact ⟨trivial, ⟨158, 0, rfl, fun _ => ⟨jp_Y_init, rfl, ji_Y_init, Or.inr ⟨_, jm_g1 116 rfl rfl⟩, jm_g1 117 rfl rfl, rfl, rfl, rfl⟩, fun q => absurd q (by decide)⟩⟩
  · exact ⟨⟨2, 2, 4, 1, .object "JobHouse$YearRule", rfl, by decide, Or.inr (Or.inr (Or.inr ⟨rfl, Or.inl ⟨_, rfl⟩⟩)), Or.inr ⟨rfl, ⟨jn_T2, 7, jn_y2, rfl, by decide, jn_i2, jn_o2, jn_n2, rfl, rfl, by decide +kernel, jm_g1 138 rfl rfl⟩⟩⟩, trivial⟩
  · exact ⟨⟨2, 3, 4, 1, .object "JobHouse$YearRule", rfl, by decide, Or.inr (Or.inr (Or.inr ⟨rfl, Or.inl ⟨_, rfl⟩⟩)), Or.inr ⟨rfl, ⟨jn_T2, 7, jn_y2, rfl, by decide, jn_i2, jn_o2, jn_n2, rfl, rfl, by decide +kernel, jm_g1 139 rfl rfl⟩⟩⟩, trivial⟩
  · exact ⟨⟨_, rfl, jm_g1 133 rfl rfl⟩, trivial⟩
  · exact ⟨⟨2, 5, 1, 0, .long, rfl, by decide, Or.inr (Or.inl ⟨rfl, rfl⟩), Or.inl ⟨rfl, ⟨_, jn_T2, 7, jn_y2, rfl, by decide, jn_i2, jn_o2, jn_n2, rfl, rfl, by decide +kernel, Or.inl (jm_g1 142 rfl rfl)⟩⟩⟩, trivial⟩
  · exact ⟨⟨2, 1, 0, 0, .int, rfl, by decide, Or.inl ⟨rfl, rfl⟩, Or.inl ⟨rfl, ⟨_, jn_T2, 7, jn_y2, rfl, by decide, jn_i2, jn_o2, jn_n2, rfl, rfl, by decide +kernel, Or.inl (jm_g1 136 rfl rfl)⟩⟩⟩, trivial⟩
  · exact ⟨trivial, ⟨151, 1, 1, rfl, fun _ => ⟨by decide, jp_T_take, _, _, rfl, ji_T_take, Or.inl (jm_g2 199 rfl rfl), jm_g2 200 rfl rfl, jm_g2 201 rfl rfl, rfl⟩, fun q => absurd q (by decide)⟩⟩
  · exact ⟨trivial, ⟨152, 1, 1, rfl, fun _ => ⟨by decide, jp_T_require, _, _, rfl, ji_T_require, Or.inl (jm_g2 207 rfl rfl), jm_g2 208 rfl rfl, jm_g2 209 rfl rfl, rfl⟩, fun q => absurd q (by decide)⟩⟩
  · exact ⟨trivial, ⟨155, 2, 1, rfl, fun _ => ⟨by decide, jp_T_number, _, _, rfl, ji_T_number, Or.inl (jm_g2 216 rfl rfl), jm_g2 217 rfl rfl, jm_g2 218 rfl rfl, rfl⟩, fun q => absurd q (by decide)⟩⟩
  · exact ⟨⟨2, 0, 0, 0, .int, rfl, by decide, Or.inl ⟨rfl, rfl⟩, Or.inl ⟨rfl, ⟨_, jn_T2, 7, jn_y2, rfl, by decide, jn_i2, jn_o2, jn_n2, rfl, rfl, by decide +kernel, Or.inl (jm_g1 134 rfl rfl)⟩⟩⟩, trivial⟩
  · exact ⟨trivial, ⟨149, 0, 1, rfl, fun _ => ⟨by decide, jp_T_isDone, _, _, rfl, ji_T_isDone, Or.inl (jm_g2 227 rfl rfl), jm_g2 228 rfl rfl, jm_g2 229 rfl rfl, rfl⟩, fun q => absurd q (by decide)⟩⟩
  · exact ⟨trivial, ⟨153, 0, 1, rfl, fun _ => ⟨by decide, jp_T_requireBlanks, _, _, rfl, ji_T_requireBlanks, Or.inl (jm_g2 231 rfl rfl), jm_g2 232 rfl rfl, jm_g2 233 rfl rfl, rfl⟩, fun q => absurd q (by decide)⟩⟩
  · exact ⟨⟨2, 2, .object "JobHouse$YearRule", true, rfl, by decide, ⟨_, jn_T2, 7, jn_y2, rfl, by decide, jn_i2, jn_o2, jn_n2, rfl, rfl, by decide +kernel, Or.inl (jm_g1 138 rfl rfl)⟩⟩, trivial⟩
  · exact ⟨trivial, ⟨159, 1, 3, rfl, fun _ => ⟨by decide, jp_Y_readFrom, _, _, rfl, ji_Y_readFrom, Or.inl (jm_g2 236 rfl rfl), jm_g2 237 rfl rfl, jm_g2 238 rfl rfl, rfl⟩, fun q => absurd q (by decide)⟩⟩
  · exact ⟨⟨2, 3, .object "JobHouse$YearRule", true, rfl, by decide, ⟨_, jn_T2, 7, jn_y2, rfl, by decide, jn_i2, jn_o2, jn_n2, rfl, rfl, by decide +kernel, Or.inl (jm_g1 139 rfl rfl)⟩⟩, trivial⟩
  · exact ⟨trivial, ⟨154, 0, 1, rfl, fun _ => ⟨by decide, jp_T_requireEnd, _, _, rfl, ji_T_requireEnd, Or.inl (jm_g3 2 rfl rfl), jm_g3 3 rfl rfl, jm_g3 4 rfl rfl, rfl⟩, fun q => absurd q (by decide)⟩⟩
  · exact ⟨⟨2, 4, .long, false, rfl, by decide, ⟨_, jn_T2, 7, jn_y2, rfl, by decide, jn_i2, jn_o2, jn_n2, rfl, rfl, by decide +kernel, Or.inl (jm_g1 140 rfl rfl)⟩⟩, trivial⟩
  · exact ⟨⟨2, 5, .long, false, rfl, by decide, ⟨_, jn_T2, 7, jn_y2, rfl, by decide, jn_i2, jn_o2, jn_n2, rfl, rfl, by decide +kernel, Or.inl (jm_g1 142 rfl rfl)⟩⟩, trivial⟩
  · exact ⟨trivial, ⟨166, 1, 2, rfl, fun _ => ⟨by decide, jp_Z_findStretch, _, _, rfl, ji_Z_findStretch, Or.inl (jm_g3 190 rfl rfl), jm_g3 192 rfl rfl, jm_g0 3 rfl rfl, rfl⟩, fun q => absurd q (by decide)⟩⟩
  · exact ⟨⟨2, 6, .int, false, rfl, by decide, ⟨_, jn_T2, 7, jn_y2, rfl, by decide, jn_i2, jn_o2, jn_n2, rfl, rfl, by decide +kernel, Or.inl (jm_g1 145 rfl rfl)⟩⟩, trivial⟩
  · exact ⟨⟨2, 1, .int, false, rfl, by decide, ⟨_, jn_T2, 7, jn_y2, rfl, by decide, jn_i2, jn_o2, jn_n2, rfl, rfl, by decide +kernel, Or.inl (jm_g1 136 rfl rfl)⟩⟩, trivial⟩
  · exact ⟨⟨2, 4, 1, 0, .long, rfl, by decide, Or.inr (Or.inl ⟨rfl, rfl⟩), Or.inl ⟨rfl, ⟨_, jn_T2, 7, jn_y2, rfl, by decide, jn_i2, jn_o2, jn_n2, rfl, rfl, by decide +kernel, Or.inl (jm_g1 140 rfl rfl)⟩⟩⟩, trivial⟩
  · exact ⟨⟨_, rfl, jm_g3 194 rfl rfl⟩, trivial⟩
  · exact ⟨⟨2, 0, .int, false, rfl, by decide, ⟨_, jn_T2, 7, jn_y2, rfl, by decide, jn_i2, jn_o2, jn_n2, rfl, rfl, by decide +kernel, Or.inl (jm_g1 134 rfl rfl)⟩⟩, trivial⟩
  · exact ⟨⟨2, 6, 0, 0, .int, rfl, by decide, Or.inl ⟨rfl, rfl⟩, Or.inl ⟨rfl, ⟨_, jn_T2, 7, jn_y2, rfl, by decide, jn_i2, jn_o2, jn_n2, rfl, rfl, by decide +kernel, Or.inl (jm_g1 145 rfl rfl)⟩⟩⟩, trivial⟩
  · exact ⟨trivial, ⟨122, 1, rfl, fun _ => ⟨jp_D_dayOf, rfl, ji_D_dayOf, Or.inl (jm_g3 195 rfl rfl), jm_g3 196 rfl rfl⟩, fun q => absurd q (by decide)⟩⟩
  · exact ⟨trivial, ⟨123, 1, rfl, fun _ => ⟨jp_D_yearOf, rfl, ji_D_yearOf, Or.inl (jm_g3 202 rfl rfl), jm_g3 203 rfl rfl⟩, fun q => absurd q (by decide)⟩⟩
  · exact ⟨trivial, ⟨161, 3, 3, rfl, fun _ => ⟨by decide, jp_Y_latestUpTo, _, _, rfl, ji_Y_latestUpTo, Or.inl (jm_g3 213 rfl rfl), jm_g3 214 rfl rfl, jm_g3 215 rfl rfl, rfl⟩, fun q => absurd q (by decide)⟩⟩
  · exact ⟨trivial, ⟨162, 3, 3, rfl, fun _ => ⟨by decide, jp_Y_firstBehind, _, _, rfl, ji_Y_firstBehind, Or.inl (jm_g3 234 rfl rfl), jm_g3 235 rfl rfl, jm_g3 236 rfl rfl, rfl⟩, fun q => absurd q (by decide)⟩⟩
  · exact ⟨trivial, ⟨191, 2, rfl, fun _ => ⟨jp_Math_max2, rfl, ji_Math_max2, Or.inl (jm_g4 0 rfl rfl), jm_g4 1 rfl rfl⟩, fun q => absurd q (by decide)⟩⟩
  · exact ⟨trivial, ⟨193, 2, rfl, fun _ => ⟨jp_Math_min2, rfl, ji_Math_min2, Or.inl (jm_g4 3 rfl rfl), jm_g4 4 rfl rfl⟩, fun q => absurd q (by decide)⟩⟩
def jl_Z : List (Instr × List Nat × Value) := jl_Z_0
theorem js_Z (F : jx_SF S dA aL aM adK) (cc : ByteArray) (pc : Nat) : ∀ r ∈ jl_Z, jx_si S dA (jx_R1 sc aL aM adK) jx_df "JobHouse$Zone" r.1 r.2.1 r.2.2 ∧ jx_sc S jx_P cc "JobHouse$Zone" pc r.1 r.2.1 := by
  intro r hr
  exact js_Z_0 F cc pc r hr
def jl_W_0 : List (Instr × List Nat × Value) := [(.invokevirtual 7, [1, 5, 0], .null), (.invokevirtual 15, [2, 1, 0], .null), (.invokevirtual 21, [3, 1, 0], .null), (.invokevirtual 27, [4, 1, 0], .null), (.invokevirtual 30, [5, 3, 0], .null), (.invokevirtual 34, [6, 4, 0], .null), (.invokevirtual 38, [7, 4, 0], .null), (.invokevirtual 41, [8, 3, 0], .null), (.invokevirtual 45, [9, 7, 0], .null), (.invokevirtual 51, [10, 7, 0], .null), (.invokevirtual 55, [11, 1, 0], .null), (.invokevirtual 60, [12, 1, 0], .null), (.invokevirtual 63, [13, 1, 0], .null), (.invokevirtual 67, [14, 1, 0], .null), (.invokevirtual 71, [15, 2, 0], .null), (.invokevirtual 75, [16, 2, 0], .null), (.invokevirtual 79, [17, 2, 0], .null), (.invokevirtual 82, [18, 1, 0], .null), (.new 8, [0], .null), (.invokespecial 86, [0, 0], .null), (.new 87, [9], .null), (.invokespecial 89, [36, 0], .null), (.newarray .long, [3], .null), (.invokestatic 90, [167, 7], .null), (.invokevirtual 95, [92, 5, 9], .null), (.invokevirtual 96, [37, 0, 9], .null), (.invokestatic 100, [168, 3], .null), (.invokevirtual 103, [93, 1, 9], .null), (.invokestatic 104, [169, 2], .null), (.invokevirtual 107, [53, 1, 9], .null), (.invokestatic 108, [170, 2], .null), (.invokevirtual 110, [63, 1, 9], .null), (.invokestatic 111, [171, 5], .null), (.invokevirtual 114, [64, 3, 9], .null), (.ldc2_w 115, [], .long 4294967295), (.invokestatic 117, [172, 6], .null), (.invokevirtual 120, [72, 4, 9], .null), (.invokestatic 121, [173, 6], .null), (.invokevirtual 123, [73, 4, 9], .null), (.invokestatic 124, [174, 5], .null), (.invokevirtual 127, [74, 3, 9], .null), (.invokestatic 128, [175, 9], .null), (.invokevirtual 131, [76, 7, 9], .null), (.invokestatic 132, [176, 9], .null), (.invokevirtual 135, [77, 7, 9], .null), (.invokestatic 136, [177, 3], .null), (.invokevirtual 138, [79, 1, 9], .null), (.invokestatic 139, [178, 3], .null), (.invokevirtual 141, [80, 1, 9], .null), (.invokestatic 142, [179, 3], .null), (.invokevirtual 145, [86, 1, 9], .null), (.invokestatic 146, [180, 2], .null), (.invokevirtual 149, [87, 1, 9], .null), (.invokestatic 150, [181, 4], .null), (.invokevirtual 153, [89, 2, 9], .null), (.invokestatic 154, [182, 4], .null), (.invokevirtual 157, [90, 2, 9], .null), (.invokestatic 158, [183, 4], .null), (.invokevirtual 160, [91, 2, 9], .null), (.invokestatic 161, [184, 3], .null)]
theorem js_W_0 (F : jx_SF S dA aL aM adK) (cc : ByteArray) (pc : Nat) : ∀ r ∈ jl_W_0, jx_si S dA (jx_R1 sc aL aM adK) jx_df "JobHouseLaw" r.1 r.2.1 r.2.2 ∧ jx_sc S jx_P cc "JobHouseLaw" pc r.1 r.2.1 := by
  intro r hr
  simp only [jl_W_0, List.mem_cons, List.not_mem_nil, or_false] at hr
  rcases hr with rfl | rfl | rfl | rfl | rfl | rfl | rfl | rfl | rfl | rfl | rfl | rfl | rfl | rfl | rfl | rfl | rfl | rfl | rfl | rfl | rfl | rfl | rfl | rfl | rfl | rfl | rfl | rfl | rfl | rfl | rfl | rfl | rfl | rfl | rfl | rfl | rfl | rfl | rfl | rfl | rfl | rfl | rfl | rfl | rfl | rfl | rfl | rfl | rfl | rfl | rfl | rfl | rfl | rfl | rfl | rfl | rfl | rfl | rfl | rfl
  · exact ⟨trivial, ⟨1, 5, 0, rfl, fun _ => ⟨by decide, jp_J_feed, _, _, rfl, ji_J_feed, Or.inl (jm_g2 83 rfl rfl), jm_g2 84 rfl rfl, jm_g2 85 rfl rfl, rfl⟩, fun q => absurd q (by decide)⟩⟩
  · exact ⟨trivial, ⟨2, 1, 0, rfl, fun _ => ⟨by decide, jp_J_end, _, _, rfl, ji_J_end, Or.inl (jm_g2 160 rfl rfl), jm_g2 161 rfl rfl, jm_g2 162 rfl rfl, rfl⟩, fun q => absurd q (by decide)⟩⟩
  · exact ⟨trivial, ⟨3, 1, 0, rfl, fun _ => ⟨by decide, jp_J_zone, _, _, rfl, ji_J_zone, Or.inl (jm_g2 186 rfl rfl), jm_g2 187 rfl rfl, jm_g2 188 rfl rfl, rfl⟩, fun q => absurd q (by decide)⟩⟩
  · exact ⟨trivial, ⟨4, 1, 0, rfl, fun _ => ⟨by decide, jp_J_cron, _, _, rfl, ji_J_cron, Or.inl (jm_g3 29 rfl rfl), jm_g3 30 rfl rfl, jm_g3 31 rfl rfl, rfl⟩, fun q => absurd q (by decide)⟩⟩
  · exact ⟨trivial, ⟨5, 3, 0, rfl, fun _ => ⟨by decide, jp_J_holiday, _, _, rfl, ji_J_holiday, Or.inl (jm_g3 143 rfl rfl), jm_g3 144 rfl rfl, jm_g3 145 rfl rfl, rfl⟩, fun q => absurd q (by decide)⟩⟩
  · exact ⟨trivial, ⟨6, 4, 0, rfl, fun _ => ⟨by decide, jp_J_next, _, _, rfl, ji_J_next, Or.inl (jm_g3 167 rfl rfl), jm_g3 168 rfl rfl, jm_g3 169 rfl rfl, rfl⟩, fun q => absurd q (by decide)⟩⟩
  · exact ⟨trivial, ⟨7, 4, 0, rfl, fun _ => ⟨by decide, jp_J_last, _, _, rfl, ji_J_last, Or.inl (jm_g4 75 rfl rfl), jm_g4 76 rfl rfl, jm_g4 77 rfl rfl, rfl⟩, fun q => absurd q (by decide)⟩⟩
  · exact ⟨trivial, ⟨8, 3, 0, rfl, fun _ => ⟨by decide, jp_J_local, _, _, rfl, ji_J_local, Or.inl (jm_g4 110 rfl rfl), jm_g4 111 rfl rfl, jm_g4 112 rfl rfl, rfl⟩, fun q => absurd q (by decide)⟩⟩
  · exact ⟨trivial, ⟨9, 7, 0, rfl, fun _ => ⟨by decide, jp_J_make, _, _, rfl, ji_J_make, Or.inl (jm_g4 129 rfl rfl), jm_g4 130 rfl rfl, jm_g4 131 rfl rfl, rfl⟩, fun q => absurd q (by decide)⟩⟩
  · exact ⟨trivial, ⟨10, 7, 0, rfl, fun _ => ⟨by decide, jp_J_makeCron, _, _, rfl, ji_J_makeCron, Or.inl (jm_g4 171 rfl rfl), jm_g4 172 rfl rfl, jm_g4 173 rfl rfl, rfl⟩, fun q => absurd q (by decide)⟩⟩
  · exact ⟨trivial, ⟨11, 1, 0, rfl, fun _ => ⟨by decide, jp_J_cancel, _, _, rfl, ji_J_cancel, Or.inl (jm_g4 179 rfl rfl), jm_g4 180 rfl rfl, jm_g4 181 rfl rfl, rfl⟩, fun q => absurd q (by decide)⟩⟩
  · exact ⟨trivial, ⟨12, 1, 0, rfl, fun _ => ⟨by decide, jp_J_workers, _, _, rfl, ji_J_workers, Or.inl (jm_g4 209 rfl rfl), jm_g4 210 rfl rfl, jm_g4 211 rfl rfl, rfl⟩, fun q => absurd q (by decide)⟩⟩
  · exact ⟨trivial, ⟨13, 1, 0, rfl, fun _ => ⟨by decide, jp_J_advance, _, _, rfl, ji_J_advance, Or.inl (jm_g4 217 rfl rfl), jm_g4 218 rfl rfl, jm_g4 219 rfl rfl, rfl⟩, fun q => absurd q (by decide)⟩⟩
  · exact ⟨trivial, ⟨14, 1, 0, rfl, fun _ => ⟨by decide, jp_J_stall, _, _, rfl, ji_J_stall, Or.inl (jm_g5 31 rfl rfl), jm_g5 32 rfl rfl, jm_g5 33 rfl rfl, rfl⟩, fun q => absurd q (by decide)⟩⟩
  · exact ⟨trivial, ⟨15, 2, 0, rfl, fun _ => ⟨by decide, jp_J_close, _, _, rfl, ji_J_close, Or.inl (jm_g5 38 rfl rfl), jm_g5 39 rfl rfl, jm_g5 40 rfl rfl, rfl⟩, fun q => absurd q (by decide)⟩⟩
  · exact ⟨trivial, ⟨16, 2, 0, rfl, fun _ => ⟨by decide, jp_J_job, _, _, rfl, ji_J_job, Or.inl (jm_g5 45 rfl rfl), jm_g5 46 rfl rfl, jm_g5 47 rfl rfl, rfl⟩, fun q => absurd q (by decide)⟩⟩
  · exact ⟨trivial, ⟨17, 2, 0, rfl, fun _ => ⟨by decide, jp_J_start, _, _, rfl, ji_J_start, Or.inl (jm_g5 53 rfl rfl), jm_g5 54 rfl rfl, jm_g5 55 rfl rfl, rfl⟩, fun q => absurd q (by decide)⟩⟩
  · exact ⟨trivial, ⟨18, 1, 0, rfl, fun _ => ⟨by decide, jp_J_count, _, _, rfl, ji_J_count, Or.inl (jm_g5 60 rfl rfl), jm_g5 61 rfl rfl, jm_g5 62 rfl rfl, rfl⟩, fun q => absurd q (by decide)⟩⟩
  · exact ⟨⟨0, rfl, fun fs hfs => by
      cases hfs
      exact ⟨_, jn_T0, jn_y0, rfl, jn_i0, jn_o0, by decide +kernel, jm_g1 28 rfl rfl, jm_g1 29 rfl rfl, jm_g1 1 rfl rfl⟩⟩, ⟨0, rfl, fun q => absurd q (by decide)⟩⟩
  · exact ⟨trivial, ⟨0, 0, rfl, fun _ => ⟨jp_J_init, rfl, ji_J_init, Or.inl (jm_g1 30 rfl rfl), jm_g1 31 rfl rfl, rfl, rfl, rfl⟩, fun q => absurd q (by decide)⟩⟩
  · exact ⟨⟨9, rfl, fun fs hfs => by
      cases hfs
      exact ⟨_, jn_T9, jn_y9, rfl, jn_i9, jn_o9, by decide +kernel, jm_g5 65 rfl rfl, jm_g5 66 rfl rfl, jm_g1 10 rfl rfl⟩⟩, ⟨9, rfl, fun q => absurd q (by decide)⟩⟩
  · exact ⟨trivial, ⟨36, 0, rfl, fun _ => ⟨jp_M_init, rfl, ji_M_init, Or.inl (jm_g5 67 rfl rfl), jm_g5 68 rfl rfl, rfl, rfl, rfl⟩, fun q => absurd q (by decide)⟩⟩
  · exact ⟨⟨3, _, rfl, by decide, rfl, rfl, jm_g1 107 rfl rfl⟩, trivial⟩
  · exact ⟨trivial, ⟨167, 7, rfl, fun _ => ⟨jp_W_feed, rfl, ji_W_feed, Or.inl (jm_g2 79 rfl rfl), jm_g2 80 rfl rfl⟩, fun q => absurd q (by decide)⟩⟩
  · exact ⟨trivial, ⟨92, 5, 9, rfl, fun _ => ⟨by decide, jp_M_feed, _, _, rfl, ji_M_feed, Or.inl (jm_g7 14 rfl rfl), jm_g7 15 rfl rfl, jm_g7 16 rfl rfl, rfl⟩, fun q => absurd q (by decide)⟩⟩
  · exact ⟨trivial, ⟨37, 0, 9, rfl, fun _ => ⟨by decide, jp_M_thrown, _, _, rfl, ji_M_thrown, Or.inl (jm_g6 13 rfl rfl), jm_g6 14 rfl rfl, jm_g6 15 rfl rfl, rfl⟩, fun q => absurd q (by decide)⟩⟩
  · exact ⟨trivial, ⟨168, 3, rfl, fun _ => ⟨jp_W_end, rfl, ji_W_end, Or.inl (jm_g2 156 rfl rfl), jm_g2 157 rfl rfl⟩, fun q => absurd q (by decide)⟩⟩
  · exact ⟨trivial, ⟨93, 1, 9, rfl, fun _ => ⟨by decide, jp_M_end, _, _, rfl, ji_M_end, Or.inl (jm_g7 18 rfl rfl), jm_g7 19 rfl rfl, jm_g7 20 rfl rfl, rfl⟩, fun q => absurd q (by decide)⟩⟩
  · exact ⟨trivial, ⟨169, 2, rfl, fun _ => ⟨jp_W_zone, rfl, ji_W_zone, Or.inl (jm_g2 182 rfl rfl), jm_g2 183 rfl rfl⟩, fun q => absurd q (by decide)⟩⟩
  · exact ⟨trivial, ⟨53, 1, 9, rfl, fun _ => ⟨by decide, jp_M_zone, _, _, rfl, ji_M_zone, Or.inl (jm_g6 17 rfl rfl), jm_g6 18 rfl rfl, jm_g6 19 rfl rfl, rfl⟩, fun q => absurd q (by decide)⟩⟩
  · exact ⟨trivial, ⟨170, 2, rfl, fun _ => ⟨jp_W_cron, rfl, ji_W_cron, Or.inl (jm_g3 26 rfl rfl), jm_g3 27 rfl rfl⟩, fun q => absurd q (by decide)⟩⟩
  · exact ⟨trivial, ⟨63, 1, 9, rfl, fun _ => ⟨by decide, jp_M_cron, _, _, rfl, ji_M_cron, Or.inl (jm_g6 79 rfl rfl), jm_g6 80 rfl rfl, jm_g6 81 rfl rfl, rfl⟩, fun q => absurd q (by decide)⟩⟩
  · exact ⟨trivial, ⟨171, 5, rfl, fun _ => ⟨jp_W_holiday, rfl, ji_W_holiday, Or.inl (jm_g3 140 rfl rfl), jm_g3 141 rfl rfl⟩, fun q => absurd q (by decide)⟩⟩
  · exact ⟨trivial, ⟨64, 3, 9, rfl, fun _ => ⟨by decide, jp_M_holiday, _, _, rfl, ji_M_holiday, Or.inl (jm_g6 111 rfl rfl), jm_g6 112 rfl rfl, jm_g6 113 rfl rfl, rfl⟩, fun q => absurd q (by decide)⟩⟩
  · exact ⟨⟨_, rfl, jm_g7 26 rfl rfl⟩, trivial⟩
  · exact ⟨trivial, ⟨172, 6, rfl, fun _ => ⟨jp_W_next, rfl, ji_W_next, Or.inl (jm_g3 164 rfl rfl), jm_g3 165 rfl rfl⟩, fun q => absurd q (by decide)⟩⟩
  · exact ⟨trivial, ⟨72, 4, 9, rfl, fun _ => ⟨by decide, jp_M_next, _, _, rfl, ji_M_next, Or.inl (jm_g6 120 rfl rfl), jm_g6 121 rfl rfl, jm_g6 122 rfl rfl, rfl⟩, fun q => absurd q (by decide)⟩⟩
  · exact ⟨trivial, ⟨173, 6, rfl, fun _ => ⟨jp_W_last, rfl, ji_W_last, Or.inl (jm_g4 72 rfl rfl), jm_g4 73 rfl rfl⟩, fun q => absurd q (by decide)⟩⟩
  · exact ⟨trivial, ⟨73, 4, 9, rfl, fun _ => ⟨by decide, jp_M_last, _, _, rfl, ji_M_last, Or.inl (jm_g6 166 rfl rfl), jm_g6 167 rfl rfl, jm_g6 168 rfl rfl, rfl⟩, fun q => absurd q (by decide)⟩⟩
  · exact ⟨trivial, ⟨174, 5, rfl, fun _ => ⟨jp_W_local, rfl, ji_W_local, Or.inl (jm_g4 107 rfl rfl), jm_g4 108 rfl rfl⟩, fun q => absurd q (by decide)⟩⟩
  · exact ⟨trivial, ⟨74, 3, 9, rfl, fun _ => ⟨by decide, jp_M_local, _, _, rfl, ji_M_local, Or.inl (jm_g6 180 rfl rfl), jm_g6 181 rfl rfl, jm_g6 182 rfl rfl, rfl⟩, fun q => absurd q (by decide)⟩⟩
  · exact ⟨trivial, ⟨175, 9, rfl, fun _ => ⟨jp_W_make, rfl, ji_W_make, Or.inl (jm_g4 125 rfl rfl), jm_g4 126 rfl rfl⟩, fun q => absurd q (by decide)⟩⟩
  · exact ⟨trivial, ⟨76, 7, 9, rfl, fun _ => ⟨by decide, jp_M_make, _, _, rfl, ji_M_make, Or.inl (jm_g6 184 rfl rfl), jm_g6 185 rfl rfl, jm_g6 186 rfl rfl, rfl⟩, fun q => absurd q (by decide)⟩⟩
  · exact ⟨trivial, ⟨176, 9, rfl, fun _ => ⟨jp_W_makeCron, rfl, ji_W_makeCron, Or.inl (jm_g4 168 rfl rfl), jm_g4 169 rfl rfl⟩, fun q => absurd q (by decide)⟩⟩
  · exact ⟨trivial, ⟨77, 7, 9, rfl, fun _ => ⟨by decide, jp_M_makeCron, _, _, rfl, ji_M_makeCron, Or.inl (jm_g6 193 rfl rfl), jm_g6 194 rfl rfl, jm_g6 195 rfl rfl, rfl⟩, fun q => absurd q (by decide)⟩⟩
  · exact ⟨trivial, ⟨177, 3, rfl, fun _ => ⟨jp_W_cancel, rfl, ji_W_cancel, Or.inl (jm_g4 175 rfl rfl), jm_g4 176 rfl rfl⟩, fun q => absurd q (by decide)⟩⟩
  · exact ⟨trivial, ⟨79, 1, 9, rfl, fun _ => ⟨by decide, jp_M_cancel, _, _, rfl, ji_M_cancel, Or.inl (jm_g6 197 rfl rfl), jm_g6 198 rfl rfl, jm_g6 199 rfl rfl, rfl⟩, fun q => absurd q (by decide)⟩⟩
  · exact ⟨trivial, ⟨178, 3, rfl, fun _ => ⟨jp_W_workers, rfl, ji_W_workers, Or.inl (jm_g4 206 rfl rfl), jm_g4 207 rfl rfl⟩, fun q => absurd q (by decide)⟩⟩
  · exact ⟨trivial, ⟨80, 1, 9, rfl, fun _ => ⟨by decide, jp_M_workers, _, _, rfl, ji_M_workers, Or.inl (jm_g6 205 rfl rfl), jm_g6 206 rfl rfl, jm_g6 207 rfl rfl, rfl⟩, fun q => absurd q (by decide)⟩⟩
  · exact ⟨trivial, ⟨179, 3, rfl, fun _ => ⟨jp_W_advance, rfl, ji_W_advance, Or.inl (jm_g4 214 rfl rfl), jm_g4 215 rfl rfl⟩, fun q => absurd q (by decide)⟩⟩
  · exact ⟨trivial, ⟨86, 1, 9, rfl, fun _ => ⟨by decide, jp_M_advance, _, _, rfl, ji_M_advance, Or.inl (jm_g6 209 rfl rfl), jm_g6 210 rfl rfl, jm_g6 211 rfl rfl, rfl⟩, fun q => absurd q (by decide)⟩⟩
  · exact ⟨trivial, ⟨180, 2, rfl, fun _ => ⟨jp_W_stall, rfl, ji_W_stall, Or.inl (jm_g5 28 rfl rfl), jm_g5 29 rfl rfl⟩, fun q => absurd q (by decide)⟩⟩
  · exact ⟨trivial, ⟨87, 1, 9, rfl, fun _ => ⟨by decide, jp_M_stall, _, _, rfl, ji_M_stall, Or.inl (jm_g6 234 rfl rfl), jm_g6 235 rfl rfl, jm_g6 236 rfl rfl, rfl⟩, fun q => absurd q (by decide)⟩⟩
  · exact ⟨trivial, ⟨181, 4, rfl, fun _ => ⟨jp_W_close, rfl, ji_W_close, Or.inl (jm_g5 35 rfl rfl), jm_g5 36 rfl rfl⟩, fun q => absurd q (by decide)⟩⟩
  · exact ⟨trivial, ⟨89, 2, 9, rfl, fun _ => ⟨by decide, jp_M_close, _, _, rfl, ji_M_close, Or.inl (jm_g6 238 rfl rfl), jm_g6 239 rfl rfl, jm_g7 0 rfl rfl, rfl⟩, fun q => absurd q (by decide)⟩⟩
  · exact ⟨trivial, ⟨182, 4, rfl, fun _ => ⟨jp_W_job, rfl, ji_W_job, Or.inl (jm_g5 42 rfl rfl), jm_g5 43 rfl rfl⟩, fun q => absurd q (by decide)⟩⟩
  · exact ⟨trivial, ⟨90, 2, 9, rfl, fun _ => ⟨by decide, jp_M_job, _, _, rfl, ji_M_job, Or.inl (jm_g7 6 rfl rfl), jm_g7 7 rfl rfl, jm_g7 8 rfl rfl, rfl⟩, fun q => absurd q (by decide)⟩⟩
  · exact ⟨trivial, ⟨183, 4, rfl, fun _ => ⟨jp_W_start, rfl, ji_W_start, Or.inl (jm_g5 50 rfl rfl), jm_g5 51 rfl rfl⟩, fun q => absurd q (by decide)⟩⟩
  · exact ⟨trivial, ⟨91, 2, 9, rfl, fun _ => ⟨by decide, jp_M_start, _, _, rfl, ji_M_start, Or.inl (jm_g7 10 rfl rfl), jm_g7 11 rfl rfl, jm_g7 12 rfl rfl, rfl⟩, fun q => absurd q (by decide)⟩⟩
  · exact ⟨trivial, ⟨184, 3, rfl, fun _ => ⟨jp_W_count, rfl, ji_W_count, Or.inl (jm_g5 57 rfl rfl), jm_g5 58 rfl rfl⟩, fun q => absurd q (by decide)⟩⟩
def jl_W_1 : List (Instr × List Nat × Value) := [(.invokevirtual 163, [94, 1, 9], .null)]
theorem js_W_1 (F : jx_SF S dA aL aM adK) (cc : ByteArray) (pc : Nat) : ∀ r ∈ jl_W_1, jx_si S dA (jx_R1 sc aL aM adK) jx_df "JobHouseLaw" r.1 r.2.1 r.2.2 ∧ jx_sc S jx_P cc "JobHouseLaw" pc r.1 r.2.1 := by
  intro r hr
  simp only [jl_W_1, List.mem_cons, List.not_mem_nil, or_false] at hr
  rcases hr with rfl
  · exact ⟨trivial, ⟨94, 1, 9, rfl, fun _ => ⟨by decide, jp_M_count, _, _, rfl, ji_M_count, Or.inl (jm_g7 22 rfl rfl), jm_g7 23 rfl rfl, jm_g7 24 rfl rfl, rfl⟩, fun q => absurd q (by decide)⟩⟩
def jl_W : List (Instr × List Nat × Value) := jl_W_0 ++ jl_W_1
theorem js_W (F : jx_SF S dA aL aM adK) (cc : ByteArray) (pc : Nat) : ∀ r ∈ jl_W, jx_si S dA (jx_R1 sc aL aM adK) jx_df "JobHouseLaw" r.1 r.2.1 r.2.2 ∧ jx_sc S jx_P cc "JobHouseLaw" pc r.1 r.2.1 := by
  intro r hr
  simp only [jl_W, List.mem_append] at hr
  rcases hr with h0 | h1
  · exact js_W_0 F cc pc r h0
  · exact js_W_1 F cc pc r h1
def jl_Long_0 : List (Instr × List Nat × Value) := [(.ldc2_w 314, [], .long 6148914691236517205), (.ldc2_w 316, [], .long 3689348814741910323), (.ldc2_w 318, [], .long 1085102592571150095)]
theorem js_Long_0 (F : jx_SF S dA aL aM adK) (cc : ByteArray) (pc : Nat) : ∀ r ∈ jl_Long_0, jx_si S dA (jx_R1 sc aL aM adK) jx_df "java/lang/Long" r.1 r.2.1 r.2.2 ∧ jx_sc S jx_P cc "java/lang/Long" pc r.1 r.2.1 := by
  intro r hr
  simp only [jl_Long_0, List.mem_cons, List.not_mem_nil, or_false] at hr
  rcases hr with rfl | rfl | rfl
  · exact ⟨⟨_, rfl, jm_g4 60 rfl rfl⟩, trivial⟩
  · exact ⟨⟨_, rfl, jm_g4 61 rfl rfl⟩, trivial⟩
  · exact ⟨⟨_, rfl, jm_g4 62 rfl rfl⟩, trivial⟩
def jl_Long : List (Instr × List Nat × Value) := jl_Long_0
theorem js_Long (F : jx_SF S dA aL aM adK) (cc : ByteArray) (pc : Nat) : ∀ r ∈ jl_Long, jx_si S dA (jx_R1 sc aL aM adK) jx_df "java/lang/Long" r.1 r.2.1 r.2.2 ∧ jx_sc S jx_P cc "java/lang/Long" pc r.1 r.2.1 := by
  intro r hr
  exact js_Long_0 F cc pc r hr
end JS
end
