section
/-- a private method of a class that the tables say can be made, by its rows of tables_1 -/
def lw_okq (q : MethodName × Nat) : Prop := (q.1.cls ≠ "java/lang/invoke/MethodHandle" ∧ q.1.cls ≠ "java/lang/invoke/VarHandle") ∧ Cond.instantiable q.1.cls q.2 ∈ tables_1 ∧ Cond.privateMethod q.1 ∈ tables_1 ∧ Cond.instanceMethod q.1 ∈ tables_1
theorem lw_p0 : lw_okq (⟨"java/lang/Throwable", "fillInStackTrace", "(I)Ljava/lang/Throwable;"⟩, 6) := ⟨⟨by decide +kernel, by decide +kernel⟩, List.mem_of_getElem? (i := 368) (by decide +kernel), List.mem_of_getElem? (i := 366) (by decide +kernel), List.mem_of_getElem? (i := 367) (by decide +kernel)⟩
theorem lw_p1 : lw_okq (⟨"JobHouse", "checkNotBroken", "()V"⟩, 18) := ⟨⟨by decide +kernel, by decide +kernel⟩, List.mem_of_getElem? (i := 29) (by decide +kernel), List.mem_of_getElem? (i := 488) (by decide +kernel), List.mem_of_getElem? (i := 489) (by decide +kernel)⟩
theorem lw_p2 : lw_okq (⟨"JobHouse", "aimAt", "(III)V"⟩, 18) := ⟨⟨by decide +kernel, by decide +kernel⟩, List.mem_of_getElem? (i := 29) (by decide +kernel), List.mem_of_getElem? (i := 657) (by decide +kernel), List.mem_of_getElem? (i := 658) (by decide +kernel)⟩
theorem lw_p3 : lw_okq (⟨"JobHouse$Zone", "findStretch", "(J)V"⟩, 7) := ⟨⟨by decide +kernel, by decide +kernel⟩, List.mem_of_getElem? (i := 109) (by decide +kernel), List.mem_of_getElem? (i := 671) (by decide +kernel), List.mem_of_getElem? (i := 672) (by decide +kernel)⟩
theorem lw_p4 : lw_okq (⟨"JobHouse$Fires", "localFrom", "(J)J"⟩, 3) := ⟨⟨by decide +kernel, by decide +kernel⟩, List.mem_of_getElem? (i := 80) (by decide +kernel), List.mem_of_getElem? (i := 727) (by decide +kernel), List.mem_of_getElem? (i := 728) (by decide +kernel)⟩
theorem lw_p5 : lw_okq (⟨"JobHouse$Fires", "dayFrom", "(I)I"⟩, 3) := ⟨⟨by decide +kernel, by decide +kernel⟩, List.mem_of_getElem? (i := 80) (by decide +kernel), List.mem_of_getElem? (i := 732) (by decide +kernel), List.mem_of_getElem? (i := 733) (by decide +kernel)⟩
theorem lw_p6 : lw_okq (⟨"JobHouse$Fires", "dateFrom", "(III)I"⟩, 3) := ⟨⟨by decide +kernel, by decide +kernel⟩, List.mem_of_getElem? (i := 80) (by decide +kernel), List.mem_of_getElem? (i := 750) (by decide +kernel), List.mem_of_getElem? (i := 751) (by decide +kernel)⟩
theorem lw_p7 : lw_okq (⟨"JobHouse$Cron", "weekdaysFrom", "(I)J"⟩, 4) := ⟨⟨by decide +kernel, by decide +kernel⟩, List.mem_of_getElem? (i := 86) (by decide +kernel), List.mem_of_getElem? (i := 763) (by decide +kernel), List.mem_of_getElem? (i := 764) (by decide +kernel)⟩
theorem lw_p8 : lw_okq (⟨"JobHouse$Fires", "localUpTo", "(J)J"⟩, 3) := ⟨⟨by decide +kernel, by decide +kernel⟩, List.mem_of_getElem? (i := 80) (by decide +kernel), List.mem_of_getElem? (i := 804) (by decide +kernel), List.mem_of_getElem? (i := 805) (by decide +kernel)⟩
theorem lw_p9 : lw_okq (⟨"JobHouse$Fires", "dayUpTo", "(I)I"⟩, 3) := ⟨⟨by decide +kernel, by decide +kernel⟩, List.mem_of_getElem? (i := 80) (by decide +kernel), List.mem_of_getElem? (i := 808) (by decide +kernel), List.mem_of_getElem? (i := 809) (by decide +kernel)⟩
theorem lw_p10 : lw_okq (⟨"JobHouse$Fires", "dateUpTo", "(III)I"⟩, 3) := ⟨⟨by decide +kernel, by decide +kernel⟩, List.mem_of_getElem? (i := 80) (by decide +kernel), List.mem_of_getElem? (i := 814) (by decide +kernel), List.mem_of_getElem? (i := 815) (by decide +kernel)⟩
theorem lw_p11 : lw_okq (⟨"JobHouse", "checkOpen", "()V"⟩, 18) := ⟨⟨by decide +kernel, by decide +kernel⟩, List.mem_of_getElem? (i := 29) (by decide +kernel), List.mem_of_getElem? (i := 861) (by decide +kernel), List.mem_of_getElem? (i := 862) (by decide +kernel)⟩
theorem lw_p12 : lw_okq (⟨"JobHouse", "freeSlot", "()I"⟩, 18) := ⟨⟨by decide +kernel, by decide +kernel⟩, List.mem_of_getElem? (i := 29) (by decide +kernel), List.mem_of_getElem? (i := 880) (by decide +kernel), List.mem_of_getElem? (i := 881) (by decide +kernel)⟩
theorem lw_p13 : lw_okq (⟨"JobHouse", "fill", "(LJobHouse$Job;JIII)V"⟩, 18) := ⟨⟨by decide +kernel, by decide +kernel⟩, List.mem_of_getElem? (i := 29) (by decide +kernel), List.mem_of_getElem? (i := 884) (by decide +kernel), List.mem_of_getElem? (i := 885) (by decide +kernel)⟩
theorem lw_p14 : lw_okq (⟨"JobHouse", "jobAt", "(I)LJobHouse$Job;"⟩, 18) := ⟨⟨by decide +kernel, by decide +kernel⟩, List.mem_of_getElem? (i := 29) (by decide +kernel), List.mem_of_getElem? (i := 904) (by decide +kernel), List.mem_of_getElem? (i := 905) (by decide +kernel)⟩
theorem lw_p15 : lw_okq (⟨"JobHouse", "remove", "(LJobHouse$Job;)V"⟩, 18) := ⟨⟨by decide +kernel, by decide +kernel⟩, List.mem_of_getElem? (i := 29) (by decide +kernel), List.mem_of_getElem? (i := 923) (by decide +kernel), List.mem_of_getElem? (i := 924) (by decide +kernel)⟩
def lw_privs_1 : List (MethodName × Nat) := [(⟨"java/lang/Throwable", "fillInStackTrace", "(I)Ljava/lang/Throwable;"⟩, 6), (⟨"JobHouse", "checkNotBroken", "()V"⟩, 18), (⟨"JobHouse", "aimAt", "(III)V"⟩, 18), (⟨"JobHouse$Zone", "findStretch", "(J)V"⟩, 7), (⟨"JobHouse$Fires", "localFrom", "(J)J"⟩, 3), (⟨"JobHouse$Fires", "dayFrom", "(I)I"⟩, 3), (⟨"JobHouse$Fires", "dateFrom", "(III)I"⟩, 3), (⟨"JobHouse$Cron", "weekdaysFrom", "(I)J"⟩, 4), (⟨"JobHouse$Fires", "localUpTo", "(J)J"⟩, 3), (⟨"JobHouse$Fires", "dayUpTo", "(I)I"⟩, 3), (⟨"JobHouse$Fires", "dateUpTo", "(III)I"⟩, 3), (⟨"JobHouse", "checkOpen", "()V"⟩, 18), (⟨"JobHouse", "freeSlot", "()I"⟩, 18), (⟨"JobHouse", "fill", "(LJobHouse$Job;JIII)V"⟩, 18), (⟨"JobHouse", "jobAt", "(I)LJobHouse$Job;"⟩, 18), (⟨"JobHouse", "remove", "(LJobHouse$Job;)V"⟩, 18)]
theorem lw_r1 : ∀ q ∈ lw_privs_1, lw_okq q := List.forall_mem_cons.mpr ⟨lw_p0, List.forall_mem_cons.mpr ⟨lw_p1, List.forall_mem_cons.mpr ⟨lw_p2, List.forall_mem_cons.mpr ⟨lw_p3, List.forall_mem_cons.mpr ⟨lw_p4, List.forall_mem_cons.mpr ⟨lw_p5, List.forall_mem_cons.mpr ⟨lw_p6, List.forall_mem_cons.mpr ⟨lw_p7, List.forall_mem_cons.mpr ⟨lw_p8, List.forall_mem_cons.mpr ⟨lw_p9, List.forall_mem_cons.mpr ⟨lw_p10, List.forall_mem_cons.mpr ⟨lw_p11, List.forall_mem_cons.mpr ⟨lw_p12, List.forall_mem_cons.mpr ⟨lw_p13, List.forall_mem_cons.mpr ⟨lw_p14, List.forall_mem_cons.mpr ⟨lw_p15, fun _ h => absurd h List.not_mem_nil⟩⟩⟩⟩⟩⟩⟩⟩⟩⟩⟩⟩⟩⟩⟩⟩
theorem lw_p16 : lw_okq (⟨"JobHouse", "checkWay", "(J)V"⟩, 18) := ⟨⟨by decide +kernel, by decide +kernel⟩, List.mem_of_getElem? (i := 29) (by decide +kernel), List.mem_of_getElem? (i := 942) (by decide +kernel), List.mem_of_getElem? (i := 943) (by decide +kernel)⟩
theorem lw_p17 : lw_okq (⟨"JobHouse", "firstEnded", "()I"⟩, 18) := ⟨⟨by decide +kernel, by decide +kernel⟩, List.mem_of_getElem? (i := 29) (by decide +kernel), List.mem_of_getElem? (i := 948) (by decide +kernel), List.mem_of_getElem? (i := 949) (by decide +kernel)⟩
theorem lw_p18 : lw_okq (⟨"JobHouse", "nominalBehind", "(LJobHouse$Job;)J"⟩, 18) := ⟨⟨by decide +kernel, by decide +kernel⟩, List.mem_of_getElem? (i := 29) (by decide +kernel), List.mem_of_getElem? (i := 952) (by decide +kernel), List.mem_of_getElem? (i := 953) (by decide +kernel)⟩
theorem lw_p19 : lw_okq (⟨"JobHouse", "free", "(IJ)V"⟩, 18) := ⟨⟨by decide +kernel, by decide +kernel⟩, List.mem_of_getElem? (i := 29) (by decide +kernel), List.mem_of_getElem? (i := 965) (by decide +kernel), List.mem_of_getElem? (i := 966) (by decide +kernel)⟩
theorem lw_p20 : lw_okq (⟨"JobHouse", "firstPending", "()I"⟩, 18) := ⟨⟨by decide +kernel, by decide +kernel⟩, List.mem_of_getElem? (i := 29) (by decide +kernel), List.mem_of_getElem? (i := 969) (by decide +kernel), List.mem_of_getElem? (i := 970) (by decide +kernel)⟩
theorem lw_p21 : lw_okq (⟨"JobHouse", "begin", "(I)V"⟩, 18) := ⟨⟨by decide +kernel, by decide +kernel⟩, List.mem_of_getElem? (i := 29) (by decide +kernel), List.mem_of_getElem? (i := 977) (by decide +kernel), List.mem_of_getElem? (i := 978) (by decide +kernel)⟩
theorem lw_p22 : lw_okq (⟨"JobHouse", "nextTime", "(I)J"⟩, 18) := ⟨⟨by decide +kernel, by decide +kernel⟩, List.mem_of_getElem? (i := 29) (by decide +kernel), List.mem_of_getElem? (i := 985) (by decide +kernel), List.mem_of_getElem? (i := 986) (by decide +kernel)⟩
theorem lw_p23 : lw_okq (⟨"JobHouseModel", "readZone", "(I)V"⟩, 50) := ⟨⟨by decide +kernel, by decide +kernel⟩, List.mem_of_getElem? (i := 1026) (by decide +kernel), List.mem_of_getElem? (i := 1223) (by decide +kernel), List.mem_of_getElem? (i := 1224) (by decide +kernel)⟩
theorem lw_p24 : lw_okq (⟨"JobHouseModel", "peek", "()I"⟩, 50) := ⟨⟨by decide +kernel, by decide +kernel⟩, List.mem_of_getElem? (i := 1026) (by decide +kernel), List.mem_of_getElem? (i := 1227) (by decide +kernel), List.mem_of_getElem? (i := 1228) (by decide +kernel)⟩
theorem lw_p25 : lw_okq (⟨"JobHouseModel", "bad", "(I)V"⟩, 50) := ⟨⟨by decide +kernel, by decide +kernel⟩, List.mem_of_getElem? (i := 1026) (by decide +kernel), List.mem_of_getElem? (i := 1231) (by decide +kernel), List.mem_of_getElem? (i := 1232) (by decide +kernel)⟩
theorem lw_p26 : lw_okq (⟨"JobHouseModel", "ranged", "(II)I"⟩, 50) := ⟨⟨by decide +kernel, by decide +kernel⟩, List.mem_of_getElem? (i := 1026) (by decide +kernel), List.mem_of_getElem? (i := 1236) (by decide +kernel), List.mem_of_getElem? (i := 1237) (by decide +kernel)⟩
theorem lw_p27 : lw_okq (⟨"JobHouseModel", "blanks", "()V"⟩, 50) := ⟨⟨by decide +kernel, by decide +kernel⟩, List.mem_of_getElem? (i := 1026) (by decide +kernel), List.mem_of_getElem? (i := 1245) (by decide +kernel), List.mem_of_getElem? (i := 1246) (by decide +kernel)⟩
theorem lw_p28 : lw_okq (⟨"JobHouseModel", "rule", "(I)V"⟩, 50) := ⟨⟨by decide +kernel, by decide +kernel⟩, List.mem_of_getElem? (i := 1026) (by decide +kernel), List.mem_of_getElem? (i := 1249) (by decide +kernel), List.mem_of_getElem? (i := 1250) (by decide +kernel)⟩
theorem lw_p29 : lw_okq (⟨"JobHouseModel", "expect", "(I)V"⟩, 50) := ⟨⟨by decide +kernel, by decide +kernel⟩, List.mem_of_getElem? (i := 1026) (by decide +kernel), List.mem_of_getElem? (i := 1253) (by decide +kernel), List.mem_of_getElem? (i := 1254) (by decide +kernel)⟩
theorem lw_p30 : lw_okq (⟨"JobHouseModel", "ruleDay", "(II)I"⟩, 50) := ⟨⟨by decide +kernel, by decide +kernel⟩, List.mem_of_getElem? (i := 1026) (by decide +kernel), List.mem_of_getElem? (i := 1257) (by decide +kernel), List.mem_of_getElem? (i := 1258) (by decide +kernel)⟩
theorem lw_p31 : lw_okq (⟨"JobHouseModel", "event", "(IJZ)V"⟩, 50) := ⟨⟨by decide +kernel, by decide +kernel⟩, List.mem_of_getElem? (i := 1026) (by decide +kernel), List.mem_of_getElem? (i := 1276) (by decide +kernel), List.mem_of_getElem? (i := 1277) (by decide +kernel)⟩
def lw_privs_2 : List (MethodName × Nat) := [(⟨"JobHouse", "checkWay", "(J)V"⟩, 18), (⟨"JobHouse", "firstEnded", "()I"⟩, 18), (⟨"JobHouse", "nominalBehind", "(LJobHouse$Job;)J"⟩, 18), (⟨"JobHouse", "free", "(IJ)V"⟩, 18), (⟨"JobHouse", "firstPending", "()I"⟩, 18), (⟨"JobHouse", "begin", "(I)V"⟩, 18), (⟨"JobHouse", "nextTime", "(I)J"⟩, 18), (⟨"JobHouseModel", "readZone", "(I)V"⟩, 50), (⟨"JobHouseModel", "peek", "()I"⟩, 50), (⟨"JobHouseModel", "bad", "(I)V"⟩, 50), (⟨"JobHouseModel", "ranged", "(II)I"⟩, 50), (⟨"JobHouseModel", "blanks", "()V"⟩, 50), (⟨"JobHouseModel", "rule", "(I)V"⟩, 50), (⟨"JobHouseModel", "expect", "(I)V"⟩, 50), (⟨"JobHouseModel", "ruleDay", "(II)I"⟩, 50), (⟨"JobHouseModel", "event", "(IJZ)V"⟩, 50)]
theorem lw_r2 : ∀ q ∈ lw_privs_2, lw_okq q := List.forall_mem_cons.mpr ⟨lw_p16, List.forall_mem_cons.mpr ⟨lw_p17, List.forall_mem_cons.mpr ⟨lw_p18, List.forall_mem_cons.mpr ⟨lw_p19, List.forall_mem_cons.mpr ⟨lw_p20, List.forall_mem_cons.mpr ⟨lw_p21, List.forall_mem_cons.mpr ⟨lw_p22, List.forall_mem_cons.mpr ⟨lw_p23, List.forall_mem_cons.mpr ⟨lw_p24, List.forall_mem_cons.mpr ⟨lw_p25, List.forall_mem_cons.mpr ⟨lw_p26, List.forall_mem_cons.mpr ⟨lw_p27, List.forall_mem_cons.mpr ⟨lw_p28, List.forall_mem_cons.mpr ⟨lw_p29, List.forall_mem_cons.mpr ⟨lw_p30, List.forall_mem_cons.mpr ⟨lw_p31, fun _ h => absurd h List.not_mem_nil⟩⟩⟩⟩⟩⟩⟩⟩⟩⟩⟩⟩⟩⟩⟩⟩
theorem lw_p32 : lw_okq (⟨"JobHouseModel", "readCron", "(I)V"⟩, 50) := ⟨⟨by decide +kernel, by decide +kernel⟩, List.mem_of_getElem? (i := 1026) (by decide +kernel), List.mem_of_getElem? (i := 1284) (by decide +kernel), List.mem_of_getElem? (i := 1285) (by decide +kernel)⟩
theorem lw_p33 : lw_okq (⟨"JobHouseModel", "field", "(I)V"⟩, 50) := ⟨⟨by decide +kernel, by decide +kernel⟩, List.mem_of_getElem? (i := 1026) (by decide +kernel), List.mem_of_getElem? (i := 1288) (by decide +kernel), List.mem_of_getElem? (i := 1289) (by decide +kernel)⟩
theorem lw_p34 : lw_okq (⟨"JobHouseModel", "items", "(I)V"⟩, 50) := ⟨⟨by decide +kernel, by decide +kernel⟩, List.mem_of_getElem? (i := 1026) (by decide +kernel), List.mem_of_getElem? (i := 1292) (by decide +kernel), List.mem_of_getElem? (i := 1293) (by decide +kernel)⟩
theorem lw_p35 : lw_okq (⟨"JobHouseModel", "value", "(I)I"⟩, 50) := ⟨⟨by decide +kernel, by decide +kernel⟩, List.mem_of_getElem? (i := 1026) (by decide +kernel), List.mem_of_getElem? (i := 1300) (by decide +kernel), List.mem_of_getElem? (i := 1301) (by decide +kernel)⟩
theorem lw_p36 : lw_okq (⟨"JobHouseModel", "special", "(II)Z"⟩, 50) := ⟨⟨by decide +kernel, by decide +kernel⟩, List.mem_of_getElem? (i := 1026) (by decide +kernel), List.mem_of_getElem? (i := 1308) (by decide +kernel), List.mem_of_getElem? (i := 1309) (by decide +kernel)⟩
theorem lw_p37 : lw_okq (⟨"JobHouseModel", "fail", "(I)I"⟩, 50) := ⟨⟨by decide +kernel, by decide +kernel⟩, List.mem_of_getElem? (i := 1026) (by decide +kernel), List.mem_of_getElem? (i := 1317) (by decide +kernel), List.mem_of_getElem? (i := 1318) (by decide +kernel)⟩
theorem lw_p38 : lw_okq (⟨"JobHouseModel", "badFire", "(IIIJ)Z"⟩, 50) := ⟨⟨by decide +kernel, by decide +kernel⟩, List.mem_of_getElem? (i := 1026) (by decide +kernel), List.mem_of_getElem? (i := 1325) (by decide +kernel), List.mem_of_getElem? (i := 1326) (by decide +kernel)⟩
theorem lw_p39 : lw_okq (⟨"JobHouseModel", "nextFire", "(IIIJ)J"⟩, 50) := ⟨⟨by decide +kernel, by decide +kernel⟩, List.mem_of_getElem? (i := 1026) (by decide +kernel), List.mem_of_getElem? (i := 1330) (by decide +kernel), List.mem_of_getElem? (i := 1331) (by decide +kernel)⟩
theorem lw_p40 : lw_okq (⟨"JobHouseModel", "passed", "(IJ)I"⟩, 50) := ⟨⟨by decide +kernel, by decide +kernel⟩, List.mem_of_getElem? (i := 1026) (by decide +kernel), List.mem_of_getElem? (i := 1335) (by decide +kernel), List.mem_of_getElem? (i := 1336) (by decide +kernel)⟩
theorem lw_p41 : lw_okq (⟨"JobHouseModel", "minutes", "(II)I"⟩, 50) := ⟨⟨by decide +kernel, by decide +kernel⟩, List.mem_of_getElem? (i := 1026) (by decide +kernel), List.mem_of_getElem? (i := 1343) (by decide +kernel), List.mem_of_getElem? (i := 1344) (by decide +kernel)⟩
theorem lw_p42 : lw_okq (⟨"JobHouseModel", "dayFits", "(III)Z"⟩, 50) := ⟨⟨by decide +kernel, by decide +kernel⟩, List.mem_of_getElem? (i := 1026) (by decide +kernel), List.mem_of_getElem? (i := 1348) (by decide +kernel), List.mem_of_getElem? (i := 1349) (by decide +kernel)⟩
theorem lw_p43 : lw_okq (⟨"JobHouseModel", "date", "(I)V"⟩, 50) := ⟨⟨by decide +kernel, by decide +kernel⟩, List.mem_of_getElem? (i := 1026) (by decide +kernel), List.mem_of_getElem? (i := 1352) (by decide +kernel), List.mem_of_getElem? (i := 1353) (by decide +kernel)⟩
theorem lw_p44 : lw_okq (⟨"JobHouseModel", "special", "(I)I"⟩, 50) := ⟨⟨by decide +kernel, by decide +kernel⟩, List.mem_of_getElem? (i := 1026) (by decide +kernel), List.mem_of_getElem? (i := 1357) (by decide +kernel), List.mem_of_getElem? (i := 1358) (by decide +kernel)⟩
theorem lw_p45 : lw_okq (⟨"JobHouseModel", "secondFrom", "(II)I"⟩, 50) := ⟨⟨by decide +kernel, by decide +kernel⟩, List.mem_of_getElem? (i := 1026) (by decide +kernel), List.mem_of_getElem? (i := 1362) (by decide +kernel), List.mem_of_getElem? (i := 1363) (by decide +kernel)⟩
theorem lw_p46 : lw_okq (⟨"JobHouseModel", "lastFire", "(IIIJ)J"⟩, 50) := ⟨⟨by decide +kernel, by decide +kernel⟩, List.mem_of_getElem? (i := 1026) (by decide +kernel), List.mem_of_getElem? (i := 1371) (by decide +kernel), List.mem_of_getElem? (i := 1372) (by decide +kernel)⟩
theorem lw_p47 : lw_okq (⟨"JobHouseModel", "secondTo", "(II)I"⟩, 50) := ⟨⟨by decide +kernel, by decide +kernel⟩, List.mem_of_getElem? (i := 1026) (by decide +kernel), List.mem_of_getElem? (i := 1376) (by decide +kernel), List.mem_of_getElem? (i := 1377) (by decide +kernel)⟩
def lw_privs_3 : List (MethodName × Nat) := [(⟨"JobHouseModel", "readCron", "(I)V"⟩, 50), (⟨"JobHouseModel", "field", "(I)V"⟩, 50), (⟨"JobHouseModel", "items", "(I)V"⟩, 50), (⟨"JobHouseModel", "value", "(I)I"⟩, 50), (⟨"JobHouseModel", "special", "(II)Z"⟩, 50), (⟨"JobHouseModel", "fail", "(I)I"⟩, 50), (⟨"JobHouseModel", "badFire", "(IIIJ)Z"⟩, 50), (⟨"JobHouseModel", "nextFire", "(IIIJ)J"⟩, 50), (⟨"JobHouseModel", "passed", "(IJ)I"⟩, 50), (⟨"JobHouseModel", "minutes", "(II)I"⟩, 50), (⟨"JobHouseModel", "dayFits", "(III)Z"⟩, 50), (⟨"JobHouseModel", "date", "(I)V"⟩, 50), (⟨"JobHouseModel", "special", "(I)I"⟩, 50), (⟨"JobHouseModel", "secondFrom", "(II)I"⟩, 50), (⟨"JobHouseModel", "lastFire", "(IIIJ)J"⟩, 50), (⟨"JobHouseModel", "secondTo", "(II)I"⟩, 50)]
theorem lw_r3 : ∀ q ∈ lw_privs_3, lw_okq q := List.forall_mem_cons.mpr ⟨lw_p32, List.forall_mem_cons.mpr ⟨lw_p33, List.forall_mem_cons.mpr ⟨lw_p34, List.forall_mem_cons.mpr ⟨lw_p35, List.forall_mem_cons.mpr ⟨lw_p36, List.forall_mem_cons.mpr ⟨lw_p37, List.forall_mem_cons.mpr ⟨lw_p38, List.forall_mem_cons.mpr ⟨lw_p39, List.forall_mem_cons.mpr ⟨lw_p40, List.forall_mem_cons.mpr ⟨lw_p41, List.forall_mem_cons.mpr ⟨lw_p42, List.forall_mem_cons.mpr ⟨lw_p43, List.forall_mem_cons.mpr ⟨lw_p44, List.forall_mem_cons.mpr ⟨lw_p45, List.forall_mem_cons.mpr ⟨lw_p46, List.forall_mem_cons.mpr ⟨lw_p47, fun _ h => absurd h List.not_mem_nil⟩⟩⟩⟩⟩⟩⟩⟩⟩⟩⟩⟩⟩⟩⟩⟩
theorem lw_p48 : lw_okq (⟨"JobHouseModel", "enter", "(IJJJIII)I"⟩, 50) := ⟨⟨by decide +kernel, by decide +kernel⟩, List.mem_of_getElem? (i := 1026) (by decide +kernel), List.mem_of_getElem? (i := 1390) (by decide +kernel), List.mem_of_getElem? (i := 1391) (by decide +kernel)⟩
theorem lw_p49 : lw_okq (⟨"JobHouseModel", "none", "(I)Z"⟩, 50) := ⟨⟨by decide +kernel, by decide +kernel⟩, List.mem_of_getElem? (i := 1026) (by decide +kernel), List.mem_of_getElem? (i := 1402) (by decide +kernel), List.mem_of_getElem? (i := 1403) (by decide +kernel)⟩
theorem lw_p50 : lw_okq (⟨"JobHouseModel", "work", "()Z"⟩, 50) := ⟨⟨by decide +kernel, by decide +kernel⟩, List.mem_of_getElem? (i := 1026) (by decide +kernel), List.mem_of_getElem? (i := 1415) (by decide +kernel), List.mem_of_getElem? (i := 1416) (by decide +kernel)⟩
theorem lw_p51 : lw_okq (⟨"JobHouseModel", "free", "(I)V"⟩, 50) := ⟨⟨by decide +kernel, by decide +kernel⟩, List.mem_of_getElem? (i := 1026) (by decide +kernel), List.mem_of_getElem? (i := 1419) (by decide +kernel), List.mem_of_getElem? (i := 1420) (by decide +kernel)⟩
theorem lw_p52 : lw_okq (⟨"JobHouseModel", "following", "(I)J"⟩, 50) := ⟨⟨by decide +kernel, by decide +kernel⟩, List.mem_of_getElem? (i := 1026) (by decide +kernel), List.mem_of_getElem? (i := 1423) (by decide +kernel), List.mem_of_getElem? (i := 1424) (by decide +kernel)⟩
theorem lw_p53 : lw_okq (⟨"JobHouseModel", "running", "()I"⟩, 50) := ⟨⟨by decide +kernel, by decide +kernel⟩, List.mem_of_getElem? (i := 1026) (by decide +kernel), List.mem_of_getElem? (i := 1427) (by decide +kernel), List.mem_of_getElem? (i := 1428) (by decide +kernel)⟩
theorem lw_p54 : lw_okq (⟨"JobHouseModel", "first", "()I"⟩, 50) := ⟨⟨by decide +kernel, by decide +kernel⟩, List.mem_of_getElem? (i := 1026) (by decide +kernel), List.mem_of_getElem? (i := 1431) (by decide +kernel), List.mem_of_getElem? (i := 1432) (by decide +kernel)⟩
theorem lw_p55 : lw_okq (⟨"JobHouseModel", "there", "()I"⟩, 50) := ⟨⟨by decide +kernel, by decide +kernel⟩, List.mem_of_getElem? (i := 1026) (by decide +kernel), List.mem_of_getElem? (i := 1443) (by decide +kernel), List.mem_of_getElem? (i := 1444) (by decide +kernel)⟩
def lw_privs_4 : List (MethodName × Nat) := [(⟨"JobHouseModel", "enter", "(IJJJIII)I"⟩, 50), (⟨"JobHouseModel", "none", "(I)Z"⟩, 50), (⟨"JobHouseModel", "work", "()Z"⟩, 50), (⟨"JobHouseModel", "free", "(I)V"⟩, 50), (⟨"JobHouseModel", "following", "(I)J"⟩, 50), (⟨"JobHouseModel", "running", "()I"⟩, 50), (⟨"JobHouseModel", "first", "()I"⟩, 50), (⟨"JobHouseModel", "there", "()I"⟩, 50)]
theorem lw_r4 : ∀ q ∈ lw_privs_4, lw_okq q := List.forall_mem_cons.mpr ⟨lw_p48, List.forall_mem_cons.mpr ⟨lw_p49, List.forall_mem_cons.mpr ⟨lw_p50, List.forall_mem_cons.mpr ⟨lw_p51, List.forall_mem_cons.mpr ⟨lw_p52, List.forall_mem_cons.mpr ⟨lw_p53, List.forall_mem_cons.mpr ⟨lw_p54, List.forall_mem_cons.mpr ⟨lw_p55, fun _ h => absurd h List.not_mem_nil⟩⟩⟩⟩⟩⟩⟩⟩
def lw_privs : List (MethodName × Nat) := lw_privs_1 ++ (lw_privs_2 ++ (lw_privs_3 ++ (lw_privs_4)))
def lw_tbl : List Cond := k2_sels lw_privs ++ tables_1
theorem lw_privs_ok : ∀ q ∈ lw_privs, lw_okq q := by
  show ∀ q ∈ lw_privs_1 ++ (lw_privs_2 ++ (lw_privs_3 ++ (lw_privs_4))), lw_okq q
  exact List.forall_mem_append.mpr ⟨lw_r1, List.forall_mem_append.mpr ⟨lw_r2, List.forall_mem_append.mpr ⟨lw_r3, lw_r4⟩⟩⟩
end
section
section JM0
abbrev jm_H : Type := Nat → Option va_E
def jm_up (h : jm_H) (a : Nat) (x : va_E) : jm_H := fun b => if b = a then some x else h b
theorem jm_up_eq (h : jm_H) (a : Nat) (x : va_E) : jm_up h a x a = some x := if_pos rfl
theorem jm_up_ne (h : jm_H) {a b : Nat} (x : va_E) (n : b ≠ a) : jm_up h a x b = h b := if_neg n
theorem jm_up_up (h : jm_H) (a : Nat) (x y : va_E) : jm_up (jm_up h a x) a y = jm_up h a y := by
  funext b
  by_cases e : b = a
  · subst e; rw [jm_up_eq, jm_up_eq]
  · rw [jm_up_ne _ _ e, jm_up_ne _ _ e, jm_up_ne _ _ e]
theorem jm_up_cm (h : jm_H) {a b : Nat} (x y : va_E) (n : a ≠ b) : jm_up (jm_up h a x) b y = jm_up (jm_up h b y) a x := by
  funext d
  by_cases e : d = a
  · subst e; rw [jm_up_ne _ _ n, jm_up_eq, jm_up_eq]
  · by_cases e2 : d = b
    · subst e2; rw [jm_up_eq, jm_up_ne _ _ e, jm_up_eq]
    · rw [jm_up_ne _ _ e2, jm_up_ne _ _ e, jm_up_ne _ _ e, jm_up_ne _ _ e2]
theorem jm_up_id {h : jm_H} {a : Nat} {x : va_E} (e : h a = some x) : jm_up h a x = h := by
  funext b
  by_cases q : b = a
  · subst q; rw [jm_up_eq, e]
  · rw [jm_up_ne _ _ q]
theorem jm_ap {h : jm_H} {a b : Nat} {x y : va_E} (ha : h a = some x) (hb : h b = some y) (n : x ≠ y) : a ≠ b := by
  intro e; subst e; rw [ha] at hb; exact n (Option.some.inj hb)
def jm_ld (D : va_G) (cl : List vw_C) (n0 : Nat) (h : jm_H) (H : Heap) : Prop := ∀ (a : Nat) (x : va_E), h a = some x → n0 ≤ a ∧ va_at D cl (a, x) H
def jm_tl (h : jm_H) (n : Nat) : va_W := (List.range n).filterMap (fun a => (h a).map (fun x => (a, x)))
theorem jm_tl_mem {h : jm_H} {n a : Nat} {x : va_E} : (a, x) ∈ jm_tl h n ↔ a < n ∧ h a = some x := by
  unfold jm_tl
  rw [List.mem_filterMap]
  constructor
  · rintro ⟨b, hb, hy⟩
    obtain ⟨y, hy, e⟩ := Option.map_eq_some_iff.mp hy
    cases e
    exact ⟨List.mem_range.mp hb, hy⟩
  · rintro ⟨h1, h2⟩
    exact ⟨a, List.mem_range.mpr h1, by rw [h2]; rfl⟩
theorem jm_tl_pw (h : jm_H) (n : Nat) : (jm_tl h n).Pairwise (fun x y => x.1 < y.1) := by
  unfold jm_tl
  rw [List.pairwise_filterMap]
  refine List.Pairwise.imp ?_ List.pairwise_lt_range
  intro a b hab x hx y hy
  obtain ⟨u, -, rfl⟩ := Option.map_eq_some_iff.mp hx
  obtain ⟨v, -, rfl⟩ := Option.map_eq_some_iff.mp hy
  exact hab
theorem jm_tl_inj {h : jm_H} {n i j : Nat} {x y : Nat × va_E} (hi : (jm_tl h n)[i]? = some x) (hj : (jm_tl h n)[j]? = some y) (e : x.1 = y.1) : i = j := by
  have pw := List.pairwise_iff_getElem.mp (jm_tl_pw h n)
  obtain ⟨hi1, hi2⟩ := List.getElem?_eq_some_iff.mp hi
  obtain ⟨hj1, hj2⟩ := List.getElem?_eq_some_iff.mp hj
  rcases Nat.lt_trichotomy i j with h1 | h1 | h1
  · have h2 := pw i j hi1 hj1 h1
    rw [hi2, hj2] at h2; omega
  · exact h1
  · have h2 := pw j i hj1 hi1 h1
    rw [hi2, hj2] at h2; omega
variable {D : va_G} {cl : List vw_C} {n0 : Nat} {h : jm_H} {H H1 : Heap}
theorem jm_P (hr : jm_ld D cl n0 h H) : va_P D cl (jm_tl h H.size) H := by
  intro k q hk
  obtain ⟨a, x⟩ := q
  exact (hr a x (jm_tl_mem.mp (List.mem_of_getElem? hk)).2).2
theorem jm_D (hr : jm_ld D cl n0 h H) : va_D (fun q => n0 ≤ q) (jm_tl h H.size) := by
  refine ⟨fun i j x y hx hy e => jm_tl_inj hx hy e, fun k q hk => ?_⟩
  obtain ⟨a, x⟩ := q
  exact (hr a x (jm_tl_mem.mp (List.mem_of_getElem? hk)).2).1
theorem jm_place (hr : jm_ld D cl n0 h H) {a : Nat} {x : va_E} (ha : h a = some x) : ∃ k : Nat, (jm_tl h H.size)[k]? = some (a, x) := List.getElem?_of_mem (jm_tl_mem.mpr ⟨(hr a x ha).2.lt, ha⟩)
theorem jm_set (hr : jm_ld D cl n0 h H) {a k : Nat} {x y : va_E} (hk : (jm_tl h H.size)[k]? = some (a, x)) (hP : va_P D cl ((jm_tl h H.size).set k (a, y)) H1) : jm_ld D cl n0 (jm_up h a y) H1 := by
  have hax := (jm_tl_mem.mp (List.mem_of_getElem? hk)).2
  intro b z hb
  by_cases e : b = a
  · subst e
    rw [jm_up_eq] at hb
    cases hb
    exact ⟨(hr b x hax).1, hP k (b, y) (by rw [List.getElem?_set_self (List.getElem?_eq_some_iff.mp hk).1])⟩
  · rw [jm_up_ne _ _ e] at hb
    obtain ⟨j, hj⟩ := jm_place hr hb
    refine ⟨(hr b z hb).1, hP j (b, z) ?_⟩
    rw [List.getElem?_set_ne, hj]
    intro he
    subst he
    rw [hk] at hj
    cases hj
    exact e rfl
theorem jm_app (hr : jm_ld D cl n0 h H) {q : Nat} {y : va_E} (hP : va_P D cl (jm_tl h H.size ++ [(q, y)]) H1) (hD : va_D (fun z => n0 ≤ z) (jm_tl h H.size ++ [(q, y)])) : jm_ld D cl n0 (jm_up h q y) H1 ∧ h q = none ∧ n0 ≤ q := by
  have hl : (jm_tl h H.size ++ [(q, y)])[(jm_tl h H.size).length]? = some (q, y) := by simp
  refine ⟨?_, ?_, hD.2 _ _ hl⟩
  · intro b z hb
    by_cases e : b = q
    · subst e
      rw [jm_up_eq] at hb
      cases hb
      exact ⟨hD.2 _ _ hl, hP _ _ hl⟩
    · rw [jm_up_ne _ _ e] at hb
      obtain ⟨j, hj⟩ := jm_place hr hb
      refine ⟨(hr b z hb).1, hP j (b, z) ?_⟩
      rw [List.getElem?_append_left (List.getElem?_eq_some_iff.mp hj).1]
      exact hj
  · cases hq : h q with
    | none => rfl
    | some z =>
      obtain ⟨j, hj⟩ := jm_place hr hq
      have hlt := (List.getElem?_eq_some_iff.mp hj).1
      have hj' : (jm_tl h H.size ++ [(q, y)])[j]? = some (q, z) := by rw [List.getElem?_append_left hlt]; exact hj
      have := hD.1 j _ _ _ hj' hl rfl
      omega
theorem jm_ld_le (hr : jm_ld D cl n0 h H) {h2 : jm_H} (hs : ∀ a x, h2 a = some x → h a = some x) : jm_ld D cl n0 h2 H := fun a x e => hr a x (hs a x e)
def jm_ev (S U : State) : Prop := S.WarmedH U.vm ∧ S.heap.size ≤ U.heap.size ∧ ∀ q : Nat, q < S.heap.size → U.heap[q]? = S.heap[q]?
def jm_en (S : State) (D : va_G) (cl : List vw_C) (tys : List (ClassId × FieldType)) (G : List Cond) : Prop :=
  (∃ a0 : Array Value, ∀ w ∈ G, w.before a0 S = true) ∧ (∀ w ∈ G, (w.onTables && w.keeps) = true ∨ ∃ ty, w = .arrayClass ty) ∧ va_K D cl tys S
def jm_cx (p : Program) (s : State) (m : MethodId) (args : Array Value) (c : Code) (S : State) (D : va_G) (cl : List vw_C) (tys : List (ClassId × FieldType)) (G : List Cond) (cc : ByteArray) (nL : Nat) (own : String) : Prop :=
  p.tables.exec = Jvm.exec ∧ c.code = cc ∧ c.maxLocals = nL ∧ s.vm.findClass own = some m.cls ∧ (∀ w ∈ G, w.before args s = true) ∧ va_K D cl tys s ∧ jm_ev S s ∧ jm_en S D cl tys G
def jm_W (p : Program) (l : Launch) (e : Env) (R : Room) (s : State) (m : MethodId) (args : Array Value) (below : List Frame) (meth : Method) (c : Code) (S : State) (D : va_G) (cl : List vw_C) (Q : State → Prop) (nL pc : Nat) (lv : List (Nat × Value)) (st : List Value) (h : jm_H) (dc ds : Nat) : Prop :=
  ∀ (H : Heap) (ls : Array Slot) (locs : List Loc), lv_has ls nL lv → jm_ld D cl S.heap.size h H → va_S (fun q => S.heap.size ≤ q) s.heap H locs → W p l e R s m args below meth c H locs dc ds Q (F0 m pc ls st)
def jm_X (p : Program) (l : Launch) (e : Env) (R : Room) (s : State) (m : MethodId) (args : Array Value) (below : List Frame) (meth : Method) (c : Code) (S : State) (D : va_G) (cl : List vw_C) (Q : State → Prop) (nL pc : Nat) (lv : List (Nat × Value)) (st : List Value) (h : jm_H) (q : Addr) (dc ds : Nat) : Prop :=
  ∀ (H : Heap) (ls : Array Slot) (locs : List Loc), lv_has ls nL lv → jm_ld D cl S.heap.size h H → va_S (fun q => S.heap.size ≤ q) s.heap H locs → ∀ T : State, T.heap = H → Stand p l e R s m args below meth c T locs dc ds → ∃ t, Steps p.tables e below ((T.setTop (F0 m pc ls st)).pushFrame (.throwing q)) t ∧ Q t
end JM0
section JM1
variable {p : Program} {l : Launch} {e : Env} {R : Room} {s : State} {m : MethodId} {args : Array Value} {below : List Frame} {meth : Method} {c : Code} {Q : State → Prop}
variable {S : State} {D : va_G} {cl : List vw_C} {tys : List (ClassId × FieldType)} {G : List Cond} {cc : ByteArray} {nL pc dc ds : Nat} {own : String} {lv : List (Nat × Value)} {rest : List Value} {h : jm_H}
theorem jm_iadd (X : jm_cx p s m args c S D cl tys G cc nL own) {x y : Int32} (hd : decode cc pc = .ok (.iadd, 1))  (k : jm_W p l e R s m args below meth c S D cl Q nL (pc + 1) lv (.int (x + y) :: rest) h dc ds) : jm_W p l e R s m args below meth c S D cl Q nL (pc) lv (.int y :: .int x :: rest) h dc ds := fun H ls locs hl hr hS => lv_iadd X.1 X.2.1 hd (k H ls locs hl hr hS)
theorem jm_isub (X : jm_cx p s m args c S D cl tys G cc nL own) {x y : Int32} (hd : decode cc pc = .ok (.isub, 1))  (k : jm_W p l e R s m args below meth c S D cl Q nL (pc + 1) lv (.int (x - y) :: rest) h dc ds) : jm_W p l e R s m args below meth c S D cl Q nL (pc) lv (.int y :: .int x :: rest) h dc ds := fun H ls locs hl hr hS => lv_isub X.1 X.2.1 hd (k H ls locs hl hr hS)
theorem jm_imul (X : jm_cx p s m args c S D cl tys G cc nL own) {x y : Int32} (hd : decode cc pc = .ok (.imul, 1))  (k : jm_W p l e R s m args below meth c S D cl Q nL (pc + 1) lv (.int (x * y) :: rest) h dc ds) : jm_W p l e R s m args below meth c S D cl Q nL (pc) lv (.int y :: .int x :: rest) h dc ds := fun H ls locs hl hr hS => lv_imul X.1 X.2.1 hd (k H ls locs hl hr hS)
theorem jm_iand (X : jm_cx p s m args c S D cl tys G cc nL own) {x y : Int32} (hd : decode cc pc = .ok (.iand, 1))  (k : jm_W p l e R s m args below meth c S D cl Q nL (pc + 1) lv (.int (x &&& y) :: rest) h dc ds) : jm_W p l e R s m args below meth c S D cl Q nL (pc) lv (.int y :: .int x :: rest) h dc ds := fun H ls locs hl hr hS => lv_iand X.1 X.2.1 hd (k H ls locs hl hr hS)
theorem jm_ior (X : jm_cx p s m args c S D cl tys G cc nL own) {x y : Int32} (hd : decode cc pc = .ok (.ior, 1))  (k : jm_W p l e R s m args below meth c S D cl Q nL (pc + 1) lv (.int (x ||| y) :: rest) h dc ds) : jm_W p l e R s m args below meth c S D cl Q nL (pc) lv (.int y :: .int x :: rest) h dc ds := fun H ls locs hl hr hS => lv_ior X.1 X.2.1 hd (k H ls locs hl hr hS)
theorem jm_ixor (X : jm_cx p s m args c S D cl tys G cc nL own) {x y : Int32} (hd : decode cc pc = .ok (.ixor, 1))  (k : jm_W p l e R s m args below meth c S D cl Q nL (pc + 1) lv (.int (x ^^^ y) :: rest) h dc ds) : jm_W p l e R s m args below meth c S D cl Q nL (pc) lv (.int y :: .int x :: rest) h dc ds := fun H ls locs hl hr hS => lv_ixor X.1 X.2.1 hd (k H ls locs hl hr hS)
theorem jm_ishl (X : jm_cx p s m args c S D cl tys G cc nL own) {x y : Int32} (hd : decode cc pc = .ok (.ishl, 1))  (k : jm_W p l e R s m args below meth c S D cl Q nL (pc + 1) lv (.int (x <<< (y &&& 31)) :: rest) h dc ds) : jm_W p l e R s m args below meth c S D cl Q nL (pc) lv (.int y :: .int x :: rest) h dc ds := fun H ls locs hl hr hS => lv_ishl X.1 X.2.1 hd (k H ls locs hl hr hS)
theorem jm_ishr (X : jm_cx p s m args c S D cl tys G cc nL own) {x y : Int32} (hd : decode cc pc = .ok (.ishr, 1))  (k : jm_W p l e R s m args below meth c S D cl Q nL (pc + 1) lv (.int (x >>> (y &&& 31)) :: rest) h dc ds) : jm_W p l e R s m args below meth c S D cl Q nL (pc) lv (.int y :: .int x :: rest) h dc ds := fun H ls locs hl hr hS => lv_ishr X.1 X.2.1 hd (k H ls locs hl hr hS)
theorem jm_ladd (X : jm_cx p s m args c S D cl tys G cc nL own) {x y : Int64} (hd : decode cc pc = .ok (.ladd, 1))  (k : jm_W p l e R s m args below meth c S D cl Q nL (pc + 1) lv (.long (x + y) :: rest) h dc ds) : jm_W p l e R s m args below meth c S D cl Q nL (pc) lv (.long y :: .long x :: rest) h dc ds := fun H ls locs hl hr hS => lv_ladd X.1 X.2.1 hd (k H ls locs hl hr hS)
theorem jm_lsub (X : jm_cx p s m args c S D cl tys G cc nL own) {x y : Int64} (hd : decode cc pc = .ok (.lsub, 1))  (k : jm_W p l e R s m args below meth c S D cl Q nL (pc + 1) lv (.long (x - y) :: rest) h dc ds) : jm_W p l e R s m args below meth c S D cl Q nL (pc) lv (.long y :: .long x :: rest) h dc ds := fun H ls locs hl hr hS => lv_lsub X.1 X.2.1 hd (k H ls locs hl hr hS)
theorem jm_lmul (X : jm_cx p s m args c S D cl tys G cc nL own) {x y : Int64} (hd : decode cc pc = .ok (.lmul, 1))  (k : jm_W p l e R s m args below meth c S D cl Q nL (pc + 1) lv (.long (x * y) :: rest) h dc ds) : jm_W p l e R s m args below meth c S D cl Q nL (pc) lv (.long y :: .long x :: rest) h dc ds := fun H ls locs hl hr hS => lv_lmul X.1 X.2.1 hd (k H ls locs hl hr hS)
theorem jm_land (X : jm_cx p s m args c S D cl tys G cc nL own) {x y : Int64} (hd : decode cc pc = .ok (.land, 1))  (k : jm_W p l e R s m args below meth c S D cl Q nL (pc + 1) lv (.long (x &&& y) :: rest) h dc ds) : jm_W p l e R s m args below meth c S D cl Q nL (pc) lv (.long y :: .long x :: rest) h dc ds := fun H ls locs hl hr hS => lv_land X.1 X.2.1 hd (k H ls locs hl hr hS)
theorem jm_lor (X : jm_cx p s m args c S D cl tys G cc nL own) {x y : Int64} (hd : decode cc pc = .ok (.lor, 1))  (k : jm_W p l e R s m args below meth c S D cl Q nL (pc + 1) lv (.long (x ||| y) :: rest) h dc ds) : jm_W p l e R s m args below meth c S D cl Q nL (pc) lv (.long y :: .long x :: rest) h dc ds := fun H ls locs hl hr hS => lv_lor X.1 X.2.1 hd (k H ls locs hl hr hS)
theorem jm_lxor (X : jm_cx p s m args c S D cl tys G cc nL own) {x y : Int64} (hd : decode cc pc = .ok (.lxor, 1))  (k : jm_W p l e R s m args below meth c S D cl Q nL (pc + 1) lv (.long (x ^^^ y) :: rest) h dc ds) : jm_W p l e R s m args below meth c S D cl Q nL (pc) lv (.long y :: .long x :: rest) h dc ds := fun H ls locs hl hr hS => lv_lxor X.1 X.2.1 hd (k H ls locs hl hr hS)
theorem jm_idiv (X : jm_cx p s m args c S D cl tys G cc nL own) {x y : Int32} (hd : decode cc pc = .ok (.idiv, 1)) (hne : ¬ y = 0) (k : jm_W p l e R s m args below meth c S D cl Q nL (pc + 1) lv (.int (x / y) :: rest) h dc ds) : jm_W p l e R s m args below meth c S D cl Q nL (pc) lv (.int y :: .int x :: rest) h dc ds := fun H ls locs hl hr hS => lv_idiv X.1 X.2.1 hd hne (k H ls locs hl hr hS)
theorem jm_irem (X : jm_cx p s m args c S D cl tys G cc nL own) {x y : Int32} (hd : decode cc pc = .ok (.irem, 1)) (hne : ¬ y = 0) (k : jm_W p l e R s m args below meth c S D cl Q nL (pc + 1) lv (.int (x - x / y * y) :: rest) h dc ds) : jm_W p l e R s m args below meth c S D cl Q nL (pc) lv (.int y :: .int x :: rest) h dc ds := fun H ls locs hl hr hS => lv_irem X.1 X.2.1 hd hne (k H ls locs hl hr hS)
theorem jm_ldiv (X : jm_cx p s m args c S D cl tys G cc nL own) {x y : Int64} (hd : decode cc pc = .ok (.ldiv, 1)) (hne : ¬ y = 0) (k : jm_W p l e R s m args below meth c S D cl Q nL (pc + 1) lv (.long (x / y) :: rest) h dc ds) : jm_W p l e R s m args below meth c S D cl Q nL (pc) lv (.long y :: .long x :: rest) h dc ds := fun H ls locs hl hr hS => lv_ldiv X.1 X.2.1 hd hne (k H ls locs hl hr hS)
theorem jm_lrem (X : jm_cx p s m args c S D cl tys G cc nL own) {x y : Int64} (hd : decode cc pc = .ok (.lrem, 1)) (hne : ¬ y = 0) (k : jm_W p l e R s m args below meth c S D cl Q nL (pc + 1) lv (.long (x - x / y * y) :: rest) h dc ds) : jm_W p l e R s m args below meth c S D cl Q nL (pc) lv (.long y :: .long x :: rest) h dc ds := fun H ls locs hl hr hS => lv_lrem X.1 X.2.1 hd hne (k H ls locs hl hr hS)
theorem jm_ineg (X : jm_cx p s m args c S D cl tys G cc nL own) {x : Int32} (hd : decode cc pc = .ok (.ineg, 1))  (k : jm_W p l e R s m args below meth c S D cl Q nL (pc + 1) lv (.int (-x) :: rest) h dc ds) : jm_W p l e R s m args below meth c S D cl Q nL (pc) lv (.int x :: rest) h dc ds := fun H ls locs hl hr hS => lv_ineg X.1 X.2.1 hd (k H ls locs hl hr hS)
theorem jm_lneg (X : jm_cx p s m args c S D cl tys G cc nL own) {x : Int64} (hd : decode cc pc = .ok (.lneg, 1))  (k : jm_W p l e R s m args below meth c S D cl Q nL (pc + 1) lv (.long (-x) :: rest) h dc ds) : jm_W p l e R s m args below meth c S D cl Q nL (pc) lv (.long x :: rest) h dc ds := fun H ls locs hl hr hS => lv_lneg X.1 X.2.1 hd (k H ls locs hl hr hS)
theorem jm_i2l (X : jm_cx p s m args c S D cl tys G cc nL own) {x : Int32} (hd : decode cc pc = .ok (.i2l, 1))  (k : jm_W p l e R s m args below meth c S D cl Q nL (pc + 1) lv (.long x.toInt64 :: rest) h dc ds) : jm_W p l e R s m args below meth c S D cl Q nL (pc) lv (.int x :: rest) h dc ds := fun H ls locs hl hr hS => lv_i2l X.1 X.2.1 hd rfl (k H ls locs hl hr hS)
theorem jm_l2i (X : jm_cx p s m args c S D cl tys G cc nL own) {x : Int64} (hd : decode cc pc = .ok (.l2i, 1))  (k : jm_W p l e R s m args below meth c S D cl Q nL (pc + 1) lv (.int x.toInt32 :: rest) h dc ds) : jm_W p l e R s m args below meth c S D cl Q nL (pc) lv (.long x :: rest) h dc ds := fun H ls locs hl hr hS => lv_l2i X.1 X.2.1 hd rfl (k H ls locs hl hr hS)
theorem jm_i2b (X : jm_cx p s m args c S D cl tys G cc nL own) {x : Int32} (hd : decode cc pc = .ok (.i2b, 1))  (k : jm_W p l e R s m args below meth c S D cl Q nL (pc + 1) lv (.int x.toInt8.toInt32 :: rest) h dc ds) : jm_W p l e R s m args below meth c S D cl Q nL (pc) lv (.int x :: rest) h dc ds := fun H ls locs hl hr hS => lv_i2b X.1 X.2.1 hd rfl (k H ls locs hl hr hS)
theorem jm_lshl (X : jm_cx p s m args c S D cl tys G cc nL own) {x : Int64} {y : Int32} (hd : decode cc pc = .ok (.lshl, 1))  (k : jm_W p l e R s m args below meth c S D cl Q nL (pc + 1) lv (.long (x <<< (y.toInt64 &&& 63)) :: rest) h dc ds) : jm_W p l e R s m args below meth c S D cl Q nL (pc) lv (.int y :: .long x :: rest) h dc ds := fun H ls locs hl hr hS => lv_lshl X.1 X.2.1 hd rfl (k H ls locs hl hr hS)
theorem jm_lshr (X : jm_cx p s m args c S D cl tys G cc nL own) {x : Int64} {y : Int32} (hd : decode cc pc = .ok (.lshr, 1))  (k : jm_W p l e R s m args below meth c S D cl Q nL (pc + 1) lv (.long (x >>> (y.toInt64 &&& 63)) :: rest) h dc ds) : jm_W p l e R s m args below meth c S D cl Q nL (pc) lv (.int y :: .long x :: rest) h dc ds := fun H ls locs hl hr hS => lv_lshr X.1 X.2.1 hd rfl (k H ls locs hl hr hS)
theorem jm_lushr (X : jm_cx p s m args c S D cl tys G cc nL own) {x : Int64} {y : Int32} (hd : decode cc pc = .ok (.lushr, 1))  (k : jm_W p l e R s m args below meth c S D cl Q nL (pc + 1) lv (.long (x.toUInt64 >>> (y.toInt64.toUInt64 &&& Int64.toUInt64 63)).toInt64 :: rest) h dc ds) : jm_W p l e R s m args below meth c S D cl Q nL (pc) lv (.int y :: .long x :: rest) h dc ds := fun H ls locs hl hr hS => lv_lushr X.1 X.2.1 hd rfl (k H ls locs hl hr hS)
theorem jm_iushr (X : jm_cx p s m args c S D cl tys G cc nL own) {x y : Int32} (hd : decode cc pc = .ok (.iushr, 1))  (k : jm_W p l e R s m args below meth c S D cl Q nL (pc + 1) lv (.int (x.toUInt32 >>> (y.toUInt32 &&& Int32.toUInt32 31)).toInt32 :: rest) h dc ds) : jm_W p l e R s m args below meth c S D cl Q nL (pc) lv (.int y :: .int x :: rest) h dc ds := fun H ls locs hl hr hS => lv_iushr X.1 X.2.1 hd rfl (k H ls locs hl hr hS)
theorem jm_lcmp (X : jm_cx p s m args c S D cl tys G cc nL own) {x y : Int64} (hd : decode cc pc = .ok (.lcmp, 1))  (k : jm_W p l e R s m args below meth c S D cl Q nL (pc + 1) lv (.int (lg_cmp x y) :: rest) h dc ds) : jm_W p l e R s m args below meth c S D cl Q nL (pc) lv (.long y :: .long x :: rest) h dc ds := fun H ls locs hl hr hS => W.lcmp X.1 X.2.1 hd (k H ls locs hl hr hS)
theorem jm_dup (X : jm_cx p s m args c S D cl tys G cc nL own) {va : Value} (hd : decode cc pc = .ok (.dup, 1)) (hva : va.category = 1) (k : jm_W p l e R s m args below meth c S D cl Q nL (pc + 1) lv (va :: va :: rest) h dc ds) : jm_W p l e R s m args below meth c S D cl Q nL (pc) lv (va :: rest) h dc ds := fun H ls locs hl hr hS => lv_dup X.1 X.2.1 hd hva (k H ls locs hl hr hS)
theorem jm_pop (X : jm_cx p s m args c S D cl tys G cc nL own) {va : Value} (hd : decode cc pc = .ok (.pop, 1)) (hva : va.category = 1) (k : jm_W p l e R s m args below meth c S D cl Q nL (pc + 1) lv (rest) h dc ds) : jm_W p l e R s m args below meth c S D cl Q nL (pc) lv (va :: rest) h dc ds := fun H ls locs hl hr hS => lv_pop X.1 X.2.1 hd hva (k H ls locs hl hr hS)
theorem jm_dup_x1 (X : jm_cx p s m args c S D cl tys G cc nL own) {va vb : Value} (hd : decode cc pc = .ok (.dup_x1, 1)) (hva : va.category = 1) (hvb : vb.category = 1) (k : jm_W p l e R s m args below meth c S D cl Q nL (pc + 1) lv (va :: vb :: va :: rest) h dc ds) : jm_W p l e R s m args below meth c S D cl Q nL (pc) lv (va :: vb :: rest) h dc ds := fun H ls locs hl hr hS => lv_dup_x1 X.1 X.2.1 hd hva hvb (k H ls locs hl hr hS)
theorem jm_dup_x2 (X : jm_cx p s m args c S D cl tys G cc nL own) {va vb vd : Value} (hd : decode cc pc = .ok (.dup_x2, 1)) (hva : va.category = 1) (hvb : vb.category = 1) (hvd : vd.category = 1) (k : jm_W p l e R s m args below meth c S D cl Q nL (pc + 1) lv (va :: vb :: vd :: va :: rest) h dc ds) : jm_W p l e R s m args below meth c S D cl Q nL (pc) lv (va :: vb :: vd :: rest) h dc ds := fun H ls locs hl hr hS => lv_dup_x2 X.1 X.2.1 hd hva hvb hvd (k H ls locs hl hr hS)
theorem jm_dup2_11 (X : jm_cx p s m args c S D cl tys G cc nL own) {va vb : Value} (hd : decode cc pc = .ok (.dup2, 1)) (hva : va.category = 1) (hvb : vb.category = 1) (k : jm_W p l e R s m args below meth c S D cl Q nL (pc + 1) lv (va :: vb :: va :: vb :: rest) h dc ds) : jm_W p l e R s m args below meth c S D cl Q nL (pc) lv (va :: vb :: rest) h dc ds := fun H ls locs hl hr hS => lv_dup2_11 X.1 X.2.1 hd hva hvb (k H ls locs hl hr hS)
theorem jm_dup2_2 (X : jm_cx p s m args c S D cl tys G cc nL own) {va : Value} (hd : decode cc pc = .ok (.dup2, 1)) (hva : va.category = 2) (k : jm_W p l e R s m args below meth c S D cl Q nL (pc + 1) lv (va :: va :: rest) h dc ds) : jm_W p l e R s m args below meth c S D cl Q nL (pc) lv (va :: rest) h dc ds := fun H ls locs hl hr hS => lv_dup2_2 X.1 X.2.1 hd hva (k H ls locs hl hr hS)
theorem jm_iconst (X : jm_cx p s m args c S D cl tys G cc nL own) {n : Int} {v : Int32} (hd : decode cc pc = .ok (.iconst n, 1)) (hv : Int32.ofInt n = v) (k : jm_W p l e R s m args below meth c S D cl Q nL (pc + 1) lv (.int v :: rest) h dc ds) : jm_W p l e R s m args below meth c S D cl Q nL (pc) lv (rest) h dc ds := fun H ls locs hl hr hS => lv_iconst X.1 X.2.1 hd hv (k H ls locs hl hr hS)
theorem jm_bipush (X : jm_cx p s m args c S D cl tys G cc nL own) {n : Int} {v : Int32} (hd : decode cc pc = .ok (.bipush n, 2)) (hv : (Int8.ofInt n).toInt32 = v) (k : jm_W p l e R s m args below meth c S D cl Q nL (pc + 2) lv (.int v :: rest) h dc ds) : jm_W p l e R s m args below meth c S D cl Q nL (pc) lv (rest) h dc ds := fun H ls locs hl hr hS => lv_bipush X.1 X.2.1 hd hv (k H ls locs hl hr hS)
theorem jm_sipush (X : jm_cx p s m args c S D cl tys G cc nL own) {n : Int} {v : Int32} (hd : decode cc pc = .ok (.sipush n, 3)) (hv : (Int16.ofInt n).toInt32 = v) (k : jm_W p l e R s m args below meth c S D cl Q nL (pc + 3) lv (.int v :: rest) h dc ds) : jm_W p l e R s m args below meth c S D cl Q nL (pc) lv (rest) h dc ds := fun H ls locs hl hr hS => lv_sipush X.1 X.2.1 hd hv (k H ls locs hl hr hS)
theorem jm_lconst (X : jm_cx p s m args c S D cl tys G cc nL own) {n : Fin 2} {v : Int64} (hd : decode cc pc = .ok (.lconst n, 1)) (hv : Int64.ofNat (n : Nat) = v) (k : jm_W p l e R s m args below meth c S D cl Q nL (pc + 1) lv (.long v :: rest) h dc ds) : jm_W p l e R s m args below meth c S D cl Q nL (pc) lv (rest) h dc ds := fun H ls locs hl hr hS => lv_lconst X.1 X.2.1 hd hv (k H ls locs hl hr hS)
theorem jm_ldc (X : jm_cx p s m args c S D cl tys G cc nL own) {index : Nat} {v : Int32} (hd : decode cc pc = .ok (.ldc index, 2)) (hw : Cond.constant own index v ∈ G) (k : jm_W p l e R s m args below meth c S D cl Q nL (pc + 2) lv (.int v :: rest) h dc ds) : jm_W p l e R s m args below meth c S D cl Q nL (pc) lv (rest) h dc ds := fun H ls locs hl hr hS => lv_ldc X.1 X.2.1 X.2.2.2.1 (X.2.2.2.2.1 _ hw) hd (k H ls locs hl hr hS)
theorem jm_ldc_w (X : jm_cx p s m args c S D cl tys G cc nL own) {index : Nat} {v : Int32} (hd : decode cc pc = .ok (.ldc_w index, 3)) (hw : Cond.constant own index v ∈ G) (k : jm_W p l e R s m args below meth c S D cl Q nL (pc + 3) lv (.int v :: rest) h dc ds) : jm_W p l e R s m args below meth c S D cl Q nL (pc) lv (rest) h dc ds := fun H ls locs hl hr hS => lv_ldcw X.1 X.2.1 X.2.2.2.1 (X.2.2.2.2.1 _ hw) hd (k H ls locs hl hr hS)
theorem jm_ldc2 (X : jm_cx p s m args c S D cl tys G cc nL own) {index : Nat} {v : Int64} (hd : decode cc pc = .ok (.ldc2_w index, 3)) (hw : Cond.constantLong own index v ∈ G) (k : jm_W p l e R s m args below meth c S D cl Q nL (pc + 3) lv (.long v :: rest) h dc ds) : jm_W p l e R s m args below meth c S D cl Q nL (pc) lv (rest) h dc ds := fun H ls locs hl hr hS => lv_ldc2 X.1 X.2.1 X.2.2.2.1 (X.2.2.2.2.1 _ hw) hd (k H ls locs hl hr hS)
theorem jm_iload_n (X : jm_cx p s m args c S D cl tys G cc nL own) {n : Fin 4} {i : Nat} {x : Int32} (hd : decode cc pc = .ok (.iload_n n, 1)) (hi : (n : Nat) = i) (j : Nat) (hj : lv[j]? = some (i, .int x)) (k : jm_W p l e R s m args below meth c S D cl Q nL (pc + 1) lv (.int x :: rest) h dc ds) : jm_W p l e R s m args below meth c S D cl Q nL (pc) lv (rest) h dc ds := fun H ls locs hl hr hS => lv_iload_n X.1 X.2.1 hd hi (lv_at hl j hj) (k H ls locs hl hr hS)
theorem jm_iload (X : jm_cx p s m args c S D cl tys G cc nL own) {i : Nat} {x : Int32} (hd : decode cc pc = .ok (.iload i, 2)) (j : Nat) (hj : lv[j]? = some (i, .int x)) (k : jm_W p l e R s m args below meth c S D cl Q nL (pc + 2) lv (.int x :: rest) h dc ds) : jm_W p l e R s m args below meth c S D cl Q nL (pc) lv (rest) h dc ds := fun H ls locs hl hr hS => lv_iload X.1 X.2.1 hd (lv_at hl j hj) (k H ls locs hl hr hS)
theorem jm_istore_n (X : jm_cx p s m args c S D cl tys G cc nL own) {n : Fin 4} {i : Nat} {x : Int32} {lv1 : List (Nat × Value)} (hd : decode cc pc = .ok (.istore_n n, 1)) (hi : (n : Nat) = i) (hn : i < nL) (he : (i, Value.int x) :: lv.filter (fun q => !(q.1 == i) && !(q.1 + 1 == i && q.2.category == 2)) = lv1) (k : jm_W p l e R s m args below meth c S D cl Q nL (pc + 1) lv1 (rest) h dc ds) : jm_W p l e R s m args below meth c S D cl Q nL (pc) lv (.int x :: rest) h dc ds := fun H ls locs hl hr hS => lv_istore_n X.1 X.2.1 hd hi hl hn he (fun ls1 hl1 => k H ls1 locs hl1 hr hS)
theorem jm_istore (X : jm_cx p s m args c S D cl tys G cc nL own) {i : Nat} {x : Int32} {lv1 : List (Nat × Value)} (hd : decode cc pc = .ok (.istore i, 2)) (hn : i < nL) (he : (i, Value.int x) :: lv.filter (fun q => !(q.1 == i) && !(q.1 + 1 == i && q.2.category == 2)) = lv1) (k : jm_W p l e R s m args below meth c S D cl Q nL (pc + 2) lv1 (rest) h dc ds) : jm_W p l e R s m args below meth c S D cl Q nL (pc) lv (.int x :: rest) h dc ds := fun H ls locs hl hr hS => lv_istore X.1 X.2.1 hd hl hn he (fun ls1 hl1 => k H ls1 locs hl1 hr hS)
theorem jm_lload_n (X : jm_cx p s m args c S D cl tys G cc nL own) {n : Fin 4} {i : Nat} {x : Int64} (hd : decode cc pc = .ok (.lload_n n, 1)) (hi : (n : Nat) = i) (j : Nat) (hj : lv[j]? = some (i, .long x)) (k : jm_W p l e R s m args below meth c S D cl Q nL (pc + 1) lv (.long x :: rest) h dc ds) : jm_W p l e R s m args below meth c S D cl Q nL (pc) lv (rest) h dc ds := fun H ls locs hl hr hS => lv_lload_n X.1 X.2.1 hd hi (lv_at hl j hj) (k H ls locs hl hr hS)
theorem jm_lload (X : jm_cx p s m args c S D cl tys G cc nL own) {i : Nat} {x : Int64} (hd : decode cc pc = .ok (.lload i, 2)) (j : Nat) (hj : lv[j]? = some (i, .long x)) (k : jm_W p l e R s m args below meth c S D cl Q nL (pc + 2) lv (.long x :: rest) h dc ds) : jm_W p l e R s m args below meth c S D cl Q nL (pc) lv (rest) h dc ds := fun H ls locs hl hr hS => lv_lload X.1 X.2.1 hd (lv_at hl j hj) (k H ls locs hl hr hS)
theorem jm_lstore_n (X : jm_cx p s m args c S D cl tys G cc nL own) {n : Fin 4} {i : Nat} {x : Int64} {lv1 : List (Nat × Value)} (hd : decode cc pc = .ok (.lstore_n n, 1)) (hi : (n : Nat) = i) (hn : i + 1 < nL) (he : (i, Value.long x) :: lv.filter (fun q => !(q.1 == i) && (!(q.1 == i + 1) && !(q.1 + 1 == i && q.2.category == 2))) = lv1) (k : jm_W p l e R s m args below meth c S D cl Q nL (pc + 1) lv1 (rest) h dc ds) : jm_W p l e R s m args below meth c S D cl Q nL (pc) lv (.long x :: rest) h dc ds := fun H ls locs hl hr hS => lv_lstore_n X.1 X.2.1 hd hi hl hn he (fun ls1 hl1 => k H ls1 locs hl1 hr hS)
theorem jm_lstore (X : jm_cx p s m args c S D cl tys G cc nL own) {i : Nat} {x : Int64} {lv1 : List (Nat × Value)} (hd : decode cc pc = .ok (.lstore i, 2)) (hn : i + 1 < nL) (he : (i, Value.long x) :: lv.filter (fun q => !(q.1 == i) && (!(q.1 == i + 1) && !(q.1 + 1 == i && q.2.category == 2))) = lv1) (k : jm_W p l e R s m args below meth c S D cl Q nL (pc + 2) lv1 (rest) h dc ds) : jm_W p l e R s m args below meth c S D cl Q nL (pc) lv (.long x :: rest) h dc ds := fun H ls locs hl hr hS => lv_lstore X.1 X.2.1 hd hl hn he (fun ls1 hl1 => k H ls1 locs hl1 hr hS)
theorem jm_aload_n (X : jm_cx p s m args c S D cl tys G cc nL own) {n : Fin 4} {i : Nat} {x : Nat} (hd : decode cc pc = .ok (.aload_n n, 1)) (hi : (n : Nat) = i) (j : Nat) (hj : lv[j]? = some (i, .ref x)) (k : jm_W p l e R s m args below meth c S D cl Q nL (pc + 1) lv (.ref x :: rest) h dc ds) : jm_W p l e R s m args below meth c S D cl Q nL (pc) lv (rest) h dc ds := fun H ls locs hl hr hS => lv_aload_n X.1 X.2.1 hd hi (lv_at hl j hj) (k H ls locs hl hr hS)
theorem jm_aload (X : jm_cx p s m args c S D cl tys G cc nL own) {i : Nat} {x : Nat} (hd : decode cc pc = .ok (.aload i, 2)) (j : Nat) (hj : lv[j]? = some (i, .ref x)) (k : jm_W p l e R s m args below meth c S D cl Q nL (pc + 2) lv (.ref x :: rest) h dc ds) : jm_W p l e R s m args below meth c S D cl Q nL (pc) lv (rest) h dc ds := fun H ls locs hl hr hS => lv_aload X.1 X.2.1 hd (lv_at hl j hj) (k H ls locs hl hr hS)
theorem jm_astore_n (X : jm_cx p s m args c S D cl tys G cc nL own) {n : Fin 4} {i : Nat} {x : Nat} {lv1 : List (Nat × Value)} (hd : decode cc pc = .ok (.astore_n n, 1)) (hi : (n : Nat) = i) (hn : i < nL) (he : (i, Value.ref x) :: lv.filter (fun q => !(q.1 == i) && !(q.1 + 1 == i && q.2.category == 2)) = lv1) (k : jm_W p l e R s m args below meth c S D cl Q nL (pc + 1) lv1 (rest) h dc ds) : jm_W p l e R s m args below meth c S D cl Q nL (pc) lv (.ref x :: rest) h dc ds := fun H ls locs hl hr hS => lv_astore_n X.1 X.2.1 hd hi hl hn he (fun ls1 hl1 => k H ls1 locs hl1 hr hS)
theorem jm_astore (X : jm_cx p s m args c S D cl tys G cc nL own) {i : Nat} {x : Nat} {lv1 : List (Nat × Value)} (hd : decode cc pc = .ok (.astore i, 2)) (hn : i < nL) (he : (i, Value.ref x) :: lv.filter (fun q => !(q.1 == i) && !(q.1 + 1 == i && q.2.category == 2)) = lv1) (k : jm_W p l e R s m args below meth c S D cl Q nL (pc + 2) lv1 (rest) h dc ds) : jm_W p l e R s m args below meth c S D cl Q nL (pc) lv (.ref x :: rest) h dc ds := fun H ls locs hl hr hS => lv_astore X.1 X.2.1 hd hl hn he (fun ls1 hl1 => k H ls1 locs hl1 hr hS)
theorem jm_iinc (X : jm_cx p s m args c S D cl tys G cc nL own) {i : Nat} {n : Int} {x v : Int32} {lv1 : List (Nat × Value)} (hd : decode cc pc = .ok (.iinc i n, 3)) (j : Nat) (hj : lv[j]? = some (i, .int x)) (hv : x + Int32.ofInt n = v) (hn : i < nL) (he : (i, Value.int v) :: lv.filter (fun q => !(q.1 == i) && !(q.1 + 1 == i && q.2.category == 2)) = lv1) (k : jm_W p l e R s m args below meth c S D cl Q nL (pc + 3) lv1 (rest) h dc ds) : jm_W p l e R s m args below meth c S D cl Q nL (pc) lv (rest) h dc ds := fun H ls locs hl hr hS => lv_iinc X.1 X.2.1 hd hl hj hv hn he (fun ls1 hl1 => k H ls1 locs hl1 hr hS)
theorem jm_if_eq (X : jm_cx p s m args c S D cl tys G cc nL own) {x : Int32} {off : Int} {tgt : Nat} (hd : decode cc pc = .ok (.ifCond .eq off, 3)) (ht : (pc : Int) + off = (tgt : Int)) (kt : x = 0 → jm_W p l e R s m args below meth c S D cl Q nL (tgt) lv (rest) h dc ds) (kf : ¬ x = 0 → jm_W p l e R s m args below meth c S D cl Q nL (pc + 3) lv (rest) h dc ds) : jm_W p l e R s m args below meth c S D cl Q nL (pc) lv (.int x :: rest) h dc ds := fun H ls locs hl hr hS => lv_if_eq X.1 X.2.1 hd ht (fun q => kt q H ls locs hl hr hS) (fun q => kf q H ls locs hl hr hS)
theorem jm_if_ne (X : jm_cx p s m args c S D cl tys G cc nL own) {x : Int32} {off : Int} {tgt : Nat} (hd : decode cc pc = .ok (.ifCond .ne off, 3)) (ht : (pc : Int) + off = (tgt : Int)) (kt : ¬ x = 0 → jm_W p l e R s m args below meth c S D cl Q nL (tgt) lv (rest) h dc ds) (kf : x = 0 → jm_W p l e R s m args below meth c S D cl Q nL (pc + 3) lv (rest) h dc ds) : jm_W p l e R s m args below meth c S D cl Q nL (pc) lv (.int x :: rest) h dc ds := fun H ls locs hl hr hS => lv_if_ne X.1 X.2.1 hd ht (fun q => kt q H ls locs hl hr hS) (fun q => kf q H ls locs hl hr hS)
theorem jm_if_lt (X : jm_cx p s m args c S D cl tys G cc nL own) {x : Int32} {off : Int} {tgt : Nat} (hd : decode cc pc = .ok (.ifCond .lt off, 3)) (ht : (pc : Int) + off = (tgt : Int)) (kt : x < 0 → jm_W p l e R s m args below meth c S D cl Q nL (tgt) lv (rest) h dc ds) (kf : ¬ x < 0 → jm_W p l e R s m args below meth c S D cl Q nL (pc + 3) lv (rest) h dc ds) : jm_W p l e R s m args below meth c S D cl Q nL (pc) lv (.int x :: rest) h dc ds := fun H ls locs hl hr hS => lv_if_lt X.1 X.2.1 hd ht (fun q => kt q H ls locs hl hr hS) (fun q => kf q H ls locs hl hr hS)
theorem jm_if_ge (X : jm_cx p s m args c S D cl tys G cc nL own) {x : Int32} {off : Int} {tgt : Nat} (hd : decode cc pc = .ok (.ifCond .ge off, 3)) (ht : (pc : Int) + off = (tgt : Int)) (kt : 0 ≤ x → jm_W p l e R s m args below meth c S D cl Q nL (tgt) lv (rest) h dc ds) (kf : ¬ 0 ≤ x → jm_W p l e R s m args below meth c S D cl Q nL (pc + 3) lv (rest) h dc ds) : jm_W p l e R s m args below meth c S D cl Q nL (pc) lv (.int x :: rest) h dc ds := fun H ls locs hl hr hS => lv_if_ge X.1 X.2.1 hd ht (fun q => kt q H ls locs hl hr hS) (fun q => kf q H ls locs hl hr hS)
theorem jm_if_gt (X : jm_cx p s m args c S D cl tys G cc nL own) {x : Int32} {off : Int} {tgt : Nat} (hd : decode cc pc = .ok (.ifCond .gt off, 3)) (ht : (pc : Int) + off = (tgt : Int)) (kt : 0 < x → jm_W p l e R s m args below meth c S D cl Q nL (tgt) lv (rest) h dc ds) (kf : ¬ 0 < x → jm_W p l e R s m args below meth c S D cl Q nL (pc + 3) lv (rest) h dc ds) : jm_W p l e R s m args below meth c S D cl Q nL (pc) lv (.int x :: rest) h dc ds := fun H ls locs hl hr hS => lv_if_gt X.1 X.2.1 hd ht (fun q => kt q H ls locs hl hr hS) (fun q => kf q H ls locs hl hr hS)
theorem jm_if_le (X : jm_cx p s m args c S D cl tys G cc nL own) {x : Int32} {off : Int} {tgt : Nat} (hd : decode cc pc = .ok (.ifCond .le off, 3)) (ht : (pc : Int) + off = (tgt : Int)) (kt : x ≤ 0 → jm_W p l e R s m args below meth c S D cl Q nL (tgt) lv (rest) h dc ds) (kf : ¬ x ≤ 0 → jm_W p l e R s m args below meth c S D cl Q nL (pc + 3) lv (rest) h dc ds) : jm_W p l e R s m args below meth c S D cl Q nL (pc) lv (.int x :: rest) h dc ds := fun H ls locs hl hr hS => lv_if_le X.1 X.2.1 hd ht (fun q => kt q H ls locs hl hr hS) (fun q => kf q H ls locs hl hr hS)
theorem jm_icmp_eq (X : jm_cx p s m args c S D cl tys G cc nL own) {x y : Int32} {off : Int} {tgt : Nat} (hd : decode cc pc = .ok (.if_icmp .eq off, 3)) (ht : (pc : Int) + off = (tgt : Int)) (kt : x = y → jm_W p l e R s m args below meth c S D cl Q nL (tgt) lv (rest) h dc ds) (kf : ¬ x = y → jm_W p l e R s m args below meth c S D cl Q nL (pc + 3) lv (rest) h dc ds) : jm_W p l e R s m args below meth c S D cl Q nL (pc) lv (.int y :: .int x :: rest) h dc ds := fun H ls locs hl hr hS => lv_icmp_eq X.1 X.2.1 hd ht (fun q => kt q H ls locs hl hr hS) (fun q => kf q H ls locs hl hr hS)
theorem jm_icmp_ne (X : jm_cx p s m args c S D cl tys G cc nL own) {x y : Int32} {off : Int} {tgt : Nat} (hd : decode cc pc = .ok (.if_icmp .ne off, 3)) (ht : (pc : Int) + off = (tgt : Int)) (kt : ¬ x = y → jm_W p l e R s m args below meth c S D cl Q nL (tgt) lv (rest) h dc ds) (kf : x = y → jm_W p l e R s m args below meth c S D cl Q nL (pc + 3) lv (rest) h dc ds) : jm_W p l e R s m args below meth c S D cl Q nL (pc) lv (.int y :: .int x :: rest) h dc ds := fun H ls locs hl hr hS => lv_icmp_ne X.1 X.2.1 hd ht (fun q => kt q H ls locs hl hr hS) (fun q => kf q H ls locs hl hr hS)
theorem jm_icmp_lt (X : jm_cx p s m args c S D cl tys G cc nL own) {x y : Int32} {off : Int} {tgt : Nat} (hd : decode cc pc = .ok (.if_icmp .lt off, 3)) (ht : (pc : Int) + off = (tgt : Int)) (kt : x < y → jm_W p l e R s m args below meth c S D cl Q nL (tgt) lv (rest) h dc ds) (kf : ¬ x < y → jm_W p l e R s m args below meth c S D cl Q nL (pc + 3) lv (rest) h dc ds) : jm_W p l e R s m args below meth c S D cl Q nL (pc) lv (.int y :: .int x :: rest) h dc ds := fun H ls locs hl hr hS => lv_icmp_lt X.1 X.2.1 hd ht (fun q => kt q H ls locs hl hr hS) (fun q => kf q H ls locs hl hr hS)
theorem jm_icmp_ge (X : jm_cx p s m args c S D cl tys G cc nL own) {x y : Int32} {off : Int} {tgt : Nat} (hd : decode cc pc = .ok (.if_icmp .ge off, 3)) (ht : (pc : Int) + off = (tgt : Int)) (kt : y ≤ x → jm_W p l e R s m args below meth c S D cl Q nL (tgt) lv (rest) h dc ds) (kf : ¬ y ≤ x → jm_W p l e R s m args below meth c S D cl Q nL (pc + 3) lv (rest) h dc ds) : jm_W p l e R s m args below meth c S D cl Q nL (pc) lv (.int y :: .int x :: rest) h dc ds := fun H ls locs hl hr hS => lv_icmp_ge X.1 X.2.1 hd ht (fun q => kt q H ls locs hl hr hS) (fun q => kf q H ls locs hl hr hS)
theorem jm_icmp_gt (X : jm_cx p s m args c S D cl tys G cc nL own) {x y : Int32} {off : Int} {tgt : Nat} (hd : decode cc pc = .ok (.if_icmp .gt off, 3)) (ht : (pc : Int) + off = (tgt : Int)) (kt : y < x → jm_W p l e R s m args below meth c S D cl Q nL (tgt) lv (rest) h dc ds) (kf : ¬ y < x → jm_W p l e R s m args below meth c S D cl Q nL (pc + 3) lv (rest) h dc ds) : jm_W p l e R s m args below meth c S D cl Q nL (pc) lv (.int y :: .int x :: rest) h dc ds := fun H ls locs hl hr hS => lv_icmp_gt X.1 X.2.1 hd ht (fun q => kt q H ls locs hl hr hS) (fun q => kf q H ls locs hl hr hS)
theorem jm_icmp_le (X : jm_cx p s m args c S D cl tys G cc nL own) {x y : Int32} {off : Int} {tgt : Nat} (hd : decode cc pc = .ok (.if_icmp .le off, 3)) (ht : (pc : Int) + off = (tgt : Int)) (kt : x ≤ y → jm_W p l e R s m args below meth c S D cl Q nL (tgt) lv (rest) h dc ds) (kf : ¬ x ≤ y → jm_W p l e R s m args below meth c S D cl Q nL (pc + 3) lv (rest) h dc ds) : jm_W p l e R s m args below meth c S D cl Q nL (pc) lv (.int y :: .int x :: rest) h dc ds := fun H ls locs hl hr hS => lv_icmp_le X.1 X.2.1 hd ht (fun q => kt q H ls locs hl hr hS) (fun q => kf q H ls locs hl hr hS)
theorem jm_goto (X : jm_cx p s m args c S D cl tys G cc nL own) {off : Int} {tgt : Nat} (hd : decode cc pc = .ok (.goto off, 3)) (ht : (pc : Int) + off = (tgt : Int)) (k : jm_W p l e R s m args below meth c S D cl Q nL (tgt) lv (rest) h dc ds) : jm_W p l e R s m args below meth c S D cl Q nL (pc) lv (rest) h dc ds := fun H ls locs hl hr hS => lv_goto X.1 X.2.1 hd ht (k H ls locs hl hr hS)
theorem jm_tabOut (X : jm_cx p s m args c S D cl tys G cc nL own) {dflt lo hi : Int} {offs : Array Int} {len : Nat} {x : Int32} {tgt : Nat} (hd : decode cc pc = .ok (.tableswitch dflt lo hi offs, len)) (hx : x.toInt < lo ∨ hi < x.toInt) (ht : (pc : Int) + dflt = (tgt : Int)) (k : jm_W p l e R s m args below meth c S D cl Q nL (tgt) lv (rest) h dc ds) : jm_W p l e R s m args below meth c S D cl Q nL (pc) lv (.int x :: rest) h dc ds := fun H ls locs hl hr hS => lv_tableOut X.1 X.2.1 hd hx ht (k H ls locs hl hr hS)
theorem jm_tabIn (X : jm_cx p s m args c S D cl tys G cc nL own) {dflt lo hi : Int} {offs : Array Int} {len : Nat} {x : Int32} {off : Int} {tgt : Nat} (hd : decode cc pc = .ok (.tableswitch dflt lo hi offs, len)) (h1 : ¬ x.toInt < lo) (h2 : ¬ hi < x.toInt) (ho : offs[(x.toInt - lo).toNat]? = some off) (ht : (pc : Int) + off = (tgt : Int)) (k : jm_W p l e R s m args below meth c S D cl Q nL (tgt) lv (rest) h dc ds) : jm_W p l e R s m args below meth c S D cl Q nL (pc) lv (.int x :: rest) h dc ds := fun H ls locs hl hr hS => lv_tableIn X.1 X.2.1 hd h1 h2 ho ht (k H ls locs hl hr hS)
theorem jm_lookup (X : jm_cx p s m args c S D cl tys G cc nL own) {dflt : Int} {ps : Array (Int × Int)} {len : Nat} {x : Int32} {off : Int} {tgt : Nat} (hd : decode cc pc = .ok (.lookupswitch dflt ps, len)) (hp : (ps.toList.zip (ps.toList.drop 1)).all (fun (a, next) => a.1 < next.1) = true) (ho : Op.lookupswitch.offset ps.toList dflt x.toInt = off) (ht : (pc : Int) + off = (tgt : Int)) (k : jm_W p l e R s m args below meth c S D cl Q nL (tgt) lv (rest) h dc ds) : jm_W p l e R s m args below meth c S D cl Q nL (pc) lv (.int x :: rest) h dc ds := fun H ls locs hl hr hS => lv_lookup X.1 X.2.1 hd hp ho ht (k H ls locs hl hr hS)
theorem jm_topi {x : Int32} (k : ∀ y : Int32, y = x → jm_W p l e R s m args below meth c S D cl Q nL (pc) lv (.int y :: rest) h dc ds) : jm_W p l e R s m args below meth c S D cl Q nL (pc) lv (.int x :: rest) h dc ds := k x rfl
theorem jm_topl {x : Int64} (k : ∀ y : Int64, y = x → jm_W p l e R s m args below meth c S D cl Q nL (pc) lv (.long y :: rest) h dc ds) : jm_W p l e R s m args below meth c S D cl Q nL (pc) lv (.long x :: rest) h dc ds := k x rfl
end JM1
section JM2
variable {p : Program} {l : Launch} {e : Env} {R : Room} {s : State} {m : MethodId} {args : Array Value} {below : List Frame} {meth : Method} {c : Code} {Q : State → Prop}
variable {S : State} {D : va_G} {cl : List vw_C} {tys : List (ClassId × FieldType)} {G : List Cond} {cc : ByteArray} {nL pc dc ds : Nat} {own : String} {lv : List (Nat × Value)} {rest : List Value} {h : jm_H}
theorem jm_A (X : jm_cx p s m args c S D cl tys G cc nL own) : ∀ q : Nat, s.heap.size ≤ q → (fun z => S.heap.size ≤ z) q := fun _ hq => Nat.le_trans X.2.2.2.2.2.2.1.2.1 hq
def jm_fs (cl : List vw_C) (G : List Cond) (own : String) (index ci k : Nat) (ty : FieldType) (fin : Bool) : Prop :=
  ∃ (C : String) (T : u_T) (N : Nat) (ty0 : Nat → FieldType), cl[ci]? = some (C, T, N) ∧ k < N ∧ (∀ w ∈ u_ws C T N, w ∈ G) ∧ (∀ k, k < N → parseFieldDescriptor (T k).2.2.1 = some (ty0 k)) ∧ (∀ a, a < N → ∀ b, b < N → a ≠ b → (T a).2.1 ≠ (T b).2.1) ∧ (T k).2.2.2 = fin ∧ (T k).1 = C ∧ parseFieldDescriptor (T k).2.2.1 = some ty ∧
    (Cond.fieldLink own index (T k).1 (T k).2.1 (T k).2.2.1 ∈ G ∨ ∃ host : String, Cond.fieldLinkNest own index (T k).1 (T k).2.1 (T k).2.2.1 host ∈ G)
theorem jm_get (X : jm_cx p s m args c S D cl tys G cc nL own) {index ci k a : Nat} {ty : FieldType} {fin : Bool} {fs : List Value} {v : Value} (hd : decode cc pc = .ok (.getfield index, 3)) (hf : jm_fs cl G own index ci k ty fin) (ha : h a = some (.inr (ci, fs))) (hv : fs[k]? = some v)
    (kk : jm_W p l e R s m args below meth c S D cl Q nL (pc + 3) lv (v :: rest) h dc ds) : jm_W p l e R s m args below meth c S D cl Q nL pc lv (.ref a :: rest) h dc ds := by
  intro H ls locs hl hr hS
  obtain ⟨C, T, N, ty0, hc, hk, hin, hty, hnm, hfin, hC, hpd, hlk⟩ := hf
  obtain ⟨q0, hq⟩ := jm_place hr ha
  rcases hlk with hw | ⟨host, hw⟩
  · exact va_get X.1 X.2.1 X.2.2.2.2.1 hin X.2.2.2.1 X.2.2.2.2.2.1 (jm_P hr) q0 hq hc k hk (X.2.2.2.2.1 _ hw) (fun _ h9 => h9) hv hd (kk H ls locs hl hr hS)
  · exact va_getN X.1 X.2.1 X.2.2.2.2.1 hin X.2.2.2.1 X.2.2.2.2.2.1 (jm_P hr) q0 hq hc k hk (X.2.2.2.2.1 _ hw) (fun _ h9 => h9) hv hd (kk H ls locs hl hr hS)
theorem jm_put (X : jm_cx p s m args c S D cl tys G cc nL own) {index ci k a : Nat} {ty : FieldType} {fs fs1 : List Value} {v : Value} (hd : decode cc pc = .ok (.putfield index, 3)) (hf : jm_fs cl G own index ci k ty false) (ha : h a = some (.inr (ci, fs))) (hn : narrow ty v = v) (hfit : fits ty v = true) (hlen : k < fs.length) (he : fs.set k v = fs1)
    (kk : jm_W p l e R s m args below meth c S D cl Q nL (pc + 3) lv rest (jm_up h a (.inr (ci, fs1))) dc ds) : jm_W p l e R s m args below meth c S D cl Q nL pc lv (v :: .ref a :: rest) h dc ds := by
  intro H ls locs hl hr hS
  subst he
  obtain ⟨C, T, N, ty0, hc, hk, hin, hty, hnm, hfin, hC, hpd, hlk⟩ := hf
  obtain ⟨q0, hq⟩ := jm_place hr ha
  rcases hlk with hw | ⟨host, hw⟩
  · exact va_put X.1 X.2.1 X.2.2.2.2.1 hin ty0 hty hnm X.2.2.2.1 X.2.2.2.2.2.1 (jm_P hr) (jm_D hr) hS q0 hq hc k hk (X.2.2.2.2.1 _ hw) (fun _ h9 => h9) hfin hpd hn hfit hlen hd (fun H1 locs1 hP1 _ hS1 => kk H1 ls locs1 hl (jm_set hr hq hP1) hS1)
  · exact va_putN X.1 X.2.1 X.2.2.2.2.1 hin ty0 hty hnm X.2.2.2.1 X.2.2.2.2.2.1 (jm_P hr) (jm_D hr) hS q0 hq hc k hk (X.2.2.2.2.1 _ hw) (fun _ h9 => h9) hfin hpd hn hfit hlen hd (fun H1 locs1 hP1 _ hS1 => kk H1 ls locs1 hl (jm_set hr hq hP1) hS1)
def jm_ff (cl : List vw_C) (G : List Cond) (own : String) (index ci k : Nat) (ty : FieldType) : Prop :=
  ∃ (T : u_T) (N : Nat) (ty0 : Nat → FieldType), cl[ci]? = some (own, T, N) ∧ k < N ∧ (∀ w ∈ u_ws own T N, w ∈ G) ∧ (∀ k, k < N → parseFieldDescriptor (T k).2.2.1 = some (ty0 k)) ∧ (∀ a, a < N → ∀ b, b < N → a ≠ b → (T a).2.1 ≠ (T b).2.1) ∧ (T k).2.2.2 = true ∧ (T k).1 = own ∧ parseFieldDescriptor (T k).2.2.1 = some ty ∧ Cond.fieldLink own index (T k).1 (T k).2.1 (T k).2.2.1 ∈ G
theorem jm_putF (X : jm_cx p s m args c S D cl tys G cc nL own) {index ci k a : Nat} {ty : FieldType} {fs fs1 : List Value} {v : Value} (hmn : meth.name = "<init>") (hd : decode cc pc = .ok (.putfield index, 3)) (hf : jm_ff cl G own index ci k ty) (ha : h a = some (.inr (ci, fs))) (hn : narrow ty v = v) (hfit : fits ty v = true) (hlen : k < fs.length) (he : fs.set k v = fs1)
    (kk : jm_W p l e R s m args below meth c S D cl Q nL (pc + 3) lv rest (jm_up h a (.inr (ci, fs1))) dc ds) : jm_W p l e R s m args below meth c S D cl Q nL pc lv (v :: .ref a :: rest) h dc ds := by
  intro H ls locs hl hr hS
  subst he
  obtain ⟨T, N, ty0, hc, hk, hin, hty, hnm, hfin, hC, hpd, hw⟩ := hf
  obtain ⟨q0, hq⟩ := jm_place hr ha
  exact va_putF X.1 X.2.1 X.2.2.2.2.1 hin ty0 hty hnm X.2.2.2.1 X.2.2.2.2.2.1 (jm_P hr) (jm_D hr) hS q0 hq hc k hk (X.2.2.2.2.1 _ hw) (fun _ h9 => h9) hfin hmn hC hpd hn hfit hlen hd (fun H1 locs1 hP1 _ hS1 => kk H1 ls locs1 hl (jm_set hr hq hP1) hS1)
theorem jm_iald (X : jm_cx p s m args c S D cl tys G cc nL own) {t0 a n : Nat} {cA : ClassId} {f : Nat → Int32} {i : Int32} (hd : decode cc pc = .ok (.iaload, 1)) (ht : tys[t0]? = some (cA, .int)) (ha : h a = some (.inl (cA, n, .inl f))) (hin : vp_in i n) (kk : jm_W p l e R s m args below meth c S D cl Q nL (pc + 1) lv (.int (f i.toNatClampNeg) :: rest) h dc ds) : jm_W p l e R s m args below meth c S D cl Q nL (pc) lv (.int i :: .ref a :: rest) h dc ds := by
  intro H ls locs hl hr hS
  obtain ⟨q0, hq⟩ := jm_place hr ha
  exact va_iald X.1 X.2.1 X.2.2.2.2.2.1 (jm_P hr) q0 t0 hq ht hin hd (kk H ls locs hl hr hS)
theorem jm_bald (X : jm_cx p s m args c S D cl tys G cc nL own) {t0 a n : Nat} {cA : ClassId} {f : Nat → Int32} {i : Int32} (hd : decode cc pc = .ok (.baload, 1)) (ht : tys[t0]? = some (cA, .byte)) (ha : h a = some (.inl (cA, n, .inl f))) (hin : vp_in i n) (kk : jm_W p l e R s m args below meth c S D cl Q nL (pc + 1) lv (.int (f i.toNatClampNeg) :: rest) h dc ds) : jm_W p l e R s m args below meth c S D cl Q nL (pc) lv (.int i :: .ref a :: rest) h dc ds := by
  intro H ls locs hl hr hS
  obtain ⟨q0, hq⟩ := jm_place hr ha
  exact va_bald X.1 X.2.1 X.2.2.2.2.2.1 (jm_P hr) q0 t0 hq ht hin hd (kk H ls locs hl hr hS)
theorem jm_zald (X : jm_cx p s m args c S D cl tys G cc nL own) {t0 a n : Nat} {cA : ClassId} {f : Nat → Int32} {i : Int32} (hd : decode cc pc = .ok (.baload, 1)) (ht : tys[t0]? = some (cA, .boolean)) (ha : h a = some (.inl (cA, n, .inl f))) (hin : vp_in i n) (kk : jm_W p l e R s m args below meth c S D cl Q nL (pc + 1) lv (.int (f i.toNatClampNeg) :: rest) h dc ds) : jm_W p l e R s m args below meth c S D cl Q nL (pc) lv (.int i :: .ref a :: rest) h dc ds := by
  intro H ls locs hl hr hS
  obtain ⟨q0, hq⟩ := jm_place hr ha
  exact va_zald X.1 X.2.1 X.2.2.2.2.2.1 (jm_P hr) q0 t0 hq ht hin hd (kk H ls locs hl hr hS)
theorem jm_lald (X : jm_cx p s m args c S D cl tys G cc nL own) {t0 a n : Nat} {cA : ClassId} {f : Nat → Int64} {i : Int32} (hd : decode cc pc = .ok (.laload, 1)) (ht : tys[t0]? = some (cA, .long)) (ha : h a = some (.inl (cA, n, .inr (.inl f)))) (hin : vp_in i n) (kk : jm_W p l e R s m args below meth c S D cl Q nL (pc + 1) lv (.long (f i.toNatClampNeg) :: rest) h dc ds) : jm_W p l e R s m args below meth c S D cl Q nL (pc) lv (.int i :: .ref a :: rest) h dc ds := by
  intro H ls locs hl hr hS
  obtain ⟨q0, hq⟩ := jm_place hr ha
  exact va_lald X.1 X.2.1 X.2.2.2.2.2.1 (jm_P hr) q0 t0 hq ht hin hd (kk H ls locs hl hr hS)
theorem jm_aald (X : jm_cx p s m args c S D cl tys G cc nL own) {t0 a n : Nat} {cA : ClassId} {C : String} {f : Nat → Option Nat} {i : Int32} (hd : decode cc pc = .ok (.aaload, 1)) (ht : tys[t0]? = some (cA, .object C)) (ha : h a = some (.inl (cA, n, .inr (.inr (.inr (.inr f)))))) (hin : vp_in i n) (kk : jm_W p l e R s m args below meth c S D cl Q nL (pc + 1) lv (va_rf (f i.toNatClampNeg) :: rest) h dc ds) : jm_W p l e R s m args below meth c S D cl Q nL (pc) lv (.int i :: .ref a :: rest) h dc ds := by
  intro H ls locs hl hr hS
  obtain ⟨q0, hq⟩ := jm_place hr ha
  exact va_aldq X.1 X.2.1 X.2.2.2.2.2.1 (jm_P hr) q0 t0 hq ht hin hd (kk H ls locs hl hr hS)
theorem jm_iast (X : jm_cx p s m args c S D cl tys G cc nL own) {t0 a n : Nat} {cA : ClassId} {f : Nat → Int32} {i : Int32} {x : Int32} (hd : decode cc pc = .ok (.iastore, 1)) (ht : tys[t0]? = some (cA, .int)) (ha : h a = some (.inl (cA, n, .inl f))) (hin : vp_in i n) (kk : jm_W p l e R s m args below meth c S D cl Q nL (pc + 1) lv (rest) (jm_up h a (.inl (cA, n, .inl (upd f i.toNatClampNeg x)))) dc ds) : jm_W p l e R s m args below meth c S D cl Q nL (pc) lv (.int x :: .int i :: .ref a :: rest) h dc ds := by
  intro H ls locs hl hr hS
  obtain ⟨q0, hq⟩ := jm_place hr ha
  exact va_iast X.1 X.2.1 X.2.2.2.2.2.1 (jm_P hr) (jm_D hr) hS q0 t0 hq ht hin hd (fun H1 locs1 hP1 _ hS1 => kk H1 ls locs1 hl (jm_set hr hq hP1) hS1)
theorem jm_bast (X : jm_cx p s m args c S D cl tys G cc nL own) {t0 a n : Nat} {cA : ClassId} {f : Nat → Int32} {i : Int32} {x : Int32} (hd : decode cc pc = .ok (.bastore, 1)) (ht : tys[t0]? = some (cA, .byte)) (ha : h a = some (.inl (cA, n, .inl f))) (hin : vp_in i n) (kk : jm_W p l e R s m args below meth c S D cl Q nL (pc + 1) lv (rest) (jm_up h a (.inl (cA, n, .inl (upd f i.toNatClampNeg (vp_nar .byte x))))) dc ds) : jm_W p l e R s m args below meth c S D cl Q nL (pc) lv (.int x :: .int i :: .ref a :: rest) h dc ds := by
  intro H ls locs hl hr hS
  obtain ⟨q0, hq⟩ := jm_place hr ha
  exact va_bast X.1 X.2.1 X.2.2.2.2.2.1 (jm_P hr) (jm_D hr) hS q0 t0 hq ht hin hd (fun H1 locs1 hP1 _ hS1 => kk H1 ls locs1 hl (jm_set hr hq hP1) hS1)
theorem jm_zast (X : jm_cx p s m args c S D cl tys G cc nL own) {t0 a n : Nat} {cA : ClassId} {f : Nat → Int32} {i : Int32} {x : Int32} (hd : decode cc pc = .ok (.bastore, 1)) (ht : tys[t0]? = some (cA, .boolean)) (ha : h a = some (.inl (cA, n, .inl f))) (hin : vp_in i n) (kk : jm_W p l e R s m args below meth c S D cl Q nL (pc + 1) lv (rest) (jm_up h a (.inl (cA, n, .inl (upd f i.toNatClampNeg (vp_nar .boolean x))))) dc ds) : jm_W p l e R s m args below meth c S D cl Q nL (pc) lv (.int x :: .int i :: .ref a :: rest) h dc ds := by
  intro H ls locs hl hr hS
  obtain ⟨q0, hq⟩ := jm_place hr ha
  exact va_zast X.1 X.2.1 X.2.2.2.2.2.1 (jm_P hr) (jm_D hr) hS q0 t0 hq ht hin hd (fun H1 locs1 hP1 _ hS1 => kk H1 ls locs1 hl (jm_set hr hq hP1) hS1)
theorem jm_last (X : jm_cx p s m args c S D cl tys G cc nL own) {t0 a n : Nat} {cA : ClassId} {f : Nat → Int64} {i : Int32} {x : Int64} (hd : decode cc pc = .ok (.lastore, 1)) (ht : tys[t0]? = some (cA, .long)) (ha : h a = some (.inl (cA, n, .inr (.inl f)))) (hin : vp_in i n) (kk : jm_W p l e R s m args below meth c S D cl Q nL (pc + 1) lv (rest) (jm_up h a (.inl (cA, n, .inr (.inl (vp_updL f i.toNatClampNeg x))))) dc ds) : jm_W p l e R s m args below meth c S D cl Q nL (pc) lv (.long x :: .int i :: .ref a :: rest) h dc ds := by
  intro H ls locs hl hr hS
  obtain ⟨q0, hq⟩ := jm_place hr ha
  exact va_last X.1 X.2.1 X.2.2.2.2.2.1 (jm_P hr) (jm_D hr) hS q0 t0 hq ht hin hd (fun H1 locs1 hP1 _ hS1 => kk H1 ls locs1 hl (jm_set hr hq hP1) hS1)
theorem jm_aast (X : jm_cx p s m args c S D cl tys G cc nL own) {t0 a n v ci : Nat} {cA : ClassId} {r : vw_C} {vs : List Value} {f : Nat → Option Nat} {i : Int32} (hd : decode cc pc = .ok (.aastore, 1)) (ht : tys[t0]? = some (cA, .object r.1)) (hc : cl[ci]? = some r) (ha : h a = some (.inl (cA, n, .inr (.inr (.inr (.inr f)))))) (hv : h v = some (.inr (ci, vs))) (hin : vp_in i n) (kk : jm_W p l e R s m args below meth c S D cl Q nL (pc + 1) lv (rest) (jm_up h a (.inl (cA, n, .inr (.inr (.inr (.inr (va_up f i.toNatClampNeg (some v)))))))) dc ds) : jm_W p l e R s m args below meth c S D cl Q nL (pc) lv (.ref v :: .int i :: .ref a :: rest) h dc ds := by
  intro H ls locs hl hr hS
  obtain ⟨q0, hq⟩ := jm_place hr ha
  obtain ⟨q1, hq1⟩ := jm_place hr hv
  exact va_astq X.1 X.2.1 X.2.2.2.2.2.1 (jm_P hr) (jm_D hr) hS q0 t0 q1 ci hq ht hq1 hc hin hd (fun H1 locs1 hP1 _ hS1 => kk H1 ls locs1 hl (jm_set hr hq hP1) hS1)
theorem jm_alen (X : jm_cx p s m args c S D cl tys G cc nL own) {t0 a : Nat} {cA : ClassId} {x : vp_A} {ty : FieldType} {v : Int32} (hd : decode cc pc = .ok (.arraylength, 1)) (ht : tys[t0]? = some (cA, ty)) (ha : h a = some (.inl (cA, x))) (hv : Int32.ofNat x.1 = v) (kk : jm_W p l e R s m args below meth c S D cl Q nL (pc + 1) lv (.int v :: rest) h dc ds) : jm_W p l e R s m args below meth c S D cl Q nL (pc) lv (.ref a :: rest) h dc ds := by
  intro H ls locs hl hr hS
  obtain ⟨q0, hq⟩ := jm_place hr ha
  exact va_alen X.1 X.2.1 X.2.2.2.2.2.1 (jm_P hr) q0 t0 hq ht hv hd (kk H ls locs hl hr hS)
def jm_nw (cl : List vw_C) (G : List Cond) (own : String) (index ci N : Nat) (fs : List Value) : Prop :=
  ∃ (C : String) (T : u_T) (ty : Nat → FieldType), cl[ci]? = some (C, T, N) ∧ (∀ w ∈ u_ws C T N, w ∈ G) ∧ (∀ k, k < N → parseFieldDescriptor (T k).2.2.1 = some (ty k)) ∧ (∀ j, j < N → defaultValue (ty j) = vp_V fs j) ∧ Cond.classLink own index C ∈ G ∧ Cond.instantiable C N ∈ G ∧ Cond.initialized C ∈ G
theorem jm_new (X : jm_cx p s m args c S D cl tys G cc nL own) {index ci N : Nat} {fs : List Value} (hd : decode cc pc = .ok (.new index, 3)) (hf : jm_nw cl G own index ci N fs) (hcells : dc + 1 ≤ R.cells) (hslots : ds + N ≤ R.slots)
    (kk : ∀ q : Nat, h q = none → S.heap.size ≤ q → jm_W p l e R s m args below meth c S D cl Q nL (pc + 3) lv (.ref q :: rest) (jm_up h q (.inr (ci, fs))) (dc + 1) (ds + N)) : jm_W p l e R s m args below meth c S D cl Q nL pc lv rest h dc ds := by
  intro H ls locs hl hr hS
  obtain ⟨C, T, ty, hc, hin, hty, hfs, w1, w2, w3⟩ := hf
  refine va_new X.1 X.2.1 X.2.2.2.2.1 hin ty hty X.2.2.2.1 (X.2.2.2.2.1 _ w1) (X.2.2.2.2.1 _ w2) (X.2.2.2.2.1 _ w3) X.2.2.2.2.2.1 (jm_P hr) (jm_D hr) hS (jm_A X) hc hfs hcells hslots hd (fun q H1 hP1 hD1 hS1 => ?_)
  obtain ⟨h1, h2, h3⟩ := jm_app hr hP1 hD1
  exact kk q h2 h3 H1 ls locs hl h1 hS1
theorem jm_newa (X : jm_cx p s m args c S D cl tys G cc nL own) {atype : ArrayType} {ty : FieldType} {t0 N : Nat} {cA : ClassId} {n : Int32} {a0 : vp_A} (hd : decode cc pc = .ok (.newarray atype, 2)) (hw : Cond.arrayClass (newarray.typeOf atype) ∈ G) (hty : newarray.typeOf atype = ty) (ht : tys[t0]? = some (cA, ty)) (ha : ∀ cA : ClassId, vp_cell cA a0 = arrV cA N (fun _ => defaultValue ty)) (hn : ¬ n < 0) (hN : n.toNatClampNeg = N) (hb : N * componentBytes ty ≤ 536870912) (hcells : dc + 1 ≤ R.cells) (hslots : ds + N ≤ R.slots)
    (kk : ∀ q : Nat, h q = none → S.heap.size ≤ q → jm_W p l e R s m args below meth c S D cl Q nL (pc + 2) lv (.ref q :: rest) (jm_up h q (.inl (cA, a0))) (dc + 1) (ds + N)) : jm_W p l e R s m args below meth c S D cl Q nL pc lv (.int n :: rest) h dc ds := by
  intro H ls locs hl hr hS
  refine va_newa X.1 X.2.1 (X.2.2.2.2.1 _ hw) hty X.2.2.2.2.2.1 (jm_P hr) (jm_D hr) hS (jm_A X) ha hn hN hb hcells hslots hd (fun q cA1 H1 hK1 hP1 hD1 hS1 => ?_)
  have e1 := (hK1.2 tys.length (cA1, ty) (by simp)).2
  have e2 := (X.2.2.2.2.2.1.2 t0 _ ht).2
  have e3 : cA1 = cA := by
    subst hty
    cases atype <;> exact Option.some.inj (e1.symm.trans e2)
  subst e3
  obtain ⟨h1, h2, h3⟩ := jm_app hr hP1 hD1
  exact kk q h2 h3 H1 ls locs hl h1 hS1
theorem jm_newq (X : jm_cx p s m args c S D cl tys G cc nL own) {C : String} {index t0 N : Nat} {cA : ClassId} {n : Int32} (hd : decode cc pc = .ok (.anewarray index, 3)) (hw : Cond.classLink own index C ∈ G) (hv : Cond.arrayOver (.object C) ∈ G) (ht : tys[t0]? = some (cA, .object C)) (hn : ¬ n < 0) (hN : n.toNatClampNeg = N) (hb : N * 4 ≤ 536870912) (hcells : dc + 1 ≤ R.cells) (hslots : ds + N ≤ R.slots)
    (kk : ∀ q : Nat, h q = none → S.heap.size ≤ q → jm_W p l e R s m args below meth c S D cl Q nL (pc + 3) lv (.ref q :: rest) (jm_up h q (.inl (cA, N, .inr (.inr (.inr (.inr (fun _ => none))))))) (dc + 1) (ds + N)) : jm_W p l e R s m args below meth c S D cl Q nL pc lv (.int n :: rest) h dc ds := by
  intro H ls locs hl hr hS
  refine va_newq X.1 X.2.1 X.2.2.2.1 (X.2.2.2.2.1 _ hw) (va_AO.of (X.2.2.2.2.1 _ hv)) X.2.2.2.2.2.1 (jm_P hr) (jm_D hr) hS (jm_A X) hn hN hb hcells hslots hd (fun q cA1 H1 hK1 hP1 hD1 hS1 => ?_)
  obtain ⟨_, _, _, _, _, e1⟩ := (hK1.2 tys.length (cA1, .object C) (by simp)).2
  obtain ⟨_, _, _, _, _, e2⟩ := (X.2.2.2.2.2.1.2 t0 _ ht).2
  have e3 : cA1 = cA := Option.some.inj (e1.symm.trans e2)
  subst e3
  obtain ⟨h1, h2, h3⟩ := jm_app hr hP1 hD1
  exact kk q h2 h3 H1 ls locs hl h1 hS1
end JM2
end
section
section JM3
variable {p : Program} {l : Launch} {e : Env} {R : Room} {s : State} {m : MethodId} {args : Array Value} {below : List Frame} {meth : Method} {c : Code} {Q : State → Prop}
variable {S : State} {D : va_G} {cl : List vw_C} {tys : List (ClassId × FieldType)} {G : List Cond} {cc : ByteArray} {nL pc dc ds : Nat} {own : String} {lv : List (Nat × Value)} {rest : List Value} {h : jm_H}
def jm_Qc (S : State) (D : va_G) (cl : List vw_C) (Po : Outcome → jm_H → Prop) (mc ms : Nat) (st : State) (o : Outcome) (t : State) : Prop :=
  (∃ h1, Po o h1 ∧ jm_ld D cl S.heap.size h1 t.heap) ∧ va_F (fun q => S.heap.size ≤ q) st t ∧ st.WarmedH t.vm ∧ ∃ L : List Loc, st.sameButNew ({ t with vm := st.vm } : State) L mc ms ∧ ∀ q ∈ L, S.heap.size ≤ q.base
def jm_Q (S : State) (D : va_G) (cl : List vw_C) (below : List Frame) (s : State) (Po : Outcome → jm_H → Prop) (mc ms : Nat) : State → Prop := fun t =>
  ∃ o, t.status = .running ∧ Ended t below o ∧ jm_Qc S D cl Po mc ms s o t
def jm_M (l : Launch) (S : State) (D : va_G) (cl : List vw_C) (y : MethodName) (wc : Cond) (rm : Room) (As : List Value) (h : jm_H) (Po : Outcome → jm_H → Prop) (mc ms : Nat) : Prop :=
  MetFree l y (headSpec [wc] rm) (fun a U => a = As.toArray ∧ jm_ev S U ∧ jm_ld D cl S.heap.size h U.heap) (fun _ _ _ _ _ => True) (fun _ st o t => jm_Qc S D cl Po mc ms st o t)
theorem jm_en_w (E : jm_en S D cl tys G) {U : State} (hU : S.WarmedH U.vm) (a : Array Value) : ∀ w ∈ G, w.before a U = true := fun w hw => by
  obtain ⟨⟨a0, h0⟩, hg, -⟩ := E
  exact word_at hU (hg w hw) (h0 w hw)
theorem jm_ofW {y : MethodName} {maxL : Nat} {ret : Option FieldType} {rm : Room} {As : List Value} {Po : Outcome → jm_H → Prop} {mc ms : Nat} (E : jm_en S D cl tys G) (hy : plainName y.cls = true) (hL : (lg_sl As).length ≤ maxL)
    (body : ∀ (p : Program) (e : Env) (s : State) (m : MethodId) (below : List Frame) (meth : Method) (c : Code), jm_cx p s m As.toArray c S D cl tys G cc maxL y.cls → meth.sig.returnType = ret → meth.locks = false → meth.name = y.name → c.exceptionTable.isEmpty = true → l.admits e →
      jm_W p l e rm s m As.toArray below meth c S D cl (jm_Q S D cl below s Po mc ms) maxL 0 (lv_args 0 As) [] h 0 0) : jm_M l S D cl y (Cond.code y cc maxL ret) rm As h Po mc ms := by
  refine MetFree.of_bodyS (code := cc) (maxLocals := maxL) (ret := ret) hy ?_ ?_
  · intro args s m hp hn
    obtain ⟨meth, c, h1, h2, h3, h4, h5, h6, -, -⟩ := Cond.code_spec hn (atoms_spec (ws := [Cond.code y cc maxL ret]) hp _ List.mem_cons_self)
    exact ⟨meth, c, h1, h2, h3, h4, h5, h6⟩
  · intro p e s m args below meth c s₁ B hml hP _
    obtain ⟨rfl, hev, hld⟩ := hP
    have hh0 : s₁.heap = s.heap := by rw [B.state]; rfl
    have hcode := atoms_spec (ws := [Cond.code y cc maxL ret]) B.pre _ List.mem_cons_self
    obtain ⟨meth', c', q1, q2, -, -, -, -, q7, -⟩ := Cond.code_spec B.named hcode
    have X := Stand.of_body B
    have e1 : meth' = meth := Option.some.inj (q1.symm.trans B.method)
    subst e1
    have e2 : c' = c := Option.some.inj (q2.symm.trans X.code)
    subst e2
    have hl := lv_entry As (n := maxL) hL
    have hw := body p e s m below meth' c' ⟨B.exec, B.bytes, hml, findClass_of_methodNamed B.named, jm_en_w E hev.1 _, va_K.moved hev.1.alike E.2.2, hev, E⟩ B.returns B.notSynchronized (name_of_methodNamed B.named B.method).1 q7 B.admits s.heap _ [] hl hld va_S.rf
    rw [← lg_entry_eq] at hw
    obtain ⟨t, a1, o, b1, b2, b3⟩ := hw s₁ hh0 X
    exact ⟨t, o, a1, b1, b2, b3⟩
theorem jm_mono {Q1 Q2 : State → Prop} {H : Heap} {locs : List Loc} {g : JFrame} (k : W p l e R s m args below meth c H locs dc ds Q1 g) (hq : ∀ t, Q1 t → Q2 t) : W p l e R s m args below meth c H locs dc ds Q2 g := fun T hT X => by
  obtain ⟨t, a, b⟩ := k T hT X
  exact ⟨t, a, hq t b⟩
theorem jm_wid {h : jm_H} {st : List Value} {k n : Nat} (h1 : dc ≤ k) (h2 : ds ≤ n) (kk : jm_W p l e R s m args below meth c S D cl Q nL pc lv st h k n) : jm_W p l e R s m args below meth c S D cl Q nL pc lv st h dc ds := fun H ls locs hl hr hS => W.widen h1 h2 (kk H ls locs hl hr hS)
theorem jm_fin {Po : Outcome → jm_H → Prop} {o : Outcome} {H : Heap} {locs : List Loc} (hP : Po o h) (hr : jm_ld D cl S.heap.size h H) (hS : va_S (fun q => S.heap.size ≤ q) s.heap H locs) : ∀ t, MQ below (fun _ _ o1 t => o1 = o ∧ t.heap = H) args s dc ds (fun q => S.heap.size ≤ q) t → jm_Q S D cl below s Po dc ds t := by
  rintro t ⟨o1, r1, r2, ⟨rfl, r3⟩, L, ⟨-, r4, r5⟩, r6⟩
  exact ⟨_, r1, r2, ⟨_, hP, by rw [r3]; exact hr⟩, hS.F r3, r4, L, r5, r6⟩
theorem jm_iret {Po : Outcome → jm_H → Prop} (X : jm_cx p s m args c S D cl tys G cc nL own) {v : Int32} (hr : meth.sig.returnType = some .int) (hk : meth.locks = false) (hd : decode cc pc = .ok (.ireturn, 1)) (hP : Po (.returned (some (.int v))) h) : jm_W p l e R s m args below meth c S D cl (jm_Q S D cl below s Po dc ds) nL pc lv [.int v] h dc ds := fun H ls locs hl hld hS =>
  jm_mono (W.iret (Qc := fun _ _ o1 t => o1 = .returned (some (.int v)) ∧ t.heap = H) (free := fun q => S.heap.size ≤ q) X.1 X.2.1 hr (fun t ht _ => ⟨rfl, ht⟩) hS.2.2 hd hk) (jm_fin hP hld hS)
theorem jm_zret {Po : Outcome → jm_H → Prop} (X : jm_cx p s m args c S D cl tys G cc nL own) {v : Int32} {ty : FieldType} (hr : meth.sig.returnType = some ty) (hn : narrow ty (.int v) = .int v) (hk : meth.locks = false) (hd : decode cc pc = .ok (.ireturn, 1)) (hP : Po (.returned (some (.int v))) h) : jm_W p l e R s m args below meth c S D cl (jm_Q S D cl below s Po dc ds) nL pc lv [.int v] h dc ds := fun H ls locs hl hld hS =>
  jm_mono (W.zret (Qc := fun _ _ o1 t => o1 = .returned (some (.int v)) ∧ t.heap = H) (free := fun q => S.heap.size ≤ q) X.1 X.2.1 hr hn (fun t ht _ => ⟨rfl, ht⟩) hS.2.2 hd hk) (jm_fin hP hld hS)
theorem jm_lret {Po : Outcome → jm_H → Prop} (X : jm_cx p s m args c S D cl tys G cc nL own) {v : Int64} (hr : meth.sig.returnType = some .long) (hk : meth.locks = false) (hd : decode cc pc = .ok (.lreturn, 1)) (hP : Po (.returned (some (.long v))) h) : jm_W p l e R s m args below meth c S D cl (jm_Q S D cl below s Po dc ds) nL pc lv [.long v] h dc ds := fun H ls locs hl hld hS =>
  jm_mono (W.lret (Qc := fun _ _ o1 t => o1 = .returned (some (.long v)) ∧ t.heap = H) (free := fun q => S.heap.size ≤ q) X.1 X.2.1 hr (fun t ht _ => ⟨rfl, ht⟩) hS.2.2 hd hk) (jm_fin hP hld hS)
theorem jm_vret {Po : Outcome → jm_H → Prop} (X : jm_cx p s m args c S D cl tys G cc nL own) (hr : meth.sig.returnType = none) (hk : meth.locks = false) (hd : decode cc pc = .ok (.return_, 1)) (hP : Po (.returned none) h) : jm_W p l e R s m args below meth c S D cl (jm_Q S D cl below s Po dc ds) nL pc lv [] h dc ds := fun H ls locs hl hld hS =>
  jm_mono (W.vret (Qc := fun _ _ o1 t => o1 = .returned none ∧ t.heap = H) (free := fun q => S.heap.size ≤ q) X.1 X.2.1 hr (fun t ht _ => ⟨rfl, ht⟩) hS.2.2 hd hk) (jm_fin hP hld hS)
theorem jm_aret {Po : Outcome → jm_H → Prop} (X : jm_cx p s m args c S D cl tys G cc nL own) {v : Value} {rt : FieldType} (hr : meth.sig.returnType = some rt) (hrt : (∃ n, rt = .object n) ∨ ∃ t, rt = .array t) (hv : v = .null ∨ ∃ a, v = .ref a) (hk : meth.locks = false) (hd : decode cc pc = .ok (.areturn, 1)) (hP : Po (.returned (some v)) h) : jm_W p l e R s m args below meth c S D cl (jm_Q S D cl below s Po dc ds) nL pc lv [v] h dc ds := fun H ls locs hl hld hS =>
  jm_mono (W.aret (Qc := fun _ _ o1 t => o1 = .returned (some v) ∧ t.heap = H) (free := fun q => S.heap.size ≤ q) X.1 X.2.1 hr hrt hv (fun t ht _ => ⟨rfl, ht⟩) hS.2.2 hd hk) (jm_fin hP hld hS)
end JM3
section JM4
variable {p : Program} {l : Launch} {e : Env} {R : Room} {s : State} {m : MethodId} {args : Array Value} {below : List Frame} {meth : Method} {c : Code} {Q : State → Prop}
variable {S : State} {D : va_G} {cl : List vw_C} {tys : List (ClassId × FieldType)} {G : List Cond} {cc : ByteArray} {nL pc dc ds : Nat} {own : String} {lv : List (Nat × Value)} {rest st : List Value} {h : jm_H}
def jm_fm (y : MethodName) (wc : Cond) (maxL : Nat) : Prop := (∃ b ret, wc = .code y b maxL ret) ∨ ∃ b ret hh, wc = .codeWith y b maxL ret hh
theorem jm_cod {y : MethodName} {wc : Cond} {maxL : Nat} {a : Array Value} {U : State} (hf : jm_fm y wc maxL) (hw : wc.before a U = true) : ∃ (mk : MethodId) (methM : Method) (cM : Code), U.methodNamed? y = some mk ∧ U.vm.method? mk = some methM ∧ methM.code = some cM ∧ cM.maxLocals = maxL ∧ parseMethodDescriptor y.desc = some methM.sig := by
  rcases hf with ⟨b, ret, rfl⟩ | ⟨b, ret, hh, rfl⟩
  · obtain ⟨mk, hn⟩ := Cond.code_named hw
    obtain ⟨methM, cM, h1, h2, -, h4, -, -, -, h8⟩ := Cond.code_spec hn hw
    exact ⟨mk, methM, cM, hn, h1, h2, h4, h8⟩
  · obtain ⟨mk, methM, cM, hn, h1, h2, -, h4, -, -, -, h8⟩ := Cond.codeWith_spec hw
    exact ⟨mk, methM, cM, hn, h1, h2, h4, h8⟩
def jm_to (g : JFrame) (len : Nat) (T1 : State) : Outcome → State
  | .returned v => T1.setTop { g with pc := g.pc + len, stack := v.toList ++ g.stack }
  | .threw q => (T1.setTop g).pushFrame (.throwing q)
theorem jm_site {T : State} {locs : List Loc} (X : Stand p l e R s m args below meth c T locs dc ds) {g : JFrame} (hg : g.method = m) (hsize : g.locals.size = c.maxLocals) {ig : Instr} {len : Nat} (hdg : decode c.code g.pc = .ok (ig, len)) (hW : 2 * g.monitorRoom + (g.stack.map fun v => v.category).sum ≤ 8)
    {y : MethodName} {wc : Cond} {rm : Room} {As : List Value} {Po : Outcome → jm_H → Prop} {mc ms maxL : Nat} {mk : MethodId} {methM : Method} {cM : Code} {kM : Class} (hn : T.methodNamed? y = some mk) (hmM : T.vm.method? mk = some methM) (hcM : methM.code = some cM) (hlM : cM.maxLocals = maxL) (hkM : T.vm.classes[mk.cls]? = some kM) (hiM : kM.init = .initialized)
    (hM : jm_M l S D cl y wc rm As h Po mc ms) (hwc : wc.before As.toArray T = true) (hR : rm.frames + 1 ≤ R.frames ∧ 8 + (maxL + 11) + rm.locals ≤ R.locals) (hrm : rm.cells = mc ∧ rm.slots = ms) (hcs : dc + mc ≤ R.cells ∧ ds + ms ≤ R.slots) (hev : jm_ev S T) (hld : jm_ld D cl S.heap.size h T.heap) :
    ∃ (o : Outcome) (h1 : jm_H) (T1 : State) (L : List Loc), Po o h1 ∧ jm_ld D cl S.heap.size h1 T1.heap ∧ T.heap.size ≤ T1.heap.size ∧ (∀ q : Nat, q < T.heap.size → ¬ S.heap.size ≤ q → T1.heap[q]? = T.heap[q]?) ∧ (∀ q ∈ L, S.heap.size ≤ q.base) ∧ Stand p l e R s m args below meth c T1 (locs ++ L) (dc + mc) (ds + ms) ∧
      Steps p.tables e below (doInvoke e (T.setTop g) [] mk As.toArray).1 (jm_to g len T1 o) := by
  have h' : At T g.method c below := by rw [hg]; exact X.here
  have happ : (headSpec [wc] rm).appliesLoose y e.platform (T.calling g mk As.toArray) = true := by
    refine Spec.appliesLoose_calling (g := g) h' hdg hn hkM hiM (X.room_calling (g := g) (R' := (headSpec [wc] rm).room) hsize hmM hcM hR.1 ?_ ?_ ?_) (atoms_intro fun w hw => ?_)
    · show 2 * g.monitorRoom + (g.stack.map fun v => v.category).sum + (cM.maxLocals + 11) + rm.locals ≤ R.locals
      rw [hlM]; have := hR.2; omega
    · show dc + rm.cells ≤ R.cells
      rw [hrm.1]; exact hcs.1
    · show ds + rm.slots ≤ R.slots
      rw [hrm.2]; exact hcs.2
    · rw [List.mem_singleton.mp hw]; exact hwc
  have hfr : (T.setTop g).frames = [.java g] ++ below := by rw [State.frames_setTop' g X.here.top, X.tail]; rfl
  obtain ⟨o, s₂, hst, -, hend, hq⟩ := Steps.callFree hM p X.admits X.cas X.clock (acts := []) hfr happ ⟨rfl, hev, hld⟩ trivial
  rw [State.frames_setTop' g X.here.top, X.tail] at hend
  obtain ⟨⟨h1, hPo, hl1⟩, hF, hW2, L, hsm, hL⟩ := hq
  cases o with
  | returned v =>
    obtain ⟨T', X', hWT, -, e2⟩ := X.outOf hg hdg hend hW2 hsm
    subst e2
    exact ⟨.returned v, h1, T', L, hPo, hl1, hF.1, hF.2, hL, X', hst⟩
  | threw q =>
    obtain ⟨T', X', hWT, -, e2⟩ := X.outOfThrown hg hend hW2 hsm
    subst e2
    exact ⟨.threw q, h1, T', L, hPo, hl1, hF.1, hF.2, hL, X', hst⟩
def jm_K (p : Program) (l : Launch) (e : Env) (R : Room) (s : State) (m : MethodId) (args : Array Value) (below : List Frame) (meth : Method) (c : Code) (S : State) (D : va_G) (cl : List vw_C) (Q : State → Prop) (nL pc : Nat) (lv : List (Nat × Value)) (rest : List Value) (h1 : jm_H) (dc ds : Nat) : Outcome → Prop
  | .returned v => jm_W p l e R s m args below meth c S D cl Q nL (pc + 3) lv (v.toList ++ rest) h1 dc ds
  | .threw q => jm_X p l e R s m args below meth c S D cl Q nL pc lv rest h1 q dc ds
def jm_ci (G : List Cond) (y : MethodName) (wc : Cond) (maxL n : Nat) : Prop :=
  wc ∈ G ∧ jm_fm y wc maxL ∧ Cond.initialized y.cls ∈ G ∧ (y.cls ≠ "java/lang/invoke/MethodHandle" ∧ y.cls ≠ "java/lang/invoke/VarHandle") ∧ (parseMethodDescriptor y.desc).map (fun d => d.parameters.length) = some n
theorem jm_evT (X : jm_cx p s m args c S D cl tys G cc nL own) {T : State} {locs : List Loc} (hS : va_S (fun q => S.heap.size ≤ q) s.heap T.heap locs) (hW : s.WarmedH T.vm) : jm_ev S T := by
  have hev := X.2.2.2.2.2.2.1
  refine ⟨State.WarmedH.trans hev.1 hW, Nat.le_trans hev.2.1 hS.1, fun q hq => ?_⟩
  rw [hS.2.1 q (Nat.lt_of_lt_of_le hq hev.2.1) (Nat.not_le.mpr hq)]
  exact hev.2.2 q hq
theorem jm_cal (X : jm_cx p s m args c S D cl tys G cc nL own) {T T1 : State} {H : Heap} {ls : Array Slot} {locs : List Loc} {ig : Instr} {y : MethodName} {wc : Cond} {rm : Room} {As : List Value} {Po : Outcome → jm_H → Prop} {mc ms maxL n : Nat} {mk : MethodId} (hT : T1.heap = H) (hl : lv_has ls nL lv) (hr : jm_ld D cl S.heap.size h H) (hS : va_S (fun q => S.heap.size ≤ q) s.heap H locs)
    (Y1 : Stand p l e R s m args below meth c T1 locs dc ds) (hmk : s.methodNamed? y = some mk) (hst : ∀ target, (∀ acts, Steps p.tables e below (doInvoke e (T1.setTop (F0 m pc ls rest)) acts mk As.toArray).1 target) → Steps p.tables e below (T.setTop (F0 m pc ls st)) target)
    (hd : decode cc pc = .ok (ig, 3)) (hM : jm_M l S D cl y wc rm As h Po mc ms) (hci : jm_ci G y wc maxL n) (hrest : (rest.map fun v => v.category).sum ≤ 8) (hR : rm.frames + 1 ≤ R.frames ∧ 8 + (maxL + 11) + rm.locals ≤ R.locals) (hrm : rm.cells = mc ∧ rm.slots = ms) (hcs : dc + mc ≤ R.cells ∧ ds + ms ≤ R.slots)
    (k : ∀ o h1, Po o h1 → jm_K p l e R s m args below meth c S D cl Q nL pc lv rest h1 (dc + mc) (ds + ms) o) : ∃ t, Steps p.tables e below (T.setTop (F0 m pc ls st)) t ∧ Q t := by
  subst hT
  have hev := jm_evT X hS Y1.warmed
  have hW1 := jm_en_w X.2.2.2.2.2.2.2 hev.1 As.toArray
  obtain ⟨mk', methM, cM, hn, hmM, hcM, hlM, -⟩ := jm_cod hci.2.1 (hW1 _ hci.1)
  have e1 : mk' = mk := Option.some.inj (hn.symm.trans (Y1.named hmk))
  subst e1
  obtain ⟨kM, hkM, -⟩ := className_of_methodNamed hn
  have hiM : kM.init = .initialized := Cond.initialized_spec (findClass_of_methodNamed hn) hkM (hW1 _ hci.2.2.1)
  obtain ⟨o, h1, T2, L, hPo, hl1, hz, hk, hL, Y2, st2⟩ := jm_site (g := F0 m pc ls rest) Y1 rfl (hl.1.trans X.2.2.1.symm) (by rw [X.2.1]; exact hd) (lv_room hrest) hn hmM hcM hlM hkM hiM hM (hW1 _ hci.1) hR hrm hcs hev hr
  have hS2 : va_S (fun q => S.heap.size ≤ q) s.heap T2.heap (locs ++ L) := ⟨Nat.le_trans hS.1 hz, fun q a b => (hk q (Nat.lt_of_lt_of_le a hS.1) b).trans (hS.2.1 q a b), fun q hq => by
    rcases List.mem_append.mp hq with a | a
    · exact hS.2.2 q a
    · exact hL q a⟩
  have hk2 := k o h1 hPo
  have st3 : Steps p.tables e below (T.setTop (F0 m pc ls st)) (jm_to (F0 m pc ls rest) 3 T2 o) := hst _ fun acts => by rw [doInvoke_state]; exact st2
  cases o with
  | returned v =>
    obtain ⟨t, a1, b1⟩ := hk2 T2.heap ls (locs ++ L) hl hl1 hS2 T2 rfl Y2
    exact ⟨t, st3.trans a1, b1⟩
  | threw q =>
    obtain ⟨t, a1, b1⟩ := hk2 T2.heap ls (locs ++ L) hl hl1 hS2 T2 rfl Y2
    exact ⟨t, st3.trans a1, b1⟩
theorem jm_callS (X : jm_cx p s m args c S D cl tys G cc nL own) {index : Nat} {y : MethodName} {wc : Cond} {rm : Room} {As : List Value} {Po : Outcome → jm_H → Prop} {mc ms maxL : Nat} (hd : decode cc pc = .ok (.invokestatic index, 3)) (hM : jm_M l S D cl y wc rm As h Po mc ms) (hci : jm_ci G y wc maxL As.length) (hlk : Cond.methodLink own index y ∈ G ∨ ∃ host, Cond.methodLinkNest own index y host ∈ G) (hsc : Cond.static y ∈ G) (hst : st = As.reverse ++ rest) (hrest : (rest.map fun v => v.category).sum ≤ 8) (hR : rm.frames + 1 ≤ R.frames ∧ 8 + (maxL + 11) + rm.locals ≤ R.locals) (hrm : rm.cells = mc ∧ rm.slots = ms) (hcs : dc + mc ≤ R.cells ∧ ds + ms ≤ R.slots)
    (k : ∀ o h1, Po o h1 → jm_K p l e R s m args below meth c S D cl Q nL pc lv rest h1 (dc + mc) (ds + ms) o) : jm_W p l e R s m args below meth c S D cl Q nL pc lv st h dc ds := by
  intro H ls locs hl hr hS T hT Y
  have hts := X.2.2.2.2.1
  obtain ⟨mk, methM, cM, hn, hmM, hcM, hlM, hsig⟩ := jm_cod hci.2.1 (hts _ hci.1)
  obtain ⟨kM, hkM, -⟩ := className_of_methodNamed hn
  have hiM : kM.init = .initialized := Cond.initialized_spec (findClass_of_methodNamed hn) hkM (hts _ hci.2.2.1)
  have hlen : As.length = methM.sig.parameters.length := by
    have h2 := hci.2.2.2.2
    rw [hsig] at h2
    exact (Option.some.inj h2).symm
  have key : ∃ vm', Stand p l e R s m args below meth c (T.setVm vm') locs dc ds ∧ ∀ target, (∀ acts, Steps p.tables e below (doInvoke e ((T.setVm vm').setTop (F0 m pc ls rest)) acts mk As.toArray).1 target) → Steps p.tables e below (T.setTop (F0 m pc ls st)) target := by
    rcases hlk with hw | ⟨host, hw⟩
    · exact Y.invokestatic X.1 X.2.2.2.1 (hts _ hw) hn hmM (Cond.static_spec hn hmM (hts _ hsc)) hkM hiM hci.2.2.2.1 (g := F0 m pc ls st) rfl hlen hst (by rw [X.2.1]; exact hd)
    · exact Y.invokestaticNest X.1 X.2.2.2.1 (hts _ hw) hn hmM (Cond.static_spec hn hmM (hts _ hsc)) hkM hiM hci.2.2.2.1 (g := F0 m pc ls st) rfl hlen hst (by rw [X.2.1]; exact hd)
  obtain ⟨vm', Y1, st1⟩ := key
  exact jm_cal X (T1 := T.setVm vm') hT hl hr hS Y1 hn st1 hd hM hci hrest hR hrm hcs k
theorem jm_callV (X : jm_cx p s m args c S D cl tys G cc nL own) {index ci b : Nat} {y : MethodName} {wc : Cond} {rm : Room} {As : List Value} {Po : Outcome → jm_H → Prop} {mc ms maxL : Nat} {fs : List Value} {T0 : u_T} {N : Nat} (hd : decode cc pc = .ok (.invokevirtual index, 3)) (hM : jm_M l S D cl y wc rm (.ref b :: As) h Po mc ms) (hci : jm_ci G y wc maxL As.length) (hlk : Cond.methodLink own index y ∈ G ∨ ∃ host, Cond.methodLinkNest own index y host ∈ G) (hin : Cond.instanceMethod y ∈ G) (hse : Cond.selects y.cls y y ∈ G) (hb : h b = some (.inr (ci, fs))) (hc : cl[ci]? = some (y.cls, T0, N)) (hst : st = As.reverse ++ .ref b :: rest) (hrest : (rest.map fun v => v.category).sum ≤ 8) (hR : rm.frames + 1 ≤ R.frames ∧ 8 + (maxL + 11) + rm.locals ≤ R.locals) (hrm : rm.cells = mc ∧ rm.slots = ms) (hcs : dc + mc ≤ R.cells ∧ ds + ms ≤ R.slots)
    (k : ∀ o h1, Po o h1 → jm_K p l e R s m args below meth c S D cl Q nL pc lv rest h1 (dc + mc) (ds + ms) o) : jm_W p l e R s m args below meth c S D cl Q nL pc lv st h dc ds := by
  intro H ls locs hl hr hS T hT Y
  have hts := X.2.2.2.2.1
  obtain ⟨mk, methM, cM, hn, hmM, hcM, hlM, hsig⟩ := jm_cod hci.2.1 (hts _ hci.1)
  obtain ⟨mk2, methM2, hn2, hmM2, hstM, habM⟩ := Cond.instanceMethod_spec (hts _ hin)
  cases hn.symm.trans hn2
  cases hmM.symm.trans hmM2
  have hlen : As.length = methM.sig.parameters.length := by
    have h2 := hci.2.2.2.2
    rw [hsig] at h2
    exact (Option.some.inj h2).symm
  obtain ⟨q0, hq⟩ := jm_place hr hb
  obtain ⟨cellB, hcB, hoB, hclB⟩ := va_recv X.2.2.2.2.2.1 (jm_P hr) hc hq
  obtain ⟨c2, r2, m2, q1, q2, q3, q4, kP, hkP, hkPi⟩ := Cond.selects_spec (hts _ hse)
  cases hclB.symm.trans q1
  cases (State.methodFound?_of_named hn hci.2.2.2.1).symm.trans q2
  cases hn.symm.trans q3
  have hselP : selectMethod e.platform s.vm cellB.cls mk = .method mk := by rw [Launch.admits_selectMethod Y.admits]; exact q4
  have key : ∃ vm', Stand p l e R s m args below meth c (T.setVm vm') locs dc ds ∧ ∀ target, (∀ acts, Steps p.tables e below (doInvoke e ((T.setVm vm').setTop (F0 m pc ls rest)) acts mk (Value.ref b :: As).toArray).1 target) → Steps p.tables e below (T.setTop (F0 m pc ls st)) target := by
    rcases hlk with hw | ⟨host, hw⟩
    · exact Y.invokevirtual X.1 X.2.2.2.1 (hts _ hw) hn hmM hstM hkP hkPi hci.2.2.2.1 (a := b) (cell := cellB) (by rw [hT]; exact hcB) (fun z hz => by rw [hz] at hoB; cases hoB) hselP hmM habM hkP hkPi (g := F0 m pc ls st) rfl (argsL := As) (rest := rest) hlen hst (by rw [X.2.1]; exact hd)
    · exact Y.invokevirtualNest X.1 X.2.2.2.1 (hts _ hw) hn hmM hstM hkP hkPi hci.2.2.2.1 (a := b) (cell := cellB) (by rw [hT]; exact hcB) (fun z hz => by rw [hz] at hoB; cases hoB) hselP hmM habM hkP hkPi (g := F0 m pc ls st) rfl (argsL := As) (rest := rest) hlen hst (by rw [X.2.1]; exact hd)
  obtain ⟨vm', Y1, st1⟩ := key
  exact jm_cal X (T1 := T.setVm vm') (As := .ref b :: As) hT hl hr hS Y1 hn st1 hd hM hci hrest hR hrm hcs k
theorem jm_callI (X : jm_cx p s m args c S D cl tys G cc nL own) {index b : Nat} {y : MethodName} {bytes : ByteArray} {rm : Room} {As : List Value} {Po : Outcome → jm_H → Prop} {mc ms maxL : Nat} (hd : decode cc pc = .ok (.invokespecial index, 3)) (hM : jm_M l S D cl y (.code y bytes maxL none) rm (.ref b :: As) h Po mc ms) (hci : jm_ci G y (.code y bytes maxL none) maxL As.length) (hlk : Cond.methodLink own index y ∈ G ∨ ∃ host, Cond.methodLinkNest own index y host ∈ G) (hin : Cond.instanceMethod y ∈ G) (hy1 : y.name = "<init>") (hst : st = As.reverse ++ .ref b :: rest) (hrest : (rest.map fun v => v.category).sum ≤ 8) (hR : rm.frames + 1 ≤ R.frames ∧ 8 + (maxL + 11) + rm.locals ≤ R.locals) (hrm : rm.cells = mc ∧ rm.slots = ms) (hcs : dc + mc ≤ R.cells ∧ ds + ms ≤ R.slots)
    (k : ∀ o h1, Po o h1 → jm_K p l e R s m args below meth c S D cl Q nL pc lv rest h1 (dc + mc) (ds + ms) o) : jm_W p l e R s m args below meth c S D cl Q nL pc lv st h dc ds := by
  intro H ls locs hl hr hS T hT Y
  have hts := X.2.2.2.2.1
  have hpl : e.platform.magicAccessors = ({} : Platform).magicAccessors := by rw [Y.admits.platform]
  have hlen : ∀ sig, parseMethodDescriptor y.desc = some sig → As.length = sig.parameters.length := fun sig hs => by
    have h2 := hci.2.2.2.2
    rw [hs] at h2
    exact (Option.some.inj h2).symm
  have key : ∃ mk vm', s.methodNamed? y = some mk ∧ s.WarmedH vm' ∧ ∀ target, (∀ acts, Steps p.tables e below (doInvoke e ((T.setVm vm').setTop (F0 m pc ls rest)) acts mk (Value.ref b :: As).toArray).1 target) → Steps p.tables e below (T.setTop (F0 m pc ls st)) target := by
    rcases hlk with hw | ⟨host, hw⟩
    · obtain ⟨mk, _, _, _, vm', hn, -, -, -, -, -, -, -, hW, hs⟩ := Steps.initColdArgs (e := e) Y.here X.1 Y.warmed hpl X.2.2.2.1 hy1 hci.2.2.2.1 (hts _ hw) (hts _ hin) (hts _ hci.1) (f := F0 m pc ls st) rfl hlen hst (by rw [X.2.1]; exact hd)
      exact ⟨mk, vm', hn, hW, hs⟩
    · obtain ⟨mk, _, _, _, vm', hn, -, -, -, -, -, -, -, hW, hs⟩ := Steps.initColdArgsNest (e := e) Y.here X.1 Y.warmed hpl X.2.2.2.1 hy1 hci.2.2.2.1 (hts _ hw) (hts _ hin) (hts _ hci.1) (f := F0 m pc ls st) rfl hlen hst (by rw [X.2.1]; exact hd)
      exact ⟨mk, vm', hn, hW, hs⟩
  obtain ⟨mk, vm', hn, hW, st1⟩ := key
  exact jm_cal X (T1 := T.setVm vm') (As := .ref b :: As) hT hl hr hS (Y.noted hW) hn st1 hd hM hci hrest hR hrm hcs k
def jm_R (v : Option Value) (h1 : jm_H) : Outcome → jm_H → Prop := fun o h2 => o = .returned v ∧ h2 = h1
theorem jm_k1 {v : Value} {h1 : jm_H} (k : jm_W p l e R s m args below meth c S D cl Q nL (pc + 3) lv (v :: rest) h1 dc ds) : ∀ o h2, jm_R (some v) h1 o h2 → jm_K p l e R s m args below meth c S D cl Q nL pc lv rest h2 dc ds o := by
  rintro o h2 ⟨rfl, rfl⟩
  exact k
theorem jm_k0 {h1 : jm_H} (k : jm_W p l e R s m args below meth c S D cl Q nL (pc + 3) lv rest h1 dc ds) : ∀ o h2, jm_R none h1 o h2 → jm_K p l e R s m args below meth c S D cl Q nL pc lv rest h2 dc ds o := by
  rintro o h2 ⟨rfl, rfl⟩
  exact k
end JM4
section JM5
variable {p : Program} {l : Launch} {e : Env} {R : Room} {s : State} {m : MethodId} {args : Array Value} {below : List Frame} {meth : Method} {c : Code} {Q : State → Prop}
variable {S : State} {D : va_G} {cl : List vw_C} {tys : List (ClassId × FieldType)} {G : List Cond} {cc : ByteArray} {nL pc dc ds : Nat} {own : String} {lv : List (Nat × Value)} {rest st : List Value} {h : jm_H}
theorem jm_rebase {T : State} {locs : List Loc} (X : Stand p l e R s m args below meth c T locs dc ds) (h1 : dc ≤ R.cells) (h2 : ds ≤ R.slots) : Stand p l e { R with cells := R.cells - dc, slots := R.slots - ds } (T.setFrames (.invoking m args :: below)) m args below meth c T [] 0 0 := by
  obtain ⟨g₀, hfr⟩ := X.frames_eq
  have hcur : T.cur < T.threads.size := State.cur_lt_of_frames hfr
  have hf : (T.setFrames (.invoking m args :: below)).frames = .invoking m args :: below := State.frames_setFrames _ hcur
  have hm : (T.setFrames (.invoking m args :: below)).vm.method? m = some meth := X.method'
  have hlo : (T.setFrames (.invoking m args :: below)).localsInUse = s.localsInUse := by
    rw [State.localsInUse_invoking hf hm X.code, State.localsInUse_invoking X.frames X.method X.code]
  have hlim : e.platform.stackLimits (T.setFrames (.invoking m args :: below)).me = e.platform.stackLimits s.me := by rw [State.stackLimits_setFrames, X.limits]
  have hby : (T.setFrames (.invoking m args :: below)).me.stackBytes = s.me.stackBytes := by rw [State.stackBytes_setFrames, X.bytes]
  have hcur2 : (T.setFrames (.invoking m args :: below)).cur < (T.setFrames (.invoking m args :: below)).threads.size := State.cur_lt_of_frames hf
  obtain ⟨t, ht, -⟩ := State.frames_cons hf
  obtain ⟨t0, ht0, -⟩ := State.frames_cons hfr
  refine ⟨X.admits, X.cas, X.clock, hf, ?_, ?_, hm, X.code, X.here, X.tail, State.WarmedH.refl _, ?_, ?_, ?_⟩
  · have hr := X.room
    have a1 := X.heapSize
    have a2 := X.used
    have a3 := X.book
    simp only [State.hasRoom, Bool.and_eq_true, decide_eq_true_eq] at hr ⊢
    rw [hlo, hlim, hby, hf]
    rw [X.frames] at hr
    refine ⟨⟨⟨⟨hr.1.1.1.1, hr.1.1.1.2⟩, ?_⟩, ?_⟩, ?_⟩
    · show T.heap.size + (R.cells - dc) ≤ _
      have := hr.1.1.2
      omega
    · show T.slotsUsed + (R.slots - ds) ≤ _
      have := hr.1.2
      omega
    · exact a3
  · have hv : ∀ x, T.vm.method? x = s.vm.method? x := fun x => X.warmed.alike.method? x
    have hq := X.hears
    have e1 : (T.setFrames (.invoking m args :: below)).hears m below = s.hears m below := by
      cases below with
      | nil => simp [State.hears, State.setFrames, hv]
      | cons f r => cases f <;> simp [State.hears, State.setFrames, State.code?_eq, hv]
    rw [e1]
    exact hq
  · rw [State.stackLimits_setFrames]
  · rw [State.stackBytes_setFrames]
  · have hs := (State.sameButNew.refl (T.setFrames (.invoking m args :: below)) ht).setFrames T.frames hcur2
    rw [State.setFrames_setFrames, State.setFrames_self ht0] at hs
    exact hs
theorem jm_sameOf {s U : State} {L : List Loc} {k n : Nat} (hs : s.sameButNew ({ U with vm := s.vm } : State) [] k n) : s.heap.size ≤ U.heap.size ∧ ∀ q : Nat, q < s.heap.size → U.heap[q]? = s.heap[q]? := by
  obtain ⟨-, h2, -, -, -, h6⟩ := hs
  refine ⟨h2, fun q hq => ?_⟩
  obtain ⟨x, hx⟩ : ∃ x, s.heap[q]? = some x := ⟨s.heap[q], Array.getElem?_eq_getElem hq⟩
  obtain ⟨x', h3, h4, h5, h7⟩ := h6 q x hx
  have h3 : U.heap[q]? = some x' := h3
  have e1 : x'.slots = x.slots := by
    apply Array.ext_getElem?
    intro i
    exact h7 i (by simp)
  rw [h3, hx, h4, e1]
end JM5
end
section
section JM6
def jm_us (h : jm_H) : List (Nat × va_E) → jm_H
  | [] => h
  | (a, x) :: L => jm_up (jm_us h L) a x
theorem jm_us_out {h : jm_H} {L : List (Nat × va_E)} {b : Nat} (hb : b ∉ L.map Prod.fst) : jm_us h L b = h b := by
  induction L with
  | nil => rfl
  | cons q L ih =>
    obtain ⟨a, x⟩ := q
    simp only [List.map_cons, List.mem_cons, not_or] at hb
    show jm_up (jm_us h L) a x b = h b
    rw [jm_up_ne _ _ hb.1]
    exact ih hb.2
theorem jm_us_get {h : jm_H} {L : List (Nat × va_E)} (hnd : (L.map Prod.fst).Nodup) (k : Nat) {a : Nat} {x : va_E} (hk : L[k]? = some (a, x)) : jm_us h L a = some x := by
  induction L generalizing k with
  | nil => simp at hk
  | cons q L ih =>
    obtain ⟨b, y⟩ := q
    simp only [List.map_cons, List.nodup_cons] at hnd
    cases k with
    | zero =>
      simp at hk
      obtain ⟨rfl, rfl⟩ := hk
      exact jm_up_eq _ _ _
    | succ k =>
      have hk : L[k]? = some (a, x) := by simpa using hk
      have hne : a ≠ b := by
        intro e
        subst e
        exact hnd.1 (List.mem_map.mpr ⟨(a, x), List.mem_of_getElem? hk, rfl⟩)
      show jm_up (jm_us h L) b y a = some x
      rw [jm_up_ne _ _ hne]
      exact ih hnd.2 k hk
theorem jm_us_set {h : jm_H} {L L1 : List (Nat × va_E)} (hnd : (L.map Prod.fst).Nodup) (k : Nat) {a : Nat} {x y : va_E} (hk : L[k]? = some (a, x)) (he : L.set k (a, y) = L1) : jm_up (jm_us h L) a y = jm_us h L1 := by
  subst he
  induction L generalizing k with
  | nil => simp at hk
  | cons q L ih =>
    obtain ⟨b, z⟩ := q
    simp only [List.map_cons, List.nodup_cons] at hnd
    cases k with
    | zero =>
      simp at hk
      obtain ⟨rfl, rfl⟩ := hk
      exact jm_up_up _ _ _ _
    | succ k =>
      have hk : L[k]? = some (a, x) := by simpa using hk
      have hne : b ≠ a := by
        intro e
        subst e
        exact hnd.1 (List.mem_map.mpr ⟨(b, x), List.mem_of_getElem? hk, rfl⟩)
      show jm_up (jm_up (jm_us h L) b z) a y = jm_up (jm_us h (L.set k (a, y))) b z
      rw [jm_up_cm _ _ _ hne, ih hnd.2 k hk]
theorem jm_us_id {h : jm_H} {L : List (Nat × va_E)} (hL : ∀ q ∈ L, h q.1 = some q.2) : jm_us h L = h := by
  induction L with
  | nil => rfl
  | cons q L ih =>
    obtain ⟨a, x⟩ := q
    show jm_up (jm_us h L) a x = h
    rw [ih (fun q hq => hL q (List.mem_cons_of_mem _ hq))]
    exact jm_up_id (hL (a, x) List.mem_cons_self)
def jm_wr (L : List (Nat × va_E)) : List (Nat × va_E) → List Nat → List (Nat × va_E)
  | c :: Lc, k :: ks => (jm_wr L Lc ks).set k c
  | _, _ => L
theorem jm_wr_fst {L : List (Nat × va_E)} : ∀ (Lc : List (Nat × va_E)) (ks : List Nat), ks.map (fun k => (L[k]?).map Prod.fst) = Lc.map (fun q => some q.1) → (jm_wr L Lc ks).map Prod.fst = L.map Prod.fst := by
  intro Lc
  induction Lc with
  | nil => intro ks _; simp [jm_wr]
  | cons c Lc ih =>
    intro ks hk
    cases ks with
    | nil => simp [jm_wr]
    | cons k ks =>
      simp only [List.map_cons, List.cons.injEq] at hk
      have ih := ih ks hk.2
      apply List.ext_getElem?
      intro i
      show ((((jm_wr L Lc ks).set k c)).map Prod.fst)[i]? = (L.map Prod.fst)[i]?
      rw [← ih, List.getElem?_map, List.getElem?_map, List.getElem?_set]
      by_cases e : k = i
      · subst e
        have h1 : ((jm_wr L Lc ks).map Prod.fst)[k]? = (L.map Prod.fst)[k]? := by rw [ih]
        rw [List.getElem?_map, List.getElem?_map, hk.1] at h1
        by_cases hl : k < (jm_wr L Lc ks).length
        · rw [List.getElem?_eq_getElem hl] at h1
          simp only [Option.map_some, Option.some.injEq] at h1
          simp [hl, h1]
        · simp [hl]
      · simp [e]
theorem jm_into {h : jm_H} {L Lc L1 : List (Nat × va_E)} (hnd : (L.map Prod.fst).Nodup) (ks : List Nat) (hk : ks.map (fun k => (L[k]?).map Prod.fst) = Lc.map (fun q => some q.1)) (he : jm_wr L Lc ks = L1) : jm_us (jm_us h L) Lc = jm_us h L1 := by
  subst he
  induction Lc generalizing ks with
  | nil => cases ks with
    | nil => rfl
    | cons k ks => simp at hk
  | cons c Lc ih =>
    cases ks with
    | nil => simp at hk
    | cons k ks =>
      obtain ⟨a, x⟩ := c
      simp only [List.map_cons, List.cons.injEq] at hk
      show jm_up (jm_us (jm_us h L) Lc) a x = jm_us h ((jm_wr L Lc ks).set k (a, x))
      rw [ih ks hk.2]
      have h1 := jm_wr_fst Lc ks hk.2
      have h2 : ((jm_wr L Lc ks)[k]?).map Prod.fst = some a := by
        have h3 : ((jm_wr L Lc ks).map Prod.fst)[k]? = (L.map Prod.fst)[k]? := by rw [h1]
        rw [List.getElem?_map, List.getElem?_map] at h3
        rw [h3]; exact hk.1
      obtain ⟨⟨b, z⟩, h4, h5⟩ := Option.map_eq_some_iff.mp h2
      have h5 : b = a := h5
      subst h5
      exact jm_us_set (by rw [h1]; exact hnd) k h4 rfl
theorem jm_pick {l l1 : List Nat} (hnd : l.Nodup) (is : List Nat) (hi : is.Nodup) (he : is.map (fun i => l[i]?) = l1.map some) : l1.Nodup := by
  have hlen : is.length = l1.length := by simpa using congrArg List.length he
  rw [List.nodup_iff_pairwise_ne, List.pairwise_iff_getElem] at *
  intro i j h1 h2 hij e
  have g : ∀ (k : Nat) (hk : k < l1.length) (hk' : k < is.length), l[is[k]]? = some l1[k] := fun k hk hk' => by
    have := congrArg (fun z => z[k]?) he
    simp only [List.getElem?_map] at this
    rw [List.getElem?_eq_getElem hk, List.getElem?_eq_getElem hk'] at this
    simpa using this
  have a1 := g i h1 (by omega)
  have a2 := g j h2 (by omega)
  obtain ⟨b1, b2⟩ := List.getElem?_eq_some_iff.mp a1
  obtain ⟨c1, c2⟩ := List.getElem?_eq_some_iff.mp a2
  have hne := hi i j (by omega) (by omega) hij
  rcases Nat.lt_trichotomy is[i] is[j] with q | q | q
  · exact hnd _ _ b1 c1 q (by rw [b2, c2, e])
  · exact hne q
  · exact hnd _ _ c1 b1 q (by rw [b2, c2, e])
variable {p : Program} {l : Launch} {e : Env} {R : Room} {s : State} {m : MethodId} {args : Array Value} {below : List Frame} {meth : Method} {c : Code} {Q : State → Prop} {S : State} {D : va_G} {cl : List vw_C} {nL pc dc ds : Nat} {lv : List (Nat × Value)} {st : List Value} {h h1 : jm_H}
theorem jm_hq (e1 : h = h1) (k : jm_W p l e R s m args below meth c S D cl Q nL pc lv st h1 dc ds) : jm_W p l e R s m args below meth c S D cl Q nL pc lv st h dc ds := e1 ▸ k
end JM6
end
