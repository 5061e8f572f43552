-- ===== PART A: goes FIRST, ahead of the names: the tables' words, and 'selects' of the private methods out of them =====
/-- a private method of a class that the tables say can be made, by its rows of tables_1 -/
def lw_okq (q : MethodName × Nat) : Prop := (q.1.cls ≠ "java/lang/invoke/MethodHandle" ∧ q.1.cls ≠ "java/lang/invoke/VarHandle") ∧ Cond.instantiable q.1.cls q.2 ∈ tables_1 ∧ Cond.privateMethod q.1 ∈ tables_1 ∧ Cond.instanceMethod q.1 ∈ tables_1
theorem lw_p0 : lw_okq (⟨"BagRiders", "finding", "(I)I"⟩, 9) := ⟨⟨by decide +kernel, by decide +kernel⟩, List.mem_of_getElem? (i := 23) (by decide +kernel), List.mem_of_getElem? (i := 481) (by decide +kernel), List.mem_of_getElem? (i := 482) (by decide +kernel)⟩
theorem lw_p1 : lw_okq (⟨"BagRiders$Town", "measureWays", "()V"⟩, 4) := ⟨⟨by decide +kernel, by decide +kernel⟩, List.mem_of_getElem? (i := 37) (by decide +kernel), List.mem_of_getElem? (i := 489) (by decide +kernel), List.mem_of_getElem? (i := 490) (by decide +kernel)⟩
theorem lw_p2 : lw_okq (⟨"BagRiders$Town", "directWay", "(II)I"⟩, 4) := ⟨⟨by decide +kernel, by decide +kernel⟩, List.mem_of_getElem? (i := 37) (by decide +kernel), List.mem_of_getElem? (i := 493) (by decide +kernel), List.mem_of_getElem? (i := 494) (by decide +kernel)⟩
theorem lw_p3 : lw_okq (⟨"BagRiders$Town", "shortenThrough", "(II)V"⟩, 4) := ⟨⟨by decide +kernel, by decide +kernel⟩, List.mem_of_getElem? (i := 37) (by decide +kernel), List.mem_of_getElem? (i := 504) (by decide +kernel), List.mem_of_getElem? (i := 505) (by decide +kernel)⟩
theorem lw_p4 : lw_okq (⟨"BagRiders$Trip", "follow", "(IILBagRiders$Order;LBagRiders$Order;)I"⟩, 11) := ⟨⟨by decide +kernel, by decide +kernel⟩, List.mem_of_getElem? (i := 338) (by decide +kernel), List.mem_of_getElem? (i := 645) (by decide +kernel), List.mem_of_getElem? (i := 646) (by decide +kernel)⟩
theorem lw_p5 : lw_okq (⟨"BagRiders$Trip", "takeTried", "(IIII)V"⟩, 11) := ⟨⟨by decide +kernel, by decide +kernel⟩, List.mem_of_getElem? (i := 338) (by decide +kernel), List.mem_of_getElem? (i := 659) (by decide +kernel), List.mem_of_getElem? (i := 660) (by decide +kernel)⟩
theorem lw_p6 : lw_okq (⟨"BagRiders", "planJoined", "(III)I"⟩, 9) := ⟨⟨by decide +kernel, by decide +kernel⟩, List.mem_of_getElem? (i := 23) (by decide +kernel), List.mem_of_getElem? (i := 670) (by decide +kernel), List.mem_of_getElem? (i := 671) (by decide +kernel)⟩
theorem lw_p7 : lw_okq (⟨"BagRiders", "handOver", "(ILBagRiders$Order;)V"⟩, 9) := ⟨⟨by decide +kernel, by decide +kernel⟩, List.mem_of_getElem? (i := 23) (by decide +kernel), List.mem_of_getElem? (i := 683) (by decide +kernel), List.mem_of_getElem? (i := 684) (by decide +kernel)⟩
theorem lw_p8 : lw_okq (⟨"BagRiders", "wageFor", "(ILBagRiders$Order;II)I"⟩, 9) := ⟨⟨by decide +kernel, by decide +kernel⟩, List.mem_of_getElem? (i := 23) (by decide +kernel), List.mem_of_getElem? (i := 687) (by decide +kernel), List.mem_of_getElem? (i := 688) (by decide +kernel)⟩
theorem lw_p9 : lw_okq (⟨"BagRiders$Names", "valueOf", "(I)I"⟩, 2) := ⟨⟨by decide +kernel, by decide +kernel⟩, List.mem_of_getElem? (i := 388) (by decide +kernel), List.mem_of_getElem? (i := 720) (by decide +kernel), List.mem_of_getElem? (i := 721) (by decide +kernel)⟩
theorem lw_p10 : lw_okq (⟨"BagRiders", "handOverTwo", "(III)V"⟩, 9) := ⟨⟨by decide +kernel, by decide +kernel⟩, List.mem_of_getElem? (i := 23) (by decide +kernel), List.mem_of_getElem? (i := 749) (by decide +kernel), List.mem_of_getElem? (i := 750) (by decide +kernel)⟩
theorem lw_p11 : lw_okq (⟨"BagRiders$Tape", "advance", "()V"⟩, 8) := ⟨⟨by decide +kernel, by decide +kernel⟩, List.mem_of_getElem? (i := 284) (by decide +kernel), List.mem_of_getElem? (i := 773) (by decide +kernel), List.mem_of_getElem? (i := 774) (by decide +kernel)⟩
theorem lw_p12 : lw_okq (⟨"BagRiders$Tape", "takeNumber", "()V"⟩, 8) := ⟨⟨by decide +kernel, by decide +kernel⟩, List.mem_of_getElem? (i := 284) (by decide +kernel), List.mem_of_getElem? (i := 777) (by decide +kernel), List.mem_of_getElem? (i := 778) (by decide +kernel)⟩
theorem lw_p13 : lw_okq (⟨"BagRiders$Tape", "readText", "(I)Z"⟩, 8) := ⟨⟨by decide +kernel, by decide +kernel⟩, List.mem_of_getElem? (i := 284) (by decide +kernel), List.mem_of_getElem? (i := 867) (by decide +kernel), List.mem_of_getElem? (i := 868) (by decide +kernel)⟩
theorem lw_p14 : lw_okq (⟨"BagRiders$Tape", "readSum", "(I)Z"⟩, 8) := ⟨⟨by decide +kernel, by decide +kernel⟩, List.mem_of_getElem? (i := 284) (by decide +kernel), List.mem_of_getElem? (i := 871) (by decide +kernel), List.mem_of_getElem? (i := 872) (by decide +kernel)⟩
theorem lw_p15 : lw_okq (⟨"BagRiders$Tape", "readTerm", "(I)Z"⟩, 8) := ⟨⟨by decide +kernel, by decide +kernel⟩, List.mem_of_getElem? (i := 284) (by decide +kernel), List.mem_of_getElem? (i := 875) (by decide +kernel), List.mem_of_getElem? (i := 876) (by decide +kernel)⟩
def lw_privs_1 : List (MethodName × Nat) := [(⟨"BagRiders", "finding", "(I)I"⟩, 9), (⟨"BagRiders$Town", "measureWays", "()V"⟩, 4), (⟨"BagRiders$Town", "directWay", "(II)I"⟩, 4), (⟨"BagRiders$Town", "shortenThrough", "(II)V"⟩, 4), (⟨"BagRiders$Trip", "follow", "(IILBagRiders$Order;LBagRiders$Order;)I"⟩, 11), (⟨"BagRiders$Trip", "takeTried", "(IIII)V"⟩, 11), (⟨"BagRiders", "planJoined", "(III)I"⟩, 9), (⟨"BagRiders", "handOver", "(ILBagRiders$Order;)V"⟩, 9), (⟨"BagRiders", "wageFor", "(ILBagRiders$Order;II)I"⟩, 9), (⟨"BagRiders$Names", "valueOf", "(I)I"⟩, 2), (⟨"BagRiders", "handOverTwo", "(III)V"⟩, 9), (⟨"BagRiders$Tape", "advance", "()V"⟩, 8), (⟨"BagRiders$Tape", "takeNumber", "()V"⟩, 8), (⟨"BagRiders$Tape", "readText", "(I)Z"⟩, 8), (⟨"BagRiders$Tape", "readSum", "(I)Z"⟩, 8), (⟨"BagRiders$Tape", "readTerm", "(I)Z"⟩, 8)]
theorem lw_r1 : ∀ q ∈ lw_privs_1, lw_okq q := List.forall_mem_cons.mpr ⟨lw_p0, List.forall_mem_cons.mpr ⟨lw_p1, List.forall_mem_cons.mpr ⟨lw_p2, List.forall_mem_cons.mpr ⟨lw_p3, List.forall_mem_cons.mpr ⟨lw_p4, List.forall_mem_cons.mpr ⟨lw_p5, List.forall_mem_cons.mpr ⟨lw_p6, List.forall_mem_cons.mpr ⟨lw_p7, List.forall_mem_cons.mpr ⟨lw_p8, List.forall_mem_cons.mpr ⟨lw_p9, List.forall_mem_cons.mpr ⟨lw_p10, List.forall_mem_cons.mpr ⟨lw_p11, List.forall_mem_cons.mpr ⟨lw_p12, List.forall_mem_cons.mpr ⟨lw_p13, List.forall_mem_cons.mpr ⟨lw_p14, List.forall_mem_cons.mpr ⟨lw_p15, fun _ h => absurd h List.not_mem_nil⟩⟩⟩⟩⟩⟩⟩⟩⟩⟩⟩⟩⟩⟩⟩⟩
theorem lw_p16 : lw_okq (⟨"BagRiders$Tape", "readOne", "(I)Z"⟩, 8) := ⟨⟨by decide +kernel, by decide +kernel⟩, List.mem_of_getElem? (i := 284) (by decide +kernel), List.mem_of_getElem? (i := 879) (by decide +kernel), List.mem_of_getElem? (i := 880) (by decide +kernel)⟩
theorem lw_p17 : lw_okq (⟨"BagRiders$Tape", "putStep", "(I)Z"⟩, 8) := ⟨⟨by decide +kernel, by decide +kernel⟩, List.mem_of_getElem? (i := 284) (by decide +kernel), List.mem_of_getElem? (i := 883) (by decide +kernel), List.mem_of_getElem? (i := 884) (by decide +kernel)⟩
theorem lw_p18 : lw_okq (⟨"BagRiders", "bestFor", "(ILBagRiders$Text;)I"⟩, 9) := ⟨⟨by decide +kernel, by decide +kernel⟩, List.mem_of_getElem? (i := 23) (by decide +kernel), List.mem_of_getElem? (i := 927) (by decide +kernel), List.mem_of_getElem? (i := 928) (by decide +kernel)⟩
theorem lw_p19 : lw_okq (⟨"BagRiders$Night", "startAgain", "()V"⟩, 10) := ⟨⟨by decide +kernel, by decide +kernel⟩, List.mem_of_getElem? (i := 401) (by decide +kernel), List.mem_of_getElem? (i := 1026) (by decide +kernel), List.mem_of_getElem? (i := 1027) (by decide +kernel)⟩
theorem lw_p20 : lw_okq (⟨"BagRiders$Night", "bestTaker", "(LBagRiders$Order;LBagRiders$Text;)I"⟩, 10) := ⟨⟨by decide +kernel, by decide +kernel⟩, List.mem_of_getElem? (i := 401) (by decide +kernel), List.mem_of_getElem? (i := 1030) (by decide +kernel), List.mem_of_getElem? (i := 1031) (by decide +kernel)⟩
theorem lw_p21 : lw_okq (⟨"BagRiders$Night", "planFor", "(ILBagRiders$Order;)Z"⟩, 10) := ⟨⟨by decide +kernel, by decide +kernel⟩, List.mem_of_getElem? (i := 401) (by decide +kernel), List.mem_of_getElem? (i := 1034) (by decide +kernel), List.mem_of_getElem? (i := 1035) (by decide +kernel)⟩
theorem lw_p22 : lw_okq (⟨"BagRiders$Night", "handTo", "(I)V"⟩, 10) := ⟨⟨by decide +kernel, by decide +kernel⟩, List.mem_of_getElem? (i := 401) (by decide +kernel), List.mem_of_getElem? (i := 1044) (by decide +kernel), List.mem_of_getElem? (i := 1045) (by decide +kernel)⟩
theorem lw_p23 : lw_okq (⟨"BagRiders", "sheetAt", "(I)LBagRiders$Sheet;"⟩, 9) := ⟨⟨by decide +kernel, by decide +kernel⟩, List.mem_of_getElem? (i := 23) (by decide +kernel), List.mem_of_getElem? (i := 1080) (by decide +kernel), List.mem_of_getElem? (i := 1081) (by decide +kernel)⟩
theorem lw_p24 : lw_okq (⟨"BagRidersModel", "finding", "(I)I"⟩, 34) := ⟨⟨by decide +kernel, by decide +kernel⟩, List.mem_of_getElem? (i := 1168) (by decide +kernel), List.mem_of_getElem? (i := 1287) (by decide +kernel), List.mem_of_getElem? (i := 1288) (by decide +kernel)⟩
theorem lw_p25 : lw_okq (⟨"BagRidersModel", "become", "(II)I"⟩, 34) := ⟨⟨by decide +kernel, by decide +kernel⟩, List.mem_of_getElem? (i := 1168) (by decide +kernel), List.mem_of_getElem? (i := 1292) (by decide +kernel), List.mem_of_getElem? (i := 1293) (by decide +kernel)⟩
theorem lw_p26 : lw_okq (⟨"BagRidersModel", "lay", "(III)I"⟩, 34) := ⟨⟨by decide +kernel, by decide +kernel⟩, List.mem_of_getElem? (i := 1168) (by decide +kernel), List.mem_of_getElem? (i := 1303) (by decide +kernel), List.mem_of_getElem? (i := 1304) (by decide +kernel)⟩
theorem lw_p27 : lw_okq (⟨"BagRidersModel", "wayOf", "(II)I"⟩, 34) := ⟨⟨by decide +kernel, by decide +kernel⟩, List.mem_of_getElem? (i := 1168) (by decide +kernel), List.mem_of_getElem? (i := 1311) (by decide +kernel), List.mem_of_getElem? (i := 1312) (by decide +kernel)⟩
theorem lw_p28 : lw_okq (⟨"BagRidersModel", "findWays", "()V"⟩, 34) := ⟨⟨by decide +kernel, by decide +kernel⟩, List.mem_of_getElem? (i := 1168) (by decide +kernel), List.mem_of_getElem? (i := 1315) (by decide +kernel), List.mem_of_getElem? (i := 1316) (by decide +kernel)⟩
theorem lw_p29 : lw_okq (⟨"BagRidersModel", "isOrder", "(I)Z"⟩, 34) := ⟨⟨by decide +kernel, by decide +kernel⟩, List.mem_of_getElem? (i := 1168) (by decide +kernel), List.mem_of_getElem? (i := 1336) (by decide +kernel), List.mem_of_getElem? (i := 1337) (by decide +kernel)⟩
theorem lw_p30 : lw_okq (⟨"BagRidersModel", "isGiven", "(I)Z"⟩, 34) := ⟨⟨by decide +kernel, by decide +kernel⟩, List.mem_of_getElem? (i := 1168) (by decide +kernel), List.mem_of_getElem? (i := 1340) (by decide +kernel), List.mem_of_getElem? (i := 1341) (by decide +kernel)⟩
theorem lw_p31 : lw_okq (⟨"BagRidersModel", "ofOrder", "(II)I"⟩, 34) := ⟨⟨by decide +kernel, by decide +kernel⟩, List.mem_of_getElem? (i := 1168) (by decide +kernel), List.mem_of_getElem? (i := 1344) (by decide +kernel), List.mem_of_getElem? (i := 1345) (by decide +kernel)⟩
def lw_privs_2 : List (MethodName × Nat) := [(⟨"BagRiders$Tape", "readOne", "(I)Z"⟩, 8), (⟨"BagRiders$Tape", "putStep", "(I)Z"⟩, 8), (⟨"BagRiders", "bestFor", "(ILBagRiders$Text;)I"⟩, 9), (⟨"BagRiders$Night", "startAgain", "()V"⟩, 10), (⟨"BagRiders$Night", "bestTaker", "(LBagRiders$Order;LBagRiders$Text;)I"⟩, 10), (⟨"BagRiders$Night", "planFor", "(ILBagRiders$Order;)Z"⟩, 10), (⟨"BagRiders$Night", "handTo", "(I)V"⟩, 10), (⟨"BagRiders", "sheetAt", "(I)LBagRiders$Sheet;"⟩, 9), (⟨"BagRidersModel", "finding", "(I)I"⟩, 34), (⟨"BagRidersModel", "become", "(II)I"⟩, 34), (⟨"BagRidersModel", "lay", "(III)I"⟩, 34), (⟨"BagRidersModel", "wayOf", "(II)I"⟩, 34), (⟨"BagRidersModel", "findWays", "()V"⟩, 34), (⟨"BagRidersModel", "isOrder", "(I)Z"⟩, 34), (⟨"BagRidersModel", "isGiven", "(I)Z"⟩, 34), (⟨"BagRidersModel", "ofOrder", "(II)I"⟩, 34)]
theorem lw_r2 : ∀ q ∈ lw_privs_2, lw_okq q := List.forall_mem_cons.mpr ⟨lw_p16, List.forall_mem_cons.mpr ⟨lw_p17, List.forall_mem_cons.mpr ⟨lw_p18, List.forall_mem_cons.mpr ⟨lw_p19, List.forall_mem_cons.mpr ⟨lw_p20, List.forall_mem_cons.mpr ⟨lw_p21, List.forall_mem_cons.mpr ⟨lw_p22, List.forall_mem_cons.mpr ⟨lw_p23, List.forall_mem_cons.mpr ⟨lw_p24, List.forall_mem_cons.mpr ⟨lw_p25, List.forall_mem_cons.mpr ⟨lw_p26, List.forall_mem_cons.mpr ⟨lw_p27, List.forall_mem_cons.mpr ⟨lw_p28, List.forall_mem_cons.mpr ⟨lw_p29, List.forall_mem_cons.mpr ⟨lw_p30, List.forall_mem_cons.mpr ⟨lw_p31, fun _ h => absurd h List.not_mem_nil⟩⟩⟩⟩⟩⟩⟩⟩⟩⟩⟩⟩⟩⟩⟩⟩
theorem lw_p32 : lw_okq (⟨"BagRidersModel", "ready", "(I)I"⟩, 34) := ⟨⟨by decide +kernel, by decide +kernel⟩, List.mem_of_getElem? (i := 1168) (by decide +kernel), List.mem_of_getElem? (i := 1348) (by decide +kernel), List.mem_of_getElem? (i := 1349) (by decide +kernel)⟩
theorem lw_p33 : lw_okq (⟨"BagRidersModel", "lateOf", "(I)I"⟩, 34) := ⟨⟨by decide +kernel, by decide +kernel⟩, List.mem_of_getElem? (i := 1168) (by decide +kernel), List.mem_of_getElem? (i := 1352) (by decide +kernel), List.mem_of_getElem? (i := 1353) (by decide +kernel)⟩
theorem lw_p34 : lw_okq (⟨"BagRidersModel", "lateBy", "(II)I"⟩, 34) := ⟨⟨by decide +kernel, by decide +kernel⟩, List.mem_of_getElem? (i := 1168) (by decide +kernel), List.mem_of_getElem? (i := 1356) (by decide +kernel), List.mem_of_getElem? (i := 1357) (by decide +kernel)⟩
theorem lw_p35 : lw_okq (⟨"BagRidersModel", "payOf", "(I)I"⟩, 34) := ⟨⟨by decide +kernel, by decide +kernel⟩, List.mem_of_getElem? (i := 1168) (by decide +kernel), List.mem_of_getElem? (i := 1360) (by decide +kernel), List.mem_of_getElem? (i := 1361) (by decide +kernel)⟩
theorem lw_p36 : lw_okq (⟨"BagRidersModel", "ratingOf", "(I)I"⟩, 34) := ⟨⟨by decide +kernel, by decide +kernel⟩, List.mem_of_getElem? (i := 1168) (by decide +kernel), List.mem_of_getElem? (i := 1364) (by decide +kernel), List.mem_of_getElem? (i := 1365) (by decide +kernel)⟩
theorem lw_p37 : lw_okq (⟨"BagRidersModel", "lack", "(II)I"⟩, 34) := ⟨⟨by decide +kernel, by decide +kernel⟩, List.mem_of_getElem? (i := 1168) (by decide +kernel), List.mem_of_getElem? (i := 1368) (by decide +kernel), List.mem_of_getElem? (i := 1369) (by decide +kernel)⟩
theorem lw_p38 : lw_okq (⟨"BagRidersModel", "isWaiting", "(I)Z"⟩, 34) := ⟨⟨by decide +kernel, by decide +kernel⟩, List.mem_of_getElem? (i := 1168) (by decide +kernel), List.mem_of_getElem? (i := 1379) (by decide +kernel), List.mem_of_getElem? (i := 1380) (by decide +kernel)⟩
theorem lw_p39 : lw_okq (⟨"BagRidersModel", "isRider", "(I)Z"⟩, 34) := ⟨⟨by decide +kernel, by decide +kernel⟩, List.mem_of_getElem? (i := 1168) (by decide +kernel), List.mem_of_getElem? (i := 1391) (by decide +kernel), List.mem_of_getElem? (i := 1392) (by decide +kernel)⟩
theorem lw_p40 : lw_okq (⟨"BagRidersModel", "engaged", "(I)I"⟩, 34) := ⟨⟨by decide +kernel, by decide +kernel⟩, List.mem_of_getElem? (i := 1168) (by decide +kernel), List.mem_of_getElem? (i := 1395) (by decide +kernel), List.mem_of_getElem? (i := 1396) (by decide +kernel)⟩
theorem lw_p41 : lw_okq (⟨"BagRidersModel", "payOfAll", "(I)I"⟩, 34) := ⟨⟨by decide +kernel, by decide +kernel⟩, List.mem_of_getElem? (i := 1168) (by decide +kernel), List.mem_of_getElem? (i := 1399) (by decide +kernel), List.mem_of_getElem? (i := 1400) (by decide +kernel)⟩
theorem lw_p42 : lw_okq (⟨"BagRidersModel", "isHis", "(II)Z"⟩, 34) := ⟨⟨by decide +kernel, by decide +kernel⟩, List.mem_of_getElem? (i := 1168) (by decide +kernel), List.mem_of_getElem? (i := 1403) (by decide +kernel), List.mem_of_getElem? (i := 1404) (by decide +kernel)⟩
theorem lw_p43 : lw_okq (⟨"BagRidersModel", "ratingOfRider", "(I)I"⟩, 34) := ⟨⟨by decide +kernel, by decide +kernel⟩, List.mem_of_getElem? (i := 1168) (by decide +kernel), List.mem_of_getElem? (i := 1407) (by decide +kernel), List.mem_of_getElem? (i := 1408) (by decide +kernel)⟩
theorem lw_p44 : lw_okq (⟨"BagRidersModel", "ofRider", "(II)I"⟩, 34) := ⟨⟨by decide +kernel, by decide +kernel⟩, List.mem_of_getElem? (i := 1168) (by decide +kernel), List.mem_of_getElem? (i := 1411) (by decide +kernel), List.mem_of_getElem? (i := 1412) (by decide +kernel)⟩
theorem lw_p45 : lw_okq (⟨"BagRidersModel", "refusals", "(I)I"⟩, 34) := ⟨⟨by decide +kernel, by decide +kernel⟩, List.mem_of_getElem? (i := 1168) (by decide +kernel), List.mem_of_getElem? (i := 1415) (by decide +kernel), List.mem_of_getElem? (i := 1416) (by decide +kernel)⟩
theorem lw_p46 : lw_okq (⟨"BagRidersModel", "goesOf", "(III)I"⟩, 34) := ⟨⟨by decide +kernel, by decide +kernel⟩, List.mem_of_getElem? (i := 1168) (by decide +kernel), List.mem_of_getElem? (i := 1423) (by decide +kernel), List.mem_of_getElem? (i := 1424) (by decide +kernel)⟩
theorem lw_p47 : lw_okq (⟨"BagRidersModel", "tripNow", "(II)Z"⟩, 34) := ⟨⟨by decide +kernel, by decide +kernel⟩, List.mem_of_getElem? (i := 1168) (by decide +kernel), List.mem_of_getElem? (i := 1434) (by decide +kernel), List.mem_of_getElem? (i := 1435) (by decide +kernel)⟩
def lw_privs_3 : List (MethodName × Nat) := [(⟨"BagRidersModel", "ready", "(I)I"⟩, 34), (⟨"BagRidersModel", "lateOf", "(I)I"⟩, 34), (⟨"BagRidersModel", "lateBy", "(II)I"⟩, 34), (⟨"BagRidersModel", "payOf", "(I)I"⟩, 34), (⟨"BagRidersModel", "ratingOf", "(I)I"⟩, 34), (⟨"BagRidersModel", "lack", "(II)I"⟩, 34), (⟨"BagRidersModel", "isWaiting", "(I)Z"⟩, 34), (⟨"BagRidersModel", "isRider", "(I)Z"⟩, 34), (⟨"BagRidersModel", "engaged", "(I)I"⟩, 34), (⟨"BagRidersModel", "payOfAll", "(I)I"⟩, 34), (⟨"BagRidersModel", "isHis", "(II)Z"⟩, 34), (⟨"BagRidersModel", "ratingOfRider", "(I)I"⟩, 34), (⟨"BagRidersModel", "ofRider", "(II)I"⟩, 34), (⟨"BagRidersModel", "refusals", "(I)I"⟩, 34), (⟨"BagRidersModel", "goesOf", "(III)I"⟩, 34), (⟨"BagRidersModel", "tripNow", "(II)Z"⟩, 34)]
theorem lw_r3 : ∀ q ∈ lw_privs_3, lw_okq q := List.forall_mem_cons.mpr ⟨lw_p32, List.forall_mem_cons.mpr ⟨lw_p33, List.forall_mem_cons.mpr ⟨lw_p34, List.forall_mem_cons.mpr ⟨lw_p35, List.forall_mem_cons.mpr ⟨lw_p36, List.forall_mem_cons.mpr ⟨lw_p37, List.forall_mem_cons.mpr ⟨lw_p38, List.forall_mem_cons.mpr ⟨lw_p39, List.forall_mem_cons.mpr ⟨lw_p40, List.forall_mem_cons.mpr ⟨lw_p41, List.forall_mem_cons.mpr ⟨lw_p42, List.forall_mem_cons.mpr ⟨lw_p43, List.forall_mem_cons.mpr ⟨lw_p44, List.forall_mem_cons.mpr ⟨lw_p45, List.forall_mem_cons.mpr ⟨lw_p46, List.forall_mem_cons.mpr ⟨lw_p47, fun _ h => absurd h List.not_mem_nil⟩⟩⟩⟩⟩⟩⟩⟩⟩⟩⟩⟩⟩⟩⟩⟩
theorem lw_p48 : lw_okq (⟨"BagRidersModel", "beginsAt", "(I)I"⟩, 34) := ⟨⟨by decide +kernel, by decide +kernel⟩, List.mem_of_getElem? (i := 1168) (by decide +kernel), List.mem_of_getElem? (i := 1438) (by decide +kernel), List.mem_of_getElem? (i := 1439) (by decide +kernel)⟩
theorem lw_p49 : lw_okq (⟨"BagRidersModel", "tripFrom", "(IIII)Z"⟩, 34) := ⟨⟨by decide +kernel, by decide +kernel⟩, List.mem_of_getElem? (i := 1168) (by decide +kernel), List.mem_of_getElem? (i := 1442) (by decide +kernel), List.mem_of_getElem? (i := 1443) (by decide +kernel)⟩
theorem lw_p50 : lw_okq (⟨"BagRidersModel", "begin", "(II)V"⟩, 34) := ⟨⟨by decide +kernel, by decide +kernel⟩, List.mem_of_getElem? (i := 1168) (by decide +kernel), List.mem_of_getElem? (i := 1446) (by decide +kernel), List.mem_of_getElem? (i := 1447) (by decide +kernel)⟩
theorem lw_p51 : lw_okq (⟨"BagRidersModel", "pickUp", "(III)V"⟩, 34) := ⟨⟨by decide +kernel, by decide +kernel⟩, List.mem_of_getElem? (i := 1168) (by decide +kernel), List.mem_of_getElem? (i := 1450) (by decide +kernel), List.mem_of_getElem? (i := 1451) (by decide +kernel)⟩
theorem lw_p52 : lw_okq (⟨"BagRidersModel", "kitchenAt", "(I)I"⟩, 34) := ⟨⟨by decide +kernel, by decide +kernel⟩, List.mem_of_getElem? (i := 1168) (by decide +kernel), List.mem_of_getElem? (i := 1454) (by decide +kernel), List.mem_of_getElem? (i := 1455) (by decide +kernel)⟩
theorem lw_p53 : lw_okq (⟨"BagRidersModel", "ride", "(II)V"⟩, 34) := ⟨⟨by decide +kernel, by decide +kernel⟩, List.mem_of_getElem? (i := 1168) (by decide +kernel), List.mem_of_getElem? (i := 1458) (by decide +kernel), List.mem_of_getElem? (i := 1459) (by decide +kernel)⟩
theorem lw_p54 : lw_okq (⟨"BagRidersModel", "bring", "(III)V"⟩, 34) := ⟨⟨by decide +kernel, by decide +kernel⟩, List.mem_of_getElem? (i := 1168) (by decide +kernel), List.mem_of_getElem? (i := 1462) (by decide +kernel), List.mem_of_getElem? (i := 1463) (by decide +kernel)⟩
theorem lw_p55 : lw_okq (⟨"BagRidersModel", "hinders", "(III)I"⟩, 34) := ⟨⟨by decide +kernel, by decide +kernel⟩, List.mem_of_getElem? (i := 1168) (by decide +kernel), List.mem_of_getElem? (i := 1470) (by decide +kernel), List.mem_of_getElem? (i := 1471) (by decide +kernel)⟩
theorem lw_p56 : lw_okq (⟨"BagRidersModel", "joins", "(III)Z"⟩, 34) := ⟨⟨by decide +kernel, by decide +kernel⟩, List.mem_of_getElem? (i := 1168) (by decide +kernel), List.mem_of_getElem? (i := 1474) (by decide +kernel), List.mem_of_getElem? (i := 1475) (by decide +kernel)⟩
theorem lw_p57 : lw_okq (⟨"BagRidersModel", "goesWay", "(IIII)Z"⟩, 34) := ⟨⟨by decide +kernel, by decide +kernel⟩, List.mem_of_getElem? (i := 1168) (by decide +kernel), List.mem_of_getElem? (i := 1478) (by decide +kernel), List.mem_of_getElem? (i := 1479) (by decide +kernel)⟩
theorem lw_p58 : lw_okq (⟨"BagRidersModel", "gives", "(II)I"⟩, 34) := ⟨⟨by decide +kernel, by decide +kernel⟩, List.mem_of_getElem? (i := 1168) (by decide +kernel), List.mem_of_getElem? (i := 1489) (by decide +kernel), List.mem_of_getElem? (i := 1490) (by decide +kernel)⟩
theorem lw_p59 : lw_okq (⟨"BagRidersModel", "payFor", "(III)I"⟩, 34) := ⟨⟨by decide +kernel, by decide +kernel⟩, List.mem_of_getElem? (i := 1168) (by decide +kernel), List.mem_of_getElem? (i := 1493) (by decide +kernel), List.mem_of_getElem? (i := 1494) (by decide +kernel)⟩
theorem lw_p60 : lw_okq (⟨"BagRidersModel", "nameWays", "(III)V"⟩, 34) := ⟨⟨by decide +kernel, by decide +kernel⟩, List.mem_of_getElem? (i := 1168) (by decide +kernel), List.mem_of_getElem? (i := 1497) (by decide +kernel), List.mem_of_getElem? (i := 1498) (by decide +kernel)⟩
theorem lw_p61 : lw_okq (⟨"BagRidersModel", "works", "(I)I"⟩, 34) := ⟨⟨by decide +kernel, by decide +kernel⟩, List.mem_of_getElem? (i := 1168) (by decide +kernel), List.mem_of_getElem? (i := 1504) (by decide +kernel), List.mem_of_getElem? (i := 1505) (by decide +kernel)⟩
theorem lw_p62 : lw_okq (⟨"BagRidersModel", "ends", "(I)V"⟩, 34) := ⟨⟨by decide +kernel, by decide +kernel⟩, List.mem_of_getElem? (i := 1168) (by decide +kernel), List.mem_of_getElem? (i := 1511) (by decide +kernel), List.mem_of_getElem? (i := 1512) (by decide +kernel)⟩
theorem lw_p63 : lw_okq (⟨"BagRidersModel", "becomesGiven", "(IIII)V"⟩, 34) := ⟨⟨by decide +kernel, by decide +kernel⟩, List.mem_of_getElem? (i := 1168) (by decide +kernel), List.mem_of_getElem? (i := 1515) (by decide +kernel), List.mem_of_getElem? (i := 1516) (by decide +kernel)⟩
def lw_privs_4 : List (MethodName × Nat) := [(⟨"BagRidersModel", "beginsAt", "(I)I"⟩, 34), (⟨"BagRidersModel", "tripFrom", "(IIII)Z"⟩, 34), (⟨"BagRidersModel", "begin", "(II)V"⟩, 34), (⟨"BagRidersModel", "pickUp", "(III)V"⟩, 34), (⟨"BagRidersModel", "kitchenAt", "(I)I"⟩, 34), (⟨"BagRidersModel", "ride", "(II)V"⟩, 34), (⟨"BagRidersModel", "bring", "(III)V"⟩, 34), (⟨"BagRidersModel", "hinders", "(III)I"⟩, 34), (⟨"BagRidersModel", "joins", "(III)Z"⟩, 34), (⟨"BagRidersModel", "goesWay", "(IIII)Z"⟩, 34), (⟨"BagRidersModel", "gives", "(II)I"⟩, 34), (⟨"BagRidersModel", "payFor", "(III)I"⟩, 34), (⟨"BagRidersModel", "nameWays", "(III)V"⟩, 34), (⟨"BagRidersModel", "works", "(I)I"⟩, 34), (⟨"BagRidersModel", "ends", "(I)V"⟩, 34), (⟨"BagRidersModel", "becomesGiven", "(IIII)V"⟩, 34)]
theorem lw_r4 : ∀ q ∈ lw_privs_4, lw_okq q := List.forall_mem_cons.mpr ⟨lw_p48, List.forall_mem_cons.mpr ⟨lw_p49, List.forall_mem_cons.mpr ⟨lw_p50, List.forall_mem_cons.mpr ⟨lw_p51, List.forall_mem_cons.mpr ⟨lw_p52, List.forall_mem_cons.mpr ⟨lw_p53, List.forall_mem_cons.mpr ⟨lw_p54, List.forall_mem_cons.mpr ⟨lw_p55, List.forall_mem_cons.mpr ⟨lw_p56, List.forall_mem_cons.mpr ⟨lw_p57, List.forall_mem_cons.mpr ⟨lw_p58, List.forall_mem_cons.mpr ⟨lw_p59, List.forall_mem_cons.mpr ⟨lw_p60, List.forall_mem_cons.mpr ⟨lw_p61, List.forall_mem_cons.mpr ⟨lw_p62, List.forall_mem_cons.mpr ⟨lw_p63, fun _ h => absurd h List.not_mem_nil⟩⟩⟩⟩⟩⟩⟩⟩⟩⟩⟩⟩⟩⟩⟩⟩
theorem lw_p64 : lw_okq (⟨"BagRidersModel", "next", "()V"⟩, 34) := ⟨⟨by decide +kernel, by decide +kernel⟩, List.mem_of_getElem? (i := 1168) (by decide +kernel), List.mem_of_getElem? (i := 1535) (by decide +kernel), List.mem_of_getElem? (i := 1536) (by decide +kernel)⟩
theorem lw_p65 : lw_okq (⟨"BagRidersModel", "isDigit", "(I)Z"⟩, 34) := ⟨⟨by decide +kernel, by decide +kernel⟩, List.mem_of_getElem? (i := 1168) (by decide +kernel), List.mem_of_getElem? (i := 1539) (by decide +kernel), List.mem_of_getElem? (i := 1540) (by decide +kernel)⟩
theorem lw_p66 : lw_okq (⟨"BagRidersModel", "whole", "()Z"⟩, 34) := ⟨⟨by decide +kernel, by decide +kernel⟩, List.mem_of_getElem? (i := 1168) (by decide +kernel), List.mem_of_getElem? (i := 1549) (by decide +kernel), List.mem_of_getElem? (i := 1550) (by decide +kernel)⟩
theorem lw_p67 : lw_okq (⟨"BagRidersModel", "sum", "()Z"⟩, 34) := ⟨⟨by decide +kernel, by decide +kernel⟩, List.mem_of_getElem? (i := 1168) (by decide +kernel), List.mem_of_getElem? (i := 1553) (by decide +kernel), List.mem_of_getElem? (i := 1554) (by decide +kernel)⟩
theorem lw_p68 : lw_okq (⟨"BagRidersModel", "term", "()Z"⟩, 34) := ⟨⟨by decide +kernel, by decide +kernel⟩, List.mem_of_getElem? (i := 1168) (by decide +kernel), List.mem_of_getElem? (i := 1557) (by decide +kernel), List.mem_of_getElem? (i := 1558) (by decide +kernel)⟩
theorem lw_p69 : lw_okq (⟨"BagRidersModel", "one", "()Z"⟩, 34) := ⟨⟨by decide +kernel, by decide +kernel⟩, List.mem_of_getElem? (i := 1168) (by decide +kernel), List.mem_of_getElem? (i := 1561) (by decide +kernel), List.mem_of_getElem? (i := 1562) (by decide +kernel)⟩
theorem lw_p70 : lw_okq (⟨"BagRidersModel", "lays", "(II)V"⟩, 34) := ⟨⟨by decide +kernel, by decide +kernel⟩, List.mem_of_getElem? (i := 1168) (by decide +kernel), List.mem_of_getElem? (i := 1565) (by decide +kernel), List.mem_of_getElem? (i := 1566) (by decide +kernel)⟩
theorem lw_p71 : lw_okq (⟨"BagRidersModel", "isSign", "(I)Z"⟩, 34) := ⟨⟨by decide +kernel, by decide +kernel⟩, List.mem_of_getElem? (i := 1168) (by decide +kernel), List.mem_of_getElem? (i := 1569) (by decide +kernel), List.mem_of_getElem? (i := 1570) (by decide +kernel)⟩
theorem lw_p72 : lw_okq (⟨"BagRidersModel", "opens", "()Z"⟩, 34) := ⟨⟨by decide +kernel, by decide +kernel⟩, List.mem_of_getElem? (i := 1168) (by decide +kernel), List.mem_of_getElem? (i := 1573) (by decide +kernel), List.mem_of_getElem? (i := 1574) (by decide +kernel)⟩
theorem lw_p73 : lw_okq (⟨"BagRidersModel", "isText", "(I)Z"⟩, 34) := ⟨⟨by decide +kernel, by decide +kernel⟩, List.mem_of_getElem? (i := 1168) (by decide +kernel), List.mem_of_getElem? (i := 1581) (by decide +kernel), List.mem_of_getElem? (i := 1582) (by decide +kernel)⟩
theorem lw_p74 : lw_okq (⟨"BagRidersModel", "nameAll", "(II)V"⟩, 34) := ⟨⟨by decide +kernel, by decide +kernel⟩, List.mem_of_getElem? (i := 1168) (by decide +kernel), List.mem_of_getElem? (i := 1589) (by decide +kernel), List.mem_of_getElem? (i := 1590) (by decide +kernel)⟩
theorem lw_p75 : lw_okq (⟨"BagRidersModel", "offeredTo", "(I)I"⟩, 34) := ⟨⟨by decide +kernel, by decide +kernel⟩, List.mem_of_getElem? (i := 1168) (by decide +kernel), List.mem_of_getElem? (i := 1597) (by decide +kernel), List.mem_of_getElem? (i := 1598) (by decide +kernel)⟩
theorem lw_p76 : lw_okq (⟨"BagRidersModel", "counting", "(I)I"⟩, 34) := ⟨⟨by decide +kernel, by decide +kernel⟩, List.mem_of_getElem? (i := 1168) (by decide +kernel), List.mem_of_getElem? (i := 1628) (by decide +kernel), List.mem_of_getElem? (i := 1629) (by decide +kernel)⟩
theorem lw_p77 : lw_okq (⟨"BagRidersModel", "isElsewhere", "(II)Z"⟩, 34) := ⟨⟨by decide +kernel, by decide +kernel⟩, List.mem_of_getElem? (i := 1168) (by decide +kernel), List.mem_of_getElem? (i := 1632) (by decide +kernel), List.mem_of_getElem? (i := 1633) (by decide +kernel)⟩
theorem lw_p78 : lw_okq (⟨"BagRidersModel", "isDouble", "(II)Z"⟩, 34) := ⟨⟨by decide +kernel, by decide +kernel⟩, List.mem_of_getElem? (i := 1168) (by decide +kernel), List.mem_of_getElem? (i := 1652) (by decide +kernel), List.mem_of_getElem? (i := 1653) (by decide +kernel)⟩
theorem lw_p79 : lw_okq (⟨"BagRidersModel", "zoneOf", "(I)I"⟩, 34) := ⟨⟨by decide +kernel, by decide +kernel⟩, List.mem_of_getElem? (i := 1168) (by decide +kernel), List.mem_of_getElem? (i := 1660) (by decide +kernel), List.mem_of_getElem? (i := 1661) (by decide +kernel)⟩
def lw_privs_5 : List (MethodName × Nat) := [(⟨"BagRidersModel", "next", "()V"⟩, 34), (⟨"BagRidersModel", "isDigit", "(I)Z"⟩, 34), (⟨"BagRidersModel", "whole", "()Z"⟩, 34), (⟨"BagRidersModel", "sum", "()Z"⟩, 34), (⟨"BagRidersModel", "term", "()Z"⟩, 34), (⟨"BagRidersModel", "one", "()Z"⟩, 34), (⟨"BagRidersModel", "lays", "(II)V"⟩, 34), (⟨"BagRidersModel", "isSign", "(I)Z"⟩, 34), (⟨"BagRidersModel", "opens", "()Z"⟩, 34), (⟨"BagRidersModel", "isText", "(I)Z"⟩, 34), (⟨"BagRidersModel", "nameAll", "(II)V"⟩, 34), (⟨"BagRidersModel", "offeredTo", "(I)I"⟩, 34), (⟨"BagRidersModel", "counting", "(I)I"⟩, 34), (⟨"BagRidersModel", "isElsewhere", "(II)Z"⟩, 34), (⟨"BagRidersModel", "isDouble", "(II)Z"⟩, 34), (⟨"BagRidersModel", "zoneOf", "(I)I"⟩, 34)]
theorem lw_r5 : ∀ q ∈ lw_privs_5, lw_okq q := List.forall_mem_cons.mpr ⟨lw_p64, List.forall_mem_cons.mpr ⟨lw_p65, List.forall_mem_cons.mpr ⟨lw_p66, List.forall_mem_cons.mpr ⟨lw_p67, List.forall_mem_cons.mpr ⟨lw_p68, List.forall_mem_cons.mpr ⟨lw_p69, List.forall_mem_cons.mpr ⟨lw_p70, List.forall_mem_cons.mpr ⟨lw_p71, List.forall_mem_cons.mpr ⟨lw_p72, List.forall_mem_cons.mpr ⟨lw_p73, List.forall_mem_cons.mpr ⟨lw_p74, List.forall_mem_cons.mpr ⟨lw_p75, List.forall_mem_cons.mpr ⟨lw_p76, List.forall_mem_cons.mpr ⟨lw_p77, List.forall_mem_cons.mpr ⟨lw_p78, List.forall_mem_cons.mpr ⟨lw_p79, fun _ h => absurd h List.not_mem_nil⟩⟩⟩⟩⟩⟩⟩⟩⟩⟩⟩⟩⟩⟩⟩⟩
theorem lw_p80 : lw_okq (⟨"BagRidersModel", "goesNight", "(I)V"⟩, 34) := ⟨⟨by decide +kernel, by decide +kernel⟩, List.mem_of_getElem? (i := 1168) (by decide +kernel), List.mem_of_getElem? (i := 1672) (by decide +kernel), List.mem_of_getElem? (i := 1673) (by decide +kernel)⟩
theorem lw_p81 : lw_okq (⟨"BagRidersModel", "nightRider", "(II)I"⟩, 34) := ⟨⟨by decide +kernel, by decide +kernel⟩, List.mem_of_getElem? (i := 1168) (by decide +kernel), List.mem_of_getElem? (i := 1676) (by decide +kernel), List.mem_of_getElem? (i := 1677) (by decide +kernel)⟩
theorem lw_p82 : lw_okq (⟨"BagRidersModel", "nightTrip", "(II)Z"⟩, 34) := ⟨⟨by decide +kernel, by decide +kernel⟩, List.mem_of_getElem? (i := 1168) (by decide +kernel), List.mem_of_getElem? (i := 1680) (by decide +kernel), List.mem_of_getElem? (i := 1681) (by decide +kernel)⟩
def lw_privs_6 : List (MethodName × Nat) := [(⟨"BagRidersModel", "goesNight", "(I)V"⟩, 34), (⟨"BagRidersModel", "nightRider", "(II)I"⟩, 34), (⟨"BagRidersModel", "nightTrip", "(II)Z"⟩, 34)]
theorem lw_r6 : ∀ q ∈ lw_privs_6, lw_okq q := List.forall_mem_cons.mpr ⟨lw_p80, List.forall_mem_cons.mpr ⟨lw_p81, List.forall_mem_cons.mpr ⟨lw_p82, fun _ h => absurd h List.not_mem_nil⟩⟩⟩
def lw_privs : List (MethodName × Nat) := lw_privs_1 ++ (lw_privs_2 ++ (lw_privs_3 ++ (lw_privs_4 ++ (lw_privs_5 ++ (lw_privs_6)))))
def lw_tbl : List Cond := k2_sels lw_privs ++ tables_1
theorem lw_privs_ok : ∀ q ∈ lw_privs, lw_okq q := by
  show ∀ q ∈ lw_privs_1 ++ (lw_privs_2 ++ (lw_privs_3 ++ (lw_privs_4 ++ (lw_privs_5 ++ (lw_privs_6))))), lw_okq q
  exact List.forall_mem_append.mpr ⟨lw_r1, List.forall_mem_append.mpr ⟨lw_r2, List.forall_mem_append.mpr ⟨lw_r3, List.forall_mem_append.mpr ⟨lw_r4, List.forall_mem_append.mpr ⟨lw_r5, lw_r6⟩⟩⟩⟩⟩
def RX0 : String := "BagRiders$Names"
def TX0 : u_T := fun k => match k with
  | 0 => ("BagRiders$Names", "values", "[I", true)
  | _ => ("BagRiders$Names", "stack", "[I", true)
def tyX0 : Nat → FieldType := fun k => match k with
  | 0 => .array .int
  | _ => .array .int
theorem nmX0 : ∀ a, a < 2 → ∀ b, b < 2 → a ≠ b → (TX0 a).2.1 ≠ (TX0 b).2.1 := by decide +kernel
theorem tyX0_ok : ∀ k, k < 2 → parseFieldDescriptor (TX0 k).2.2.1 = some (tyX0 k) := by decide +kernel
abbrev cX0_init : ByteArray := prog_2_method_1_code
def yX0_init : MethodName := ⟨RX0, "<init>", "()V"⟩
abbrev cX0_putWays : ByteArray := prog_2_method_2_code
def yX0_putWays : MethodName := ⟨RX0, "putWays", "(LBagRiders$Town;IILBagRiders$Order;)V"⟩
abbrev cX0_putRider : ByteArray := prog_2_method_3_code
def yX0_putRider : MethodName := ⟨RX0, "putRider", "(III)V"⟩
abbrev cX0_putTimes : ByteArray := prog_2_method_4_code
def yX0_putTimes : MethodName := ⟨RX0, "putTimes", "(II)V"⟩
abbrev cX0_worthOf : ByteArray := prog_2_method_5_code
def yX0_worthOf : MethodName := ⟨RX0, "worthOf", "(LBagRiders$Text;)I"⟩
abbrev cX0_valueOf : ByteArray := prog_2_method_6_code
def yX0_valueOf : MethodName := ⟨RX0, "valueOf", "(I)I"⟩
abbrev cX0_joined : ByteArray := prog_2_method_7_code
def yX0_joined : MethodName := ⟨RX0, "joined", "(III)I"⟩
def RX1 : String := "BagRiders$Night"
def TX1 : u_T := fun k => match k with
  | 0 => ("BagRiders$Night", "world", "LBagRiders$World;", true)
  | 1 => ("BagRiders$Night", "trip", "LBagRiders$Trip;", true)
  | 2 => ("BagRiders$Night", "names", "LBagRiders$Names;", true)
  | 3 => ("BagRiders$Night", "at", "[I", true)
  | 4 => ("BagRiders$Night", "free", "[I", true)
  | 5 => ("BagRiders$Night", "given", "[I", true)
  | 6 => ("BagRiders$Night", "takers", "[I", true)
  | 7 => ("BagRiders$Night", "handed", "I", false)
  | 8 => ("BagRiders$Night", "late", "I", false)
  | _ => ("BagRiders$Night", "lastEnd", "I", false)
def tyX1 : Nat → FieldType := fun k => match k with
  | 0 => .object "BagRiders$World"
  | 1 => .object "BagRiders$Trip"
  | 2 => .object "BagRiders$Names"
  | 3 => .array .int
  | 4 => .array .int
  | 5 => .array .int
  | 6 => .array .int
  | 7 => .int
  | 8 => .int
  | _ => .int
theorem nmX1 : ∀ a, a < 10 → ∀ b, b < 10 → a ≠ b → (TX1 a).2.1 ≠ (TX1 b).2.1 := by decide +kernel
theorem tyX1_ok : ∀ k, k < 10 → parseFieldDescriptor (TX1 k).2.2.1 = some (tyX1 k) := by decide +kernel
abbrev cX1_init : ByteArray := prog_3_method_1_code
def yX1_init : MethodName := ⟨RX1, "<init>", "(LBagRiders$World;LBagRiders$Trip;LBagRiders$Names;)V"⟩
abbrev cX1_passBy : ByteArray := prog_3_method_2_code
def yX1_passBy : MethodName := ⟨RX1, "passBy", "(LBagRiders$Text;)V"⟩
abbrev cX1_startAgain : ByteArray := prog_3_method_3_code
def yX1_startAgain : MethodName := ⟨RX1, "startAgain", "()V"⟩
abbrev cX1_bestTaker : ByteArray := prog_3_method_4_code
def yX1_bestTaker : MethodName := ⟨RX1, "bestTaker", "(LBagRiders$Order;LBagRiders$Text;)I"⟩
abbrev cX1_planFor : ByteArray := prog_3_method_5_code
def yX1_planFor : MethodName := ⟨RX1, "planFor", "(ILBagRiders$Order;)Z"⟩
abbrev cX1_handTo : ByteArray := prog_3_method_6_code
def yX1_handTo : MethodName := ⟨RX1, "handTo", "(I)V"⟩
abbrev cX1_mostGiven : ByteArray := prog_3_method_7_code
def yX1_mostGiven : MethodName := ⟨RX1, "mostGiven", "()I"⟩
abbrev cX1_fewestGiven : ByteArray := prog_3_method_8_code
def yX1_fewestGiven : MethodName := ⟨RX1, "fewestGiven", "()I"⟩
def RX2 : String := "BagRiders$Order"
def TX2 : u_T := fun k => match k with
  | 0 => ("BagRiders$Order", "kitchen", "I", false)
  | 1 => ("BagRiders$Order", "from", "I", false)
  | 2 => ("BagRiders$Order", "to", "I", false)
  | 3 => ("BagRiders$Order", "placed", "I", false)
  | 4 => ("BagRiders$Order", "due", "I", false)
  | 5 => ("BagRiders$Order", "delay", "I", false)
  | 6 => ("BagRiders$Order", "ready", "I", false)
  | 7 => ("BagRiders$Order", "state", "I", false)
  | 8 => ("BagRiders$Order", "rider", "I", false)
  | 9 => ("BagRiders$Order", "pick", "I", false)
  | 10 => ("BagRiders$Order", "drop", "I", false)
  | 11 => ("BagRiders$Order", "late", "I", false)
  | 12 => ("BagRiders$Order", "rating", "I", false)
  | 13 => ("BagRiders$Order", "wage", "I", false)
  | _ => ("BagRiders$Order", "refusedBy", "I", false)
def tyX2 : Nat → FieldType := fun k => match k with
  | 0 => .int
  | 1 => .int
  | 2 => .int
  | 3 => .int
  | 4 => .int
  | 5 => .int
  | 6 => .int
  | 7 => .int
  | 8 => .int
  | 9 => .int
  | 10 => .int
  | 11 => .int
  | 12 => .int
  | 13 => .int
  | _ => .int
theorem nmX2 : ∀ a, a < 15 → ∀ b, b < 15 → a ≠ b → (TX2 a).2.1 ≠ (TX2 b).2.1 := by decide +kernel
theorem tyX2_ok : ∀ k, k < 15 → parseFieldDescriptor (TX2 k).2.2.1 = some (tyX2 k) := by decide +kernel
abbrev cX2_init : ByteArray := prog_4_method_1_code
def yX2_init : MethodName := ⟨RX2, "<init>", "()V"⟩
abbrev cX2_becomeGiven : ByteArray := prog_4_method_2_code
def yX2_becomeGiven : MethodName := ⟨RX2, "becomeGiven", "(IIII)V"⟩
abbrev cX2_isGivenTo : ByteArray := prog_4_method_3_code
def yX2_isGivenTo : MethodName := ⟨RX2, "isGivenTo", "(I)Z"⟩
abbrev cX2_isRefusedBy : ByteArray := prog_4_method_4_code
def yX2_isRefusedBy : MethodName := ⟨RX2, "isRefusedBy", "(I)Z"⟩
abbrev cX2_lateAt : ByteArray := prog_4_method_5_code
def yX2_lateAt : MethodName := ⟨RX2, "lateAt", "(I)I"⟩
abbrev cX2_lackBy : ByteArray := prog_4_method_6_code
def yX2_lackBy : MethodName := ⟨RX2, "lackBy", "(I)I"⟩
abbrev cX2_ownRating : ByteArray := prog_4_method_7_code
def yX2_ownRating : MethodName := ⟨RX2, "ownRating", "()I"⟩
abbrev cX2_becomeLike : ByteArray := prog_4_method_8_code
def yX2_becomeLike : MethodName := ⟨RX2, "becomeLike", "(LBagRiders$Order;)V"⟩
def RX3 : String := "BagRiders$Rider"
def TX3 : u_T := fun k => match k with
  | 0 => ("BagRiders$Rider", "number", "I", true)
  | 1 => ("BagRiders$Rider", "kind", "I", false)
  | 2 => ("BagRiders$Rider", "cameTo", "I", false)
  | 3 => ("BagRiders$Rider", "cameOn", "I", false)
  | 4 => ("BagRiders$Rider", "at", "I", false)
  | 5 => ("BagRiders$Rider", "free", "I", false)
  | 6 => ("BagRiders$Rider", "given", "I", false)
  | 7 => ("BagRiders$Rider", "refused", "I", false)
  | _ => ("BagRiders$Rider", "apps", "LBagRiders$Rows;", true)
def tyX3 : Nat → FieldType := fun k => match k with
  | 0 => .int
  | 1 => .int
  | 2 => .int
  | 3 => .int
  | 4 => .int
  | 5 => .int
  | 6 => .int
  | 7 => .int
  | _ => .object "BagRiders$Rows"
theorem nmX3 : ∀ a, a < 9 → ∀ b, b < 9 → a ≠ b → (TX3 a).2.1 ≠ (TX3 b).2.1 := by decide +kernel
theorem tyX3_ok : ∀ k, k < 9 → parseFieldDescriptor (TX3 k).2.2.1 = some (tyX3 k) := by decide +kernel
abbrev cX3_init : ByteArray := prog_5_method_1_code
def yX3_init : MethodName := ⟨RX3, "<init>", "(I)V"⟩
abbrev cX3_comeOn : ByteArray := prog_5_method_2_code
def yX3_comeOn : MethodName := ⟨RX3, "comeOn", "(III)V"⟩
abbrev cX3_startFrom : ByteArray := prog_5_method_3_code
def yX3_startFrom : MethodName := ⟨RX3, "startFrom", "(I)I"⟩
abbrev cX3_isInApp : ByteArray := prog_5_method_4_code
def yX3_isInApp : MethodName := ⟨RX3, "isInApp", "(I)Z"⟩
abbrev cX3_becomeLike : ByteArray := prog_5_method_5_code
def yX3_becomeLike : MethodName := ⟨RX3, "becomeLike", "(LBagRiders$Rider;)V"⟩
def RX4 : String := "BagRiders$Rows"
def TX4 : u_T := fun k => match k with
  | 0 => ("BagRiders$Rows", "cells", "[I", true)
  | _ => ("BagRiders$Rows", "size", "I", false)
def tyX4 : Nat → FieldType := fun k => match k with
  | 0 => .array .int
  | _ => .int
theorem nmX4 : ∀ a, a < 2 → ∀ b, b < 2 → a ≠ b → (TX4 a).2.1 ≠ (TX4 b).2.1 := by decide +kernel
theorem tyX4_ok : ∀ k, k < 2 → parseFieldDescriptor (TX4 k).2.2.1 = some (tyX4 k) := by decide +kernel
abbrev cX4_init : ByteArray := prog_6_method_1_code
def yX4_init : MethodName := ⟨RX4, "<init>", "(I)V"⟩
abbrev cX4_isFull : ByteArray := prog_6_method_2_code
def yX4_isFull : MethodName := ⟨RX4, "isFull", "()Z"⟩
abbrev cX4_add : ByteArray := prog_6_method_3_code
def yX4_add : MethodName := ⟨RX4, "add", "(III)I"⟩
abbrev cX4_cell : ByteArray := prog_6_method_4_code
def yX4_cell : MethodName := ⟨RX4, "cell", "(II)I"⟩
abbrev cX4_spans : ByteArray := prog_6_method_5_code
def yX4_spans : MethodName := ⟨RX4, "spans", "(II)Z"⟩
abbrev cX4_becomeLike : ByteArray := prog_6_method_6_code
def yX4_becomeLike : MethodName := ⟨RX4, "becomeLike", "(LBagRiders$Rows;)V"⟩
def RX5 : String := "BagRiders$Sheet"
def TX5 : u_T := fun k => match k with
  | 0 => ("BagRiders$Sheet", "numbers", "[I", true)
  | 1 => ("BagRiders$Sheet", "bits", "I", false)
  | _ => ("BagRiders$Sheet", "size", "I", false)
def tyX5 : Nat → FieldType := fun k => match k with
  | 0 => .array .int
  | 1 => .int
  | _ => .int
theorem nmX5 : ∀ a, a < 3 → ∀ b, b < 3 → a ≠ b → (TX5 a).2.1 ≠ (TX5 b).2.1 := by decide +kernel
theorem tyX5_ok : ∀ k, k < 3 → parseFieldDescriptor (TX5 k).2.2.1 = some (tyX5 k) := by decide +kernel
abbrev cX5_init : ByteArray := prog_7_method_1_code
def yX5_init : MethodName := ⟨RX5, "<init>", "()V"⟩
abbrev cX5_isMissing : ByteArray := prog_7_method_2_code
def yX5_isMissing : MethodName := ⟨RX5, "isMissing", "()Z"⟩
abbrev cX5_begin : ByteArray := prog_7_method_3_code
def yX5_begin : MethodName := ⟨RX5, "begin", "(II)V"⟩
abbrev cX5_put : ByteArray := prog_7_method_4_code
def yX5_put : MethodName := ⟨RX5, "put", "(II)V"⟩
abbrev cX5_hasRun : ByteArray := prog_7_method_5_code
def yX5_hasRun : MethodName := ⟨RX5, "hasRun", "(II)Z"⟩
def RX6 : String := "BagRiders$Tape"
def TX6 : u_T := fun k => match k with
  | 0 => ("BagRiders$Tape", "bytes", "[I", true)
  | 1 => ("BagRiders$Tape", "length", "I", false)
  | 2 => ("BagRiders$Tape", "steps", "[I", true)
  | 3 => ("BagRiders$Tape", "stepCount", "I", false)
  | 4 => ("BagRiders$Tape", "token", "I", false)
  | 5 => ("BagRiders$Tape", "place", "I", false)
  | 6 => ("BagRiders$Tape", "behind", "I", false)
  | _ => ("BagRiders$Tape", "value", "I", false)
def tyX6 : Nat → FieldType := fun k => match k with
  | 0 => .array .int
  | 1 => .int
  | 2 => .array .int
  | 3 => .int
  | 4 => .int
  | 5 => .int
  | 6 => .int
  | _ => .int
theorem nmX6 : ∀ a, a < 8 → ∀ b, b < 8 → a ≠ b → (TX6 a).2.1 ≠ (TX6 b).2.1 := by decide +kernel
theorem tyX6_ok : ∀ k, k < 8 → parseFieldDescriptor (TX6 k).2.2.1 = some (tyX6 k) := by decide +kernel
abbrev cX6_init : ByteArray := prog_8_method_1_code
def yX6_init : MethodName := ⟨RX6, "<init>", "()V"⟩
abbrev cX6_addByte : ByteArray := prog_8_method_2_code
def yX6_addByte : MethodName := ⟨RX6, "addByte", "(I)V"⟩
abbrev cX6_readAll : ByteArray := prog_8_method_3_code
def yX6_readAll : MethodName := ⟨RX6, "readAll", "()I"⟩
abbrev cX6_readText : ByteArray := prog_8_method_4_code
def yX6_readText : MethodName := ⟨RX6, "readText", "(I)Z"⟩
abbrev cX6_readSum : ByteArray := prog_8_method_5_code
def yX6_readSum : MethodName := ⟨RX6, "readSum", "(I)Z"⟩
abbrev cX6_readTerm : ByteArray := prog_8_method_6_code
def yX6_readTerm : MethodName := ⟨RX6, "readTerm", "(I)Z"⟩
abbrev cX6_readOne : ByteArray := prog_8_method_7_code
def yX6_readOne : MethodName := ⟨RX6, "readOne", "(I)Z"⟩
abbrev cX6_putStep : ByteArray := prog_8_method_8_code
def yX6_putStep : MethodName := ⟨RX6, "putStep", "(I)Z"⟩
abbrev cX6_advance : ByteArray := prog_8_method_9_code
def yX6_advance : MethodName := ⟨RX6, "advance", "()V"⟩
abbrev cX6_takeNumber : ByteArray := prog_8_method_10_code
def yX6_takeNumber : MethodName := ⟨RX6, "takeNumber", "()V"⟩
abbrev cX6_isSign : ByteArray := prog_8_method_11_code
def yX6_isSign : MethodName := ⟨RX6, "isSign", "(I)Z"⟩
def RX7 : String := "BagRiders$Text"
def TX7 : u_T := fun k => match k with
  | _ => ("BagRiders$Text", "steps", "[I", true)
def tyX7 : Nat → FieldType := fun k => match k with
  | _ => .array .int
theorem nmX7 : ∀ a, a < 1 → ∀ b, b < 1 → a ≠ b → (TX7 a).2.1 ≠ (TX7 b).2.1 := by decide +kernel
theorem tyX7_ok : ∀ k, k < 1 → parseFieldDescriptor (TX7 k).2.2.1 = some (tyX7 k) := by decide +kernel
abbrev cX7_init : ByteArray := prog_9_method_1_code
def yX7_init : MethodName := ⟨RX7, "<init>", "([I)V"⟩
def RX8 : String := "BagRiders$Town"
def TX8 : u_T := fun k => match k with
  | 0 => ("BagRiders$Town", "heights", "[I", true)
  | 1 => ("BagRiders$Town", "zones", "[I", true)
  | 2 => ("BagRiders$Town", "roadMinutes", "[I", true)
  | _ => ("BagRiders$Town", "wayMinutes", "[I", true)
def tyX8 : Nat → FieldType := fun k => match k with
  | 0 => .array .int
  | 1 => .array .int
  | 2 => .array .int
  | _ => .array .int
theorem nmX8 : ∀ a, a < 4 → ∀ b, b < 4 → a ≠ b → (TX8 a).2.1 ≠ (TX8 b).2.1 := by decide +kernel
theorem tyX8_ok : ∀ k, k < 4 → parseFieldDescriptor (TX8 k).2.2.1 = some (tyX8 k) := by decide +kernel
abbrev cX8_init : ByteArray := prog_10_method_1_code
def yX8_init : MethodName := ⟨RX8, "<init>", "()V"⟩
abbrev cX8_putHeight : ByteArray := prog_10_method_2_code
def yX8_putHeight : MethodName := ⟨RX8, "putHeight", "(II)I"⟩
abbrev cX8_putZone : ByteArray := prog_10_method_3_code
def yX8_putZone : MethodName := ⟨RX8, "putZone", "(II)I"⟩
abbrev cX8_addRoad : ByteArray := prog_10_method_4_code
def yX8_addRoad : MethodName := ⟨RX8, "addRoad", "(III)I"⟩
abbrev cX8_wayBetween : ByteArray := prog_10_method_5_code
def yX8_wayBetween : MethodName := ⟨RX8, "wayBetween", "(II)I"⟩
abbrev cX8_measureWays : ByteArray := prog_10_method_6_code
def yX8_measureWays : MethodName := ⟨RX8, "measureWays", "()V"⟩
abbrev cX8_directWay : ByteArray := prog_10_method_7_code
def yX8_directWay : MethodName := ⟨RX8, "directWay", "(II)I"⟩
abbrev cX8_shortenThrough : ByteArray := prog_10_method_8_code
def yX8_shortenThrough : MethodName := ⟨RX8, "shortenThrough", "(II)V"⟩
abbrev cX8_becomeLike : ByteArray := prog_10_method_9_code
def yX8_becomeLike : MethodName := ⟨RX8, "becomeLike", "(LBagRiders$Town;)V"⟩
def RX9 : String := "BagRiders$Trip"
def TX9 : u_T := fun k => match k with
  | 0 => ("BagRiders$Trip", "town", "LBagRiders$Town;", true)
  | 1 => ("BagRiders$Trip", "times", "[I", true)
  | 2 => ("BagRiders$Trip", "tried", "[I", true)
  | 3 => ("BagRiders$Trip", "kind", "I", false)
  | 4 => ("BagRiders$Trip", "from", "I", false)
  | 5 => ("BagRiders$Trip", "stands", "Z", false)
  | 6 => ("BagRiders$Trip", "begin", "I", false)
  | 7 => ("BagRiders$Trip", "end", "I", false)
  | 8 => ("BagRiders$Trip", "endsAt", "I", false)
  | 9 => ("BagRiders$Trip", "line", "I", false)
  | _ => ("BagRiders$Trip", "late", "I", false)
def tyX9 : Nat → FieldType := fun k => match k with
  | 0 => .object "BagRiders$Town"
  | 1 => .array .int
  | 2 => .array .int
  | 3 => .int
  | 4 => .int
  | 5 => .boolean
  | 6 => .int
  | 7 => .int
  | 8 => .int
  | 9 => .int
  | _ => .int
theorem nmX9 : ∀ a, a < 11 → ∀ b, b < 11 → a ≠ b → (TX9 a).2.1 ≠ (TX9 b).2.1 := by decide +kernel
theorem tyX9_ok : ∀ k, k < 11 → parseFieldDescriptor (TX9 k).2.2.1 = some (tyX9 k) := by decide +kernel
abbrev cX9_init : ByteArray := prog_11_method_1_code
def yX9_init : MethodName := ⟨RX9, "<init>", "(LBagRiders$Town;)V"⟩
abbrev cX9_setOut : ByteArray := prog_11_method_2_code
def yX9_setOut : MethodName := ⟨RX9, "setOut", "(III)V"⟩
abbrev cX9_planOne : ByteArray := prog_11_method_3_code
def yX9_planOne : MethodName := ⟨RX9, "planOne", "(IIILBagRiders$Order;)Z"⟩
abbrev cX9_planTwo : ByteArray := prog_11_method_4_code
def yX9_planTwo : MethodName := ⟨RX9, "planTwo", "(LBagRiders$Order;LBagRiders$Order;)Z"⟩
abbrev cX9_takeTried : ByteArray := prog_11_method_5_code
def yX9_takeTried : MethodName := ⟨RX9, "takeTried", "(IIII)V"⟩
abbrev cX9_follow : ByteArray := prog_11_method_6_code
def yX9_follow : MethodName := ⟨RX9, "follow", "(IILBagRiders$Order;LBagRiders$Order;)I"⟩
def RX10 : String := "BagRiders$World"
def TX10 : u_T := fun k => match k with
  | 0 => ("BagRiders$World", "town", "LBagRiders$Town;", true)
  | 1 => ("BagRiders$World", "kitchens", "LBagRiders$Rows;", true)
  | 2 => ("BagRiders$World", "orders", "[LBagRiders$Order;", true)
  | 3 => ("BagRiders$World", "riders", "[LBagRiders$Rider;", true)
  | 4 => ("BagRiders$World", "texts", "[LBagRiders$Text;", true)
  | 5 => ("BagRiders$World", "trips", "LBagRiders$Rows;", true)
  | 6 => ("BagRiders$World", "rains", "LBagRiders$Rows;", true)
  | 7 => ("BagRiders$World", "sightings", "LBagRiders$Rows;", true)
  | 8 => ("BagRiders$World", "spots", "[I", true)
  | 9 => ("BagRiders$World", "orderCount", "I", false)
  | 10 => ("BagRiders$World", "riderCount", "I", false)
  | 11 => ("BagRiders$World", "textCount", "I", false)
  | 12 => ("BagRiders$World", "now", "I", false)
  | 13 => ("BagRiders$World", "rule", "I", false)
  | 14 => ("BagRiders$World", "pay", "I", false)
  | _ => ("BagRiders$World", "law", "I", false)
def tyX10 : Nat → FieldType := fun k => match k with
  | 0 => .object "BagRiders$Town"
  | 1 => .object "BagRiders$Rows"
  | 2 => .array (.object "BagRiders$Order")
  | 3 => .array (.object "BagRiders$Rider")
  | 4 => .array (.object "BagRiders$Text")
  | 5 => .object "BagRiders$Rows"
  | 6 => .object "BagRiders$Rows"
  | 7 => .object "BagRiders$Rows"
  | 8 => .array .int
  | 9 => .int
  | 10 => .int
  | 11 => .int
  | 12 => .int
  | 13 => .int
  | 14 => .int
  | _ => .int
theorem nmX10 : ∀ a, a < 16 → ∀ b, b < 16 → a ≠ b → (TX10 a).2.1 ≠ (TX10 b).2.1 := by decide +kernel
theorem tyX10_ok : ∀ k, k < 16 → parseFieldDescriptor (TX10 k).2.2.1 = some (tyX10 k) := by decide +kernel
abbrev cX10_init : ByteArray := prog_12_method_1_code
def yX10_init : MethodName := ⟨RX10, "<init>", "()V"⟩
abbrev cX10_orderAt : ByteArray := prog_12_method_2_code
def yX10_orderAt : MethodName := ⟨RX10, "orderAt", "(I)LBagRiders$Order;"⟩
abbrev cX10_riderAt : ByteArray := prog_12_method_3_code
def yX10_riderAt : MethodName := ⟨RX10, "riderAt", "(I)LBagRiders$Rider;"⟩
abbrev cX10_textAt : ByteArray := prog_12_method_4_code
def yX10_textAt : MethodName := ⟨RX10, "textAt", "(I)LBagRiders$Text;"⟩
abbrev cX10_addOrder : ByteArray := prog_12_method_5_code
def yX10_addOrder : MethodName := ⟨RX10, "addOrder", "(IIII)V"⟩
abbrev cX10_addRider : ByteArray := prog_12_method_6_code
def yX10_addRider : MethodName := ⟨RX10, "addRider", "(II)V"⟩
abbrev cX10_addText : ByteArray := prog_12_method_7_code
def yX10_addText : MethodName := ⟨RX10, "addText", "(LBagRiders$Text;)V"⟩
abbrev cX10_nameRider : ByteArray := prog_12_method_8_code
def yX10_nameRider : MethodName := ⟨RX10, "nameRider", "(LBagRiders$Names;ILBagRiders$Order;)V"⟩
abbrev cX10_engage : ByteArray := prog_12_method_9_code
def yX10_engage : MethodName := ⟨RX10, "engage", "(ILBagRiders$Trip;I)V"⟩
abbrev cX10_payFor : ByteArray := prog_12_method_10_code
def yX10_payFor : MethodName := ⟨RX10, "payFor", "(LBagRiders$Order;)I"⟩
abbrev cX10_payOfRider : ByteArray := prog_12_method_11_code
def yX10_payOfRider : MethodName := ⟨RX10, "payOfRider", "(I)I"⟩
abbrev cX10_ratingOfRider : ByteArray := prog_12_method_12_code
def yX10_ratingOfRider : MethodName := ⟨RX10, "ratingOfRider", "(I)I"⟩
abbrev cX10_ownRatingOf : ByteArray := prog_12_method_13_code
def yX10_ownRatingOf : MethodName := ⟨RX10, "ownRatingOf", "(I)I"⟩
abbrev cX10_engagedOf : ByteArray := prog_12_method_14_code
def yX10_engagedOf : MethodName := ⟨RX10, "engagedOf", "(I)I"⟩
abbrev cX10_countingOf : ByteArray := prog_12_method_15_code
def yX10_countingOf : MethodName := ⟨RX10, "countingOf", "(LBagRiders$Rider;)I"⟩
abbrev cX10_isDouble : ByteArray := prog_12_method_16_code
def yX10_isDouble : MethodName := ⟨RX10, "isDouble", "(III)Z"⟩
abbrev cX10_waitingOrders : ByteArray := prog_12_method_17_code
def yX10_waitingOrders : MethodName := ⟨RX10, "waitingOrders", "()I"⟩
abbrev cX10_waitingIn : ByteArray := prog_12_method_18_code
def yX10_waitingIn : MethodName := ⟨RX10, "waitingIn", "(II)I"⟩
abbrev cX10_becomeLike : ByteArray := prog_12_method_19_code
def yX10_becomeLike : MethodName := ⟨RX10, "becomeLike", "(LBagRiders$World;)V"⟩
def RX11 : String := "BagRiders"
def TX11 : u_T := fun k => match k with
  | 0 => ("BagRiders", "world", "LBagRiders$World;", true)
  | 1 => ("BagRiders", "kept", "LBagRiders$World;", true)
  | 2 => ("BagRiders", "isKept", "Z", false)
  | 3 => ("BagRiders", "tape", "LBagRiders$Tape;", true)
  | 4 => ("BagRiders", "sheets", "[LBagRiders$Sheet;", true)
  | 5 => ("BagRiders", "findings", "[I", true)
  | 6 => ("BagRiders", "plan", "LBagRiders$Trip;", true)
  | 7 => ("BagRiders", "names", "LBagRiders$Names;", true)
  | _ => ("BagRiders", "nightPlan", "LBagRiders$Night;", true)
def tyX11 : Nat → FieldType := fun k => match k with
  | 0 => .object "BagRiders$World"
  | 1 => .object "BagRiders$World"
  | 2 => .boolean
  | 3 => .object "BagRiders$Tape"
  | 4 => .array (.object "BagRiders$Sheet")
  | 5 => .array .int
  | 6 => .object "BagRiders$Trip"
  | 7 => .object "BagRiders$Names"
  | _ => .object "BagRiders$Night"
theorem nmX11 : ∀ a, a < 9 → ∀ b, b < 9 → a ≠ b → (TX11 a).2.1 ≠ (TX11 b).2.1 := by decide +kernel
theorem tyX11_ok : ∀ k, k < 9 → parseFieldDescriptor (TX11 k).2.2.1 = some (tyX11 k) := by decide +kernel
abbrev cX11_init : ByteArray := prog_1_method_1_code
def yX11_init : MethodName := ⟨RX11, "<init>", "()V"⟩
abbrev cX11_crossing : ByteArray := prog_1_method_2_code
def yX11_crossing : MethodName := ⟨RX11, "crossing", "(III)I"⟩
abbrev cX11_road : ByteArray := prog_1_method_3_code
def yX11_road : MethodName := ⟨RX11, "road", "(III)I"⟩
abbrev cX11_way : ByteArray := prog_1_method_4_code
def yX11_way : MethodName := ⟨RX11, "way", "(II)I"⟩
abbrev cX11_minutes : ByteArray := prog_1_method_5_code
def yX11_minutes : MethodName := ⟨RX11, "minutes", "(I)I"⟩
abbrev cX11_kitchen : ByteArray := prog_1_method_6_code
def yX11_kitchen : MethodName := ⟨RX11, "kitchen", "(II)I"⟩
abbrev cX11_order : ByteArray := prog_1_method_7_code
def yX11_order : MethodName := ⟨RX11, "order", "(IIII)I"⟩
abbrev cX11_orderOf : ByteArray := prog_1_method_8_code
def yX11_orderOf : MethodName := ⟨RX11, "orderOf", "(II)I"⟩
abbrev cX11_callOff : ByteArray := prog_1_method_9_code
def yX11_callOff : MethodName := ⟨RX11, "callOff", "(I)I"⟩
abbrev cX11_rider : ByteArray := prog_1_method_10_code
def yX11_rider : MethodName := ⟨RX11, "rider", "(II)I"⟩
abbrev cX11_riderOf : ByteArray := prog_1_method_11_code
def yX11_riderOf : MethodName := ⟨RX11, "riderOf", "(II)I"⟩
abbrev cX11_goes : ByteArray := prog_1_method_12_code
def yX11_goes : MethodName := ⟨RX11, "goes", "(III)I"⟩
abbrev cX11_trip : ByteArray := prog_1_method_13_code
def yX11_trip : MethodName := ⟨RX11, "trip", "(III)I"⟩
abbrev cX11_join : ByteArray := prog_1_method_14_code
def yX11_join : MethodName := ⟨RX11, "join", "(IIII)I"⟩
abbrev cX11_give : ByteArray := prog_1_method_15_code
def yX11_give : MethodName := ⟨RX11, "give", "(II)I"⟩
abbrev cX11_giveTwo : ByteArray := prog_1_method_16_code
def yX11_giveTwo : MethodName := ⟨RX11, "giveTwo", "(III)I"⟩
abbrev cX11_feed : ByteArray := prog_1_method_17_code
def yX11_feed : MethodName := ⟨RX11, "feed", "(II)I"⟩
abbrev cX11_wipe : ByteArray := prog_1_method_18_code
def yX11_wipe : MethodName := ⟨RX11, "wipe", "()I"⟩
abbrev cX11_text : ByteArray := prog_1_method_19_code
def yX11_text : MethodName := ⟨RX11, "text", "()I"⟩
abbrev cX11_force : ByteArray := prog_1_method_20_code
def yX11_force : MethodName := ⟨RX11, "force", "(II)I"⟩
abbrev cX11_says : ByteArray := prog_1_method_21_code
def yX11_says : MethodName := ⟨RX11, "says", "(III)I"⟩
abbrev cX11_offered : ByteArray := prog_1_method_22_code
def yX11_offered : MethodName := ⟨RX11, "offered", "(I)I"⟩
abbrev cX11_refuse : ByteArray := prog_1_method_23_code
def yX11_refuse : MethodName := ⟨RX11, "refuse", "(II)I"⟩
abbrev cX11_offerAll : ByteArray := prog_1_method_24_code
def yX11_offerAll : MethodName := ⟨RX11, "offerAll", "()I"⟩
abbrev cX11_rain : ByteArray := prog_1_method_25_code
def yX11_rain : MethodName := ⟨RX11, "rain", "(III)I"⟩
abbrev cX11_law : ByteArray := prog_1_method_26_code
def yX11_law : MethodName := ⟨RX11, "law", "(I)I"⟩
abbrev cX11_app : ByteArray := prog_1_method_27_code
def yX11_app : MethodName := ⟨RX11, "app", "(III)I"⟩
abbrev cX11_least : ByteArray := prog_1_method_28_code
def yX11_least : MethodName := ⟨RX11, "least", "(II)I"⟩
abbrev cX11_lacks : ByteArray := prog_1_method_29_code
def yX11_lacks : MethodName := ⟨RX11, "lacks", "(II)I"⟩
abbrev cX11_ban : ByteArray := prog_1_method_30_code
def yX11_ban : MethodName := ⟨RX11, "ban", "(III)I"⟩
abbrev cX11_seen : ByteArray := prog_1_method_31_code
def yX11_seen : MethodName := ⟨RX11, "seen", "(III)I"⟩
abbrev cX11_doubles : ByteArray := prog_1_method_32_code
def yX11_doubles : MethodName := ⟨RX11, "doubles", "(II)I"⟩
abbrev cX11_zone : ByteArray := prog_1_method_33_code
def yX11_zone : MethodName := ⟨RX11, "zone", "(II)I"⟩
abbrev cX11_starves : ByteArray := prog_1_method_34_code
def yX11_starves : MethodName := ⟨RX11, "starves", "(I)I"⟩
abbrev cX11_night : ByteArray := prog_1_method_35_code
def yX11_night : MethodName := ⟨RX11, "night", "(II)I"⟩
abbrev cX11_whom : ByteArray := prog_1_method_36_code
def yX11_whom : MethodName := ⟨RX11, "whom", "(II)I"⟩
abbrev cX11_hold : ByteArray := prog_1_method_37_code
def yX11_hold : MethodName := ⟨RX11, "hold", "(II)I"⟩
abbrev cX11_as : ByteArray := prog_1_method_38_code
def yX11_as : MethodName := ⟨RX11, "as", "(II)I"⟩
abbrev cX11_sheet : ByteArray := prog_1_method_39_code
def yX11_sheet : MethodName := ⟨RX11, "sheet", "(III)I"⟩
abbrev cX11_write : ByteArray := prog_1_method_40_code
def yX11_write : MethodName := ⟨RX11, "write", "(III)I"⟩
abbrev cX11_copy : ByteArray := prog_1_method_41_code
def yX11_copy : MethodName := ⟨RX11, "copy", "(IIIII)I"⟩
abbrev cX11_roads : ByteArray := prog_1_method_42_code
def yX11_roads : MethodName := ⟨RX11, "roads", "(I)I"⟩
abbrev cX11_judge : ByteArray := prog_1_method_43_code
def yX11_judge : MethodName := ⟨RX11, "judge", "(II)I"⟩
abbrev cX11_image : ByteArray := prog_1_method_44_code
def yX11_image : MethodName := ⟨RX11, "image", "()I"⟩
abbrev cX11_undo : ByteArray := prog_1_method_45_code
def yX11_undo : MethodName := ⟨RX11, "undo", "()I"⟩
abbrev cX11_tear : ByteArray := prog_1_method_46_code
def yX11_tear : MethodName := ⟨RX11, "tear", "()I"⟩
abbrev cX11_count : ByteArray := prog_1_method_47_code
def yX11_count : MethodName := ⟨RX11, "count", "(I)I"⟩
abbrev cX11_status : ByteArray := prog_1_method_48_code
def yX11_status : MethodName := ⟨RX11, "status", "(I)I"⟩
abbrev cX11_finding : ByteArray := prog_1_method_49_code
def yX11_finding : MethodName := ⟨RX11, "finding", "(I)I"⟩
abbrev cX11_sheetAt : ByteArray := prog_1_method_50_code
def yX11_sheetAt : MethodName := ⟨RX11, "sheetAt", "(I)LBagRiders$Sheet;"⟩
abbrev cX11_planJoined : ByteArray := prog_1_method_51_code
def yX11_planJoined : MethodName := ⟨RX11, "planJoined", "(III)I"⟩
abbrev cX11_bestFor : ByteArray := prog_1_method_52_code
def yX11_bestFor : MethodName := ⟨RX11, "bestFor", "(ILBagRiders$Text;)I"⟩
abbrev cX11_wageFor : ByteArray := prog_1_method_53_code
def yX11_wageFor : MethodName := ⟨RX11, "wageFor", "(ILBagRiders$Order;II)I"⟩
abbrev cX11_handOver : ByteArray := prog_1_method_54_code
def yX11_handOver : MethodName := ⟨RX11, "handOver", "(ILBagRiders$Order;)V"⟩
abbrev cX11_handOverTwo : ByteArray := prog_1_method_55_code
def yX11_handOverTwo : MethodName := ⟨RX11, "handOverTwo", "(III)V"⟩
abbrev cX11_isWithin : ByteArray := prog_1_method_56_code
def yX11_isWithin : MethodName := ⟨RX11, "isWithin", "(III)Z"⟩
abbrev cX11_isCrossing : ByteArray := prog_1_method_57_code
def yX11_isCrossing : MethodName := ⟨RX11, "isCrossing", "(I)Z"⟩
abbrev cX11_isMinute : ByteArray := prog_1_method_58_code
def yX11_isMinute : MethodName := ⟨RX11, "isMinute", "(I)Z"⟩
abbrev cX11_isRoad : ByteArray := prog_1_method_59_code
def yX11_isRoad : MethodName := ⟨RX11, "isRoad", "(III)Z"⟩
abbrev cX11_isOfKind : ByteArray := prog_1_method_60_code
def yX11_isOfKind : MethodName := ⟨RX11, "isOfKind", "(II)Z"⟩
abbrev cX11_legFor : ByteArray := prog_1_method_61_code
def yX11_legFor : MethodName := ⟨RX11, "legFor", "(II)I"⟩
def RX12 : String := "BagRidersModel"
def TX12 : u_T := fun k => match k with
  | 0 => ("BagRidersModel", "s", "[I", true)
  | 1 => ("BagRidersModel", "kept", "[I", true)
  | 2 => ("BagRidersModel", "isKept", "Z", false)
  | 3 => ("BagRidersModel", "findings", "[I", true)
  | 4 => ("BagRidersModel", "far", "[I", true)
  | 5 => ("BagRidersModel", "isFound", "Z", false)
  | 6 => ("BagRidersModel", "at", "I", false)
  | 7 => ("BagRidersModel", "when", "I", false)
  | 8 => ("BagRidersModel", "can", "Z", false)
  | 9 => ("BagRidersModel", "pick", "[I", true)
  | 10 => ("BagRidersModel", "drop", "[I", true)
  | 11 => ("BagRidersModel", "bestWay", "I", false)
  | 12 => ("BagRidersModel", "bestLate", "I", false)
  | 13 => ("BagRidersModel", "tape", "[I", true)
  | 14 => ("BagRidersModel", "taped", "I", false)
  | 15 => ("BagRidersModel", "token", "I", false)
  | 16 => ("BagRidersModel", "from", "I", false)
  | 17 => ("BagRidersModel", "behind", "I", false)
  | 18 => ("BagRidersModel", "worth", "I", false)
  | 19 => ("BagRidersModel", "open", "I", false)
  | 20 => ("BagRidersModel", "steps", "I", false)
  | 21 => ("BagRidersModel", "step", "[I", true)
  | 22 => ("BagRidersModel", "named", "[I", true)
  | 23 => ("BagRidersModel", "pile", "[I", true)
  | 24 => ("BagRidersModel", "nightAt", "[I", true)
  | 25 => ("BagRidersModel", "nightFree", "[I", true)
  | 26 => ("BagRidersModel", "nightMany", "[I", true)
  | 27 => ("BagRidersModel", "nightTo", "[I", true)
  | 28 => ("BagRidersModel", "nightLate", "I", false)
  | 29 => ("BagRidersModel", "nightEnd", "I", false)
  | 30 => ("BagRidersModel", "bits", "[I", true)
  | 31 => ("BagRidersModel", "sizes", "[I", true)
  | 32 => ("BagRidersModel", "number", "[I", true)
  | _ => ("BagRidersModel", "carried", "[I", true)
def tyX12 : Nat → FieldType := fun k => match k with
  | 0 => .array .int
  | 1 => .array .int
  | 2 => .boolean
  | 3 => .array .int
  | 4 => .array .int
  | 5 => .boolean
  | 6 => .int
  | 7 => .int
  | 8 => .boolean
  | 9 => .array .int
  | 10 => .array .int
  | 11 => .int
  | 12 => .int
  | 13 => .array .int
  | 14 => .int
  | 15 => .int
  | 16 => .int
  | 17 => .int
  | 18 => .int
  | 19 => .int
  | 20 => .int
  | 21 => .array .int
  | 22 => .array .int
  | 23 => .array .int
  | 24 => .array .int
  | 25 => .array .int
  | 26 => .array .int
  | 27 => .array .int
  | 28 => .int
  | 29 => .int
  | 30 => .array .int
  | 31 => .array .int
  | 32 => .array .int
  | _ => .array .int
theorem nmX12 : ∀ a, a < 34 → ∀ b, b < 34 → a ≠ b → (TX12 a).2.1 ≠ (TX12 b).2.1 := by decide +kernel
theorem tyX12_ok : ∀ k, k < 34 → parseFieldDescriptor (TX12 k).2.2.1 = some (tyX12 k) := by decide +kernel
abbrev cX12_init : ByteArray := prog_14_method_1_code
def yX12_init : MethodName := ⟨RX12, "<init>", "()V"⟩
abbrev cX12_finding : ByteArray := prog_14_method_2_code
def yX12_finding : MethodName := ⟨RX12, "finding", "(I)I"⟩
abbrev cX12_in : ByteArray := prog_14_method_3_code
def yX12_in : MethodName := ⟨RX12, "in", "(III)Z"⟩
abbrev cX12_isCrossing : ByteArray := prog_14_method_4_code
def yX12_isCrossing : MethodName := ⟨RX12, "isCrossing", "(I)Z"⟩
abbrev cX12_isMinute : ByteArray := prog_14_method_5_code
def yX12_isMinute : MethodName := ⟨RX12, "isMinute", "(I)Z"⟩
abbrev cX12_isOrder : ByteArray := prog_14_method_6_code
def yX12_isOrder : MethodName := ⟨RX12, "isOrder", "(I)Z"⟩
abbrev cX12_isRider : ByteArray := prog_14_method_7_code
def yX12_isRider : MethodName := ⟨RX12, "isRider", "(I)Z"⟩
abbrev cX12_isText : ByteArray := prog_14_method_8_code
def yX12_isText : MethodName := ⟨RX12, "isText", "(I)Z"⟩
abbrev cX12_become : ByteArray := prog_14_method_9_code
def yX12_become : MethodName := ⟨RX12, "become", "(II)I"⟩
abbrev cX12_ofOrder : ByteArray := prog_14_method_10_code
def yX12_ofOrder : MethodName := ⟨RX12, "ofOrder", "(II)I"⟩
abbrev cX12_ofRider : ByteArray := prog_14_method_11_code
def yX12_ofRider : MethodName := ⟨RX12, "ofRider", "(II)I"⟩
abbrev cX12_crossing : ByteArray := prog_14_method_12_code
def yX12_crossing : MethodName := ⟨RX12, "crossing", "(III)I"⟩
abbrev cX12_isRoad : ByteArray := prog_14_method_13_code
def yX12_isRoad : MethodName := ⟨RX12, "isRoad", "(III)Z"⟩
abbrev cX12_lay : ByteArray := prog_14_method_14_code
def yX12_lay : MethodName := ⟨RX12, "lay", "(III)I"⟩
abbrev cX12_road : ByteArray := prog_14_method_15_code
def yX12_road : MethodName := ⟨RX12, "road", "(III)I"⟩
abbrev cX12_findWays : ByteArray := prog_14_method_16_code
def yX12_findWays : MethodName := ⟨RX12, "findWays", "()V"⟩
abbrev cX12_wayOf : ByteArray := prog_14_method_17_code
def yX12_wayOf : MethodName := ⟨RX12, "wayOf", "(II)I"⟩
abbrev cX12_way : ByteArray := prog_14_method_18_code
def yX12_way : MethodName := ⟨RX12, "way", "(II)I"⟩
abbrev cX12_minutes : ByteArray := prog_14_method_19_code
def yX12_minutes : MethodName := ⟨RX12, "minutes", "(I)I"⟩
abbrev cX12_kitchen : ByteArray := prog_14_method_20_code
def yX12_kitchen : MethodName := ⟨RX12, "kitchen", "(II)I"⟩
abbrev cX12_order : ByteArray := prog_14_method_21_code
def yX12_order : MethodName := ⟨RX12, "order", "(IIII)I"⟩
abbrev cX12_kitchenAt : ByteArray := prog_14_method_22_code
def yX12_kitchenAt : MethodName := ⟨RX12, "kitchenAt", "(I)I"⟩
abbrev cX12_ready : ByteArray := prog_14_method_23_code
def yX12_ready : MethodName := ⟨RX12, "ready", "(I)I"⟩
abbrev cX12_lateBy : ByteArray := prog_14_method_24_code
def yX12_lateBy : MethodName := ⟨RX12, "lateBy", "(II)I"⟩
abbrev cX12_lateOf : ByteArray := prog_14_method_25_code
def yX12_lateOf : MethodName := ⟨RX12, "lateOf", "(I)I"⟩
abbrev cX12_payOf : ByteArray := prog_14_method_26_code
def yX12_payOf : MethodName := ⟨RX12, "payOf", "(I)I"⟩
abbrev cX12_lack : ByteArray := prog_14_method_27_code
def yX12_lack : MethodName := ⟨RX12, "lack", "(II)I"⟩
abbrev cX12_lessOf50 : ByteArray := prog_14_method_28_code
def yX12_lessOf50 : MethodName := ⟨RX12, "lessOf50", "(I)I"⟩
abbrev cX12_ratingOf : ByteArray := prog_14_method_29_code
def yX12_ratingOf : MethodName := ⟨RX12, "ratingOf", "(I)I"⟩
abbrev cX12_isGiven : ByteArray := prog_14_method_30_code
def yX12_isGiven : MethodName := ⟨RX12, "isGiven", "(I)Z"⟩
abbrev cX12_isWaiting : ByteArray := prog_14_method_31_code
def yX12_isWaiting : MethodName := ⟨RX12, "isWaiting", "(I)Z"⟩
abbrev cX12_orderOf : ByteArray := prog_14_method_32_code
def yX12_orderOf : MethodName := ⟨RX12, "orderOf", "(II)I"⟩
abbrev cX12_callOff : ByteArray := prog_14_method_33_code
def yX12_callOff : MethodName := ⟨RX12, "callOff", "(I)I"⟩
abbrev cX12_rider : ByteArray := prog_14_method_34_code
def yX12_rider : MethodName := ⟨RX12, "rider", "(II)I"⟩
abbrev cX12_isHis : ByteArray := prog_14_method_35_code
def yX12_isHis : MethodName := ⟨RX12, "isHis", "(II)Z"⟩
abbrev cX12_payOfAll : ByteArray := prog_14_method_36_code
def yX12_payOfAll : MethodName := ⟨RX12, "payOfAll", "(I)I"⟩
abbrev cX12_ratingOfRider : ByteArray := prog_14_method_37_code
def yX12_ratingOfRider : MethodName := ⟨RX12, "ratingOfRider", "(I)I"⟩
abbrev cX12_engaged : ByteArray := prog_14_method_38_code
def yX12_engaged : MethodName := ⟨RX12, "engaged", "(I)I"⟩
abbrev cX12_refusals : ByteArray := prog_14_method_39_code
def yX12_refusals : MethodName := ⟨RX12, "refusals", "(I)I"⟩
abbrev cX12_riderOf : ByteArray := prog_14_method_40_code
def yX12_riderOf : MethodName := ⟨RX12, "riderOf", "(II)I"⟩
abbrev cX12_minutesFor : ByteArray := prog_14_method_41_code
def yX12_minutesFor : MethodName := ⟨RX12, "minutesFor", "(II)I"⟩
abbrev cX12_goesOf : ByteArray := prog_14_method_42_code
def yX12_goesOf : MethodName := ⟨RX12, "goesOf", "(III)I"⟩
abbrev cX12_goes : ByteArray := prog_14_method_43_code
def yX12_goes : MethodName := ⟨RX12, "goes", "(III)I"⟩
abbrev cX12_ride : ByteArray := prog_14_method_44_code
def yX12_ride : MethodName := ⟨RX12, "ride", "(II)V"⟩
abbrev cX12_begin : ByteArray := prog_14_method_45_code
def yX12_begin : MethodName := ⟨RX12, "begin", "(II)V"⟩
abbrev cX12_pickUp : ByteArray := prog_14_method_46_code
def yX12_pickUp : MethodName := ⟨RX12, "pickUp", "(III)V"⟩
abbrev cX12_bring : ByteArray := prog_14_method_47_code
def yX12_bring : MethodName := ⟨RX12, "bring", "(III)V"⟩
abbrev cX12_tripFrom : ByteArray := prog_14_method_48_code
def yX12_tripFrom : MethodName := ⟨RX12, "tripFrom", "(IIII)Z"⟩
abbrev cX12_beginsAt : ByteArray := prog_14_method_49_code
def yX12_beginsAt : MethodName := ⟨RX12, "beginsAt", "(I)I"⟩
abbrev cX12_tripNow : ByteArray := prog_14_method_50_code
def yX12_tripNow : MethodName := ⟨RX12, "tripNow", "(II)Z"⟩
abbrev cX12_trip : ByteArray := prog_14_method_51_code
def yX12_trip : MethodName := ⟨RX12, "trip", "(III)I"⟩
abbrev cX12_stepOf : ByteArray := prog_14_method_52_code
def yX12_stepOf : MethodName := ⟨RX12, "stepOf", "(II)I"⟩
abbrev cX12_goesWay : ByteArray := prog_14_method_53_code
def yX12_goesWay : MethodName := ⟨RX12, "goesWay", "(IIII)Z"⟩
abbrev cX12_joins : ByteArray := prog_14_method_54_code
def yX12_joins : MethodName := ⟨RX12, "joins", "(III)Z"⟩
abbrev cX12_hinders : ByteArray := prog_14_method_55_code
def yX12_hinders : MethodName := ⟨RX12, "hinders", "(III)I"⟩
abbrev cX12_join : ByteArray := prog_14_method_56_code
def yX12_join : MethodName := ⟨RX12, "join", "(IIII)I"⟩
abbrev cX12_payFor : ByteArray := prog_14_method_57_code
def yX12_payFor : MethodName := ⟨RX12, "payFor", "(III)I"⟩
abbrev cX12_becomesGiven : ByteArray := prog_14_method_58_code
def yX12_becomesGiven : MethodName := ⟨RX12, "becomesGiven", "(IIII)V"⟩
abbrev cX12_ends : ByteArray := prog_14_method_59_code
def yX12_ends : MethodName := ⟨RX12, "ends", "(I)V"⟩
abbrev cX12_gives : ByteArray := prog_14_method_60_code
def yX12_gives : MethodName := ⟨RX12, "gives", "(II)I"⟩
abbrev cX12_give : ByteArray := prog_14_method_61_code
def yX12_give : MethodName := ⟨RX12, "give", "(II)I"⟩
abbrev cX12_giveTwo : ByteArray := prog_14_method_62_code
def yX12_giveTwo : MethodName := ⟨RX12, "giveTwo", "(III)I"⟩
abbrev cX12_feed : ByteArray := prog_14_method_63_code
def yX12_feed : MethodName := ⟨RX12, "feed", "(II)I"⟩
abbrev cX12_wipe : ByteArray := prog_14_method_64_code
def yX12_wipe : MethodName := ⟨RX12, "wipe", "()I"⟩
abbrev cX12_isName : ByteArray := prog_14_method_65_code
def yX12_isName : MethodName := ⟨RX12, "isName", "(I)Z"⟩
abbrev cX12_isSignByte : ByteArray := prog_14_method_66_code
def yX12_isSignByte : MethodName := ⟨RX12, "isSignByte", "(I)Z"⟩
abbrev cX12_isDigit : ByteArray := prog_14_method_67_code
def yX12_isDigit : MethodName := ⟨RX12, "isDigit", "(I)Z"⟩
abbrev cX12_next : ByteArray := prog_14_method_68_code
def yX12_next : MethodName := ⟨RX12, "next", "()V"⟩
abbrev cX12_isSign : ByteArray := prog_14_method_69_code
def yX12_isSign : MethodName := ⟨RX12, "isSign", "(I)Z"⟩
abbrev cX12_lays : ByteArray := prog_14_method_70_code
def yX12_lays : MethodName := ⟨RX12, "lays", "(II)V"⟩
abbrev cX12_opens : ByteArray := prog_14_method_71_code
def yX12_opens : MethodName := ⟨RX12, "opens", "()Z"⟩
abbrev cX12_whole : ByteArray := prog_14_method_72_code
def yX12_whole : MethodName := ⟨RX12, "whole", "()Z"⟩
abbrev cX12_sum : ByteArray := prog_14_method_73_code
def yX12_sum : MethodName := ⟨RX12, "sum", "()Z"⟩
abbrev cX12_term : ByteArray := prog_14_method_74_code
def yX12_term : MethodName := ⟨RX12, "term", "()Z"⟩
abbrev cX12_one : ByteArray := prog_14_method_75_code
def yX12_one : MethodName := ⟨RX12, "one", "()Z"⟩
abbrev cX12_text : ByteArray := prog_14_method_76_code
def yX12_text : MethodName := ⟨RX12, "text", "()I"⟩
abbrev cX12_joined : ByteArray := prog_14_method_77_code
def yX12_joined : MethodName := ⟨RX12, "joined", "(III)I"⟩
abbrev cX12_works : ByteArray := prog_14_method_78_code
def yX12_works : MethodName := ⟨RX12, "works", "(I)I"⟩
abbrev cX12_orZero : ByteArray := prog_14_method_79_code
def yX12_orZero : MethodName := ⟨RX12, "orZero", "(I)I"⟩
abbrev cX12_nameWays : ByteArray := prog_14_method_80_code
def yX12_nameWays : MethodName := ⟨RX12, "nameWays", "(III)V"⟩
abbrev cX12_nameAll : ByteArray := prog_14_method_81_code
def yX12_nameAll : MethodName := ⟨RX12, "nameAll", "(II)V"⟩
abbrev cX12_force : ByteArray := prog_14_method_82_code
def yX12_force : MethodName := ⟨RX12, "force", "(II)I"⟩
abbrev cX12_says : ByteArray := prog_14_method_83_code
def yX12_says : MethodName := ⟨RX12, "says", "(III)I"⟩
abbrev cX12_offeredTo : ByteArray := prog_14_method_84_code
def yX12_offeredTo : MethodName := ⟨RX12, "offeredTo", "(I)I"⟩
abbrev cX12_offered : ByteArray := prog_14_method_85_code
def yX12_offered : MethodName := ⟨RX12, "offered", "(I)I"⟩
abbrev cX12_refuse : ByteArray := prog_14_method_86_code
def yX12_refuse : MethodName := ⟨RX12, "refuse", "(II)I"⟩
abbrev cX12_offerAll : ByteArray := prog_14_method_87_code
def yX12_offerAll : MethodName := ⟨RX12, "offerAll", "()I"⟩
abbrev cX12_rain : ByteArray := prog_14_method_88_code
def yX12_rain : MethodName := ⟨RX12, "rain", "(III)I"⟩
abbrev cX12_law : ByteArray := prog_14_method_89_code
def yX12_law : MethodName := ⟨RX12, "law", "(I)I"⟩
abbrev cX12_app : ByteArray := prog_14_method_90_code
def yX12_app : MethodName := ⟨RX12, "app", "(III)I"⟩
abbrev cX12_isElsewhere : ByteArray := prog_14_method_91_code
def yX12_isElsewhere : MethodName := ⟨RX12, "isElsewhere", "(II)Z"⟩
abbrev cX12_counting : ByteArray := prog_14_method_92_code
def yX12_counting : MethodName := ⟨RX12, "counting", "(I)I"⟩
abbrev cX12_least : ByteArray := prog_14_method_93_code
def yX12_least : MethodName := ⟨RX12, "least", "(II)I"⟩
abbrev cX12_lacks : ByteArray := prog_14_method_94_code
def yX12_lacks : MethodName := ⟨RX12, "lacks", "(II)I"⟩
abbrev cX12_ban : ByteArray := prog_14_method_95_code
def yX12_ban : MethodName := ⟨RX12, "ban", "(III)I"⟩
abbrev cX12_seen : ByteArray := prog_14_method_96_code
def yX12_seen : MethodName := ⟨RX12, "seen", "(III)I"⟩
abbrev cX12_isDouble : ByteArray := prog_14_method_97_code
def yX12_isDouble : MethodName := ⟨RX12, "isDouble", "(II)Z"⟩
abbrev cX12_doubles : ByteArray := prog_14_method_98_code
def yX12_doubles : MethodName := ⟨RX12, "doubles", "(II)I"⟩
abbrev cX12_zoneOf : ByteArray := prog_14_method_99_code
def yX12_zoneOf : MethodName := ⟨RX12, "zoneOf", "(I)I"⟩
abbrev cX12_zone : ByteArray := prog_14_method_100_code
def yX12_zone : MethodName := ⟨RX12, "zone", "(II)I"⟩
abbrev cX12_starves : ByteArray := prog_14_method_101_code
def yX12_starves : MethodName := ⟨RX12, "starves", "(I)I"⟩
abbrev cX12_nightRider : ByteArray := prog_14_method_102_code
def yX12_nightRider : MethodName := ⟨RX12, "nightRider", "(II)I"⟩
abbrev cX12_nightTrip : ByteArray := prog_14_method_103_code
def yX12_nightTrip : MethodName := ⟨RX12, "nightTrip", "(II)Z"⟩
abbrev cX12_goesNight : ByteArray := prog_14_method_104_code
def yX12_goesNight : MethodName := ⟨RX12, "goesNight", "(I)V"⟩
abbrev cX12_night : ByteArray := prog_14_method_105_code
def yX12_night : MethodName := ⟨RX12, "night", "(II)I"⟩
abbrev cX12_whom : ByteArray := prog_14_method_106_code
def yX12_whom : MethodName := ⟨RX12, "whom", "(II)I"⟩
abbrev cX12_isSpot : ByteArray := prog_14_method_107_code
def yX12_isSpot : MethodName := ⟨RX12, "isSpot", "(I)Z"⟩
abbrev cX12_hold : ByteArray := prog_14_method_108_code
def yX12_hold : MethodName := ⟨RX12, "hold", "(II)I"⟩
abbrev cX12_isOf : ByteArray := prog_14_method_109_code
def yX12_isOf : MethodName := ⟨RX12, "isOf", "(II)Z"⟩
abbrev cX12_as : ByteArray := prog_14_method_110_code
def yX12_as : MethodName := ⟨RX12, "as", "(II)I"⟩
abbrev cX12_isSheet : ByteArray := prog_14_method_111_code
def yX12_isSheet : MethodName := ⟨RX12, "isSheet", "(I)Z"⟩
abbrev cX12_sheet : ByteArray := prog_14_method_112_code
def yX12_sheet : MethodName := ⟨RX12, "sheet", "(III)I"⟩
abbrev cX12_write : ByteArray := prog_14_method_113_code
def yX12_write : MethodName := ⟨RX12, "write", "(III)I"⟩
abbrev cX12_copy : ByteArray := prog_14_method_114_code
def yX12_copy : MethodName := ⟨RX12, "copy", "(IIIII)I"⟩
abbrev cX12_roads : ByteArray := prog_14_method_115_code
def yX12_roads : MethodName := ⟨RX12, "roads", "(I)I"⟩
abbrev cX12_judge : ByteArray := prog_14_method_116_code
def yX12_judge : MethodName := ⟨RX12, "judge", "(II)I"⟩
abbrev cX12_image : ByteArray := prog_14_method_117_code
def yX12_image : MethodName := ⟨RX12, "image", "()I"⟩
abbrev cX12_undo : ByteArray := prog_14_method_118_code
def yX12_undo : MethodName := ⟨RX12, "undo", "()I"⟩
abbrev cX12_tear : ByteArray := prog_14_method_119_code
def yX12_tear : MethodName := ⟨RX12, "tear", "()I"⟩
abbrev cX12_count : ByteArray := prog_14_method_120_code
def yX12_count : MethodName := ⟨RX12, "count", "(I)I"⟩
abbrev cX12_status : ByteArray := prog_14_method_121_code
def yX12_status : MethodName := ⟨RX12, "status", "(I)I"⟩
def RJ11 : String := "java/lang/Character"
def TJ11 : u_T := fun k => match k with
  | _ => ("", "", "", false)
def tyJ11 : Nat → FieldType := fun k => match k with
  | _ => .int
theorem nmJ11 : ∀ a, a < 0 → ∀ b, b < 0 → a ≠ b → (TJ11 a).2.1 ≠ (TJ11 b).2.1 := by decide +kernel
theorem tyJ11_ok : ∀ k, k < 0 → parseFieldDescriptor (TJ11 k).2.2.1 = some (tyJ11 k) := by decide +kernel
abbrev cJ11_isValidCodePoint_9a6ad : ByteArray := prog_15_method_11_code
def yJ11_isValidCodePoint_9a6ad : MethodName := ⟨RJ11, "isValidCodePoint", "(I)Z"⟩
abbrev cJ11_highSurrogate_5068e : ByteArray := prog_15_method_28_code
def yJ11_highSurrogate_5068e : MethodName := ⟨RJ11, "highSurrogate", "(I)C"⟩
abbrev cJ11_lowSurrogate_5068e : ByteArray := prog_15_method_29_code
def yJ11_lowSurrogate_5068e : MethodName := ⟨RJ11, "lowSurrogate", "(I)C"⟩
def RJ9 : String := "java/lang/Math"
def TJ9 : u_T := fun k => match k with
  | _ => ("", "", "", false)
def tyJ9 : Nat → FieldType := fun k => match k with
  | _ => .int
theorem nmJ9 : ∀ a, a < 0 → ∀ b, b < 0 → a ≠ b → (TJ9 a).2.1 ≠ (TJ9 b).2.1 := by decide +kernel
theorem tyJ9_ok : ∀ k, k < 0 → parseFieldDescriptor (TJ9 k).2.2.1 = some (tyJ9 k) := by decide +kernel
abbrev cJ9_abs_0f7a4 : ByteArray := prog_17_method_59_code
def yJ9_abs_0f7a4 : MethodName := ⟨RJ9, "abs", "(I)I"⟩
abbrev cJ9_max_7cf53 : ByteArray := prog_17_method_65_code
def yJ9_max_7cf53 : MethodName := ⟨RJ9, "max", "(II)I"⟩
abbrev cJ9_min_7cf53 : ByteArray := prog_17_method_69_code
def yJ9_min_7cf53 : MethodName := ⟨RJ9, "min", "(II)I"⟩
def RJ0 : String := "java/lang/String"
def TJ0 : u_T := fun k => match k with
  | _ => ("", "", "", false)
def tyJ0 : Nat → FieldType := fun k => match k with
  | _ => .int
theorem nmJ0 : ∀ a, a < 0 → ∀ b, b < 0 → a ≠ b → (TJ0 a).2.1 ≠ (TJ0 b).2.1 := by decide +kernel
theorem tyJ0_ok : ∀ k, k < 0 → parseFieldDescriptor (TJ0 k).2.2.1 = some (tyJ0 k) := by decide +kernel
abbrev cJ0_length_8abf5 : ByteArray := prog_18_method_54_code
def yJ0_length_8abf5 : MethodName := ⟨RJ0, "length", "()I"⟩
abbrev cJ0_indexOf_0f7a4 : ByteArray := prog_18_method_79_code
def yJ0_indexOf_0f7a4 : MethodName := ⟨RJ0, "indexOf", "(I)I"⟩
abbrev cJ0_indexOf_7cf53 : ByteArray := prog_18_method_80_code
def yJ0_indexOf_7cf53 : MethodName := ⟨RJ0, "indexOf", "(II)I"⟩
abbrev cJ0_coder_7d493 : ByteArray := prog_18_method_152_code
def yJ0_coder_7d493 : MethodName := ⟨RJ0, "coder", "()B"⟩
abbrev cJ0_isLatin1_aae02 : ByteArray := prog_18_method_154_code
def yJ0_isLatin1_aae02 : MethodName := ⟨RJ0, "isLatin1", "()Z"⟩
abbrev cJ0_checkBoundsBeginEnd_23922 : ByteArray := prog_18_method_158_code
def yJ0_checkBoundsBeginEnd_23922 : MethodName := ⟨RJ0, "checkBoundsBeginEnd", "(III)V"⟩
def RJ1 : String := "java/lang/StringLatin1"
def TJ1 : u_T := fun k => match k with
  | _ => ("", "", "", false)
def tyJ1 : Nat → FieldType := fun k => match k with
  | _ => .int
theorem nmJ1 : ∀ a, a < 0 → ∀ b, b < 0 → a ≠ b → (TJ1 a).2.1 ≠ (TJ1 b).2.1 := by decide +kernel
theorem tyJ1_ok : ∀ k, k < 0 → parseFieldDescriptor (TJ1 k).2.2.1 = some (tyJ1 k) := by decide +kernel
abbrev cJ1_canEncode_9a6ad : ByteArray := prog_19_method_4_code
def yJ1_canEncode_9a6ad : MethodName := ⟨RJ1, "canEncode", "(I)Z"⟩
abbrev cJ1_indexOf_4cfef : ByteArray := prog_19_method_22_code
def yJ1_indexOf_4cfef : MethodName := ⟨RJ1, "indexOf", "([BIII)I"⟩
abbrev cJ1_indexOfChar_4cfef : ByteArray := prog_19_method_23_code
def yJ1_indexOfChar_4cfef : MethodName := ⟨RJ1, "indexOfChar", "([BIII)I"⟩
def RJ2 : String := "java/lang/StringUTF16"
def TJ2 : u_T := fun k => match k with
  | _ => ("", "", "", false)
def tyJ2 : Nat → FieldType := fun k => match k with
  | _ => .int
theorem nmJ2 : ∀ a, a < 0 → ∀ b, b < 0 → a ≠ b → (TJ2 a).2.1 ≠ (TJ2 b).2.1 := by decide +kernel
theorem tyJ2_ok : ∀ k, k < 0 → parseFieldDescriptor (TJ2 k).2.2.1 = some (tyJ2 k) := by decide +kernel
abbrev cJ2_getChar_3b067 : ByteArray := prog_20_method_5_code
def yJ2_getChar_3b067 : MethodName := ⟨RJ2, "getChar", "([BI)C"⟩
abbrev cJ2_length_9d52b : ByteArray := prog_20_method_6_code
def yJ2_length_9d52b : MethodName := ⟨RJ2, "length", "([B)I"⟩
abbrev cJ2_indexOf_4cfef : ByteArray := prog_20_method_40_code
def yJ2_indexOf_4cfef : MethodName := ⟨RJ2, "indexOf", "([BIII)I"⟩
abbrev cJ2_indexOfChar_4cfef : ByteArray := prog_20_method_47_code
def yJ2_indexOfChar_4cfef : MethodName := ⟨RJ2, "indexOfChar", "([BIII)I"⟩
abbrev cJ2_indexOfCharUnsafe_4cfef : ByteArray := prog_20_method_48_code
def yJ2_indexOfCharUnsafe_4cfef : MethodName := ⟨RJ2, "indexOfCharUnsafe", "([BIII)I"⟩
abbrev cJ2_indexOfSupplementary_4cfef : ByteArray := prog_20_method_49_code
def yJ2_indexOfSupplementary_4cfef : MethodName := ⟨RJ2, "indexOfSupplementary", "([BIII)I"⟩
abbrev cJ2_checkBoundsBeginEnd_d044e : ByteArray := prog_20_method_93_code
def yJ2_checkBoundsBeginEnd_d044e : MethodName := ⟨RJ2, "checkBoundsBeginEnd", "(II[B)V"⟩
def RJ10 : String := "java/lang/System"
def TJ10 : u_T := fun k => match k with
  | _ => ("", "", "", false)
def tyJ10 : Nat → FieldType := fun k => match k with
  | _ => .int
theorem nmJ10 : ∀ a, a < 0 → ∀ b, b < 0 → a ≠ b → (TJ10 a).2.1 ≠ (TJ10 b).2.1 := by decide +kernel
theorem tyJ10_ok : ∀ k, k < 0 → parseFieldDescriptor (TJ10 k).2.2.1 = some (tyJ10 k) := by decide +kernel
def RJ7 : String := "java/util/Arrays"
def TJ7 : u_T := fun k => match k with
  | _ => ("", "", "", false)
def tyJ7 : Nat → FieldType := fun k => match k with
  | _ => .int
theorem nmJ7 : ∀ a, a < 0 → ∀ b, b < 0 → a ≠ b → (TJ7 a).2.1 ≠ (TJ7 b).2.1 := by decide +kernel
theorem tyJ7_ok : ∀ k, k < 0 → parseFieldDescriptor (TJ7 k).2.2.1 = some (tyJ7 k) := by decide +kernel
abbrev cJ7_fill_53178 : ByteArray := prog_22_method_103_code
def yJ7_fill_53178 : MethodName := ⟨RJ7, "fill", "([II)V"⟩
abbrev cJ7_copyOf_59c91 : ByteArray := prog_22_method_123_code
def yJ7_copyOf_59c91 : MethodName := ⟨RJ7, "copyOf", "([II)[I"⟩
def RJ3 : String := "jdk/internal/util/Preconditions"
def TJ3 : u_T := fun k => match k with
  | _ => ("", "", "", false)
def tyJ3 : Nat → FieldType := fun k => match k with
  | _ => .int
theorem nmJ3 : ∀ a, a < 0 → ∀ b, b < 0 → a ≠ b → (TJ3 a).2.1 ≠ (TJ3 b).2.1 := by decide +kernel
theorem tyJ3_ok : ∀ k, k < 0 → parseFieldDescriptor (TJ3 k).2.2.1 = some (tyJ3 k) := by decide +kernel
abbrev cJ3_checkFromToIndex_8c36e : ByteArray := prog_23_method_12_code
def yJ3_checkFromToIndex_8c36e : MethodName := ⟨RJ3, "checkFromToIndex", "(IIILjava/util/function/BiFunction;)I"⟩
def RL : String := "BagRidersLaw"
abbrev cL_law : ByteArray := code
abbrev vwCl : List vw_C := [(RX0, TX0, 2), (RX1, TX1, 10), (RX2, TX2, 15), (RX3, TX3, 9), (RX4, TX4, 2), (RX5, TX5, 3), (RX6, TX6, 8), (RX7, TX7, 1), (RX8, TX8, 4), (RX9, TX9, 11), (RX10, TX10, 16), (RX11, TX11, 9), (RX12, TX12, 34)]
