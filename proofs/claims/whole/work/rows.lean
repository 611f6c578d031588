section
-- ===== PART A: goes FIRST, ahead of the names: the tables' words, and 'selects' of the private methods out of them =====
/-- a private method of a class that the tables say can be made, by its rows of tables_1 -/
def lw_okq (q : MethodName × Nat) : Prop := (q.1.cls ≠ "java/lang/invoke/MethodHandle" ∧ q.1.cls ≠ "java/lang/invoke/VarHandle") ∧ Cond.instantiable q.1.cls q.2 ∈ tables_1 ∧ Cond.privateMethod q.1 ∈ tables_1 ∧ Cond.instanceMethod q.1 ∈ tables_1
theorem lw_p0 : lw_okq (⟨"QualityGate", "bestRepair", "()I"⟩, 11) := ⟨⟨by decide +kernel, by decide +kernel⟩, List.mem_of_getElem? (i := 37) (by decide +kernel), List.mem_of_getElem? (i := 287) (by decide +kernel), List.mem_of_getElem? (i := 288) (by decide +kernel)⟩
theorem lw_p1 : lw_okq (⟨"java/util/ArrayList", "fastRemove", "([Ljava/lang/Object;I)V"⟩, 3) := ⟨⟨by decide +kernel, by decide +kernel⟩, List.mem_of_getElem? (i := 45) (by decide +kernel), List.mem_of_getElem? (i := 324) (by decide +kernel), List.mem_of_getElem? (i := 325) (by decide +kernel)⟩
theorem lw_p2 : lw_okq (⟨"java/lang/Throwable", "fillInStackTrace", "(I)Ljava/lang/Throwable;"⟩, 6) := ⟨⟨by decide +kernel, by decide +kernel⟩, List.mem_of_getElem? (i := 386) (by decide +kernel), List.mem_of_getElem? (i := 384) (by decide +kernel), List.mem_of_getElem? (i := 385) (by decide +kernel)⟩
theorem lw_p3 : lw_okq (⟨"QualityGate", "minimalSets", "(I)J"⟩, 11) := ⟨⟨by decide +kernel, by decide +kernel⟩, List.mem_of_getElem? (i := 37) (by decide +kernel), List.mem_of_getElem? (i := 416) (by decide +kernel), List.mem_of_getElem? (i := 417) (by decide +kernel)⟩
theorem lw_p4 : lw_okq (⟨"QualityGate", "isDeterminedInClasses", "(II)Z"⟩, 11) := ⟨⟨by decide +kernel, by decide +kernel⟩, List.mem_of_getElem? (i := 37) (by decide +kernel), List.mem_of_getElem? (i := 426) (by decide +kernel), List.mem_of_getElem? (i := 427) (by decide +kernel)⟩
theorem lw_p5 : lw_okq (⟨"QualityGate", "isDeterminedInPairs", "(II)Z"⟩, 11) := ⟨⟨by decide +kernel, by decide +kernel⟩, List.mem_of_getElem? (i := 37) (by decide +kernel), List.mem_of_getElem? (i := 454) (by decide +kernel), List.mem_of_getElem? (i := 455) (by decide +kernel)⟩
theorem lw_p6 : lw_okq (⟨"java/util/ArrayList", "add", "(Ljava/lang/Object;[Ljava/lang/Object;I)V"⟩, 3) := ⟨⟨by decide +kernel, by decide +kernel⟩, List.mem_of_getElem? (i := 45) (by decide +kernel), List.mem_of_getElem? (i := 534) (by decide +kernel), List.mem_of_getElem? (i := 535) (by decide +kernel)⟩
theorem lw_p7 : lw_okq (⟨"java/util/ArrayList", "grow", "()[Ljava/lang/Object;"⟩, 3) := ⟨⟨by decide +kernel, by decide +kernel⟩, List.mem_of_getElem? (i := 45) (by decide +kernel), List.mem_of_getElem? (i := 538) (by decide +kernel), List.mem_of_getElem? (i := 539) (by decide +kernel)⟩
theorem lw_p8 : lw_okq (⟨"java/util/ArrayList", "grow", "(I)[Ljava/lang/Object;"⟩, 3) := ⟨⟨by decide +kernel, by decide +kernel⟩, List.mem_of_getElem? (i := 45) (by decide +kernel), List.mem_of_getElem? (i := 542) (by decide +kernel), List.mem_of_getElem? (i := 543) (by decide +kernel)⟩
theorem lw_p9 : lw_okq (⟨"QualityGate", "isBatchRejected", "()Z"⟩, 11) := ⟨⟨by decide +kernel, by decide +kernel⟩, List.mem_of_getElem? (i := 37) (by decide +kernel), List.mem_of_getElem? (i := 607) (by decide +kernel), List.mem_of_getElem? (i := 608) (by decide +kernel)⟩
theorem lw_p10 : lw_okq (⟨"QualityGate", "isRejectedBy", "(LQualityGate$Rule;II)Z"⟩, 11) := ⟨⟨by decide +kernel, by decide +kernel⟩, List.mem_of_getElem? (i := 37) (by decide +kernel), List.mem_of_getElem? (i := 611) (by decide +kernel), List.mem_of_getElem? (i := 612) (by decide +kernel)⟩
theorem lw_p11 : lw_okq (⟨"QualityGate", "positionOf", "(I)I"⟩, 11) := ⟨⟨by decide +kernel, by decide +kernel⟩, List.mem_of_getElem? (i := 37) (by decide +kernel), List.mem_of_getElem? (i := 688) (by decide +kernel), List.mem_of_getElem? (i := 689) (by decide +kernel)⟩
theorem lw_p12 : lw_okq (⟨"QualityGate", "rowWith", "(I)LQualityGate$Row;"⟩, 11) := ⟨⟨by decide +kernel, by decide +kernel⟩, List.mem_of_getElem? (i := 37) (by decide +kernel), List.mem_of_getElem? (i := 721) (by decide +kernel), List.mem_of_getElem? (i := 722) (by decide +kernel)⟩
theorem lw_p13 : lw_okq (⟨"QualityGate", "needRoomForRule", "()V"⟩, 11) := ⟨⟨by decide +kernel, by decide +kernel⟩, List.mem_of_getElem? (i := 37) (by decide +kernel), List.mem_of_getElem? (i := 753) (by decide +kernel), List.mem_of_getElem? (i := 754) (by decide +kernel)⟩
theorem lw_p14 : lw_okq (⟨"QualityGate", "numberOfAdded", "(LQualityGate$Rule;)I"⟩, 11) := ⟨⟨by decide +kernel, by decide +kernel⟩, List.mem_of_getElem? (i := 37) (by decide +kernel), List.mem_of_getElem? (i := 784) (by decide +kernel), List.mem_of_getElem? (i := 785) (by decide +kernel)⟩
theorem lw_p15 : lw_okq (⟨"QualityGate", "ruleInForce", "(I)LQualityGate$Rule;"⟩, 11) := ⟨⟨by decide +kernel, by decide +kernel⟩, List.mem_of_getElem? (i := 37) (by decide +kernel), List.mem_of_getElem? (i := 882) (by decide +kernel), List.mem_of_getElem? (i := 883) (by decide +kernel)⟩
def lw_privs_1 : List (MethodName × Nat) := [(⟨"QualityGate", "bestRepair", "()I"⟩, 11), (⟨"java/util/ArrayList", "fastRemove", "([Ljava/lang/Object;I)V"⟩, 3), (⟨"java/lang/Throwable", "fillInStackTrace", "(I)Ljava/lang/Throwable;"⟩, 6), (⟨"QualityGate", "minimalSets", "(I)J"⟩, 11), (⟨"QualityGate", "isDeterminedInClasses", "(II)Z"⟩, 11), (⟨"QualityGate", "isDeterminedInPairs", "(II)Z"⟩, 11), (⟨"java/util/ArrayList", "add", "(Ljava/lang/Object;[Ljava/lang/Object;I)V"⟩, 3), (⟨"java/util/ArrayList", "grow", "()[Ljava/lang/Object;"⟩, 3), (⟨"java/util/ArrayList", "grow", "(I)[Ljava/lang/Object;"⟩, 3), (⟨"QualityGate", "isBatchRejected", "()Z"⟩, 11), (⟨"QualityGate", "isRejectedBy", "(LQualityGate$Rule;II)Z"⟩, 11), (⟨"QualityGate", "positionOf", "(I)I"⟩, 11), (⟨"QualityGate", "rowWith", "(I)LQualityGate$Row;"⟩, 11), (⟨"QualityGate", "needRoomForRule", "()V"⟩, 11), (⟨"QualityGate", "numberOfAdded", "(LQualityGate$Rule;)I"⟩, 11), (⟨"QualityGate", "ruleInForce", "(I)LQualityGate$Rule;"⟩, 11)]
theorem lw_r1 : ∀ q ∈ lw_privs_1, lw_okq q := List.forall_mem_cons.mpr ⟨lw_p0, List.forall_mem_cons.mpr ⟨lw_p1, List.forall_mem_cons.mpr ⟨lw_p2, List.forall_mem_cons.mpr ⟨lw_p3, List.forall_mem_cons.mpr ⟨lw_p4, List.forall_mem_cons.mpr ⟨lw_p5, List.forall_mem_cons.mpr ⟨lw_p6, List.forall_mem_cons.mpr ⟨lw_p7, List.forall_mem_cons.mpr ⟨lw_p8, List.forall_mem_cons.mpr ⟨lw_p9, List.forall_mem_cons.mpr ⟨lw_p10, List.forall_mem_cons.mpr ⟨lw_p11, List.forall_mem_cons.mpr ⟨lw_p12, List.forall_mem_cons.mpr ⟨lw_p13, List.forall_mem_cons.mpr ⟨lw_p14, List.forall_mem_cons.mpr ⟨lw_p15, fun _ h => absurd h List.not_mem_nil⟩⟩⟩⟩⟩⟩⟩⟩⟩⟩⟩⟩⟩⟩⟩⟩
theorem lw_p16 : lw_okq (⟨"QualityGate", "isTellingRowsApart", "(I)Z"⟩, 11) := ⟨⟨by decide +kernel, by decide +kernel⟩, List.mem_of_getElem? (i := 37) (by decide +kernel), List.mem_of_getElem? (i := 966) (by decide +kernel), List.mem_of_getElem? (i := 967) (by decide +kernel)⟩
theorem lw_p17 : lw_okq (⟨"QualityGate$Partition", "removalsInClass", "(Ljava/util/ArrayList;II)I"⟩, 2) := ⟨⟨by decide +kernel, by decide +kernel⟩, List.mem_of_getElem? (i := 112) (by decide +kernel), List.mem_of_getElem? (i := 993) (by decide +kernel), List.mem_of_getElem? (i := 994) (by decide +kernel)⟩
theorem lw_p18 : lw_okq (⟨"QualityGate$Partition", "equalInClass", "(Ljava/util/ArrayList;II)I"⟩, 2) := ⟨⟨by decide +kernel, by decide +kernel⟩, List.mem_of_getElem? (i := 112) (by decide +kernel), List.mem_of_getElem? (i := 997) (by decide +kernel), List.mem_of_getElem? (i := 998) (by decide +kernel)⟩
theorem lw_p19 : lw_okq (⟨"QualityGate", "presentCount", "(I)I"⟩, 11) := ⟨⟨by decide +kernel, by decide +kernel⟩, List.mem_of_getElem? (i := 37) (by decide +kernel), List.mem_of_getElem? (i := 1017) (by decide +kernel), List.mem_of_getElem? (i := 1018) (by decide +kernel)⟩
theorem lw_p20 : lw_okq (⟨"QualityGate", "columnMedian", "(I)I"⟩, 11) := ⟨⟨by decide +kernel, by decide +kernel⟩, List.mem_of_getElem? (i := 37) (by decide +kernel), List.mem_of_getElem? (i := 1023) (by decide +kernel), List.mem_of_getElem? (i := 1024) (by decide +kernel)⟩
theorem lw_p21 : lw_okq (⟨"QualityGate", "columnSpread", "(II)I"⟩, 11) := ⟨⟨by decide +kernel, by decide +kernel⟩, List.mem_of_getElem? (i := 37) (by decide +kernel), List.mem_of_getElem? (i := 1046) (by decide +kernel), List.mem_of_getElem? (i := 1047) (by decide +kernel)⟩
theorem lw_p22 : lw_okq (⟨"QualityGate", "rowsInBucket", "(II)I"⟩, 11) := ⟨⟨by decide +kernel, by decide +kernel⟩, List.mem_of_getElem? (i := 37) (by decide +kernel), List.mem_of_getElem? (i := 1083) (by decide +kernel), List.mem_of_getElem? (i := 1084) (by decide +kernel)⟩
theorem lw_p23 : lw_okq (⟨"QualityGate", "needProfileAndRows", "()V"⟩, 11) := ⟨⟨by decide +kernel, by decide +kernel⟩, List.mem_of_getElem? (i := 37) (by decide +kernel), List.mem_of_getElem? (i := 1099) (by decide +kernel), List.mem_of_getElem? (i := 1100) (by decide +kernel)⟩
theorem lw_p24 : lw_okq (⟨"QualityGate", "driftFromProfile", "(I)I"⟩, 11) := ⟨⟨by decide +kernel, by decide +kernel⟩, List.mem_of_getElem? (i := 37) (by decide +kernel), List.mem_of_getElem? (i := 1104) (by decide +kernel), List.mem_of_getElem? (i := 1105) (by decide +kernel)⟩
theorem lw_p25 : lw_okq (⟨"QualityGateModel", "fails", "(I)I"⟩, 26) := ⟨⟨by decide +kernel, by decide +kernel⟩, List.mem_of_getElem? (i := 1146) (by decide +kernel), List.mem_of_getElem? (i := 1246) (by decide +kernel), List.mem_of_getElem? (i := 1247) (by decide +kernel)⟩
theorem lw_p26 : lw_okq (⟨"QualityGateModel", "tells", "(I)I"⟩, 26) := ⟨⟨by decide +kernel, by decide +kernel⟩, List.mem_of_getElem? (i := 1146) (by decide +kernel), List.mem_of_getElem? (i := 1250) (by decide +kernel), List.mem_of_getElem? (i := 1251) (by decide +kernel)⟩
theorem lw_p27 : lw_okq (⟨"QualityGateModel", "rejects", "(II)Z"⟩, 26) := ⟨⟨by decide +kernel, by decide +kernel⟩, List.mem_of_getElem? (i := 1146) (by decide +kernel), List.mem_of_getElem? (i := 1258) (by decide +kernel), List.mem_of_getElem? (i := 1259) (by decide +kernel)⟩
theorem lw_p28 : lw_okq (⟨"QualityGateModel", "clash", "(III)Z"⟩, 26) := ⟨⟨by decide +kernel, by decide +kernel⟩, List.mem_of_getElem? (i := 1146) (by decide +kernel), List.mem_of_getElem? (i := 1262) (by decide +kernel), List.mem_of_getElem? (i := 1263) (by decide +kernel)⟩
theorem lw_p29 : lw_okq (⟨"QualityGateModel", "at", "(II)I"⟩, 26) := ⟨⟨by decide +kernel, by decide +kernel⟩, List.mem_of_getElem? (i := 1146) (by decide +kernel), List.mem_of_getElem? (i := 1266) (by decide +kernel), List.mem_of_getElem? (i := 1267) (by decide +kernel)⟩
theorem lw_p30 : lw_okq (⟨"QualityGateModel", "alike", "(III)Z"⟩, 26) := ⟨⟨by decide +kernel, by decide +kernel⟩, List.mem_of_getElem? (i := 1146) (by decide +kernel), List.mem_of_getElem? (i := 1270) (by decide +kernel), List.mem_of_getElem? (i := 1271) (by decide +kernel)⟩
theorem lw_p31 : lw_okq (⟨"QualityGateModel", "breaks", "(II)Z"⟩, 26) := ⟨⟨by decide +kernel, by decide +kernel⟩, List.mem_of_getElem? (i := 1146) (by decide +kernel), List.mem_of_getElem? (i := 1274) (by decide +kernel), List.mem_of_getElem? (i := 1275) (by decide +kernel)⟩
def lw_privs_2 : List (MethodName × Nat) := [(⟨"QualityGate", "isTellingRowsApart", "(I)Z"⟩, 11), (⟨"QualityGate$Partition", "removalsInClass", "(Ljava/util/ArrayList;II)I"⟩, 2), (⟨"QualityGate$Partition", "equalInClass", "(Ljava/util/ArrayList;II)I"⟩, 2), (⟨"QualityGate", "presentCount", "(I)I"⟩, 11), (⟨"QualityGate", "columnMedian", "(I)I"⟩, 11), (⟨"QualityGate", "columnSpread", "(II)I"⟩, 11), (⟨"QualityGate", "rowsInBucket", "(II)I"⟩, 11), (⟨"QualityGate", "needProfileAndRows", "()V"⟩, 11), (⟨"QualityGate", "driftFromProfile", "(I)I"⟩, 11), (⟨"QualityGateModel", "fails", "(I)I"⟩, 26), (⟨"QualityGateModel", "tells", "(I)I"⟩, 26), (⟨"QualityGateModel", "rejects", "(II)Z"⟩, 26), (⟨"QualityGateModel", "clash", "(III)Z"⟩, 26), (⟨"QualityGateModel", "at", "(II)I"⟩, 26), (⟨"QualityGateModel", "alike", "(III)Z"⟩, 26), (⟨"QualityGateModel", "breaks", "(II)Z"⟩, 26)]
theorem lw_r2 : ∀ q ∈ lw_privs_2, lw_okq q := List.forall_mem_cons.mpr ⟨lw_p16, List.forall_mem_cons.mpr ⟨lw_p17, List.forall_mem_cons.mpr ⟨lw_p18, List.forall_mem_cons.mpr ⟨lw_p19, List.forall_mem_cons.mpr ⟨lw_p20, List.forall_mem_cons.mpr ⟨lw_p21, List.forall_mem_cons.mpr ⟨lw_p22, List.forall_mem_cons.mpr ⟨lw_p23, List.forall_mem_cons.mpr ⟨lw_p24, List.forall_mem_cons.mpr ⟨lw_p25, List.forall_mem_cons.mpr ⟨lw_p26, List.forall_mem_cons.mpr ⟨lw_p27, List.forall_mem_cons.mpr ⟨lw_p28, List.forall_mem_cons.mpr ⟨lw_p29, List.forall_mem_cons.mpr ⟨lw_p30, List.forall_mem_cons.mpr ⟨lw_p31, fun _ h => absurd h List.not_mem_nil⟩⟩⟩⟩⟩⟩⟩⟩⟩⟩⟩⟩⟩⟩⟩⟩
theorem lw_p32 : lw_okq (⟨"QualityGateModel", "hasOther", "()Z"⟩, 26) := ⟨⟨by decide +kernel, by decide +kernel⟩, List.mem_of_getElem? (i := 1146) (by decide +kernel), List.mem_of_getElem? (i := 1298) (by decide +kernel), List.mem_of_getElem? (i := 1299) (by decide +kernel)⟩
theorem lw_p33 : lw_okq (⟨"QualityGateModel", "asks", "(IZ)Z"⟩, 26) := ⟨⟨by decide +kernel, by decide +kernel⟩, List.mem_of_getElem? (i := 1146) (by decide +kernel), List.mem_of_getElem? (i := 1306) (by decide +kernel), List.mem_of_getElem? (i := 1307) (by decide +kernel)⟩
theorem lw_p34 : lw_okq (⟨"QualityGateModel", "find", "(I)I"⟩, 26) := ⟨⟨by decide +kernel, by decide +kernel⟩, List.mem_of_getElem? (i := 1146) (by decide +kernel), List.mem_of_getElem? (i := 1314) (by decide +kernel), List.mem_of_getElem? (i := 1315) (by decide +kernel)⟩
theorem lw_p35 : lw_okq (⟨"QualityGateModel", "drops", "(I)V"⟩, 26) := ⟨⟨by decide +kernel, by decide +kernel⟩, List.mem_of_getElem? (i := 1146) (by decide +kernel), List.mem_of_getElem? (i := 1318) (by decide +kernel), List.mem_of_getElem? (i := 1319) (by decide +kernel)⟩
theorem lw_p36 : lw_okq (⟨"QualityGateModel", "adds", "(IIIIZ)I"⟩, 26) := ⟨⟨by decide +kernel, by decide +kernel⟩, List.mem_of_getElem? (i := 1146) (by decide +kernel), List.mem_of_getElem? (i := 1345) (by decide +kernel), List.mem_of_getElem? (i := 1346) (by decide +kernel)⟩
theorem lw_p37 : lw_okq (⟨"QualityGateModel", "badRow", "(I)Z"⟩, 26) := ⟨⟨by decide +kernel, by decide +kernel⟩, List.mem_of_getElem? (i := 1146) (by decide +kernel), List.mem_of_getElem? (i := 1380) (by decide +kernel), List.mem_of_getElem? (i := 1381) (by decide +kernel)⟩
theorem lw_p38 : lw_okq (⟨"QualityGateModel", "conflicts", "(II)Z"⟩, 26) := ⟨⟨by decide +kernel, by decide +kernel⟩, List.mem_of_getElem? (i := 1146) (by decide +kernel), List.mem_of_getElem? (i := 1388) (by decide +kernel), List.mem_of_getElem? (i := 1389) (by decide +kernel)⟩
theorem lw_p39 : lw_okq (⟨"QualityGateModel", "groupsAll", "()V"⟩, 26) := ⟨⟨by decide +kernel, by decide +kernel⟩, List.mem_of_getElem? (i := 1146) (by decide +kernel), List.mem_of_getElem? (i := 1396) (by decide +kernel), List.mem_of_getElem? (i := 1397) (by decide +kernel)⟩
theorem lw_p40 : lw_okq (⟨"QualityGateModel", "findsRepair", "()I"⟩, 26) := ⟨⟨by decide +kernel, by decide +kernel⟩, List.mem_of_getElem? (i := 1146) (by decide +kernel), List.mem_of_getElem? (i := 1408) (by decide +kernel), List.mem_of_getElem? (i := 1409) (by decide +kernel)⟩
theorem lw_p41 : lw_okq (⟨"QualityGateModel", "bit", "(I)I"⟩, 26) := ⟨⟨by decide +kernel, by decide +kernel⟩, List.mem_of_getElem? (i := 1146) (by decide +kernel), List.mem_of_getElem? (i := 1412) (by decide +kernel), List.mem_of_getElem? (i := 1413) (by decide +kernel)⟩
theorem lw_p42 : lw_okq (⟨"QualityGateModel", "bitsOf", "(I)I"⟩, 26) := ⟨⟨by decide +kernel, by decide +kernel⟩, List.mem_of_getElem? (i := 1146) (by decide +kernel), List.mem_of_getElem? (i := 1416) (by decide +kernel), List.mem_of_getElem? (i := 1417) (by decide +kernel)⟩
theorem lw_p43 : lw_okq (⟨"QualityGateModel", "isRepair", "(II)Z"⟩, 26) := ⟨⟨by decide +kernel, by decide +kernel⟩, List.mem_of_getElem? (i := 1146) (by decide +kernel), List.mem_of_getElem? (i := 1420) (by decide +kernel), List.mem_of_getElem? (i := 1421) (by decide +kernel)⟩
theorem lw_p44 : lw_okq (⟨"QualityGateModel", "asksFixes", "(II)Z"⟩, 26) := ⟨⟨by decide +kernel, by decide +kernel⟩, List.mem_of_getElem? (i := 1146) (by decide +kernel), List.mem_of_getElem? (i := 1440) (by decide +kernel), List.mem_of_getElem? (i := 1441) (by decide +kernel)⟩
theorem lw_p45 : lw_okq (⟨"QualityGateModel", "fixes", "(II)Z"⟩, 26) := ⟨⟨by decide +kernel, by decide +kernel⟩, List.mem_of_getElem? (i := 1146) (by decide +kernel), List.mem_of_getElem? (i := 1444) (by decide +kernel), List.mem_of_getElem? (i := 1445) (by decide +kernel)⟩
theorem lw_p46 : lw_okq (⟨"QualityGateModel", "minimals", "(I)I"⟩, 26) := ⟨⟨by decide +kernel, by decide +kernel⟩, List.mem_of_getElem? (i := 1146) (by decide +kernel), List.mem_of_getElem? (i := 1456) (by decide +kernel), List.mem_of_getElem? (i := 1457) (by decide +kernel)⟩
theorem lw_p47 : lw_okq (⟨"QualityGateModel", "isMinimal", "(II)Z"⟩, 26) := ⟨⟨by decide +kernel, by decide +kernel⟩, List.mem_of_getElem? (i := 1146) (by decide +kernel), List.mem_of_getElem? (i := 1460) (by decide +kernel), List.mem_of_getElem? (i := 1461) (by decide +kernel)⟩
def lw_privs_3 : List (MethodName × Nat) := [(⟨"QualityGateModel", "hasOther", "()Z"⟩, 26), (⟨"QualityGateModel", "asks", "(IZ)Z"⟩, 26), (⟨"QualityGateModel", "find", "(I)I"⟩, 26), (⟨"QualityGateModel", "drops", "(I)V"⟩, 26), (⟨"QualityGateModel", "adds", "(IIIIZ)I"⟩, 26), (⟨"QualityGateModel", "badRow", "(I)Z"⟩, 26), (⟨"QualityGateModel", "conflicts", "(II)Z"⟩, 26), (⟨"QualityGateModel", "groupsAll", "()V"⟩, 26), (⟨"QualityGateModel", "findsRepair", "()I"⟩, 26), (⟨"QualityGateModel", "bit", "(I)I"⟩, 26), (⟨"QualityGateModel", "bitsOf", "(I)I"⟩, 26), (⟨"QualityGateModel", "isRepair", "(II)Z"⟩, 26), (⟨"QualityGateModel", "asksFixes", "(II)Z"⟩, 26), (⟨"QualityGateModel", "fixes", "(II)Z"⟩, 26), (⟨"QualityGateModel", "minimals", "(I)I"⟩, 26), (⟨"QualityGateModel", "isMinimal", "(II)Z"⟩, 26)]
theorem lw_r3 : ∀ q ∈ lw_privs_3, lw_okq q := List.forall_mem_cons.mpr ⟨lw_p32, List.forall_mem_cons.mpr ⟨lw_p33, List.forall_mem_cons.mpr ⟨lw_p34, List.forall_mem_cons.mpr ⟨lw_p35, List.forall_mem_cons.mpr ⟨lw_p36, List.forall_mem_cons.mpr ⟨lw_p37, List.forall_mem_cons.mpr ⟨lw_p38, List.forall_mem_cons.mpr ⟨lw_p39, List.forall_mem_cons.mpr ⟨lw_p40, List.forall_mem_cons.mpr ⟨lw_p41, List.forall_mem_cons.mpr ⟨lw_p42, List.forall_mem_cons.mpr ⟨lw_p43, List.forall_mem_cons.mpr ⟨lw_p44, List.forall_mem_cons.mpr ⟨lw_p45, List.forall_mem_cons.mpr ⟨lw_p46, List.forall_mem_cons.mpr ⟨lw_p47, fun _ h => absurd h List.not_mem_nil⟩⟩⟩⟩⟩⟩⟩⟩⟩⟩⟩⟩⟩⟩⟩⟩
theorem lw_p48 : lw_okq (⟨"QualityGateModel", "keyed", "(I)Z"⟩, 26) := ⟨⟨by decide +kernel, by decide +kernel⟩, List.mem_of_getElem? (i := 1146) (by decide +kernel), List.mem_of_getElem? (i := 1483) (by decide +kernel), List.mem_of_getElem? (i := 1484) (by decide +kernel)⟩
theorem lw_p49 : lw_okq (⟨"QualityGateModel", "mostIn", "(III)I"⟩, 26) := ⟨⟨by decide +kernel, by decide +kernel⟩, List.mem_of_getElem? (i := 1146) (by decide +kernel), List.mem_of_getElem? (i := 1495) (by decide +kernel), List.mem_of_getElem? (i := 1496) (by decide +kernel)⟩
theorem lw_p50 : lw_okq (⟨"QualityGateModel", "present", "(I)I"⟩, 26) := ⟨⟨by decide +kernel, by decide +kernel⟩, List.mem_of_getElem? (i := 1146) (by decide +kernel), List.mem_of_getElem? (i := 1507) (by decide +kernel), List.mem_of_getElem? (i := 1508) (by decide +kernel)⟩
theorem lw_p51 : lw_okq (⟨"QualityGateModel", "middle", "(IZI)I"⟩, 26) := ⟨⟨by decide +kernel, by decide +kernel⟩, List.mem_of_getElem? (i := 1146) (by decide +kernel), List.mem_of_getElem? (i := 1511) (by decide +kernel), List.mem_of_getElem? (i := 1512) (by decide +kernel)⟩
theorem lw_p52 : lw_okq (⟨"QualityGateModel", "spread", "(I)I"⟩, 26) := ⟨⟨by decide +kernel, by decide +kernel⟩, List.mem_of_getElem? (i := 1146) (by decide +kernel), List.mem_of_getElem? (i := 1522) (by decide +kernel), List.mem_of_getElem? (i := 1523) (by decide +kernel)⟩
theorem lw_p53 : lw_okq (⟨"QualityGateModel", "isOut", "(II)Z"⟩, 26) := ⟨⟨by decide +kernel, by decide +kernel⟩, List.mem_of_getElem? (i := 1146) (by decide +kernel), List.mem_of_getElem? (i := 1530) (by decide +kernel), List.mem_of_getElem? (i := 1531) (by decide +kernel)⟩
theorem lw_p54 : lw_okq (⟨"QualityGateModel", "counts", "([I)V"⟩, 26) := ⟨⟨by decide +kernel, by decide +kernel⟩, List.mem_of_getElem? (i := 1146) (by decide +kernel), List.mem_of_getElem? (i := 1542) (by decide +kernel), List.mem_of_getElem? (i := 1543) (by decide +kernel)⟩
theorem lw_p55 : lw_okq (⟨"QualityGateModel", "drifted", "(I)I"⟩, 26) := ⟨⟨by decide +kernel, by decide +kernel⟩, List.mem_of_getElem? (i := 1146) (by decide +kernel), List.mem_of_getElem? (i := 1550) (by decide +kernel), List.mem_of_getElem? (i := 1551) (by decide +kernel)⟩
def lw_privs_4 : List (MethodName × Nat) := [(⟨"QualityGateModel", "keyed", "(I)Z"⟩, 26), (⟨"QualityGateModel", "mostIn", "(III)I"⟩, 26), (⟨"QualityGateModel", "present", "(I)I"⟩, 26), (⟨"QualityGateModel", "middle", "(IZI)I"⟩, 26), (⟨"QualityGateModel", "spread", "(I)I"⟩, 26), (⟨"QualityGateModel", "isOut", "(II)Z"⟩, 26), (⟨"QualityGateModel", "counts", "([I)V"⟩, 26), (⟨"QualityGateModel", "drifted", "(I)I"⟩, 26)]
theorem lw_r4 : ∀ q ∈ lw_privs_4, lw_okq q := List.forall_mem_cons.mpr ⟨lw_p48, List.forall_mem_cons.mpr ⟨lw_p49, List.forall_mem_cons.mpr ⟨lw_p50, List.forall_mem_cons.mpr ⟨lw_p51, List.forall_mem_cons.mpr ⟨lw_p52, List.forall_mem_cons.mpr ⟨lw_p53, List.forall_mem_cons.mpr ⟨lw_p54, List.forall_mem_cons.mpr ⟨lw_p55, fun _ h => absurd h List.not_mem_nil⟩⟩⟩⟩⟩⟩⟩⟩
def lw_privs : List (MethodName × Nat) := lw_privs_1 ++ (lw_privs_2 ++ (lw_privs_3 ++ (lw_privs_4)))
def lw_tbl : List Cond := k2_sels lw_privs ++ tables_1
theorem lw_privs_ok : ∀ q ∈ lw_privs, lw_okq q := by
  show ∀ q ∈ lw_privs_1 ++ (lw_privs_2 ++ (lw_privs_3 ++ (lw_privs_4))), lw_okq q
  exact List.forall_mem_append.mpr ⟨lw_r1, List.forall_mem_append.mpr ⟨lw_r2, List.forall_mem_append.mpr ⟨lw_r3, lw_r4⟩⟩⟩
/-- the streams that the claim lets the run draw from -/
abbrev lw_cs : List Choice := [Jvm.Choice.named "NaN.bits"]
theorem lw_bits : nanBits ∈ lw_cs := by first | decide | exact List.mem_cons_self | simp [lw_cs, nanBits]
-- ===== end of PART A; then your names; then what follows =====
end
section
/-! ===== BEGIN words of one list among another's, by their places ===== -/
theorem goodIn_r {big : List Cond} (ws : List Cond) (ps : List Nat) (hp : ws = ps.filterMap (fun i => big[i]?)) (h : ws.all goodWord = true) : GoodIn big ws := by
  intro w hw
  have h1 := List.all_eq_true.mp h w hw
  rw [hp] at hw
  obtain ⟨i, -, hi⟩ := List.mem_filterMap.mp hw
  have hm : w ∈ big := by first | exact List.mem_of_getElem? hi | exact List.getElem?_mem hi
  exact ⟨hm, good_of_word h1⟩
theorem goodIn_app {big a b : List Cond} (ha : GoodIn big a) (hb : GoodIn big b) : GoodIn big (a ++ b) := fun w h => (List.mem_append.mp h).elim (ha w) (hb w)
theorem goodIn_ca {big a b : List Cond} {c : Cond} (ha : GoodIn big (c :: a)) (hb : GoodIn big b) : GoodIn big (c :: (a ++ b)) := fun w h => (List.mem_cons.mp h).elim (fun e => ha w (List.mem_cons.mpr (Or.inl e))) (fun h => (List.mem_append.mp h).elim (fun h => ha w (List.mem_cons.mpr (Or.inr h))) (hb w))
theorem goodIn_sub {big ws : List Cond} (hm : ∀ w ∈ ws, w ∈ big) (h : ws.all goodWord = true) : GoodIn big ws := fun w hw => ⟨hm w hw, good_of_word (List.all_eq_true.mp h w hw)⟩
/-! ===== END ===== -/
/-- arrays over a class of arrays: the word, read off any state -/
def va_AOA (ty : FieldType) (U : State) : Prop := (Cond.arrayOver (.array ty)).before #[] U = true
theorem va_AOA.use {ty : FieldType} {A : Array Value} {U : State} (h : va_AOA ty U) : (Cond.arrayOver (.array ty)).before A U = true := h
/-! ===== BEGIN new T[n][m]: the outer array a place, the inner ones among the pooled ===== -/
/-- f, but v at every address of l -/
def vr_up {α : Type} (f : Nat → α) (l : List Nat) (v : α) : Nat → α := fun a => if a ∈ l then v else f a
theorem vr_up_in {α : Type} {f : Nat → α} {l : List Nat} {v : α} {a : Nat} (h : a ∈ l) : vr_up f l v a = v := if_pos h
theorem vr_up_ne {α : Type} {f : Nat → α} {l : List Nat} {v : α} {a : Nat} (h : a ∉ l) : vr_up f l v a = f a := if_neg h
theorem vr_rows {L l : List Nat} {f : Nat → va_E} {e : va_E} (h : ∀ a, a ∈ l → a ∉ L) : va_pl L f ++ l.map (fun a => (a, e)) = va_pl (L ++ l) (vr_up f l e) := by
  unfold va_pl
  rw [List.map_append]
  congr 1
  · apply List.map_congr_left
    intro a ha
    rw [vr_up_ne (fun q => h a q ha)]
  · apply List.map_congr_left
    intro a ha
    rw [vr_up_in ha]
theorem vr_lay {X rows : va_W} {x : Nat × va_E} {pl : va_W} {D : va_G} {cl : List vw_C} {H : Heap} (hP : va_P D cl (((X ++ pl) ++ [x]) ++ rows) H) : va_P D cl ((X ++ [x]) ++ (pl ++ rows)) H := by
  rw [List.append_assoc (X ++ pl)] at hP
  have h := va_P.swap hP
  rw [← List.append_assoc X] at h
  have h2 := va_P.swap h
  rw [List.append_assoc (X ++ [x])] at h2
  exact h2
theorem vr_layD {X rows : va_W} {x : Nat × va_E} {pl : va_W} {A : Nat → Prop} (hD : va_D A (((X ++ pl) ++ [x]) ++ rows)) : va_D A ((X ++ [x]) ++ (pl ++ rows)) := by
  rw [List.append_assoc (X ++ pl)] at hD
  have h := va_D.swap hD
  rw [← List.append_assoc X] at h
  have h2 := va_D.swap h
  rw [List.append_assoc (X ++ [x])] at h2
  exact h2
theorem vr_outer (c : ClassId) (N h0 : Nat) : ∀ i : Nat, Jvm.Free.Multi.outerC c N h0 i = arrV c N (fun j => va_rf (if j < i then some (h0 + 1 + j) else none))
  | 0 => by
    show ({ cls := c, slots := Array.replicate N .null, vm := .none } : Cell) = _
    rw [arrV_new]
    refine congrArg (arrV c N) (funext fun j => ?_)
    simp [va_rf]
  | i + 1 => by
    show (Jvm.Free.Multi.outerC c N h0 i).setSlot i (.ref (h0 + 1 + i)) = _
    rw [vr_outer c N h0 i, arrV_store]
    refine congrArg (arrV c N) (funext fun j => ?_)
    by_cases e : j = i
    · subst e
      simp [updV, va_rf]
    · by_cases h : j < i
      · simp [updV, e, h, Nat.lt_succ_of_lt h]
      · simp [updV, e, h, show ¬ j < i + 1 by omega]
section VGM
variable {p : Program} {l : Launch} {e : Env} {R : Room} {s : State} {m : MethodId} {args : Array Value} {below : List Frame} {meth : Method} {c : Code} {H : Heap} {locs : List Loc} {cells slots : Nat} {Q : State → Prop}
variable {cc : ByteArray} {pc : Nat} {ls : Array Slot} {rest : List Value} {D : va_G} {cl : List vw_C} {A : Nat → Prop} {a : Nat} {tys : List (ClassId × FieldType)} {ws : va_W} {H0 : Heap}
theorem va_mna {X : va_W} {L : List Nat} {f : Nat → va_E} {cc : ByteArray} (hexec : p.tables.exec = Jvm.exec) (hb : c.code = cc) {own : String} {index : Nat} {ty : FieldType} {cy : ClassId} (hown : s.vm.findClass own = some m.cls) (hclink : (Cond.classLink own index ("[" ++ (FieldType.array ty).toString)).before args s = true) (hover : va_AOA ty s) (harr : (Cond.arrayClass ty).before args s = true) (hcy : s.vm.findClass (FieldType.array ty).toString = some cy)
    (hK : va_K D cl tys s) (hP : va_P D cl (X ++ va_pl L f) H) (hD : va_D A (X ++ va_pl L f)) (hS : va_S A H0 H locs) (hA : ∀ q, H0.size ≤ q → A q) {n k : Int32} {N' K' : Nat} {z : vp_A} (hn : ¬ n < 0) (hk : ¬ k < 0) (hN : n.toNatClampNeg = N') (hM : k.toNatClampNeg = K')
    (hb1 : N' * 4 ≤ 536870912) (hb2 : K' * componentBytes ty ≤ 536870912) (hb3 : K' ≤ 536870912) (hdf : fits ty (defaultValue ty) = true) (hdd : (defaultValue ty).isDefault = true) (hcells : cells + (1 + N') ≤ R.cells) (hslots : slots + (N' + N' * K') ≤ R.slots) (hz : ∀ c : ClassId, Jvm.Free.Multi.innerC c K' (defaultValue ty) = vp_cell c z) (hdg : decode cc pc = .ok (.multianewarray index 2, 4))
    (kk : ∀ (q : Nat) (r : Nat → Nat) (cA : ClassId) (H1 : Heap), (∀ i j : Nat, i < N' → j < N' → r i = r j → i = j) → (∀ i : Nat, i < N' → r i ∉ L) → va_K D cl (tys ++ [(cA, .array ty)]) s →
      va_P D cl ((X ++ [(q, .inl (cA, N', .inr (.inr (.inr (.inr (fun i => if i < N' then some (r i) else none))))))]) ++ va_pl (L ++ (List.range N').map r) (vr_up f ((List.range N').map r) (.inl (cy, z)))) H1 → va_D A ((X ++ [(q, .inl (cA, N', .inr (.inr (.inr (.inr (fun i => if i < N' then some (r i) else none))))))]) ++ va_pl (L ++ (List.range N').map r) (vr_up f ((List.range N').map r) (.inl (cy, z)))) → va_S A H0 H1 locs →
      W p l e R s m args below meth c H1 locs (cells + 1 + N') (slots + N' + N' * K') Q (F0 m (pc + 4) ls (.ref q :: rest))) : W p l e R s m args below meth c H locs cells slots Q (F0 m pc ls (.int k :: .int n :: rest)) := by
  subst hN
  subst hM
  intro T hT Xs
  obtain ⟨vm₁, cA, comp, -, fA, fC, hO, -, X', step⟩ := Xs.multianewarray2F hexec hown hclink (va_AOA.use hover) harr (g := F0 m pc ls (.int k :: .int n :: rest)) rfl (by rw [hb]; exact hdg) rfl hn hk hb1 hb2 hb3 hdf hdd hcells hslots
  have ec : some cy = some comp := hcy.symm.trans fC
  cases ec
  generalize hF : Jvm.Free.Multi.fill (T.setVm vm₁) cA cy n.toNatClampNeg k.toNatClampNeg (defaultValue ty) n.toNatClampNeg = F at X' step
  have hTh : (T.setVm vm₁).heap = H := hT
  obtain ⟨f1, f2, -, -⟩ := Jvm.Free.Multi.fill_facts (T.setVm vm₁) cA cy n.toNatClampNeg k.toNatClampNeg (defaultValue ty) n.toNatClampNeg
  rw [hF, hTh] at f1 f2
  have hold : ∀ x : Nat, x < H.size → F.heap[x]? = H[x]? := fun x hx => by
    have := Jvm.Free.Multi.fill_old (T.setVm vm₁) cA cy n.toNatClampNeg k.toNatClampNeg (defaultValue ty) (a := x) (by rw [hTh]; exact hx) n.toNatClampNeg
    rw [hF, hTh] at this
    exact this
  have hrow : ∀ j : Nat, j < n.toNatClampNeg → F.heap[H.size + 1 + j]? = some (vp_cell cy z) := fun j hj => by
    have := Jvm.Free.Multi.fill_inner (T.setVm vm₁) cA cy n.toNatClampNeg k.toNatClampNeg (defaultValue ty) n.toNatClampNeg j hj
    rw [hF, hTh, hz] at this
    exact this
  have hout : Jvm.Free.Multi.outerC cA n.toNatClampNeg H.size n.toNatClampNeg = vp_cell cA (n.toNatClampNeg, .inr (.inr (.inr (.inr (fun i => if i < n.toNatClampNeg then some (H.size + 1 + i) else none))))) := by
    rw [vp_cell_q]
    exact vr_outer cA n.toNatClampNeg H.size n.toNatClampNeg
  rw [hout] at f2
  have hlt : ∀ a, a ∈ L → a < H.size := fun a ha => by
    obtain ⟨k9, hk9⟩ := va_pl_get (X := X) (f := f) ha
    exact (hP k9 _ hk9).lt
  have hnl : ∀ i : Nat, i < n.toNatClampNeg → H.size + 1 + i ∉ L := fun i _ h => by
    have := hlt _ h
    omega
  have hnm : ∀ a, a ∈ (List.range n.toNatClampNeg).map (fun i => H.size + 1 + i) → a ∉ L := fun a ha h => by
    obtain ⟨i, -, rfl⟩ := List.mem_map.mp ha
    have := hlt _ h
    omega
  have hP0 : va_P D cl (X ++ va_pl L f) F.heap := hP.kept (fun k9 x hx => hold x.1 ((hP k9 x hx).lt))
  have hP1 : va_P D cl ((X ++ va_pl L f) ++ [(H.size, .inl (cA, n.toNatClampNeg, .inr (.inr (.inr (.inr (fun i => if i < n.toNatClampNeg then some (H.size + 1 + i) else none))))))]) F.heap := hP0.app (fun k9 x hx => by
    have h0 : k9 < 1 := (List.getElem?_eq_some_iff.mp hx).1
    rw [show k9 = 0 by omega] at hx
    cases hx
    exact f2)
  have hP2 : va_P D cl (((X ++ va_pl L f) ++ [(H.size, .inl (cA, n.toNatClampNeg, .inr (.inr (.inr (.inr (fun i => if i < n.toNatClampNeg then some (H.size + 1 + i) else none))))))]) ++ ((List.range n.toNatClampNeg).map (fun i => H.size + 1 + i)).map (fun a => (a, .inl (cy, z)))) F.heap := hP1.app (fun k9 x hx => by
    obtain ⟨a, ha, rfl⟩ := List.mem_map.mp (List.mem_of_getElem? hx)
    obtain ⟨i, hi, rfl⟩ := List.mem_map.mp ha
    exact hrow i (List.mem_range.mp hi))
  have hD2 : va_D A (((X ++ va_pl L f) ++ [(H.size, .inl (cA, n.toNatClampNeg, .inr (.inr (.inr (.inr (fun i => if i < n.toNatClampNeg then some (H.size + 1 + i) else none))))))]) ++ ((List.range n.toNatClampNeg).map (fun i => H.size + 1 + i)).map (fun a => (a, .inl (cy, z)))) := by
    have hD1 := hD.push (e := .inl (cA, n.toNatClampNeg, .inr (.inr (.inr (.inr (fun i => if i < n.toNatClampNeg then some (H.size + 1 + i) else none)))))) hP rfl (hA _ hS.1)
    generalize hW1 : (X ++ va_pl L f) ++ [(H.size, .inl (cA, n.toNatClampNeg, .inr (.inr (.inr (.inr (fun i => if i < n.toNatClampNeg then some (H.size + 1 + i) else none))))))] = W1 at hD1 hP1 ⊢
    have hle : ∀ (k9 : Nat) (x : Nat × va_E), W1[k9]? = some x → x.1 ≤ H.size := fun k9 x hx => by
      rw [← hW1] at hx
      by_cases hl : k9 < (X ++ va_pl L f).length
      · rw [List.getElem?_append_left hl] at hx
        exact Nat.le_of_lt ((hP k9 x hx).lt)
      · rw [List.getElem?_append_right (by omega)] at hx
        have h0 : k9 - (X ++ va_pl L f).length < 1 := (List.getElem?_eq_some_iff.mp hx).1
        rw [show k9 - (X ++ va_pl L f).length = 0 by omega] at hx
        cases hx
        exact Nat.le_refl _
    have hr : ∀ (k9 : Nat) (x : Nat × va_E), (((List.range n.toNatClampNeg).map (fun i => H.size + 1 + i)).map (fun a => ((a, .inl (cy, z)) : Nat × va_E)))[k9]? = some x → x.1 = H.size + 1 + k9 := fun k9 x hx => by
      rw [List.getElem?_map, List.getElem?_map] at hx
      by_cases h9 : k9 < n.toNatClampNeg
      · rw [List.getElem?_range h9] at hx
        cases hx
        rfl
      · have hn0 : (List.range n.toNatClampNeg)[k9]? = none := List.getElem?_eq_none (by rw [List.length_range]; omega)
        rw [hn0] at hx
        cases hx
    refine ⟨fun i j x y hi hj hxy => ?_, fun k9 x hx => ?_⟩
    · by_cases h1 : i < W1.length <;> by_cases h2 : j < W1.length
      · rw [List.getElem?_append_left h1] at hi
        rw [List.getElem?_append_left h2] at hj
        exact hD1.1 i j x y hi hj hxy
      · rw [List.getElem?_append_left h1] at hi
        rw [List.getElem?_append_right (by omega)] at hj
        have := hle _ _ hi
        have := hr _ _ hj
        omega
      · rw [List.getElem?_append_right (by omega)] at hi
        rw [List.getElem?_append_left h2] at hj
        have := hle _ _ hj
        have := hr _ _ hi
        omega
      · rw [List.getElem?_append_right (by omega)] at hi hj
        have := hr _ _ hi
        have := hr _ _ hj
        omega
    · by_cases h1 : k9 < W1.length
      · rw [List.getElem?_append_left h1] at hx
        exact hD1.2 k9 x hx
      · rw [List.getElem?_append_right (by omega)] at hx
        have := hr _ _ hx
        exact hA _ (by have := hS.1; omega)
  have hAr : ArrOfT s cA (.array ty) := fun N9 z9 => by
    obtain ⟨-, k9, hk9, cm9, hkk9⟩ := (hO 0 0 0).1
    exact ⟨(fun q hq => by cases hq), k9, hk9, cm9, hkk9⟩
  have hK2 : va_K D cl (tys ++ [(cA, .array ty)]) s := ⟨hK.1, fun k9 x hx => by
    by_cases hl : k9 < tys.length
    · rw [List.getElem?_append_left hl] at hx
      exact hK.2 k9 x hx
    · rw [List.getElem?_append_right (by omega)] at hx
      have h0 : k9 - tys.length < 1 := (List.getElem?_eq_some_iff.mp hx).1
      rw [show k9 - tys.length = 0 by omega] at hx
      cases hx
      exact ⟨hAr, fA⟩⟩
  obtain ⟨t, a1, b1⟩ := kk H.size (fun i => H.size + 1 + i) cA F.heap (fun i j _ _ h => by have h9 : H.size + 1 + i = H.size + 1 + j := h; omega) hnl hK2 (by rw [← vr_rows hnm]; exact vr_lay hP2) (by rw [← vr_rows hnm]; exact vr_layD hD2) ⟨by rw [f1]; have := hS.1; omega, fun x h1 h2 => (hold x (Nat.lt_of_lt_of_le h1 hS.1)).trans (hS.2.1 x h1 h2), hS.2.2⟩ F rfl X'
  refine ⟨t, step t ?_, b1⟩
  have e : T.heap.size = H.size := by rw [hT]
  rw [e]
  exact a1
end VGM
/-! ===== END ===== -/
/-! ===== BEGIN exceptions that leave a method, and their catching by the caller (launches without stack traces) ===== -/
section VXA
/-! The laws vx_back, vx_callV, vx_callS, vx_callSW, vx_throw0, vx_throwS follow proofs of the library, with one case more: JvmDerived/Free/Laws.lean (Back.of_free), Shelf42/LK1.lean (callV, callS), Shelf/KitTraced.lean (throwNew0V, throwNewS). -/
/-- where a method has thrown q: the class by its name, the cell, what was written, the world -/
def vx_T (XC : String → State → State → Prop) (st : State) (q : Addr) (t : State) (mc ms : Nat) (free : Addr → Prop) : Prop :=
  ∃ (E : String) (ce : Cell) (L : List Loc), XC E st t ∧ t.heap[q]? = some ce ∧ ce.vm = .none ∧ st.vm.findClass E = some ce.cls ∧ st.WarmedH t.vm ∧ st.sameButNew ({ t with vm := st.vm } : State) L mc ms ∧ ∀ z ∈ L, free z.base
def vx_Q (Qc : Array Value → State → Outcome → State → Prop) (XC : String → State → State → Prop) (mc ms : Nat) (free : Addr → Prop) : Array Value → State → Outcome → State → Prop := fun a st o t =>
  (Qc a st o t ∧ ∃ L, FrameEnd st o t L mc ms ∧ ∀ q ∈ L, free q.base) ∨ ∃ q, o = .threw q ∧ vx_T XC st q t mc ms free
/-- a callee that returns or throws -/
def vx_Met (l : Launch) (y : MethodName) (ws : List Cond) (rm : Room) (Pc : Array Value → State → Prop) (Qc : Array Value → State → Outcome → State → Prop) (XC : String → State → State → Prop) (mc ms : Nat) (free : Addr → Prop) : Prop :=
  MetFree l y (headSpec ws rm) Pc (fun _ _ _ _ _ => True) (vx_Q Qc XC mc ms free)
def vx_Post (XC : String → State → State → Prop) (mc ms : Nat) (free : Addr → Prop) : Pt → Array Value → Addr → Pt → Prop := fun A a q B =>
  ∃ (g : JFrame) (mk : MethodId) (t : State) (L : List Loc) (E : String) (ce : Cell), B.U.heap = t.heap ∧ B.U.vm = t.vm ∧ XC E (A.U.calling g mk a) t ∧ t.heap[q]? = some ce ∧ ce.vm = .none ∧ A.U.vm.findClass E = some ce.cls ∧ B.locs = A.locs ++ L ∧ (∀ z ∈ L, free z.base) ∧ B.cells = A.cells + mc ∧ B.slots = A.slots + ms
def vx_Back (l : Launch) (R : Room) (p : Program) (e : Env) (below : List Frame) (s : State) (sargs : Array Value) (y : MethodName) (len W9 : Nat)
    (Pre : Pt → Array Value → Prop) (Post : Pt → Array Value → Option Value → Pt → Prop) (PostX : Pt → Array Value → Addr → Pt → Prop) : Prop :=
  ∀ (m : MethodId) (meth : Method) (c : Code) (A : Pt) (g : JFrame) (ig : Instr) (mk : MethodId) (a : Array Value),
    Stand p l e R s m sargs below meth c A.U A.locs A.cells A.slots → g.method = m → g.locals.size = c.maxLocals → decode c.code g.pc = .ok (ig, len) →
    2 * g.monitorRoom + (g.stack.map fun v => v.category).sum ≤ W9 → A.U.methodNamed? y = some mk → Pre A a →
    (∃ (v : Option Value) (B : Pt), Stand p l e R s m sargs below meth c B.U B.locs B.cells B.slots ∧ Post A a v B ∧
      Steps p.tables e below (doInvoke e (A.U.setTop g) [] mk a).1 (B.U.setTop { g with pc := g.pc + len, stack := v.toList ++ g.stack })) ∨
    (∃ (q : Addr) (B : Pt), Stand p l e R s m sargs below meth c B.U B.locs B.cells B.slots ∧ PostX A a q B ∧
      Steps p.tables e below (doInvoke e (A.U.setTop g) [] mk a).1 ((B.U.setTop g).pushFrame (.throwing q)))
section Payer
variable {l : Launch} {R : Room} {p : Program} {e : Env} {below : List Frame} {s : State} {sargs : Array Value} {y : MethodName} {len W9 : Nat}
theorem vx_back {ws : List Cond} {rm : Room} {Pc : Array Value → State → Prop} {Qc : Array Value → State → Outcome → State → Prop} {XC : String → State → State → Prop} {mc ms : Nat} {free : Addr → Prop} {bytes : ByteArray} {maxL : Nat} {ret : Option FieldType}
    (hM : vx_Met l y ws rm Pc Qc XC mc ms free) (hblind : FrameBlind Pc) (hrc : rm.cells = mc) (hrs : rm.slots = ms)
    (hframes : rm.frames + 1 ≤ R.frames) (hlocals : W9 + (maxL + 11) + rm.locals ≤ R.locals)
    (hws : ∀ w ∈ ws, ∀ a' U, s.WarmedH U.vm → w.before a' U = true) (hcode : Cond.code y bytes maxL ret ∈ ws) (hinit : ∀ a' U, s.WarmedH U.vm → (Cond.initialized y.cls).before a' U = true) :
    vx_Back l R p e below s sargs y len W9 (PreOf R mc ms Pc) (PostOf Qc mc ms free) (vx_Post XC mc ms free) := by
  intro m meth c A g ig mk a X hg hsize hdg hW hn hp
  have h1 : (headSpec ws rm).pre.before a A.U = true := atoms_intro fun w hw => hws w hw _ _ X.warmed
  have h2 : (Cond.code y bytes maxL ret).before a A.U = true := hws _ hcode _ _ X.warmed
  have h3 : (Cond.initialized y.cls).before a A.U = true := hinit _ _ X.warmed
  have h4 : A.cells + (headSpec ws rm).room.cells ≤ R.cells := by rw [show (headSpec ws rm).room.cells = mc from hrc]; exact hp.1
  have h5 : A.slots + (headSpec ws rm).room.slots ≤ R.slots := by rw [show (headSpec ws rm).room.slots = ms from hrs]; exact hp.2.1
  have hPc : Pc a (A.U.calling g mk a) := hblind _ _ _ _ hp.2.2
  obtain ⟨U, Ls, c0, s0⟩ := A
  dsimp only [Pt.U, Pt.locs, Pt.cells, Pt.slots] at h1 h2 h3 h4 h5 X hn hPc ⊢
  obtain ⟨methY, cY, hmY, hcY, -, hlY, -, -, -, -⟩ := Cond.code_spec hn h2
  obtain ⟨kY, hkY, -⟩ := className_of_methodNamed hn
  have hinitY : kY.init = .initialized := Cond.initialized_spec (findClass_of_methodNamed hn) hkY h3
  have h : At U g.method c below := by rw [hg]; exact X.here
  have hlocals9 : W9 + (maxL + 11) + (headSpec ws rm).room.locals ≤ R.locals := hlocals
  have happ : (headSpec ws rm).appliesLoose y e.platform (U.calling g mk a) = true :=
    Spec.appliesLoose_calling (g := g) h hdg hn hkY hinitY
      (X.room_calling (g := g) (R' := (headSpec ws rm).room) hsize hmY hcY hframes (by rw [hlY]; omega) h4 h5) h1
  obtain ⟨mid, hmid⟩ := h.above
  have hfr : (U.setTop g).frames = (.java g :: mid) ++ below := by rw [State.frames_setTop' g h.top, hmid]; rfl
  obtain ⟨o, s₂, hsteps, -, hend, hq⟩ := Steps.callFree hM p X.admits X.cas X.clock (acts := []) hfr happ hPc trivial
  have hq' : vx_Q Qc XC mc ms free a (U.calling g mk a) o s₂ := hq
  rw [State.frames_setTop' g h.top] at hend
  obtain ⟨g₀, hg0⟩ := Option.isSome_iff_exists.mp h.top
  obtain ⟨r, hr⟩ := State.topJava?_eq_some.mp hg0
  have hr' : (({ U with heap := s₂.heap, slotsUsed := s₂.slotsUsed } : State).setVm s₂.vm).frames = .java g₀ :: r := hr
  rcases hq' with ⟨hqc, L, hfe, hL⟩ | ⟨q, rfl, E, ce, L, hx, hce, hcv, hcl, hW₂, hsm, hL⟩
  · obtain ⟨⟨v, rfl⟩, hW₂, e2, q2, q3, q4, q5, q6⟩ := id hfe
    have e3 : s₂ = ({ (U.calling g mk a).setFrames s₂.frames with heap := s₂.heap, slotsUsed := s₂.slotsUsed } : State).setVm s₂.vm := by
      have : s₂ = ({ s₂ with vm := (U.calling g mk a).vm } : State).setVm s₂.vm := rfl
      rw [e2] at this
      exact this
    obtain ⟨c₂, i₂, len₂, hc₂, hd₂, hf₂⟩ := hend
    have hW' : U.WarmedH s₂.vm := hW₂
    have hcc : c₂ = c := by
      have h1 : s₂.code? g.method = U.code? g.method := by
        rw [State.code?_eq, State.code?_eq, hW'.alike.method?]
      exact Option.some.inj (hc₂.symm.trans (h1.trans h.code))
    subst hcc
    have hlen : len₂ = len := by rw [hdg] at hd₂; cases hd₂; rfl
    subst hlen
    have hs₂ : s₂ = (({ U with heap := s₂.heap, slotsUsed := s₂.slotsUsed } : State).setVm s₂.vm).setTop { g with pc := g.pc + len₂, stack := v.toList ++ g.stack } := by
      refine e3.trans ?_
      rw [hf₂, State.calling_eq h.top, State.setFrames_setFrames, State.setTop_of_frames _ hr', hr]
      rfl
    have hsame : U.sameButNew ({ U with heap := s₂.heap, slotsUsed := s₂.slotsUsed } : State) L mc ms := by
      refine ⟨?_, q2, q3, q4, q5, q6⟩
      obtain ⟨t, ht, -⟩ := State.frames_cons hr
      show ({ U with heap := s₂.heap, slotsUsed := s₂.slotsUsed } : State) = { U.setFrames U.frames with heap := s₂.heap, slotsUsed := s₂.slotsUsed }
      rw [State.setFrames_self ht]
    subst hg
    refine Or.inl ⟨v, ⟨(({ U with heap := s₂.heap, slotsUsed := s₂.slotsUsed } : State).setVm s₂.vm), Ls ++ L, c0 + mc, s0 + ms⟩,
      ⟨X.admits, X.cas, X.clock, X.frames, X.room, X.hears, X.method, X.code, (X.here.setHeapUsed s₂.heap s₂.slotsUsed).setVm hW'.alike, X.tail, State.WarmedH.trans X.warmed hW', X.limits, X.bytes, X.same.trans (hsame.setVm s.vm)⟩,
      ⟨g, mk, s₂, L, rfl, rfl, hqc, rfl, hL, rfl, rfl⟩, ?_⟩
    show Steps p.tables e below _ ((({ U with heap := s₂.heap, slotsUsed := s₂.slotsUsed } : State).setVm s₂.vm).setTop { g with pc := g.pc + len₂, stack := v.toList ++ g.stack })
    rw [← hs₂]
    exact hsteps
  · obtain ⟨e2, q2, q3, q4, q5, q6⟩ := id hsm
    have e3 : s₂ = ({ (U.calling g mk a).setFrames s₂.frames with heap := s₂.heap, slotsUsed := s₂.slotsUsed } : State).setVm s₂.vm := by
      have : s₂ = ({ s₂ with vm := (U.calling g mk a).vm } : State).setVm s₂.vm := rfl
      rw [e2] at this
      exact this
    have hf₂ : s₂.frames = .throwing q :: .java g :: U.frames.tail := hend
    have hW' : U.WarmedH s₂.vm := hW₂
    have hs₂ : s₂ = ((({ U with heap := s₂.heap, slotsUsed := s₂.slotsUsed } : State).setVm s₂.vm).setTop g).pushFrame (.throwing q) := by
      refine e3.trans ?_
      rw [hf₂, State.calling_eq h.top, State.setFrames_setFrames, State.pushFrame, State.frames_setTop _ hr', State.setTop_of_frames _ hr', State.setFrames_setFrames, hr]
      rfl
    have hsame : U.sameButNew ({ U with heap := s₂.heap, slotsUsed := s₂.slotsUsed } : State) L mc ms := by
      refine ⟨?_, q2, q3, q4, q5, q6⟩
      obtain ⟨t, ht, -⟩ := State.frames_cons hr
      show ({ U with heap := s₂.heap, slotsUsed := s₂.slotsUsed } : State) = { U.setFrames U.frames with heap := s₂.heap, slotsUsed := s₂.slotsUsed }
      rw [State.setFrames_self ht]
    subst hg
    refine Or.inr ⟨q, ⟨(({ U with heap := s₂.heap, slotsUsed := s₂.slotsUsed } : State).setVm s₂.vm), Ls ++ L, c0 + mc, s0 + ms⟩,
      ⟨X.admits, X.cas, X.clock, X.frames, X.room, X.hears, X.method, X.code, (X.here.setHeapUsed s₂.heap s₂.slotsUsed).setVm hW'.alike, X.tail, State.WarmedH.trans X.warmed hW', X.limits, X.bytes, X.same.trans (hsame.setVm s.vm)⟩,
      ⟨g, mk, s₂, L, E, ce, rfl, rfl, hx, hce, hcv, hcl, rfl, hL, rfl, rfl⟩, ?_⟩
    show Steps p.tables e below _ (((({ U with heap := s₂.heap, slotsUsed := s₂.slotsUsed } : State).setVm s₂.vm).setTop g).pushFrame (.throwing q))
    rw [← hs₂]
    exact hsteps
end Payer
section Calls
variable {p : Program} {l : Launch} {e : Env} {R : Room} {s : State} {m : MethodId} {args : Array Value} {below : List Frame} {meth : Method} {c : Code} {T : State} {locs : List Loc} {cells slots : Nat}
theorem vx_callV (X : Stand p l e R s m args below meth c T locs cells slots) (hexec : p.tables.exec = Jvm.exec) {own C : String} {index : Nat} {y : MethodName} {bytes : ByteArray} {maxL : Nat} {ret : Option FieldType}
    (hown : s.vm.findClass own = some m.cls) (hlink : (Cond.methodLink own index y).before args s = true) (hinst : (Cond.instanceMethod y).before args s = true) (hsel : (Cond.selects C y y).before args s = true)
    (hcode : (Cond.code y bytes maxL ret).before args s = true) (hy : y.cls ≠ "java/lang/invoke/MethodHandle" ∧ y.cls ≠ "java/lang/invoke/VarHandle")
    {W9 : Nat} {Pre : Pt → Array Value → Prop} {Post : Pt → Array Value → Option Value → Pt → Prop} {PostX : Pt → Array Value → Addr → Pt → Prop} (hK : vx_Back l R p e below s args y 3 W9 Pre Post PostX)
    {b : Addr} {cellB : Cell} (hcell : T.heap[b]? = some cellB) (hobj : cellB.vm.isStatics = false) (hcls : s.vm.findClass C = some cellB.cls)
    {g : JFrame} (hg : g.method = m) (hsize : g.locals.size = c.maxLocals) {argsL rest : List Value} (hlen : ∀ sig, parseMethodDescriptor y.desc = some sig → argsL.length = sig.parameters.length)
    (hstack : g.stack = argsL.reverse ++ .ref b :: rest) (hW : 2 * g.monitorRoom + (rest.map fun v => v.category).sum ≤ W9) (hdg : decode c.code g.pc = .ok (.invokevirtual index, 3))
    (hpre : ∀ vm₁, s.WarmedH vm₁ → Pre ⟨T.setVm vm₁, locs, cells, slots⟩ (Value.ref b :: argsL).toArray) :
    (∃ (v : Option Value) (vm₁ : Vm) (B : Pt), s.WarmedH vm₁ ∧ Stand p l e R s m args below meth c B.U B.locs B.cells B.slots ∧ Post ⟨T.setVm vm₁, locs, cells, slots⟩ (Value.ref b :: argsL).toArray v B ∧
      ∀ target, Steps p.tables e below (B.U.setTop { g with pc := g.pc + 3, stack := v.toList ++ rest }) target → Steps p.tables e below (T.setTop g) target) ∨
    (∃ (q : Addr) (vm₁ : Vm) (B : Pt), s.WarmedH vm₁ ∧ Stand p l e R s m args below meth c B.U B.locs B.cells B.slots ∧ PostX ⟨T.setVm vm₁, locs, cells, slots⟩ (Value.ref b :: argsL).toArray q B ∧
      Steps p.tables e below (T.setTop g) ((B.U.setTop { g with stack := rest }).pushFrame (.throwing q))) := by
  obtain ⟨mk, methM, hnamed, hmethM, hstM, habM⟩ := Cond.instanceMethod_spec hinst
  obtain ⟨methM', cM, hmethM', -, -, -, -, -, -, hsigM⟩ := Cond.code_spec hnamed hcode
  cases hmethM.symm.trans hmethM'
  obtain ⟨c2, r2, m2, q1, q2, q3, q4, kP, hkP, hkPi⟩ := Cond.selects_spec hsel
  cases hcls.symm.trans q1
  cases (State.methodFound?_of_named hnamed hy).symm.trans q2
  cases hnamed.symm.trans q3
  have hselP : selectMethod e.platform s.vm cellB.cls mk = .method mk := by rw [Launch.admits_selectMethod X.admits]; exact q4
  obtain ⟨vm₁, X₁, hstep₁⟩ := X.invokevirtual hexec hown hlink hnamed hmethM hstM hkP hkPi hy (a := b) (cell := cellB) hcell
    (fun z h => by rw [h] at hobj; cases hobj) hselP hmethM habM hkP hkPi (g := g) hg (argsL := argsL) (rest := rest) (hlen _ hsigM) hstack hdg
  rcases hK m meth c ⟨T.setVm vm₁, locs, cells, slots⟩ { g with stack := rest } (.invokevirtual index) mk (Value.ref b :: argsL).toArray X₁ hg hsize hdg hW (X₁.named hnamed) (hpre vm₁ X₁.warmed) with ⟨v, B, X', hpost, hsteps⟩ | ⟨q, B, X', hpost, hsteps⟩
  · exact Or.inl ⟨v, vm₁, B, X₁.warmed, X', hpost, fun target h => hstep₁ _ fun acts => by rw [doInvoke_state]; exact hsteps.trans h⟩
  · exact Or.inr ⟨q, vm₁, B, X₁.warmed, X', hpost, hstep₁ _ fun acts => by rw [doInvoke_state]; exact hsteps⟩
theorem vx_callS (X : Stand p l e R s m args below meth c T locs cells slots) (hexec : p.tables.exec = Jvm.exec) {own : String} {index : Nat} {y : MethodName} {bytes : ByteArray} {maxL : Nat} {ret : Option FieldType}
    (hown : s.vm.findClass own = some m.cls) (hlink : (Cond.methodLink own index y).before args s = true) (hstat : (Cond.static y).before args s = true) (hinit : (Cond.initialized y.cls).before args s = true)
    (hcode : (Cond.code y bytes maxL ret).before args s = true) (hy : y.cls ≠ "java/lang/invoke/MethodHandle" ∧ y.cls ≠ "java/lang/invoke/VarHandle")
    {W9 : Nat} {Pre : Pt → Array Value → Prop} {Post : Pt → Array Value → Option Value → Pt → Prop} {PostX : Pt → Array Value → Addr → Pt → Prop} (hK : vx_Back l R p e below s args y 3 W9 Pre Post PostX)
    {g : JFrame} (hg : g.method = m) (hsize : g.locals.size = c.maxLocals) {argsL rest : List Value} (hlen : ∀ sig, parseMethodDescriptor y.desc = some sig → argsL.length = sig.parameters.length)
    (hstack : g.stack = argsL.reverse ++ rest) (hW : 2 * g.monitorRoom + (rest.map fun v => v.category).sum ≤ W9) (hdg : decode c.code g.pc = .ok (.invokestatic index, 3))
    (hpre : ∀ vm₁, s.WarmedH vm₁ → Pre ⟨T.setVm vm₁, locs, cells, slots⟩ argsL.toArray) :
    (∃ (v : Option Value) (vm₁ : Vm) (B : Pt), s.WarmedH vm₁ ∧ Stand p l e R s m args below meth c B.U B.locs B.cells B.slots ∧ Post ⟨T.setVm vm₁, locs, cells, slots⟩ argsL.toArray v B ∧
      ∀ target, Steps p.tables e below (B.U.setTop { g with pc := g.pc + 3, stack := v.toList ++ rest }) target → Steps p.tables e below (T.setTop g) target) ∨
    (∃ (q : Addr) (vm₁ : Vm) (B : Pt), s.WarmedH vm₁ ∧ Stand p l e R s m args below meth c B.U B.locs B.cells B.slots ∧ PostX ⟨T.setVm vm₁, locs, cells, slots⟩ argsL.toArray q B ∧
      Steps p.tables e below (T.setTop g) ((B.U.setTop { g with stack := rest }).pushFrame (.throwing q))) := by
  obtain ⟨mk, hnamed⟩ := Cond.code_named hcode
  obtain ⟨methM, cM, hmethM, -, -, -, -, -, -, hsigM⟩ := Cond.code_spec hnamed hcode
  have hstatic : methM.isStatic = true := Cond.static_spec hnamed hmethM hstat
  obtain ⟨kP, hkP, -⟩ := className_of_methodNamed hnamed
  have hinitP : kP.init = .initialized := Cond.initialized_spec (findClass_of_methodNamed hnamed) hkP hinit
  obtain ⟨vm₁, X₁, hstep₁⟩ := X.invokestatic hexec hown hlink hnamed hmethM hstatic hkP hinitP hy (g := g) hg (argsL := argsL) (rest := rest) (hlen _ hsigM) hstack hdg
  rcases hK m meth c ⟨T.setVm vm₁, locs, cells, slots⟩ { g with stack := rest } (.invokestatic index) mk argsL.toArray X₁ hg hsize hdg hW (X₁.named hnamed) (hpre vm₁ X₁.warmed) with ⟨v, B, X', hpost, hsteps⟩ | ⟨q, B, X', hpost, hsteps⟩
  · exact Or.inl ⟨v, vm₁, B, X₁.warmed, X', hpost, fun target h => hstep₁ _ fun acts => by rw [doInvoke_state]; exact hsteps.trans h⟩
  · exact Or.inr ⟨q, vm₁, B, X₁.warmed, X', hpost, hstep₁ _ fun acts => by rw [doInvoke_state]; exact hsteps⟩
end Calls
theorem vx_cls {s : State} {T : State} {vm₁ : Vm} {E : String} {k : ClassId} (hW : s.WarmedH vm₁) (h : (T.setVm vm₁).vm.findClass E = some k) : s.vm.findClass E = some k := by
  have h1 : vm₁.findClass E = some k := h
  rw [hW.alike.findClass] at h1
  exact h1
/-- the method's frame g, with q thrown over it -/
def vx_W (p : Program) (l : Launch) (e : Env) (R : Room) (s : State) (m : MethodId) (args : Array Value) (below : List Frame) (meth : Method) (c : Code) (H : Heap) (locs : List Loc) (cells slots : Nat) (Q : State → Prop) (g : JFrame) (q : Addr) : Prop :=
  ∀ T : State, T.heap = H → Stand p l e R s m args below meth c T locs cells slots → ∃ t, Steps p.tables e below ((T.setTop g).pushFrame (.throwing q)) t ∧ Q t
def vx_Run (p : Program) (l : Launch) (e : Env) (R : Room) (s : State) (m : MethodId) (args : Array Value) (below : List Frame) (meth : Method) (c : Code) (H : Heap) (locs : List Loc) (cells slots mc ms : Nat) (g : JFrame) (rest : List Value) (Qa : State → Outcome → State → Prop) (XC : String → State → State → Prop) (free : Addr → Prop) : Prop :=
  ∀ T : State, T.heap = H → Stand p l e R s m args below meth c T locs cells slots →
    (∃ (v : Option Value) (st₀ t T' : State) (L : List Loc), st₀.heap = H ∧ Stand p l e R s m args below meth c T' (locs ++ L) (cells + mc) (slots + ms) ∧ (∀ q ∈ L, free q.base) ∧ T'.heap = t.heap ∧ T'.vm = t.vm ∧ Qa st₀ (.returned v) t ∧
      Goes p e below T g T' { g with pc := g.pc + 3, stack := v.toList ++ rest }) ∨
    (∃ (q : Addr) (st₀ t T' : State) (L : List Loc) (E : String) (ce : Cell), st₀.heap = H ∧ Stand p l e R s m args below meth c T' (locs ++ L) (cells + mc) (slots + ms) ∧ (∀ z ∈ L, free z.base) ∧ T'.heap = t.heap ∧ T'.vm = t.vm ∧ XC E st₀ t ∧ t.heap[q]? = some ce ∧ ce.vm = .none ∧ s.vm.findClass E = some ce.cls ∧
      Steps p.tables e below (T.setTop g) ((T'.setTop { g with stack := rest }).pushFrame (.throwing q)))
def vx_X {S : Type} (px : S → Prop) (B : String → S → State → Prop) (A : Nat → Prop) : String → State → State → Prop := fun E st t => ∃ u : S, px u ∧ B E u t ∧ va_F A st t
section Runs
variable {p : Program} {l : Launch} {e : Env} {R : Room} {s : State} {m : MethodId} {args : Array Value} {below : List Frame} {meth : Method} {c : Code} {H : Heap} {locs : List Loc} {cells slots : Nat}
variable {y : MethodName} {bytes cc : ByteArray} {maxL nL mc ms n index : Nat} {ret : Option FieldType} {ws : List Cond} {rm : Room} {Pc : Array Value → State → Prop} {Qc : Array Value → State → Outcome → State → Prop} {XC : String → State → State → Prop} {free : Addr → Prop} {Ts : List Cond} {own C : String} {b : Addr} {As rest : List Value} {g : JFrame}
theorem vx_callBack (cb : CallB R s args own index y bytes maxL ret ws rm mc ms n) (hM : vx_Met l y ws rm Pc Qc XC mc ms free) (hbl : FrameBlind Pc) : vx_Back l R p e below s args y 3 8 (PreOf R mc ms Pc) (PostOf Qc mc ms free) (vx_Post XC mc ms free) := by
  obtain ⟨hrc, hrs, hfr, hlo, hws, hcw, -, hini, -⟩ := cb
  exact vx_back (bytes := bytes) (maxL := maxL) (ret := ret) hM hbl hrc hrs hfr hlo hws hcw (fun a' U hW => word_at hW (Or.inl (by first | rfl | simp [Cond.onTables, Cond.keeps, Cond.steady])) hini)
theorem vx_runV (S : CallFix p m c cc nL s args Ts own) (hM : vx_Met l y ws rm Pc Qc XC mc ms free) (cw : CallW R s args own C index y bytes maxL ret ws rm mc ms n) (hp : PreV s H C b Pc As)
    (hg : g.method = m) (hn : As.length = n) (hsize : g.locals.size = nL) (hstack : g.stack = As.reverse ++ .ref b :: rest) (hW : 2 * g.monitorRoom + (rest.map fun v => v.category).sum ≤ 8) (hdg : decode cc g.pc = .ok (.invokevirtual index, 3)) (hf : cells + mc ≤ R.cells ∧ slots + ms ≤ R.slots) :
    vx_Run p l e R s m args below meth c H locs cells slots mc ms g rest (Qc (Value.ref b :: As).toArray) XC free := by
  have hK : vx_Back l R p e below s args y 3 8 (PreOf R mc ms Pc) (PostOf Qc mc ms free) (vx_Post XC mc ms free) := vx_callBack cw.1 hM hp.1
  obtain ⟨⟨-, -, -, -, -, -, hcode, -, hy, hlen, hl⟩, hin, hse⟩ := cw
  obtain ⟨hx, hb, hml, ho, -⟩ := S
  obtain ⟨-, ⟨cellB, hcB, hoB, hclB⟩, hPc⟩ := hp
  intro T hT X
  rcases vx_callV X hx (C := C) (bytes := bytes) (maxL := maxL) (ret := ret) ho hl hin hse hcode hy hK (by rw [hT]; exact hcB) hoB hclB hg (hsize.trans hml.symm) (argsL := As) (rest := rest) (fun sig h => hn.trans (hlen sig h)) hstack hW (by rw [hb]; exact hdg)
    (fun vm₁ hW₁ => ⟨hf.1, hf.2, hPc (T.setVm vm₁) hT hW₁⟩) with ⟨v, vm₁, ⟨U', l2, c2, s2⟩, hW₁, X', ⟨g', mk, t, L, e1, e2, hq, h1, hL, h2, h3⟩, st⟩ | ⟨q, vm₁, ⟨U', l2, c2, s2⟩, hW₁, X', ⟨g', mk, t, L, E, ce, e1, e2, hq, hce, hcv, hcl, h1, hL, h2, h3⟩, st⟩
  · dsimp only [Pt.U, Pt.locs, Pt.cells, Pt.slots] at X' e1 e2 h1 h2 h3 st
    subst h1; subst h2; subst h3
    exact Or.inl ⟨v, (T.setVm vm₁).calling g' mk (Value.ref b :: As).toArray, t, U', L, hT, X', hL, e1, e2, hq, st⟩
  · dsimp only [Pt.U, Pt.locs, Pt.cells, Pt.slots] at X' e1 e2 h1 h2 h3 st hcl
    subst h1; subst h2; subst h3
    exact Or.inr ⟨q, (T.setVm vm₁).calling g' mk (Value.ref b :: As).toArray, t, U', L, E, ce, hT, X', hL, e1, e2, hq, hce, hcv, vx_cls hW₁ hcl, st⟩
theorem vx_runS (S : CallFix p m c cc nL s args Ts own) (hM : vx_Met l y ws rm Pc Qc XC mc ms free) (cw : CallB R s args own index y bytes maxL ret ws rm mc ms n ∧ (Cond.static y).before args s = true) (hp : PreS s H Pc As)
    (hg : g.method = m) (hn : As.length = n) (hsize : g.locals.size = nL) (hstack : g.stack = As.reverse ++ rest) (hW : 2 * g.monitorRoom + (rest.map fun v => v.category).sum ≤ 8) (hdg : decode cc g.pc = .ok (.invokestatic index, 3)) (hf : cells + mc ≤ R.cells ∧ slots + ms ≤ R.slots) :
    vx_Run p l e R s m args below meth c H locs cells slots mc ms g rest (Qc As.toArray) XC free := by
  have hK : vx_Back l R p e below s args y 3 8 (PreOf R mc ms Pc) (PostOf Qc mc ms free) (vx_Post XC mc ms free) := vx_callBack cw.1 hM hp.1
  obtain ⟨⟨-, -, -, -, -, -, hcode, hini, hy, hlen, hl⟩, hstt⟩ := cw
  obtain ⟨hx, hb, hml, ho, -⟩ := S
  intro T hT X
  rcases vx_callS X hx (bytes := bytes) (maxL := maxL) (ret := ret) ho hl hstt hini hcode hy hK hg (hsize.trans hml.symm) (argsL := As) (rest := rest) (fun sig h => hn.trans (hlen sig h)) hstack hW (by rw [hb]; exact hdg)
    (fun vm₁ hW₁ => ⟨hf.1, hf.2, hp.2 (T.setVm vm₁) hT hW₁⟩) with ⟨v, vm₁, ⟨U', l2, c2, s2⟩, hW₁, X', ⟨g', mk, t, L, e1, e2, hq, h1, hL, h2, h3⟩, st⟩ | ⟨q, vm₁, ⟨U', l2, c2, s2⟩, hW₁, X', ⟨g', mk, t, L, E, ce, e1, e2, hq, hce, hcv, hcl, h1, hL, h2, h3⟩, st⟩
  · dsimp only [Pt.U, Pt.locs, Pt.cells, Pt.slots] at X' e1 e2 h1 h2 h3 st
    subst h1; subst h2; subst h3
    exact Or.inl ⟨v, (T.setVm vm₁).calling g' mk As.toArray, t, U', L, hT, X', hL, e1, e2, hq, st⟩
  · dsimp only [Pt.U, Pt.locs, Pt.cells, Pt.slots] at X' e1 e2 h1 h2 h3 st hcl
    subst h1; subst h2; subst h3
    exact Or.inr ⟨q, (T.setVm vm₁).calling g' mk As.toArray, t, U', L, E, ce, hT, X', hL, e1, e2, hq, hce, hcv, vx_cls hW₁ hcl, st⟩
end Runs
section Rows
variable {p : Program} {l : Launch} {e : Env} {R : Room} {s : State} {m : MethodId} {args : Array Value} {below : List Frame} {meth : Method} {c : Code} {H : Heap} {locs : List Loc} {cells slots : Nat} {Q : State → Prop}
variable {mc ms : Nat} {free : Addr → Prop} {A0 A1 : Nat → Prop} {H0 : Heap} {a : Array Value} {pc : Nat} {ls : Array Slot} {st0 rest : List Value}
theorem vx_keep {st₀ t T' : State} {L : List Loc} (h0 : st₀.heap = H) (e1 : T'.heap = t.heap) (hS : va_S A0 H0 H locs) (hA : ∀ q, q < H.size → A1 q → A0 q) (hf : ∀ q, free q → A0 q) (hL : ∀ q ∈ L, free q.base) (hF : va_F A1 st₀ t) :
    H.size ≤ T'.heap.size ∧ (∀ q : Nat, q < H.size → ¬ A1 q → T'.heap[q]? = H[q]?) ∧ va_S A0 H0 T'.heap (locs ++ L) := by
  obtain ⟨hz, hk⟩ := hF
  rw [h0] at hz hk
  exact ⟨by rw [e1]; exact hz, fun q h1 h2 => by rw [e1]; exact hk q h1 h2,
    ⟨Nat.le_trans hS.1 (by rw [e1]; exact hz), fun q h1 h2 => by rw [e1, hk q (Nat.lt_of_lt_of_le h1 hS.1) (fun z => h2 (hA q (Nat.lt_of_lt_of_le h1 hS.1) z))]; exact hS.2.1 q h1 h2, fun q hq => by
      rcases List.mem_append.mp hq with h | h
      · exact hS.2.2 q h
      · exact hf _ (hL q h)⟩⟩
theorem vx_calli {S SX : Type} {post : Int32 → S → Prop} {px : SX → Prop} {B : S → State → Prop} {BX : String → SX → State → Prop} {AX : Nat → Prop} (hr : vx_Run p l e R s m args below meth c H locs cells slots mc ms (F0 m pc ls st0) rest (va_Qi post B A1 a) (vx_X px BX AX) free) (hS : va_S A0 H0 H locs) (hA : ∀ q, q < H.size → A1 q → A0 q) (hf : ∀ q, free q → A0 q) (hAX : ∀ q, q < H.size → AX q → A0 q)
    (kx : ∀ (E : String) (ce : Cell) (q9 : Addr) (u : SX) (t : State) (H1 : Heap) (locs1 : List Loc), t.heap = H1 → s.vm.Alike t.vm → px u → BX E u t → H.size ≤ H1.size → (∀ q : Nat, q < H.size → ¬ AX q → H1[q]? = H[q]?) → va_S A0 H0 H1 locs1 → H1[q9]? = some ce → ce.vm = .none → s.vm.findClass E = some ce.cls → vx_W p l e R s m args below meth c H1 locs1 (cells + mc) (slots + ms) Q (F0 m pc ls rest) q9)
    (kk : ∀ (r : Int32) (u : S) (t : State) (H1 : Heap) (locs1 : List Loc), t.heap = H1 → s.vm.Alike t.vm → post r u → B u t → H.size ≤ H1.size → (∀ q : Nat, q < H.size → ¬ A1 q → H1[q]? = H[q]?) → va_S A0 H0 H1 locs1 → W p l e R s m args below meth c H1 locs1 (cells + mc) (slots + ms) Q (F0 m (pc + 3) ls (.int r :: rest))) : W p l e R s m args below meth c H locs cells slots Q (F0 m pc ls st0) := by
  intro T hT X
  rcases hr T hT X with ⟨v, st₀, t, T', L, h0, X', hL, e1, e2, ⟨⟨r, u, hv, hp, hb⟩, hF⟩, st⟩ | ⟨q, st₀, t, T', L, E, ce, h0, X', hL, e1, e2, ⟨u, hp, hb, hF⟩, hce, hcv, hcl, st⟩
  · cases hv
    obtain ⟨k1, k2, k3⟩ := vx_keep h0 e1 hS hA hf hL hF
    obtain ⟨t2, a1, b1⟩ := kk r u t T'.heap (locs ++ L) e1.symm (by rw [← e2]; exact X'.warmed.alike) hp hb k1 k2 k3 T' rfl X'
    exact ⟨t2, st t2 a1, b1⟩
  · obtain ⟨k1, k2, k3⟩ := vx_keep h0 e1 hS hAX hf hL hF
    obtain ⟨t2, a1, b1⟩ := kx E ce q u t T'.heap (locs ++ L) e1.symm (by rw [← e2]; exact X'.warmed.alike) hp hb k1 k2 k3 (by rw [e1]; exact hce) hcv hcl T' rfl X'
    exact ⟨t2, st.trans a1, b1⟩
theorem vx_calll {S SX : Type} {post : Int64 → S → Prop} {px : SX → Prop} {B : S → State → Prop} {BX : String → SX → State → Prop} {AX : Nat → Prop} (hr : vx_Run p l e R s m args below meth c H locs cells slots mc ms (F0 m pc ls st0) rest (va_Ql post B A1 a) (vx_X px BX AX) free) (hS : va_S A0 H0 H locs) (hA : ∀ q, q < H.size → A1 q → A0 q) (hf : ∀ q, free q → A0 q) (hAX : ∀ q, q < H.size → AX q → A0 q)
    (kx : ∀ (E : String) (ce : Cell) (q9 : Addr) (u : SX) (t : State) (H1 : Heap) (locs1 : List Loc), t.heap = H1 → s.vm.Alike t.vm → px u → BX E u t → H.size ≤ H1.size → (∀ q : Nat, q < H.size → ¬ AX q → H1[q]? = H[q]?) → va_S A0 H0 H1 locs1 → H1[q9]? = some ce → ce.vm = .none → s.vm.findClass E = some ce.cls → vx_W p l e R s m args below meth c H1 locs1 (cells + mc) (slots + ms) Q (F0 m pc ls rest) q9)
    (kk : ∀ (r : Int64) (u : S) (t : State) (H1 : Heap) (locs1 : List Loc), t.heap = H1 → s.vm.Alike t.vm → post r u → B u t → H.size ≤ H1.size → (∀ q : Nat, q < H.size → ¬ A1 q → H1[q]? = H[q]?) → va_S A0 H0 H1 locs1 → W p l e R s m args below meth c H1 locs1 (cells + mc) (slots + ms) Q (F0 m (pc + 3) ls (.long r :: rest))) : W p l e R s m args below meth c H locs cells slots Q (F0 m pc ls st0) := by
  intro T hT X
  rcases hr T hT X with ⟨v, st₀, t, T', L, h0, X', hL, e1, e2, ⟨⟨r, u, hv, hp, hb⟩, hF⟩, st⟩ | ⟨q, st₀, t, T', L, E, ce, h0, X', hL, e1, e2, ⟨u, hp, hb, hF⟩, hce, hcv, hcl, st⟩
  · cases hv
    obtain ⟨k1, k2, k3⟩ := vx_keep h0 e1 hS hA hf hL hF
    obtain ⟨t2, a1, b1⟩ := kk r u t T'.heap (locs ++ L) e1.symm (by rw [← e2]; exact X'.warmed.alike) hp hb k1 k2 k3 T' rfl X'
    exact ⟨t2, st t2 a1, b1⟩
  · obtain ⟨k1, k2, k3⟩ := vx_keep h0 e1 hS hAX hf hL hF
    obtain ⟨t2, a1, b1⟩ := kx E ce q u t T'.heap (locs ++ L) e1.symm (by rw [← e2]; exact X'.warmed.alike) hp hb k1 k2 k3 (by rw [e1]; exact hce) hcv hcl T' rfl X'
    exact ⟨t2, st.trans a1, b1⟩
theorem vx_callf {S SX : Type} {post : UInt32 → S → Prop} {px : SX → Prop} {B : S → State → Prop} {BX : String → SX → State → Prop} {AX : Nat → Prop} (hr : vx_Run p l e R s m args below meth c H locs cells slots mc ms (F0 m pc ls st0) rest (va_Qf post B A1 a) (vx_X px BX AX) free) (hS : va_S A0 H0 H locs) (hA : ∀ q, q < H.size → A1 q → A0 q) (hf : ∀ q, free q → A0 q) (hAX : ∀ q, q < H.size → AX q → A0 q)
    (kx : ∀ (E : String) (ce : Cell) (q9 : Addr) (u : SX) (t : State) (H1 : Heap) (locs1 : List Loc), t.heap = H1 → s.vm.Alike t.vm → px u → BX E u t → H.size ≤ H1.size → (∀ q : Nat, q < H.size → ¬ AX q → H1[q]? = H[q]?) → va_S A0 H0 H1 locs1 → H1[q9]? = some ce → ce.vm = .none → s.vm.findClass E = some ce.cls → vx_W p l e R s m args below meth c H1 locs1 (cells + mc) (slots + ms) Q (F0 m pc ls rest) q9)
    (kk : ∀ (r : UInt32) (u : S) (t : State) (H1 : Heap) (locs1 : List Loc), t.heap = H1 → s.vm.Alike t.vm → post r u → B u t → H.size ≤ H1.size → (∀ q : Nat, q < H.size → ¬ A1 q → H1[q]? = H[q]?) → va_S A0 H0 H1 locs1 → W p l e R s m args below meth c H1 locs1 (cells + mc) (slots + ms) Q (F0 m (pc + 3) ls (.float r :: rest))) : W p l e R s m args below meth c H locs cells slots Q (F0 m pc ls st0) := by
  intro T hT X
  rcases hr T hT X with ⟨v, st₀, t, T', L, h0, X', hL, e1, e2, ⟨⟨r, u, hv, hp, hb⟩, hF⟩, st⟩ | ⟨q, st₀, t, T', L, E, ce, h0, X', hL, e1, e2, ⟨u, hp, hb, hF⟩, hce, hcv, hcl, st⟩
  · cases hv
    obtain ⟨k1, k2, k3⟩ := vx_keep h0 e1 hS hA hf hL hF
    obtain ⟨t2, a1, b1⟩ := kk r u t T'.heap (locs ++ L) e1.symm (by rw [← e2]; exact X'.warmed.alike) hp hb k1 k2 k3 T' rfl X'
    exact ⟨t2, st t2 a1, b1⟩
  · obtain ⟨k1, k2, k3⟩ := vx_keep h0 e1 hS hAX hf hL hF
    obtain ⟨t2, a1, b1⟩ := kx E ce q u t T'.heap (locs ++ L) e1.symm (by rw [← e2]; exact X'.warmed.alike) hp hb k1 k2 k3 (by rw [e1]; exact hce) hcv hcl T' rfl X'
    exact ⟨t2, st.trans a1, b1⟩
theorem vx_calld {S SX : Type} {post : UInt64 → S → Prop} {px : SX → Prop} {B : S → State → Prop} {BX : String → SX → State → Prop} {AX : Nat → Prop} (hr : vx_Run p l e R s m args below meth c H locs cells slots mc ms (F0 m pc ls st0) rest (va_Qd post B A1 a) (vx_X px BX AX) free) (hS : va_S A0 H0 H locs) (hA : ∀ q, q < H.size → A1 q → A0 q) (hf : ∀ q, free q → A0 q) (hAX : ∀ q, q < H.size → AX q → A0 q)
    (kx : ∀ (E : String) (ce : Cell) (q9 : Addr) (u : SX) (t : State) (H1 : Heap) (locs1 : List Loc), t.heap = H1 → s.vm.Alike t.vm → px u → BX E u t → H.size ≤ H1.size → (∀ q : Nat, q < H.size → ¬ AX q → H1[q]? = H[q]?) → va_S A0 H0 H1 locs1 → H1[q9]? = some ce → ce.vm = .none → s.vm.findClass E = some ce.cls → vx_W p l e R s m args below meth c H1 locs1 (cells + mc) (slots + ms) Q (F0 m pc ls rest) q9)
    (kk : ∀ (r : UInt64) (u : S) (t : State) (H1 : Heap) (locs1 : List Loc), t.heap = H1 → s.vm.Alike t.vm → post r u → B u t → H.size ≤ H1.size → (∀ q : Nat, q < H.size → ¬ A1 q → H1[q]? = H[q]?) → va_S A0 H0 H1 locs1 → W p l e R s m args below meth c H1 locs1 (cells + mc) (slots + ms) Q (F0 m (pc + 3) ls (.double r :: rest))) : W p l e R s m args below meth c H locs cells slots Q (F0 m pc ls st0) := by
  intro T hT X
  rcases hr T hT X with ⟨v, st₀, t, T', L, h0, X', hL, e1, e2, ⟨⟨r, u, hv, hp, hb⟩, hF⟩, st⟩ | ⟨q, st₀, t, T', L, E, ce, h0, X', hL, e1, e2, ⟨u, hp, hb, hF⟩, hce, hcv, hcl, st⟩
  · cases hv
    obtain ⟨k1, k2, k3⟩ := vx_keep h0 e1 hS hA hf hL hF
    obtain ⟨t2, a1, b1⟩ := kk r u t T'.heap (locs ++ L) e1.symm (by rw [← e2]; exact X'.warmed.alike) hp hb k1 k2 k3 T' rfl X'
    exact ⟨t2, st t2 a1, b1⟩
  · obtain ⟨k1, k2, k3⟩ := vx_keep h0 e1 hS hAX hf hL hF
    obtain ⟨t2, a1, b1⟩ := kx E ce q u t T'.heap (locs ++ L) e1.symm (by rw [← e2]; exact X'.warmed.alike) hp hb k1 k2 k3 (by rw [e1]; exact hce) hcv hcl T' rfl X'
    exact ⟨t2, st.trans a1, b1⟩
theorem vx_callv {S SX : Type} {post : S → Prop} {px : SX → Prop} {B : S → State → Prop} {BX : String → SX → State → Prop} {AX : Nat → Prop} (hr : vx_Run p l e R s m args below meth c H locs cells slots mc ms (F0 m pc ls st0) rest (va_Qv post B A1 a) (vx_X px BX AX) free) (hS : va_S A0 H0 H locs) (hA : ∀ q, q < H.size → A1 q → A0 q) (hf : ∀ q, free q → A0 q) (hAX : ∀ q, q < H.size → AX q → A0 q)
    (kx : ∀ (E : String) (ce : Cell) (q9 : Addr) (u : SX) (t : State) (H1 : Heap) (locs1 : List Loc), t.heap = H1 → s.vm.Alike t.vm → px u → BX E u t → H.size ≤ H1.size → (∀ q : Nat, q < H.size → ¬ AX q → H1[q]? = H[q]?) → va_S A0 H0 H1 locs1 → H1[q9]? = some ce → ce.vm = .none → s.vm.findClass E = some ce.cls → vx_W p l e R s m args below meth c H1 locs1 (cells + mc) (slots + ms) Q (F0 m pc ls rest) q9)
    (kk : ∀ (u : S) (t : State) (H1 : Heap) (locs1 : List Loc), t.heap = H1 → s.vm.Alike t.vm → post u → B u t → H.size ≤ H1.size → (∀ q : Nat, q < H.size → ¬ A1 q → H1[q]? = H[q]?) → va_S A0 H0 H1 locs1 → W p l e R s m args below meth c H1 locs1 (cells + mc) (slots + ms) Q (F0 m (pc + 3) ls (rest))) : W p l e R s m args below meth c H locs cells slots Q (F0 m pc ls st0) := by
  intro T hT X
  rcases hr T hT X with ⟨v, st₀, t, T', L, h0, X', hL, e1, e2, ⟨⟨u, hv, hp, hb⟩, hF⟩, st⟩ | ⟨q, st₀, t, T', L, E, ce, h0, X', hL, e1, e2, ⟨u, hp, hb, hF⟩, hce, hcv, hcl, st⟩
  · cases hv
    obtain ⟨k1, k2, k3⟩ := vx_keep h0 e1 hS hA hf hL hF
    obtain ⟨t2, a1, b1⟩ := kk u t T'.heap (locs ++ L) e1.symm (by rw [← e2]; exact X'.warmed.alike) hp hb k1 k2 k3 T' rfl X'
    exact ⟨t2, st t2 a1, b1⟩
  · obtain ⟨k1, k2, k3⟩ := vx_keep h0 e1 hS hAX hf hL hF
    obtain ⟨t2, a1, b1⟩ := kx E ce q u t T'.heap (locs ++ L) e1.symm (by rw [← e2]; exact X'.warmed.alike) hp hb k1 k2 k3 (by rw [e1]; exact hce) hcv hcl T' rfl X'
    exact ⟨t2, st.trans a1, b1⟩
/-- caught by the row x of this method's table; the rows ahead don't take it -/
theorem vx_catch {own name : String} {E : String} {ce : Cell} {q : Addr} (hown : s.vm.findClass own = some m.cls) (pre : List ExceptionTableEntry) (x : ExceptionTableEntry) (suf : List ExceptionTableEntry) (hsplit : c.exceptionTable.toList = pre ++ x :: suf)
    (hpass : ∀ z ∈ pre, covers z pc = false ∨ (z.catchType ≠ 0 ∧ ∃ nm : String, (Cond.classLink own z.catchType nm).before args s = true ∧ va_Nc E nm s)) (hx : covers x pc = true) (h0 : x.catchType ≠ 0)
    (hlink : (Cond.classLink own x.catchType name).before args s = true) (hcast : (Cond.castable E name).before args s = true) (hcell : H[q]? = some ce) (hv : ce.vm = .none) (hcl : s.vm.findClass E = some ce.cls)
    (kk : W p l e R s m args below meth c H locs cells slots Q (F0 m x.handlerPc ls [.ref q])) : vx_W p l e R s m args below meth c H locs cells slots Q (F0 m pc ls rest) q := by
  intro T hT X
  have hpl : e.platform.magicAccessors = ({} : Platform).magicAccessors := by rw [X.admits.platform]
  obtain ⟨c3, c4, hc3, hc4, hasg⟩ := Cond.castable_spec hcast
  cases Option.some.inj (hc3.symm.trans hcl)
  obtain ⟨c5, hc5, hcl5⟩ := Cond.classLink_spec hown hlink e.platform hpl
  cases Option.some.inj (hc4.symm.trans hc5)
  obtain ⟨vm', X', st⟩ := X.thenCaughtThrough q (g := F0 m pc ls rest) rfl (Steps.refl _) (by rw [hT]; exact hcell) (by rw [hv]; rfl) (by obtain ⟨k9, h9, -⟩ := Vm.findClass_spec hcl; exact ⟨k9, h9⟩) pre x suf hsplit
    (fun z hz => by
      rcases hpass z hz with h | ⟨hz0, nm, hl1, hn1⟩
      · exact Or.inl h
      · obtain ⟨c6, hc6, hcl6⟩ := Cond.classLink_spec hown hl1 e.platform hpl
        obtain ⟨a8, b8, h1, h2, h3⟩ := hn1
        cases Option.some.inj (h1.symm.trans hcl)
        cases Option.some.inj (h2.symm.trans hc6)
        exact Or.inr ⟨hz0, _, hcl6, h3⟩) hx (Or.inr ⟨h0, c4, hcl5, hasg⟩)
  obtain ⟨t, a1, b1⟩ := kk (T.setVm vm') hT X'
  exact ⟨t, st.trans a1, b1⟩
end Rows
section Ends
variable {p : Program} {l : Launch} {e : Env} {R : Room} {s : State} {m : MethodId} {args : Array Value} {below : List Frame} {meth : Method} {c : Code} {H : Heap} {locs : List Loc} {cells slots : Nat} {Q : State → Prop}
variable {mc ms : Nat} {free : Addr → Prop} {A0 A1 : Nat → Prop} {H0 : Heap} {a : Array Value} {ls : Array Slot} {st0 rest : List Value}
variable {Qc : Array Value → State → Outcome → State → Prop} {XC : String → State → State → Prop}
/-- what a body that may throw owes at its end -/
def vx_MQ (below : List Frame) (Qc : Array Value → State → Outcome → State → Prop) (XC : String → State → State → Prop) (a : Array Value) (s : State) (mc ms : Nat) (free : Addr → Prop) : State → Prop := fun t =>
  ∃ o, t.status = .running ∧ Ended t below o ∧ vx_Q Qc XC mc ms free a s o t
theorem vx_ret {g : JFrame} {mc ms : Nat} (k : W p l e R s m args below meth c H locs cells slots (MQ below Qc args s mc ms free) g) : W p l e R s m args below meth c H locs cells slots (vx_MQ below Qc XC args s mc ms free) g := by
  intro T hT X
  obtain ⟨t, a1, o, b1, b2, b3, b4⟩ := k T hT X
  exact ⟨t, a1, o, b1, b2, Or.inl ⟨b3, b4⟩⟩
/-- not caught here: it goes on to the caller -/
theorem vx_widen {g : JFrame} {q : Addr} {k n : Nat} (h1 : cells ≤ k) (h2 : slots ≤ n) (kk : vx_W p l e R s m args below meth c H locs k n Q g q) : vx_W p l e R s m args below meth c H locs cells slots Q g q := fun T hT X => kk T hT (stand_widen X h1 h2)
theorem vx_out {pc : Nat} {E : String} {ce : Cell} {q : Addr} {mc ms : Nat} (hout : ∀ x ∈ c.exceptionTable.toList, covers x pc = false) (hlocks : meth.locks = false) (hcell : H[q]? = some ce) (hv : ce.vm = .none) (hcl : s.vm.findClass E = some ce.cls)
    (hx : ∀ t : State, t.heap = H → s.vm.Alike t.vm → XC E s t) (hf : ∀ z ∈ locs, free z.base) (hc : cells ≤ mc) (hs : slots ≤ ms) :
    vx_W p l e R s m args below meth c H locs cells slots (vx_MQ below Qc XC args s mc ms free) (F0 m pc ls rest) q := by
  intro T hT X
  obtain ⟨st1, hrun, hend, hW, hsm⟩ := X.leaveThrown q (g := F0 m pc ls rest) rfl rfl rfl hout hlocks
  have hcell9 : (T.setFrames (.throwing q :: below)).heap[q]? = some ce := by
    show T.heap[q]? = some ce
    rw [hT]; exact hcell
  exact ⟨_, st1, .threw q, hrun, hend, Or.inr ⟨q, rfl, E, ce, locs, hx _ hT hW.alike, hcell9, hv, hcl, hW, hsm.mono hc hs, hf⟩⟩
theorem vx_frame {U : State} {k n : Nat} (h : s.sameButNew ({ U with vm := s.vm } : State) locs k n) : s.heap.size ≤ U.heap.size ∧ ∀ q : Nat, q < s.heap.size → (∀ z ∈ locs, z.base ≠ q) → U.heap[q]? = s.heap[q]? := by
  obtain ⟨-, h2, -, -, -, h6⟩ := h
  refine ⟨h2, fun q hq hz => ?_⟩
  obtain ⟨c9, e1, e2, e3, e4⟩ := h6 q _ (Array.getElem?_eq_getElem hq)
  have hs : c9.slots = (s.heap[q]).slots := Array.ext_getElem? fun i => e4 i fun hm => hz _ hm rfl
  have h9 : c9 = s.heap[q] := by
    rw [hs] at e2
    exact e2
  have e5 : U.heap[q]? = some c9 := e1
  rw [e5, h9, Array.getElem?_eq_getElem hq]
/-- the words of a throw but the four that speak of the heap -/
def vx_no (w : Cond) : Bool := decide (w ≠ .isRef (.static Bundle.tN "UNASSIGNED_STACK" Bundle.steD)) && decide (w ≠ .isRef (.static Bundle.tN "SUPPRESSED_SENTINEL" Bundle.listD)) && decide (w ≠ .laysStatic Bundle.tN "UNASSIGNED_STACK" Bundle.steD) && decide (w ≠ .laysStatic Bundle.tN "SUPPRESSED_SENTINEL" Bundle.listD)
def vx_at0 (own : String) (ic : Nat) (X : String) (names : List String) : List Cond := (Bundle.ownAtoms0 own ic X names).filter vx_no
def vx_atS (own : String) (ic : Nat) (X : String) (names : List String) : List Cond := (Bundle.ownAtoms own ic X names).filter vx_no
/-- a word that the tables alone decide, or a good one -/
def vx_ot (w : Cond) : Bool := w.onTables || goodWord w
theorem vx_ot_at {args a' : Array Value} {s U : State} {w : Cond} (hW : s.WarmedH U.vm) (hvm : s.vm = U.vm) (hg : vx_ot w = true) (h : w.before args s = true) : w.before a' U = true := by
  simp only [vx_ot, Bool.or_eq_true] at hg
  rcases hg with hg | hg
  · exact va_tabs hg hvm h
  · exact word_at hW (good_of_word hg) h
/-- a list's words: the good ones out of the method's own list, the others by premises of their own -/
theorem vx_hat {args : Array Value} {s : State} {L B : List Cond} (h1 : ∀ w ∈ L.filter goodWord, w.before args s = true) (h2 : ∀ w ∈ L.filter (fun w => !goodWord w), w ∈ B) (h3 : ∀ w ∈ B, w.before args s = true) : ∀ w ∈ L, w.before args s = true := by
  intro w hw
  by_cases g : goodWord w = true
  · exact h1 w (List.mem_filter.mpr ⟨hw, g⟩)
  · refine h3 w (h2 w (List.mem_filter.mpr ⟨hw, ?_⟩))
    show (!goodWord w) = true
    cases hgw : goodWord w
    · rfl
    · exact absurd hgw g
theorem vx_c {args : Array Value} {s : State} {w : Cond} {B : List Cond} (h : w.before args s = true) (t : ∀ w ∈ B, w.before args s = true) : ∀ w' ∈ w :: B, w'.before args s = true := fun w' h' => (List.mem_cons.mp h').elim (fun e => by rw [e]; exact h) (t w')
theorem vx_n {args : Array Value} {s : State} : ∀ w ∈ ([] : List Cond), w.before args s = true := fun _ h => nomatch h
theorem vx_own {args : Array Value} {s : State} {L : List Cond} (h1 : ∀ w ∈ L.filter vx_no, w.before args s = true)
    (hU : (Cond.isRef (.static Bundle.tN "UNASSIGNED_STACK" Bundle.steD)).before args s = true) (hN : (Cond.isRef (.static Bundle.tN "SUPPRESSED_SENTINEL" Bundle.listD)).before args s = true)
    (lU : (Cond.laysStatic Bundle.tN "UNASSIGNED_STACK" Bundle.steD).before args s = true) (lN : (Cond.laysStatic Bundle.tN "SUPPRESSED_SENTINEL" Bundle.listD).before args s = true) : ∀ w ∈ L, w.before args s = true := by
  intro w hw
  by_cases e1 : w = .isRef (.static Bundle.tN "UNASSIGNED_STACK" Bundle.steD)
  · rw [e1]; exact hU
  · by_cases e2 : w = .isRef (.static Bundle.tN "SUPPRESSED_SENTINEL" Bundle.listD)
    · rw [e2]; exact hN
    · by_cases e3 : w = .laysStatic Bundle.tN "UNASSIGNED_STACK" Bundle.steD
      · rw [e3]; exact lU
      · by_cases e4 : w = .laysStatic Bundle.tN "SUPPRESSED_SENTINEL" Bundle.listD
        · rw [e4]; exact lN
        · exact h1 w (List.mem_filter.mpr ⟨hw, by unfold vx_no; rw [decide_eq_true e1, decide_eq_true e2, decide_eq_true e3, decide_eq_true e4]; rfl⟩)
/-- where a static field lies, its class's statics cell in H -/
def vx_L (C n d : String) (A : Nat → Prop) (U : State) (H : Heap) : Prop := ∃ (c : ClassId) (k : Class) (i : Nat) (f : Field) (a : Nat) (cell : Cell), U.vm.findClass C = some c ∧ U.fieldFound? C n d = some (c, k, i, f) ∧ f.isStatic = true ∧ k.statics = some a ∧ H[a]? = some cell ∧ cell.vm.isStatics = true ∧ cell.cls = c ∧ f.slot < cell.slots.size ∧ k.staticTypes[f.slot]? = some f.type ∧ ¬ A a
theorem vx_L.moved {C n d : String} {A : Nat → Prop} {u U : State} {H : Heap} (hvm : u.vm.Alike U.vm) (h : vx_L C n d A u H) : vx_L C n d A U H := by
  obtain ⟨c, k, i, f, a, cell, h1, h2, h3, h4, h5, h6, h7, h8, h9, h10⟩ := h
  obtain ⟨k', hi', he⟩ := State.fieldFound?_setVm hvm h2
  exact ⟨c, k', i, f, a, cell, by rw [hvm.findClass]; exact h1, hi', h3, by rw [he]; exact h4, h5, h6, h7, h8, by rw [he]; exact h9, h10⟩
theorem vx_L.kept {C n d : String} {A : Nat → Prop} {U : State} {H H1 : Heap} (h : vx_L C n d A U H) (hq : ∀ a : Nat, a < H.size → ¬ A a → H1[a]? = H[a]?) : vx_L C n d A U H1 := by
  obtain ⟨c, k, i, f, a, cell, h1, h2, h3, h4, h5, h6, h7, h8, h9, h10⟩ := h
  exact ⟨c, k, i, f, a, cell, h1, h2, h3, h4, by rw [hq a (Array.getElem?_eq_some_iff.mp h5).1 h10]; exact h5, h6, h7, h8, h9, h10⟩
theorem vx_L.narrow {C n d : String} {A B : Nat → Prop} {U : State} {H : Heap} (h : vx_L C n d A U H) (hAB : ∀ q, B q → A q) : vx_L C n d B U H := by
  obtain ⟨c, k, i, f, a, cell, h1, h2, h3, h4, h5, h6, h7, h8, h9, h10⟩ := h
  exact ⟨c, k, i, f, a, cell, h1, h2, h3, h4, h5, h6, h7, h8, h9, fun z => h10 (hAB _ z)⟩
theorem vx_L.word {C n d : String} {A : Nat → Prop} {s : State} {args : Array Value} (h : vx_L C n d A s s.heap) : (Cond.laysStatic C n d).before args s = true := by
  obtain ⟨c, k, i, f, a, cell, h1, h2, h3, h4, h5, h6, h7, h8, h9, -⟩ := h
  show (Cond.laysStatic C n d).holds args s none s [] = true
  exact Cond.laysStatic_of h1 h2 h3 h4 h5 h6 h7 h8 h9
/-- .. and what it holds: null or some reference -/
def vx_Zq (C n d : String) (A : Nat → Prop) (U : State) (H : Heap) : Prop := va_Zq C n d A U H ∧ vx_L C n d A U H
theorem vx_Zq.moved {C n d : String} {A : Nat → Prop} {u U : State} {H : Heap} (hvm : u.vm.Alike U.vm) (h : vx_Zq C n d A u H) : vx_Zq C n d A U H := ⟨va_Zq.moved hvm h.1, vx_L.moved hvm h.2⟩
theorem vx_Zq.kept {C n d : String} {A : Nat → Prop} {U : State} {H H1 : Heap} (h : vx_Zq C n d A U H) (hq : ∀ a : Nat, a < H.size → ¬ A a → H1[a]? = H[a]?) : vx_Zq C n d A U H1 := ⟨va_Zq.kept h.1 hq, vx_L.kept h.2 hq⟩
theorem vx_Zq.narrow {C n d : String} {A B : Nat → Prop} {U : State} {H : Heap} (h : vx_Zq C n d A U H) (hAB : ∀ q, B q → A q) : vx_Zq C n d B U H := ⟨va_Zq.narrow h.1 hAB, vx_L.narrow h.2 hAB⟩
theorem vx_Zqof {args : Array Value} {s : State} {C n d : String} {A : Nat → Prop} (hl : (Cond.laysStatic C n d).before args s = true) (hini : (Cond.initialized C).before args s = true) (h : (Cond.isRef (.static C n d)).before args s = true) (hA : ∀ a : Nat, a < s.heap.size → ¬ A a) : vx_Zq C n d A s s.heap := by
  refine ⟨va_Zqof hl hini h hA, ?_⟩
  obtain ⟨c, k, i, f, a, cell, h1, h2, h3, h4, h5, h6, h7, h8, h9⟩ := Cond.laysStatic_spec hl
  exact ⟨c, k, i, f, a, cell, h1, h2, h3, h4, h5, h6, h7, h8, h9, hA a (Array.getElem?_eq_some_iff.mp h5).1⟩
theorem vx_isRef {C n d : String} {v : Value} {A : Nat → Prop} {s : State} {args : Array Value} (h : va_Z C n d v A s s.heap) (hv : v.isRef = true) : (Cond.isRef (.static C n d)).before args s = true := by
  obtain ⟨cf, kf, fi, f, a, cell, h1, h2, h3, h4, h5, h6, h7, -⟩ := h
  have he : (Term.static C n d).eval args s none [] s = some v := by
    simp [Term.eval, State.fieldNamed?, h1, h2, h4, h5, h6, h7]
  simp only [Cond.before, Cond.holds, Cond.value, he]
  cases v <;> simp_all [Value.isRef]
theorem vx_isRefq {C n d : String} {A : Nat → Prop} {s : State} {args : Array Value} (h : va_Zq C n d A s s.heap) : (Cond.isRef (.static C n d)).before args s = true := by
  rcases h with h | ⟨t, h⟩
  · exact vx_isRef h rfl
  · exact vx_isRef h rfl
/-- the same frame, seen from here: as if the method were called anew in this heap -/
theorem vx_rebase {T : State} (X : Stand p l e R s m args below meth c T locs cells slots) {R' : Room} (hf : R'.frames ≤ R.frames) (hl : R'.locals ≤ R.locals) (hc : cells + R'.cells ≤ R.cells) (hs : slots + R'.slots ≤ R.slots) :
    Stand p l e R' ((T.setVm s.vm).setFrames (.invoking m args :: below)) m args below meth c T [] 0 0 := by
  have htop : (T.setVm s.vm).topJava?.isSome := X.here.top
  have hF : ((T.setVm s.vm).setFrames (.invoking m args :: below)).frames = .invoking m args :: below := State.frames_setFrames _ (State.cur_lt_of_top htop)
  obtain ⟨g₀, hg0⟩ := Option.isSome_iff_exists.mp htop
  obtain ⟨r, hr⟩ := State.topJava?_eq_some.mp hg0
  have hl9 : e.platform.stackLimits (T.setVm s.vm).me = e.platform.stackLimits s.me := X.limits
  have hb9 : (T.setVm s.vm).me.stackBytes = s.me.stackBytes := X.bytes
  refine ⟨X.admits, X.cas, X.clock, hF, ?_, X.hears, X.method, X.code, X.here, X.tail, X.warmed, ?_, ?_, ?_⟩
  · have h := X.room
    have hU : ((T.setVm s.vm).setFrames (.invoking m args :: below)).localsInUse = s.localsInUse := by
      rw [State.localsInUse_invoking hF (meth := meth) (c := c) X.method X.code, State.localsInUse_invoking X.frames X.method X.code]
    simp only [State.hasRoom, Bool.and_eq_true, decide_eq_true_eq] at h ⊢
    obtain ⟨⟨⟨⟨h1, h2, h3, h4, h5, h6⟩, h7⟩, h8⟩, h9⟩ := h
    rw [X.frames, List.length_cons] at h2 h3
    have q1 := X.heapSize
    have q2 := X.used
    simp only [hF, hU, List.length_cons, State.stackLimits_setFrames, State.stackBytes_setFrames, hl9, hb9]
    refine ⟨⟨⟨⟨by omega, by omega, by omega, by omega, by omega, h6⟩, ?_⟩, ?_⟩, X.book⟩
    · show T.heap.size + R'.cells ≤ e.platform.maxCells
      omega
    · show T.slotsUsed + R'.slots ≤ e.platform.maxSlots
      omega
  · rw [State.stackLimits_setFrames]; rfl
  · rw [State.stackBytes_setFrames]; rfl
  · refine ⟨?_, Nat.le_refl _, Nat.le_refl _, ?_, ?_, fun a c9 h9 => ⟨c9, h9, rfl, rfl, fun _ _ => rfl⟩⟩
    · obtain ⟨t, ht, -⟩ := State.frames_cons hr
      show T.setVm s.vm = { ((T.setVm s.vm).setFrames (.invoking m args :: below)).setFrames (T.setVm s.vm).frames with heap := T.heap, slotsUsed := T.slotsUsed }
      rw [State.setFrames_setFrames, State.setFrames_self ht]
      rfl
    · show T.slotsUsed = T.slotsUsed + ((T.heap.toList.drop T.heap.size).map (·.slots.size)).sum
      rw [List.drop_eq_nil_of_le (Nat.le_of_eq Array.length_toList)]
      rfl
    · show ((T.heap.toList.drop T.heap.size).map (·.slots.size)).sum ≤ 0
      rw [List.drop_eq_nil_of_le (Nat.le_of_eq Array.length_toList)]
      exact Nat.le_refl _
/-- 'throw new E()': new; dup; invokespecial; athrow -/
theorem vx_throw0 {cc : ByteArray} {pc : Nat} (hexec : p.tables.exec = Jvm.exec) (hb : c.code = cc) (hl : l.stackTraces = false) {own cls : String} {names : List String} {ik ic mc ms : Nat} {A : Nat → Prop}
    (hown : s.vm.findClass own = some m.cls) (hcls : Bundle.fit cls = true) (hnames : ∀ n ∈ names, Bundle.fit n = true)
    (hk : (Cond.classLink own ik cls).before args s = true) (hini : (Cond.initialized cls).before args s = true) (hat : ∀ w ∈ vx_at0 own ic cls names, w.before args s = true)
    (hgood : ∀ w ∈ Cond.classLink own ik cls :: Cond.initialized cls :: vx_at0 own ic cls names, vx_ot w = true)
    (hU : vx_Zq Bundle.tN "UNASSIGNED_STACK" Bundle.steD A s s.heap) (hN : vx_Zq Bundle.tN "SUPPRESSED_SENTINEL" Bundle.listD A s s.heap) (hS : va_S A s.heap H locs) (hsize : ls.size = c.maxLocals)
    (d0 : decode cc pc = .ok (.new ik, 3)) (d3 : decode cc (pc + 3) = .ok (.dup, 1)) (d4 : decode cc (pc + 4) = .ok (.invokespecial ic, 3)) (d7 : decode cc (pc + 7) = .ok (.athrow, 1))
    (hout : ∀ x ∈ c.exceptionTable.toList, covers x (pc + 7) = false)
    (hRframes : names.length + 3 < R.frames) (hRlocals : (rest.map fun v => v.category).sum + (13 * (names.length + 1) + 42) ≤ R.locals) (hRcells : cells + 1 ≤ R.cells) (hRslots : slots + 6 ≤ R.slots) (hlocks : meth.locks = false)
    (hx : ∀ t : State, s.vm.Alike t.vm → H.size ≤ t.heap.size → (∀ q : Nat, q < H.size → t.heap[q]? = H[q]?) → XC cls s t)
    (hf : ∀ z ∈ locs, free z.base) (hc : cells + 1 ≤ mc) (hs : slots + 6 ≤ ms) :
    W p l e R s m args below meth c H locs cells slots (vx_MQ below Qc XC args s mc ms free) (F0 m pc ls rest) := by
  intro T hT X
  have htr : e.platform.stackTraces = false := (show e.platform.stackTraces = l.stackTraces by rw [X.admits.platform]).trans hl
  have Y := vx_rebase X (R' := { frames := R.frames, locals := R.locals, cells := 1, slots := 6 }) (Nat.le_refl _) (Nat.le_refl _) hRcells hRslots
  obtain ⟨s', hA⟩ : ∃ z, z = (T.setVm s.vm).setFrames (.invoking m args :: below) := ⟨_, rfl⟩
  rw [← hA] at Y
  have hvm : s'.vm = s.vm := by rw [hA]; rfl
  have hhp : s'.heap = H := by rw [hA]; exact hT
  have hW0 : s.WarmedH s'.vm := by rw [hvm]; exact State.WarmedH.refl s
  have hat' : ∀ w ∈ vx_at0 own ic cls names, w.before args s' = true := fun w hw => vx_ot_at hW0 hvm.symm (hgood w (List.mem_cons_of_mem _ (List.mem_cons_of_mem _ hw))) (hat w hw)
  have hk' : (Cond.classLink own ik cls).before args s' = true := vx_ot_at hW0 hvm.symm (hgood _ List.mem_cons_self) hk
  have hini' : (Cond.initialized cls).before args s' = true := vx_ot_at hW0 hvm.symm (hgood _ (List.mem_cons_of_mem _ List.mem_cons_self)) hini
  have hU' : vx_Zq Bundle.tN "UNASSIGNED_STACK" Bundle.steD A s' s'.heap := by rw [hhp]; exact vx_Zq.moved hW0.alike (hU.kept hS.2.1)
  have hN' : vx_Zq Bundle.tN "SUPPRESSED_SENTINEL" Bundle.listD A s' s'.heap := by rw [hhp]; exact vx_Zq.moved hW0.alike (hN.kept hS.2.1)
  have h : ∀ w ∈ Bundle.ownAtoms0 own ic cls names, w.before args s' = true := vx_own hat' (vx_isRefq hU'.1) (vx_isRefq hN'.1) hU'.2.word hN'.2.word
  have hown' : s'.vm.findClass own = some m.cls := by rw [hvm]; exact hown
  have hins : (Cond.instantiable cls 6).before args s' = true := h _ (by simp [Bundle.ownAtoms0])
  obtain ⟨vm₁, cX, kX, hfX, hkX, -, -, X₁, st1⟩ := Y.newCold hexec (own := own) (C := cls) (index := ik) (n := 6) hown' hk' hins hini'
    (g := F0 m pc ls rest) rfl (by rw [hb]; exact d0) (Nat.le_refl _) (Nat.le_refl _)
  generalize hT1 : (T.setVm vm₁).pushCell { cls := cX, slots := kX.instanceTypes.map defaultValue, vm := .none } = T1 at X₁ st1
  have hcat : (Value.ref T.heap.size).category = 1 := rfl
  have hcellA : T1.heap[T.heap.size]? = some (freshCell cX kX) := by rw [← hT1]; exact State.heap_pushCell_size _ _
  have d3' : decode c.code (pc + 3) = .ok (.dup, 1) := by rw [hb]; exact d3
  obtain ⟨U, hsteps, hrun, hend, hW, hsame, ce, hce, hO⟩ := X₁.ctorThrow0 hexec htr (own := own) (cls := cls) (names := names) (ic := ic) hown' hcls hnames h (fun x hx => nomatch hx) hfX hkX hcellA (by rw [hhp, hT]; exact Nat.le_refl _)
    (g := { method := m, pc := pc + 4, locals := ls, stack := .ref T.heap.size :: .ref T.heap.size :: rest, locked := none }) rfl hsize rfl rfl (rest := rest) rfl
    (by rw [hb]; exact d4) (by rw [hb]; exact d7) hout hRframes (by simp only [List.map_cons, List.sum_cons, hcat]; omega) hlocks
  obtain ⟨f1, f2⟩ := vx_frame hsame
  rw [hhp] at f1 f2
  have hWs : s.WarmedH U.vm := State.WarmedH.trans hW0 hW
  have hcl : s.vm.findClass cls = some ce.cls := by
    have h9 := hO.cls
    rw [hvm] at h9
    exact h9
  have hall : s.sameButNew ({ U with vm := s.vm } : State) locs mc ms := by
    subst hA
    obtain ⟨e1, e2⟩ := hsame
    rw [State.setFrames_setFrames] at e1
    have h2 : (T.setVm s.vm).sameButNew ({ U with vm := s.vm } : State) [] (0 + 1) (0 + 6) := ⟨e1, e2⟩
    have h3 := X.same.trans h2
    rw [List.append_nil] at h3
    exact h3.mono hc hs
  refine ⟨U, ?_, .threw T.heap.size, hrun, hend, Or.inr ⟨T.heap.size, rfl, cls, ce, locs, hx U hWs.alike f1 (fun q hq => f2 q hq (fun z hz => nomatch hz)), hce, hO.vm, hcl, hWs, hall, hf⟩⟩
  refine st1 _ ?_
  show Steps p.tables e below (T1.setTop { method := m, pc := pc + 3, locals := ls, stack := .ref T.heap.size :: rest, locked := none }) _
  jvm_step X₁.here [X₁.here.top, hexec, d3', Value.category]
  exact hsteps
/-- 'throw new E("text")': new; dup; ldc; invokespecial; athrow -/
theorem vx_throwS {cc : ByteArray} {pc : Nat} (hexec : p.tables.exec = Jvm.exec) (hb : c.code = cc) (hl : l.stackTraces = false) {own cls text : String} {names : List String} {ik is ic mc ms sa : Nat} {A : Nat → Prop}
    (hown : s.vm.findClass own = some m.cls) (hcls : Bundle.fit cls = true) (hnames : ∀ n ∈ names, Bundle.fit n = true)
    (hk : (Cond.classLink own ik cls).before args s = true) (hini : (Cond.initialized cls).before args s = true) (hstr : vk_R own is text sa s) (hat : ∀ w ∈ vx_atS own ic cls names, w.before args s = true)
    (hgood : ∀ w ∈ Cond.classLink own ik cls :: Cond.initialized cls :: vx_atS own ic cls names, vx_ot w = true)
    (hU : vx_Zq Bundle.tN "UNASSIGNED_STACK" Bundle.steD A s s.heap) (hN : vx_Zq Bundle.tN "SUPPRESSED_SENTINEL" Bundle.listD A s s.heap) (hS : va_S A s.heap H locs) (hsize : ls.size = c.maxLocals)
    (d0 : decode cc pc = .ok (.new ik, 3)) (d3 : decode cc (pc + 3) = .ok (.dup, 1)) (d4 : decode cc (pc + 4) = .ok (.ldc is, 2)) (d6 : decode cc (pc + 6) = .ok (.invokespecial ic, 3)) (d9 : decode cc (pc + 9) = .ok (.athrow, 1))
    (hout : ∀ x ∈ c.exceptionTable.toList, covers x (pc + 9) = false)
    (hRframes : names.length + 3 < R.frames) (hRlocals : (rest.map fun v => v.category).sum + (13 * (names.length + 1) + 43) ≤ R.locals) (hRcells : cells + 1 ≤ R.cells) (hRslots : slots + 6 ≤ R.slots) (hlocks : meth.locks = false)
    (hx : ∀ t : State, s.vm.Alike t.vm → H.size ≤ t.heap.size → (∀ q : Nat, q < H.size → t.heap[q]? = H[q]?) → XC cls s t)
    (hf : ∀ z ∈ locs, free z.base) (hc : cells + 1 ≤ mc) (hs : slots + 6 ≤ ms) :
    W p l e R s m args below meth c H locs cells slots (vx_MQ below Qc XC args s mc ms free) (F0 m pc ls rest) := by
  intro T hT X
  have htr : e.platform.stackTraces = false := (show e.platform.stackTraces = l.stackTraces by rw [X.admits.platform]).trans hl
  have Y := vx_rebase X (R' := { frames := R.frames, locals := R.locals, cells := 1, slots := 6 }) (Nat.le_refl _) (Nat.le_refl _) hRcells hRslots
  obtain ⟨s', hA⟩ : ∃ z, z = (T.setVm s.vm).setFrames (.invoking m args :: below) := ⟨_, rfl⟩
  rw [← hA] at Y
  have hvm : s'.vm = s.vm := by rw [hA]; rfl
  have hhp : s'.heap = H := by rw [hA]; exact hT
  have hW0 : s.WarmedH s'.vm := by rw [hvm]; exact State.WarmedH.refl s
  have hat' : ∀ w ∈ vx_atS own ic cls names, w.before args s' = true := fun w hw => vx_ot_at hW0 hvm.symm (hgood w (List.mem_cons_of_mem _ (List.mem_cons_of_mem _ hw))) (hat w hw)
  have hk' : (Cond.classLink own ik cls).before args s' = true := vx_ot_at hW0 hvm.symm (hgood _ List.mem_cons_self) hk
  have hini' : (Cond.initialized cls).before args s' = true := vx_ot_at hW0 hvm.symm (hgood _ (List.mem_cons_of_mem _ List.mem_cons_self)) hini
  have hU' : vx_Zq Bundle.tN "UNASSIGNED_STACK" Bundle.steD A s' s'.heap := by rw [hhp]; exact vx_Zq.moved hW0.alike (hU.kept hS.2.1)
  have hN' : vx_Zq Bundle.tN "SUPPRESSED_SENTINEL" Bundle.listD A s' s'.heap := by rw [hhp]; exact vx_Zq.moved hW0.alike (hN.kept hS.2.1)
  have h : ∀ w ∈ Bundle.ownAtoms own ic cls names, w.before args s' = true := vx_own hat' (vx_isRefq hU'.1) (vx_isRefq hN'.1) hU'.2.word hN'.2.word
  have hown' : s'.vm.findClass own = some m.cls := by rw [hvm]; exact hown
  have hins : (Cond.instantiable cls 6).before args s' = true := h _ (by simp [Bundle.ownAtoms])
  obtain ⟨vm₁, cX, kX, hfX, hkX, -, -, X₁, st1⟩ := Y.newCold hexec (own := own) (C := cls) (index := ik) (n := 6) hown' hk' hins hini'
    (g := F0 m pc ls rest) rfl (by rw [hb]; exact d0) (Nat.le_refl _) (Nat.le_refl _)
  generalize hT1 : (T.setVm vm₁).pushCell { cls := cX, slots := kX.instanceTypes.map defaultValue, vm := .none } = T1 at X₁ st1
  have hcat : (Value.ref T.heap.size).category = 1 := rfl
  have hcellA : T1.heap[T.heap.size]? = some (freshCell cX kX) := by rw [← hT1]; exact State.heap_pushCell_size _ _
  have d3' : decode c.code (pc + 3) = .ok (.dup, 1) := by rw [hb]; exact d3
  have d4' : decode c.code (pc + 4) = .ok (.ldc is, 2) := by rw [hb]; exact d4
  have hstr' : vk_R own is text sa s' := vk_R.warm hW0 hstr
  obtain ⟨U, hsteps, hrun, hend, hW, hsame, ce, hce, hO⟩ := X₁.ctorThrowS hexec htr (own := own) (cls := cls) (names := names) (ic := ic) hown' hcls hnames h (fun x hx => nomatch hx) hfX hkX hcellA (by rw [hhp, hT]; exact Nat.le_refl _) (msg := .ref sa) rfl
    (g := { method := m, pc := pc + 6, locals := ls, stack := .ref sa :: .ref T.heap.size :: .ref T.heap.size :: rest, locked := none }) rfl hsize rfl rfl (rest := rest) rfl
    (by rw [hb]; exact d6) (by rw [hb]; exact d9) hout hRframes (by simp only [List.map_cons, List.sum_cons, hcat]; omega) hlocks
  obtain ⟨f1, f2⟩ := vx_frame hsame
  rw [hhp] at f1 f2
  have hWs : s.WarmedH U.vm := State.WarmedH.trans hW0 hW
  have hcl : s.vm.findClass cls = some ce.cls := by
    have h9 := hO.cls
    rw [hvm] at h9
    exact h9
  have hall : s.sameButNew ({ U with vm := s.vm } : State) locs mc ms := by
    subst hA
    obtain ⟨e1, e2⟩ := hsame
    rw [State.setFrames_setFrames] at e1
    have h2 : (T.setVm s.vm).sameButNew ({ U with vm := s.vm } : State) [] (0 + 1) (0 + 6) := ⟨e1, e2⟩
    have h3 := X.same.trans h2
    rw [List.append_nil] at h3
    exact h3.mono hc hs
  refine ⟨U, ?_, .threw T.heap.size, hrun, hend, Or.inr ⟨T.heap.size, rfl, cls, ce, locs, hx U hWs.alike f1 (fun q hq => f2 q hq (fun z hz => nomatch hz)), hce, hO.vm, hcl, hWs, hall, hf⟩⟩
  refine st1 _ ?_
  show Steps p.tables e below (T1.setTop { method := m, pc := pc + 3, locals := ls, stack := .ref T.heap.size :: rest, locked := none }) _
  jvm_step X₁.here [X₁.here.top, hexec, d3', Value.category]
  exact X₁.ldcString hexec (own := own) (text := text) (index := is) (a := sa) hown' hstr'.1 hstr'.2
    (g := { method := m, pc := pc + 4, locals := ls, stack := .ref T.heap.size :: .ref T.heap.size :: rest, locked := none }) rfl d4' _ hsteps
/-- 'throw new E("text")', the text by a wide index -/
theorem vx_throwSW {cc : ByteArray} {pc : Nat} (hexec : p.tables.exec = Jvm.exec) (hb : c.code = cc) (hl : l.stackTraces = false) {own cls text : String} {names : List String} {ik is ic mc ms sa : Nat} {A : Nat → Prop}
    (hown : s.vm.findClass own = some m.cls) (hcls : Bundle.fit cls = true) (hnames : ∀ n ∈ names, Bundle.fit n = true)
    (hk : (Cond.classLink own ik cls).before args s = true) (hini : (Cond.initialized cls).before args s = true) (hstr : vk_R own is text sa s) (hat : ∀ w ∈ vx_atS own ic cls names, w.before args s = true)
    (hgood : ∀ w ∈ Cond.classLink own ik cls :: Cond.initialized cls :: vx_atS own ic cls names, vx_ot w = true)
    (hU : vx_Zq Bundle.tN "UNASSIGNED_STACK" Bundle.steD A s s.heap) (hN : vx_Zq Bundle.tN "SUPPRESSED_SENTINEL" Bundle.listD A s s.heap) (hS : va_S A s.heap H locs) (hsize : ls.size = c.maxLocals)
    (d0 : decode cc pc = .ok (.new ik, 3)) (d3 : decode cc (pc + 3) = .ok (.dup, 1)) (d4 : decode cc (pc + 4) = .ok (.ldc_w is, 3)) (d7 : decode cc (pc + 7) = .ok (.invokespecial ic, 3)) (d10 : decode cc (pc + 10) = .ok (.athrow, 1))
    (hout : ∀ x ∈ c.exceptionTable.toList, covers x (pc + 10) = false)
    (hRframes : names.length + 3 < R.frames) (hRlocals : (rest.map fun v => v.category).sum + (13 * (names.length + 1) + 43) ≤ R.locals) (hRcells : cells + 1 ≤ R.cells) (hRslots : slots + 6 ≤ R.slots) (hlocks : meth.locks = false)
    (hx : ∀ t : State, s.vm.Alike t.vm → H.size ≤ t.heap.size → (∀ q : Nat, q < H.size → t.heap[q]? = H[q]?) → XC cls s t)
    (hf : ∀ z ∈ locs, free z.base) (hc : cells + 1 ≤ mc) (hs : slots + 6 ≤ ms) :
    W p l e R s m args below meth c H locs cells slots (vx_MQ below Qc XC args s mc ms free) (F0 m pc ls rest) := by
  intro T hT X
  have htr : e.platform.stackTraces = false := (show e.platform.stackTraces = l.stackTraces by rw [X.admits.platform]).trans hl
  have Y := vx_rebase X (R' := { frames := R.frames, locals := R.locals, cells := 1, slots := 6 }) (Nat.le_refl _) (Nat.le_refl _) hRcells hRslots
  obtain ⟨s', hA⟩ : ∃ z, z = (T.setVm s.vm).setFrames (.invoking m args :: below) := ⟨_, rfl⟩
  rw [← hA] at Y
  have hvm : s'.vm = s.vm := by rw [hA]; rfl
  have hhp : s'.heap = H := by rw [hA]; exact hT
  have hW0 : s.WarmedH s'.vm := by rw [hvm]; exact State.WarmedH.refl s
  have hat' : ∀ w ∈ vx_atS own ic cls names, w.before args s' = true := fun w hw => vx_ot_at hW0 hvm.symm (hgood w (List.mem_cons_of_mem _ (List.mem_cons_of_mem _ hw))) (hat w hw)
  have hk' : (Cond.classLink own ik cls).before args s' = true := vx_ot_at hW0 hvm.symm (hgood _ List.mem_cons_self) hk
  have hini' : (Cond.initialized cls).before args s' = true := vx_ot_at hW0 hvm.symm (hgood _ (List.mem_cons_of_mem _ List.mem_cons_self)) hini
  have hU' : vx_Zq Bundle.tN "UNASSIGNED_STACK" Bundle.steD A s' s'.heap := by rw [hhp]; exact vx_Zq.moved hW0.alike (hU.kept hS.2.1)
  have hN' : vx_Zq Bundle.tN "SUPPRESSED_SENTINEL" Bundle.listD A s' s'.heap := by rw [hhp]; exact vx_Zq.moved hW0.alike (hN.kept hS.2.1)
  have h : ∀ w ∈ Bundle.ownAtoms own ic cls names, w.before args s' = true := vx_own hat' (vx_isRefq hU'.1) (vx_isRefq hN'.1) hU'.2.word hN'.2.word
  have hown' : s'.vm.findClass own = some m.cls := by rw [hvm]; exact hown
  have hins : (Cond.instantiable cls 6).before args s' = true := h _ (by simp [Bundle.ownAtoms])
  obtain ⟨vm₁, cX, kX, hfX, hkX, -, -, X₁, st1⟩ := Y.newCold hexec (own := own) (C := cls) (index := ik) (n := 6) hown' hk' hins hini'
    (g := F0 m pc ls rest) rfl (by rw [hb]; exact d0) (Nat.le_refl _) (Nat.le_refl _)
  generalize hT1 : (T.setVm vm₁).pushCell { cls := cX, slots := kX.instanceTypes.map defaultValue, vm := .none } = T1 at X₁ st1
  have hcat : (Value.ref T.heap.size).category = 1 := rfl
  have hcellA : T1.heap[T.heap.size]? = some (freshCell cX kX) := by rw [← hT1]; exact State.heap_pushCell_size _ _
  have d3' : decode c.code (pc + 3) = .ok (.dup, 1) := by rw [hb]; exact d3
  have d4' : decode c.code (pc + 4) = .ok (.ldc_w is, 3) := by rw [hb]; exact d4
  have hstr' : vk_R own is text sa s' := vk_R.warm hW0 hstr
  obtain ⟨U, hsteps, hrun, hend, hW, hsame, ce, hce, hO⟩ := X₁.ctorThrowS hexec htr (own := own) (cls := cls) (names := names) (ic := ic) hown' hcls hnames h (fun x hx => nomatch hx) hfX hkX hcellA (by rw [hhp, hT]; exact Nat.le_refl _) (msg := .ref sa) rfl
    (g := { method := m, pc := pc + 7, locals := ls, stack := .ref sa :: .ref T.heap.size :: .ref T.heap.size :: rest, locked := none }) rfl hsize rfl rfl (rest := rest) rfl
    (by rw [hb]; exact d7) (by rw [hb]; exact d10) hout hRframes (by simp only [List.map_cons, List.sum_cons, hcat]; omega) hlocks
  obtain ⟨f1, f2⟩ := vx_frame hsame
  rw [hhp] at f1 f2
  have hWs : s.WarmedH U.vm := State.WarmedH.trans hW0 hW
  have hcl : s.vm.findClass cls = some ce.cls := by
    have h9 := hO.cls
    rw [hvm] at h9
    exact h9
  have hall : s.sameButNew ({ U with vm := s.vm } : State) locs mc ms := by
    subst hA
    obtain ⟨e1, e2⟩ := hsame
    rw [State.setFrames_setFrames] at e1
    have h2 : (T.setVm s.vm).sameButNew ({ U with vm := s.vm } : State) [] (0 + 1) (0 + 6) := ⟨e1, e2⟩
    have h3 := X.same.trans h2
    rw [List.append_nil] at h3
    exact h3.mono hc hs
  refine ⟨U, ?_, .threw T.heap.size, hrun, hend, Or.inr ⟨T.heap.size, rfl, cls, ce, locs, hx U hWs.alike f1 (fun q hq => f2 q hq (fun z hz => nomatch hz)), hce, hO.vm, hcl, hWs, hall, hf⟩⟩
  refine st1 _ ?_
  show Steps p.tables e below (T1.setTop { method := m, pc := pc + 3, locals := ls, stack := .ref T.heap.size :: rest, locked := none }) _
  jvm_step X₁.here [X₁.here.top, hexec, d3', Value.category]
  exact X₁.ldcStringW hexec (own := own) (text := text) (index := is) (a := sa) hown' hstr'.1 hstr'.2
    (g := { method := m, pc := pc + 4, locals := ls, stack := .ref T.heap.size :: .ref T.heap.size :: rest, locked := none }) rfl d4' _ hsteps
end Ends
section Bodies
variable {l : Launch}
theorem vx_ofW {y : MethodName} {ws ws' : List Cond} {rm : Room} {Pc : Array Value → State → Prop} {Qc : Array Value → State → Outcome → State → Prop} {XC : String → State → State → Prop} {mc ms : Nat} {free : Addr → Prop} {cc : ByteArray} {maxL : Nat} {ret : Option FieldType}
    (hy : plainName y.cls = true) (hw : ws = Cond.code y cc maxL ret :: ws')
    (body : ∀ p e s m args below meth c s₁, BodyLoose p l y (headSpec ws rm) cc maxL ret e s m args below meth c s₁ → c.maxLocals = maxL → (∀ x ∈ c.exceptionTable.toList, False) → Pc args s →
      W p l e (headSpec ws rm).room s m args below meth c s.heap [] 0 0 (vx_MQ below Qc XC args s mc ms free) (entryFrame m args maxL)) : vx_Met l y ws rm Pc Qc XC mc ms free := by
  refine MetFree.of_bodyS (code := cc) (maxLocals := maxL) (ret := ret) hy ?_ ?_
  · intro args s m h hn
    obtain ⟨meth, c, h1, h2, h3, h4, h5, h6, -, -⟩ := Cond.code_spec hn (atoms_spec (ws := ws) h _ (by rw [hw]; exact List.mem_cons_self))
    exact ⟨meth, c, h1, h2, h3, h4, h5, h6⟩
  · intro p e s m args below meth c s₁ B hml hP _
    have hh0 : s₁.heap = s.heap := by rw [B.state]; rfl
    have ht : ∀ x ∈ c.exceptionTable.toList, False := by
      obtain ⟨meth9, c9, h1, h2, -, -, -, -, h7, -⟩ := Cond.code_spec B.named (atoms_spec (ws := ws) B.pre _ (by rw [hw]; exact List.mem_cons_self))
      cases Option.some.inj (h1.symm.trans B.method)
      cases Option.some.inj (h2.symm.trans (Stand.of_body B).code)
      intro x hx
      rw [Array.isEmpty_iff.mp h7] at hx
      cases hx
    obtain ⟨t, a1, o, b1, b2, b3⟩ := body p e s m args below meth c s₁ B hml ht hP s₁ hh0 (Stand.of_body B)
    exact ⟨t, o, a1, b1, b2, b3⟩
/-- the table of a body with handlers -/
theorem vx_table {p : Program} {x y : MethodName} {S : Spec} {cc bytes : ByteArray} {maxL maxL' : Nat} {ret ret' : Option FieldType} {e : Env} {s s₁ : State} {m : MethodId} {args : Array Value} {below : List Frame} {meth : Method} {c : Code} {hh : List (Nat × Nat × Nat × Nat)}
    (B : BodyLoose p l y S cc maxL ret e s m args below meth c s₁) (h : (Cond.codeWith y bytes maxL' ret' hh).before args s = true) : c.exceptionTable.toList = tableOf hh := by
  obtain ⟨m9, meth9, c9, hn9, h1, h2, -, -, h6, -⟩ := Cond.codeWith_spec h
  cases Option.some.inj (hn9.symm.trans B.named)
  cases Option.some.inj (h1.symm.trans B.method)
  cases Option.some.inj (h2.symm.trans (Stand.of_body B).code)
  rw [← h6, table_eq]
end Bodies
end VXA
/-! ===== END ===== -/
/-! ===== BEGIN a static call of a method with an exception table ===== -/
section VXS
variable {p : Program} {l : Launch} {e : Env} {R : Room} {s : State} {m : MethodId} {args : Array Value} {below : List Frame} {meth : Method} {c : Code} {T : State} {H : Heap} {locs : List Loc} {cells slots : Nat}
abbrev vx_CSW (R : Room) (s : State) (args : Array Value) (own : String) (index : Nat) (y : MethodName) (bytes : ByteArray) (maxL : Nat) (ret : Option FieldType) (hh : List (Nat × Nat × Nat × Nat)) (ws : List Cond) (rm : Room) (mc ms n : Nat) : Prop :=
  (rm.cells = mc ∧ rm.slots = ms ∧ rm.frames + 1 ≤ R.frames ∧ 8 + (maxL + 11) + rm.locals ≤ R.locals ∧ (∀ w ∈ ws, ∀ (a' : Array Value) (U : State), s.WarmedH U.vm → w.before a' U = true) ∧ Cond.codeWith y bytes maxL ret hh ∈ ws) ∧
  (Cond.codeWith y bytes maxL ret hh).before args s = true ∧ (Cond.initialized y.cls).before args s = true ∧ (y.cls ≠ "java/lang/invoke/MethodHandle" ∧ y.cls ≠ "java/lang/invoke/VarHandle") ∧
  (∀ sig, parseMethodDescriptor y.desc = some sig → n = sig.parameters.length) ∧ (Cond.methodLink own index y).before args s = true ∧ (Cond.static y).before args s = true
theorem vx_cwSW {own : String} {index maxL mc ms : Nat} {y : MethodName} {bytes : ByteArray} {ret : Option FieldType} {hh : List (Nat × Nat × Nat × Nat)} {Ts ws ws' : List Cond} {rm : Room} (n : Nat) (ht : ∀ w ∈ Ts, w.before args s = true) (hT : GoodIn Ts (va_wsS own index y ws)) (hw : ws = Cond.codeWith y bytes maxL ret hh :: ws') (hrc : rm.cells = mc) (hrs : rm.slots = ms)
    (hd : y.cls ≠ "java/lang/invoke/MethodHandle" ∧ y.cls ≠ "java/lang/invoke/VarHandle" ∧ (parseMethodDescriptor y.desc).map (fun d => d.parameters.length) = some n) (hR : rm.frames + 1 ≤ R.frames ∧ 8 + (maxL + 11) + rm.locals ≤ R.locals) :
    vx_CSW R s args own index y bytes maxL ret hh ws rm mc ms n := by
  have ok : ∀ w ∈ va_wsS own index y ws, w.before args s = true := fun w h => ht w (hT w h).1
  have hG : GoodIn Ts ws := fun w h => hT w (by unfold va_wsS; exact List.mem_append_right _ h)
  have hc : Cond.codeWith y bytes maxL ret hh ∈ ws := by rw [hw]; exact List.mem_cons_self
  refine ⟨⟨hrc, hrs, hR.1, hR.2, pay_in ht hG, hc⟩, ht _ (hG _ hc).1, ok _ (by simp [va_wsS]), ⟨hd.1, hd.2.1⟩, fun sig h => ?_, ok _ (by simp [va_wsS]), ok _ (by simp [va_wsS])⟩
  have h2 := hd.2.2
  rw [h] at h2
  exact (Option.some.inj h2).symm
theorem vx_callSW (X : Stand p l e R s m args below meth c T locs cells slots) (hexec : p.tables.exec = Jvm.exec) {own : String} {index : Nat} {y : MethodName} {bytes : ByteArray} {maxL : Nat} {ret : Option FieldType} {hh : List (Nat × Nat × Nat × Nat)}
    (hown : s.vm.findClass own = some m.cls) (hlink : (Cond.methodLink own index y).before args s = true) (hstat : (Cond.static y).before args s = true) (hinit : (Cond.initialized y.cls).before args s = true)
    (hcode : (Cond.codeWith y bytes maxL ret hh).before args s = true) (hy : y.cls ≠ "java/lang/invoke/MethodHandle" ∧ y.cls ≠ "java/lang/invoke/VarHandle")
    {W9 : Nat} {Pre : Pt → Array Value → Prop} {Post : Pt → Array Value → Option Value → Pt → Prop} (hK : Back l R p e below s args y 3 W9 Pre Post)
    {g : JFrame} (hg : g.method = m) (hsize : g.locals.size = c.maxLocals) {argsL rest : List Value} (hlen : ∀ sig, parseMethodDescriptor y.desc = some sig → argsL.length = sig.parameters.length)
    (hstack : g.stack = argsL.reverse ++ rest) (hW : 2 * g.monitorRoom + (rest.map fun v => v.category).sum ≤ W9) (hdg : decode c.code g.pc = .ok (.invokestatic index, 3))
    (hpre : ∀ vm₁, s.WarmedH vm₁ → Pre ⟨T.setVm vm₁, locs, cells, slots⟩ argsL.toArray) :
    ∃ (v : Option Value) (vm₁ : Vm) (B : Pt), s.WarmedH vm₁ ∧ Stand p l e R s m args below meth c B.U B.locs B.cells B.slots ∧ Post ⟨T.setVm vm₁, locs, cells, slots⟩ argsL.toArray v B ∧
      ∀ target, Steps p.tables e below (B.U.setTop { g with pc := g.pc + 3, stack := v.toList ++ rest }) target → Steps p.tables e below (T.setTop g) target := by
  obtain ⟨mk, methM, cM, hnamed, hmethM, -, -, -, -, -, -, hsigM⟩ := Cond.codeWith_spec hcode
  have hstatic : methM.isStatic = true := Cond.static_spec hnamed hmethM hstat
  obtain ⟨kP, hkP, -⟩ := className_of_methodNamed hnamed
  have hinitP : kP.init = .initialized := Cond.initialized_spec (findClass_of_methodNamed hnamed) hkP hinit
  obtain ⟨vm₁, X₁, hstep₁⟩ := X.invokestatic hexec hown hlink hnamed hmethM hstatic hkP hinitP hy (g := g) hg (argsL := argsL) (rest := rest) (hlen _ hsigM) hstack hdg
  obtain ⟨v, B, X', hpost, hsteps⟩ := hK m meth c ⟨T.setVm vm₁, locs, cells, slots⟩ { g with stack := rest } (.invokestatic index) mk argsL.toArray X₁ hg hsize hdg hW (X₁.named hnamed) (hpre vm₁ X₁.warmed)
  exact ⟨v, vm₁, B, X₁.warmed, X', hpost, fun target h => hstep₁ _ fun acts => by rw [doInvoke_state]; exact hsteps.trans h⟩
theorem vx_runSW {y : MethodName} {bytes cc : ByteArray} {maxL nL mc ms n index : Nat} {ret : Option FieldType} {hh : List (Nat × Nat × Nat × Nat)} {ws : List Cond} {rm : Room} {Pc : Array Value → State → Prop} {Qc : Array Value → State → Outcome → State → Prop} {free : Addr → Prop} {Ts : List Cond} {own : String} {As rest : List Value} {g : JFrame}
    (S : CallFix p m c cc nL s args Ts own) (hM : Met l y ws rm Pc Qc mc ms free) (cw : vx_CSW R s args own index y bytes maxL ret hh ws rm mc ms n) (hp : PreS s H Pc As)
    (hg : g.method = m) (hn : As.length = n) (hsize : g.locals.size = nL) (hstack : g.stack = As.reverse ++ rest) (hW : 2 * g.monitorRoom + (rest.map fun v => v.category).sum ≤ 8) (hdg : decode cc g.pc = .ok (.invokestatic index, 3)) (hf : cells + mc ≤ R.cells ∧ slots + ms ≤ R.slots) :
    va_Run p l e R s m args below meth c H locs cells slots mc ms g rest (Qc As.toArray) (free) := by
  obtain ⟨⟨hrc, hrs, hfr, hlo, hws, hcw⟩, hcode, hini, hy, hlen, hl, hstt⟩ := cw
  have hK : Back l R p e below s args y 3 8 (PreOf R mc ms Pc) (PostOf Qc mc ms free) := va_backW (hh := hh) (bytes := bytes) (maxL := maxL) (ret := ret) hM hp.1 hrc hrs hfr hlo hws hcw (fun a' U hW => word_at hW (Or.inl (by first | rfl | simp [Cond.onTables, Cond.keeps, Cond.steady])) hini)
  obtain ⟨hx, hb, hml, ho, -⟩ := S
  intro T hT X
  obtain ⟨v, vm₁, ⟨U', l2, c2, s2⟩, hW₁, X', ⟨g', mk, t, L, e1, e2, hq, h1, hL, h2, h3⟩, st⟩ := vx_callSW X hx (hh := hh) (bytes := bytes) (maxL := maxL) (ret := ret) ho hl hstt hini hcode hy hK hg (hsize.trans hml.symm) (argsL := As) (rest := rest) (fun sig h => hn.trans (hlen sig h)) hstack hW (by rw [hb]; exact hdg)
    (fun vm₁ hW₁ => ⟨hf.1, hf.2, hp.2 (T.setVm vm₁) hT hW₁⟩)
  dsimp only [Pt.U, Pt.locs, Pt.cells, Pt.slots] at X' e1 e2 h1 h2 h3 st
  subst h1; subst h2; subst h3
  exact ⟨v, (T.setVm vm₁).calling g' mk As.toArray, t, U', L, hT, X', hL, e1, e2, hq, st⟩
/-- not caught here, past rows that name other classes: it goes on to the caller -/
theorem vx_outP {p : Program} {l : Launch} {e : Env} {R : Room} {s : State} {m : MethodId} {args : Array Value} {below : List Frame} {meth : Method} {c : Code} {H : Heap} {locs : List Loc} {cells slots : Nat} {free : Addr → Prop} {ls : Array Slot} {rest : List Value} {Qc : Array Value → State → Outcome → State → Prop} {XC : String → State → State → Prop}
    {pc : Nat} {own E : String} {ce : Cell} {q : Addr} {mc ms : Nat} (hown : s.vm.findClass own = some m.cls) (hlocks : meth.locks = false)
    (hpass : ∀ z ∈ c.exceptionTable.toList, covers z pc = false ∨ (z.catchType ≠ 0 ∧ ∃ nm : String, (Cond.classLink own z.catchType nm).before args s = true ∧ va_Nc E nm s)) (hcell : H[q]? = some ce) (hv : ce.vm = .none) (hcl : s.vm.findClass E = some ce.cls)
    (hx : ∀ t : State, t.heap = H → s.vm.Alike t.vm → XC E s t) (hf : ∀ z ∈ locs, free z.base) (hc : cells ≤ mc) (hs : slots ≤ ms) :
    vx_W p l e R s m args below meth c H locs cells slots (vx_MQ below Qc XC args s mc ms free) (F0 m pc ls rest) q := by
  intro T hT X
  have hpl : e.platform.magicAccessors = ({} : Platform).magicAccessors := by rw [X.admits.platform]
  obtain ⟨vm', hW', X', st⟩ := X.outThrough hlocks q (g := F0 m pc ls rest) rfl rfl rfl (cell := ce) (by rw [hT]; exact hcell) (by rw [hv]; rfl)
    (by obtain ⟨k9, h9, -⟩ := Vm.findClass_spec hcl; exact ⟨k9, h9⟩) (fun z hz => by
      rcases hpass z hz with h | ⟨hz0, nm, hl1, hn1⟩
      · exact Or.inl h
      · obtain ⟨c6, hc6, hcl6⟩ := Cond.classLink_spec hown hl1 e.platform hpl
        obtain ⟨a8, b8, h1, h2, h3⟩ := hn1
        cases Option.some.inj (h1.symm.trans hcl)
        cases Option.some.inj (h2.symm.trans hc6)
        exact Or.inr ⟨hz0, _, hcl6, h3⟩)
  obtain ⟨g₀, hfr⟩ := X'.frames_eq
  have hcell9 : ((T.setVm vm').setFrames (.throwing q :: below)).heap[q]? = some ce := by
    show T.heap[q]? = some ce
    rw [hT]; exact hcell
  have hend : Ended ((T.setVm vm').setFrames (.throwing q :: below)) below (.threw q) := State.frames_setFrames _ (State.cur_lt_of_frames hfr)
  refine ⟨(T.setVm vm').setFrames (.throwing q :: below), ?_, .threw q, X'.here.running, hend, Or.inr ⟨q, rfl, E, ce, locs, hx _ hT (X'.ends _).1.alike, hcell9, hv, hcl, (X'.ends _).1, (X'.ends _).2.mono hc hs, hf⟩⟩
  rw [X.pushThrowing_eq]
  exact st
/-- a thing of a world lies in the heap -/
theorem vx_lt {D : va_G} {cl : List vw_C} {ws : va_W} {H1 : Heap} (h : va_P D cl ws H1) {k : Nat} {q : Nat × va_E} (hk : ws[k]? = some q) : q.1 < H1.size := (h k q hk).lt
end VXS
/-! ===== END ===== -/
/-! ===== BEGIN methods with a table of their own: called by a name, returning or throwing ===== -/
section VXH
/-! vx_backW, vx_callVX, vx_callSX, vx_callVW, vx_runVW, vx_runVX, vx_runSX, vx_ofWH follow the same proofs as their sisters above (Free/Laws.lean, Shelf42/LK1.lean); vx_outP calls Shelf42/NT130.lean (outThrough). -/
section
variable {l : Launch} {R : Room} {p : Program} {e : Env} {below : List Frame} {s : State} {sargs : Array Value} {y : MethodName} {len W9 : Nat}
theorem vx_backW {ws : List Cond} {rm : Room} {Pc : Array Value → State → Prop} {Qc : Array Value → State → Outcome → State → Prop} {XC : String → State → State → Prop} {mc ms : Nat} {free : Addr → Prop} {bytes : ByteArray} {maxL : Nat} {ret : Option FieldType} {hh : List (Nat × Nat × Nat × Nat)}
    (hM : vx_Met l y ws rm Pc Qc XC mc ms free) (hblind : FrameBlind Pc) (hrc : rm.cells = mc) (hrs : rm.slots = ms)
    (hframes : rm.frames + 1 ≤ R.frames) (hlocals : W9 + (maxL + 11) + rm.locals ≤ R.locals)
    (hws : ∀ w ∈ ws, ∀ a' U, s.WarmedH U.vm → w.before a' U = true) (hcode : Cond.codeWith y bytes maxL ret hh ∈ ws) (hinit : ∀ a' U, s.WarmedH U.vm → (Cond.initialized y.cls).before a' U = true) :
    vx_Back l R p e below s sargs y len W9 (PreOf R mc ms Pc) (PostOf Qc mc ms free) (vx_Post XC mc ms free) := by
  intro m meth c A g ig mk a X hg hsize hdg hW hn hp
  have h1 : (headSpec ws rm).pre.before a A.U = true := atoms_intro fun w hw => hws w hw _ _ X.warmed
  have h2 : (Cond.codeWith y bytes maxL ret hh).before a A.U = true := hws _ hcode _ _ X.warmed
  have h3 : (Cond.initialized y.cls).before a A.U = true := hinit _ _ X.warmed
  have h4 : A.cells + (headSpec ws rm).room.cells ≤ R.cells := by rw [show (headSpec ws rm).room.cells = mc from hrc]; exact hp.1
  have h5 : A.slots + (headSpec ws rm).room.slots ≤ R.slots := by rw [show (headSpec ws rm).room.slots = ms from hrs]; exact hp.2.1
  have hPc : Pc a (A.U.calling g mk a) := hblind _ _ _ _ hp.2.2
  obtain ⟨U, Ls, c0, s0⟩ := A
  dsimp only [Pt.U, Pt.locs, Pt.cells, Pt.slots] at h1 h2 h3 h4 h5 X hn hPc ⊢
  obtain ⟨m9, methY, cY, hn9, hmY, hcY, -, hlY, -⟩ := Cond.codeWith_spec h2
  cases Option.some.inj (hn9.symm.trans hn)
  obtain ⟨kY, hkY, -⟩ := className_of_methodNamed hn
  have hinitY : kY.init = .initialized := Cond.initialized_spec (findClass_of_methodNamed hn) hkY h3
  have h : At U g.method c below := by rw [hg]; exact X.here
  have hlocals9 : W9 + (maxL + 11) + (headSpec ws rm).room.locals ≤ R.locals := hlocals
  have happ : (headSpec ws rm).appliesLoose y e.platform (U.calling g mk a) = true :=
    Spec.appliesLoose_calling (g := g) h hdg hn hkY hinitY
      (X.room_calling (g := g) (R' := (headSpec ws rm).room) hsize hmY hcY hframes (by rw [hlY]; omega) h4 h5) h1
  obtain ⟨mid, hmid⟩ := h.above
  have hfr : (U.setTop g).frames = (.java g :: mid) ++ below := by rw [State.frames_setTop' g h.top, hmid]; rfl
  obtain ⟨o, s₂, hsteps, -, hend, hq⟩ := Steps.callFree hM p X.admits X.cas X.clock (acts := []) hfr happ hPc trivial
  have hq' : vx_Q Qc XC mc ms free a (U.calling g mk a) o s₂ := hq
  rw [State.frames_setTop' g h.top] at hend
  obtain ⟨g₀, hg0⟩ := Option.isSome_iff_exists.mp h.top
  obtain ⟨r, hr⟩ := State.topJava?_eq_some.mp hg0
  have hr' : (({ U with heap := s₂.heap, slotsUsed := s₂.slotsUsed } : State).setVm s₂.vm).frames = .java g₀ :: r := hr
  rcases hq' with ⟨hqc, L, hfe, hL⟩ | ⟨q, rfl, E, ce, L, hx, hce, hcv, hcl, hW₂, hsm, hL⟩
  · obtain ⟨⟨v, rfl⟩, hW₂, e2, q2, q3, q4, q5, q6⟩ := id hfe
    have e3 : s₂ = ({ (U.calling g mk a).setFrames s₂.frames with heap := s₂.heap, slotsUsed := s₂.slotsUsed } : State).setVm s₂.vm := by
      have : s₂ = ({ s₂ with vm := (U.calling g mk a).vm } : State).setVm s₂.vm := rfl
      rw [e2] at this
      exact this
    obtain ⟨c₂, i₂, len₂, hc₂, hd₂, hf₂⟩ := hend
    have hW' : U.WarmedH s₂.vm := hW₂
    have hcc : c₂ = c := by
      have h1 : s₂.code? g.method = U.code? g.method := by
        rw [State.code?_eq, State.code?_eq, hW'.alike.method?]
      exact Option.some.inj (hc₂.symm.trans (h1.trans h.code))
    subst hcc
    have hlen : len₂ = len := by rw [hdg] at hd₂; cases hd₂; rfl
    subst hlen
    have hs₂ : s₂ = (({ U with heap := s₂.heap, slotsUsed := s₂.slotsUsed } : State).setVm s₂.vm).setTop { g with pc := g.pc + len₂, stack := v.toList ++ g.stack } := by
      refine e3.trans ?_
      rw [hf₂, State.calling_eq h.top, State.setFrames_setFrames, State.setTop_of_frames _ hr', hr]
      rfl
    have hsame : U.sameButNew ({ U with heap := s₂.heap, slotsUsed := s₂.slotsUsed } : State) L mc ms := by
      refine ⟨?_, q2, q3, q4, q5, q6⟩
      obtain ⟨t, ht, -⟩ := State.frames_cons hr
      show ({ U with heap := s₂.heap, slotsUsed := s₂.slotsUsed } : State) = { U.setFrames U.frames with heap := s₂.heap, slotsUsed := s₂.slotsUsed }
      rw [State.setFrames_self ht]
    subst hg
    refine Or.inl ⟨v, ⟨(({ U with heap := s₂.heap, slotsUsed := s₂.slotsUsed } : State).setVm s₂.vm), Ls ++ L, c0 + mc, s0 + ms⟩,
      ⟨X.admits, X.cas, X.clock, X.frames, X.room, X.hears, X.method, X.code, (X.here.setHeapUsed s₂.heap s₂.slotsUsed).setVm hW'.alike, X.tail, State.WarmedH.trans X.warmed hW', X.limits, X.bytes, X.same.trans (hsame.setVm s.vm)⟩,
      ⟨g, mk, s₂, L, rfl, rfl, hqc, rfl, hL, rfl, rfl⟩, ?_⟩
    show Steps p.tables e below _ ((({ U with heap := s₂.heap, slotsUsed := s₂.slotsUsed } : State).setVm s₂.vm).setTop { g with pc := g.pc + len₂, stack := v.toList ++ g.stack })
    rw [← hs₂]
    exact hsteps
  · obtain ⟨e2, q2, q3, q4, q5, q6⟩ := id hsm
    have e3 : s₂ = ({ (U.calling g mk a).setFrames s₂.frames with heap := s₂.heap, slotsUsed := s₂.slotsUsed } : State).setVm s₂.vm := by
      have : s₂ = ({ s₂ with vm := (U.calling g mk a).vm } : State).setVm s₂.vm := rfl
      rw [e2] at this
      exact this
    have hf₂ : s₂.frames = .throwing q :: .java g :: U.frames.tail := hend
    have hW' : U.WarmedH s₂.vm := hW₂
    have hs₂ : s₂ = ((({ U with heap := s₂.heap, slotsUsed := s₂.slotsUsed } : State).setVm s₂.vm).setTop g).pushFrame (.throwing q) := by
      refine e3.trans ?_
      rw [hf₂, State.calling_eq h.top, State.setFrames_setFrames, State.pushFrame, State.frames_setTop _ hr', State.setTop_of_frames _ hr', State.setFrames_setFrames, hr]
      rfl
    have hsame : U.sameButNew ({ U with heap := s₂.heap, slotsUsed := s₂.slotsUsed } : State) L mc ms := by
      refine ⟨?_, q2, q3, q4, q5, q6⟩
      obtain ⟨t, ht, -⟩ := State.frames_cons hr
      show ({ U with heap := s₂.heap, slotsUsed := s₂.slotsUsed } : State) = { U.setFrames U.frames with heap := s₂.heap, slotsUsed := s₂.slotsUsed }
      rw [State.setFrames_self ht]
    subst hg
    refine Or.inr ⟨q, ⟨(({ U with heap := s₂.heap, slotsUsed := s₂.slotsUsed } : State).setVm s₂.vm), Ls ++ L, c0 + mc, s0 + ms⟩,
      ⟨X.admits, X.cas, X.clock, X.frames, X.room, X.hears, X.method, X.code, (X.here.setHeapUsed s₂.heap s₂.slotsUsed).setVm hW'.alike, X.tail, State.WarmedH.trans X.warmed hW', X.limits, X.bytes, X.same.trans (hsame.setVm s.vm)⟩,
      ⟨g, mk, s₂, L, E, ce, rfl, rfl, hx, hce, hcv, hcl, rfl, hL, rfl, rfl⟩, ?_⟩
    show Steps p.tables e below _ (((({ U with heap := s₂.heap, slotsUsed := s₂.slotsUsed } : State).setVm s₂.vm).setTop g).pushFrame (.throwing q))
    rw [← hs₂]
    exact hsteps
end
variable {p : Program} {l : Launch} {e : Env} {R : Room} {s : State} {m : MethodId} {args : Array Value} {below : List Frame} {meth : Method} {c : Code} {T : State} {H : Heap} {locs : List Loc} {cells slots : Nat}
theorem vx_callVX (X : Stand p l e R s m args below meth c T locs cells slots) (hexec : p.tables.exec = Jvm.exec) {own C : String} {index : Nat} {y : MethodName} {bytes : ByteArray} {maxL : Nat} {ret : Option FieldType} {hh : List (Nat × Nat × Nat × Nat)}
    (hown : s.vm.findClass own = some m.cls) (hlink : (Cond.methodLink own index y).before args s = true) (hinst : (Cond.instanceMethod y).before args s = true) (hsel : (Cond.selects C y y).before args s = true)
    (hcode : (Cond.codeWith y bytes maxL ret hh).before args s = true) (hy : y.cls ≠ "java/lang/invoke/MethodHandle" ∧ y.cls ≠ "java/lang/invoke/VarHandle")
    {W9 : Nat} {Pre : Pt → Array Value → Prop} {Post : Pt → Array Value → Option Value → Pt → Prop} {PostX : Pt → Array Value → Addr → Pt → Prop} (hK : vx_Back l R p e below s args y 3 W9 Pre Post PostX)
    {b : Addr} {cellB : Cell} (hcell : T.heap[b]? = some cellB) (hobj : cellB.vm.isStatics = false) (hcls : s.vm.findClass C = some cellB.cls)
    {g : JFrame} (hg : g.method = m) (hsize : g.locals.size = c.maxLocals) {argsL rest : List Value} (hlen : ∀ sig, parseMethodDescriptor y.desc = some sig → argsL.length = sig.parameters.length)
    (hstack : g.stack = argsL.reverse ++ .ref b :: rest) (hW : 2 * g.monitorRoom + (rest.map fun v => v.category).sum ≤ W9) (hdg : decode c.code g.pc = .ok (.invokevirtual index, 3))
    (hpre : ∀ vm₁, s.WarmedH vm₁ → Pre ⟨T.setVm vm₁, locs, cells, slots⟩ (Value.ref b :: argsL).toArray) :
    (∃ (v : Option Value) (vm₁ : Vm) (B : Pt), s.WarmedH vm₁ ∧ Stand p l e R s m args below meth c B.U B.locs B.cells B.slots ∧ Post ⟨T.setVm vm₁, locs, cells, slots⟩ (Value.ref b :: argsL).toArray v B ∧
      ∀ target, Steps p.tables e below (B.U.setTop { g with pc := g.pc + 3, stack := v.toList ++ rest }) target → Steps p.tables e below (T.setTop g) target) ∨
    (∃ (q : Addr) (vm₁ : Vm) (B : Pt), s.WarmedH vm₁ ∧ Stand p l e R s m args below meth c B.U B.locs B.cells B.slots ∧ PostX ⟨T.setVm vm₁, locs, cells, slots⟩ (Value.ref b :: argsL).toArray q B ∧
      Steps p.tables e below (T.setTop g) ((B.U.setTop { g with stack := rest }).pushFrame (.throwing q))) := by
  obtain ⟨mk, methM, hnamed, hmethM, hstM, habM⟩ := Cond.instanceMethod_spec hinst
  obtain ⟨m8, methM', cM, hn8, hmethM', -, -, -, -, -, -, hsigM⟩ := Cond.codeWith_spec hcode
  cases Option.some.inj (hn8.symm.trans hnamed)
  cases hmethM.symm.trans hmethM'
  obtain ⟨c2, r2, m2, q1, q2, q3, q4, kP, hkP, hkPi⟩ := Cond.selects_spec hsel
  cases hcls.symm.trans q1
  cases (State.methodFound?_of_named hnamed hy).symm.trans q2
  cases hnamed.symm.trans q3
  have hselP : selectMethod e.platform s.vm cellB.cls mk = .method mk := by rw [Launch.admits_selectMethod X.admits]; exact q4
  obtain ⟨vm₁, X₁, hstep₁⟩ := X.invokevirtual hexec hown hlink hnamed hmethM hstM hkP hkPi hy (a := b) (cell := cellB) hcell
    (fun z h => by rw [h] at hobj; cases hobj) hselP hmethM habM hkP hkPi (g := g) hg (argsL := argsL) (rest := rest) (hlen _ hsigM) hstack hdg
  rcases hK m meth c ⟨T.setVm vm₁, locs, cells, slots⟩ { g with stack := rest } (.invokevirtual index) mk (Value.ref b :: argsL).toArray X₁ hg hsize hdg hW (X₁.named hnamed) (hpre vm₁ X₁.warmed) with ⟨v, B, X', hpost, hsteps⟩ | ⟨q, B, X', hpost, hsteps⟩
  · exact Or.inl ⟨v, vm₁, B, X₁.warmed, X', hpost, fun target h => hstep₁ _ fun acts => by rw [doInvoke_state]; exact hsteps.trans h⟩
  · exact Or.inr ⟨q, vm₁, B, X₁.warmed, X', hpost, hstep₁ _ fun acts => by rw [doInvoke_state]; exact hsteps⟩
theorem vx_callSX (X : Stand p l e R s m args below meth c T locs cells slots) (hexec : p.tables.exec = Jvm.exec) {own : String} {index : Nat} {y : MethodName} {bytes : ByteArray} {maxL : Nat} {ret : Option FieldType} {hh : List (Nat × Nat × Nat × Nat)}
    (hown : s.vm.findClass own = some m.cls) (hlink : (Cond.methodLink own index y).before args s = true) (hstat : (Cond.static y).before args s = true) (hinit : (Cond.initialized y.cls).before args s = true)
    (hcode : (Cond.codeWith y bytes maxL ret hh).before args s = true) (hy : y.cls ≠ "java/lang/invoke/MethodHandle" ∧ y.cls ≠ "java/lang/invoke/VarHandle")
    {W9 : Nat} {Pre : Pt → Array Value → Prop} {Post : Pt → Array Value → Option Value → Pt → Prop} {PostX : Pt → Array Value → Addr → Pt → Prop} (hK : vx_Back l R p e below s args y 3 W9 Pre Post PostX)
    {g : JFrame} (hg : g.method = m) (hsize : g.locals.size = c.maxLocals) {argsL rest : List Value} (hlen : ∀ sig, parseMethodDescriptor y.desc = some sig → argsL.length = sig.parameters.length)
    (hstack : g.stack = argsL.reverse ++ rest) (hW : 2 * g.monitorRoom + (rest.map fun v => v.category).sum ≤ W9) (hdg : decode c.code g.pc = .ok (.invokestatic index, 3))
    (hpre : ∀ vm₁, s.WarmedH vm₁ → Pre ⟨T.setVm vm₁, locs, cells, slots⟩ argsL.toArray) :
    (∃ (v : Option Value) (vm₁ : Vm) (B : Pt), s.WarmedH vm₁ ∧ Stand p l e R s m args below meth c B.U B.locs B.cells B.slots ∧ Post ⟨T.setVm vm₁, locs, cells, slots⟩ argsL.toArray v B ∧
      ∀ target, Steps p.tables e below (B.U.setTop { g with pc := g.pc + 3, stack := v.toList ++ rest }) target → Steps p.tables e below (T.setTop g) target) ∨
    (∃ (q : Addr) (vm₁ : Vm) (B : Pt), s.WarmedH vm₁ ∧ Stand p l e R s m args below meth c B.U B.locs B.cells B.slots ∧ PostX ⟨T.setVm vm₁, locs, cells, slots⟩ argsL.toArray q B ∧
      Steps p.tables e below (T.setTop g) ((B.U.setTop { g with stack := rest }).pushFrame (.throwing q))) := by
  obtain ⟨mk, methM, cM, hnamed, hmethM, -, -, -, -, -, -, hsigM⟩ := Cond.codeWith_spec hcode
  have hstatic : methM.isStatic = true := Cond.static_spec hnamed hmethM hstat
  obtain ⟨kP, hkP, -⟩ := className_of_methodNamed hnamed
  have hinitP : kP.init = .initialized := Cond.initialized_spec (findClass_of_methodNamed hnamed) hkP hinit
  obtain ⟨vm₁, X₁, hstep₁⟩ := X.invokestatic hexec hown hlink hnamed hmethM hstatic hkP hinitP hy (g := g) hg (argsL := argsL) (rest := rest) (hlen _ hsigM) hstack hdg
  rcases hK m meth c ⟨T.setVm vm₁, locs, cells, slots⟩ { g with stack := rest } (.invokestatic index) mk argsL.toArray X₁ hg hsize hdg hW (X₁.named hnamed) (hpre vm₁ X₁.warmed) with ⟨v, B, X', hpost, hsteps⟩ | ⟨q, B, X', hpost, hsteps⟩
  · exact Or.inl ⟨v, vm₁, B, X₁.warmed, X', hpost, fun target h => hstep₁ _ fun acts => by rw [doInvoke_state]; exact hsteps.trans h⟩
  · exact Or.inr ⟨q, vm₁, B, X₁.warmed, X', hpost, hstep₁ _ fun acts => by rw [doInvoke_state]; exact hsteps⟩
theorem vx_callVW (X : Stand p l e R s m args below meth c T locs cells slots) (hexec : p.tables.exec = Jvm.exec) {own C : String} {index : Nat} {y : MethodName} {bytes : ByteArray} {maxL : Nat} {ret : Option FieldType} {hh : List (Nat × Nat × Nat × Nat)}
    (hown : s.vm.findClass own = some m.cls) (hlink : (Cond.methodLink own index y).before args s = true) (hinst : (Cond.instanceMethod y).before args s = true) (hsel : (Cond.selects C y y).before args s = true)
    (hcode : (Cond.codeWith y bytes maxL ret hh).before args s = true) (hy : y.cls ≠ "java/lang/invoke/MethodHandle" ∧ y.cls ≠ "java/lang/invoke/VarHandle")
    {W9 : Nat} {Pre : Pt → Array Value → Prop} {Post : Pt → Array Value → Option Value → Pt → Prop} (hK : Back l R p e below s args y 3 W9 Pre Post)
    {b : Addr} {cellB : Cell} (hcell : T.heap[b]? = some cellB) (hobj : cellB.vm.isStatics = false) (hcls : s.vm.findClass C = some cellB.cls)
    {g : JFrame} (hg : g.method = m) (hsize : g.locals.size = c.maxLocals) {argsL rest : List Value} (hlen : ∀ sig, parseMethodDescriptor y.desc = some sig → argsL.length = sig.parameters.length)
    (hstack : g.stack = argsL.reverse ++ .ref b :: rest) (hW : 2 * g.monitorRoom + (rest.map fun v => v.category).sum ≤ W9) (hdg : decode c.code g.pc = .ok (.invokevirtual index, 3))
    (hpre : ∀ vm₁, s.WarmedH vm₁ → Pre ⟨T.setVm vm₁, locs, cells, slots⟩ (Value.ref b :: argsL).toArray) :
    ∃ (v : Option Value) (vm₁ : Vm) (B : Pt), s.WarmedH vm₁ ∧ Stand p l e R s m args below meth c B.U B.locs B.cells B.slots ∧ Post ⟨T.setVm vm₁, locs, cells, slots⟩ (Value.ref b :: argsL).toArray v B ∧
      ∀ target, Steps p.tables e below (B.U.setTop { g with pc := g.pc + 3, stack := v.toList ++ rest }) target → Steps p.tables e below (T.setTop g) target := by
  obtain ⟨mk, methM, hnamed, hmethM, hstM, habM⟩ := Cond.instanceMethod_spec hinst
  obtain ⟨m8, methM', cM, hn8, hmethM', -, -, -, -, -, -, hsigM⟩ := Cond.codeWith_spec hcode
  cases Option.some.inj (hn8.symm.trans hnamed)
  cases hmethM.symm.trans hmethM'
  obtain ⟨c2, r2, m2, q1, q2, q3, q4, kP, hkP, hkPi⟩ := Cond.selects_spec hsel
  cases hcls.symm.trans q1
  cases (State.methodFound?_of_named hnamed hy).symm.trans q2
  cases hnamed.symm.trans q3
  have hselP : selectMethod e.platform s.vm cellB.cls mk = .method mk := by rw [Launch.admits_selectMethod X.admits]; exact q4
  obtain ⟨vm₁, X₁, hstep₁⟩ := X.invokevirtual hexec hown hlink hnamed hmethM hstM hkP hkPi hy (a := b) (cell := cellB) hcell
    (fun z h => by rw [h] at hobj; cases hobj) hselP hmethM habM hkP hkPi (g := g) hg (argsL := argsL) (rest := rest) (hlen _ hsigM) hstack hdg
  obtain ⟨v, B, X', hpost, hsteps⟩ := hK m meth c ⟨T.setVm vm₁, locs, cells, slots⟩ { g with stack := rest } (.invokevirtual index) mk (Value.ref b :: argsL).toArray X₁ hg hsize hdg hW (X₁.named hnamed) (hpre vm₁ X₁.warmed)
  exact ⟨v, vm₁, B, X₁.warmed, X', hpost, fun target h => hstep₁ _ fun acts => by rw [doInvoke_state]; exact hsteps.trans h⟩
abbrev vx_CVW (R : Room) (s : State) (args : Array Value) (own C : String) (index : Nat) (y : MethodName) (bytes : ByteArray) (maxL : Nat) (ret : Option FieldType) (hh : List (Nat × Nat × Nat × Nat)) (ws : List Cond) (rm : Room) (mc ms n : Nat) : Prop :=
  (rm.cells = mc ∧ rm.slots = ms ∧ rm.frames + 1 ≤ R.frames ∧ 8 + (maxL + 11) + rm.locals ≤ R.locals ∧ (∀ w ∈ ws, ∀ (a' : Array Value) (U : State), s.WarmedH U.vm → w.before a' U = true) ∧ Cond.codeWith y bytes maxL ret hh ∈ ws) ∧
  (Cond.codeWith y bytes maxL ret hh).before args s = true ∧ (Cond.initialized y.cls).before args s = true ∧ (y.cls ≠ "java/lang/invoke/MethodHandle" ∧ y.cls ≠ "java/lang/invoke/VarHandle") ∧
  (∀ sig, parseMethodDescriptor y.desc = some sig → n = sig.parameters.length) ∧ (Cond.methodLink own index y).before args s = true ∧ (Cond.instanceMethod y).before args s = true ∧ (Cond.selects C y y).before args s = true
theorem vx_cwVW {own C : String} {index maxL mc ms : Nat} {y : MethodName} {bytes : ByteArray} {ret : Option FieldType} {hh : List (Nat × Nat × Nat × Nat)} {Ts ws ws' : List Cond} {rm : Room} (n : Nat) (ht : ∀ w ∈ Ts, w.before args s = true) (hT : GoodIn Ts (wsV own index C y ws)) (hw : ws = Cond.codeWith y bytes maxL ret hh :: ws') (hrc : rm.cells = mc) (hrs : rm.slots = ms)
    (hd : y.cls = C ∧ y.cls ≠ "java/lang/invoke/MethodHandle" ∧ y.cls ≠ "java/lang/invoke/VarHandle" ∧ (parseMethodDescriptor y.desc).map (fun d => d.parameters.length) = some n) (hR : rm.frames + 1 ≤ R.frames ∧ 8 + (maxL + 11) + rm.locals ≤ R.locals) :
    vx_CVW R s args own C index y bytes maxL ret hh ws rm mc ms n := by
  obtain ⟨hC, hd⟩ := hd
  subst hC
  have ok : ∀ w ∈ wsV own index y.cls y ws, w.before args s = true := fun w h => ht w (hT w h).1
  have hG : GoodIn Ts ws := fun w h => hT w (by unfold wsV; exact List.mem_append_right _ h)
  have hc : Cond.codeWith y bytes maxL ret hh ∈ ws := by rw [hw]; exact List.mem_cons_self
  refine ⟨⟨hrc, hrs, hR.1, hR.2, pay_in ht hG, hc⟩, ht _ (hG _ hc).1, ok _ (by simp [wsV]), ⟨hd.1, hd.2.1⟩, fun sig h => ?_, ok _ (by simp [wsV]), ok _ (by simp [wsV]), ok _ (by simp [wsV])⟩
  have h2 := hd.2.2
  rw [h] at h2
  exact (Option.some.inj h2).symm
theorem vx_runVW {y : MethodName} {bytes cc : ByteArray} {maxL nL mc ms n index : Nat} {ret : Option FieldType} {hh : List (Nat × Nat × Nat × Nat)} {ws : List Cond} {rm : Room} {Pc : Array Value → State → Prop} {Qc : Array Value → State → Outcome → State → Prop} {free : Addr → Prop} {Ts : List Cond} {own C : String} {b : Addr} {As rest : List Value} {g : JFrame}
    (S : CallFix p m c cc nL s args Ts own) (hM : Met l y ws rm Pc Qc mc ms free) (cw : vx_CVW R s args own C index y bytes maxL ret hh ws rm mc ms n) (hp : PreV s H C b Pc As)
    (hg : g.method = m) (hn : As.length = n) (hsize : g.locals.size = nL) (hstack : g.stack = As.reverse ++ .ref b :: rest) (hW : 2 * g.monitorRoom + (rest.map fun v => v.category).sum ≤ 8) (hdg : decode cc g.pc = .ok (.invokevirtual index, 3)) (hf : cells + mc ≤ R.cells ∧ slots + ms ≤ R.slots) :
    va_Run p l e R s m args below meth c H locs cells slots mc ms g rest (Qc (Value.ref b :: As).toArray) free := by
  obtain ⟨⟨hrc, hrs, hfr, hlo, hws, hcw⟩, hcode, hini, hy, hlen, hl, hin, hse⟩ := cw
  have hK : Back l R p e below s args y 3 8 (PreOf R mc ms Pc) (PostOf Qc mc ms free) := va_backW (hh := hh) (bytes := bytes) (maxL := maxL) (ret := ret) hM hp.1 hrc hrs hfr hlo hws hcw (fun a' U hW => word_at hW (Or.inl (by first | rfl | simp [Cond.onTables, Cond.keeps, Cond.steady])) hini)
  obtain ⟨hx, hb, hml, ho, -⟩ := S
  obtain ⟨-, ⟨cellB, hcB, hoB, hclB⟩, hPc⟩ := hp
  intro T hT X
  obtain ⟨v, vm₁, ⟨U', l2, c2, s2⟩, hW₁, X', ⟨g', mk, t, L, e1, e2, hq, h1, hL, h2, h3⟩, st⟩ := vx_callVW X hx (C := C) (hh := hh) (bytes := bytes) (maxL := maxL) (ret := ret) ho hl hin hse hcode hy hK (by rw [hT]; exact hcB) hoB hclB hg (hsize.trans hml.symm) (argsL := As) (rest := rest) (fun sig h => hn.trans (hlen sig h)) hstack hW (by rw [hb]; exact hdg)
    (fun vm₁ hW₁ => ⟨hf.1, hf.2, hPc (T.setVm vm₁) hT hW₁⟩)
  dsimp only [Pt.U, Pt.locs, Pt.cells, Pt.slots] at X' e1 e2 h1 h2 h3 st
  subst h1; subst h2; subst h3
  exact ⟨v, (T.setVm vm₁).calling g' mk (Value.ref b :: As).toArray, t, U', L, hT, X', hL, e1, e2, hq, st⟩
section
variable {y : MethodName} {bytes cc : ByteArray} {maxL nL mc ms n index : Nat} {ret : Option FieldType} {ws : List Cond} {rm : Room} {Pc : Array Value → State → Prop} {Qc : Array Value → State → Outcome → State → Prop} {XC : String → State → State → Prop} {free : Addr → Prop} {Ts : List Cond} {own C : String} {b : Addr} {As rest : List Value} {g : JFrame}
theorem vx_runVX {hh : List (Nat × Nat × Nat × Nat)} (S : CallFix p m c cc nL s args Ts own) (hM : vx_Met l y ws rm Pc Qc XC mc ms free) (cw : vx_CVW R s args own C index y bytes maxL ret hh ws rm mc ms n) (hp : PreV s H C b Pc As)
    (hg : g.method = m) (hn : As.length = n) (hsize : g.locals.size = nL) (hstack : g.stack = As.reverse ++ .ref b :: rest) (hW : 2 * g.monitorRoom + (rest.map fun v => v.category).sum ≤ 8) (hdg : decode cc g.pc = .ok (.invokevirtual index, 3)) (hf : cells + mc ≤ R.cells ∧ slots + ms ≤ R.slots) :
    vx_Run p l e R s m args below meth c H locs cells slots mc ms g rest (Qc (Value.ref b :: As).toArray) XC free := by
  obtain ⟨⟨hrc, hrs, hfr, hlo, hws, hcw⟩, hcode, hini, hy, hlen, hl, hin, hse⟩ := cw
  have hK : vx_Back l R p e below s args y 3 8 (PreOf R mc ms Pc) (PostOf Qc mc ms free) (vx_Post XC mc ms free) := vx_backW (hh := hh) (bytes := bytes) (maxL := maxL) (ret := ret) hM hp.1 hrc hrs hfr hlo hws hcw (fun a' U hW => word_at hW (Or.inl (by first | rfl | simp [Cond.onTables, Cond.keeps, Cond.steady])) hini)
  obtain ⟨hx, hb, hml, ho, -⟩ := S
  obtain ⟨-, ⟨cellB, hcB, hoB, hclB⟩, hPc⟩ := hp
  intro T hT X
  rcases vx_callVX X hx (C := C) (hh := hh) (bytes := bytes) (maxL := maxL) (ret := ret) ho hl hin hse hcode hy hK (by rw [hT]; exact hcB) hoB hclB hg (hsize.trans hml.symm) (argsL := As) (rest := rest) (fun sig h => hn.trans (hlen sig h)) hstack hW (by rw [hb]; exact hdg)
    (fun vm₁ hW₁ => ⟨hf.1, hf.2, hPc (T.setVm vm₁) hT hW₁⟩) with ⟨v, vm₁, ⟨U', l2, c2, s2⟩, hW₁, X', ⟨g', mk, t, L, e1, e2, hq, h1, hL, h2, h3⟩, st⟩ | ⟨q, vm₁, ⟨U', l2, c2, s2⟩, hW₁, X', ⟨g', mk, t, L, E, ce, e1, e2, hq, hce, hcv, hcl, h1, hL, h2, h3⟩, st⟩
  · dsimp only [Pt.U, Pt.locs, Pt.cells, Pt.slots] at X' e1 e2 h1 h2 h3 st
    subst h1; subst h2; subst h3
    exact Or.inl ⟨v, (T.setVm vm₁).calling g' mk (Value.ref b :: As).toArray, t, U', L, hT, X', hL, e1, e2, hq, st⟩
  · dsimp only [Pt.U, Pt.locs, Pt.cells, Pt.slots] at X' e1 e2 h1 h2 h3 st hcl
    subst h1; subst h2; subst h3
    exact Or.inr ⟨q, (T.setVm vm₁).calling g' mk (Value.ref b :: As).toArray, t, U', L, E, ce, hT, X', hL, e1, e2, hq, hce, hcv, vx_cls hW₁ hcl, st⟩
theorem vx_runSX {hh : List (Nat × Nat × Nat × Nat)} (S : CallFix p m c cc nL s args Ts own) (hM : vx_Met l y ws rm Pc Qc XC mc ms free) (cw : vx_CSW R s args own index y bytes maxL ret hh ws rm mc ms n) (hp : PreS s H Pc As)
    (hg : g.method = m) (hn : As.length = n) (hsize : g.locals.size = nL) (hstack : g.stack = As.reverse ++ rest) (hW : 2 * g.monitorRoom + (rest.map fun v => v.category).sum ≤ 8) (hdg : decode cc g.pc = .ok (.invokestatic index, 3)) (hf : cells + mc ≤ R.cells ∧ slots + ms ≤ R.slots) :
    vx_Run p l e R s m args below meth c H locs cells slots mc ms g rest (Qc As.toArray) XC free := by
  obtain ⟨⟨hrc, hrs, hfr, hlo, hws, hcw⟩, hcode, hini, hy, hlen, hl, hstt⟩ := cw
  have hK : vx_Back l R p e below s args y 3 8 (PreOf R mc ms Pc) (PostOf Qc mc ms free) (vx_Post XC mc ms free) := vx_backW (hh := hh) (bytes := bytes) (maxL := maxL) (ret := ret) hM hp.1 hrc hrs hfr hlo hws hcw (fun a' U hW => word_at hW (Or.inl (by first | rfl | simp [Cond.onTables, Cond.keeps, Cond.steady])) hini)
  obtain ⟨hx, hb, hml, ho, -⟩ := S
  intro T hT X
  rcases vx_callSX X hx (hh := hh) (bytes := bytes) (maxL := maxL) (ret := ret) ho hl hstt hini hcode hy hK hg (hsize.trans hml.symm) (argsL := As) (rest := rest) (fun sig h => hn.trans (hlen sig h)) hstack hW (by rw [hb]; exact hdg)
    (fun vm₁ hW₁ => ⟨hf.1, hf.2, hp.2 (T.setVm vm₁) hT hW₁⟩) with ⟨v, vm₁, ⟨U', l2, c2, s2⟩, hW₁, X', ⟨g', mk, t, L, e1, e2, hq, h1, hL, h2, h3⟩, st⟩ | ⟨q, vm₁, ⟨U', l2, c2, s2⟩, hW₁, X', ⟨g', mk, t, L, E, ce, e1, e2, hq, hce, hcv, hcl, h1, hL, h2, h3⟩, st⟩
  · dsimp only [Pt.U, Pt.locs, Pt.cells, Pt.slots] at X' e1 e2 h1 h2 h3 st
    subst h1; subst h2; subst h3
    exact Or.inl ⟨v, (T.setVm vm₁).calling g' mk As.toArray, t, U', L, hT, X', hL, e1, e2, hq, st⟩
  · dsimp only [Pt.U, Pt.locs, Pt.cells, Pt.slots] at X' e1 e2 h1 h2 h3 st hcl
    subst h1; subst h2; subst h3
    exact Or.inr ⟨q, (T.setVm vm₁).calling g' mk As.toArray, t, U', L, E, ce, hT, X', hL, e1, e2, hq, hce, hcv, vx_cls hW₁ hcl, st⟩
end
end VXH
theorem vx_ofWH {l : Launch} {y : MethodName} {ws ws' : List Cond} {rm : Room} {Pc : Array Value → State → Prop} {Qc : Array Value → State → Outcome → State → Prop} {XC : String → State → State → Prop} {mc ms : Nat} {free : Addr → Prop} {cc : ByteArray} {maxL : Nat} {ret : Option FieldType} {hh : List (Nat × Nat × Nat × Nat)}
    (hy : plainName y.cls = true) (hw : ws = Cond.codeWith y cc maxL ret hh :: ws')
    (body : ∀ p e s m args below meth c s₁, BodyLoose p l y (headSpec ws rm) cc maxL ret e s m args below meth c s₁ → c.maxLocals = maxL → Pc args s →
      W p l e (headSpec ws rm).room s m args below meth c s.heap [] 0 0 (vx_MQ below Qc XC args s mc ms free) (entryFrame m args maxL)) : vx_Met l y ws rm Pc Qc XC mc ms free := by
  refine MetFree.of_bodyS (code := cc) (maxLocals := maxL) (ret := ret) hy ?_ ?_
  · intro args s m h hn
    obtain ⟨m9, meth, c, hn9, h1, h2, h3, h4, -, h5, h6, -⟩ := Cond.codeWith_spec (atoms_spec (ws := ws) h _ (by rw [hw]; exact List.mem_cons_self))
    cases hn.symm.trans hn9
    exact ⟨meth, c, h1, h2, h3, h4, h5, h6⟩
  · intro p e s m args below meth c s₁ B hml hP _
    have hh0 : s₁.heap = s.heap := by rw [B.state]; rfl
    obtain ⟨t, a1, o, b1, b2, b3⟩ := body p e s m args below meth c s₁ B hml hP s₁ hh0 (Stand.of_body B)
    exact ⟨t, o, a1, b1, b2, b3⟩
/-! ===== END ===== -/
end
section
section
variable {p : Program} {l : Launch} {e : Env} {R : Room} {s : State} {m : MethodId} {args : Array Value} {below : List Frame} {meth : Method} {c : Code} {H : Heap} {locs : List Loc} {cells slots : Nat}
/-- a frame seen from a rebased start, seen from the first start again -/
theorem vx_back9 {T S : State} {R' : Room} {k n : Nat} (X : Stand p l e R s m args below meth c T locs cells slots) (Y : Stand p l e R' ((T.setVm s.vm).setFrames (.invoking m args :: below)) m args below meth c T [] 0 0) (Z : Stand p l e R' ((T.setVm s.vm).setFrames (.invoking m args :: below)) m args below meth c S [] k n) :
    Stand p l e R s m args below meth c S locs (cells + k) (slots + n) := by
  have hW0 : s.WarmedH ((T.setVm s.vm).setFrames (.invoking m args :: below)).vm := State.WarmedH.refl s
  refine { admits := X.admits, cas := X.cas, clock := X.clock, frames := X.frames, room := X.room, hears := X.hears, method := X.method, code := X.code, here := Z.here, tail := Z.tail, warmed := State.WarmedH.trans hW0 Z.warmed, limits := Z.limits.trans (Y.limits.symm.trans X.limits), bytes := Z.bytes.trans (Y.bytes.symm.trans X.bytes), same := ?_ }
  obtain ⟨e1, e2⟩ := Z.same
  rw [State.setFrames_setFrames] at e1
  have h2 : (T.setVm s.vm).sameButNew (S.setVm s.vm) [] k n := ⟨e1, e2⟩
  have h3 := X.same.trans h2
  rw [List.append_nil] at h3
  exact h3
end
/-! ===== BEGIN an exception as an object: made, kept, thrown later (no traces kept) ===== -/
section VXK
variable {p : Program} {l : Launch} {e : Env} {R : Room} {s : State} {m₀ : MethodId} {args : Array Value} {below : List Frame} {meth : Method} {c : Code} {W : State} {locs : List Loc} {cells slots : Nat}
set_option maxHeartbeats 1000000 in
theorem vx_ctorMadeS (X : Stand p l e R s m₀ args below meth c W locs cells slots) (hexec : p.tables.exec = Jvm.exec) (htr : e.platform.stackTraces = false) {own cls : String} {names : List String} {ic : Nat}
    (hown : s.vm.findClass own = some m₀.cls) (hcls : Bundle.fit cls = true) (hnames : ∀ n ∈ names, Bundle.fit n = true)
    (h : ∀ a ∈ Bundle.ownAtoms own ic cls names, a.before args s = true)
    (hlocs : ∀ x ∈ locs, ∀ cell, s.heap[x.base]? = some cell → cell.vm.isStatics = false)
    {a : Addr} {cX : ClassId} {kX : Class} (hfoundX : s.vm.findClass cls = some cX) (hkX : s.vm.classes[cX]? = some kX) (hcell : W.heap[a]? = some (freshCell cX kX)) (hnew : s.heap.size ≤ a)
    {msg : Value} (hmsg : msg.isRef = true)
    {g : JFrame} (hg : g.method = m₀) (hsize : g.locals.size = c.maxLocals) {rest : List Value} (hstack : g.stack = msg :: .ref a :: .ref a :: rest)
    (hd6 : decode c.code g.pc = .ok (.invokespecial ic, 3))
    (hRframes : names.length + 3 < R.frames) (hRlocals : 2 * g.monitorRoom + ((Value.ref a :: rest).map fun v => v.category).sum + (13 * (names.length + 1) + 42) ≤ R.locals) :
    ∃ (V : State) (ce : Cell) (L : List Loc), Stand p l e R s m₀ args below meth c (V.setCell a ce) (locs ++ L) cells slots ∧ (∀ y ∈ L, y.base = a) ∧ a < V.heap.size ∧ ce.cls = cX ∧ ce.vm = .none ∧
      ∀ target, Steps p.tables e below ((V.setCell a ce).setTop { g with stack := .ref a :: rest, pc := g.pc + 3 }) target → Steps p.tables e below (W.setTop g) target := by
  have howns : e.platform.frameOwnsMonitors = true := by rw [X.admits.platform]
  have hfin : e.platform.finalization = false := by rw [X.admits.platform]
  have hpl : e.platform.magicAccessors = ({} : Platform).magicAccessors := by rw [X.admits.platform]
  have a' : ∀ x, x ∈ Bundle.ownAtoms own ic cls names → x.holds args s none s [] = true := fun x hx => h x hx
  obtain ⟨T, Z0, L, -, Y⟩ := ThrowableC.of_atoms (args := args) howns hfin hpl (fun x hx => h x (by simp [Bundle.ownAtoms, hx]))
  obtain ⟨Z, M, LZ, LM, hnZ⟩ := Init0T.ofS_atoms (args := args) hpl L Y (fun x hx => h x (by simp [Bundle.ownAtoms, hx]))
  obtain ⟨P1, Ps, hlen, L1, hL, hP1m, hlink1, hlink⟩ := Bundle.chainS (args := args) hpl hnZ names cls hcls hnames (fun x hx => h x (by simp [Bundle.ownAtoms, hx]))
  have hfound : s.vm.findClass cls = some P1.m.cls := findClass_of_methodNamed hP1m
  cases Option.some.inj (hfoundX.symm.trans hfound)
  obtain ⟨c1, kX', hc1, hk, hord, -, -, hn6⟩ := Cond.instantiable_spec (a' (.instantiable cls 6) (by simp [Bundle.ownAtoms]))
  cases Option.some.inj (hc1.symm.trans hfound)
  cases Option.some.inj (hkX.symm.trans hk)
  have hsel0 : selectMethod e.platform s.vm P1.m.cls T.fill0 = .method T.fill0 := by
    obtain ⟨c2, r2, m2, q1, q2, q3, q4, -⟩ := Cond.selects_spec (a' (.selects cls Bundle.tFill0 Bundle.tFill0) (by simp [Bundle.ownAtoms]))
    cases Option.some.inj (q1.symm.trans hfound)
    cases Option.some.inj (q2.symm.trans (State.methodFound?_of_named Y.fill0 (by decide)))
    cases Option.some.inj (q3.symm.trans Y.fill0)
    rw [Launch.admits_selectMethod X.admits]; exact q4
  have hselF : selectMethod e.platform s.vm P1.m.cls T.fill = .method T.fill := by
    obtain ⟨c2, r2, m2, q1, q2, q3, q4, -⟩ := Cond.selects_spec (a' (.selects cls Bundle.tFill Bundle.tFill) (by simp [Bundle.ownAtoms]))
    cases Option.some.inj (q1.symm.trans hfound)
    cases Option.some.inj (q2.symm.trans (State.methodFound?_of_named Y.fill (by decide)))
    cases Option.some.inj (q3.symm.trans Y.fill)
    rw [Launch.admits_selectMethod X.admits]; exact q4
  obtain ⟨cellS0, hcS0, hiss⟩ := Y.statics
  obtain ⟨u0, hu0⟩ := Cond.staticRefV Y.unassigned L.unassignedStatic L.statics hcS0 hiss (a' (.isRef (.static Bundle.tN "UNASSIGNED_STACK" Bundle.steD)) (by simp [Bundle.ownAtoms]))
  obtain ⟨sen, hsen⟩ := Cond.staticRefV Y.sentinel L.sentinelStatic L.statics hcS0 hiss (a' (.isRef (.static Bundle.tN "SUPPRESSED_SENTINEL" Bundle.listD)) (by simp [Bundle.ownAtoms]))
  obtain ⟨ci198, i198, fB, hk198, hg198, ha198, hsB, -, hnB, htB, hffB⟩ := Cond.ownField (t := .object "java/lang/Object") Y.found L.cls (by decide +kernel) (a' (.fieldLink Bundle.tN 198 Bundle.tN "backtrace" "Ljava/lang/Object;") (by simp [Bundle.ownAtoms])) (a' (.lays Bundle.tN Bundle.tN "backtrace" "Ljava/lang/Object;") (by simp [Bundle.ownAtoms])) e.platform hpl
  obtain ⟨cellS, hcS', heS, -, hkeep⟩ := X.same.2.2.2.2.2 T.aS cellS0 hcS0
  have hcellS : W.heap[T.aS]? = some cellS := hcS'
  have hout' : ∀ i, (⟨T.aS, i⟩ : Loc) ∉ locs := fun i hmem => by
    have := hlocs _ hmem cellS0 hcS0
    rw [hiss] at this; cases this
  have hknownS : cellS.vm ≠ .unknown := by
    rw [heS]; intro hu
    rw [show cellS0.vm = .unknown from hu] at hiss
    cases hiss
  have hneS : T.aS ≠ a := Nat.ne_of_lt (Nat.lt_of_lt_of_le (Array.getElem?_eq_some_iff.mp hcS0).1 hnew)
  obtain ⟨iM, hffM⟩ := Y.msg
  obtain ⟨tyC, dC, hdC, hdnC⟩ := Cond.laysAt hfound hk Y.cause (a' (.lays cls Bundle.tN "cause" "Ljava/lang/Throwable;") (by simp [Bundle.ownAtoms]))
  obtain ⟨tyS, dS, hdS, hdnS⟩ := Cond.laysAt hfound hk Y.stack (a' (.lays cls Bundle.tN "stackTrace" Bundle.steD) (by simp [Bundle.ownAtoms]))
  obtain ⟨tyP, dP, hdP, hdnP⟩ := Cond.laysAt hfound hk Y.supp (a' (.lays cls Bundle.tN "suppressedExceptions" Bundle.listD) (by simp [Bundle.ownAtoms]))
  obtain ⟨tyM, dM, hdM, hdnM⟩ := Cond.laysAt hfound hk hffM (a' (.lays cls Bundle.tN "detailMessage" "Ljava/lang/String;") (by simp [Bundle.ownAtoms]))
  obtain ⟨tyB, dB, hdB, hdnB⟩ := Cond.laysAt hfound hk hffB (a' (.lays cls Bundle.tN "backtrace" "Ljava/lang/Object;") (by simp [Bundle.ownAtoms]))
  have bC := Cond.laysApart hdB hdC hdnB hdnC (by rw [hnB, Y.causeName]; decide)
  have bS := Cond.laysApart hdB hdS hdnB hdnS (by rw [hnB, Y.stackName]; decide)
  have bP := Cond.laysApart hdB hdP hdnB hdnP (by rw [hnB, Y.suppName]; decide)
  have hskip : SkipFacts T e.platform s (fun u => u) u0 ((preparedCellV T.toThrowableT (freshCell P1.m.cls kX) a u0 sen).withEntry W.cur) :=
    ⟨{ ci198 := ci198, i198 := i198, fBack := fB }, ⟨hk198, hg198, ha198, hsB⟩, by
      have := fresh_default (c := P1.m.cls) tyB
      rw [htB] at this
      simpa [preparedCellV, Cell.setSlot, Cell.withEntry, Array.getElem?_setIfInBounds, bC, bS, bP, bC.symm, bS.symm, bP.symm, defaultValue] using this, fun _ _ => rfl⟩
  obtain ⟨tm, methC, cdC, kC, vm₁, hnC, -, -, -, -, -, -, -, hW₁, st1⟩ := Steps.initColdS (tb := p.tables) (e := e) (below := below) (s := s) (U := W) X.here hexec X.warmed hpl hown (t := Bundle.initS cls) rfl rfl (Bundle.fit_spec hcls).2
    (a' (.methodLink own ic (Bundle.initS cls)) (by simp [Bundle.ownAtoms])) (h (.instanceMethod (Bundle.initS cls)) (by cases names <;> simp [Bundle.ownAtoms, Bundle.chainSAtoms, Bundle.passSAtoms])) (bytes := Bundle.six) (maxL := 2) (h (.code (Bundle.initS cls) Bundle.six 2 none) (by cases names <;> simp [Bundle.ownAtoms, Bundle.chainSAtoms, Bundle.passSAtoms]))
    (f := g) hg (a := a) (msg := msg) (rest := .ref a :: rest) hstack hd6
  cases Option.some.inj (hnC.symm.trans hP1m)
  have X₁ := X.noted hW₁
  obtain ⟨vm₂, X₂, st2⟩ := X₁.ctorMessageOffV hexec (g := { g with stack := .ref a :: rest }) hg hsize T L Z LZ M LM (P1 :: Ps)
    (fun P hP => by rcases List.mem_cons.mp hP with rfl | hP; exact L1; exact hL P hP) ⟨hlink1, hlink⟩ (u0 := u0) (sen := sen) (self := a) hmsg (cell := freshCell P1.m.cls kX) (cellS := cellS)
    hcell (fun _ => by simp) (by simp) rfl rfl hsel0 hselF hcellS hneS hknownS (by rw [hkeep _ (hout' _)]; exact hu0) (by rw [hkeep _ (hout' _)]; exact hsen)
    (Takes.of_laid hk hord tyC (by rw [Y.causeType]; rfl)) (Takes.of_laid hk hord tyS (by rw [Y.stackType]; exact fits_refV_array _ u0)) (Takes.of_laid hk hord tyP (by rw [Y.suppType]; exact fits_refV_object _ sen))
    (Takes.of_laid hk hord tyM (by rw [Y.msgType]; exact fits_refV_object _ ⟨msg, hmsg⟩)) Y.objLocals hskip htr [] hd6
    (by simp only [List.length_cons, hlen]; omega) (by simp only [List.length_cons, hlen]; exact hRlocals)
  have hlt : a < ((W.setVm vm₁).setVm vm₂).heap.size := (Array.getElem?_eq_some_iff.mp hcell).1
  refine ⟨(W.setVm vm₁).setVm vm₂, _, _, X₂, fun y hy => ?_, hlt, rfl, rfl, fun target hwalk => st1 _ (fun acts => ?_)⟩
  · simp only [List.mem_cons, List.not_mem_nil, or_false] at hy
    rcases hy with rfl | rfl | rfl | rfl | rfl <;> rfl
  · rw [doInvoke_state]
    exact st2 _ hwalk
set_option maxHeartbeats 1000000 in
theorem vx_ctorMade0 (X : Stand p l e R s m₀ args below meth c W locs cells slots) (hexec : p.tables.exec = Jvm.exec) (htr : e.platform.stackTraces = false) {own cls : String} {names : List String} {ic : Nat}
    (hown : s.vm.findClass own = some m₀.cls) (hcls : Bundle.fit cls = true) (hnames : ∀ n ∈ names, Bundle.fit n = true)
    (h : ∀ a ∈ Bundle.ownAtoms0 own ic cls names, a.before args s = true)
    (hlocs : ∀ x ∈ locs, ∀ cell, s.heap[x.base]? = some cell → cell.vm.isStatics = false)
    {a : Addr} {cX : ClassId} {kX : Class} (hfoundX : s.vm.findClass cls = some cX) (hkX : s.vm.classes[cX]? = some kX) (hcell : W.heap[a]? = some (freshCell cX kX)) (hnew : s.heap.size ≤ a)
    {g : JFrame} (hg : g.method = m₀) (hsize : g.locals.size = c.maxLocals) {rest : List Value} (hstack : g.stack = .ref a :: .ref a :: rest)
    (hd6 : decode c.code g.pc = .ok (.invokespecial ic, 3))
    (hRframes : names.length + 3 < R.frames) (hRlocals : 2 * g.monitorRoom + ((Value.ref a :: rest).map fun v => v.category).sum + (13 * (names.length + 1) + 41) ≤ R.locals) :
    ∃ (V : State) (ce : Cell) (L : List Loc), Stand p l e R s m₀ args below meth c (V.setCell a ce) (locs ++ L) cells slots ∧ (∀ y ∈ L, y.base = a) ∧ a < V.heap.size ∧ ce.cls = cX ∧ ce.vm = .none ∧
      ∀ target, Steps p.tables e below ((V.setCell a ce).setTop { g with stack := .ref a :: rest, pc := g.pc + 3 }) target → Steps p.tables e below (W.setTop g) target := by
  have howns : e.platform.frameOwnsMonitors = true := by rw [X.admits.platform]
  have hfin : e.platform.finalization = false := by rw [X.admits.platform]
  have hpl : e.platform.magicAccessors = ({} : Platform).magicAccessors := by rw [X.admits.platform]
  have a' : ∀ x, x ∈ Bundle.ownAtoms0 own ic cls names → x.holds args s none s [] = true := fun x hx => h x hx
  obtain ⟨T, Z, L, LZ, Y⟩ := ThrowableC.of_atoms (args := args) howns hfin hpl (fun x hx => h x (by simp [Bundle.ownAtoms0, hx]))
  obtain ⟨P1, Ps, hlen, L1, hL, hP1m, hlink1, hlink⟩ := Bundle.chain0 (args := args) hpl Y.init0 names cls hcls hnames (fun x hx => h x (by simp [Bundle.ownAtoms0, hx]))
  have hfound : s.vm.findClass cls = some P1.m.cls := findClass_of_methodNamed hP1m
  cases Option.some.inj (hfoundX.symm.trans hfound)
  obtain ⟨c1, kX', hc1, hk, hord, -, -, hn6⟩ := Cond.instantiable_spec (a' (.instantiable cls 6) (by simp [Bundle.ownAtoms0]))
  cases Option.some.inj (hc1.symm.trans hfound)
  cases Option.some.inj (hkX.symm.trans hk)
  have hsel0 : selectMethod e.platform s.vm P1.m.cls T.fill0 = .method T.fill0 := by
    obtain ⟨c2, r2, m2, q1, q2, q3, q4, -⟩ := Cond.selects_spec (a' (.selects cls Bundle.tFill0 Bundle.tFill0) (by simp [Bundle.ownAtoms0]))
    cases Option.some.inj (q1.symm.trans hfound)
    cases Option.some.inj (q2.symm.trans (State.methodFound?_of_named Y.fill0 (by decide)))
    cases Option.some.inj (q3.symm.trans Y.fill0)
    rw [Launch.admits_selectMethod X.admits]; exact q4
  have hselF : selectMethod e.platform s.vm P1.m.cls T.fill = .method T.fill := by
    obtain ⟨c2, r2, m2, q1, q2, q3, q4, -⟩ := Cond.selects_spec (a' (.selects cls Bundle.tFill Bundle.tFill) (by simp [Bundle.ownAtoms0]))
    cases Option.some.inj (q1.symm.trans hfound)
    cases Option.some.inj (q2.symm.trans (State.methodFound?_of_named Y.fill (by decide)))
    cases Option.some.inj (q3.symm.trans Y.fill)
    rw [Launch.admits_selectMethod X.admits]; exact q4
  obtain ⟨cellS0, hcS0, hiss⟩ := Y.statics
  obtain ⟨u0, hu0⟩ := Cond.staticRefV Y.unassigned L.unassignedStatic L.statics hcS0 hiss (a' (.isRef (.static Bundle.tN "UNASSIGNED_STACK" Bundle.steD)) (by simp [Bundle.ownAtoms0]))
  obtain ⟨sen, hsen⟩ := Cond.staticRefV Y.sentinel L.sentinelStatic L.statics hcS0 hiss (a' (.isRef (.static Bundle.tN "SUPPRESSED_SENTINEL" Bundle.listD)) (by simp [Bundle.ownAtoms0]))
  obtain ⟨ci198, i198, fB, hk198, hg198, ha198, hsB, -, hnB, htB, hffB⟩ := Cond.ownField (t := .object "java/lang/Object") Y.found L.cls (by decide +kernel) (a' (.fieldLink Bundle.tN 198 Bundle.tN "backtrace" "Ljava/lang/Object;") (by simp [Bundle.ownAtoms0])) (a' (.lays Bundle.tN Bundle.tN "backtrace" "Ljava/lang/Object;") (by simp [Bundle.ownAtoms0])) e.platform hpl
  obtain ⟨cellS, hcS', heS, -, hkeep⟩ := X.same.2.2.2.2.2 T.aS cellS0 hcS0
  have hcellS : W.heap[T.aS]? = some cellS := hcS'
  have hout' : ∀ i, (⟨T.aS, i⟩ : Loc) ∉ locs := fun i hmem => by
    have := hlocs _ hmem cellS0 hcS0
    rw [hiss] at this; cases this
  have hknownS : cellS.vm ≠ .unknown := by
    rw [heS]; intro hu
    rw [show cellS0.vm = .unknown from hu] at hiss
    cases hiss
  have hneS : T.aS ≠ a := Nat.ne_of_lt (Nat.lt_of_lt_of_le (Array.getElem?_eq_some_iff.mp hcS0).1 hnew)
  obtain ⟨iM, hffM⟩ := Y.msg
  obtain ⟨tyC, dC, hdC, hdnC⟩ := Cond.laysAt hfound hk Y.cause (a' (.lays cls Bundle.tN "cause" "Ljava/lang/Throwable;") (by simp [Bundle.ownAtoms0]))
  obtain ⟨tyS, dS, hdS, hdnS⟩ := Cond.laysAt hfound hk Y.stack (a' (.lays cls Bundle.tN "stackTrace" Bundle.steD) (by simp [Bundle.ownAtoms0]))
  obtain ⟨tyP, dP, hdP, hdnP⟩ := Cond.laysAt hfound hk Y.supp (a' (.lays cls Bundle.tN "suppressedExceptions" Bundle.listD) (by simp [Bundle.ownAtoms0]))
  obtain ⟨tyM, dM, hdM, hdnM⟩ := Cond.laysAt hfound hk hffM (a' (.lays cls Bundle.tN "detailMessage" "Ljava/lang/String;") (by simp [Bundle.ownAtoms0]))
  obtain ⟨tyB, dB, hdB, hdnB⟩ := Cond.laysAt hfound hk hffB (a' (.lays cls Bundle.tN "backtrace" "Ljava/lang/Object;") (by simp [Bundle.ownAtoms0]))
  have bC := Cond.laysApart hdB hdC hdnB hdnC (by rw [hnB, Y.causeName]; decide)
  have bS := Cond.laysApart hdB hdS hdnB hdnS (by rw [hnB, Y.stackName]; decide)
  have bP := Cond.laysApart hdB hdP hdnB hdnP (by rw [hnB, Y.suppName]; decide)
  have hskip : SkipFacts T e.platform s (fun u => u) u0 ((preparedCellV T.toThrowableT (freshCell P1.m.cls kX) a u0 sen).withEntry W.cur) :=
    ⟨{ ci198 := ci198, i198 := i198, fBack := fB }, ⟨hk198, hg198, ha198, hsB⟩, by
      have := fresh_default (c := P1.m.cls) tyB
      rw [htB] at this
      simpa [preparedCellV, Cell.setSlot, Cell.withEntry, Array.getElem?_setIfInBounds, bC, bS, bP, bC.symm, bS.symm, bP.symm, defaultValue] using this, fun _ _ => rfl⟩
  obtain ⟨tm, methC, cdC, kC, vm₁, hnC, -, -, -, -, -, -, -, hW₁, st1⟩ := Steps.initCold (tb := p.tables) (e := e) (below := below) (s := s) (U := W) X.here hexec X.warmed hpl hown (t := Bundle.init0 cls) rfl rfl (Bundle.fit_spec hcls).2
    (a' (.methodLink own ic (Bundle.init0 cls)) (by simp [Bundle.ownAtoms0])) (h (.instanceMethod (Bundle.init0 cls)) (by cases names <;> simp [Bundle.ownAtoms0, Bundle.chain0Atoms, Bundle.passAtoms])) (bytes := Bundle.five) (maxL := 1) (h (.code (Bundle.init0 cls) Bundle.five 1 none) (by cases names <;> simp [Bundle.ownAtoms0, Bundle.chain0Atoms, Bundle.passAtoms]))
    (f := g) hg (a := a) (rest := .ref a :: rest) hstack hd6
  cases Option.some.inj (hnC.symm.trans hP1m)
  have X₁ := X.noted hW₁
  obtain ⟨vm₂, X₂, st2⟩ := X₁.ctorPlainOffV hexec (g := { g with stack := .ref a :: rest }) hg hsize T L Z LZ (P1 :: Ps)
    (fun P hP => by rcases List.mem_cons.mp hP with rfl | hP; exact L1; exact hL P hP) ⟨hlink1, hlink⟩ (u0 := u0) (sen := sen) (self := a) (cell := freshCell P1.m.cls kX) (cellS := cellS)
    hcell (fun _ => by simp) (by simp) rfl rfl hsel0 hselF hcellS hneS hknownS (by rw [hkeep _ (hout' _)]; exact hu0) (by rw [hkeep _ (hout' _)]; exact hsen)
    (Takes.of_laid hk hord tyC (by rw [Y.causeType]; rfl)) (Takes.of_laid hk hord tyS (by rw [Y.stackType]; exact fits_refV_array _ u0)) (Takes.of_laid hk hord tyP (by rw [Y.suppType]; exact fits_refV_object _ sen)) Y.objLocals hskip htr [] hd6
    (by simp only [List.length_cons, hlen]; omega) (by simp only [List.length_cons, hlen]; exact hRlocals)
  have hlt : a < ((W.setVm vm₁).setVm vm₂).heap.size := (Array.getElem?_eq_some_iff.mp hcell).1
  refine ⟨(W.setVm vm₁).setVm vm₂, _, _, X₂, fun y hy => ?_, hlt, rfl, rfl, fun target hwalk => st1 _ (fun acts => ?_)⟩
  · simp only [List.mem_cons, List.not_mem_nil, or_false] at hy
    rcases hy with rfl | rfl | rfl | rfl <;> rfl
  · rw [doInvoke_state]
    exact st2 _ hwalk
end VXK
section VXK2
variable {p : Program} {l : Launch} {e : Env} {R : Room} {s : State} {m : MethodId} {args : Array Value} {below : List Frame} {meth : Method} {c : Code} {H : Heap} {locs : List Loc} {cells slots : Nat} {Q : State → Prop}
variable {ls : Array Slot} {rest : List Value} {D : va_G} {cl : List vw_C} {tys : List (ClassId × FieldType)} {ws : va_W}
/-- 'new E("text")' that isn't thrown at once: the object goes on the stack -/
theorem vx_makeS {cc : ByteArray} {pc : Nat} (hexec : p.tables.exec = Jvm.exec) (hb : c.code = cc) (hl : l.stackTraces = false) {own cls text : String} {names : List String} {ik is ic sa ci : Nat} {A : Nat → Prop} {T0 : u_T}
    (hown : s.vm.findClass own = some m.cls) (hcls : Bundle.fit cls = true) (hnames : ∀ n ∈ names, Bundle.fit n = true)
    (hk : (Cond.classLink own ik cls).before args s = true) (hini : (Cond.initialized cls).before args s = true) (hstr : vk_R own is text sa s) (hat : ∀ w ∈ vx_atS own ic cls names, w.before args s = true)
    (hgood : ∀ w ∈ Cond.classLink own ik cls :: Cond.initialized cls :: vx_atS own ic cls names, vx_ot w = true)
    (hU : vx_Zq Bundle.tN "UNASSIGNED_STACK" Bundle.steD A s s.heap) (hN : vx_Zq Bundle.tN "SUPPRESSED_SENTINEL" Bundle.listD A s s.heap) (hS : va_S A s.heap H locs) (hsize : ls.size = c.maxLocals)
    (d0 : decode cc pc = .ok (.new ik, 3)) (d3 : decode cc (pc + 3) = .ok (.dup, 1)) (d4 : decode cc (pc + 4) = .ok (.ldc is, 2)) (d6 : decode cc (pc + 6) = .ok (.invokespecial ic, 3))
    (hK : va_K D cl tys s) (hP : va_P D cl ws H) (hD : va_D A ws) (hA : ∀ q, s.heap.size ≤ q → A q) (hc : cl[ci]? = some (cls, T0, 0))
    (hRframes : names.length + 3 < R.frames) (hRlocals : (rest.map fun v => v.category).sum + (13 * (names.length + 1) + 43) ≤ R.locals) (hRcells : cells + 1 ≤ R.cells) (hRslots : slots + 6 ≤ R.slots)
    (kk : ∀ (q : Nat) (H1 : Heap), va_P D cl (ws ++ [(q, .inr (ci, []))]) H1 → va_D A (ws ++ [(q, .inr (ci, []))]) → va_S A s.heap H1 locs → W p l e R s m args below meth c H1 locs (cells + 1) (slots + 6) Q (F0 m (pc + 9) ls (.ref q :: rest))) :
    W p l e R s m args below meth c H locs cells slots Q (F0 m pc ls rest) := by
  intro T hT X
  subst hT
  have htr : e.platform.stackTraces = false := (show e.platform.stackTraces = l.stackTraces by rw [X.admits.platform]).trans hl
  have Y := vx_rebase X (R' := { frames := R.frames, locals := R.locals, cells := 1, slots := 6 }) (Nat.le_refl _) (Nat.le_refl _) hRcells hRslots
  obtain ⟨s', hA'⟩ : ∃ z, z = (T.setVm s.vm).setFrames (.invoking m args :: below) := ⟨_, rfl⟩
  rw [← hA'] at Y
  have hvm : s'.vm = s.vm := by rw [hA']; rfl
  have hhp : s'.heap = T.heap := by rw [hA']; rfl
  have hW0 : s.WarmedH s'.vm := by rw [hvm]; exact State.WarmedH.refl s
  have hat' : ∀ w ∈ vx_atS own ic cls names, w.before args s' = true := fun w hw => vx_ot_at hW0 hvm.symm (hgood w (List.mem_cons_of_mem _ (List.mem_cons_of_mem _ hw))) (hat w hw)
  have hk' : (Cond.classLink own ik cls).before args s' = true := vx_ot_at hW0 hvm.symm (hgood _ List.mem_cons_self) hk
  have hini' : (Cond.initialized cls).before args s' = true := vx_ot_at hW0 hvm.symm (hgood _ (List.mem_cons_of_mem _ List.mem_cons_self)) hini
  have hU' : vx_Zq Bundle.tN "UNASSIGNED_STACK" Bundle.steD A s' s'.heap := by rw [hhp]; exact vx_Zq.moved hW0.alike (hU.kept hS.2.1)
  have hN' : vx_Zq Bundle.tN "SUPPRESSED_SENTINEL" Bundle.listD A s' s'.heap := by rw [hhp]; exact vx_Zq.moved hW0.alike (hN.kept hS.2.1)
  have h : ∀ w ∈ Bundle.ownAtoms own ic cls names, w.before args s' = true := vx_own hat' (vx_isRefq hU'.1) (vx_isRefq hN'.1) hU'.2.word hN'.2.word
  have hown' : s'.vm.findClass own = some m.cls := by rw [hvm]; exact hown
  have hins : (Cond.instantiable cls 6).before args s' = true := h _ (by simp [Bundle.ownAtoms])
  obtain ⟨vm₁, cX, kX, hfX, hkX, -, -, X₁, st1⟩ := Y.newCold hexec (own := own) (C := cls) (index := ik) (n := 6) hown' hk' hins hini'
    (g := F0 m pc ls rest) rfl (by rw [hb]; exact d0) (Nat.le_refl _) (Nat.le_refl _)
  generalize hT1 : (T.setVm vm₁).pushCell { cls := cX, slots := kX.instanceTypes.map defaultValue, vm := .none } = T1 at X₁ st1
  have hcat : (Value.ref T.heap.size).category = 1 := rfl
  have hcellA : T1.heap[T.heap.size]? = some (freshCell cX kX) := by rw [← hT1]; exact State.heap_pushCell_size _ _
  have d3' : decode c.code (pc + 3) = .ok (.dup, 1) := by rw [hb]; exact d3
  have d4' : decode c.code (pc + 4) = .ok (.ldc is, 2) := by rw [hb]; exact d4
  have hstr' : vk_R own is text sa s' := vk_R.warm hW0 hstr
  obtain ⟨V, ce, L, Z, hL, hlt, hcl9, hvm9, st⟩ := vx_ctorMadeS X₁ hexec htr (own := own) (cls := cls) (names := names) (ic := ic) hown' hcls hnames h (fun x hx => nomatch hx) hfX hkX hcellA (by rw [hhp]; exact Nat.le_refl _) (msg := .ref sa) rfl
    (g := { method := m, pc := pc + 6, locals := ls, stack := .ref sa :: .ref T.heap.size :: .ref T.heap.size :: rest, locked := none }) rfl hsize (rest := rest) rfl
    (by rw [hb]; exact d6) hRframes (by simp only [List.map_cons, List.sum_cons, hcat]; omega)
  have Z0 := Stand.forget (locs := []) Z (fun y hy => by rw [hL y hy, hhp]; exact Nat.le_refl _)
  obtain ⟨f1, f2⟩ := vx_frame Z0.same
  rw [hhp] at f1 f2
  have hcid : ce.cls = D.1 ci := by
    rw [hcl9]
    have h1 := (hK.1 ci _ hc).2.1
    rw [hvm] at hfX
    exact Option.some.inj (hfX.symm.trans h1)
  have hh : (V.setCell T.heap.size ce).heap[T.heap.size]? = some ce := heapAt_setCell_self (s := V) ce hlt
  subst hA'
  have X5 := vx_back9 X Y Z0
  have X6 : Stand p l e R s m args below meth c (V.setCell T.heap.size ce) locs (cells + 1) (slots + 6) := { X5 with same := X5.same.mono (by omega) (by omega) }
  have hk9 : ∀ (k : Nat) (x : Nat × va_E), ws[k]? = some x → (V.setCell T.heap.size ce).heap[x.1]? = T.heap[x.1]? := fun k x hx => f2 x.1 ((hP k x hx).lt) (fun z hz => nomatch hz)
  obtain ⟨t, a1, b1⟩ := kk T.heap.size (V.setCell T.heap.size ce).heap ((hP.kept hk9).app (fun k x hx => by
      have hz : k < 1 := (List.getElem?_eq_some_iff.mp hx).1
      rw [show k = 0 by omega] at hx
      cases hx
      exact ⟨_, hc, ce, hh, hcid, hvm9, fun k hk => absurd hk (Nat.not_lt_zero k)⟩)) (hD.push hP rfl (hA _ hS.1)) ⟨Nat.le_trans hS.1 f1, fun q h1 h2 => (f2 q (Nat.lt_of_lt_of_le h1 hS.1) (fun z hz => nomatch hz)).trans (hS.2.1 q h1 h2), hS.2.2⟩ _ rfl X6
  refine ⟨t, st1 _ ?_, b1⟩
  show Steps p.tables e below (T1.setTop { method := m, pc := pc + 3, locals := ls, stack := .ref T.heap.size :: rest, locked := none }) _
  jvm_step X₁.here [X₁.here.top, hexec, d3', Value.category]
  exact X₁.ldcString hexec (own := own) (text := text) (index := is) (a := sa) hown' hstr'.1 hstr'.2
    (g := { method := m, pc := pc + 4, locals := ls, stack := .ref T.heap.size :: .ref T.heap.size :: rest, locked := none }) rfl d4' _ (st _ a1)
/-- 'new E()' that isn't thrown at once: the object goes on the stack -/
theorem vx_make0 {cc : ByteArray} {pc : Nat} (hexec : p.tables.exec = Jvm.exec) (hb : c.code = cc) (hl : l.stackTraces = false) {own cls : String} {names : List String} {ik ic ci : Nat} {A : Nat → Prop} {T0 : u_T}
    (hown : s.vm.findClass own = some m.cls) (hcls : Bundle.fit cls = true) (hnames : ∀ n ∈ names, Bundle.fit n = true)
    (hk : (Cond.classLink own ik cls).before args s = true) (hini : (Cond.initialized cls).before args s = true) (hat : ∀ w ∈ vx_at0 own ic cls names, w.before args s = true)
    (hgood : ∀ w ∈ Cond.classLink own ik cls :: Cond.initialized cls :: vx_at0 own ic cls names, vx_ot w = true)
    (hU : vx_Zq Bundle.tN "UNASSIGNED_STACK" Bundle.steD A s s.heap) (hN : vx_Zq Bundle.tN "SUPPRESSED_SENTINEL" Bundle.listD A s s.heap) (hS : va_S A s.heap H locs) (hsize : ls.size = c.maxLocals)
    (d0 : decode cc pc = .ok (.new ik, 3)) (d3 : decode cc (pc + 3) = .ok (.dup, 1)) (d4 : decode cc (pc + 4) = .ok (.invokespecial ic, 3))
    (hK : va_K D cl tys s) (hP : va_P D cl ws H) (hD : va_D A ws) (hA : ∀ q, s.heap.size ≤ q → A q) (hc : cl[ci]? = some (cls, T0, 0))
    (hRframes : names.length + 3 < R.frames) (hRlocals : (rest.map fun v => v.category).sum + (13 * (names.length + 1) + 42) ≤ R.locals) (hRcells : cells + 1 ≤ R.cells) (hRslots : slots + 6 ≤ R.slots)
    (kk : ∀ (q : Nat) (H1 : Heap), va_P D cl (ws ++ [(q, .inr (ci, []))]) H1 → va_D A (ws ++ [(q, .inr (ci, []))]) → va_S A s.heap H1 locs → W p l e R s m args below meth c H1 locs (cells + 1) (slots + 6) Q (F0 m (pc + 7) ls (.ref q :: rest))) :
    W p l e R s m args below meth c H locs cells slots Q (F0 m pc ls rest) := by
  intro T hT X
  subst hT
  have htr : e.platform.stackTraces = false := (show e.platform.stackTraces = l.stackTraces by rw [X.admits.platform]).trans hl
  have Y := vx_rebase X (R' := { frames := R.frames, locals := R.locals, cells := 1, slots := 6 }) (Nat.le_refl _) (Nat.le_refl _) hRcells hRslots
  obtain ⟨s', hA'⟩ : ∃ z, z = (T.setVm s.vm).setFrames (.invoking m args :: below) := ⟨_, rfl⟩
  rw [← hA'] at Y
  have hvm : s'.vm = s.vm := by rw [hA']; rfl
  have hhp : s'.heap = T.heap := by rw [hA']; rfl
  have hW0 : s.WarmedH s'.vm := by rw [hvm]; exact State.WarmedH.refl s
  have hat' : ∀ w ∈ vx_at0 own ic cls names, w.before args s' = true := fun w hw => vx_ot_at hW0 hvm.symm (hgood w (List.mem_cons_of_mem _ (List.mem_cons_of_mem _ hw))) (hat w hw)
  have hk' : (Cond.classLink own ik cls).before args s' = true := vx_ot_at hW0 hvm.symm (hgood _ List.mem_cons_self) hk
  have hini' : (Cond.initialized cls).before args s' = true := vx_ot_at hW0 hvm.symm (hgood _ (List.mem_cons_of_mem _ List.mem_cons_self)) hini
  have hU' : vx_Zq Bundle.tN "UNASSIGNED_STACK" Bundle.steD A s' s'.heap := by rw [hhp]; exact vx_Zq.moved hW0.alike (hU.kept hS.2.1)
  have hN' : vx_Zq Bundle.tN "SUPPRESSED_SENTINEL" Bundle.listD A s' s'.heap := by rw [hhp]; exact vx_Zq.moved hW0.alike (hN.kept hS.2.1)
  have h : ∀ w ∈ Bundle.ownAtoms0 own ic cls names, w.before args s' = true := vx_own hat' (vx_isRefq hU'.1) (vx_isRefq hN'.1) hU'.2.word hN'.2.word
  have hown' : s'.vm.findClass own = some m.cls := by rw [hvm]; exact hown
  have hins : (Cond.instantiable cls 6).before args s' = true := h _ (by simp [Bundle.ownAtoms0])
  obtain ⟨vm₁, cX, kX, hfX, hkX, -, -, X₁, st1⟩ := Y.newCold hexec (own := own) (C := cls) (index := ik) (n := 6) hown' hk' hins hini'
    (g := F0 m pc ls rest) rfl (by rw [hb]; exact d0) (Nat.le_refl _) (Nat.le_refl _)
  generalize hT1 : (T.setVm vm₁).pushCell { cls := cX, slots := kX.instanceTypes.map defaultValue, vm := .none } = T1 at X₁ st1
  have hcat : (Value.ref T.heap.size).category = 1 := rfl
  have hcellA : T1.heap[T.heap.size]? = some (freshCell cX kX) := by rw [← hT1]; exact State.heap_pushCell_size _ _
  have d3' : decode c.code (pc + 3) = .ok (.dup, 1) := by rw [hb]; exact d3
  obtain ⟨V, ce, L, Z, hL, hlt, hcl9, hvm9, st⟩ := vx_ctorMade0 X₁ hexec htr (own := own) (cls := cls) (names := names) (ic := ic) hown' hcls hnames h (fun x hx => nomatch hx) hfX hkX hcellA (by rw [hhp]; exact Nat.le_refl _)
    (g := { method := m, pc := pc + 4, locals := ls, stack := .ref T.heap.size :: .ref T.heap.size :: rest, locked := none }) rfl hsize (rest := rest) rfl
    (by rw [hb]; exact d4) hRframes (by simp only [List.map_cons, List.sum_cons, hcat]; omega)
  have Z0 := Stand.forget (locs := []) Z (fun y hy => by rw [hL y hy, hhp]; exact Nat.le_refl _)
  obtain ⟨f1, f2⟩ := vx_frame Z0.same
  rw [hhp] at f1 f2
  have hcid : ce.cls = D.1 ci := by
    rw [hcl9]
    have h1 := (hK.1 ci _ hc).2.1
    rw [hvm] at hfX
    exact Option.some.inj (hfX.symm.trans h1)
  have hh : (V.setCell T.heap.size ce).heap[T.heap.size]? = some ce := heapAt_setCell_self (s := V) ce hlt
  subst hA'
  have X5 := vx_back9 X Y Z0
  have X6 : Stand p l e R s m args below meth c (V.setCell T.heap.size ce) locs (cells + 1) (slots + 6) := { X5 with same := X5.same.mono (by omega) (by omega) }
  have hk9 : ∀ (k : Nat) (x : Nat × va_E), ws[k]? = some x → (V.setCell T.heap.size ce).heap[x.1]? = T.heap[x.1]? := fun k x hx => f2 x.1 ((hP k x hx).lt) (fun z hz => nomatch hz)
  obtain ⟨t, a1, b1⟩ := kk T.heap.size (V.setCell T.heap.size ce).heap ((hP.kept hk9).app (fun k x hx => by
      have hz : k < 1 := (List.getElem?_eq_some_iff.mp hx).1
      rw [show k = 0 by omega] at hx
      cases hx
      exact ⟨_, hc, ce, hh, hcid, hvm9, fun k hk => absurd hk (Nat.not_lt_zero k)⟩)) (hD.push hP rfl (hA _ hS.1)) ⟨Nat.le_trans hS.1 f1, fun q h1 h2 => (f2 q (Nat.lt_of_lt_of_le h1 hS.1) (fun z hz => nomatch hz)).trans (hS.2.1 q h1 h2), hS.2.2⟩ _ rfl X6
  refine ⟨t, st1 _ ?_, b1⟩
  show Steps p.tables e below (T1.setTop { method := m, pc := pc + 3, locals := ls, stack := .ref T.heap.size :: rest, locked := none }) _
  jvm_step X₁.here [X₁.here.top, hexec, d3', Value.category]
  exact st _ a1
/-- 'throw x' of an object that was made before -/
theorem vx_athrow {cc : ByteArray} {pc : Nat} (hexec : p.tables.exec = Jvm.exec) (hb : c.code = cc) {q : Addr} (hdg : decode cc pc = .ok (.athrow, 1)) (k : vx_W p l e R s m args below meth c H locs cells slots Q (F0 m pc ls rest) q) : W p l e R s m args below meth c H locs cells slots Q (F0 m pc ls (.ref q :: rest)) := by
  intro T hT X
  obtain ⟨t, st, hq⟩ := k T hT X
  refine ⟨t, ?_, hq⟩
  have hdg' : decode c.code pc = .ok (.athrow, 1) := by rw [hb]; exact hdg
  jvm_step X.here [X.here.top, hexec, hdg', athrow.wp_sem]
  exact st
end VXK2
/-! ===== END ===== -/
/-! ===== BEGIN a constructor that throws (launches without stack traces) ===== -/
section VXIA
variable {p : Program} {l : Launch} {e : Env} {R : Room} {s : State} {m : MethodId} {args : Array Value} {below : List Frame} {meth : Method} {c : Code} {T : State} {locs : List Loc} {cells slots : Nat}
theorem vx_callI (X : Stand p l e R s m args below meth c T locs cells slots) (hexec : p.tables.exec = Jvm.exec) {own : String} {index : Nat} {y : MethodName} {bytes : ByteArray} {maxL : Nat}
    (hown : s.vm.findClass own = some m.cls) (hy1 : y.name = "<init>") (hlink : (Cond.methodLink own index y).before args s = true) (hinst : (Cond.instanceMethod y).before args s = true)
    (hcode : (Cond.code y bytes maxL none).before args s = true) (hy : y.cls ≠ "java/lang/invoke/MethodHandle" ∧ y.cls ≠ "java/lang/invoke/VarHandle")
    {W9 : Nat} {Pre : Pt → Array Value → Prop} {Post : Pt → Array Value → Option Value → Pt → Prop} {PostX : Pt → Array Value → Addr → Pt → Prop} (hK : vx_Back l R p e below s args y 3 W9 Pre Post PostX)
    {g : JFrame} (hg : g.method = m) (hsize : g.locals.size = c.maxLocals) {a : Addr} {argsL rest : List Value} (hlen : ∀ sig, parseMethodDescriptor y.desc = some sig → argsL.length = sig.parameters.length)
    (hstack : g.stack = argsL.reverse ++ .ref a :: rest) (hW : 2 * g.monitorRoom + (rest.map fun v => v.category).sum ≤ W9) (hdg : decode c.code g.pc = .ok (.invokespecial index, 3))
    (hpre : ∀ vm₁, s.WarmedH vm₁ → Pre ⟨T.setVm vm₁, locs, cells, slots⟩ (Value.ref a :: argsL).toArray) :
    (∃ (v : Option Value) (vm₁ : Vm) (B : Pt), s.WarmedH vm₁ ∧ Stand p l e R s m args below meth c B.U B.locs B.cells B.slots ∧ Post ⟨T.setVm vm₁, locs, cells, slots⟩ (Value.ref a :: argsL).toArray v B ∧
      ∀ target, Steps p.tables e below (B.U.setTop { g with pc := g.pc + 3, stack := v.toList ++ rest }) target → Steps p.tables e below (T.setTop g) target) ∨
    (∃ (q : Addr) (vm₁ : Vm) (B : Pt), s.WarmedH vm₁ ∧ Stand p l e R s m args below meth c B.U B.locs B.cells B.slots ∧ PostX ⟨T.setVm vm₁, locs, cells, slots⟩ (Value.ref a :: argsL).toArray q B ∧
      Steps p.tables e below (T.setTop g) ((B.U.setTop { g with stack := rest }).pushFrame (.throwing q))) := by
  subst hg
  have hpl : e.platform.magicAccessors = ({} : Platform).magicAccessors := by rw [X.admits.platform]
  obtain ⟨mk, methM, cM, kP, vm₁, hnamed, hmethM, hcodeM, -, hlocalsM, -, hkP, -, hW₁, hstep₁⟩ := Steps.initColdArgs (e := e) X.here hexec X.warmed hpl hown hy1 hy hlink hinst hcode (f := g) rfl hlen hstack hdg
  have X₁ := X.noted hW₁
  rcases hK g.method meth c ⟨T.setVm vm₁, locs, cells, slots⟩ { g with stack := rest } (.invokespecial index) mk (Value.ref a :: argsL).toArray X₁ rfl hsize hdg hW (X₁.named hnamed) (hpre vm₁ X₁.warmed) with ⟨v, B, X', hpost, hsteps⟩ | ⟨q, B, X', hpost, hsteps⟩
  · exact Or.inl ⟨v, vm₁, B, X₁.warmed, X', hpost, fun target h => hstep₁ _ fun acts => by rw [doInvoke_state]; exact hsteps.trans h⟩
  · exact Or.inr ⟨q, vm₁, B, X₁.warmed, X', hpost, hstep₁ _ fun acts => by rw [doInvoke_state]; exact hsteps⟩
end VXIA
section VXIB
variable {p : Program} {l : Launch} {e : Env} {R : Room} {s : State} {m : MethodId} {args : Array Value} {below : List Frame} {meth : Method} {c : Code} {H : Heap} {locs : List Loc} {cells slots : Nat}
variable {y : MethodName} {bytes cc : ByteArray} {maxL nL mc ms n index : Nat} {ret : Option FieldType} {ws : List Cond} {rm : Room} {Pc : Array Value → State → Prop} {Qc : Array Value → State → Outcome → State → Prop} {XC : String → State → State → Prop} {free : Addr → Prop} {Ts : List Cond} {own C : String} {b : Addr} {As rest : List Value} {g : JFrame}
theorem vx_runI (S : CallFix p m c cc nL s args Ts own) (hM : vx_Met l y ws rm Pc Qc XC mc ms free) (cw : CallB R s args own index y bytes maxL none ws rm mc ms n ∧ y.name = "<init>" ∧ (Cond.instanceMethod y).before args s = true) (hp : PreS s H Pc (.ref b :: As))
    (hg : g.method = m) (hn : As.length = n) (hsize : g.locals.size = nL) (hstack : g.stack = As.reverse ++ .ref b :: rest) (hW : 2 * g.monitorRoom + (rest.map fun v => v.category).sum ≤ 8) (hdg : decode cc g.pc = .ok (.invokespecial index, 3)) (hf : cells + mc ≤ R.cells ∧ slots + ms ≤ R.slots) :
    vx_Run p l e R s m args below meth c H locs cells slots mc ms g rest (Qc (Value.ref b :: As).toArray) XC free := by
  have hK : vx_Back l R p e below s args y 3 8 (PreOf R mc ms Pc) (PostOf Qc mc ms free) (vx_Post XC mc ms free) := vx_callBack cw.1 hM hp.1
  obtain ⟨⟨-, -, -, -, -, -, hcode, -, hy, hlen, hl⟩, hy1, hin⟩ := cw
  obtain ⟨hx, hb, hml, ho, -⟩ := S
  have hPc := hp.2
  intro T hT X
  rcases vx_callI X hx (bytes := bytes) (maxL := maxL) ho hy1 hl hin hcode hy hK hg (hsize.trans hml.symm) (a := b) (argsL := As) (rest := rest) (fun sig h => hn.trans (hlen sig h)) hstack hW (by rw [hb]; exact hdg)
    (fun vm₁ hW₁ => ⟨hf.1, hf.2, hPc (T.setVm vm₁) hT hW₁⟩) with ⟨v, vm₁, ⟨U', l2, c2, s2⟩, hW₁, X', ⟨g', mk, t, L, e1, e2, hq, h1, hL, h2, h3⟩, st⟩ | ⟨q, vm₁, ⟨U', l2, c2, s2⟩, hW₁, X', ⟨g', mk, t, L, E, ce, e1, e2, hq, hce, hcv, hcl, h1, hL, h2, h3⟩, st⟩
  · dsimp only [Pt.U, Pt.locs, Pt.cells, Pt.slots] at X' e1 e2 h1 h2 h3 st
    subst h1; subst h2; subst h3
    exact Or.inl ⟨v, (T.setVm vm₁).calling g' mk (Value.ref b :: As).toArray, t, U', L, hT, X', hL, e1, e2, hq, st⟩
  · dsimp only [Pt.U, Pt.locs, Pt.cells, Pt.slots] at X' e1 e2 h1 h2 h3 st hcl
    subst h1; subst h2; subst h3
    exact Or.inr ⟨q, (T.setVm vm₁).calling g' mk (Value.ref b :: As).toArray, t, U', L, E, ce, hT, X', hL, e1, e2, hq, hce, hcv, vx_cls hW₁ hcl, st⟩
end VXIB
/-! ===== END ===== -/
/-! ===== BEGIN a private constructor of a nest mate that throws ===== -/
section VXIC
variable {p : Program} {l : Launch} {e : Env} {R : Room} {s : State} {m : MethodId} {args : Array Value} {below : List Frame} {meth : Method} {c : Code} {T : State} {locs : List Loc} {cells slots : Nat}
theorem vx_callIN (X : Stand p l e R s m args below meth c T locs cells slots) (hexec : p.tables.exec = Jvm.exec) {own : String} {index : Nat} {host : String} {y : MethodName} {bytes : ByteArray} {maxL : Nat}
    (hown : s.vm.findClass own = some m.cls) (hy1 : y.name = "<init>") (hlink : (Cond.methodLinkNest own index y host).before args s = true) (hinst : (Cond.instanceMethod y).before args s = true)
    (hcode : (Cond.code y bytes maxL none).before args s = true) (hy : y.cls ≠ "java/lang/invoke/MethodHandle" ∧ y.cls ≠ "java/lang/invoke/VarHandle")
    {W9 : Nat} {Pre : Pt → Array Value → Prop} {Post : Pt → Array Value → Option Value → Pt → Prop} {PostX : Pt → Array Value → Addr → Pt → Prop} (hK : vx_Back l R p e below s args y 3 W9 Pre Post PostX)
    {g : JFrame} (hg : g.method = m) (hsize : g.locals.size = c.maxLocals) {a : Addr} {argsL rest : List Value} (hlen : ∀ sig, parseMethodDescriptor y.desc = some sig → argsL.length = sig.parameters.length)
    (hstack : g.stack = argsL.reverse ++ .ref a :: rest) (hW : 2 * g.monitorRoom + (rest.map fun v => v.category).sum ≤ W9) (hdg : decode c.code g.pc = .ok (.invokespecial index, 3))
    (hpre : ∀ vm₁, s.WarmedH vm₁ → Pre ⟨T.setVm vm₁, locs, cells, slots⟩ (Value.ref a :: argsL).toArray) :
    (∃ (v : Option Value) (vm₁ : Vm) (B : Pt), s.WarmedH vm₁ ∧ Stand p l e R s m args below meth c B.U B.locs B.cells B.slots ∧ Post ⟨T.setVm vm₁, locs, cells, slots⟩ (Value.ref a :: argsL).toArray v B ∧
      ∀ target, Steps p.tables e below (B.U.setTop { g with pc := g.pc + 3, stack := v.toList ++ rest }) target → Steps p.tables e below (T.setTop g) target) ∨
    (∃ (q : Addr) (vm₁ : Vm) (B : Pt), s.WarmedH vm₁ ∧ Stand p l e R s m args below meth c B.U B.locs B.cells B.slots ∧ PostX ⟨T.setVm vm₁, locs, cells, slots⟩ (Value.ref a :: argsL).toArray q B ∧
      Steps p.tables e below (T.setTop g) ((B.U.setTop { g with stack := rest }).pushFrame (.throwing q))) := by
  subst hg
  have hpl : e.platform.magicAccessors = ({} : Platform).magicAccessors := by rw [X.admits.platform]
  obtain ⟨mk, methM, cM, kP, vm₁, hnamed, hmethM, hcodeM, -, hlocalsM, -, hkP, -, hW₁, hstep₁⟩ := Steps.initColdArgsNest (e := e) X.here hexec X.warmed hpl hown hy1 hy hlink hinst hcode (f := g) rfl hlen hstack hdg
  have X₁ := X.noted hW₁
  rcases hK g.method meth c ⟨T.setVm vm₁, locs, cells, slots⟩ { g with stack := rest } (.invokespecial index) mk (Value.ref a :: argsL).toArray X₁ rfl hsize hdg hW (X₁.named hnamed) (hpre vm₁ X₁.warmed) with ⟨v, B, X', hpost, hsteps⟩ | ⟨q, B, X', hpost, hsteps⟩
  · exact Or.inl ⟨v, vm₁, B, X₁.warmed, X', hpost, fun target h => hstep₁ _ fun acts => by rw [doInvoke_state]; exact hsteps.trans h⟩
  · exact Or.inr ⟨q, vm₁, B, X₁.warmed, X', hpost, hstep₁ _ fun acts => by rw [doInvoke_state]; exact hsteps⟩
end VXIC
section VXID
variable {p : Program} {l : Launch} {e : Env} {R : Room} {s : State} {m : MethodId} {args : Array Value} {below : List Frame} {meth : Method} {c : Code} {H : Heap} {locs : List Loc} {cells slots : Nat}
theorem vx_runIN {y : MethodName} {bytes cc : ByteArray} {maxL nL mc ms n index : Nat} {ws : List Cond} {rm : Room} {Pc : Array Value → State → Prop} {Qc : Array Value → State → Outcome → State → Prop} {XC : String → State → State → Prop} {free : Addr → Prop} {Ts : List Cond} {own host : String} {b : Addr} {As rest : List Value} {g : JFrame}
    (S : CallFix p m c cc nL s args Ts own) (hM : vx_Met l y ws rm Pc Qc XC mc ms free) (cw : va_CN R s args own index y host bytes maxL none ws rm mc ms n ∧ y.name = "<init>" ∧ (Cond.instanceMethod y).before args s = true) (hp : PreS s H Pc (.ref b :: As))
    (hg : g.method = m) (hn : As.length = n) (hsize : g.locals.size = nL) (hstack : g.stack = As.reverse ++ .ref b :: rest) (hW : 2 * g.monitorRoom + (rest.map fun v => v.category).sum ≤ 8) (hdg : decode cc g.pc = .ok (.invokespecial index, 3)) (hf : cells + mc ≤ R.cells ∧ slots + ms ≤ R.slots) :
    vx_Run p l e R s m args below meth c H locs cells slots mc ms g rest (Qc (Value.ref b :: As).toArray) XC free := by
  obtain ⟨⟨⟨hrc, hrs, hfr, hlo, hws, hcw⟩, hcode, hini, hy, hlen, hl⟩, hx1, hx2⟩ := cw
  have hK : vx_Back l R p e below s args y 3 8 (PreOf R mc ms Pc) (PostOf Qc mc ms free) (vx_Post XC mc ms free) := vx_back (bytes := bytes) (maxL := maxL) (ret := none) hM hp.1 hrc hrs hfr hlo hws hcw (fun a' U hW => word_at hW (Or.inl (by first | rfl | simp [Cond.onTables, Cond.keeps, Cond.steady])) hini)
  obtain ⟨hx, hb, hml, ho, -⟩ := S
  have hPc := hp.2
  intro T hT X
  rcases vx_callIN X hx (bytes := bytes) (maxL := maxL) ho hx1 hl hx2 hcode hy hK hg (hsize.trans hml.symm) (a := b) (argsL := As) (rest := rest) (fun sig h => hn.trans (hlen sig h)) hstack hW (by rw [hb]; exact hdg)
    (fun vm₁ hW₁ => ⟨hf.1, hf.2, hPc (T.setVm vm₁) hT hW₁⟩) with ⟨v, vm₁, ⟨U', l2, c2, s2⟩, hW₁, X', ⟨g', mk, t, L, e1, e2, hq, h1, hL, h2, h3⟩, st⟩ | ⟨q, vm₁, ⟨U', l2, c2, s2⟩, hW₁, X', ⟨g', mk, t, L, E, ce, e1, e2, hq, hce, hcv, hcl, h1, hL, h2, h3⟩, st⟩
  · dsimp only [Pt.U, Pt.locs, Pt.cells, Pt.slots] at X' e1 e2 h1 h2 h3 st
    subst h1; subst h2; subst h3
    exact Or.inl ⟨v, (T.setVm vm₁).calling g' mk (Value.ref b :: As).toArray, t, U', L, hT, X', hL, e1, e2, hq, st⟩
  · dsimp only [Pt.U, Pt.locs, Pt.cells, Pt.slots] at X' e1 e2 h1 h2 h3 st hcl
    subst h1; subst h2; subst h3
    exact Or.inr ⟨q, (T.setVm vm₁).calling g' mk (Value.ref b :: As).toArray, t, U', L, E, ce, hT, X', hL, e1, e2, hq, hce, hcv, vx_cls hW₁ hcl, st⟩
end VXID
/-! ===== END ===== -/
/-! ===== BEGIN a method of a class above, found by the receiver, that may throw (follows va_callVU, va_runU of this kit) ===== -/
section
variable {p : Program} {l : Launch} {e : Env} {R : Room} {s : State} {m : MethodId} {args : Array Value} {below : List Frame} {meth : Method} {c : Code} {H : Heap} {locs : List Loc} {cells slots : Nat}
theorem vx_callVU {T : State} {locs : List Loc} {cells slots : Nat} (X : Stand p l e R s m args below meth c T locs cells slots) (hexec : p.tables.exec = Jvm.exec) {own C owner : String} {index : Nat} {x y : MethodName} {bytes : ByteArray} {maxL : Nat} {ret : Option FieldType}
    (hown : s.vm.findClass own = some m.cls) (hlink : (Cond.methodLink own index x).before args s = true) (hsame : (Cond.sameMethod x.cls owner x.name x.desc).before args s = true)
    (hd0 : va_Decl s ⟨owner, x.name, x.desc⟩) (howner : owner ≠ "java/lang/invoke/MethodHandle" ∧ owner ≠ "java/lang/invoke/VarHandle")
    (hsel : (Cond.selects C x y).before args s = true) (hinst : (Cond.instanceMethod y).before args s = true) (hcode : (Cond.code y bytes maxL ret).before args s = true)
    {W : Nat} {Pre : Pt → Array Value → Prop} {Post : Pt → Array Value → Option Value → Pt → Prop} {PostX : Pt → Array Value → Addr → Pt → Prop} (hK : vx_Back l R p e below s args y 3 W Pre Post PostX)
    {b : Addr} {cellB : Cell} (hcell : T.heap[b]? = some cellB) (hobj : cellB.vm.isStatics = false) (hcls : s.vm.findClass C = some cellB.cls)
    {g : JFrame} (hg : g.method = m) (hsize : g.locals.size = c.maxLocals) {argsL rest : List Value} (hlen : ∀ sig, parseMethodDescriptor x.desc = some sig → argsL.length = sig.parameters.length)
    (hstack : g.stack = argsL.reverse ++ .ref b :: rest) (hW : 2 * g.monitorRoom + (rest.map fun v => v.category).sum ≤ W) (hdg : decode c.code g.pc = .ok (.invokevirtual index, 3))
    (hpre : ∀ vm₁, s.WarmedH vm₁ → Pre ⟨T.setVm vm₁, locs, cells, slots⟩ (Value.ref b :: argsL).toArray) :
    (∃ (v : Option Value) (vm₁ : Vm) (B : Pt), s.WarmedH vm₁ ∧ Stand p l e R s m args below meth c B.U B.locs B.cells B.slots ∧ Post ⟨T.setVm vm₁, locs, cells, slots⟩ (Value.ref b :: argsL).toArray v B ∧
      ∀ target, Steps p.tables e below (B.U.setTop { g with pc := g.pc + 3, stack := v.toList ++ rest }) target → Steps p.tables e below (T.setTop g) target) ∨
    (∃ (q : Addr) (vm₁ : Vm) (B : Pt), s.WarmedH vm₁ ∧ Stand p l e R s m args below meth c B.U B.locs B.cells B.slots ∧ PostX ⟨T.setVm vm₁, locs, cells, slots⟩ (Value.ref b :: argsL).toArray q B ∧
      Steps p.tables e below (T.setTop g) ((B.U.setTop { g with stack := rest }).pushFrame (.throwing q))) := by
  obtain ⟨r0, r, hn, hrm, hstR, hsigR⟩ := hd0
  obtain ⟨cn, ck, r1, hcn, hck, hni, hf, hn1⟩ := Cond.sameMethod_found hsame
  cases hn.symm.trans hn1
  obtain ⟨mk, methM, hnamed, hmethM, -, habM⟩ := Cond.instanceMethod_spec hinst
  obtain ⟨c2, r2, m2, q1, q2, q3, q4, kP, hkP, hkPi⟩ := Cond.selects_spec hsel
  cases hcls.symm.trans q1
  cases hf.symm.trans q2
  cases hnamed.symm.trans q3
  have hselP : selectMethod e.platform s.vm cellB.cls r0 = .method mk := by rw [Launch.admits_selectMethod X.admits]; exact q4
  obtain ⟨vm₁, X₁, hstep₁⟩ := X.invokevirtualUp hexec hown hlink hsame howner hn hrm hstR (a := b) (cell := cellB) hcell
    (fun z h => by rw [h] at hobj; cases hobj) hselP hmethM habM hkP hkPi (g := g) hg (argsL := argsL) (rest := rest) (hlen _ hsigR) hstack hdg
  rcases hK m meth c ⟨T.setVm vm₁, locs, cells, slots⟩ { g with stack := rest } (.invokevirtual index) mk (Value.ref b :: argsL).toArray X₁ hg hsize hdg hW (X₁.named hnamed) (hpre vm₁ X₁.warmed) with ⟨v, B, X', hpost, hsteps⟩ | ⟨q, B, X', hpost, hsteps⟩
  · exact Or.inl ⟨v, vm₁, B, X₁.warmed, X', hpost, fun target h => hstep₁ _ fun acts => by rw [doInvoke_state]; exact hsteps.trans h⟩
  · exact Or.inr ⟨q, vm₁, B, X₁.warmed, X', hpost, hstep₁ _ fun acts => by rw [doInvoke_state]; exact hsteps⟩
theorem vx_runU {x y : MethodName} {bytes cc : ByteArray} {maxL nL mc ms n index : Nat} {ret : Option FieldType} {ws : List Cond} {rm : Room} {Pc : Array Value → State → Prop} {Qc : Array Value → State → Outcome → State → Prop} {XC : String → State → State → Prop} {free : Addr → Prop} {Ts : List Cond} {own C owner : String} {b : Addr} {As rest : List Value} {g : JFrame}
    (S : CallFix p m c cc nL s args Ts own) (hM : vx_Met l y ws rm Pc Qc XC mc ms free) (cw : va_CU R s args own C owner index x y bytes maxL ret ws rm mc ms n) (hp : PreV s H C b Pc As)
    (hg : g.method = m) (hn : As.length = n) (hsize : g.locals.size = nL) (hstack : g.stack = As.reverse ++ .ref b :: rest) (hW : 2 * g.monitorRoom + (rest.map fun v => v.category).sum ≤ 8) (hdg : decode cc g.pc = .ok (.invokevirtual index, 3)) (hf : cells + mc ≤ R.cells ∧ slots + ms ≤ R.slots) :
    vx_Run p l e R s m args below meth c H locs cells slots mc ms g rest (Qc (Value.ref b :: As).toArray) XC free := by
  obtain ⟨hrc, hrs, hfr, hlo, hws, hcw⟩ := cw.back
  have hini := cw.init
  have hK : vx_Back l R p e below s args y 3 8 (PreOf R mc ms Pc) (PostOf Qc mc ms free) (vx_Post XC mc ms free) := vx_back (bytes := bytes) (maxL := maxL) (ret := ret) hM hp.1 hrc hrs hfr hlo hws hcw (fun a' U hW => word_at hW (Or.inl (by first | rfl | simp [Cond.onTables, Cond.keeps, Cond.steady])) hini)
  obtain ⟨hx, hb, hml, ho, -⟩ := S
  obtain ⟨-, ⟨cellB, hcB, hoB, hclB⟩, hPc⟩ := hp
  intro T hT X
  rcases vx_callVU X hx (C := C) (owner := owner) (bytes := bytes) (maxL := maxL) (ret := ret) ho cw.link cw.same cw.decl cw.notMH cw.sel cw.inst cw.code hK (by rw [hT]; exact hcB) hoB hclB hg (hsize.trans hml.symm) (argsL := As) (rest := rest) (fun sig h => hn.trans (cw.len sig h)) hstack hW (by rw [hb]; exact hdg)
    (fun vm₁ hW₁ => ⟨hf.1, hf.2, hPc (T.setVm vm₁) hT hW₁⟩) with ⟨v, vm₁, ⟨U', l2, c2, s2⟩, hW₁, X', ⟨g', mk, t, L, e1, e2, hq, h1, hL, h2, h3⟩, st⟩ | ⟨q, vm₁, ⟨U', l2, c2, s2⟩, hW₁, X', ⟨g', mk, t, L, E, ce, e1, e2, hq, hce, hcv, hcl, h1, hL, h2, h3⟩, st⟩
  · dsimp only [Pt.U, Pt.locs, Pt.cells, Pt.slots] at X' e1 e2 h1 h2 h3 st
    subst h1; subst h2; subst h3
    exact Or.inl ⟨v, (T.setVm vm₁).calling g' mk (Value.ref b :: As).toArray, t, U', L, hT, X', hL, e1, e2, hq, st⟩
  · dsimp only [Pt.U, Pt.locs, Pt.cells, Pt.slots] at X' e1 e2 h1 h2 h3 st hcl
    subst h1; subst h2; subst h3
    exact Or.inr ⟨q, (T.setVm vm₁).calling g' mk (Value.ref b :: As).toArray, t, U', L, E, ce, hT, X', hL, e1, e2, hq, hce, hcv, vx_cls hW₁ hcl, st⟩
end
/-! ===== END ===== -/
/-! ===== BEGIN a private method of a nest mate that may throw (follows va_callVN, va_callSN, va_runVN, va_runSN) ===== -/
section
variable {p : Program} {l : Launch} {e : Env} {R : Room} {s : State} {m : MethodId} {args : Array Value} {below : List Frame} {meth : Method} {c : Code} {H : Heap} {locs : List Loc} {cells slots : Nat}
variable {T : State}
theorem vx_callVN (X : Stand p l e R s m args below meth c T locs cells slots) (hexec : p.tables.exec = Jvm.exec) {own C : String} {index : Nat} {host : String} {y : MethodName} {bytes : ByteArray} {maxL : Nat} {ret : Option FieldType}
    (hown : s.vm.findClass own = some m.cls) (hlink : (Cond.methodLinkNest own index y host).before args s = true) (hinst : (Cond.instanceMethod y).before args s = true) (hsel : (Cond.selects C y y).before args s = true)
    (hcode : (Cond.code y bytes maxL ret).before args s = true) (hy : y.cls ≠ "java/lang/invoke/MethodHandle" ∧ y.cls ≠ "java/lang/invoke/VarHandle")
    {W : Nat} {Pre : Pt → Array Value → Prop} {Post : Pt → Array Value → Option Value → Pt → Prop} {PostX : Pt → Array Value → Addr → Pt → Prop} (hK : vx_Back l R p e below s args y 3 W Pre Post PostX)
    {b : Addr} {cellB : Cell} (hcell : T.heap[b]? = some cellB) (hobj : cellB.vm.isStatics = false) (hcls : s.vm.findClass C = some cellB.cls)
    {g : JFrame} (hg : g.method = m) (hsize : g.locals.size = c.maxLocals) {argsL rest : List Value} (hlen : ∀ sig, parseMethodDescriptor y.desc = some sig → argsL.length = sig.parameters.length)
    (hstack : g.stack = argsL.reverse ++ .ref b :: rest) (hW : 2 * g.monitorRoom + (rest.map fun v => v.category).sum ≤ W) (hdg : decode c.code g.pc = .ok (.invokevirtual index, 3))
    (hpre : ∀ vm₁, s.WarmedH vm₁ → Pre ⟨T.setVm vm₁, locs, cells, slots⟩ (Value.ref b :: argsL).toArray) :
    (∃ (v : Option Value) (vm₁ : Vm) (B : Pt), s.WarmedH vm₁ ∧ Stand p l e R s m args below meth c B.U B.locs B.cells B.slots ∧ Post ⟨T.setVm vm₁, locs, cells, slots⟩ (Value.ref b :: argsL).toArray v B ∧
      ∀ target, Steps p.tables e below (B.U.setTop { g with pc := g.pc + 3, stack := v.toList ++ rest }) target → Steps p.tables e below (T.setTop g) target) ∨
    (∃ (q : Addr) (vm₁ : Vm) (B : Pt), s.WarmedH vm₁ ∧ Stand p l e R s m args below meth c B.U B.locs B.cells B.slots ∧ PostX ⟨T.setVm vm₁, locs, cells, slots⟩ (Value.ref b :: argsL).toArray q B ∧
      Steps p.tables e below (T.setTop g) ((B.U.setTop { g with stack := rest }).pushFrame (.throwing q))) := by
  obtain ⟨mk, methM, hnamed, hmethM, hstM, habM⟩ := Cond.instanceMethod_spec hinst
  obtain ⟨methM', cM, hmethM', -, -, -, -, -, -, hsigM⟩ := Cond.code_spec hnamed hcode
  cases hmethM.symm.trans hmethM'
  obtain ⟨c2, r2, m2, q1, q2, q3, q4, kP, hkP, hkPi⟩ := Cond.selects_spec hsel
  cases hcls.symm.trans q1
  cases (State.methodFound?_of_named hnamed hy).symm.trans q2
  cases hnamed.symm.trans q3
  have hselP : selectMethod e.platform s.vm cellB.cls mk = .method mk := by rw [Launch.admits_selectMethod X.admits]; exact q4
  obtain ⟨vm₁, X₁, hstep₁⟩ := X.invokevirtualNest hexec hown hlink hnamed hmethM hstM hkP hkPi hy (a := b) (cell := cellB) hcell
    (fun z h => by rw [h] at hobj; cases hobj) hselP hmethM habM hkP hkPi (g := g) hg (argsL := argsL) (rest := rest) (hlen _ hsigM) hstack hdg
  rcases hK m meth c ⟨T.setVm vm₁, locs, cells, slots⟩ { g with stack := rest } (.invokevirtual index) mk (Value.ref b :: argsL).toArray X₁ hg hsize hdg hW (X₁.named hnamed) (hpre vm₁ X₁.warmed) with ⟨v, B, X', hpost, hsteps⟩ | ⟨q, B, X', hpost, hsteps⟩
  · exact Or.inl ⟨v, vm₁, B, X₁.warmed, X', hpost, fun target h => hstep₁ _ fun acts => by rw [doInvoke_state]; exact hsteps.trans h⟩
  · exact Or.inr ⟨q, vm₁, B, X₁.warmed, X', hpost, hstep₁ _ fun acts => by rw [doInvoke_state]; exact hsteps⟩
theorem vx_callSN (X : Stand p l e R s m args below meth c T locs cells slots) (hexec : p.tables.exec = Jvm.exec) {own : String} {index : Nat} {host : String} {y : MethodName} {bytes : ByteArray} {maxL : Nat} {ret : Option FieldType}
    (hown : s.vm.findClass own = some m.cls) (hlink : (Cond.methodLinkNest own index y host).before args s = true) (hstat : (Cond.static y).before args s = true) (hinit : (Cond.initialized y.cls).before args s = true)
    (hcode : (Cond.code y bytes maxL ret).before args s = true) (hy : y.cls ≠ "java/lang/invoke/MethodHandle" ∧ y.cls ≠ "java/lang/invoke/VarHandle")
    {W : Nat} {Pre : Pt → Array Value → Prop} {Post : Pt → Array Value → Option Value → Pt → Prop} {PostX : Pt → Array Value → Addr → Pt → Prop} (hK : vx_Back l R p e below s args y 3 W Pre Post PostX)
    {g : JFrame} (hg : g.method = m) (hsize : g.locals.size = c.maxLocals) {argsL rest : List Value} (hlen : ∀ sig, parseMethodDescriptor y.desc = some sig → argsL.length = sig.parameters.length)
    (hstack : g.stack = argsL.reverse ++ rest) (hW : 2 * g.monitorRoom + (rest.map fun v => v.category).sum ≤ W) (hdg : decode c.code g.pc = .ok (.invokestatic index, 3))
    (hpre : ∀ vm₁, s.WarmedH vm₁ → Pre ⟨T.setVm vm₁, locs, cells, slots⟩ argsL.toArray) :
    (∃ (v : Option Value) (vm₁ : Vm) (B : Pt), s.WarmedH vm₁ ∧ Stand p l e R s m args below meth c B.U B.locs B.cells B.slots ∧ Post ⟨T.setVm vm₁, locs, cells, slots⟩ argsL.toArray v B ∧
      ∀ target, Steps p.tables e below (B.U.setTop { g with pc := g.pc + 3, stack := v.toList ++ rest }) target → Steps p.tables e below (T.setTop g) target) ∨
    (∃ (q : Addr) (vm₁ : Vm) (B : Pt), s.WarmedH vm₁ ∧ Stand p l e R s m args below meth c B.U B.locs B.cells B.slots ∧ PostX ⟨T.setVm vm₁, locs, cells, slots⟩ argsL.toArray q B ∧
      Steps p.tables e below (T.setTop g) ((B.U.setTop { g with stack := rest }).pushFrame (.throwing q))) := by
  obtain ⟨mk, hnamed⟩ := Cond.code_named hcode
  obtain ⟨methM, cM, hmethM, -, -, -, -, -, -, hsigM⟩ := Cond.code_spec hnamed hcode
  have hstatic : methM.isStatic = true := Cond.static_spec hnamed hmethM hstat
  obtain ⟨kP, hkP, -⟩ := className_of_methodNamed hnamed
  have hinitP : kP.init = .initialized := Cond.initialized_spec (findClass_of_methodNamed hnamed) hkP hinit
  obtain ⟨vm₁, X₁, hstep₁⟩ := X.invokestaticNest hexec hown hlink hnamed hmethM hstatic hkP hinitP hy (g := g) hg (argsL := argsL) (rest := rest) (hlen _ hsigM) hstack hdg
  rcases hK m meth c ⟨T.setVm vm₁, locs, cells, slots⟩ { g with stack := rest } (.invokestatic index) mk argsL.toArray X₁ hg hsize hdg hW (X₁.named hnamed) (hpre vm₁ X₁.warmed) with ⟨v, B, X', hpost, hsteps⟩ | ⟨q, B, X', hpost, hsteps⟩
  · exact Or.inl ⟨v, vm₁, B, X₁.warmed, X', hpost, fun target h => hstep₁ _ fun acts => by rw [doInvoke_state]; exact hsteps.trans h⟩
  · exact Or.inr ⟨q, vm₁, B, X₁.warmed, X', hpost, hstep₁ _ fun acts => by rw [doInvoke_state]; exact hsteps⟩
theorem vx_runVN {y : MethodName} {bytes cc : ByteArray} {maxL nL mc ms n index : Nat} {ret : Option FieldType} {ws : List Cond} {rm : Room} {Pc : Array Value → State → Prop} {Qc : Array Value → State → Outcome → State → Prop} {XC : String → State → State → Prop} {free : Addr → Prop} {Ts : List Cond} {own C host : String} {b : Addr} {As rest : List Value} {g : JFrame}
    (S : CallFix p m c cc nL s args Ts own) (hM : vx_Met l y ws rm Pc Qc XC mc ms free) (cw : va_CN R s args own index y host bytes maxL ret ws rm mc ms n ∧ (Cond.instanceMethod y).before args s = true ∧ (Cond.selects C y y).before args s = true) (hp : PreV s H C b Pc As)
    (hg : g.method = m) (hn : As.length = n) (hsize : g.locals.size = nL) (hstack : g.stack = As.reverse ++ .ref b :: rest) (hW : 2 * g.monitorRoom + (rest.map fun v => v.category).sum ≤ 8) (hdg : decode cc g.pc = .ok (.invokevirtual index, 3)) (hf : cells + mc ≤ R.cells ∧ slots + ms ≤ R.slots) :
    vx_Run p l e R s m args below meth c H locs cells slots mc ms g rest (Qc (Value.ref b :: As).toArray) XC free := by
  obtain ⟨⟨⟨hrc, hrs, hfr, hlo, hws, hcw⟩, hcode, hini, hy, hlen, hl⟩, hx1, hx2⟩ := cw
  have hK : vx_Back l R p e below s args y 3 8 (PreOf R mc ms Pc) (PostOf Qc mc ms free) (vx_Post XC mc ms free) := vx_back (bytes := bytes) (maxL := maxL) (ret := ret) hM hp.1 hrc hrs hfr hlo hws hcw (fun a' U hW => word_at hW (Or.inl (by first | rfl | simp [Cond.onTables, Cond.keeps, Cond.steady])) hini)
  obtain ⟨hx, hb, hml, ho, -⟩ := S
  obtain ⟨-, ⟨cellB, hcB, hoB, hclB⟩, hPc⟩ := hp
  intro T hT X
  rcases vx_callVN X hx (C := C) (bytes := bytes) (maxL := maxL) (ret := ret) ho hl hx1 hx2 hcode hy hK (by rw [hT]; exact hcB) hoB hclB hg (hsize.trans hml.symm) (argsL := As) (rest := rest) (fun sig h => hn.trans (hlen sig h)) hstack hW (by rw [hb]; exact hdg)
    (fun vm₁ hW₁ => ⟨hf.1, hf.2, hPc (T.setVm vm₁) hT hW₁⟩) with ⟨v, vm₁, ⟨U', l2, c2, s2⟩, hW₁, X', ⟨g', mk, t, L, e1, e2, hq, h1, hL, h2, h3⟩, st⟩ | ⟨q, vm₁, ⟨U', l2, c2, s2⟩, hW₁, X', ⟨g', mk, t, L, E, ce, e1, e2, hq, hce, hcv, hcl, h1, hL, h2, h3⟩, st⟩
  · dsimp only [Pt.U, Pt.locs, Pt.cells, Pt.slots] at X' e1 e2 h1 h2 h3 st
    subst h1; subst h2; subst h3
    exact Or.inl ⟨v, (T.setVm vm₁).calling g' mk (Value.ref b :: As).toArray, t, U', L, hT, X', hL, e1, e2, hq, st⟩
  · dsimp only [Pt.U, Pt.locs, Pt.cells, Pt.slots] at X' e1 e2 h1 h2 h3 st hcl
    subst h1; subst h2; subst h3
    exact Or.inr ⟨q, (T.setVm vm₁).calling g' mk (Value.ref b :: As).toArray, t, U', L, E, ce, hT, X', hL, e1, e2, hq, hce, hcv, vx_cls hW₁ hcl, st⟩
theorem vx_runSN {y : MethodName} {bytes cc : ByteArray} {maxL nL mc ms n index : Nat} {ret : Option FieldType} {ws : List Cond} {rm : Room} {Pc : Array Value → State → Prop} {Qc : Array Value → State → Outcome → State → Prop} {XC : String → State → State → Prop} {free : Addr → Prop} {Ts : List Cond} {own host : String} {As rest : List Value} {g : JFrame}
    (S : CallFix p m c cc nL s args Ts own) (hM : vx_Met l y ws rm Pc Qc XC mc ms free) (cw : va_CN R s args own index y host bytes maxL ret ws rm mc ms n ∧ (Cond.static y).before args s = true ∧ True) (hp : PreS s H Pc As)
    (hg : g.method = m) (hn : As.length = n) (hsize : g.locals.size = nL) (hstack : g.stack = As.reverse ++ rest) (hW : 2 * g.monitorRoom + (rest.map fun v => v.category).sum ≤ 8) (hdg : decode cc g.pc = .ok (.invokestatic index, 3)) (hf : cells + mc ≤ R.cells ∧ slots + ms ≤ R.slots) :
    vx_Run p l e R s m args below meth c H locs cells slots mc ms g rest (Qc As.toArray) XC free := by
  obtain ⟨⟨⟨hrc, hrs, hfr, hlo, hws, hcw⟩, hcode, hini, hy, hlen, hl⟩, hx1, hx2⟩ := cw
  have hK : vx_Back l R p e below s args y 3 8 (PreOf R mc ms Pc) (PostOf Qc mc ms free) (vx_Post XC mc ms free) := vx_back (bytes := bytes) (maxL := maxL) (ret := ret) hM hp.1 hrc hrs hfr hlo hws hcw (fun a' U hW => word_at hW (Or.inl (by first | rfl | simp [Cond.onTables, Cond.keeps, Cond.steady])) hini)
  obtain ⟨hx, hb, hml, ho, -⟩ := S
  have hPc := hp.2
  intro T hT X
  rcases vx_callSN X hx (bytes := bytes) (maxL := maxL) (ret := ret) ho hl hx1 hini hcode hy hK hg (hsize.trans hml.symm) (argsL := As) (rest := rest) (fun sig h => hn.trans (hlen sig h)) hstack hW (by rw [hb]; exact hdg)
    (fun vm₁ hW₁ => ⟨hf.1, hf.2, hPc (T.setVm vm₁) hT hW₁⟩) with ⟨v, vm₁, ⟨U', l2, c2, s2⟩, hW₁, X', ⟨g', mk, t, L, e1, e2, hq, h1, hL, h2, h3⟩, st⟩ | ⟨q, vm₁, ⟨U', l2, c2, s2⟩, hW₁, X', ⟨g', mk, t, L, E, ce, e1, e2, hq, hce, hcv, hcl, h1, hL, h2, h3⟩, st⟩
  · dsimp only [Pt.U, Pt.locs, Pt.cells, Pt.slots] at X' e1 e2 h1 h2 h3 st
    subst h1; subst h2; subst h3
    exact Or.inl ⟨v, (T.setVm vm₁).calling g' mk As.toArray, t, U', L, hT, X', hL, e1, e2, hq, st⟩
  · dsimp only [Pt.U, Pt.locs, Pt.cells, Pt.slots] at X' e1 e2 h1 h2 h3 st hcl
    subst h1; subst h2; subst h3
    exact Or.inr ⟨q, (T.setVm vm₁).calling g' mk As.toArray, t, U', L, E, ce, hT, X', hL, e1, e2, hq, hce, hcv, vx_cls hW₁ hcl, st⟩
end
/-! ===== END ===== -/
end
section
def RX0 : String := "QualityGate$Conflicts"
def TX0 : u_T := fun k => match k with
  | 0 => ("QualityGate$Conflicts", "partners", "[I", true)
  | 1 => ("QualityGate$Conflicts", "bad", "I", false)
  | _ => ("QualityGate$Conflicts", "size", "I", false)
def tyX0 : Nat → FieldType := fun k => match k with
  | 0 => .array .int
  | 1 => .int
  | _ => .int
theorem nmX0 : ∀ a, a < 3 → ∀ b, b < 3 → a ≠ b → (TX0 a).2.1 ≠ (TX0 b).2.1 := by decide +kernel
theorem tyX0_ok : ∀ k, k < 3 → parseFieldDescriptor (TX0 k).2.2.1 = some (tyX0 k) := by decide +kernel
abbrev cX0_init : ByteArray := prog_2_method_1_code
def yX0_init : MethodName := ⟨RX0, "<init>", "()V"⟩
abbrev cX0_find : ByteArray := prog_2_method_2_code
def yX0_find : MethodName := ⟨RX0, "find", "(Ljava/util/ArrayList;Ljava/util/ArrayList;)V"⟩
abbrev cX0_everyRow : ByteArray := prog_2_method_3_code
def yX0_everyRow : MethodName := ⟨RX0, "everyRow", "()I"⟩
abbrev cX0_reachedFrom : ByteArray := prog_2_method_4_code
def yX0_reachedFrom : MethodName := ⟨RX0, "reachedFrom", "(I)I"⟩
abbrev cX0_mayStay : ByteArray := prog_2_method_5_code
def yX0_mayStay : MethodName := ⟨RX0, "mayStay", "(II)Z"⟩
abbrev cX0_isRepairedBy : ByteArray := prog_2_method_6_code
def yX0_isRepairedBy : MethodName := ⟨RX0, "isRepairedBy", "(I)Z"⟩
def RX1 : String := "QualityGate$DependencyRule"
def TX1 : u_T := fun k => match k with
  | 0 => ("QualityGate$Rule", "isStrict", "Z", true)
  | 1 => ("QualityGate$Rule", "isDropped", "Z", false)
  | 2 => ("QualityGate$DependencyRule", "set", "I", true)
  | _ => ("QualityGate$DependencyRule", "column", "I", true)
def tyX1 : Nat → FieldType := fun k => match k with
  | 0 => .boolean
  | 1 => .boolean
  | 2 => .int
  | _ => .int
theorem nmX1 : ∀ a, a < 4 → ∀ b, b < 4 → a ≠ b → (TX1 a).2.1 ≠ (TX1 b).2.1 := by decide +kernel
theorem tyX1_ok : ∀ k, k < 4 → parseFieldDescriptor (TX1 k).2.2.1 = some (tyX1 k) := by decide +kernel
abbrev cX1_init : ByteArray := prog_3_method_1_code
def yX1_init : MethodName := ⟨RX1, "<init>", "(IIZ)V"⟩
abbrev cX1_isClash : ByteArray := prog_3_method_2_code
def yX1_isClash : MethodName := ⟨RX1, "isClash", "(LQualityGate$Row;LQualityGate$Row;)Z"⟩
def RX2 : String := "QualityGate$OrderRule"
def TX2 : u_T := fun k => match k with
  | 0 => ("QualityGate$Rule", "isStrict", "Z", true)
  | 1 => ("QualityGate$Rule", "isDropped", "Z", false)
  | 2 => ("QualityGate$OrderRule", "first", "I", true)
  | _ => ("QualityGate$OrderRule", "second", "I", true)
def tyX2 : Nat → FieldType := fun k => match k with
  | 0 => .boolean
  | 1 => .boolean
  | 2 => .int
  | _ => .int
theorem nmX2 : ∀ a, a < 4 → ∀ b, b < 4 → a ≠ b → (TX2 a).2.1 ≠ (TX2 b).2.1 := by decide +kernel
theorem tyX2_ok : ∀ k, k < 4 → parseFieldDescriptor (TX2 k).2.2.1 = some (tyX2 k) := by decide +kernel
abbrev cX2_init : ByteArray := prog_4_method_1_code
def yX2_init : MethodName := ⟨RX2, "<init>", "(IIZ)V"⟩
abbrev cX2_isBrokenBy : ByteArray := prog_4_method_2_code
def yX2_isBrokenBy : MethodName := ⟨RX2, "isBrokenBy", "(LQualityGate$Row;)Z"⟩
def RX3 : String := "QualityGate$Partition"
def TX3 : u_T := fun k => match k with
  | 0 => ("QualityGate$Partition", "firsts", "[I", true)
  | _ => ("QualityGate$Partition", "size", "I", false)
def tyX3 : Nat → FieldType := fun k => match k with
  | 0 => .array .int
  | _ => .int
theorem nmX3 : ∀ a, a < 2 → ∀ b, b < 2 → a ≠ b → (TX3 a).2.1 ≠ (TX3 b).2.1 := by decide +kernel
theorem tyX3_ok : ∀ k, k < 2 → parseFieldDescriptor (TX3 k).2.2.1 = some (tyX3 k) := by decide +kernel
abbrev cX3_init : ByteArray := prog_5_method_1_code
def yX3_init : MethodName := ⟨RX3, "<init>", "()V"⟩
abbrev cX3_divide : ByteArray := prog_5_method_2_code
def yX3_divide : MethodName := ⟨RX3, "divide", "(Ljava/util/ArrayList;I)V"⟩
abbrev cX3_isEachRowAlone : ByteArray := prog_5_method_3_code
def yX3_isEachRowAlone : MethodName := ⟨RX3, "isEachRowAlone", "()Z"⟩
abbrev cX3_isEachClassEqualIn : ByteArray := prog_5_method_4_code
def yX3_isEachClassEqualIn : MethodName := ⟨RX3, "isEachClassEqualIn", "(Ljava/util/ArrayList;I)Z"⟩
abbrev cX3_removalsToDetermine : ByteArray := prog_5_method_5_code
def yX3_removalsToDetermine : MethodName := ⟨RX3, "removalsToDetermine", "(Ljava/util/ArrayList;I)I"⟩
abbrev cX3_removalsInClass : ByteArray := prog_5_method_6_code
def yX3_removalsInClass : MethodName := ⟨RX3, "removalsInClass", "(Ljava/util/ArrayList;II)I"⟩
abbrev cX3_equalInClass : ByteArray := prog_5_method_7_code
def yX3_equalInClass : MethodName := ⟨RX3, "equalInClass", "(Ljava/util/ArrayList;II)I"⟩
def RX4 : String := "QualityGate$RangeRule"
def TX4 : u_T := fun k => match k with
  | 0 => ("QualityGate$Rule", "isStrict", "Z", true)
  | 1 => ("QualityGate$Rule", "isDropped", "Z", false)
  | 2 => ("QualityGate$RangeRule", "column", "I", true)
  | 3 => ("QualityGate$RangeRule", "low", "I", true)
  | _ => ("QualityGate$RangeRule", "high", "I", true)
def tyX4 : Nat → FieldType := fun k => match k with
  | 0 => .boolean
  | 1 => .boolean
  | 2 => .int
  | 3 => .int
  | _ => .int
theorem nmX4 : ∀ a, a < 5 → ∀ b, b < 5 → a ≠ b → (TX4 a).2.1 ≠ (TX4 b).2.1 := by decide +kernel
theorem tyX4_ok : ∀ k, k < 5 → parseFieldDescriptor (TX4 k).2.2.1 = some (tyX4 k) := by decide +kernel
abbrev cX4_init : ByteArray := prog_6_method_1_code
def yX4_init : MethodName := ⟨RX4, "<init>", "(IIIZ)V"⟩
abbrev cX4_isBrokenBy : ByteArray := prog_6_method_2_code
def yX4_isBrokenBy : MethodName := ⟨RX4, "isBrokenBy", "(LQualityGate$Row;)Z"⟩
def RX5 : String := "QualityGate$Rejection"
def TX5 : u_T := fun k => match k with
  | 0 => ("QualityGate$Rejection", "index", "I", false)
  | 1 => ("QualityGate$Rejection", "rule", "I", false)
  | 2 => ("QualityGate$Rejection", "other", "I", false)
  | _ => ("QualityGate$Rejection", "isInBatch", "Z", false)
def tyX5 : Nat → FieldType := fun k => match k with
  | 0 => .int
  | 1 => .int
  | 2 => .int
  | _ => .boolean
theorem nmX5 : ∀ a, a < 4 → ∀ b, b < 4 → a ≠ b → (TX5 a).2.1 ≠ (TX5 b).2.1 := by decide +kernel
theorem tyX5_ok : ∀ k, k < 4 → parseFieldDescriptor (TX5 k).2.2.1 = some (tyX5 k) := by decide +kernel
abbrev cX5_init : ByteArray := prog_7_method_1_code
def yX5_init : MethodName := ⟨RX5, "<init>", "()V"⟩
abbrev cX5_note : ByteArray := prog_7_method_2_code
def yX5_note : MethodName := ⟨RX5, "note", "(IIIZ)V"⟩
def RX6 : String := "QualityGate$RequiredRule"
def TX6 : u_T := fun k => match k with
  | 0 => ("QualityGate$Rule", "isStrict", "Z", true)
  | 1 => ("QualityGate$Rule", "isDropped", "Z", false)
  | _ => ("QualityGate$RequiredRule", "column", "I", true)
def tyX6 : Nat → FieldType := fun k => match k with
  | 0 => .boolean
  | 1 => .boolean
  | _ => .int
theorem nmX6 : ∀ a, a < 3 → ∀ b, b < 3 → a ≠ b → (TX6 a).2.1 ≠ (TX6 b).2.1 := by decide +kernel
theorem tyX6_ok : ∀ k, k < 3 → parseFieldDescriptor (TX6 k).2.2.1 = some (tyX6 k) := by decide +kernel
abbrev cX6_init : ByteArray := prog_8_method_1_code
def yX6_init : MethodName := ⟨RX6, "<init>", "(IZ)V"⟩
abbrev cX6_isBrokenBy : ByteArray := prog_8_method_2_code
def yX6_isBrokenBy : MethodName := ⟨RX6, "isBrokenBy", "(LQualityGate$Row;)Z"⟩
def RX7 : String := "QualityGate$Row"
def TX7 : u_T := fun k => match k with
  | 0 => ("QualityGate$Row", "values", "[I", true)
  | _ => ("QualityGate$Row", "id", "I", false)
def tyX7 : Nat → FieldType := fun k => match k with
  | 0 => .array .int
  | _ => .int
theorem nmX7 : ∀ a, a < 2 → ∀ b, b < 2 → a ≠ b → (TX7 a).2.1 ≠ (TX7 b).2.1 := by decide +kernel
theorem tyX7_ok : ∀ k, k < 2 → parseFieldDescriptor (TX7 k).2.2.1 = some (tyX7 k) := by decide +kernel
abbrev cX7_init : ByteArray := prog_9_method_1_code
def yX7_init : MethodName := ⟨RX7, "<init>", "(IIIII)V"⟩
abbrev cX7_value : ByteArray := prog_9_method_2_code
def yX7_value : MethodName := ⟨RX7, "value", "(I)I"⟩
abbrev cX7_put : ByteArray := prog_9_method_3_code
def yX7_put : MethodName := ⟨RX7, "put", "(II)V"⟩
abbrev cX7_isPresent : ByteArray := prog_9_method_4_code
def yX7_isPresent : MethodName := ⟨RX7, "isPresent", "(I)Z"⟩
abbrev cX7_isEqualIn : ByteArray := prog_9_method_5_code
def yX7_isEqualIn : MethodName := ⟨RX7, "isEqualIn", "(ILQualityGate$Row;)Z"⟩
abbrev cX7_distance : ByteArray := prog_9_method_6_code
def yX7_distance : MethodName := ⟨RX7, "distance", "(II)I"⟩
abbrev cX7_bucket : ByteArray := prog_9_method_7_code
def yX7_bucket : MethodName := ⟨RX7, "bucket", "(I)I"⟩
def RX8 : String := "QualityGate$Rule"
def TX8 : u_T := fun k => match k with
  | _ => ("", "", "", false)
def tyX8 : Nat → FieldType := fun k => match k with
  | _ => .int
theorem nmX8 : ∀ a, a < 0 → ∀ b, b < 0 → a ≠ b → (TX8 a).2.1 ≠ (TX8 b).2.1 := by decide +kernel
theorem tyX8_ok : ∀ k, k < 0 → parseFieldDescriptor (TX8 k).2.2.1 = some (tyX8 k) := by decide +kernel
abbrev cX8_init : ByteArray := prog_10_method_1_code
def yX8_init : MethodName := ⟨RX8, "<init>", "(Z)V"⟩
abbrev cX8_isBrokenBy : ByteArray := prog_10_method_2_code
def yX8_isBrokenBy : MethodName := ⟨RX8, "isBrokenBy", "(LQualityGate$Row;)Z"⟩
abbrev cX8_isClash : ByteArray := prog_10_method_3_code
def yX8_isClash : MethodName := ⟨RX8, "isClash", "(LQualityGate$Row;LQualityGate$Row;)Z"⟩
def RX9 : String := "QualityGate$SortedNumbers"
def TX9 : u_T := fun k => match k with
  | 0 => ("QualityGate$SortedNumbers", "numbers", "[I", true)
  | _ => ("QualityGate$SortedNumbers", "size", "I", false)
def tyX9 : Nat → FieldType := fun k => match k with
  | 0 => .array .int
  | _ => .int
theorem nmX9 : ∀ a, a < 2 → ∀ b, b < 2 → a ≠ b → (TX9 a).2.1 ≠ (TX9 b).2.1 := by decide +kernel
theorem tyX9_ok : ∀ k, k < 2 → parseFieldDescriptor (TX9 k).2.2.1 = some (tyX9 k) := by decide +kernel
abbrev cX9_init : ByteArray := prog_11_method_1_code
def yX9_init : MethodName := ⟨RX9, "<init>", "()V"⟩
abbrev cX9_clear : ByteArray := prog_11_method_2_code
def yX9_clear : MethodName := ⟨RX9, "clear", "()V"⟩
abbrev cX9_insert : ByteArray := prog_11_method_3_code
def yX9_insert : MethodName := ⟨RX9, "insert", "(I)V"⟩
abbrev cX9_middle : ByteArray := prog_11_method_4_code
def yX9_middle : MethodName := ⟨RX9, "middle", "()I"⟩
def RX10 : String := "QualityGate$UniqueRule"
def TX10 : u_T := fun k => match k with
  | 0 => ("QualityGate$Rule", "isStrict", "Z", true)
  | 1 => ("QualityGate$Rule", "isDropped", "Z", false)
  | _ => ("QualityGate$UniqueRule", "column", "I", true)
def tyX10 : Nat → FieldType := fun k => match k with
  | 0 => .boolean
  | 1 => .boolean
  | _ => .int
theorem nmX10 : ∀ a, a < 3 → ∀ b, b < 3 → a ≠ b → (TX10 a).2.1 ≠ (TX10 b).2.1 := by decide +kernel
theorem tyX10_ok : ∀ k, k < 3 → parseFieldDescriptor (TX10 k).2.2.1 = some (tyX10 k) := by decide +kernel
abbrev cX10_init : ByteArray := prog_12_method_1_code
def yX10_init : MethodName := ⟨RX10, "<init>", "(IZ)V"⟩
abbrev cX10_isClash : ByteArray := prog_12_method_2_code
def yX10_isClash : MethodName := ⟨RX10, "isClash", "(LQualityGate$Row;LQualityGate$Row;)Z"⟩
def RX11 : String := "QualityGate"
def TX11 : u_T := fun k => match k with
  | 0 => ("QualityGate", "table", "Ljava/util/ArrayList;", true)
  | 1 => ("QualityGate", "batch", "Ljava/util/ArrayList;", true)
  | 2 => ("QualityGate", "rules", "Ljava/util/ArrayList;", true)
  | 3 => ("QualityGate", "rejection", "LQualityGate$Rejection;", true)
  | 4 => ("QualityGate", "conflicts", "LQualityGate$Conflicts;", true)
  | 5 => ("QualityGate", "partition", "LQualityGate$Partition;", true)
  | 6 => ("QualityGate", "numbers", "LQualityGate$SortedNumbers;", true)
  | 7 => ("QualityGate", "profile", "[[I", true)
  | 8 => ("QualityGate", "profileRows", "I", false)
  | 9 => ("QualityGate", "nextId", "I", false)
  | _ => ("QualityGate", "factor", "I", false)
def tyX11 : Nat → FieldType := fun k => match k with
  | 0 => .object "java/util/ArrayList"
  | 1 => .object "java/util/ArrayList"
  | 2 => .object "java/util/ArrayList"
  | 3 => .object "QualityGate$Rejection"
  | 4 => .object "QualityGate$Conflicts"
  | 5 => .object "QualityGate$Partition"
  | 6 => .object "QualityGate$SortedNumbers"
  | 7 => .array (.array .int)
  | 8 => .int
  | 9 => .int
  | _ => .int
theorem nmX11 : ∀ a, a < 11 → ∀ b, b < 11 → a ≠ b → (TX11 a).2.1 ≠ (TX11 b).2.1 := by decide +kernel
theorem tyX11_ok : ∀ k, k < 11 → parseFieldDescriptor (TX11 k).2.2.1 = some (tyX11 k) := by decide +kernel
abbrev cX11_init : ByteArray := prog_1_method_1_code
def yX11_init : MethodName := ⟨RX11, "<init>", "()V"⟩
abbrev cX11_stage : ByteArray := prog_1_method_2_code
def yX11_stage : MethodName := ⟨RX11, "stage", "(IIIII)I"⟩
abbrev cX11_commit : ByteArray := prog_1_method_3_code
def yX11_commit : MethodName := ⟨RX11, "commit", "()I"⟩
abbrev cX11_discard : ByteArray := prog_1_method_4_code
def yX11_discard : MethodName := ⟨RX11, "discard", "()I"⟩
abbrev cX11_staged : ByteArray := prog_1_method_5_code
def yX11_staged : MethodName := ⟨RX11, "staged", "()I"⟩
abbrev cX11_rejectedRow : ByteArray := prog_1_method_6_code
def yX11_rejectedRow : MethodName := ⟨RX11, "rejectedRow", "()I"⟩
abbrev cX11_rejectedRule : ByteArray := prog_1_method_7_code
def yX11_rejectedRule : MethodName := ⟨RX11, "rejectedRule", "()I"⟩
abbrev cX11_rejectedOther : ByteArray := prog_1_method_8_code
def yX11_rejectedOther : MethodName := ⟨RX11, "rejectedOther", "()I"⟩
abbrev cX11_isOtherStaged : ByteArray := prog_1_method_9_code
def yX11_isOtherStaged : MethodName := ⟨RX11, "isOtherStaged", "()Z"⟩
abbrev cX11_removeRow : ByteArray := prog_1_method_10_code
def yX11_removeRow : MethodName := ⟨RX11, "removeRow", "(I)I"⟩
abbrev cX11_setValue : ByteArray := prog_1_method_11_code
def yX11_setValue : MethodName := ⟨RX11, "setValue", "(III)I"⟩
abbrev cX11_valueAt : ByteArray := prog_1_method_12_code
def yX11_valueAt : MethodName := ⟨RX11, "valueAt", "(II)I"⟩
abbrev cX11_rowCount : ByteArray := prog_1_method_13_code
def yX11_rowCount : MethodName := ⟨RX11, "rowCount", "()I"⟩
abbrev cX11_rowAt : ByteArray := prog_1_method_14_code
def yX11_rowAt : MethodName := ⟨RX11, "rowAt", "(I)I"⟩
abbrev cX11_addRange : ByteArray := prog_1_method_15_code
def yX11_addRange : MethodName := ⟨RX11, "addRange", "(IIIZ)I"⟩
abbrev cX11_addRequired : ByteArray := prog_1_method_16_code
def yX11_addRequired : MethodName := ⟨RX11, "addRequired", "(IZ)I"⟩
abbrev cX11_addOrder : ByteArray := prog_1_method_17_code
def yX11_addOrder : MethodName := ⟨RX11, "addOrder", "(IIZ)I"⟩
abbrev cX11_addUnique : ByteArray := prog_1_method_18_code
def yX11_addUnique : MethodName := ⟨RX11, "addUnique", "(IZ)I"⟩
abbrev cX11_addDependency : ByteArray := prog_1_method_19_code
def yX11_addDependency : MethodName := ⟨RX11, "addDependency", "(IIZ)I"⟩
abbrev cX11_dropRule : ByteArray := prog_1_method_20_code
def yX11_dropRule : MethodName := ⟨RX11, "dropRule", "(I)I"⟩
abbrev cX11_violations : ByteArray := prog_1_method_21_code
def yX11_violations : MethodName := ⟨RX11, "violations", "(I)I"⟩
abbrev cX11_isBad : ByteArray := prog_1_method_22_code
def yX11_isBad : MethodName := ⟨RX11, "isBad", "(I)Z"⟩
abbrev cX11_conflict : ByteArray := prog_1_method_23_code
def yX11_conflict : MethodName := ⟨RX11, "conflict", "(II)Z"⟩
abbrev cX11_groups : ByteArray := prog_1_method_24_code
def yX11_groups : MethodName := ⟨RX11, "groups", "()I"⟩
abbrev cX11_groupSize : ByteArray := prog_1_method_25_code
def yX11_groupSize : MethodName := ⟨RX11, "groupSize", "(I)I"⟩
abbrev cX11_fewestRemovals : ByteArray := prog_1_method_26_code
def yX11_fewestRemovals : MethodName := ⟨RX11, "fewestRemovals", "()I"⟩
abbrev cX11_fewestRemovalsByTrying : ByteArray := prog_1_method_27_code
def yX11_fewestRemovalsByTrying : MethodName := ⟨RX11, "fewestRemovalsByTrying", "()I"⟩
abbrev cX11_isInRepair : ByteArray := prog_1_method_28_code
def yX11_isInRepair : MethodName := ⟨RX11, "isInRepair", "(I)Z"⟩
abbrev cX11_repair : ByteArray := prog_1_method_29_code
def yX11_repair : MethodName := ⟨RX11, "repair", "()I"⟩
abbrev cX11_determines : ByteArray := prog_1_method_30_code
def yX11_determines : MethodName := ⟨RX11, "determines", "(II)Z"⟩
abbrev cX11_determinesByPairs : ByteArray := prog_1_method_31_code
def yX11_determinesByPairs : MethodName := ⟨RX11, "determinesByPairs", "(II)Z"⟩
abbrev cX11_minimalCount : ByteArray := prog_1_method_32_code
def yX11_minimalCount : MethodName := ⟨RX11, "minimalCount", "(I)I"⟩
abbrev cX11_minimalCountByTrying : ByteArray := prog_1_method_33_code
def yX11_minimalCountByTrying : MethodName := ⟨RX11, "minimalCountByTrying", "(I)I"⟩
abbrev cX11_minimalAt : ByteArray := prog_1_method_34_code
def yX11_minimalAt : MethodName := ⟨RX11, "minimalAt", "(II)I"⟩
abbrev cX11_closureOf : ByteArray := prog_1_method_35_code
def yX11_closureOf : MethodName := ⟨RX11, "closureOf", "(I)I"⟩
abbrev cX11_isKey : ByteArray := prog_1_method_36_code
def yX11_isKey : MethodName := ⟨RX11, "isKey", "(I)Z"⟩
abbrev cX11_smallestKey : ByteArray := prog_1_method_37_code
def yX11_smallestKey : MethodName := ⟨RX11, "smallestKey", "()I"⟩
abbrev cX11_errorOf : ByteArray := prog_1_method_38_code
def yX11_errorOf : MethodName := ⟨RX11, "errorOf", "(II)I"⟩
abbrev cX11_setFactor : ByteArray := prog_1_method_39_code
def yX11_setFactor : MethodName := ⟨RX11, "setFactor", "(I)I"⟩
abbrev cX11_medianOf : ByteArray := prog_1_method_40_code
def yX11_medianOf : MethodName := ⟨RX11, "medianOf", "(I)I"⟩
abbrev cX11_spreadOf : ByteArray := prog_1_method_41_code
def yX11_spreadOf : MethodName := ⟨RX11, "spreadOf", "(I)I"⟩
abbrev cX11_isOutlier : ByteArray := prog_1_method_42_code
def yX11_isOutlier : MethodName := ⟨RX11, "isOutlier", "(II)Z"⟩
abbrev cX11_outliers : ByteArray := prog_1_method_43_code
def yX11_outliers : MethodName := ⟨RX11, "outliers", "(I)I"⟩
abbrev cX11_saveProfile : ByteArray := prog_1_method_44_code
def yX11_saveProfile : MethodName := ⟨RX11, "saveProfile", "()I"⟩
abbrev cX11_drift : ByteArray := prog_1_method_45_code
def yX11_drift : MethodName := ⟨RX11, "drift", "(I)I"⟩
abbrev cX11_mostDrifted : ByteArray := prog_1_method_46_code
def yX11_mostDrifted : MethodName := ⟨RX11, "mostDrifted", "()I"⟩
abbrev cX11_meanOf : ByteArray := prog_1_method_47_code
def yX11_meanOf : MethodName := ⟨RX11, "meanOf", "(I)D"⟩
abbrev cX11_missingShare : ByteArray := prog_1_method_48_code
def yX11_missingShare : MethodName := ⟨RX11, "missingShare", "(I)F"⟩
abbrev cX11_isConsistent : ByteArray := prog_1_method_49_code
def yX11_isConsistent : MethodName := ⟨RX11, "isConsistent", "()Z"⟩
abbrev cX11_isValue : ByteArray := prog_1_method_50_code
def yX11_isValue : MethodName := ⟨RX11, "isValue", "(I)Z"⟩
abbrev cX11_needColumn : ByteArray := prog_1_method_51_code
def yX11_needColumn : MethodName := ⟨RX11, "needColumn", "(I)V"⟩
abbrev cX11_needSet : ByteArray := prog_1_method_52_code
def yX11_needSet : MethodName := ⟨RX11, "needSet", "(I)V"⟩
abbrev cX11_needSetWithout : ByteArray := prog_1_method_53_code
def yX11_needSetWithout : MethodName := ⟨RX11, "needSetWithout", "(II)V"⟩
abbrev cX11_needRoomForRule : ByteArray := prog_1_method_54_code
def yX11_needRoomForRule : MethodName := ⟨RX11, "needRoomForRule", "()V"⟩
abbrev cX11_needProfileAndRows : ByteArray := prog_1_method_55_code
def yX11_needProfileAndRows : MethodName := ⟨RX11, "needProfileAndRows", "()V"⟩
abbrev cX11_numberOfAdded : ByteArray := prog_1_method_56_code
def yX11_numberOfAdded : MethodName := ⟨RX11, "numberOfAdded", "(LQualityGate$Rule;)I"⟩
abbrev cX11_ruleInForce : ByteArray := prog_1_method_57_code
def yX11_ruleInForce : MethodName := ⟨RX11, "ruleInForce", "(I)LQualityGate$Rule;"⟩
abbrev cX11_positionOf : ByteArray := prog_1_method_58_code
def yX11_positionOf : MethodName := ⟨RX11, "positionOf", "(I)I"⟩
abbrev cX11_rowWith : ByteArray := prog_1_method_59_code
def yX11_rowWith : MethodName := ⟨RX11, "rowWith", "(I)LQualityGate$Row;"⟩
abbrev cX11_isIn : ByteArray := prog_1_method_60_code
def yX11_isIn : MethodName := ⟨RX11, "isIn", "(II)Z"⟩
abbrev cX11_isBatchRejected : ByteArray := prog_1_method_61_code
def yX11_isBatchRejected : MethodName := ⟨RX11, "isBatchRejected", "()Z"⟩
abbrev cX11_isRejectedBy : ByteArray := prog_1_method_62_code
def yX11_isRejectedBy : MethodName := ⟨RX11, "isRejectedBy", "(LQualityGate$Rule;II)Z"⟩
abbrev cX11_breaksSome : ByteArray := prog_1_method_63_code
def yX11_breaksSome : MethodName := ⟨RX11, "breaksSome", "(Ljava/util/ArrayList;LQualityGate$Row;)Z"⟩
abbrev cX11_clashBySome : ByteArray := prog_1_method_64_code
def yX11_clashBySome : MethodName := ⟨RX11, "clashBySome", "(Ljava/util/ArrayList;LQualityGate$Row;LQualityGate$Row;)Z"⟩
abbrev cX11_bestRepair : ByteArray := prog_1_method_65_code
def yX11_bestRepair : MethodName := ⟨RX11, "bestRepair", "()I"⟩
abbrev cX11_bestFrom : ByteArray := prog_1_method_66_code
def yX11_bestFrom : MethodName := ⟨RX11, "bestFrom", "(LQualityGate$Conflicts;III)I"⟩
abbrev cX11_isDeterminedInClasses : ByteArray := prog_1_method_67_code
def yX11_isDeterminedInClasses : MethodName := ⟨RX11, "isDeterminedInClasses", "(II)Z"⟩
abbrev cX11_isDeterminedInPairs : ByteArray := prog_1_method_68_code
def yX11_isDeterminedInPairs : MethodName := ⟨RX11, "isDeterminedInPairs", "(II)Z"⟩
abbrev cX11_isTellingRowsApart : ByteArray := prog_1_method_69_code
def yX11_isTellingRowsApart : MethodName := ⟨RX11, "isTellingRowsApart", "(I)Z"⟩
abbrev cX11_minimalSets : ByteArray := prog_1_method_70_code
def yX11_minimalSets : MethodName := ⟨RX11, "minimalSets", "(I)J"⟩
abbrev cX11_isSetIn : ByteArray := prog_1_method_71_code
def yX11_isSetIn : MethodName := ⟨RX11, "isSetIn", "(IJ)Z"⟩
abbrev cX11_holdsOther : ByteArray := prog_1_method_72_code
def yX11_holdsOther : MethodName := ⟨RX11, "holdsOther", "(IJ)Z"⟩
abbrev cX11_setInOrder : ByteArray := prog_1_method_73_code
def yX11_setInOrder : MethodName := ⟨RX11, "setInOrder", "(JI)I"⟩
abbrev cX11_presentCount : ByteArray := prog_1_method_74_code
def yX11_presentCount : MethodName := ⟨RX11, "presentCount", "(I)I"⟩
abbrev cX11_columnMedian : ByteArray := prog_1_method_75_code
def yX11_columnMedian : MethodName := ⟨RX11, "columnMedian", "(I)I"⟩
abbrev cX11_columnSpread : ByteArray := prog_1_method_76_code
def yX11_columnSpread : MethodName := ⟨RX11, "columnSpread", "(II)I"⟩
abbrev cX11_isFar : ByteArray := prog_1_method_77_code
def yX11_isFar : MethodName := ⟨RX11, "isFar", "(LQualityGate$Row;III)Z"⟩
abbrev cX11_rowsInBucket : ByteArray := prog_1_method_78_code
def yX11_rowsInBucket : MethodName := ⟨RX11, "rowsInBucket", "(II)I"⟩
abbrev cX11_driftFromProfile : ByteArray := prog_1_method_79_code
def yX11_driftFromProfile : MethodName := ⟨RX11, "driftFromProfile", "(I)I"⟩
def RX12 : String := "QualityGateModel"
def TX12 : u_T := fun k => match k with
  | 0 => ("QualityGateModel", "thrown", "I", false)
  | 1 => ("QualityGateModel", "rows", "I", false)
  | 2 => ("QualityGateModel", "nextId", "I", false)
  | 3 => ("QualityGateModel", "staged", "I", false)
  | 4 => ("QualityGateModel", "id", "[I", true)
  | 5 => ("QualityGateModel", "value", "[I", true)
  | 6 => ("QualityGateModel", "waiting", "[I", true)
  | 7 => ("QualityGateModel", "rules", "I", false)
  | 8 => ("QualityGateModel", "kind", "[I", true)
  | 9 => ("QualityGateModel", "one", "[I", true)
  | 10 => ("QualityGateModel", "two", "[I", true)
  | 11 => ("QualityGateModel", "three", "[I", true)
  | 12 => ("QualityGateModel", "isStrict", "[Z", true)
  | 13 => ("QualityGateModel", "isDropped", "[Z", true)
  | 14 => ("QualityGateModel", "rejectedAt", "I", false)
  | 15 => ("QualityGateModel", "rejectedBy", "I", false)
  | 16 => ("QualityGateModel", "rejectedWith", "I", false)
  | 17 => ("QualityGateModel", "isWithStaged", "Z", false)
  | 18 => ("QualityGateModel", "against", "[I", true)
  | 19 => ("QualityGateModel", "group", "[I", true)
  | 20 => ("QualityGateModel", "best", "I", false)
  | 21 => ("QualityGateModel", "sorted", "[I", true)
  | 22 => ("QualityGateModel", "factor", "I", false)
  | 23 => ("QualityGateModel", "profile", "I", false)
  | 24 => ("QualityGateModel", "saved", "[I", true)
  | _ => ("QualityGateModel", "counted", "[I", true)
def tyX12 : Nat → FieldType := fun k => match k with
  | 0 => .int
  | 1 => .int
  | 2 => .int
  | 3 => .int
  | 4 => .array .int
  | 5 => .array .int
  | 6 => .array .int
  | 7 => .int
  | 8 => .array .int
  | 9 => .array .int
  | 10 => .array .int
  | 11 => .array .int
  | 12 => .array .boolean
  | 13 => .array .boolean
  | 14 => .int
  | 15 => .int
  | 16 => .int
  | 17 => .boolean
  | 18 => .array .int
  | 19 => .array .int
  | 20 => .int
  | 21 => .array .int
  | 22 => .int
  | 23 => .int
  | 24 => .array .int
  | _ => .array .int
theorem nmX12 : ∀ a, a < 26 → ∀ b, b < 26 → a ≠ b → (TX12 a).2.1 ≠ (TX12 b).2.1 := by decide +kernel
theorem tyX12_ok : ∀ k, k < 26 → parseFieldDescriptor (TX12 k).2.2.1 = some (tyX12 k) := by decide +kernel
abbrev cX12_init : ByteArray := prog_14_method_1_code
def yX12_init : MethodName := ⟨RX12, "<init>", "()V"⟩
abbrev cX12_thrown : ByteArray := prog_14_method_2_code
def yX12_thrown : MethodName := ⟨RX12, "thrown", "()I"⟩
abbrev cX12_in : ByteArray := prog_14_method_3_code
def yX12_in : MethodName := ⟨RX12, "in", "(III)Z"⟩
abbrev cX12_fails : ByteArray := prog_14_method_4_code
def yX12_fails : MethodName := ⟨RX12, "fails", "(I)I"⟩
abbrev cX12_tells : ByteArray := prog_14_method_5_code
def yX12_tells : MethodName := ⟨RX12, "tells", "(I)I"⟩
abbrev cX12_asks : ByteArray := prog_14_method_6_code
def yX12_asks : MethodName := ⟨RX12, "asks", "(IZ)Z"⟩
abbrev cX12_isValue : ByteArray := prog_14_method_7_code
def yX12_isValue : MethodName := ⟨RX12, "isValue", "(I)Z"⟩
abbrev cX12_isColumn : ByteArray := prog_14_method_8_code
def yX12_isColumn : MethodName := ⟨RX12, "isColumn", "(I)Z"⟩
abbrev cX12_isSet : ByteArray := prog_14_method_9_code
def yX12_isSet : MethodName := ⟨RX12, "isSet", "(I)Z"⟩
abbrev cX12_sizeOf : ByteArray := prog_14_method_10_code
def yX12_sizeOf : MethodName := ⟨RX12, "sizeOf", "(I)I"⟩
abbrev cX12_at : ByteArray := prog_14_method_11_code
def yX12_at : MethodName := ⟨RX12, "at", "(II)I"⟩
abbrev cX12_find : ByteArray := prog_14_method_12_code
def yX12_find : MethodName := ⟨RX12, "find", "(I)I"⟩
abbrev cX12_breaks : ByteArray := prog_14_method_13_code
def yX12_breaks : MethodName := ⟨RX12, "breaks", "(II)Z"⟩
abbrev cX12_alike : ByteArray := prog_14_method_14_code
def yX12_alike : MethodName := ⟨RX12, "alike", "(III)Z"⟩
abbrev cX12_clash : ByteArray := prog_14_method_15_code
def yX12_clash : MethodName := ⟨RX12, "clash", "(III)Z"⟩
abbrev cX12_stage : ByteArray := prog_14_method_16_code
def yX12_stage : MethodName := ⟨RX12, "stage", "(IIIII)I"⟩
abbrev cX12_rejects : ByteArray := prog_14_method_17_code
def yX12_rejects : MethodName := ⟨RX12, "rejects", "(II)Z"⟩
abbrev cX12_commit : ByteArray := prog_14_method_18_code
def yX12_commit : MethodName := ⟨RX12, "commit", "()I"⟩
abbrev cX12_discard : ByteArray := prog_14_method_19_code
def yX12_discard : MethodName := ⟨RX12, "discard", "()I"⟩
abbrev cX12_staged : ByteArray := prog_14_method_20_code
def yX12_staged : MethodName := ⟨RX12, "staged", "()I"⟩
abbrev cX12_rejectedRow : ByteArray := prog_14_method_21_code
def yX12_rejectedRow : MethodName := ⟨RX12, "rejectedRow", "()I"⟩
abbrev cX12_rejectedRule : ByteArray := prog_14_method_22_code
def yX12_rejectedRule : MethodName := ⟨RX12, "rejectedRule", "()I"⟩
abbrev cX12_hasOther : ByteArray := prog_14_method_23_code
def yX12_hasOther : MethodName := ⟨RX12, "hasOther", "()Z"⟩
abbrev cX12_rejectedOther : ByteArray := prog_14_method_24_code
def yX12_rejectedOther : MethodName := ⟨RX12, "rejectedOther", "()I"⟩
abbrev cX12_isOtherStaged : ByteArray := prog_14_method_25_code
def yX12_isOtherStaged : MethodName := ⟨RX12, "isOtherStaged", "()Z"⟩
abbrev cX12_drops : ByteArray := prog_14_method_26_code
def yX12_drops : MethodName := ⟨RX12, "drops", "(I)V"⟩
abbrev cX12_removeRow : ByteArray := prog_14_method_27_code
def yX12_removeRow : MethodName := ⟨RX12, "removeRow", "(I)I"⟩
abbrev cX12_setValue : ByteArray := prog_14_method_28_code
def yX12_setValue : MethodName := ⟨RX12, "setValue", "(III)I"⟩
abbrev cX12_valueAt : ByteArray := prog_14_method_29_code
def yX12_valueAt : MethodName := ⟨RX12, "valueAt", "(II)I"⟩
abbrev cX12_rowCount : ByteArray := prog_14_method_30_code
def yX12_rowCount : MethodName := ⟨RX12, "rowCount", "()I"⟩
abbrev cX12_rowAt : ByteArray := prog_14_method_31_code
def yX12_rowAt : MethodName := ⟨RX12, "rowAt", "(I)I"⟩
abbrev cX12_adds : ByteArray := prog_14_method_32_code
def yX12_adds : MethodName := ⟨RX12, "adds", "(IIIIZ)I"⟩
abbrev cX12_addRange : ByteArray := prog_14_method_33_code
def yX12_addRange : MethodName := ⟨RX12, "addRange", "(IIIZ)I"⟩
abbrev cX12_addRequired : ByteArray := prog_14_method_34_code
def yX12_addRequired : MethodName := ⟨RX12, "addRequired", "(IZ)I"⟩
abbrev cX12_addOrder : ByteArray := prog_14_method_35_code
def yX12_addOrder : MethodName := ⟨RX12, "addOrder", "(IIZ)I"⟩
abbrev cX12_addUnique : ByteArray := prog_14_method_36_code
def yX12_addUnique : MethodName := ⟨RX12, "addUnique", "(IZ)I"⟩
abbrev cX12_addDependency : ByteArray := prog_14_method_37_code
def yX12_addDependency : MethodName := ⟨RX12, "addDependency", "(IIZ)I"⟩
abbrev cX12_dropRule : ByteArray := prog_14_method_38_code
def yX12_dropRule : MethodName := ⟨RX12, "dropRule", "(I)I"⟩
abbrev cX12_violations : ByteArray := prog_14_method_39_code
def yX12_violations : MethodName := ⟨RX12, "violations", "(I)I"⟩
abbrev cX12_badRow : ByteArray := prog_14_method_40_code
def yX12_badRow : MethodName := ⟨RX12, "badRow", "(I)Z"⟩
abbrev cX12_conflicts : ByteArray := prog_14_method_41_code
def yX12_conflicts : MethodName := ⟨RX12, "conflicts", "(II)Z"⟩
abbrev cX12_isBad : ByteArray := prog_14_method_42_code
def yX12_isBad : MethodName := ⟨RX12, "isBad", "(I)Z"⟩
abbrev cX12_conflict : ByteArray := prog_14_method_43_code
def yX12_conflict : MethodName := ⟨RX12, "conflict", "(II)Z"⟩
abbrev cX12_groupsAll : ByteArray := prog_14_method_44_code
def yX12_groupsAll : MethodName := ⟨RX12, "groupsAll", "()V"⟩
abbrev cX12_groups : ByteArray := prog_14_method_45_code
def yX12_groups : MethodName := ⟨RX12, "groups", "()I"⟩
abbrev cX12_groupSize : ByteArray := prog_14_method_46_code
def yX12_groupSize : MethodName := ⟨RX12, "groupSize", "(I)I"⟩
abbrev cX12_bit : ByteArray := prog_14_method_47_code
def yX12_bit : MethodName := ⟨RX12, "bit", "(I)I"⟩
abbrev cX12_isRepair : ByteArray := prog_14_method_48_code
def yX12_isRepair : MethodName := ⟨RX12, "isRepair", "(II)Z"⟩
abbrev cX12_bitsOf : ByteArray := prog_14_method_49_code
def yX12_bitsOf : MethodName := ⟨RX12, "bitsOf", "(I)I"⟩
abbrev cX12_findsRepair : ByteArray := prog_14_method_50_code
def yX12_findsRepair : MethodName := ⟨RX12, "findsRepair", "()I"⟩
abbrev cX12_fewestRemovals : ByteArray := prog_14_method_51_code
def yX12_fewestRemovals : MethodName := ⟨RX12, "fewestRemovals", "()I"⟩
abbrev cX12_fewestRemovalsByTrying : ByteArray := prog_14_method_52_code
def yX12_fewestRemovalsByTrying : MethodName := ⟨RX12, "fewestRemovalsByTrying", "()I"⟩
abbrev cX12_isInRepair : ByteArray := prog_14_method_53_code
def yX12_isInRepair : MethodName := ⟨RX12, "isInRepair", "(I)Z"⟩
abbrev cX12_repair : ByteArray := prog_14_method_54_code
def yX12_repair : MethodName := ⟨RX12, "repair", "()I"⟩
abbrev cX12_fixes : ByteArray := prog_14_method_55_code
def yX12_fixes : MethodName := ⟨RX12, "fixes", "(II)Z"⟩
abbrev cX12_asksFixes : ByteArray := prog_14_method_56_code
def yX12_asksFixes : MethodName := ⟨RX12, "asksFixes", "(II)Z"⟩
abbrev cX12_determines : ByteArray := prog_14_method_57_code
def yX12_determines : MethodName := ⟨RX12, "determines", "(II)Z"⟩
abbrev cX12_determinesByPairs : ByteArray := prog_14_method_58_code
def yX12_determinesByPairs : MethodName := ⟨RX12, "determinesByPairs", "(II)Z"⟩
abbrev cX12_isMinimal : ByteArray := prog_14_method_59_code
def yX12_isMinimal : MethodName := ⟨RX12, "isMinimal", "(II)Z"⟩
abbrev cX12_minimals : ByteArray := prog_14_method_60_code
def yX12_minimals : MethodName := ⟨RX12, "minimals", "(I)I"⟩
abbrev cX12_minimalCount : ByteArray := prog_14_method_61_code
def yX12_minimalCount : MethodName := ⟨RX12, "minimalCount", "(I)I"⟩
abbrev cX12_minimalCountByTrying : ByteArray := prog_14_method_62_code
def yX12_minimalCountByTrying : MethodName := ⟨RX12, "minimalCountByTrying", "(I)I"⟩
abbrev cX12_minimalAt : ByteArray := prog_14_method_63_code
def yX12_minimalAt : MethodName := ⟨RX12, "minimalAt", "(II)I"⟩
abbrev cX12_closureOf : ByteArray := prog_14_method_64_code
def yX12_closureOf : MethodName := ⟨RX12, "closureOf", "(I)I"⟩
abbrev cX12_keyed : ByteArray := prog_14_method_65_code
def yX12_keyed : MethodName := ⟨RX12, "keyed", "(I)Z"⟩
abbrev cX12_isKey : ByteArray := prog_14_method_66_code
def yX12_isKey : MethodName := ⟨RX12, "isKey", "(I)Z"⟩
abbrev cX12_smallestKey : ByteArray := prog_14_method_67_code
def yX12_smallestKey : MethodName := ⟨RX12, "smallestKey", "()I"⟩
abbrev cX12_errorOf : ByteArray := prog_14_method_68_code
def yX12_errorOf : MethodName := ⟨RX12, "errorOf", "(II)I"⟩
abbrev cX12_mostIn : ByteArray := prog_14_method_69_code
def yX12_mostIn : MethodName := ⟨RX12, "mostIn", "(III)I"⟩
abbrev cX12_setFactor : ByteArray := prog_14_method_70_code
def yX12_setFactor : MethodName := ⟨RX12, "setFactor", "(I)I"⟩
abbrev cX12_present : ByteArray := prog_14_method_71_code
def yX12_present : MethodName := ⟨RX12, "present", "(I)I"⟩
abbrev cX12_size : ByteArray := prog_14_method_72_code
def yX12_size : MethodName := ⟨RX12, "size", "(I)I"⟩
abbrev cX12_middle : ByteArray := prog_14_method_73_code
def yX12_middle : MethodName := ⟨RX12, "middle", "(IZI)I"⟩
abbrev cX12_spread : ByteArray := prog_14_method_74_code
def yX12_spread : MethodName := ⟨RX12, "spread", "(I)I"⟩
abbrev cX12_medianOf : ByteArray := prog_14_method_75_code
def yX12_medianOf : MethodName := ⟨RX12, "medianOf", "(I)I"⟩
abbrev cX12_spreadOf : ByteArray := prog_14_method_76_code
def yX12_spreadOf : MethodName := ⟨RX12, "spreadOf", "(I)I"⟩
abbrev cX12_isOut : ByteArray := prog_14_method_77_code
def yX12_isOut : MethodName := ⟨RX12, "isOut", "(II)Z"⟩
abbrev cX12_isOutlier : ByteArray := prog_14_method_78_code
def yX12_isOutlier : MethodName := ⟨RX12, "isOutlier", "(II)Z"⟩
abbrev cX12_outliers : ByteArray := prog_14_method_79_code
def yX12_outliers : MethodName := ⟨RX12, "outliers", "(I)I"⟩
abbrev cX12_counts : ByteArray := prog_14_method_80_code
def yX12_counts : MethodName := ⟨RX12, "counts", "([I)V"⟩
abbrev cX12_saveProfile : ByteArray := prog_14_method_81_code
def yX12_saveProfile : MethodName := ⟨RX12, "saveProfile", "()I"⟩
abbrev cX12_drifted : ByteArray := prog_14_method_82_code
def yX12_drifted : MethodName := ⟨RX12, "drifted", "(I)I"⟩
abbrev cX12_drift : ByteArray := prog_14_method_83_code
def yX12_drift : MethodName := ⟨RX12, "drift", "(I)I"⟩
abbrev cX12_mostDrifted : ByteArray := prog_14_method_84_code
def yX12_mostDrifted : MethodName := ⟨RX12, "mostDrifted", "()I"⟩
abbrev cX12_meanOf : ByteArray := prog_14_method_85_code
def yX12_meanOf : MethodName := ⟨RX12, "meanOf", "(I)D"⟩
abbrev cX12_missingShare : ByteArray := prog_14_method_86_code
def yX12_missingShare : MethodName := ⟨RX12, "missingShare", "(I)F"⟩
abbrev cX12_isConsistent : ByteArray := prog_14_method_87_code
def yX12_isConsistent : MethodName := ⟨RX12, "isConsistent", "()Z"⟩
def RJx145de : String := "java/io/Serializable"
def TJx145de : u_T := fun k => match k with
  | _ => ("", "", "", false)
def tyJx145de : Nat → FieldType := fun k => match k with
  | _ => .int
theorem nmJx145de : ∀ a, a < 0 → ∀ b, b < 0 → a ≠ b → (TJx145de a).2.1 ≠ (TJx145de b).2.1 := by decide +kernel
theorem tyJx145de_ok : ∀ k, k < 0 → parseFieldDescriptor (TJx145de k).2.2.1 = some (tyJx145de k) := by decide +kernel
def RJx00060 : String := "java/lang/ArrayIndexOutOfBoundsException"
def TJx00060 : u_T := fun k => match k with
  | 0 => ("java/lang/Throwable", "backtrace", "Ljava/lang/Object;", false)
  | 1 => ("java/lang/Throwable", "detailMessage", "Ljava/lang/String;", false)
  | 2 => ("java/lang/Throwable", "cause", "Ljava/lang/Throwable;", false)
  | 3 => ("java/lang/Throwable", "stackTrace", "[Ljava/lang/StackTraceElement;", false)
  | 4 => ("java/lang/Throwable", "depth", "I", false)
  | _ => ("java/lang/Throwable", "suppressedExceptions", "Ljava/util/List;", false)
def tyJx00060 : Nat → FieldType := fun k => match k with
  | 0 => .object "java/lang/Object"
  | 1 => .object "java/lang/String"
  | 2 => .object "java/lang/Throwable"
  | 3 => .array (.object "java/lang/StackTraceElement")
  | 4 => .int
  | _ => .object "java/util/List"
theorem nmJx00060 : ∀ a, a < 6 → ∀ b, b < 6 → a ≠ b → (TJx00060 a).2.1 ≠ (TJx00060 b).2.1 := by decide +kernel
theorem tyJx00060_ok : ∀ k, k < 6 → parseFieldDescriptor (TJx00060 k).2.2.1 = some (tyJx00060 k) := by decide +kernel
abbrev cJx00060_init_a7421 : ByteArray := prog_17_method_2_code
def yJx00060_init_a7421 : MethodName := ⟨RJx00060, "<init>", "(Ljava/lang/String;)V"⟩
def RJx8e188 : String := "java/lang/Cloneable"
def TJx8e188 : u_T := fun k => match k with
  | _ => ("", "", "", false)
def tyJx8e188 : Nat → FieldType := fun k => match k with
  | _ => .int
theorem nmJx8e188 : ∀ a, a < 0 → ∀ b, b < 0 → a ≠ b → (TJx8e188 a).2.1 ≠ (TJx8e188 b).2.1 := by decide +kernel
theorem tyJx8e188_ok : ∀ k, k < 0 → parseFieldDescriptor (TJx8e188 k).2.2.1 = some (tyJx8e188 k) := by decide +kernel
def RJ6 : String := "java/lang/Integer"
def TJ6 : u_T := fun k => match k with
  | _ => ("", "", "", false)
def tyJ6 : Nat → FieldType := fun k => match k with
  | _ => .int
theorem nmJ6 : ∀ a, a < 0 → ∀ b, b < 0 → a ≠ b → (TJ6 a).2.1 ≠ (TJ6 b).2.1 := by decide +kernel
theorem tyJ6_ok : ∀ k, k < 0 → parseFieldDescriptor (TJ6 k).2.2.1 = some (tyJ6 k) := by decide +kernel
abbrev cJ6_bitCount_0f7a4 : ByteArray := prog_23_method_49_code
def yJ6_bitCount_0f7a4 : MethodName := ⟨RJ6, "bitCount", "(I)I"⟩
def RJxab1ab : String := "java/lang/Iterable"
def TJxab1ab : u_T := fun k => match k with
  | _ => ("", "", "", false)
def tyJxab1ab : Nat → FieldType := fun k => match k with
  | _ => .int
theorem nmJxab1ab : ∀ a, a < 0 → ∀ b, b < 0 → a ≠ b → (TJxab1ab a).2.1 ≠ (TJxab1ab b).2.1 := by decide +kernel
theorem tyJxab1ab_ok : ∀ k, k < 0 → parseFieldDescriptor (TJxab1ab k).2.2.1 = some (tyJxab1ab k) := by decide +kernel
def RJ13 : String := "java/lang/Long"
def TJ13 : u_T := fun k => match k with
  | _ => ("", "", "", false)
def tyJ13 : Nat → FieldType := fun k => match k with
  | _ => .int
theorem nmJ13 : ∀ a, a < 0 → ∀ b, b < 0 → a ≠ b → (TJ13 a).2.1 ≠ (TJ13 b).2.1 := by decide +kernel
theorem tyJ13_ok : ∀ k, k < 0 → parseFieldDescriptor (TJ13 k).2.2.1 = some (tyJ13 k) := by decide +kernel
abbrev cJ13_bitCount_95d88 : ByteArray := prog_25_method_50_code
def yJ13_bitCount_95d88 : MethodName := ⟨RJ13, "bitCount", "(J)I"⟩
def RJ9 : String := "java/lang/Math"
def TJ9 : u_T := fun k => match k with
  | _ => ("", "", "", false)
def tyJ9 : Nat → FieldType := fun k => match k with
  | _ => .int
theorem nmJ9 : ∀ a, a < 0 → ∀ b, b < 0 → a ≠ b → (TJ9 a).2.1 ≠ (TJ9 b).2.1 := by decide +kernel
theorem tyJ9_ok : ∀ k, k < 0 → parseFieldDescriptor (TJ9 k).2.2.1 = some (tyJ9 k) := by decide +kernel
abbrev cJ9_abs_0f7a4 : ByteArray := prog_26_method_59_code
def yJ9_abs_0f7a4 : MethodName := ⟨RJ9, "abs", "(I)I"⟩
abbrev cJ9_max_7cf53 : ByteArray := prog_26_method_65_code
def yJ9_max_7cf53 : MethodName := ⟨RJ9, "max", "(II)I"⟩
abbrev cJ9_min_7cf53 : ByteArray := prog_26_method_69_code
def yJ9_min_7cf53 : MethodName := ⟨RJ9, "min", "(II)I"⟩
def RJ0 : String := "java/lang/String"
def TJ0 : u_T := fun k => match k with
  | 0 => ("java/lang/String", "value", "[B", true)
  | _ => ("java/lang/String", "coder", "B", true)
def tyJ0 : Nat → FieldType := fun k => match k with
  | 0 => .array .byte
  | _ => .byte
theorem nmJ0 : ∀ a, a < 2 → ∀ b, b < 2 → a ≠ b → (TJ0 a).2.1 ≠ (TJ0 b).2.1 := by decide +kernel
theorem tyJ0_ok : ∀ k, k < 2 → parseFieldDescriptor (TJ0 k).2.2.1 = some (tyJ0 k) := by decide +kernel
def RJ10 : String := "java/lang/System"
def TJ10 : u_T := fun k => match k with
  | _ => ("", "", "", false)
def tyJ10 : Nat → FieldType := fun k => match k with
  | _ => .int
theorem nmJ10 : ∀ a, a < 0 → ∀ b, b < 0 → a ≠ b → (TJ10 a).2.1 ≠ (TJ10 b).2.1 := by decide +kernel
theorem tyJ10_ok : ∀ k, k < 0 → parseFieldDescriptor (TJ10 k).2.2.1 = some (tyJ10 k) := by decide +kernel
def RJxa1e45 : String := "java/util/AbstractCollection"
def TJxa1e45 : u_T := fun k => match k with
  | _ => ("", "", "", false)
def tyJxa1e45 : Nat → FieldType := fun k => match k with
  | _ => .int
theorem nmJxa1e45 : ∀ a, a < 0 → ∀ b, b < 0 → a ≠ b → (TJxa1e45 a).2.1 ≠ (TJxa1e45 b).2.1 := by decide +kernel
theorem tyJxa1e45_ok : ∀ k, k < 0 → parseFieldDescriptor (TJxa1e45 k).2.2.1 = some (tyJxa1e45 k) := by decide +kernel
abbrev cJxa1e45_init_da8c8 : ByteArray := prog_32_method_1_code
def yJxa1e45_init_da8c8 : MethodName := ⟨RJxa1e45, "<init>", "()V"⟩
def RJxc12de : String := "java/util/AbstractList"
def TJxc12de : u_T := fun k => match k with
  | _ => ("", "", "", false)
def tyJxc12de : Nat → FieldType := fun k => match k with
  | _ => .int
theorem nmJxc12de : ∀ a, a < 0 → ∀ b, b < 0 → a ≠ b → (TJxc12de a).2.1 ≠ (TJxc12de b).2.1 := by decide +kernel
theorem tyJxc12de_ok : ∀ k, k < 0 → parseFieldDescriptor (TJxc12de k).2.2.1 = some (tyJxc12de k) := by decide +kernel
abbrev cJxc12de_init_da8c8 : ByteArray := prog_33_method_1_code
def yJxc12de_init_da8c8 : MethodName := ⟨RJxc12de, "<init>", "()V"⟩
def RJx4a65c : String := "java/util/ArrayList"
def TJx4a65c : u_T := fun k => match k with
  | 0 => ("java/util/AbstractList", "modCount", "I", false)
  | 1 => ("java/util/ArrayList", "elementData", "[Ljava/lang/Object;", false)
  | _ => ("java/util/ArrayList", "size", "I", false)
def tyJx4a65c : Nat → FieldType := fun k => match k with
  | 0 => .int
  | 1 => .array (.object "java/lang/Object")
  | _ => .int
theorem nmJx4a65c : ∀ a, a < 3 → ∀ b, b < 3 → a ≠ b → (TJx4a65c a).2.1 ≠ (TJx4a65c b).2.1 := by decide +kernel
theorem tyJx4a65c_ok : ∀ k, k < 3 → parseFieldDescriptor (TJx4a65c k).2.2.1 = some (tyJx4a65c k) := by decide +kernel
abbrev cJx4a65c_init_da8c8 : ByteArray := prog_34_method_2_code
def yJx4a65c_init_da8c8 : MethodName := ⟨RJx4a65c, "<init>", "()V"⟩
abbrev cJx4a65c_grow_92f84 : ByteArray := prog_34_method_6_code
def yJx4a65c_grow_92f84 : MethodName := ⟨RJx4a65c, "grow", "(I)[Ljava/lang/Object;"⟩
abbrev cJx4a65c_grow_d5877 : ByteArray := prog_34_method_7_code
def yJx4a65c_grow_d5877 : MethodName := ⟨RJx4a65c, "grow", "()[Ljava/lang/Object;"⟩
abbrev cJx4a65c_size_8abf5 : ByteArray := prog_34_method_8_code
def yJx4a65c_size_8abf5 : MethodName := ⟨RJx4a65c, "size", "()I"⟩
abbrev cJx4a65c_isEmpty_aae02 : ByteArray := prog_34_method_9_code
def yJx4a65c_isEmpty_aae02 : MethodName := ⟨RJx4a65c, "isEmpty", "()Z"⟩
abbrev cJx4a65c_elementData_915e3 : ByteArray := prog_34_method_18_code
def yJx4a65c_elementData_915e3 : MethodName := ⟨RJx4a65c, "elementData", "(I)Ljava/lang/Object;"⟩
abbrev cJx4a65c_get_915e3 : ByteArray := prog_34_method_20_code
def yJx4a65c_get_915e3 : MethodName := ⟨RJx4a65c, "get", "(I)Ljava/lang/Object;"⟩
abbrev cJx4a65c_add_72be8 : ByteArray := prog_34_method_24_code
def yJx4a65c_add_72be8 : MethodName := ⟨RJx4a65c, "add", "(Ljava/lang/Object;[Ljava/lang/Object;I)V"⟩
abbrev cJx4a65c_add_9ea2d : ByteArray := prog_34_method_25_code
def yJx4a65c_add_9ea2d : MethodName := ⟨RJx4a65c, "add", "(Ljava/lang/Object;)Z"⟩
abbrev cJx4a65c_remove_915e3 : ByteArray := prog_34_method_29_code
def yJx4a65c_remove_915e3 : MethodName := ⟨RJx4a65c, "remove", "(I)Ljava/lang/Object;"⟩
abbrev cJx4a65c_fastRemove_b59b0 : ByteArray := prog_34_method_39_code
def yJx4a65c_fastRemove_b59b0 : MethodName := ⟨RJx4a65c, "fastRemove", "([Ljava/lang/Object;I)V"⟩
abbrev cJx4a65c_clear_da8c8 : ByteArray := prog_34_method_40_code
def yJx4a65c_clear_da8c8 : MethodName := ⟨RJx4a65c, "clear", "()V"⟩
def RJ7 : String := "java/util/Arrays"
def TJ7 : u_T := fun k => match k with
  | _ => ("", "", "", false)
def tyJ7 : Nat → FieldType := fun k => match k with
  | _ => .int
theorem nmJ7 : ∀ a, a < 0 → ∀ b, b < 0 → a ≠ b → (TJ7 a).2.1 ≠ (TJ7 b).2.1 := by decide +kernel
theorem tyJ7_ok : ∀ k, k < 0 → parseFieldDescriptor (TJ7 k).2.2.1 = some (tyJ7 k) := by decide +kernel
abbrev cJ7_copyOf_1904c : ByteArray := prog_35_method_119_code
def yJ7_copyOf_1904c : MethodName := ⟨RJ7, "copyOf", "([Ljava/lang/Object;I)[Ljava/lang/Object;"⟩
abbrev cJ7_copyOf_6403c : ByteArray := prog_35_method_120_code
def yJ7_copyOf_6403c : MethodName := ⟨RJ7, "copyOf", "([Ljava/lang/Object;ILjava/lang/Class;)[Ljava/lang/Object;"⟩
def RJx5ef63 : String := "java/util/Collection"
def TJx5ef63 : u_T := fun k => match k with
  | _ => ("", "", "", false)
def tyJx5ef63 : Nat → FieldType := fun k => match k with
  | _ => .int
theorem nmJx5ef63 : ∀ a, a < 0 → ∀ b, b < 0 → a ≠ b → (TJx5ef63 a).2.1 ≠ (TJx5ef63 b).2.1 := by decide +kernel
theorem tyJx5ef63_ok : ∀ k, k < 0 → parseFieldDescriptor (TJx5ef63 k).2.2.1 = some (tyJx5ef63 k) := by decide +kernel
def RJxbd725 : String := "java/util/List"
def TJxbd725 : u_T := fun k => match k with
  | _ => ("", "", "", false)
def tyJxbd725 : Nat → FieldType := fun k => match k with
  | _ => .int
theorem nmJxbd725 : ∀ a, a < 0 → ∀ b, b < 0 → a ≠ b → (TJxbd725 a).2.1 ≠ (TJxbd725 b).2.1 := by decide +kernel
theorem tyJxbd725_ok : ∀ k, k < 0 → parseFieldDescriptor (TJxbd725 k).2.2.1 = some (tyJxbd725 k) := by decide +kernel
def RJ15 : String := "java/util/Objects"
def TJ15 : u_T := fun k => match k with
  | _ => ("", "", "", false)
def tyJ15 : Nat → FieldType := fun k => match k with
  | _ => .int
theorem nmJ15 : ∀ a, a < 0 → ∀ b, b < 0 → a ≠ b → (TJ15 a).2.1 ≠ (TJ15 b).2.1 := by decide +kernel
theorem tyJ15_ok : ∀ k, k < 0 → parseFieldDescriptor (TJ15 k).2.2.1 = some (tyJ15 k) := by decide +kernel
abbrev cJ15_checkIndex_7cf53 : ByteArray := prog_39_method_17_code
def yJ15_checkIndex_7cf53 : MethodName := ⟨RJ15, "checkIndex", "(II)I"⟩
def RJxf0a74 : String := "java/util/RandomAccess"
def TJxf0a74 : u_T := fun k => match k with
  | _ => ("", "", "", false)
def tyJxf0a74 : Nat → FieldType := fun k => match k with
  | _ => .int
theorem nmJxf0a74 : ∀ a, a < 0 → ∀ b, b < 0 → a ≠ b → (TJxf0a74 a).2.1 ≠ (TJxf0a74 b).2.1 := by decide +kernel
theorem tyJxf0a74_ok : ∀ k, k < 0 → parseFieldDescriptor (TJxf0a74 k).2.2.1 = some (tyJxf0a74 k) := by decide +kernel
def RJxa66e6 : String := "java/util/SequencedCollection"
def TJxa66e6 : u_T := fun k => match k with
  | _ => ("", "", "", false)
def tyJxa66e6 : Nat → FieldType := fun k => match k with
  | _ => .int
theorem nmJxa66e6 : ∀ a, a < 0 → ∀ b, b < 0 → a ≠ b → (TJxa66e6 a).2.1 ≠ (TJxa66e6 b).2.1 := by decide +kernel
theorem tyJxa66e6_ok : ∀ k, k < 0 → parseFieldDescriptor (TJxa66e6 k).2.2.1 = some (tyJxa66e6 k) := by decide +kernel
def RJ8 : String := "jdk/internal/util/ArraysSupport"
def TJ8 : u_T := fun k => match k with
  | _ => ("", "", "", false)
def tyJ8 : Nat → FieldType := fun k => match k with
  | _ => .int
theorem nmJ8 : ∀ a, a < 0 → ∀ b, b < 0 → a ≠ b → (TJ8 a).2.1 ≠ (TJ8 b).2.1 := by decide +kernel
theorem tyJ8_ok : ∀ k, k < 0 → parseFieldDescriptor (TJ8 k).2.2.1 = some (tyJ8 k) := by decide +kernel
abbrev cJ8_newLength_cabcc : ByteArray := prog_42_method_27_code
def yJ8_newLength_cabcc : MethodName := ⟨RJ8, "newLength", "(III)I"⟩
abbrev cJ8_hugeLength_7cf53 : ByteArray := prog_42_method_28_code
def yJ8_hugeLength_7cf53 : MethodName := ⟨RJ8, "hugeLength", "(II)I"⟩
def RJ3 : String := "jdk/internal/util/Preconditions"
def TJ3 : u_T := fun k => match k with
  | _ => ("", "", "", false)
def tyJ3 : Nat → FieldType := fun k => match k with
  | _ => .int
theorem nmJ3 : ∀ a, a < 0 → ∀ b, b < 0 → a ≠ b → (TJ3 a).2.1 ≠ (TJ3 b).2.1 := by decide +kernel
theorem tyJ3_ok : ∀ k, k < 0 → parseFieldDescriptor (TJ3 k).2.2.1 = some (tyJ3 k) := by decide +kernel
abbrev cJ3_checkIndex_8e157 : ByteArray := prog_43_method_11_code
def yJ3_checkIndex_8e157 : MethodName := ⟨RJ3, "checkIndex", "(IILjava/util/function/BiFunction;)I"⟩
def RL : String := "QualityGateLaw"
abbrev cL_stage : ByteArray := method_3_code
def yL_stage : MethodName := ⟨RL, "stage", "(LQualityGate;IIIII[J)I"⟩
abbrev cL_commit : ByteArray := method_4_code
def yL_commit : MethodName := ⟨RL, "commit", "(LQualityGate;[J)I"⟩
abbrev cL_rejectedRow : ByteArray := method_5_code
def yL_rejectedRow : MethodName := ⟨RL, "rejectedRow", "(LQualityGate;[J)I"⟩
abbrev cL_rejectedRule : ByteArray := method_6_code
def yL_rejectedRule : MethodName := ⟨RL, "rejectedRule", "(LQualityGate;[J)I"⟩
abbrev cL_rejectedOther : ByteArray := method_7_code
def yL_rejectedOther : MethodName := ⟨RL, "rejectedOther", "(LQualityGate;[J)I"⟩
abbrev cL_isOtherStaged : ByteArray := method_8_code
def yL_isOtherStaged : MethodName := ⟨RL, "isOtherStaged", "(LQualityGate;[J)I"⟩
abbrev cL_removeRow : ByteArray := method_9_code
def yL_removeRow : MethodName := ⟨RL, "removeRow", "(LQualityGate;I[J)I"⟩
abbrev cL_setValue : ByteArray := method_10_code
def yL_setValue : MethodName := ⟨RL, "setValue", "(LQualityGate;III[J)I"⟩
abbrev cL_valueAt : ByteArray := method_11_code
def yL_valueAt : MethodName := ⟨RL, "valueAt", "(LQualityGate;II[J)I"⟩
abbrev cL_rowAt : ByteArray := method_12_code
def yL_rowAt : MethodName := ⟨RL, "rowAt", "(LQualityGate;I[J)I"⟩
abbrev cL_addRange : ByteArray := method_13_code
def yL_addRange : MethodName := ⟨RL, "addRange", "(LQualityGate;IIIZ[J)I"⟩
abbrev cL_addRequired : ByteArray := method_14_code
def yL_addRequired : MethodName := ⟨RL, "addRequired", "(LQualityGate;IZ[J)I"⟩
abbrev cL_addOrder : ByteArray := method_15_code
def yL_addOrder : MethodName := ⟨RL, "addOrder", "(LQualityGate;IIZ[J)I"⟩
abbrev cL_addUnique : ByteArray := method_16_code
def yL_addUnique : MethodName := ⟨RL, "addUnique", "(LQualityGate;IZ[J)I"⟩
abbrev cL_addDependency : ByteArray := method_17_code
def yL_addDependency : MethodName := ⟨RL, "addDependency", "(LQualityGate;IIZ[J)I"⟩
abbrev cL_dropRule : ByteArray := method_18_code
def yL_dropRule : MethodName := ⟨RL, "dropRule", "(LQualityGate;I[J)I"⟩
abbrev cL_violations : ByteArray := method_19_code
def yL_violations : MethodName := ⟨RL, "violations", "(LQualityGate;I[J)I"⟩
abbrev cL_isBad : ByteArray := method_20_code
def yL_isBad : MethodName := ⟨RL, "isBad", "(LQualityGate;I[J)I"⟩
abbrev cL_conflict : ByteArray := method_21_code
def yL_conflict : MethodName := ⟨RL, "conflict", "(LQualityGate;II[J)I"⟩
abbrev cL_groupSize : ByteArray := method_22_code
def yL_groupSize : MethodName := ⟨RL, "groupSize", "(LQualityGate;I[J)I"⟩
abbrev cL_isInRepair : ByteArray := method_23_code
def yL_isInRepair : MethodName := ⟨RL, "isInRepair", "(LQualityGate;I[J)I"⟩
abbrev cL_determines : ByteArray := method_24_code
def yL_determines : MethodName := ⟨RL, "determines", "(LQualityGate;II[J)I"⟩
abbrev cL_determinesByPairs : ByteArray := method_25_code
def yL_determinesByPairs : MethodName := ⟨RL, "determinesByPairs", "(LQualityGate;II[J)I"⟩
abbrev cL_minimalCount : ByteArray := method_26_code
def yL_minimalCount : MethodName := ⟨RL, "minimalCount", "(LQualityGate;I[J)I"⟩
abbrev cL_minimalCountByTrying : ByteArray := method_27_code
def yL_minimalCountByTrying : MethodName := ⟨RL, "minimalCountByTrying", "(LQualityGate;I[J)I"⟩
abbrev cL_minimalAt : ByteArray := method_28_code
def yL_minimalAt : MethodName := ⟨RL, "minimalAt", "(LQualityGate;II[J)I"⟩
abbrev cL_closureOf : ByteArray := method_29_code
def yL_closureOf : MethodName := ⟨RL, "closureOf", "(LQualityGate;I[J)I"⟩
abbrev cL_isKey : ByteArray := method_30_code
def yL_isKey : MethodName := ⟨RL, "isKey", "(LQualityGate;I[J)I"⟩
abbrev cL_smallestKey : ByteArray := method_31_code
def yL_smallestKey : MethodName := ⟨RL, "smallestKey", "(LQualityGate;[J)I"⟩
abbrev cL_errorOf : ByteArray := method_32_code
def yL_errorOf : MethodName := ⟨RL, "errorOf", "(LQualityGate;II[J)I"⟩
abbrev cL_setFactor : ByteArray := method_33_code
def yL_setFactor : MethodName := ⟨RL, "setFactor", "(LQualityGate;I[J)I"⟩
abbrev cL_medianOf : ByteArray := method_34_code
def yL_medianOf : MethodName := ⟨RL, "medianOf", "(LQualityGate;I[J)I"⟩
abbrev cL_spreadOf : ByteArray := method_35_code
def yL_spreadOf : MethodName := ⟨RL, "spreadOf", "(LQualityGate;I[J)I"⟩
abbrev cL_isOutlier : ByteArray := method_36_code
def yL_isOutlier : MethodName := ⟨RL, "isOutlier", "(LQualityGate;II[J)I"⟩
abbrev cL_outliers : ByteArray := method_37_code
def yL_outliers : MethodName := ⟨RL, "outliers", "(LQualityGate;I[J)I"⟩
abbrev cL_saveProfile : ByteArray := method_38_code
def yL_saveProfile : MethodName := ⟨RL, "saveProfile", "(LQualityGate;[J)I"⟩
abbrev cL_drift : ByteArray := method_39_code
def yL_drift : MethodName := ⟨RL, "drift", "(LQualityGate;I[J)I"⟩
abbrev cL_mostDrifted : ByteArray := method_40_code
def yL_mostDrifted : MethodName := ⟨RL, "mostDrifted", "(LQualityGate;[J)I"⟩
abbrev cL_meanOf : ByteArray := method_41_code
def yL_meanOf : MethodName := ⟨RL, "meanOf", "(LQualityGate;I[D)I"⟩
abbrev cL_missingShare : ByteArray := method_42_code
def yL_missingShare : MethodName := ⟨RL, "missingShare", "(LQualityGate;I[D)I"⟩
abbrev cL_law : ByteArray := code
def yL_law : MethodName := ⟨RL, "law", "([I)Z"⟩
/-- a class of which no field is looked at -/
def TE0 : u_T := fun _ => ("", "", "", false)
abbrev e_cl : List vw_C := [(RX11, TX11, 11), (RJx4a65c, TJx4a65c, 3), (RX7, TX7, 2), (RX0, TX0, 3), (RX3, TX3, 2), (RX9, TX9, 2), (RX5, TX5, 4), (RX4, TX4, 5), (RX6, TX6, 3), (RX2, TX2, 4), (RX10, TX10, 3), (RX1, TX1, 4), (RX12, TX12, 26), ("java/lang/IllegalArgumentException", TE0, 0), ("java/lang/IllegalStateException", TE0, 0), ("java/lang/IndexOutOfBoundsException", TE0, 0), ("java/util/NoSuchElementException", TE0, 0), ("java/lang/UnsupportedOperationException", TE0, 0), ("java/lang/ArithmeticException", TE0, 0)]
theorem in_TX11 : ∀ w ∈ u_ws RX11 TX11 11, w ∈ lw_tbl := by decide +kernel
theorem in_TJx4a65c : ∀ w ∈ u_ws RJx4a65c TJx4a65c 3, w ∈ lw_tbl := by decide +kernel
theorem in_TX7 : ∀ w ∈ u_ws RX7 TX7 2, w ∈ lw_tbl := by decide +kernel
theorem in_TX0 : ∀ w ∈ u_ws RX0 TX0 3, w ∈ lw_tbl := by decide +kernel
theorem in_TX3 : ∀ w ∈ u_ws RX3 TX3 2, w ∈ lw_tbl := by decide +kernel
theorem in_TX9 : ∀ w ∈ u_ws RX9 TX9 2, w ∈ lw_tbl := by decide +kernel
theorem in_TX5 : ∀ w ∈ u_ws RX5 TX5 4, w ∈ lw_tbl := by decide +kernel
theorem in_TX4 : ∀ w ∈ u_ws RX4 TX4 5, w ∈ lw_tbl := by decide +kernel
theorem in_TX6 : ∀ w ∈ u_ws RX6 TX6 3, w ∈ lw_tbl := by decide +kernel
theorem in_TX2 : ∀ w ∈ u_ws RX2 TX2 4, w ∈ lw_tbl := by decide +kernel
theorem in_TX10 : ∀ w ∈ u_ws RX10 TX10 3, w ∈ lw_tbl := by decide +kernel
theorem in_TX1 : ∀ w ∈ u_ws RX1 TX1 4, w ∈ lw_tbl := by decide +kernel
theorem in_TX12 : ∀ w ∈ u_ws RX12 TX12 26, w ∈ lw_tbl := by decide +kernel
end
section
/-! THE E LAYER: a pure heap (a map from addresses to cells), locals as a list, the stack as a list; one judgement over them, a row an instruction. -/
/-- a pure heap: which cell lies where (only cells that the law made) -/
abbrev e_PH : Type := Nat → Option va_E
/-- what a launch fixes: class numbers and slots, classes of arrays, the size of the heap at the law's entry, the addresses of String constants, the empty row of ArrayList -/
abbrev e_T : Type := va_G × (Nat → ClassId) × Nat × (Nat → Nat) × Nat
def e_A (θ : e_T) : Nat → Prop := fun q => θ.2.2.1 ≤ q
/-- the classes of arrays: int, boolean, long, double, Object, int[] -/
def e_tys (θ : e_T) : List (ClassId × FieldType) := [(θ.2.1 0, .int), (θ.2.1 1, .boolean), (θ.2.1 2, .long), (θ.2.1 3, .double), (θ.2.1 4, .object "java/lang/Object"), (θ.2.1 5, .array .int)]
/-- the pure heap is the world (L, f) -/
def e_lk (ph : e_PH) (L : List Nat) (f : Nat → va_E) : Prop := ∀ a e, ph a = some e ↔ (a ∈ L ∧ f a = e)
def e_up (ph : e_PH) (a : Nat) (e : va_E) : e_PH := fun b => if b = a then some e else ph b
theorem e_up_s {ph : e_PH} {a : Nat} {e : va_E} : e_up ph a e a = some e := if_pos rfl
theorem e_up_n {ph : e_PH} {a b : Nat} {e : va_E} (h : b ≠ a) : e_up ph a e b = ph b := if_neg h
theorem e_lk.mem {ph : e_PH} {L : List Nat} {f : Nat → va_E} (h : e_lk ph L f) {a : Nat} {e : va_E} (ha : ph a = some e) : a ∈ L ∧ f a = e := (h a e).mp ha
theorem e_lk.get {ph : e_PH} {L : List Nat} {f : Nat → va_E} (h : e_lk ph L f) {a : Nat} {e : va_E} (ha : ph a = some e) : ∃ k : Nat, (va_pl L f)[k]? = some (a, e) := by
  obtain ⟨h1, rfl⟩ := h.mem ha
  exact va_pl_get (X := []) h1
theorem e_lk.set {ph : e_PH} {L : List Nat} {f : Nat → va_E} (h : e_lk ph L f) {a : Nat} {e0 e : va_E} (ha : ph a = some e0) : e_lk (e_up ph a e) L (va_up f a e) := by
  intro b e'
  by_cases hb : b = a
  · subst hb
    rw [e_up_s]
    exact ⟨fun q => ⟨(h.mem ha).1, by rw [show va_up f b e b = e from if_pos rfl]; exact Option.some.inj q⟩, fun q => by rw [show va_up f b e b = e from if_pos rfl] at q; rw [q.2]⟩
  · rw [e_up_n hb, h b e', show va_up f a e b = f b from if_neg hb]
theorem e_lk.none {ph : e_PH} {L : List Nat} {f : Nat → va_E} (h : e_lk ph L f) {a : Nat} (ha : a ∉ L) : ph a = none := by
  cases hp : ph a with
  | none => rfl
  | some e => exact absurd (h.mem hp).1 ha
theorem e_lk.push {ph : e_PH} {L : List Nat} {f : Nat → va_E} (h : e_lk ph L f) {a : Nat} {e : va_E} (ha : a ∉ L) : e_lk (e_up ph a e) (L ++ [a]) (va_up f a e) := by
  intro b e'
  by_cases hb : b = a
  · subst hb
    rw [e_up_s]
    exact ⟨fun q => ⟨List.mem_append_right _ List.mem_cons_self, by rw [show va_up f b e b = e from if_pos rfl]; exact Option.some.inj q⟩, fun q => by rw [show va_up f b e b = e from if_pos rfl] at q; rw [q.2]⟩
  · rw [e_up_n hb, h b e', show va_up f a e b = f b from if_neg hb]
    constructor
    · exact fun q => ⟨List.mem_append_left _ q.1, q.2⟩
    · intro q
      rcases List.mem_append.mp q.1 with q1 | q1
      · exact ⟨q1, q.2⟩
      · exact absurd (List.mem_singleton.mp q1) hb
/-- setting a place of the world -/
theorem e_set {A : Nat → Prop} {L : List Nat} {f : Nat → va_E} {a k : Nat} {e e0 : va_E} (hD : va_D A (va_pl L f)) (hk : (va_pl L f)[k]? = some (a, e0)) (ha : a ∈ L) (hf : f a = e0) : (va_pl L f).set k (a, e) = va_pl L (va_up f a e) := by
  subst hf
  have := va_pl_set (X := []) (e := e) (by simpa using hD) ha (k := k) (by simpa using hk)
  simpa using this
/-- the tables' words that stay, and those of nest mates and casts -/
def lw_good : List Cond := lw_tbl.filter goodWord
def lw_nest : List Cond := lw_tbl.filter (fun w => match w with | .fieldLinkNest .. => true | .methodLinkNest .. => true | .castable .. => true | .declares .. => true | _ => false)
def e_w (w : Cond) : Prop := w ∈ lw_good
def e_n (w : Cond) : Prop := w ∈ lw_nest
theorem e_wi {w : Cond} (i : Nat) (h : lw_tbl[i]? = some w) (hg : goodWord w = true) : e_w w := List.mem_filter.mpr ⟨List.mem_of_getElem? h, hg⟩
theorem e_ws {ws : List Cond} (h : ∀ w ∈ ws, w ∈ lw_tbl) (hg : ws.all goodWord = true) : ∀ w ∈ ws, w ∈ lw_good := fun w hw => List.mem_filter.mpr ⟨h w hw, List.all_eq_true.mp hg w hw⟩
theorem e_goodIn (w0 : Cond) (h : goodWord w0 = true) (h2 : w0 ∈ lw_good) : GoodIn lw_good (w0 :: lw_good) := by
  intro w hw
  rcases List.mem_cons.mp hw with rfl | hw
  · exact ⟨h2, good_of_word h⟩
  · exact ⟨hw, good_of_word (List.mem_filter.mp hw).2⟩
/-- the launch's standing facts: classes, arrays, nest mates' words, the statics of Throwable and ArrayList -/
def e_GS (θ : e_T) (U : State) (H : Heap) : Prop :=
  va_K θ.1 e_cl (e_tys θ) U ∧ (∀ w ∈ lw_nest, va_Nw w U) ∧
  vx_Zq Bundle.tN "UNASSIGNED_STACK" Bundle.steD (e_A θ) U H ∧ vx_Zq Bundle.tN "SUPPRESSED_SENTINEL" Bundle.listD (e_A θ) U H ∧
  va_Z "java/util/ArrayList" "DEFAULTCAPACITY_EMPTY_ELEMENTDATA" "[Ljava/lang/Object;" (.ref θ.2.2.2.2) (e_A θ) U H ∧ va_T (.object "java/lang/Object") θ.2.2.2.2 0 (fun _ => .null) (e_A θ) U H ∧
  va_AO "java/lang/Object" U ∧ va_AOA .int U ∧ U.vm.findClass (FieldType.array .int).toString = some (θ.2.1 0) ∧
  (∃ mi, va_Mi "[Ljava/lang/Object;" mi U) ∧ va_Dc U ∧
  (∀ own k tx, Cond.stringRef own k tx ∈ lw_tbl → vk_R own k tx (θ.2.2.2.1 0) U ∨ ∃ a, vk_R own k tx a U)
theorem e_nw {w : Cond} (hw : w ∈ lw_nest) {s U : State} (hW : s.WarmedH U.vm) (h : va_Nw w s) : va_Nw w U := by
  have h2 := (List.mem_filter.mp hw).2
  cases w <;> first | exact va_Nw.warmF hW h | exact va_Nw.warmM hW h | exact va_Nw.warmC hW h | exact va_Nw.warmD hW h | (exfalso; revert h2; decide) | (exfalso; cases h2)
theorem va_AOA.moved {u U : State} (hvm : u.vm.Alike U.vm) (h : va_AOA .int u) : va_AOA .int U := by
  have e := Cond.arrayOver_setVmC (args := #[]) (s := u) (vm' := U.vm) hvm (.array .int)
  have e2 : (Cond.arrayOver (.array .int)).before #[] (u.setVm U.vm) = (Cond.arrayOver (.array .int)).before #[] U := rfl
  unfold va_AOA at h ⊢
  rw [← e2, e]
  exact h
theorem e_GS.warm {θ : e_T} {s U : State} {H : Heap} (hW : s.WarmedH U.vm) (h : e_GS θ s H) : e_GS θ U H := by
  obtain ⟨h1, h2, h3, h4, h5, h6, h7, h8, h9, ⟨mi, h10⟩, h11, h12⟩ := h
  have al := hW.alike
  refine ⟨va_K.moved al h1, fun w hw => e_nw hw hW (h2 w hw), h3.moved al, h4.moved al, va_Z.moved al h5, h6.moved al, h7.moved al, h8.moved al, by rw [al.findClass]; exact h9, ⟨mi, h10.moved al⟩, h11.moved al, fun own k tx hm => ?_⟩
  rcases h12 own k tx hm with q | ⟨a, q⟩
  · exact Or.inl (vk_R.warm hW q)
  · exact Or.inr ⟨a, vk_R.warm hW q⟩
theorem e_GS.kept {θ : e_T} {U : State} {H H1 : Heap} (h : e_GS θ U H) (hq : ∀ a : Nat, a < H.size → ¬ e_A θ a → H1[a]? = H[a]?) : e_GS θ U H1 := by
  obtain ⟨h1, h2, h3, h4, h5, h6, h7⟩ := h
  exact ⟨h1, h2, h3.kept hq, h4.kept hq, va_Z.kept h5 hq, h6.kept hq, h7⟩
/-- the world of a state -/
def e_H (θ : e_T) (ph : e_PH) (H : Heap) : Prop := ∃ L f, va_P θ.1 e_cl (va_pl L f) H ∧ va_D (e_A θ) (va_pl L f) ∧ e_lk ph L f
def e_U (θ : e_T) (ph : e_PH) (U : State) : Prop := e_H θ ph U.heap ∧ e_GS θ U U.heap ∧ θ.2.2.1 ≤ U.heap.size
theorem e_U.calling {θ : e_T} {ph : e_PH} {U : State} (g : JFrame) (mk : MethodId) (a : Array Value) (h : e_U θ ph U) : e_U θ ph (U.calling g mk a) :=
  ⟨h.1, e_GS.warm (s := U) (U := U.calling g mk a) (State.WarmedH.refl U) h.2.1, h.2.2⟩
/-- where a method stands -/
abbrev e_X : Type := Program × Launch × Env × Room × State × MethodId × Array Value × List Frame × Method × Code × (State → Prop) × Nat
def e_in (cc : ByteArray) (own nm : String) (nL : Nat) (ret : Option FieldType) (R : Room) (l : Launch) (θ : e_T) (x : e_X) : Prop := match x with
  | (p, l', _, R', s, m, args, _, meth, c, _, nL') => l' = l ∧ R' = R ∧ nL' = nL ∧ p.tables.exec = Jvm.exec ∧ c.code = cc ∧ c.maxLocals = nL ∧ s.vm.findClass own = some m.cls ∧ (∀ w ∈ lw_good, w.before args s = true) ∧ e_GS θ s s.heap ∧ θ.2.2.1 ≤ s.heap.size ∧ meth.locks = false ∧ l.stackTraces = false ∧ meth.sig.returnType = ret ∧ meth.name = nm
/-- the judgement: from here the method comes to its end -/
def EJ (θ : e_T) (x : e_X) (pc : Nat) (lv : List (Nat × Value)) (st : List Value) (ph : e_PH) (k n : Nat) : Prop := match x with
  | (p, l, e, R, s, m, args, below, meth, c, Q, nL) => ∀ (H : Heap) (ls : Array Slot) (locs : List Loc) (L : List Nat) (f : Nat → va_E), va_P θ.1 e_cl (va_pl L f) H → va_D (e_A θ) (va_pl L f) → e_lk ph L f → va_S (e_A θ) s.heap H locs → lv_has ls nL lv → W p l e R s m args below meth c H locs k n Q (F0 m pc ls st)
/-- .. with something thrown, of the class E -/
def ET (θ : e_T) (x : e_X) (pc : Nat) (lv : List (Nat × Value)) (st : List Value) (ph : e_PH) (k n : Nat) (E : String) : Prop := match x with
  | (p, l, e, R, s, m, args, below, meth, c, Q, nL) => ∀ (H : Heap) (ls : Array Slot) (locs : List Loc) (L : List Nat) (f : Nat → va_E) (q : Nat) (ce : Cell), va_P θ.1 e_cl (va_pl L f) H → va_D (e_A θ) (va_pl L f) → e_lk ph L f → va_S (e_A θ) s.heap H locs → lv_has ls nL lv → H[q]? = some ce → ce.vm = .none → s.vm.findClass E = some ce.cls → vx_W p l e R s m args below meth c H locs k n Q (F0 m pc ls st) q
def e_at (cc : ByteArray) (pc : Nat) (i : Instr) (len nx : Nat) : Prop := decode cc pc = .ok (i, len) ∧ pc + len = nx
def e_br (cc : ByteArray) (pc : Nat) (i : Instr) (off : Int) (nx tgt : Nat) : Prop := decode cc pc = .ok (i, 3) ∧ pc + 3 = nx ∧ (pc : Int) + off = (tgt : Int)
/-- a local by its number -/
def lkp (lv : List (Nat × Value)) (i : Nat) : Option Value := match lv with
  | [] => none
  | (j, v) :: r => if j = i then some v else lkp r i
theorem lkp_mem {lv : List (Nat × Value)} {i : Nat} {v : Value} (h : lkp lv i = some v) : (i, v) ∈ lv := by
  induction lv with
  | nil => cases h
  | cons q r ih =>
    obtain ⟨j, w⟩ := q
    unfold lkp at h
    by_cases e : j = i
    · rw [if_pos e] at h; cases h; subst e; exact List.mem_cons_self
    · rw [if_neg e] at h; exact List.mem_cons_of_mem _ (ih h)
theorem lkp_has {ls : Array Slot} {nL : Nat} {lv : List (Nat × Value)} {i : Nat} {v : Value} (hl : lv_has ls nL lv) (h : lkp lv i = some v) : ls[i]? = some (.val v) := hl.2.2 (i, v) (lkp_mem h)
/-- a local set: in its place, or behind; a word of two slots ahead of it goes -/
def lset (lv : List (Nat × Value)) (i : Nat) (v : Value) : List (Nat × Value) := match lv with
  | [] => [(i, v)]
  | (j, w) :: r => if j = i then (i, v) :: r.filter (fun q => !(q.1 == i) && !(q.1 + 1 == i && q.2.category == 2)) else if j + 1 = i ∧ w.category = 2 then lset r i v else (j, w) :: lset r i v
def lset2 (lv : List (Nat × Value)) (i : Nat) (v : Value) : List (Nat × Value) := match lv with
  | [] => [(i, v)]
  | (j, w) :: r => if j = i then (i, v) :: r.filter (fun q => !(q.1 == i) && (!(q.1 == i + 1) && !(q.1 + 1 == i && q.2.category == 2))) else if j = i + 1 ∨ (j + 1 = i ∧ w.category = 2) then lset2 r i v else (j, w) :: lset2 r i v
theorem lset_sub {lv : List (Nat × Value)} {i : Nat} {v : Value} : ∀ q ∈ lset lv i v, q ∈ (i, v) :: lv.filter (fun q => !(q.1 == i) && !(q.1 + 1 == i && q.2.category == 2)) := by
  induction lv with
  | nil => intro q hq; exact hq
  | cons a r ih =>
    obtain ⟨j, w⟩ := a
    intro q hq
    unfold lset at hq
    by_cases e : j = i
    · rw [if_pos e] at hq
      rcases List.mem_cons.mp hq with rfl | h
      · exact List.mem_cons_self
      · exact List.mem_cons_of_mem _ (List.mem_filter.mpr ⟨List.mem_cons_of_mem _ (List.mem_filter.mp h).1, (List.mem_filter.mp h).2⟩)
    · rw [if_neg e] at hq
      by_cases e2 : j + 1 = i ∧ w.category = 2
      · rw [if_pos e2] at hq
        rcases List.mem_cons.mp (ih q hq) with rfl | h
        · exact List.mem_cons_self
        · exact List.mem_cons_of_mem _ (List.mem_filter.mpr ⟨List.mem_cons_of_mem _ (List.mem_filter.mp h).1, (List.mem_filter.mp h).2⟩)
      · rw [if_neg e2] at hq
        rcases List.mem_cons.mp hq with rfl | h
        · exact List.mem_cons_of_mem _ (List.mem_filter.mpr ⟨List.mem_cons_self, by simp [e]; by_cases h1 : j + 1 = i; exact Or.inr (fun h2 => e2 ⟨h1, h2⟩); exact Or.inl h1⟩)
        · rcases List.mem_cons.mp (ih q h) with rfl | h
          · exact List.mem_cons_self
          · exact List.mem_cons_of_mem _ (List.mem_filter.mpr ⟨List.mem_cons_of_mem _ (List.mem_filter.mp h).1, (List.mem_filter.mp h).2⟩)
theorem lset2_sub {lv : List (Nat × Value)} {i : Nat} {v : Value} : ∀ q ∈ lset2 lv i v, q ∈ (i, v) :: lv.filter (fun q => !(q.1 == i) && (!(q.1 == i + 1) && !(q.1 + 1 == i && q.2.category == 2))) := by
  induction lv with
  | nil => intro q hq; exact hq
  | cons a r ih =>
    obtain ⟨j, w⟩ := a
    intro q hq
    unfold lset2 at hq
    by_cases e : j = i
    · rw [if_pos e] at hq
      rcases List.mem_cons.mp hq with rfl | h
      · exact List.mem_cons_self
      · exact List.mem_cons_of_mem _ (List.mem_filter.mpr ⟨List.mem_cons_of_mem _ (List.mem_filter.mp h).1, (List.mem_filter.mp h).2⟩)
    · rw [if_neg e] at hq
      by_cases e2 : j = i + 1 ∨ (j + 1 = i ∧ w.category = 2)
      · rw [if_pos e2] at hq
        rcases List.mem_cons.mp (ih q hq) with rfl | h
        · exact List.mem_cons_self
        · exact List.mem_cons_of_mem _ (List.mem_filter.mpr ⟨List.mem_cons_of_mem _ (List.mem_filter.mp h).1, (List.mem_filter.mp h).2⟩)
      · rw [if_neg e2] at hq
        rcases List.mem_cons.mp hq with rfl | h
        · exact List.mem_cons_of_mem _ (List.mem_filter.mpr ⟨List.mem_cons_self, by simp [e]; refine ⟨fun h1 => e2 (Or.inl h1), ?_⟩; by_cases h1 : j + 1 = i; exact Or.inr (fun h2 => e2 (Or.inr ⟨h1, h2⟩)); exact Or.inl h1⟩)
        · rcases List.mem_cons.mp (ih q h) with rfl | h
          · exact List.mem_cons_self
          · exact List.mem_cons_of_mem _ (List.mem_filter.mpr ⟨List.mem_cons_of_mem _ (List.mem_filter.mp h).1, (List.mem_filter.mp h).2⟩)
theorem lhas_sub {ls : Array Slot} {nL : Nat} {l l' : List (Nat × Value)} (h : lv_has ls nL l) (hs : ∀ q ∈ l', q ∈ l) : lv_has ls nL l' := ⟨h.1, h.2.1, fun q hq => h.2.2 q (hs q hq)⟩
/-- some locals alone, in an order of their own -/
def lres (lv : List (Nat × Value)) (is : List Nat) : List (Nat × Value) := is.filterMap (fun i => (lkp lv i).map (fun v => (i, v)))
theorem lres_sub {lv : List (Nat × Value)} {is : List Nat} : ∀ q ∈ lres lv is, q ∈ lv := by
  intro q hq
  obtain ⟨i, -, hi⟩ := List.mem_filterMap.mp hq
  cases hk : lkp lv i with
  | none => rw [hk] at hi; cases hi
  | some v => rw [hk] at hi; cases hi; exact lkp_mem hk
end
section
section ER
variable {θ : e_T} {x : e_X} {pc nx tgt : Nat} {lv : List (Nat × Value)} {st : List Value} {ph : e_PH} {k n : Nat} {cc : ByteArray} {own nm : String} {nL : Nat} {ret : Option FieldType} {R : Room} {l : Launch} {off : Int}
theorem e_loc (is : List Nat) (kk : EJ θ x pc (lres lv is) st ph k n) : EJ θ x pc lv st ph k n := by
  obtain ⟨p, l', e, R', s, m, args, below, meth, c, Q, nL'⟩ := x
  intro H ls locs L f hP hD hk hS hl
  exact kk H ls locs L f hP hD hk hS (lhas_sub hl lres_sub)
theorem e_wid {k' n' : Nat} (h1 : k ≤ k') (h2 : n ≤ n') (kk : EJ θ x pc lv st ph k' n') : EJ θ x pc lv st ph k n := by
  obtain ⟨p, l', e, R', s, m, args, below, meth, c, Q, nL'⟩ := x
  intro H ls locs L f hP hD hk hS hl
  exact W.widen h1 h2 (kk H ls locs L f hP hD hk hS hl)
theorem e_iconst (hX : e_in cc own nm nL ret R l θ x) {v : Int32} {j : Int} (hd : e_at cc pc (.iconst j) 1 nx) (hv : Int32.ofInt j = v) (kk : EJ θ x nx lv (.int v :: st) ph k n) : EJ θ x pc lv (st) ph k n := by
  obtain ⟨p, l', e, R', s, m, args, below, meth, c, Q, nL'⟩ := x
  obtain ⟨rfl, rfl, rfl, hx, hb, hml, hown, hts, hG, hb0, hlk, htr, hr, hnm⟩ := hX
  obtain ⟨hd, rfl⟩ := hd
  intro H ls locs L f hP hD hk hS hl
  exact lv_iconst hx hb hd hv (kk H ls locs L f hP hD hk hS hl)
theorem e_bipush (hX : e_in cc own nm nL ret R l θ x) {v : Int32} {j : Int} (hd : e_at cc pc (.bipush j) 2 nx) (hv : (Int8.ofInt j).toInt32 = v) (kk : EJ θ x nx lv (.int v :: st) ph k n) : EJ θ x pc lv (st) ph k n := by
  obtain ⟨p, l', e, R', s, m, args, below, meth, c, Q, nL'⟩ := x
  obtain ⟨rfl, rfl, rfl, hx, hb, hml, hown, hts, hG, hb0, hlk, htr, hr, hnm⟩ := hX
  obtain ⟨hd, rfl⟩ := hd
  intro H ls locs L f hP hD hk hS hl
  exact lv_bipush hx hb hd hv (kk H ls locs L f hP hD hk hS hl)
theorem e_sipush (hX : e_in cc own nm nL ret R l θ x) {v : Int32} {j : Int} (hd : e_at cc pc (.sipush j) 3 nx) (hv : (Int16.ofInt j).toInt32 = v) (kk : EJ θ x nx lv (.int v :: st) ph k n) : EJ θ x pc lv (st) ph k n := by
  obtain ⟨p, l', e, R', s, m, args, below, meth, c, Q, nL'⟩ := x
  obtain ⟨rfl, rfl, rfl, hx, hb, hml, hown, hts, hG, hb0, hlk, htr, hr, hnm⟩ := hX
  obtain ⟨hd, rfl⟩ := hd
  intro H ls locs L f hP hD hk hS hl
  exact lv_sipush hx hb hd hv (kk H ls locs L f hP hD hk hS hl)
theorem e_lconst (hX : e_in cc own nm nL ret R l θ x) {v : Int64} {j : Fin 2} (hd : e_at cc pc (.lconst j) 1 nx) (hv : Int64.ofNat (j : Nat) = v) (kk : EJ θ x nx lv (.long v :: st) ph k n) : EJ θ x pc lv (st) ph k n := by
  obtain ⟨p, l', e, R', s, m, args, below, meth, c, Q, nL'⟩ := x
  obtain ⟨rfl, rfl, rfl, hx, hb, hml, hown, hts, hG, hb0, hlk, htr, hr, hnm⟩ := hX
  obtain ⟨hd, rfl⟩ := hd
  intro H ls locs L f hP hD hk hS hl
  exact lv_lconst hx hb hd hv (kk H ls locs L f hP hD hk hS hl)
theorem e_null (hX : e_in cc own nm nL ret R l θ x) (hd : e_at cc pc (.aconst_null) 1 nx) (kk : EJ θ x nx lv (.null :: st) ph k n) : EJ θ x pc lv (st) ph k n := by
  obtain ⟨p, l', e, R', s, m, args, below, meth, c, Q, nL'⟩ := x
  obtain ⟨rfl, rfl, rfl, hx, hb, hml, hown, hts, hG, hb0, hlk, htr, hr, hnm⟩ := hX
  obtain ⟨hd, rfl⟩ := hd
  intro H ls locs L f hP hD hk hS hl
  exact lv_null hx hb hd (kk H ls locs L f hP hD hk hS hl)
theorem e_iload_n (hX : e_in cc own nm nL ret R l θ x) (i : Nat) {j : Fin 4} {a : Int32} (hd : e_at cc pc (.iload_n j) 1 nx) (hi : (j : Nat) = i) (h : lkp lv i = some (.int a)) (kk : EJ θ x nx lv (.int a :: st) ph k n) : EJ θ x pc lv (st) ph k n := by
  obtain ⟨p, l', e, R', s, m, args, below, meth, c, Q, nL'⟩ := x
  obtain ⟨rfl, rfl, rfl, hx, hb, hml, hown, hts, hG, hb0, hlk, htr, hr, hnm⟩ := hX
  obtain ⟨hd, rfl⟩ := hd
  intro H ls locs L f hP hD hk hS hl
  exact lv_iload_n hx hb hd hi (lkp_has hl h) (kk H ls locs L f hP hD hk hS hl)
theorem e_iload (hX : e_in cc own nm nL ret R l θ x) {i : Nat} {a : Int32} (hd : e_at cc pc (.iload i) 2 nx) (h : lkp lv i = some (.int a)) (kk : EJ θ x nx lv (.int a :: st) ph k n) : EJ θ x pc lv (st) ph k n := by
  obtain ⟨p, l', e, R', s, m, args, below, meth, c, Q, nL'⟩ := x
  obtain ⟨rfl, rfl, rfl, hx, hb, hml, hown, hts, hG, hb0, hlk, htr, hr, hnm⟩ := hX
  obtain ⟨hd, rfl⟩ := hd
  intro H ls locs L f hP hD hk hS hl
  exact lv_iload hx hb hd (lkp_has hl h) (kk H ls locs L f hP hD hk hS hl)
theorem e_istore_n (hX : e_in cc own nm nL ret R l θ x) (i : Nat) {j : Fin 4} {a : Int32} (hd : e_at cc pc (.istore_n j) 1 nx) (hi : (j : Nat) = i) (hn : i < nL) (kk : EJ θ x nx (lset lv i (.int a)) st ph k n) : EJ θ x pc lv (.int a :: st) ph k n := by
  obtain ⟨p, l', e, R', s, m, args, below, meth, c, Q, nL'⟩ := x
  obtain ⟨rfl, rfl, rfl, hx, hb, hml, hown, hts, hG, hb0, hlk, htr, hr, hnm⟩ := hX
  obtain ⟨hd, rfl⟩ := hd
  intro H ls locs L f hP hD hk hS hl
  exact lv_istore_n hx hb hd hi hl hn rfl (fun ls' hl' => kk H ls' locs L f hP hD hk hS (lhas_sub hl' lset_sub))
theorem e_istore (hX : e_in cc own nm nL ret R l θ x) {i : Nat} {a : Int32} (hd : e_at cc pc (.istore i) 2 nx) (hn : i < nL) (kk : EJ θ x nx (lset lv i (.int a)) st ph k n) : EJ θ x pc lv (.int a :: st) ph k n := by
  obtain ⟨p, l', e, R', s, m, args, below, meth, c, Q, nL'⟩ := x
  obtain ⟨rfl, rfl, rfl, hx, hb, hml, hown, hts, hG, hb0, hlk, htr, hr, hnm⟩ := hX
  obtain ⟨hd, rfl⟩ := hd
  intro H ls locs L f hP hD hk hS hl
  exact lv_istore hx hb hd  hl hn rfl (fun ls' hl' => kk H ls' locs L f hP hD hk hS (lhas_sub hl' lset_sub))
theorem e_lload_n (hX : e_in cc own nm nL ret R l θ x) (i : Nat) {j : Fin 4} {a : Int64} (hd : e_at cc pc (.lload_n j) 1 nx) (hi : (j : Nat) = i) (h : lkp lv i = some (.long a)) (kk : EJ θ x nx lv (.long a :: st) ph k n) : EJ θ x pc lv (st) ph k n := by
  obtain ⟨p, l', e, R', s, m, args, below, meth, c, Q, nL'⟩ := x
  obtain ⟨rfl, rfl, rfl, hx, hb, hml, hown, hts, hG, hb0, hlk, htr, hr, hnm⟩ := hX
  obtain ⟨hd, rfl⟩ := hd
  intro H ls locs L f hP hD hk hS hl
  exact lv_lload_n hx hb hd hi (lkp_has hl h) (kk H ls locs L f hP hD hk hS hl)
theorem e_lload (hX : e_in cc own nm nL ret R l θ x) {i : Nat} {a : Int64} (hd : e_at cc pc (.lload i) 2 nx) (h : lkp lv i = some (.long a)) (kk : EJ θ x nx lv (.long a :: st) ph k n) : EJ θ x pc lv (st) ph k n := by
  obtain ⟨p, l', e, R', s, m, args, below, meth, c, Q, nL'⟩ := x
  obtain ⟨rfl, rfl, rfl, hx, hb, hml, hown, hts, hG, hb0, hlk, htr, hr, hnm⟩ := hX
  obtain ⟨hd, rfl⟩ := hd
  intro H ls locs L f hP hD hk hS hl
  exact lv_lload hx hb hd (lkp_has hl h) (kk H ls locs L f hP hD hk hS hl)
theorem e_lstore_n (hX : e_in cc own nm nL ret R l θ x) (i : Nat) {j : Fin 4} {a : Int64} (hd : e_at cc pc (.lstore_n j) 1 nx) (hi : (j : Nat) = i) (hn : i + 1 < nL) (kk : EJ θ x nx (lset2 lv i (.long a)) st ph k n) : EJ θ x pc lv (.long a :: st) ph k n := by
  obtain ⟨p, l', e, R', s, m, args, below, meth, c, Q, nL'⟩ := x
  obtain ⟨rfl, rfl, rfl, hx, hb, hml, hown, hts, hG, hb0, hlk, htr, hr, hnm⟩ := hX
  obtain ⟨hd, rfl⟩ := hd
  intro H ls locs L f hP hD hk hS hl
  exact lv_lstore_n hx hb hd hi hl hn rfl (fun ls' hl' => kk H ls' locs L f hP hD hk hS (lhas_sub hl' lset2_sub))
theorem e_lstore (hX : e_in cc own nm nL ret R l θ x) {i : Nat} {a : Int64} (hd : e_at cc pc (.lstore i) 2 nx) (hn : i + 1 < nL) (kk : EJ θ x nx (lset2 lv i (.long a)) st ph k n) : EJ θ x pc lv (.long a :: st) ph k n := by
  obtain ⟨p, l', e, R', s, m, args, below, meth, c, Q, nL'⟩ := x
  obtain ⟨rfl, rfl, rfl, hx, hb, hml, hown, hts, hG, hb0, hlk, htr, hr, hnm⟩ := hX
  obtain ⟨hd, rfl⟩ := hd
  intro H ls locs L f hP hD hk hS hl
  exact lv_lstore hx hb hd  hl hn rfl (fun ls' hl' => kk H ls' locs L f hP hD hk hS (lhas_sub hl' lset2_sub))
theorem e_aload_n (hX : e_in cc own nm nL ret R l θ x) (i : Nat) {j : Fin 4} {a : Nat} (hd : e_at cc pc (.aload_n j) 1 nx) (hi : (j : Nat) = i) (h : lkp lv i = some (.ref a)) (kk : EJ θ x nx lv (.ref a :: st) ph k n) : EJ θ x pc lv (st) ph k n := by
  obtain ⟨p, l', e, R', s, m, args, below, meth, c, Q, nL'⟩ := x
  obtain ⟨rfl, rfl, rfl, hx, hb, hml, hown, hts, hG, hb0, hlk, htr, hr, hnm⟩ := hX
  obtain ⟨hd, rfl⟩ := hd
  intro H ls locs L f hP hD hk hS hl
  exact lv_aload_n hx hb hd hi (lkp_has hl h) (kk H ls locs L f hP hD hk hS hl)
theorem e_aload (hX : e_in cc own nm nL ret R l θ x) {i : Nat} {a : Nat} (hd : e_at cc pc (.aload i) 2 nx) (h : lkp lv i = some (.ref a)) (kk : EJ θ x nx lv (.ref a :: st) ph k n) : EJ θ x pc lv (st) ph k n := by
  obtain ⟨p, l', e, R', s, m, args, below, meth, c, Q, nL'⟩ := x
  obtain ⟨rfl, rfl, rfl, hx, hb, hml, hown, hts, hG, hb0, hlk, htr, hr, hnm⟩ := hX
  obtain ⟨hd, rfl⟩ := hd
  intro H ls locs L f hP hD hk hS hl
  exact lv_aload hx hb hd (lkp_has hl h) (kk H ls locs L f hP hD hk hS hl)
theorem e_astore_n (hX : e_in cc own nm nL ret R l θ x) (i : Nat) {j : Fin 4} {a : Nat} (hd : e_at cc pc (.astore_n j) 1 nx) (hi : (j : Nat) = i) (hn : i < nL) (kk : EJ θ x nx (lset lv i (.ref a)) st ph k n) : EJ θ x pc lv (.ref a :: st) ph k n := by
  obtain ⟨p, l', e, R', s, m, args, below, meth, c, Q, nL'⟩ := x
  obtain ⟨rfl, rfl, rfl, hx, hb, hml, hown, hts, hG, hb0, hlk, htr, hr, hnm⟩ := hX
  obtain ⟨hd, rfl⟩ := hd
  intro H ls locs L f hP hD hk hS hl
  exact lv_astore_n hx hb hd hi hl hn rfl (fun ls' hl' => kk H ls' locs L f hP hD hk hS (lhas_sub hl' lset_sub))
theorem e_astore (hX : e_in cc own nm nL ret R l θ x) {i : Nat} {a : Nat} (hd : e_at cc pc (.astore i) 2 nx) (hn : i < nL) (kk : EJ θ x nx (lset lv i (.ref a)) st ph k n) : EJ θ x pc lv (.ref a :: st) ph k n := by
  obtain ⟨p, l', e, R', s, m, args, below, meth, c, Q, nL'⟩ := x
  obtain ⟨rfl, rfl, rfl, hx, hb, hml, hown, hts, hG, hb0, hlk, htr, hr, hnm⟩ := hX
  obtain ⟨hd, rfl⟩ := hd
  intro H ls locs L f hP hD hk hS hl
  exact lv_astore hx hb hd  hl hn rfl (fun ls' hl' => kk H ls' locs L f hP hD hk hS (lhas_sub hl' lset_sub))
theorem e_fload_n (hX : e_in cc own nm nL ret R l θ x) (i : Nat) {j : Fin 4} {a : UInt32} (hd : e_at cc pc (.fload_n j) 1 nx) (hi : (j : Nat) = i) (h : lkp lv i = some (.float a)) (kk : EJ θ x nx lv (.float a :: st) ph k n) : EJ θ x pc lv (st) ph k n := by
  obtain ⟨p, l', e, R', s, m, args, below, meth, c, Q, nL'⟩ := x
  obtain ⟨rfl, rfl, rfl, hx, hb, hml, hown, hts, hG, hb0, hlk, htr, hr, hnm⟩ := hX
  obtain ⟨hd, rfl⟩ := hd
  intro H ls locs L f hP hD hk hS hl
  exact lv_fload_n hx hb hd hi (lkp_has hl h) (kk H ls locs L f hP hD hk hS hl)
theorem e_fload (hX : e_in cc own nm nL ret R l θ x) {i : Nat} {a : UInt32} (hd : e_at cc pc (.fload i) 2 nx) (h : lkp lv i = some (.float a)) (kk : EJ θ x nx lv (.float a :: st) ph k n) : EJ θ x pc lv (st) ph k n := by
  obtain ⟨p, l', e, R', s, m, args, below, meth, c, Q, nL'⟩ := x
  obtain ⟨rfl, rfl, rfl, hx, hb, hml, hown, hts, hG, hb0, hlk, htr, hr, hnm⟩ := hX
  obtain ⟨hd, rfl⟩ := hd
  intro H ls locs L f hP hD hk hS hl
  exact lv_fload hx hb hd (lkp_has hl h) (kk H ls locs L f hP hD hk hS hl)
theorem e_fstore_n (hX : e_in cc own nm nL ret R l θ x) (i : Nat) {j : Fin 4} {a : UInt32} (hd : e_at cc pc (.fstore_n j) 1 nx) (hi : (j : Nat) = i) (hn : i < nL) (kk : EJ θ x nx (lset lv i (.float a)) st ph k n) : EJ θ x pc lv (.float a :: st) ph k n := by
  obtain ⟨p, l', e, R', s, m, args, below, meth, c, Q, nL'⟩ := x
  obtain ⟨rfl, rfl, rfl, hx, hb, hml, hown, hts, hG, hb0, hlk, htr, hr, hnm⟩ := hX
  obtain ⟨hd, rfl⟩ := hd
  intro H ls locs L f hP hD hk hS hl
  exact lv_fstore_n hx hb hd hi hl hn rfl (fun ls' hl' => kk H ls' locs L f hP hD hk hS (lhas_sub hl' lset_sub))
theorem e_fstore (hX : e_in cc own nm nL ret R l θ x) {i : Nat} {a : UInt32} (hd : e_at cc pc (.fstore i) 2 nx) (hn : i < nL) (kk : EJ θ x nx (lset lv i (.float a)) st ph k n) : EJ θ x pc lv (.float a :: st) ph k n := by
  obtain ⟨p, l', e, R', s, m, args, below, meth, c, Q, nL'⟩ := x
  obtain ⟨rfl, rfl, rfl, hx, hb, hml, hown, hts, hG, hb0, hlk, htr, hr, hnm⟩ := hX
  obtain ⟨hd, rfl⟩ := hd
  intro H ls locs L f hP hD hk hS hl
  exact lv_fstore hx hb hd  hl hn rfl (fun ls' hl' => kk H ls' locs L f hP hD hk hS (lhas_sub hl' lset_sub))
theorem e_dload_n (hX : e_in cc own nm nL ret R l θ x) (i : Nat) {j : Fin 4} {a : UInt64} (hd : e_at cc pc (.dload_n j) 1 nx) (hi : (j : Nat) = i) (h : lkp lv i = some (.double a)) (kk : EJ θ x nx lv (.double a :: st) ph k n) : EJ θ x pc lv (st) ph k n := by
  obtain ⟨p, l', e, R', s, m, args, below, meth, c, Q, nL'⟩ := x
  obtain ⟨rfl, rfl, rfl, hx, hb, hml, hown, hts, hG, hb0, hlk, htr, hr, hnm⟩ := hX
  obtain ⟨hd, rfl⟩ := hd
  intro H ls locs L f hP hD hk hS hl
  exact lv_dload_n hx hb hd hi (lkp_has hl h) (kk H ls locs L f hP hD hk hS hl)
theorem e_dload (hX : e_in cc own nm nL ret R l θ x) {i : Nat} {a : UInt64} (hd : e_at cc pc (.dload i) 2 nx) (h : lkp lv i = some (.double a)) (kk : EJ θ x nx lv (.double a :: st) ph k n) : EJ θ x pc lv (st) ph k n := by
  obtain ⟨p, l', e, R', s, m, args, below, meth, c, Q, nL'⟩ := x
  obtain ⟨rfl, rfl, rfl, hx, hb, hml, hown, hts, hG, hb0, hlk, htr, hr, hnm⟩ := hX
  obtain ⟨hd, rfl⟩ := hd
  intro H ls locs L f hP hD hk hS hl
  exact lv_dload hx hb hd (lkp_has hl h) (kk H ls locs L f hP hD hk hS hl)
theorem e_dstore_n (hX : e_in cc own nm nL ret R l θ x) (i : Nat) {j : Fin 4} {a : UInt64} (hd : e_at cc pc (.dstore_n j) 1 nx) (hi : (j : Nat) = i) (hn : i + 1 < nL) (kk : EJ θ x nx (lset2 lv i (.double a)) st ph k n) : EJ θ x pc lv (.double a :: st) ph k n := by
  obtain ⟨p, l', e, R', s, m, args, below, meth, c, Q, nL'⟩ := x
  obtain ⟨rfl, rfl, rfl, hx, hb, hml, hown, hts, hG, hb0, hlk, htr, hr, hnm⟩ := hX
  obtain ⟨hd, rfl⟩ := hd
  intro H ls locs L f hP hD hk hS hl
  exact lv_dstore_n hx hb hd hi hl hn rfl (fun ls' hl' => kk H ls' locs L f hP hD hk hS (lhas_sub hl' lset2_sub))
theorem e_dstore (hX : e_in cc own nm nL ret R l θ x) {i : Nat} {a : UInt64} (hd : e_at cc pc (.dstore i) 2 nx) (hn : i + 1 < nL) (kk : EJ θ x nx (lset2 lv i (.double a)) st ph k n) : EJ θ x pc lv (.double a :: st) ph k n := by
  obtain ⟨p, l', e, R', s, m, args, below, meth, c, Q, nL'⟩ := x
  obtain ⟨rfl, rfl, rfl, hx, hb, hml, hown, hts, hG, hb0, hlk, htr, hr, hnm⟩ := hX
  obtain ⟨hd, rfl⟩ := hd
  intro H ls locs L f hP hD hk hS hl
  exact lv_dstore hx hb hd  hl hn rfl (fun ls' hl' => kk H ls' locs L f hP hD hk hS (lhas_sub hl' lset2_sub))
theorem e_iinc (hX : e_in cc own nm nL ret R l θ x) {i : Nat} {j : Int} {a v : Int32} (hd : e_at cc pc (.iinc i j) 3 nx) (h : lkp lv i = some (.int a)) (hv : a + Int32.ofInt j = v) (hn : i < nL) (kk : EJ θ x nx (lset lv i (.int v)) st ph k n) : EJ θ x pc lv st ph k n := by
  obtain ⟨p, l', e, R', s, m, args, below, meth, c, Q, nL'⟩ := x
  obtain ⟨rfl, rfl, rfl, hx, hb, hml, hown, hts, hG, hb0, hlk, htr, hr, hnm⟩ := hX
  obtain ⟨hd, rfl⟩ := hd
  intro H ls locs L f hP hD hk hS hl
  obtain ⟨q, hq⟩ := List.getElem?_of_mem (lkp_mem h)
  exact lv_iinc hx hb hd hl hq hv hn rfl (fun ls' hl' => kk H ls' locs L f hP hD hk hS (lhas_sub hl' lset_sub))
theorem e_iadd (hX : e_in cc own nm nL ret R l θ x) {a b : Int32} (hd : e_at cc pc (.iadd) 1 nx) (kk : EJ θ x nx lv (.int (a + b) :: st) ph k n) : EJ θ x pc lv (.int b :: .int a :: st) ph k n := by
  obtain ⟨p, l', e, R', s, m, args, below, meth, c, Q, nL'⟩ := x
  obtain ⟨rfl, rfl, rfl, hx, hb, hml, hown, hts, hG, hb0, hlk, htr, hr, hnm⟩ := hX
  obtain ⟨hd, rfl⟩ := hd
  intro H ls locs L f hP hD hk hS hl
  exact lv_iadd hx hb hd (kk H ls locs L f hP hD hk hS hl)
theorem e_isub (hX : e_in cc own nm nL ret R l θ x) {a b : Int32} (hd : e_at cc pc (.isub) 1 nx) (kk : EJ θ x nx lv (.int (a - b) :: st) ph k n) : EJ θ x pc lv (.int b :: .int a :: st) ph k n := by
  obtain ⟨p, l', e, R', s, m, args, below, meth, c, Q, nL'⟩ := x
  obtain ⟨rfl, rfl, rfl, hx, hb, hml, hown, hts, hG, hb0, hlk, htr, hr, hnm⟩ := hX
  obtain ⟨hd, rfl⟩ := hd
  intro H ls locs L f hP hD hk hS hl
  exact lv_isub hx hb hd (kk H ls locs L f hP hD hk hS hl)
theorem e_imul (hX : e_in cc own nm nL ret R l θ x) {a b : Int32} (hd : e_at cc pc (.imul) 1 nx) (kk : EJ θ x nx lv (.int (a * b) :: st) ph k n) : EJ θ x pc lv (.int b :: .int a :: st) ph k n := by
  obtain ⟨p, l', e, R', s, m, args, below, meth, c, Q, nL'⟩ := x
  obtain ⟨rfl, rfl, rfl, hx, hb, hml, hown, hts, hG, hb0, hlk, htr, hr, hnm⟩ := hX
  obtain ⟨hd, rfl⟩ := hd
  intro H ls locs L f hP hD hk hS hl
  exact lv_imul hx hb hd (kk H ls locs L f hP hD hk hS hl)
theorem e_iand (hX : e_in cc own nm nL ret R l θ x) {a b : Int32} (hd : e_at cc pc (.iand) 1 nx) (kk : EJ θ x nx lv (.int (a &&& b) :: st) ph k n) : EJ θ x pc lv (.int b :: .int a :: st) ph k n := by
  obtain ⟨p, l', e, R', s, m, args, below, meth, c, Q, nL'⟩ := x
  obtain ⟨rfl, rfl, rfl, hx, hb, hml, hown, hts, hG, hb0, hlk, htr, hr, hnm⟩ := hX
  obtain ⟨hd, rfl⟩ := hd
  intro H ls locs L f hP hD hk hS hl
  exact lv_iand hx hb hd (kk H ls locs L f hP hD hk hS hl)
theorem e_ior (hX : e_in cc own nm nL ret R l θ x) {a b : Int32} (hd : e_at cc pc (.ior) 1 nx) (kk : EJ θ x nx lv (.int (a ||| b) :: st) ph k n) : EJ θ x pc lv (.int b :: .int a :: st) ph k n := by
  obtain ⟨p, l', e, R', s, m, args, below, meth, c, Q, nL'⟩ := x
  obtain ⟨rfl, rfl, rfl, hx, hb, hml, hown, hts, hG, hb0, hlk, htr, hr, hnm⟩ := hX
  obtain ⟨hd, rfl⟩ := hd
  intro H ls locs L f hP hD hk hS hl
  exact lv_ior hx hb hd (kk H ls locs L f hP hD hk hS hl)
theorem e_ixor (hX : e_in cc own nm nL ret R l θ x) {a b : Int32} (hd : e_at cc pc (.ixor) 1 nx) (kk : EJ θ x nx lv (.int (a ^^^ b) :: st) ph k n) : EJ θ x pc lv (.int b :: .int a :: st) ph k n := by
  obtain ⟨p, l', e, R', s, m, args, below, meth, c, Q, nL'⟩ := x
  obtain ⟨rfl, rfl, rfl, hx, hb, hml, hown, hts, hG, hb0, hlk, htr, hr, hnm⟩ := hX
  obtain ⟨hd, rfl⟩ := hd
  intro H ls locs L f hP hD hk hS hl
  exact lv_ixor hx hb hd (kk H ls locs L f hP hD hk hS hl)
theorem e_idiv (hX : e_in cc own nm nL ret R l θ x) {a b : Int32} (hd : e_at cc pc (.idiv) 1 nx) (h0 : ¬ b = 0) (kk : EJ θ x nx lv (.int (a / b) :: st) ph k n) : EJ θ x pc lv (.int b :: .int a :: st) ph k n := by
  obtain ⟨p, l', e, R', s, m, args, below, meth, c, Q, nL'⟩ := x
  obtain ⟨rfl, rfl, rfl, hx, hb, hml, hown, hts, hG, hb0, hlk, htr, hr, hnm⟩ := hX
  obtain ⟨hd, rfl⟩ := hd
  intro H ls locs L f hP hD hk hS hl
  exact lv_idiv hx hb hd h0 (kk H ls locs L f hP hD hk hS hl)
theorem e_irem (hX : e_in cc own nm nL ret R l θ x) {a b : Int32} (hd : e_at cc pc (.irem) 1 nx) (h0 : ¬ b = 0) (kk : EJ θ x nx lv (.int (a - a / b * b) :: st) ph k n) : EJ θ x pc lv (.int b :: .int a :: st) ph k n := by
  obtain ⟨p, l', e, R', s, m, args, below, meth, c, Q, nL'⟩ := x
  obtain ⟨rfl, rfl, rfl, hx, hb, hml, hown, hts, hG, hb0, hlk, htr, hr, hnm⟩ := hX
  obtain ⟨hd, rfl⟩ := hd
  intro H ls locs L f hP hD hk hS hl
  exact lv_irem hx hb hd h0 (kk H ls locs L f hP hD hk hS hl)
theorem e_ineg (hX : e_in cc own nm nL ret R l θ x) {a : Int32} (hd : e_at cc pc (.ineg) 1 nx) (kk : EJ θ x nx lv (.int (-a) :: st) ph k n) : EJ θ x pc lv (.int a :: st) ph k n := by
  obtain ⟨p, l', e, R', s, m, args, below, meth, c, Q, nL'⟩ := x
  obtain ⟨rfl, rfl, rfl, hx, hb, hml, hown, hts, hG, hb0, hlk, htr, hr, hnm⟩ := hX
  obtain ⟨hd, rfl⟩ := hd
  intro H ls locs L f hP hD hk hS hl
  exact lv_ineg hx hb hd (kk H ls locs L f hP hD hk hS hl)
theorem e_ishl (hX : e_in cc own nm nL ret R l θ x) {a b : Int32} (hd : e_at cc pc (.ishl) 1 nx) (kk : EJ θ x nx lv (.int (a <<< (b &&& 31)) :: st) ph k n) : EJ θ x pc lv (.int b :: .int a :: st) ph k n := by
  obtain ⟨p, l', e, R', s, m, args, below, meth, c, Q, nL'⟩ := x
  obtain ⟨rfl, rfl, rfl, hx, hb, hml, hown, hts, hG, hb0, hlk, htr, hr, hnm⟩ := hX
  obtain ⟨hd, rfl⟩ := hd
  intro H ls locs L f hP hD hk hS hl
  exact lv_ishl hx hb hd (kk H ls locs L f hP hD hk hS hl)
theorem e_ishr (hX : e_in cc own nm nL ret R l θ x) {a b : Int32} (hd : e_at cc pc (.ishr) 1 nx) (kk : EJ θ x nx lv (.int (a >>> (b &&& 31)) :: st) ph k n) : EJ θ x pc lv (.int b :: .int a :: st) ph k n := by
  obtain ⟨p, l', e, R', s, m, args, below, meth, c, Q, nL'⟩ := x
  obtain ⟨rfl, rfl, rfl, hx, hb, hml, hown, hts, hG, hb0, hlk, htr, hr, hnm⟩ := hX
  obtain ⟨hd, rfl⟩ := hd
  intro H ls locs L f hP hD hk hS hl
  exact lv_ishr hx hb hd (kk H ls locs L f hP hD hk hS hl)
theorem e_iushr (hX : e_in cc own nm nL ret R l θ x) {a b : Int32} (hd : e_at cc pc (.iushr) 1 nx) (kk : EJ θ x nx lv (.int (a.toUInt32 >>> (b.toUInt32 &&& Int32.toUInt32 31)).toInt32 :: st) ph k n) : EJ θ x pc lv (.int b :: .int a :: st) ph k n := by
  obtain ⟨p, l', e, R', s, m, args, below, meth, c, Q, nL'⟩ := x
  obtain ⟨rfl, rfl, rfl, hx, hb, hml, hown, hts, hG, hb0, hlk, htr, hr, hnm⟩ := hX
  obtain ⟨hd, rfl⟩ := hd
  intro H ls locs L f hP hD hk hS hl
  exact lv_iushr hx hb hd rfl (kk H ls locs L f hP hD hk hS hl)
theorem e_ladd (hX : e_in cc own nm nL ret R l θ x) {a b : Int64} (hd : e_at cc pc (.ladd) 1 nx) (kk : EJ θ x nx lv (.long (a + b) :: st) ph k n) : EJ θ x pc lv (.long b :: .long a :: st) ph k n := by
  obtain ⟨p, l', e, R', s, m, args, below, meth, c, Q, nL'⟩ := x
  obtain ⟨rfl, rfl, rfl, hx, hb, hml, hown, hts, hG, hb0, hlk, htr, hr, hnm⟩ := hX
  obtain ⟨hd, rfl⟩ := hd
  intro H ls locs L f hP hD hk hS hl
  exact lv_ladd hx hb hd (kk H ls locs L f hP hD hk hS hl)
theorem e_lsub (hX : e_in cc own nm nL ret R l θ x) {a b : Int64} (hd : e_at cc pc (.lsub) 1 nx) (kk : EJ θ x nx lv (.long (a - b) :: st) ph k n) : EJ θ x pc lv (.long b :: .long a :: st) ph k n := by
  obtain ⟨p, l', e, R', s, m, args, below, meth, c, Q, nL'⟩ := x
  obtain ⟨rfl, rfl, rfl, hx, hb, hml, hown, hts, hG, hb0, hlk, htr, hr, hnm⟩ := hX
  obtain ⟨hd, rfl⟩ := hd
  intro H ls locs L f hP hD hk hS hl
  exact lv_lsub hx hb hd (kk H ls locs L f hP hD hk hS hl)
theorem e_land (hX : e_in cc own nm nL ret R l θ x) {a b : Int64} (hd : e_at cc pc (.land) 1 nx) (kk : EJ θ x nx lv (.long (a &&& b) :: st) ph k n) : EJ θ x pc lv (.long b :: .long a :: st) ph k n := by
  obtain ⟨p, l', e, R', s, m, args, below, meth, c, Q, nL'⟩ := x
  obtain ⟨rfl, rfl, rfl, hx, hb, hml, hown, hts, hG, hb0, hlk, htr, hr, hnm⟩ := hX
  obtain ⟨hd, rfl⟩ := hd
  intro H ls locs L f hP hD hk hS hl
  exact lv_land hx hb hd (kk H ls locs L f hP hD hk hS hl)
theorem e_lor (hX : e_in cc own nm nL ret R l θ x) {a b : Int64} (hd : e_at cc pc (.lor) 1 nx) (kk : EJ θ x nx lv (.long (a ||| b) :: st) ph k n) : EJ θ x pc lv (.long b :: .long a :: st) ph k n := by
  obtain ⟨p, l', e, R', s, m, args, below, meth, c, Q, nL'⟩ := x
  obtain ⟨rfl, rfl, rfl, hx, hb, hml, hown, hts, hG, hb0, hlk, htr, hr, hnm⟩ := hX
  obtain ⟨hd, rfl⟩ := hd
  intro H ls locs L f hP hD hk hS hl
  exact lv_lor hx hb hd (kk H ls locs L f hP hD hk hS hl)
theorem e_lshl (hX : e_in cc own nm nL ret R l θ x) {a : Int64} {b : Int32} (hd : e_at cc pc (.lshl) 1 nx) (kk : EJ θ x nx lv (.long (a <<< (b.toInt64 &&& 63)) :: st) ph k n) : EJ θ x pc lv (.int b :: .long a :: st) ph k n := by
  obtain ⟨p, l', e, R', s, m, args, below, meth, c, Q, nL'⟩ := x
  obtain ⟨rfl, rfl, rfl, hx, hb, hml, hown, hts, hG, hb0, hlk, htr, hr, hnm⟩ := hX
  obtain ⟨hd, rfl⟩ := hd
  intro H ls locs L f hP hD hk hS hl
  exact lv_lshl hx hb hd rfl (kk H ls locs L f hP hD hk hS hl)
theorem e_lshr (hX : e_in cc own nm nL ret R l θ x) {a : Int64} {b : Int32} (hd : e_at cc pc (.lshr) 1 nx) (kk : EJ θ x nx lv (.long (a >>> (b.toInt64 &&& 63)) :: st) ph k n) : EJ θ x pc lv (.int b :: .long a :: st) ph k n := by
  obtain ⟨p, l', e, R', s, m, args, below, meth, c, Q, nL'⟩ := x
  obtain ⟨rfl, rfl, rfl, hx, hb, hml, hown, hts, hG, hb0, hlk, htr, hr, hnm⟩ := hX
  obtain ⟨hd, rfl⟩ := hd
  intro H ls locs L f hP hD hk hS hl
  exact lv_lshr hx hb hd rfl (kk H ls locs L f hP hD hk hS hl)
theorem e_lushr (hX : e_in cc own nm nL ret R l θ x) {a : Int64} {b : Int32} (hd : e_at cc pc (.lushr) 1 nx) (kk : EJ θ x nx lv (.long (a.toUInt64 >>> (b.toInt64.toUInt64 &&& Int64.toUInt64 63)).toInt64 :: st) ph k n) : EJ θ x pc lv (.int b :: .long a :: st) ph k n := by
  obtain ⟨p, l', e, R', s, m, args, below, meth, c, Q, nL'⟩ := x
  obtain ⟨rfl, rfl, rfl, hx, hb, hml, hown, hts, hG, hb0, hlk, htr, hr, hnm⟩ := hX
  obtain ⟨hd, rfl⟩ := hd
  intro H ls locs L f hP hD hk hS hl
  exact lv_lushr hx hb hd rfl (kk H ls locs L f hP hD hk hS hl)
theorem e_i2l (hX : e_in cc own nm nL ret R l θ x) {a : Int32} (hd : e_at cc pc (.i2l) 1 nx) (kk : EJ θ x nx lv (.long a.toInt64 :: st) ph k n) : EJ θ x pc lv (.int a :: st) ph k n := by
  obtain ⟨p, l', e, R', s, m, args, below, meth, c, Q, nL'⟩ := x
  obtain ⟨rfl, rfl, rfl, hx, hb, hml, hown, hts, hG, hb0, hlk, htr, hr, hnm⟩ := hX
  obtain ⟨hd, rfl⟩ := hd
  intro H ls locs L f hP hD hk hS hl
  exact lv_i2l hx hb hd rfl (kk H ls locs L f hP hD hk hS hl)
theorem e_l2i (hX : e_in cc own nm nL ret R l θ x) {a : Int64} (hd : e_at cc pc (.l2i) 1 nx) (kk : EJ θ x nx lv (.int a.toInt32 :: st) ph k n) : EJ θ x pc lv (.long a :: st) ph k n := by
  obtain ⟨p, l', e, R', s, m, args, below, meth, c, Q, nL'⟩ := x
  obtain ⟨rfl, rfl, rfl, hx, hb, hml, hown, hts, hG, hb0, hlk, htr, hr, hnm⟩ := hX
  obtain ⟨hd, rfl⟩ := hd
  intro H ls locs L f hP hD hk hS hl
  exact lv_l2i hx hb hd rfl (kk H ls locs L f hP hD hk hS hl)
theorem e_i2d (hX : e_in cc own nm nL ret R l θ x) {a : Int32} (hd : e_at cc pc (.i2d) 1 nx) (kk : EJ θ x nx lv (.double (FP.i2d a) :: st) ph k n) : EJ θ x pc lv (.int a :: st) ph k n := by
  obtain ⟨p, l', e, R', s, m, args, below, meth, c, Q, nL'⟩ := x
  obtain ⟨rfl, rfl, rfl, hx, hb, hml, hown, hts, hG, hb0, hlk, htr, hr, hnm⟩ := hX
  obtain ⟨hd, rfl⟩ := hd
  intro H ls locs L f hP hD hk hS hl
  exact lv_i2d hx hb hd (kk H ls locs L f hP hD hk hS hl)
theorem e_i2f (hX : e_in cc own nm nL ret R l θ x) {a : Int32} (hd : e_at cc pc (.i2f) 1 nx) (kk : EJ θ x nx lv (.float (FP.i2f a) :: st) ph k n) : EJ θ x pc lv (.int a :: st) ph k n := by
  obtain ⟨p, l', e, R', s, m, args, below, meth, c, Q, nL'⟩ := x
  obtain ⟨rfl, rfl, rfl, hx, hb, hml, hown, hts, hG, hb0, hlk, htr, hr, hnm⟩ := hX
  obtain ⟨hd, rfl⟩ := hd
  intro H ls locs L f hP hD hk hS hl
  exact lv_i2f hx hb hd (kk H ls locs L f hP hD hk hS hl)
theorem e_ddiv (hX : e_in cc own nm nL ret R l θ x) {a b : UInt64} (hd : e_at cc pc (.ddiv) 1 nx) (h0 : vf_n64 (FP.ddiv a b)) (kk : EJ θ x nx lv (.double (FP.ddiv a b) :: st) ph k n) : EJ θ x pc lv (.double b :: .double a :: st) ph k n := by
  obtain ⟨p, l', e, R', s, m, args, below, meth, c, Q, nL'⟩ := x
  obtain ⟨rfl, rfl, rfl, hx, hb, hml, hown, hts, hG, hb0, hlk, htr, hr, hnm⟩ := hX
  obtain ⟨hd, rfl⟩ := hd
  intro H ls locs L f hP hD hk hS hl
  exact lv_ddiv hx hb hd h0 (kk H ls locs L f hP hD hk hS hl)
theorem e_fdiv (hX : e_in cc own nm nL ret R l θ x) {a b : UInt32} (hd : e_at cc pc (.fdiv) 1 nx) (h0 : vf_n32 (FP.fdiv a b)) (kk : EJ θ x nx lv (.float (FP.fdiv a b) :: st) ph k n) : EJ θ x pc lv (.float b :: .float a :: st) ph k n := by
  obtain ⟨p, l', e, R', s, m, args, below, meth, c, Q, nL'⟩ := x
  obtain ⟨rfl, rfl, rfl, hx, hb, hml, hown, hts, hG, hb0, hlk, htr, hr, hnm⟩ := hX
  obtain ⟨hd, rfl⟩ := hd
  intro H ls locs L f hP hD hk hS hl
  exact lv_fdiv hx hb hd h0 (kk H ls locs L f hP hD hk hS hl)
theorem e_f2d (hX : e_in cc own nm nL ret R l θ x) {a : UInt32} (hd : e_at cc pc (.f2d) 1 nx) (h0 : vf_n64 (FP.f2d a)) (kk : EJ θ x nx lv (.double (FP.f2d a) :: st) ph k n) : EJ θ x pc lv (.float a :: st) ph k n := by
  obtain ⟨p, l', e, R', s, m, args, below, meth, c, Q, nL'⟩ := x
  obtain ⟨rfl, rfl, rfl, hx, hb, hml, hown, hts, hG, hb0, hlk, htr, hr, hnm⟩ := hX
  obtain ⟨hd, rfl⟩ := hd
  intro H ls locs L f hP hD hk hS hl
  exact lv_f2d hx hb hd h0 (kk H ls locs L f hP hD hk hS hl)
theorem e_dconst0 (hX : e_in cc own nm nL ret R l θ x) (hd : e_at cc pc (.dconst 0) 1 nx) (kk : EJ θ x nx lv (.double (FP.i2d 0) :: st) ph k n) : EJ θ x pc lv (st) ph k n := by
  obtain ⟨p, l', e, R', s, m, args, below, meth, c, Q, nL'⟩ := x
  obtain ⟨rfl, rfl, rfl, hx, hb, hml, hown, hts, hG, hb0, hlk, htr, hr, hnm⟩ := hX
  obtain ⟨hd, rfl⟩ := hd
  intro H ls locs L f hP hD hk hS hl
  exact lv_dconst0 hx hb hd (kk H ls locs L f hP hD hk hS hl)
theorem e_fconst0 (hX : e_in cc own nm nL ret R l θ x) (hd : e_at cc pc (.fconst 0) 1 nx) (kk : EJ θ x nx lv (.float (FP.i2f 0) :: st) ph k n) : EJ θ x pc lv (st) ph k n := by
  obtain ⟨p, l', e, R', s, m, args, below, meth, c, Q, nL'⟩ := x
  obtain ⟨rfl, rfl, rfl, hx, hb, hml, hown, hts, hG, hb0, hlk, htr, hr, hnm⟩ := hX
  obtain ⟨hd, rfl⟩ := hd
  intro H ls locs L f hP hD hk hS hl
  exact lv_fconst0 hx hb hd (kk H ls locs L f hP hD hk hS hl)
theorem e_lcmp (hX : e_in cc own nm nL ret R l θ x) {a b : Int64} (hd : e_at cc pc (.lcmp) 1 nx) (kk : EJ θ x nx lv (.int (lg_cmp a b) :: st) ph k n) : EJ θ x pc lv (.long b :: .long a :: st) ph k n := by
  obtain ⟨p, l', e, R', s, m, args, below, meth, c, Q, nL'⟩ := x
  obtain ⟨rfl, rfl, rfl, hx, hb, hml, hown, hts, hG, hb0, hlk, htr, hr, hnm⟩ := hX
  obtain ⟨hd, rfl⟩ := hd
  intro H ls locs L f hP hD hk hS hl
  exact W.lcmp hx hb hd (kk H ls locs L f hP hD hk hS hl)
theorem e_dcmp (hX : e_in cc own nm nL ret R l θ x) {a b : UInt64} {op : CmpOp} (hd : e_at cc pc (.dcmp op) 1 nx) (kk : EJ θ x nx lv (.int (Op.cmpValue (FP.dcmp a b) op) :: st) ph k n) : EJ θ x pc lv (.double b :: .double a :: st) ph k n := by
  obtain ⟨p, l', e, R', s, m, args, below, meth, c, Q, nL'⟩ := x
  obtain ⟨rfl, rfl, rfl, hx, hb, hml, hown, hts, hG, hb0, hlk, htr, hr, hnm⟩ := hX
  obtain ⟨hd, rfl⟩ := hd
  intro H ls locs L f hP hD hk hS hl
  exact lv_dcmp hx hb hd (kk H ls locs L f hP hD hk hS hl)
theorem e_fcmp (hX : e_in cc own nm nL ret R l θ x) {a b : UInt32} {op : CmpOp} (hd : e_at cc pc (.fcmp op) 1 nx) (kk : EJ θ x nx lv (.int (Op.cmpValue (FP.fcmp a b) op) :: st) ph k n) : EJ θ x pc lv (.float b :: .float a :: st) ph k n := by
  obtain ⟨p, l', e, R', s, m, args, below, meth, c, Q, nL'⟩ := x
  obtain ⟨rfl, rfl, rfl, hx, hb, hml, hown, hts, hG, hb0, hlk, htr, hr, hnm⟩ := hX
  obtain ⟨hd, rfl⟩ := hd
  intro H ls locs L f hP hD hk hS hl
  exact lv_fcmp hx hb hd (kk H ls locs L f hP hD hk hS hl)
theorem e_dup (hX : e_in cc own nm nL ret R l θ x) {v : Value} (hd : e_at cc pc (.dup) 1 nx) (hc : v.category = 1) (kk : EJ θ x nx lv (v :: v :: st) ph k n) : EJ θ x pc lv (v :: st) ph k n := by
  obtain ⟨p, l', e, R', s, m, args, below, meth, c, Q, nL'⟩ := x
  obtain ⟨rfl, rfl, rfl, hx, hb, hml, hown, hts, hG, hb0, hlk, htr, hr, hnm⟩ := hX
  obtain ⟨hd, rfl⟩ := hd
  intro H ls locs L f hP hD hk hS hl
  exact lv_dup hx hb hd hc (kk H ls locs L f hP hD hk hS hl)
theorem e_pop (hX : e_in cc own nm nL ret R l θ x) {v : Value} (hd : e_at cc pc (.pop) 1 nx) (hc : v.category = 1) (kk : EJ θ x nx lv (st) ph k n) : EJ θ x pc lv (v :: st) ph k n := by
  obtain ⟨p, l', e, R', s, m, args, below, meth, c, Q, nL'⟩ := x
  obtain ⟨rfl, rfl, rfl, hx, hb, hml, hown, hts, hG, hb0, hlk, htr, hr, hnm⟩ := hX
  obtain ⟨hd, rfl⟩ := hd
  intro H ls locs L f hP hD hk hS hl
  exact lv_pop hx hb hd hc (kk H ls locs L f hP hD hk hS hl)
theorem e_dup_x1 (hX : e_in cc own nm nL ret R l θ x) {v w : Value} (hd : e_at cc pc (.dup_x1) 1 nx) (hc : v.category = 1) (hc2 : w.category = 1) (kk : EJ θ x nx lv (v :: w :: v :: st) ph k n) : EJ θ x pc lv (v :: w :: st) ph k n := by
  obtain ⟨p, l', e, R', s, m, args, below, meth, c, Q, nL'⟩ := x
  obtain ⟨rfl, rfl, rfl, hx, hb, hml, hown, hts, hG, hb0, hlk, htr, hr, hnm⟩ := hX
  obtain ⟨hd, rfl⟩ := hd
  intro H ls locs L f hP hD hk hS hl
  exact lv_dup_x1 hx hb hd hc hc2 (kk H ls locs L f hP hD hk hS hl)
theorem e_dup2 (hX : e_in cc own nm nL ret R l θ x) {v w : Value} (hd : e_at cc pc (.dup2) 1 nx) (hc : v.category = 1) (hc2 : w.category = 1) (kk : EJ θ x nx lv (v :: w :: v :: w :: st) ph k n) : EJ θ x pc lv (v :: w :: st) ph k n := by
  obtain ⟨p, l', e, R', s, m, args, below, meth, c, Q, nL'⟩ := x
  obtain ⟨rfl, rfl, rfl, hx, hb, hml, hown, hts, hG, hb0, hlk, htr, hr, hnm⟩ := hX
  obtain ⟨hd, rfl⟩ := hd
  intro H ls locs L f hP hD hk hS hl
  exact lv_dup2_11 hx hb hd hc hc2 (kk H ls locs L f hP hD hk hS hl)
theorem e_ldc (hX : e_in cc own nm nL ret R l θ x) {v : Int32} {j : Nat} (hd : e_at cc pc (.ldc j) 2 nx) (hw : e_w (.constant own j v)) (kk : EJ θ x nx lv (.int v :: st) ph k n) : EJ θ x pc lv (st) ph k n := by
  obtain ⟨p, l', e, R', s, m, args, below, meth, c, Q, nL'⟩ := x
  obtain ⟨rfl, rfl, rfl, hx, hb, hml, hown, hts, hG, hb0, hlk, htr, hr, hnm⟩ := hX
  obtain ⟨hd, rfl⟩ := hd
  intro H ls locs L f hP hD hk hS hl
  exact W.ldc hx hb hown (hts _ hw) rfl hd (kk H ls locs L f hP hD hk hS hl)
theorem e_ldcw (hX : e_in cc own nm nL ret R l θ x) {v : Int32} {j : Nat} (hd : e_at cc pc (.ldc_w j) 3 nx) (hw : e_w (.constant own j v)) (kk : EJ θ x nx lv (.int v :: st) ph k n) : EJ θ x pc lv (st) ph k n := by
  obtain ⟨p, l', e, R', s, m, args, below, meth, c, Q, nL'⟩ := x
  obtain ⟨rfl, rfl, rfl, hx, hb, hml, hown, hts, hG, hb0, hlk, htr, hr, hnm⟩ := hX
  obtain ⟨hd, rfl⟩ := hd
  intro H ls locs L f hP hD hk hS hl
  exact lv_ldcw hx hb hown (hts _ hw) hd (kk H ls locs L f hP hD hk hS hl)
theorem e_ldc2 (hX : e_in cc own nm nL ret R l θ x) {v : Int64} {j : Nat} (hd : e_at cc pc (.ldc2_w j) 3 nx) (hw : e_w (.constantLong own j v)) (kk : EJ θ x nx lv (.long v :: st) ph k n) : EJ θ x pc lv (st) ph k n := by
  obtain ⟨p, l', e, R', s, m, args, below, meth, c, Q, nL'⟩ := x
  obtain ⟨rfl, rfl, rfl, hx, hb, hml, hown, hts, hG, hb0, hlk, htr, hr, hnm⟩ := hX
  obtain ⟨hd, rfl⟩ := hd
  intro H ls locs L f hP hD hk hS hl
  exact W.ldc2 hx hb hown (hts _ hw) rfl hd (kk H ls locs L f hP hD hk hS hl)
theorem e_if_eq (hX : e_in cc own nm nL ret R l θ x) {a : Int32} (hd : e_br cc pc (.ifCond .eq off) off nx tgt) (kt : a = 0 → EJ θ x tgt lv st ph k n) (kf : ¬ (a = 0) → EJ θ x nx lv st ph k n) : EJ θ x pc lv (.int a :: st) ph k n := by
  obtain ⟨p, l', e, R', s, m, args, below, meth, c, Q, nL'⟩ := x
  obtain ⟨rfl, rfl, rfl, hx, hb, hml, hown, hts, hG, hb0, hlk, htr, hr, hnm⟩ := hX
  obtain ⟨hd, rfl, ht⟩ := hd
  intro H ls locs L f hP hD hk hS hl
  exact lv_if_eq hx hb hd ht (fun h => kt h H ls locs L f hP hD hk hS hl) (fun h => kf h H ls locs L f hP hD hk hS hl)
theorem e_icmp_eq (hX : e_in cc own nm nL ret R l θ x) {a b : Int32} (hd : e_br cc pc (.if_icmp .eq off) off nx tgt) (kt : a = b → EJ θ x tgt lv st ph k n) (kf : ¬ (a = b) → EJ θ x nx lv st ph k n) : EJ θ x pc lv (.int b :: .int a :: st) ph k n := by
  obtain ⟨p, l', e, R', s, m, args, below, meth, c, Q, nL'⟩ := x
  obtain ⟨rfl, rfl, rfl, hx, hb, hml, hown, hts, hG, hb0, hlk, htr, hr, hnm⟩ := hX
  obtain ⟨hd, rfl, ht⟩ := hd
  intro H ls locs L f hP hD hk hS hl
  exact lv_icmp_eq hx hb hd ht (fun h => kt h H ls locs L f hP hD hk hS hl) (fun h => kf h H ls locs L f hP hD hk hS hl)
theorem e_if_ne (hX : e_in cc own nm nL ret R l θ x) {a : Int32} (hd : e_br cc pc (.ifCond .ne off) off nx tgt) (kt : ¬ a = 0 → EJ θ x tgt lv st ph k n) (kf : a = 0 → EJ θ x nx lv st ph k n) : EJ θ x pc lv (.int a :: st) ph k n := by
  obtain ⟨p, l', e, R', s, m, args, below, meth, c, Q, nL'⟩ := x
  obtain ⟨rfl, rfl, rfl, hx, hb, hml, hown, hts, hG, hb0, hlk, htr, hr, hnm⟩ := hX
  obtain ⟨hd, rfl, ht⟩ := hd
  intro H ls locs L f hP hD hk hS hl
  exact lv_if_ne hx hb hd ht (fun h => kt h H ls locs L f hP hD hk hS hl) (fun h => kf h H ls locs L f hP hD hk hS hl)
theorem e_icmp_ne (hX : e_in cc own nm nL ret R l θ x) {a b : Int32} (hd : e_br cc pc (.if_icmp .ne off) off nx tgt) (kt : ¬ a = b → EJ θ x tgt lv st ph k n) (kf : a = b → EJ θ x nx lv st ph k n) : EJ θ x pc lv (.int b :: .int a :: st) ph k n := by
  obtain ⟨p, l', e, R', s, m, args, below, meth, c, Q, nL'⟩ := x
  obtain ⟨rfl, rfl, rfl, hx, hb, hml, hown, hts, hG, hb0, hlk, htr, hr, hnm⟩ := hX
  obtain ⟨hd, rfl, ht⟩ := hd
  intro H ls locs L f hP hD hk hS hl
  exact lv_icmp_ne hx hb hd ht (fun h => kt h H ls locs L f hP hD hk hS hl) (fun h => kf h H ls locs L f hP hD hk hS hl)
theorem e_if_lt (hX : e_in cc own nm nL ret R l θ x) {a : Int32} (hd : e_br cc pc (.ifCond .lt off) off nx tgt) (kt : a < 0 → EJ θ x tgt lv st ph k n) (kf : ¬ (a < 0) → EJ θ x nx lv st ph k n) : EJ θ x pc lv (.int a :: st) ph k n := by
  obtain ⟨p, l', e, R', s, m, args, below, meth, c, Q, nL'⟩ := x
  obtain ⟨rfl, rfl, rfl, hx, hb, hml, hown, hts, hG, hb0, hlk, htr, hr, hnm⟩ := hX
  obtain ⟨hd, rfl, ht⟩ := hd
  intro H ls locs L f hP hD hk hS hl
  exact lv_if_lt hx hb hd ht (fun h => kt h H ls locs L f hP hD hk hS hl) (fun h => kf h H ls locs L f hP hD hk hS hl)
theorem e_icmp_lt (hX : e_in cc own nm nL ret R l θ x) {a b : Int32} (hd : e_br cc pc (.if_icmp .lt off) off nx tgt) (kt : a < b → EJ θ x tgt lv st ph k n) (kf : ¬ (a < b) → EJ θ x nx lv st ph k n) : EJ θ x pc lv (.int b :: .int a :: st) ph k n := by
  obtain ⟨p, l', e, R', s, m, args, below, meth, c, Q, nL'⟩ := x
  obtain ⟨rfl, rfl, rfl, hx, hb, hml, hown, hts, hG, hb0, hlk, htr, hr, hnm⟩ := hX
  obtain ⟨hd, rfl, ht⟩ := hd
  intro H ls locs L f hP hD hk hS hl
  exact lv_icmp_lt hx hb hd ht (fun h => kt h H ls locs L f hP hD hk hS hl) (fun h => kf h H ls locs L f hP hD hk hS hl)
theorem e_if_ge (hX : e_in cc own nm nL ret R l θ x) {a : Int32} (hd : e_br cc pc (.ifCond .ge off) off nx tgt) (kt : 0 ≤ a → EJ θ x tgt lv st ph k n) (kf : ¬ (0 ≤ a) → EJ θ x nx lv st ph k n) : EJ θ x pc lv (.int a :: st) ph k n := by
  obtain ⟨p, l', e, R', s, m, args, below, meth, c, Q, nL'⟩ := x
  obtain ⟨rfl, rfl, rfl, hx, hb, hml, hown, hts, hG, hb0, hlk, htr, hr, hnm⟩ := hX
  obtain ⟨hd, rfl, ht⟩ := hd
  intro H ls locs L f hP hD hk hS hl
  exact lv_if_ge hx hb hd ht (fun h => kt h H ls locs L f hP hD hk hS hl) (fun h => kf h H ls locs L f hP hD hk hS hl)
theorem e_icmp_ge (hX : e_in cc own nm nL ret R l θ x) {a b : Int32} (hd : e_br cc pc (.if_icmp .ge off) off nx tgt) (kt : b ≤ a → EJ θ x tgt lv st ph k n) (kf : ¬ (b ≤ a) → EJ θ x nx lv st ph k n) : EJ θ x pc lv (.int b :: .int a :: st) ph k n := by
  obtain ⟨p, l', e, R', s, m, args, below, meth, c, Q, nL'⟩ := x
  obtain ⟨rfl, rfl, rfl, hx, hb, hml, hown, hts, hG, hb0, hlk, htr, hr, hnm⟩ := hX
  obtain ⟨hd, rfl, ht⟩ := hd
  intro H ls locs L f hP hD hk hS hl
  exact lv_icmp_ge hx hb hd ht (fun h => kt h H ls locs L f hP hD hk hS hl) (fun h => kf h H ls locs L f hP hD hk hS hl)
theorem e_if_gt (hX : e_in cc own nm nL ret R l θ x) {a : Int32} (hd : e_br cc pc (.ifCond .gt off) off nx tgt) (kt : 0 < a → EJ θ x tgt lv st ph k n) (kf : ¬ (0 < a) → EJ θ x nx lv st ph k n) : EJ θ x pc lv (.int a :: st) ph k n := by
  obtain ⟨p, l', e, R', s, m, args, below, meth, c, Q, nL'⟩ := x
  obtain ⟨rfl, rfl, rfl, hx, hb, hml, hown, hts, hG, hb0, hlk, htr, hr, hnm⟩ := hX
  obtain ⟨hd, rfl, ht⟩ := hd
  intro H ls locs L f hP hD hk hS hl
  exact lv_if_gt hx hb hd ht (fun h => kt h H ls locs L f hP hD hk hS hl) (fun h => kf h H ls locs L f hP hD hk hS hl)
theorem e_icmp_gt (hX : e_in cc own nm nL ret R l θ x) {a b : Int32} (hd : e_br cc pc (.if_icmp .gt off) off nx tgt) (kt : b < a → EJ θ x tgt lv st ph k n) (kf : ¬ (b < a) → EJ θ x nx lv st ph k n) : EJ θ x pc lv (.int b :: .int a :: st) ph k n := by
  obtain ⟨p, l', e, R', s, m, args, below, meth, c, Q, nL'⟩ := x
  obtain ⟨rfl, rfl, rfl, hx, hb, hml, hown, hts, hG, hb0, hlk, htr, hr, hnm⟩ := hX
  obtain ⟨hd, rfl, ht⟩ := hd
  intro H ls locs L f hP hD hk hS hl
  exact lv_icmp_gt hx hb hd ht (fun h => kt h H ls locs L f hP hD hk hS hl) (fun h => kf h H ls locs L f hP hD hk hS hl)
theorem e_if_le (hX : e_in cc own nm nL ret R l θ x) {a : Int32} (hd : e_br cc pc (.ifCond .le off) off nx tgt) (kt : a ≤ 0 → EJ θ x tgt lv st ph k n) (kf : ¬ (a ≤ 0) → EJ θ x nx lv st ph k n) : EJ θ x pc lv (.int a :: st) ph k n := by
  obtain ⟨p, l', e, R', s, m, args, below, meth, c, Q, nL'⟩ := x
  obtain ⟨rfl, rfl, rfl, hx, hb, hml, hown, hts, hG, hb0, hlk, htr, hr, hnm⟩ := hX
  obtain ⟨hd, rfl, ht⟩ := hd
  intro H ls locs L f hP hD hk hS hl
  exact lv_if_le hx hb hd ht (fun h => kt h H ls locs L f hP hD hk hS hl) (fun h => kf h H ls locs L f hP hD hk hS hl)
theorem e_icmp_le (hX : e_in cc own nm nL ret R l θ x) {a b : Int32} (hd : e_br cc pc (.if_icmp .le off) off nx tgt) (kt : a ≤ b → EJ θ x tgt lv st ph k n) (kf : ¬ (a ≤ b) → EJ θ x nx lv st ph k n) : EJ θ x pc lv (.int b :: .int a :: st) ph k n := by
  obtain ⟨p, l', e, R', s, m, args, below, meth, c, Q, nL'⟩ := x
  obtain ⟨rfl, rfl, rfl, hx, hb, hml, hown, hts, hG, hb0, hlk, htr, hr, hnm⟩ := hX
  obtain ⟨hd, rfl, ht⟩ := hd
  intro H ls locs L f hP hD hk hS hl
  exact lv_icmp_le hx hb hd ht (fun h => kt h H ls locs L f hP hD hk hS hl) (fun h => kf h H ls locs L f hP hD hk hS hl)
theorem e_goto (hX : e_in cc own nm nL ret R l θ x) (hd : e_br cc pc (.goto off) off nx tgt) (kk : EJ θ x tgt lv st ph k n) : EJ θ x pc lv st ph k n := by
  obtain ⟨p, l', e, R', s, m, args, below, meth, c, Q, nL'⟩ := x
  obtain ⟨rfl, rfl, rfl, hx, hb, hml, hown, hts, hG, hb0, hlk, htr, hr, hnm⟩ := hX
  obtain ⟨hd, rfl, ht⟩ := hd
  intro H ls locs L f hP hD hk hS hl
  exact lv_goto hx hb hd ht (kk H ls locs L f hP hD hk hS hl)
end ER
end
section
theorem e_cin {ci : Nat} {C : String} {T : u_T} {N : Nat} (h : e_cl[ci]? = some (C, T, N)) : ∀ w ∈ u_ws C T N, w ∈ lw_good := by
  match ci, h with
  | 0, h => have h2 : some (RX11, TX11, 11) = some (C, T, N) := h; cases h2; exact e_ws in_TX11 (by decide +kernel)
  | 1, h => have h2 : some (RJx4a65c, TJx4a65c, 3) = some (C, T, N) := h; cases h2; exact e_ws in_TJx4a65c (by decide +kernel)
  | 2, h => have h2 : some (RX7, TX7, 2) = some (C, T, N) := h; cases h2; exact e_ws in_TX7 (by decide +kernel)
  | 3, h => have h2 : some (RX0, TX0, 3) = some (C, T, N) := h; cases h2; exact e_ws in_TX0 (by decide +kernel)
  | 4, h => have h2 : some (RX3, TX3, 2) = some (C, T, N) := h; cases h2; exact e_ws in_TX3 (by decide +kernel)
  | 5, h => have h2 : some (RX9, TX9, 2) = some (C, T, N) := h; cases h2; exact e_ws in_TX9 (by decide +kernel)
  | 6, h => have h2 : some (RX5, TX5, 4) = some (C, T, N) := h; cases h2; exact e_ws in_TX5 (by decide +kernel)
  | 7, h => have h2 : some (RX4, TX4, 5) = some (C, T, N) := h; cases h2; exact e_ws in_TX4 (by decide +kernel)
  | 8, h => have h2 : some (RX6, TX6, 3) = some (C, T, N) := h; cases h2; exact e_ws in_TX6 (by decide +kernel)
  | 9, h => have h2 : some (RX2, TX2, 4) = some (C, T, N) := h; cases h2; exact e_ws in_TX2 (by decide +kernel)
  | 10, h => have h2 : some (RX10, TX10, 3) = some (C, T, N) := h; cases h2; exact e_ws in_TX10 (by decide +kernel)
  | 11, h => have h2 : some (RX1, TX1, 4) = some (C, T, N) := h; cases h2; exact e_ws in_TX1 (by decide +kernel)
  | 12, h => have h2 : some (RX12, TX12, 26) = some (C, T, N) := h; cases h2; exact e_ws in_TX12 (by decide +kernel)
  | 13, h => have h2 : some ("java/lang/IllegalArgumentException", TE0, 0) = some (C, T, N) := h; cases h2; exact fun w hw => absurd hw (by unfold u_ws; exact List.not_mem_nil)
  | 14, h => have h2 : some ("java/lang/IllegalStateException", TE0, 0) = some (C, T, N) := h; cases h2; exact fun w hw => absurd hw (by unfold u_ws; exact List.not_mem_nil)
  | 15, h => have h2 : some ("java/lang/IndexOutOfBoundsException", TE0, 0) = some (C, T, N) := h; cases h2; exact fun w hw => absurd hw (by unfold u_ws; exact List.not_mem_nil)
  | 16, h => have h2 : some ("java/util/NoSuchElementException", TE0, 0) = some (C, T, N) := h; cases h2; exact fun w hw => absurd hw (by unfold u_ws; exact List.not_mem_nil)
  | 17, h => have h2 : some ("java/lang/UnsupportedOperationException", TE0, 0) = some (C, T, N) := h; cases h2; exact fun w hw => absurd hw (by unfold u_ws; exact List.not_mem_nil)
  | 18, h => have h2 : some ("java/lang/ArithmeticException", TE0, 0) = some (C, T, N) := h; cases h2; exact fun w hw => absurd hw (by unfold u_ws; exact List.not_mem_nil)
  | j + 19, h => exact absurd h (by simp [e_cl])
theorem e_cty {ci : Nat} {C : String} {T : u_T} {N : Nat} (h : e_cl[ci]? = some (C, T, N)) : (∃ ty : Nat → FieldType, ∀ k, k < N → parseFieldDescriptor (T k).2.2.1 = some (ty k)) ∧ ∀ a, a < N → ∀ b, b < N → a ≠ b → (T a).2.1 ≠ (T b).2.1 := by
  match ci, h with
  | 0, h => have h2 : some (RX11, TX11, 11) = some (C, T, N) := h; cases h2; exact ⟨⟨tyX11, tyX11_ok⟩, nmX11⟩
  | 1, h => have h2 : some (RJx4a65c, TJx4a65c, 3) = some (C, T, N) := h; cases h2; exact ⟨⟨tyJx4a65c, tyJx4a65c_ok⟩, nmJx4a65c⟩
  | 2, h => have h2 : some (RX7, TX7, 2) = some (C, T, N) := h; cases h2; exact ⟨⟨tyX7, tyX7_ok⟩, nmX7⟩
  | 3, h => have h2 : some (RX0, TX0, 3) = some (C, T, N) := h; cases h2; exact ⟨⟨tyX0, tyX0_ok⟩, nmX0⟩
  | 4, h => have h2 : some (RX3, TX3, 2) = some (C, T, N) := h; cases h2; exact ⟨⟨tyX3, tyX3_ok⟩, nmX3⟩
  | 5, h => have h2 : some (RX9, TX9, 2) = some (C, T, N) := h; cases h2; exact ⟨⟨tyX9, tyX9_ok⟩, nmX9⟩
  | 6, h => have h2 : some (RX5, TX5, 4) = some (C, T, N) := h; cases h2; exact ⟨⟨tyX5, tyX5_ok⟩, nmX5⟩
  | 7, h => have h2 : some (RX4, TX4, 5) = some (C, T, N) := h; cases h2; exact ⟨⟨tyX4, tyX4_ok⟩, nmX4⟩
  | 8, h => have h2 : some (RX6, TX6, 3) = some (C, T, N) := h; cases h2; exact ⟨⟨tyX6, tyX6_ok⟩, nmX6⟩
  | 9, h => have h2 : some (RX2, TX2, 4) = some (C, T, N) := h; cases h2; exact ⟨⟨tyX2, tyX2_ok⟩, nmX2⟩
  | 10, h => have h2 : some (RX10, TX10, 3) = some (C, T, N) := h; cases h2; exact ⟨⟨tyX10, tyX10_ok⟩, nmX10⟩
  | 11, h => have h2 : some (RX1, TX1, 4) = some (C, T, N) := h; cases h2; exact ⟨⟨tyX1, tyX1_ok⟩, nmX1⟩
  | 12, h => have h2 : some (RX12, TX12, 26) = some (C, T, N) := h; cases h2; exact ⟨⟨tyX12, tyX12_ok⟩, nmX12⟩
  | 13, h => have h2 : some ("java/lang/IllegalArgumentException", TE0, 0) = some (C, T, N) := h; cases h2; exact ⟨⟨fun _ => .int, fun k hk => absurd hk (Nat.not_lt_zero k)⟩, fun a ha => absurd ha (Nat.not_lt_zero a)⟩
  | 14, h => have h2 : some ("java/lang/IllegalStateException", TE0, 0) = some (C, T, N) := h; cases h2; exact ⟨⟨fun _ => .int, fun k hk => absurd hk (Nat.not_lt_zero k)⟩, fun a ha => absurd ha (Nat.not_lt_zero a)⟩
  | 15, h => have h2 : some ("java/lang/IndexOutOfBoundsException", TE0, 0) = some (C, T, N) := h; cases h2; exact ⟨⟨fun _ => .int, fun k hk => absurd hk (Nat.not_lt_zero k)⟩, fun a ha => absurd ha (Nat.not_lt_zero a)⟩
  | 16, h => have h2 : some ("java/util/NoSuchElementException", TE0, 0) = some (C, T, N) := h; cases h2; exact ⟨⟨fun _ => .int, fun k hk => absurd hk (Nat.not_lt_zero k)⟩, fun a ha => absurd ha (Nat.not_lt_zero a)⟩
  | 17, h => have h2 : some ("java/lang/UnsupportedOperationException", TE0, 0) = some (C, T, N) := h; cases h2; exact ⟨⟨fun _ => .int, fun k hk => absurd hk (Nat.not_lt_zero k)⟩, fun a ha => absurd ha (Nat.not_lt_zero a)⟩
  | 18, h => have h2 : some ("java/lang/ArithmeticException", TE0, 0) = some (C, T, N) := h; cases h2; exact ⟨⟨fun _ => .int, fun k hk => absurd hk (Nat.not_lt_zero k)⟩, fun a ha => absurd ha (Nat.not_lt_zero a)⟩
  | j + 19, h => exact absurd h (by simp [e_cl])
/-- the cells of arrays -/
def e_I (θ : e_T) (N : Nat) (f : Nat → Int32) : va_E := .inl (θ.2.1 0, N, .inl f)
def e_Z (θ : e_T) (N : Nat) (f : Nat → Int32) : va_E := .inl (θ.2.1 1, N, .inl f)
def e_L (θ : e_T) (N : Nat) (f : Nat → Int64) : va_E := .inl (θ.2.1 2, N, .inr (.inl f))
def e_D (θ : e_T) (N : Nat) (f : Nat → UInt64) : va_E := .inl (θ.2.1 3, N, .inr (.inr (.inr (.inl f))))
def e_R (θ : e_T) (N : Nat) (f : Nat → Option Nat) : va_E := .inl (θ.2.1 4, N, .inr (.inr (.inr (.inr f))))
def e_II (θ : e_T) (N : Nat) (f : Nat → Option Nat) : va_E := .inl (θ.2.1 5, N, .inr (.inr (.inr (.inr f))))
def e_O (ci : Nat) (fs : List Value) : va_E := .inr (ci, fs)
/-- a field's link: of one's own, of a nest mate, of a class above -/
def e_fl (own : String) (idx : Nat) (T : u_T) (kf : Nat) : Prop := e_w (.fieldLink own idx (T kf).1 (T kf).2.1 (T kf).2.2.1) ∨ (∃ host, e_n (.fieldLinkNest own idx (T kf).1 (T kf).2.1 (T kf).2.2.1 host)) ∨ (∃ ref, e_w (.fieldLink own idx ref (T kf).2.1 (T kf).2.2.1) ∧ e_w (.sameField ref (T kf).1 (T kf).2.1 (T kf).2.2.1))
def e_gf (cc : ByteArray) (own : String) (pc nx ci kf : Nat) : Prop := ∃ idx C T N, e_at cc pc (.getfield idx) 3 nx ∧ e_cl[ci]? = some (C, T, N) ∧ kf < N ∧ e_fl own idx T kf
def e_pf (cc : ByteArray) (own : String) (pc nx ci kf : Nat) (ty : FieldType) : Prop := ∃ idx C T N, e_at cc pc (.putfield idx) 3 nx ∧ e_cl[ci]? = some (C, T, N) ∧ kf < N ∧ e_fl own idx T kf ∧ parseFieldDescriptor (T kf).2.2.1 = some ty ∧ (T kf).2.2.2 = false
/-- a final field, in the constructor of its class -/
def e_pff (cc : ByteArray) (own : String) (pc nx ci kf : Nat) (ty : FieldType) : Prop := ∃ idx C T N, e_at cc pc (.putfield idx) 3 nx ∧ e_cl[ci]? = some (C, T, N) ∧ kf < N ∧ e_w (.fieldLink own idx (T kf).1 (T kf).2.1 (T kf).2.2.1) ∧ parseFieldDescriptor (T kf).2.2.1 = some ty ∧ (T kf).2.2.2 = true ∧ (T kf).1 = own
def e_new (cc : ByteArray) (own : String) (pc nx ci : Nat) (fs : List Value) : Prop := ∃ idx C T N, e_at cc pc (.new idx) 3 nx ∧ e_cl[ci]? = some (C, T, N) ∧ N = fs.length ∧ e_w (.classLink own idx C) ∧ e_w (.instantiable C N) ∧ e_w (.initialized C) ∧ ∀ j, j < N → (parseFieldDescriptor (T j).2.2.1).map defaultValue = some (vp_V fs j)
section EH
variable {θ : e_T} {x : e_X} {pc nx tgt : Nat} {lv : List (Nat × Value)} {st : List Value} {ph : e_PH} {k n : Nat} {cc : ByteArray} {own nm : String} {nL : Nat} {ret : Option FieldType} {R : Room} {l : Launch} {off : Int}
theorem e_get (hX : e_in cc own nm nL ret R l θ x) {ci kf a : Nat} {fs : List Value} {v : Value} (hd : e_gf cc own pc nx ci kf) (hp : ph a = some (e_O ci fs)) (hv : fs[kf]? = some v) (kk : EJ θ x nx lv (v :: st) ph k n) : EJ θ x pc lv (.ref a :: st) ph k n := by
  obtain ⟨p, l', e, R', s, m, args, below, meth, c, Q, nL'⟩ := x
  obtain ⟨rfl, rfl, rfl, hx, hb, hml, hown, hts, hG, hb0, hlk, htr, hr, hnm⟩ := hX
  obtain ⟨idx, C, T, N, ⟨hd, rfl⟩, hc, hkf, hw⟩ := hd
  intro H ls locs L f hP hD hk hS hl
  obtain ⟨q0, hq⟩ := hk.get hp
  rcases hw with hw | ⟨host, hw⟩ | ⟨ref, hw, hw2⟩
  · exact va_get hx hb hts (e_cin hc) hown hG.1 hP q0 hq hc kf hkf (hts _ hw) (fun _ h => h) hv hd (kk H ls locs L f hP hD hk hS hl)
  · exact va_getN (host := host) hx hb hts (e_cin hc) hown hG.1 hP q0 hq hc kf hkf (va_Nw.use rfl (hG.2.1 _ hw)) (fun _ h => h) hv hd (kk H ls locs L f hP hD hk hS hl)
  · exact va_get hx hb hts (e_cin hc) hown hG.1 hP q0 hq hc kf hkf (hts _ hw) (u_same (hts _ hw2)) hv hd (kk H ls locs L f hP hD hk hS hl)
theorem e_put (hX : e_in cc own nm nL ret R l θ x) {ci kf a : Nat} {fs fs' : List Value} {v : Value} {ty : FieldType} (hd : e_pf cc own pc nx ci kf ty) (hp : ph a = some (e_O ci fs)) (hs : fs.set kf v = fs') (hlen : kf < fs.length) (hn : narrow ty v = v) (hf : fits ty v = true) (kk : EJ θ x nx lv st (e_up ph a (e_O ci fs')) k n) : EJ θ x pc lv (v :: .ref a :: st) ph k n := by
  obtain ⟨p, l', e, R', s, m, args, below, meth, c, Q, nL'⟩ := x
  obtain ⟨rfl, rfl, rfl, hx, hb, hml, hown, hts, hG, hb0, hlk, htr, hr, hnm⟩ := hX
  obtain ⟨idx, C, T, N, ⟨hd, rfl⟩, hc, hkf, hw, hty, hfin⟩ := hd
  subst hs
  intro H ls locs L f hP hD hk hS hl
  obtain ⟨q0, hq⟩ := hk.get hp
  obtain ⟨⟨ty0, hty0⟩, hnn⟩ := e_cty hc
  rcases hw with hw | ⟨host, hw⟩ | ⟨ref, hw, hw2⟩
  · refine va_put hx hb hts (e_cin hc) ty0 hty0 hnn hown hG.1 hP hD hS q0 hq hc kf hkf (hts _ hw) (fun _ h => h) hfin hty hn hf hlen hd (fun H1 locs1 hP1 hD1 hS1 => ?_)
    rw [e_set hD hq (hk.mem hp).1 (hk.mem hp).2] at hP1 hD1
    exact kk H1 ls locs1 L _ hP1 hD1 (hk.set hp) hS1 hl
  · refine va_putN (host := host) hx hb hts (e_cin hc) ty0 hty0 hnn hown hG.1 hP hD hS q0 hq hc kf hkf (va_Nw.use rfl (hG.2.1 _ hw)) (fun _ h => h) hfin hty hn hf hlen hd (fun H1 locs1 hP1 hD1 hS1 => ?_)
    rw [e_set hD hq (hk.mem hp).1 (hk.mem hp).2] at hP1 hD1
    exact kk H1 ls locs1 L _ hP1 hD1 (hk.set hp) hS1 hl
  · refine va_put hx hb hts (e_cin hc) ty0 hty0 hnn hown hG.1 hP hD hS q0 hq hc kf hkf (hts _ hw) (u_same (hts _ hw2)) hfin hty hn hf hlen hd (fun H1 locs1 hP1 hD1 hS1 => ?_)
    rw [e_set hD hq (hk.mem hp).1 (hk.mem hp).2] at hP1 hD1
    exact kk H1 ls locs1 L _ hP1 hD1 (hk.set hp) hS1 hl
theorem e_putF (hX : e_in cc own nm nL ret R l θ x) {ci kf a : Nat} {fs fs' : List Value} {v : Value} {ty : FieldType} (hi : nm = "<init>") (hd : e_pff cc own pc nx ci kf ty) (hp : ph a = some (e_O ci fs)) (hs : fs.set kf v = fs') (hlen : kf < fs.length) (hn : narrow ty v = v) (hf : fits ty v = true) (kk : EJ θ x nx lv st (e_up ph a (e_O ci fs')) k n) : EJ θ x pc lv (v :: .ref a :: st) ph k n := by
  obtain ⟨p, l', e, R', s, m, args, below, meth, c, Q, nL'⟩ := x
  obtain ⟨rfl, rfl, rfl, hx, hb, hml, hown, hts, hG, hb0, hlk, htr, hr, hnm⟩ := hX
  obtain ⟨idx, C, T, N, ⟨hd, rfl⟩, hc, hkf, hw, hty, hfin, hdecl⟩ := hd
  subst hs
  intro H ls locs L f hP hD hk hS hl
  obtain ⟨q0, hq⟩ := hk.get hp
  obtain ⟨⟨ty0, hty0⟩, hnn⟩ := e_cty hc
  refine va_putF hx hb hts (e_cin hc) ty0 hty0 hnn hown hG.1 hP hD hS q0 hq hc kf hkf (hts _ hw) (fun _ h => h) hfin (hnm.trans hi) hdecl hty hn hf hlen hd (fun H1 locs1 hP1 hD1 hS1 => ?_)
  rw [e_set hD hq (hk.mem hp).1 (hk.mem hp).2] at hP1 hD1
  exact kk H1 ls locs1 L _ hP1 hD1 (hk.set hp) hS1 hl
theorem e_newo (hX : e_in cc own nm nL ret R l θ x) {ci : Nat} {fs : List Value} (hd : e_new cc own pc nx ci fs) (hR1 : k + 1 ≤ R.cells) (hR2 : n + fs.length ≤ R.slots) (kk : ∀ q : Nat, ph q = none → EJ θ x nx lv (.ref q :: st) (e_up ph q (e_O ci fs)) (k + 1) (n + fs.length)) : EJ θ x pc lv st ph k n := by
  obtain ⟨p, l', e, R', s, m, args, below, meth, c, Q, nL'⟩ := x
  obtain ⟨rfl, rfl, rfl, hx, hb, hml, hown, hts, hG, hb0, hlk, htr, hr, hnm⟩ := hX
  obtain ⟨idx, C, T, N, ⟨hd, rfl⟩, hc, rfl, hw1, hw2, hw3, hdef⟩ := hd
  intro H ls locs L f hP hD hk hS hl
  obtain ⟨⟨ty0, hty0⟩, hnn⟩ := e_cty hc
  refine va_new hx hb hts (e_cin hc) ty0 hty0 hown (hts _ hw1) (hts _ hw2) (hts _ hw3) hG.1 hP hD hS (fun q h => Nat.le_trans hb0 h) hc (fs := fs) (fun j hj => by have h1 := hdef j hj; rw [hty0 j hj] at h1; exact Option.some.inj h1) hR1 hR2 hd (fun q H1 hP1 hD1 hS1 => ?_)
  have hq : q ∉ L := va_pl_fresh2 (X := []) (f := f) (by simpa using hD1)
  rw [va_pl_push hq] at hP1 hD1
  exact kk q (hk.none hq) H1 ls locs _ _ hP1 hD1 (hk.push hq) hS1 hl
theorem e_iald (hX : e_in cc own nm nL ret R l θ x) {a N : Nat} {f0 : Nat → Int32} {i : Int32} (j : Nat) (hd : e_at cc pc .iaload 1 nx) (hp : ph a = some (e_I θ N f0)) (hi : i = nI j) (hj : j < N) (hN : N < 2 ^ 31) (kk : EJ θ x nx lv (.int (f0 j) :: st) ph k n) : EJ θ x pc lv (.int i :: .ref a :: st) ph k n := by
  obtain ⟨p, l', e, R', s, m, args, below, meth, c, Q, nL'⟩ := x
  obtain ⟨rfl, rfl, rfl, hx, hb, hml, hown, hts, hG, hb0, hlk, htr, hr, hnm⟩ := hX
  obtain ⟨hd, rfl⟩ := hd
  subst hi
  intro H ls locs L f hP hD hk hS hl
  obtain ⟨q0, hq⟩ := hk.get hp
  refine va_iald hx hb hG.1 hP q0 0 hq rfl (vp_in_nI hj hN) hd ?_
  rw [nI_clamp (Nat.lt_trans hj hN)]
  exact (kk H ls locs L f hP hD hk hS hl)
theorem e_zald (hX : e_in cc own nm nL ret R l θ x) {a N : Nat} {f0 : Nat → Int32} {i : Int32} (j : Nat) (hd : e_at cc pc .baload 1 nx) (hp : ph a = some (e_Z θ N f0)) (hi : i = nI j) (hj : j < N) (hN : N < 2 ^ 31) (kk : EJ θ x nx lv (.int (f0 j) :: st) ph k n) : EJ θ x pc lv (.int i :: .ref a :: st) ph k n := by
  obtain ⟨p, l', e, R', s, m, args, below, meth, c, Q, nL'⟩ := x
  obtain ⟨rfl, rfl, rfl, hx, hb, hml, hown, hts, hG, hb0, hlk, htr, hr, hnm⟩ := hX
  obtain ⟨hd, rfl⟩ := hd
  subst hi
  intro H ls locs L f hP hD hk hS hl
  obtain ⟨q0, hq⟩ := hk.get hp
  refine va_zald hx hb hG.1 hP q0 1 hq rfl (vp_in_nI hj hN) hd ?_
  rw [nI_clamp (Nat.lt_trans hj hN)]
  exact (kk H ls locs L f hP hD hk hS hl)
theorem e_lald (hX : e_in cc own nm nL ret R l θ x) {a N : Nat} {f0 : Nat → Int64} {i : Int32} (j : Nat) (hd : e_at cc pc .laload 1 nx) (hp : ph a = some (e_L θ N f0)) (hi : i = nI j) (hj : j < N) (hN : N < 2 ^ 31) (kk : EJ θ x nx lv (.long (f0 j) :: st) ph k n) : EJ θ x pc lv (.int i :: .ref a :: st) ph k n := by
  obtain ⟨p, l', e, R', s, m, args, below, meth, c, Q, nL'⟩ := x
  obtain ⟨rfl, rfl, rfl, hx, hb, hml, hown, hts, hG, hb0, hlk, htr, hr, hnm⟩ := hX
  obtain ⟨hd, rfl⟩ := hd
  subst hi
  intro H ls locs L f hP hD hk hS hl
  obtain ⟨q0, hq⟩ := hk.get hp
  refine va_lald hx hb hG.1 hP q0 2 hq rfl (vp_in_nI hj hN) hd ?_
  rw [nI_clamp (Nat.lt_trans hj hN)]
  exact (kk H ls locs L f hP hD hk hS hl)
theorem e_dald (hX : e_in cc own nm nL ret R l θ x) {a N : Nat} {f0 : Nat → UInt64} {i : Int32} (j : Nat) (hd : e_at cc pc .daload 1 nx) (hp : ph a = some (e_D θ N f0)) (hi : i = nI j) (hj : j < N) (hN : N < 2 ^ 31) (kk : EJ θ x nx lv (.double (f0 j) :: st) ph k n) : EJ θ x pc lv (.int i :: .ref a :: st) ph k n := by
  obtain ⟨p, l', e, R', s, m, args, below, meth, c, Q, nL'⟩ := x
  obtain ⟨rfl, rfl, rfl, hx, hb, hml, hown, hts, hG, hb0, hlk, htr, hr, hnm⟩ := hX
  obtain ⟨hd, rfl⟩ := hd
  subst hi
  intro H ls locs L f hP hD hk hS hl
  obtain ⟨q0, hq⟩ := hk.get hp
  refine va_dald hx hb hG.1 hP q0 3 hq rfl (vp_in_nI hj hN) hd ?_
  rw [nI_clamp (Nat.lt_trans hj hN)]
  exact (kk H ls locs L f hP hD hk hS hl)
theorem e_iast (hX : e_in cc own nm nL ret R l θ x) {a N : Nat} {f0 : Nat → Int32} {i : Int32} {v : Int32} (j : Nat) (hd : e_at cc pc .iastore 1 nx) (hp : ph a = some (e_I θ N f0)) (hi : i = nI j) (hj : j < N) (hN : N < 2 ^ 31) (kk : EJ θ x nx lv st (e_up ph a (e_I θ N (upd f0 j v))) k n) : EJ θ x pc lv (.int v :: .int i :: .ref a :: st) ph k n := by
  obtain ⟨p, l', e, R', s, m, args, below, meth, c, Q, nL'⟩ := x
  obtain ⟨rfl, rfl, rfl, hx, hb, hml, hown, hts, hG, hb0, hlk, htr, hr, hnm⟩ := hX
  obtain ⟨hd, rfl⟩ := hd
  subst hi
  intro H ls locs L f hP hD hk hS hl
  obtain ⟨q0, hq⟩ := hk.get hp
  refine va_iast hx hb hG.1 hP hD hS q0 0 hq rfl (vp_in_nI hj hN) hd (fun H1 locs1 hP1 hD1 hS1 => ?_)
  rw [nI_clamp (Nat.lt_trans hj hN)] at hP1 hD1
  rw [e_set hD hq (hk.mem hp).1 (hk.mem hp).2] at hP1 hD1
  exact kk H1 ls locs1 L _ hP1 hD1 (hk.set hp) hS1 hl
theorem e_zast (hX : e_in cc own nm nL ret R l θ x) {a N : Nat} {f0 : Nat → Int32} {i : Int32} {v : Int32} (j : Nat) (hd : e_at cc pc .bastore 1 nx) (hp : ph a = some (e_Z θ N f0)) (hi : i = nI j) (hj : j < N) (hN : N < 2 ^ 31) (kk : EJ θ x nx lv st (e_up ph a (e_Z θ N (upd f0 j (vp_nar .boolean v)))) k n) : EJ θ x pc lv (.int v :: .int i :: .ref a :: st) ph k n := by
  obtain ⟨p, l', e, R', s, m, args, below, meth, c, Q, nL'⟩ := x
  obtain ⟨rfl, rfl, rfl, hx, hb, hml, hown, hts, hG, hb0, hlk, htr, hr, hnm⟩ := hX
  obtain ⟨hd, rfl⟩ := hd
  subst hi
  intro H ls locs L f hP hD hk hS hl
  obtain ⟨q0, hq⟩ := hk.get hp
  refine va_zast hx hb hG.1 hP hD hS q0 1 hq rfl (vp_in_nI hj hN) hd (fun H1 locs1 hP1 hD1 hS1 => ?_)
  rw [nI_clamp (Nat.lt_trans hj hN)] at hP1 hD1
  rw [e_set hD hq (hk.mem hp).1 (hk.mem hp).2] at hP1 hD1
  exact kk H1 ls locs1 L _ hP1 hD1 (hk.set hp) hS1 hl
theorem e_last (hX : e_in cc own nm nL ret R l θ x) {a N : Nat} {f0 : Nat → Int64} {i : Int32} {v : Int64} (j : Nat) (hd : e_at cc pc .lastore 1 nx) (hp : ph a = some (e_L θ N f0)) (hi : i = nI j) (hj : j < N) (hN : N < 2 ^ 31) (kk : EJ θ x nx lv st (e_up ph a (e_L θ N (vp_updL f0 j v))) k n) : EJ θ x pc lv (.long v :: .int i :: .ref a :: st) ph k n := by
  obtain ⟨p, l', e, R', s, m, args, below, meth, c, Q, nL'⟩ := x
  obtain ⟨rfl, rfl, rfl, hx, hb, hml, hown, hts, hG, hb0, hlk, htr, hr, hnm⟩ := hX
  obtain ⟨hd, rfl⟩ := hd
  subst hi
  intro H ls locs L f hP hD hk hS hl
  obtain ⟨q0, hq⟩ := hk.get hp
  refine va_last hx hb hG.1 hP hD hS q0 2 hq rfl (vp_in_nI hj hN) hd (fun H1 locs1 hP1 hD1 hS1 => ?_)
  rw [nI_clamp (Nat.lt_trans hj hN)] at hP1 hD1
  rw [e_set hD hq (hk.mem hp).1 (hk.mem hp).2] at hP1 hD1
  exact kk H1 ls locs1 L _ hP1 hD1 (hk.set hp) hS1 hl
theorem e_dast (hX : e_in cc own nm nL ret R l θ x) {a N : Nat} {f0 : Nat → UInt64} {i : Int32} {v : UInt64} (j : Nat) (hd : e_at cc pc .dastore 1 nx) (hp : ph a = some (e_D θ N f0)) (hi : i = nI j) (hj : j < N) (hN : N < 2 ^ 31) (kk : EJ θ x nx lv st (e_up ph a (e_D θ N (vf_upd f0 j v))) k n) : EJ θ x pc lv (.double v :: .int i :: .ref a :: st) ph k n := by
  obtain ⟨p, l', e, R', s, m, args, below, meth, c, Q, nL'⟩ := x
  obtain ⟨rfl, rfl, rfl, hx, hb, hml, hown, hts, hG, hb0, hlk, htr, hr, hnm⟩ := hX
  obtain ⟨hd, rfl⟩ := hd
  subst hi
  intro H ls locs L f hP hD hk hS hl
  obtain ⟨q0, hq⟩ := hk.get hp
  refine va_dast hx hb hG.1 hP hD hS q0 3 hq rfl (vp_in_nI hj hN) hd (fun H1 locs1 hP1 hD1 hS1 => ?_)
  rw [nI_clamp (Nat.lt_trans hj hN)] at hP1 hD1
  rw [e_set hD hq (hk.mem hp).1 (hk.mem hp).2] at hP1 hD1
  exact kk H1 ls locs1 L _ hP1 hD1 (hk.set hp) hS1 hl
theorem e_aald (hX : e_in cc own nm nL ret R l θ x) {a N y : Nat} {f0 : Nat → Option Nat} {i : Int32} (j : Nat) (hd : e_at cc pc .aaload 1 nx) (hp : ph a = some (e_R θ N f0)) (hi : i = nI j) (hj : j < N) (hN : N < 2 ^ 31) (hy : f0 j = some y) (kk : EJ θ x nx lv (.ref y :: st) ph k n) : EJ θ x pc lv (.int i :: .ref a :: st) ph k n := by
  obtain ⟨p, l', e, R', s, m, args, below, meth, c, Q, nL'⟩ := x
  obtain ⟨rfl, rfl, rfl, hx, hb, hml, hown, hts, hG, hb0, hlk, htr, hr, hnm⟩ := hX
  obtain ⟨hd, rfl⟩ := hd
  subst hi
  intro H ls locs L f hP hD hk hS hl
  obtain ⟨q0, hq⟩ := hk.get hp
  refine va_aldq hx hb hG.1 hP q0 4 hq rfl (vp_in_nI hj hN) hd ?_
  rw [nI_clamp (Nat.lt_trans hj hN), hy]
  exact (kk H ls locs L f hP hD hk hS hl)
theorem e_aald2 (hX : e_in cc own nm nL ret R l θ x) {a N y : Nat} {f0 : Nat → Option Nat} {i : Int32} (j : Nat) (hd : e_at cc pc .aaload 1 nx) (hp : ph a = some (e_II θ N f0)) (hi : i = nI j) (hj : j < N) (hN : N < 2 ^ 31) (hy : f0 j = some y) (kk : EJ θ x nx lv (.ref y :: st) ph k n) : EJ θ x pc lv (.int i :: .ref a :: st) ph k n := by
  obtain ⟨p, l', e, R', s, m, args, below, meth, c, Q, nL'⟩ := x
  obtain ⟨rfl, rfl, rfl, hx, hb, hml, hown, hts, hG, hb0, hlk, htr, hr, hnm⟩ := hX
  obtain ⟨hd, rfl⟩ := hd
  subst hi
  intro H ls locs L f hP hD hk hS hl
  obtain ⟨q0, hq⟩ := hk.get hp
  have hc : (nI j).toNatClampNeg = j := nI_clamp (Nat.lt_trans hj hN)
  refine W.aald (v := .ref y) (ty := .array .int) hx hb (hP q0 _ hq) ((hG.1.2 5 _ rfl).1 N (fun j => va_rf (f0 j))) rfl (fun q => by cases q) (by show ¬ (nI j < 0 ∨ (arrV _ _ _).slots.size ≤ _); rw [arrV_size]; exact vp_in_nI hj hN) (by show (arrV _ _ _).slots[_]? = _; rw [hc, arrV_read _ _ hj, hy]; rfl) rfl rfl hd (kk H ls locs L f hP hD hk hS hl)
theorem e_aast (hX : e_in cc own nm nL ret R l θ x) {a N y ci : Nat} {f0 : Nat → Option Nat} {fs : List Value} {r : vw_C} {i : Int32} (j : Nat) (hd : e_at cc pc .aastore 1 nx) (hp : ph a = some (e_R θ N f0)) (hi : i = nI j) (hj : j < N) (hN : N < 2 ^ 31) (hy : ph y = some (e_O ci fs)) (hc : e_cl[ci]? = some r) (hw : e_n (.castable r.1 "java/lang/Object")) (kk : EJ θ x nx lv st (e_up ph a (e_R θ N (va_up f0 j (some y)))) k n) : EJ θ x pc lv (.ref y :: .int i :: .ref a :: st) ph k n := by
  obtain ⟨p, l', e, R', s, m, args, below, meth, c, Q, nL'⟩ := x
  obtain ⟨rfl, rfl, rfl, hx, hb, hml, hown, hts, hG, hb0, hlk, htr, hr, hnm⟩ := hX
  obtain ⟨hd, rfl⟩ := hd
  subst hi
  intro H ls locs L f hP hD hk hS hl
  obtain ⟨q0, hq⟩ := hk.get hp
  obtain ⟨q1, hq1⟩ := hk.get hy
  refine va_astqO hx hb hG.1 hP hD hS q0 4 q1 ci hq rfl (hG.2.1 _ hw) hq1 hc (vp_in_nI hj hN) hd (fun H1 locs1 hP1 hD1 hS1 => ?_)
  rw [nI_clamp (Nat.lt_trans hj hN)] at hP1 hD1
  rw [e_set hD hq (hk.mem hp).1 (hk.mem hp).2] at hP1 hD1
  exact kk H1 ls locs1 L _ hP1 hD1 (hk.set hp) hS1 hl
theorem e_aastN (hX : e_in cc own nm nL ret R l θ x) {a N : Nat} {f0 : Nat → Option Nat} {i : Int32} (j : Nat) (hd : e_at cc pc .aastore 1 nx) (hp : ph a = some (e_R θ N f0)) (hi : i = nI j) (hj : j < N) (hN : N < 2 ^ 31) (kk : EJ θ x nx lv st (e_up ph a (e_R θ N (va_up f0 j none))) k n) : EJ θ x pc lv (.null :: .int i :: .ref a :: st) ph k n := by
  obtain ⟨p, l', e, R', s, m, args, below, meth, c, Q, nL'⟩ := x
  obtain ⟨rfl, rfl, rfl, hx, hb, hml, hown, hts, hG, hb0, hlk, htr, hr, hnm⟩ := hX
  obtain ⟨hd, rfl⟩ := hd
  subst hi
  intro H ls locs L f hP hD hk hS hl
  obtain ⟨q0, hq⟩ := hk.get hp
  refine va_astqN hx hb hG.1 hP hD hS q0 4 hq rfl (vp_in_nI hj hN) hd (fun H1 locs1 hP1 hD1 hS1 => ?_)
  rw [nI_clamp (Nat.lt_trans hj hN)] at hP1 hD1
  rw [e_set hD hq (hk.mem hp).1 (hk.mem hp).2] at hP1 hD1
  exact kk H1 ls locs1 L _ hP1 hD1 (hk.set hp) hS1 hl
theorem e_lenI (hX : e_in cc own nm nL ret R l θ x) {a N : Nat} {f0 : Nat → Int32} (hd : e_at cc pc .arraylength 1 nx) (hp : ph a = some (e_I θ N f0)) (kk : EJ θ x nx lv (.int (nI N) :: st) ph k n) : EJ θ x pc lv (.ref a :: st) ph k n := by
  obtain ⟨p, l', e, R', s, m, args, below, meth, c, Q, nL'⟩ := x
  obtain ⟨rfl, rfl, rfl, hx, hb, hml, hown, hts, hG, hb0, hlk, htr, hr, hnm⟩ := hX
  obtain ⟨hd, rfl⟩ := hd
  intro H ls locs L f hP hD hk hS hl
  obtain ⟨q0, hq⟩ := hk.get hp
  exact va_alen hx hb hG.1 hP q0 0 hq (ty := .int) rfl rfl hd (kk H ls locs L f hP hD hk hS hl)
theorem e_lenZ (hX : e_in cc own nm nL ret R l θ x) {a N : Nat} {f0 : Nat → Int32} (hd : e_at cc pc .arraylength 1 nx) (hp : ph a = some (e_Z θ N f0)) (kk : EJ θ x nx lv (.int (nI N) :: st) ph k n) : EJ θ x pc lv (.ref a :: st) ph k n := by
  obtain ⟨p, l', e, R', s, m, args, below, meth, c, Q, nL'⟩ := x
  obtain ⟨rfl, rfl, rfl, hx, hb, hml, hown, hts, hG, hb0, hlk, htr, hr, hnm⟩ := hX
  obtain ⟨hd, rfl⟩ := hd
  intro H ls locs L f hP hD hk hS hl
  obtain ⟨q0, hq⟩ := hk.get hp
  exact va_alen hx hb hG.1 hP q0 1 hq (ty := .boolean) rfl rfl hd (kk H ls locs L f hP hD hk hS hl)
theorem e_lenL (hX : e_in cc own nm nL ret R l θ x) {a N : Nat} {f0 : Nat → Int64} (hd : e_at cc pc .arraylength 1 nx) (hp : ph a = some (e_L θ N f0)) (kk : EJ θ x nx lv (.int (nI N) :: st) ph k n) : EJ θ x pc lv (.ref a :: st) ph k n := by
  obtain ⟨p, l', e, R', s, m, args, below, meth, c, Q, nL'⟩ := x
  obtain ⟨rfl, rfl, rfl, hx, hb, hml, hown, hts, hG, hb0, hlk, htr, hr, hnm⟩ := hX
  obtain ⟨hd, rfl⟩ := hd
  intro H ls locs L f hP hD hk hS hl
  obtain ⟨q0, hq⟩ := hk.get hp
  exact va_alen hx hb hG.1 hP q0 2 hq (ty := .long) rfl rfl hd (kk H ls locs L f hP hD hk hS hl)
theorem e_lenD (hX : e_in cc own nm nL ret R l θ x) {a N : Nat} {f0 : Nat → UInt64} (hd : e_at cc pc .arraylength 1 nx) (hp : ph a = some (e_D θ N f0)) (kk : EJ θ x nx lv (.int (nI N) :: st) ph k n) : EJ θ x pc lv (.ref a :: st) ph k n := by
  obtain ⟨p, l', e, R', s, m, args, below, meth, c, Q, nL'⟩ := x
  obtain ⟨rfl, rfl, rfl, hx, hb, hml, hown, hts, hG, hb0, hlk, htr, hr, hnm⟩ := hX
  obtain ⟨hd, rfl⟩ := hd
  intro H ls locs L f hP hD hk hS hl
  obtain ⟨q0, hq⟩ := hk.get hp
  exact va_alen hx hb hG.1 hP q0 3 hq (ty := .double) rfl rfl hd (kk H ls locs L f hP hD hk hS hl)
theorem e_lenR (hX : e_in cc own nm nL ret R l θ x) {a N : Nat} {f0 : Nat → Option Nat} (hd : e_at cc pc .arraylength 1 nx) (hp : ph a = some (e_R θ N f0)) (kk : EJ θ x nx lv (.int (nI N) :: st) ph k n) : EJ θ x pc lv (.ref a :: st) ph k n := by
  obtain ⟨p, l', e, R', s, m, args, below, meth, c, Q, nL'⟩ := x
  obtain ⟨rfl, rfl, rfl, hx, hb, hml, hown, hts, hG, hb0, hlk, htr, hr, hnm⟩ := hX
  obtain ⟨hd, rfl⟩ := hd
  intro H ls locs L f hP hD hk hS hl
  obtain ⟨q0, hq⟩ := hk.get hp
  exact va_alen hx hb hG.1 hP q0 4 hq (ty := .object "java/lang/Object") rfl rfl hd (kk H ls locs L f hP hD hk hS hl)
theorem e_lenII (hX : e_in cc own nm nL ret R l θ x) {a N : Nat} {f0 : Nat → Option Nat} (hd : e_at cc pc .arraylength 1 nx) (hp : ph a = some (e_II θ N f0)) (kk : EJ θ x nx lv (.int (nI N) :: st) ph k n) : EJ θ x pc lv (.ref a :: st) ph k n := by
  obtain ⟨p, l', e, R', s, m, args, below, meth, c, Q, nL'⟩ := x
  obtain ⟨rfl, rfl, rfl, hx, hb, hml, hown, hts, hG, hb0, hlk, htr, hr, hnm⟩ := hX
  obtain ⟨hd, rfl⟩ := hd
  intro H ls locs L f hP hD hk hS hl
  obtain ⟨q0, hq⟩ := hk.get hp
  exact va_alen hx hb hG.1 hP q0 5 hq (ty := .array .int) rfl rfl hd (kk H ls locs L f hP hD hk hS hl)
/-- the length of ArrayList's empty row -/
theorem e_len0 (hX : e_in cc own nm nL ret R l θ x) (hd : e_at cc pc .arraylength 1 nx) (kk : EJ θ x nx lv (.int 0 :: st) ph k n) : EJ θ x pc lv (.ref θ.2.2.2.2 :: st) ph k n := by
  obtain ⟨p, l', e, R', s, m, args, below, meth, c, Q, nL'⟩ := x
  obtain ⟨rfl, rfl, rfl, hx, hb, hml, hown, hts, hG, hb0, hlk, htr, hr, hnm⟩ := hX
  obtain ⟨hd, rfl⟩ := hd
  intro H ls locs L f hP hD hk hS hl
  exact va_tlen hx hb hG.2.2.2.2.2.1 hS (v := 0) rfl hd (kk H ls locs L f hP hD hk hS hl)
theorem e_gets (hX : e_in cc own nm nL ret R l θ x) {idx : Nat} (hd : e_at cc pc (.getstatic idx) 3 nx) (hw : e_w (.fieldLink own idx "java/util/ArrayList" "DEFAULTCAPACITY_EMPTY_ELEMENTDATA" "[Ljava/lang/Object;")) (kk : EJ θ x nx lv (.ref θ.2.2.2.2 :: st) ph k n) : EJ θ x pc lv st ph k n := by
  obtain ⟨p, l', e, R', s, m, args, below, meth, c, Q, nL'⟩ := x
  obtain ⟨rfl, rfl, rfl, hx, hb, hml, hown, hts, hG, hb0, hlk, htr, hr, hnm⟩ := hX
  obtain ⟨hd, rfl⟩ := hd
  intro H ls locs L f hP hD hk hS hl
  exact va_gets hx hb hG.2.2.2.2.1 hS hown (hts _ hw) (fun _ h => h) hd (kk H ls locs L f hP hD hk hS hl)
theorem e_cast (hX : e_in cc own nm nL ret R l θ x) {a idx ci : Nat} {fs : List Value} {r : vw_C} {nm2 : String} (hd : e_at cc pc (.checkcast idx) 3 nx) (hw : e_w (.classLink own idx nm2)) (hp : ph a = some (e_O ci fs)) (hc : e_cl[ci]? = some r) (hn : e_n (.castable r.1 nm2)) (kk : EJ θ x nx lv (.ref a :: st) ph k n) : EJ θ x pc lv (.ref a :: st) ph k n := by
  obtain ⟨p, l', e, R', s, m, args, below, meth, c, Q, nL'⟩ := x
  obtain ⟨rfl, rfl, rfl, hx, hb, hml, hown, hts, hG, hb0, hlk, htr, hr, hnm⟩ := hX
  obtain ⟨hd, rfl⟩ := hd
  intro H ls locs L f hP hD hk hS hl
  obtain ⟨q0, hq⟩ := hk.get hp
  exact va_castY (C := r.1) hx hb hown (hts _ hw) (hG.2.1 _ hn) (va_recv hG.1 hP hc hq) hd (kk H ls locs L f hP hD hk hS hl)
/-- the class of an array is the one that stands in the tables -/
theorem e_newa_ty {cA : ClassId} {ty : FieldType} {i : Nat} {U : State} (hK : va_K θ.1 e_cl (e_tys θ ++ [(cA, ty)]) U) (hi : (e_tys θ)[i]? = some (θ.2.1 i, ty)) (ht : ∀ C, ty ≠ .object C) : cA = θ.2.1 i := by
  have h1 := (hK.2 6 (cA, ty) rfl).2
  have hl : i < (e_tys θ).length := (List.getElem?_eq_some_iff.mp hi).1
  have h2 := (hK.2 i (θ.2.1 i, ty) (by rw [List.getElem?_append_left hl]; exact hi)).2
  cases ty <;> first | exact absurd rfl (ht _) | (exact Option.some.inj (h1.symm.trans h2))
theorem e_newI (hX : e_in cc own nm nL ret R l θ x) {i : Int32} (N : Nat) (hd : e_at cc pc (.newarray .int) 2 nx) (hw : e_w (.arrayClass .int)) (hi : i = nI N) (hN : N < 60000) (hR1 : k + 1 ≤ R.cells) (hR2 : n + N ≤ R.slots) (kk : ∀ q : Nat, ph q = none → EJ θ x nx lv (.ref q :: st) (e_up ph q (e_I θ N (fun _ => 0))) (k + 1) (n + N)) : EJ θ x pc lv (.int i :: st) ph k n := by
  obtain ⟨p, l', e, R', s, m, args, below, meth, c, Q, nL'⟩ := x
  obtain ⟨rfl, rfl, rfl, hx, hb, hml, hown, hts, hG, hb0, hlk, htr, hr, hnm⟩ := hX
  obtain ⟨hd, rfl⟩ := hd
  subst hi
  intro H ls locs L f hP hD hk hS hl
  refine va_newa (atype := .int) hx hb (hts _ hw) (ty := .int) rfl hG.1 hP hD hS (fun q h => Nat.le_trans hb0 h) (N' := N) (a0 := (N, .inl (fun _ => 0))) (fun cA => rfl) (nI_pos (by omega)) (nI_clamp (by omega)) (by show N * _ ≤ _; simp only [componentBytes]; omega) hR1 hR2 hd (fun q cA H1 hK1 hP1 hD1 hS1 => ?_)
  obtain rfl := e_newa_ty (i := 0) hK1 rfl (fun C h => by cases h)
  have hq : q ∉ L := va_pl_fresh2 (X := []) (f := f) (by simpa using hD1)
  rw [va_pl_push hq] at hP1 hD1
  exact kk q (hk.none hq) H1 ls locs _ _ hP1 hD1 (hk.push hq) hS1 hl
theorem e_newZ (hX : e_in cc own nm nL ret R l θ x) {i : Int32} (N : Nat) (hd : e_at cc pc (.newarray .boolean) 2 nx) (hw : e_w (.arrayClass .boolean)) (hi : i = nI N) (hN : N < 60000) (hR1 : k + 1 ≤ R.cells) (hR2 : n + N ≤ R.slots) (kk : ∀ q : Nat, ph q = none → EJ θ x nx lv (.ref q :: st) (e_up ph q (e_Z θ N (fun _ => 0))) (k + 1) (n + N)) : EJ θ x pc lv (.int i :: st) ph k n := by
  obtain ⟨p, l', e, R', s, m, args, below, meth, c, Q, nL'⟩ := x
  obtain ⟨rfl, rfl, rfl, hx, hb, hml, hown, hts, hG, hb0, hlk, htr, hr, hnm⟩ := hX
  obtain ⟨hd, rfl⟩ := hd
  subst hi
  intro H ls locs L f hP hD hk hS hl
  refine va_newa (atype := .boolean) hx hb (hts _ hw) (ty := .boolean) rfl hG.1 hP hD hS (fun q h => Nat.le_trans hb0 h) (N' := N) (a0 := (N, .inl (fun _ => 0))) (fun cA => rfl) (nI_pos (by omega)) (nI_clamp (by omega)) (by show N * _ ≤ _; simp only [componentBytes]; omega) hR1 hR2 hd (fun q cA H1 hK1 hP1 hD1 hS1 => ?_)
  obtain rfl := e_newa_ty (i := 1) hK1 rfl (fun C h => by cases h)
  have hq : q ∉ L := va_pl_fresh2 (X := []) (f := f) (by simpa using hD1)
  rw [va_pl_push hq] at hP1 hD1
  exact kk q (hk.none hq) H1 ls locs _ _ hP1 hD1 (hk.push hq) hS1 hl
theorem e_newL (hX : e_in cc own nm nL ret R l θ x) {i : Int32} (N : Nat) (hd : e_at cc pc (.newarray .long) 2 nx) (hw : e_w (.arrayClass .long)) (hi : i = nI N) (hN : N < 60000) (hR1 : k + 1 ≤ R.cells) (hR2 : n + N ≤ R.slots) (kk : ∀ q : Nat, ph q = none → EJ θ x nx lv (.ref q :: st) (e_up ph q (e_L θ N (fun _ => 0))) (k + 1) (n + N)) : EJ θ x pc lv (.int i :: st) ph k n := by
  obtain ⟨p, l', e, R', s, m, args, below, meth, c, Q, nL'⟩ := x
  obtain ⟨rfl, rfl, rfl, hx, hb, hml, hown, hts, hG, hb0, hlk, htr, hr, hnm⟩ := hX
  obtain ⟨hd, rfl⟩ := hd
  subst hi
  intro H ls locs L f hP hD hk hS hl
  refine va_newa (atype := .long) hx hb (hts _ hw) (ty := .long) rfl hG.1 hP hD hS (fun q h => Nat.le_trans hb0 h) (N' := N) (a0 := (N, .inr (.inl (fun _ => 0)))) (fun cA => rfl) (nI_pos (by omega)) (nI_clamp (by omega)) (by show N * _ ≤ _; simp only [componentBytes]; omega) hR1 hR2 hd (fun q cA H1 hK1 hP1 hD1 hS1 => ?_)
  obtain rfl := e_newa_ty (i := 2) hK1 rfl (fun C h => by cases h)
  have hq : q ∉ L := va_pl_fresh2 (X := []) (f := f) (by simpa using hD1)
  rw [va_pl_push hq] at hP1 hD1
  exact kk q (hk.none hq) H1 ls locs _ _ hP1 hD1 (hk.push hq) hS1 hl
theorem e_newD (hX : e_in cc own nm nL ret R l θ x) {i : Int32} (N : Nat) (hd : e_at cc pc (.newarray .double) 2 nx) (hw : e_w (.arrayClass .double)) (hi : i = nI N) (hN : N < 60000) (hR1 : k + 1 ≤ R.cells) (hR2 : n + N ≤ R.slots) (kk : ∀ q : Nat, ph q = none → EJ θ x nx lv (.ref q :: st) (e_up ph q (e_D θ N (fun _ => 0))) (k + 1) (n + N)) : EJ θ x pc lv (.int i :: st) ph k n := by
  obtain ⟨p, l', e, R', s, m, args, below, meth, c, Q, nL'⟩ := x
  obtain ⟨rfl, rfl, rfl, hx, hb, hml, hown, hts, hG, hb0, hlk, htr, hr, hnm⟩ := hX
  obtain ⟨hd, rfl⟩ := hd
  subst hi
  intro H ls locs L f hP hD hk hS hl
  refine va_newa (atype := .double) hx hb (hts _ hw) (ty := .double) rfl hG.1 hP hD hS (fun q h => Nat.le_trans hb0 h) (N' := N) (a0 := (N, .inr (.inr (.inr (.inl (fun _ => 0)))))) (fun cA => rfl) (nI_pos (by omega)) (nI_clamp (by omega)) (by show N * _ ≤ _; simp only [componentBytes]; omega) hR1 hR2 hd (fun q cA H1 hK1 hP1 hD1 hS1 => ?_)
  obtain rfl := e_newa_ty (i := 3) hK1 rfl (fun C h => by cases h)
  have hq : q ∉ L := va_pl_fresh2 (X := []) (f := f) (by simpa using hD1)
  rw [va_pl_push hq] at hP1 hD1
  exact kk q (hk.none hq) H1 ls locs _ _ hP1 hD1 (hk.push hq) hS1 hl
theorem e_newR (hX : e_in cc own nm nL ret R l θ x) {i : Int32} {idx : Nat} (N : Nat) (hd : e_at cc pc (.anewarray idx) 3 nx) (hw : e_w (.classLink own idx "java/lang/Object")) (hi : i = nI N) (hN : N < 60000) (hR1 : k + 1 ≤ R.cells) (hR2 : n + N ≤ R.slots) (kk : ∀ q : Nat, ph q = none → EJ θ x nx lv (.ref q :: st) (e_up ph q (e_R θ N (fun _ => none))) (k + 1) (n + N)) : EJ θ x pc lv (.int i :: st) ph k n := by
  obtain ⟨p, l', e, R', s, m, args, below, meth, c, Q, nL'⟩ := x
  obtain ⟨rfl, rfl, rfl, hx, hb, hml, hown, hts, hG, hb0, hlk, htr, hr, hnm⟩ := hX
  obtain ⟨hd, rfl⟩ := hd
  subst hi
  intro H ls locs L f hP hD hk hS hl
  refine va_newq hx hb hown (hts _ hw) hG.2.2.2.2.2.2.1 hG.1 hP hD hS (fun q h => Nat.le_trans hb0 h) (N' := N) (nI_pos (by omega)) (nI_clamp (by omega)) (by omega) hR1 hR2 hd (fun q cA H1 hK1 hP1 hD1 hS1 => ?_)
  have h1 := (hK1.2 6 (cA, .object "java/lang/Object") rfl).2
  have h2 := (hK1.2 4 (θ.2.1 4, .object "java/lang/Object") rfl).2
  obtain ⟨_, _, -, -, -, h1⟩ := h1
  obtain ⟨_, _, -, -, -, h2⟩ := h2
  obtain rfl : cA = θ.2.1 4 := Option.some.inj (h1.symm.trans h2)
  have hq : q ∉ L := va_pl_fresh2 (X := []) (f := f) (by simpa using hD1)
  rw [va_pl_push hq] at hP1 hD1
  exact kk q (hk.none hq) H1 ls locs _ _ hP1 hD1 (hk.push hq) hS1 hl
end EH
end
section
/-! calls, ends and throws over EJ; a method's contract MC -/
def e_H2 (θ : e_T) (ph : e_PH) (t : State) : Prop := e_H θ ph t.heap
def e_Qc (θ : e_T) (Post : Option Value → e_PH → Prop) : Array Value → State → Outcome → State → Prop := fun _ st o t => (∃ v ph, o = .returned v ∧ Post v ph ∧ e_H θ ph t.heap) ∧ va_F (e_A θ) st t
def e_XC (θ : e_T) (PostX : String → e_PH → Prop) : String → State → State → Prop := fun E st t => (∃ ph, PostX E ph ∧ e_H θ ph t.heap) ∧ va_F (e_A θ) st t
/-- how deep (calls below), cells and slots that are made -/
def e_rm (d c s : Nat) : Room := { frames := 10 + d, cells := c, slots := s, locals := 150 + 40 * d }
def MC (y : MethodName) (cc : ByteArray) (nL : Nat) (ret : Option FieldType) (d mc ms : Nat) (l : Launch) (θ : e_T) (As : List Value) (ph : e_PH) (Post : Option Value → e_PH → Prop) (PostX : String → e_PH → Prop) : Prop :=
  vx_Met l y (.code y cc nL ret :: lw_good) (e_rm d mc ms) (va_Pc As (fun U => e_U θ ph U)) (e_Qc θ Post) (e_XC θ PostX) mc ms (e_A θ)
/-- the end that is owed -/
def e_qq (θ : e_T) (x : e_X) (Post : Option Value → e_PH → Prop) (PostX : String → e_PH → Prop) (mc ms : Nat) : Prop := match x with
  | (_, _, _, _, s, _, args, below, _, _, Q, _) => Q = vx_MQ below (e_Qc θ Post) (e_XC θ PostX) args s mc ms (e_A θ)
def e_nt (x : e_X) : Prop := match x with
  | (_, _, _, _, _, _, _, _, _, c, _, _) => ∀ z ∈ c.exceptionTable.toList, False
theorem e_blind {θ : e_T} {ph : e_PH} {As : List Value} : FrameBlind (va_Pc As (fun U => e_U θ ph U)) := fun a U g mk h => ⟨h.1, h.2.calling g mk a⟩
theorem MC.of {y : MethodName} {cc : ByteArray} {nL : Nat} {ret : Option FieldType} {d mc ms : Nat} {l : Launch} {θ : e_T} {As : List Value} {ph : e_PH} {Post : Option Value → e_PH → Prop} {PostX : String → e_PH → Prop} (htr : l.stackTraces = false)
    (hy : plainName y.cls = true) (hn : (lg_sl As).length ≤ nL)
    (body : ∀ x, e_in cc y.cls y.name nL ret (e_rm d mc ms) l θ x → e_qq θ x Post PostX mc ms → e_nt x → EJ θ x 0 (lv_args 0 As) [] ph 0 0) : MC y cc nL ret d mc ms l θ As ph Post PostX := by
  refine vx_ofW (cc := cc) (maxL := nL) (ret := ret) hy rfl ?_
  intro p e s m args below meth c s₁ B hml hnt hv
  obtain ⟨rfl, ⟨L, f, hP, hD, hk⟩, hG, hb0⟩ := hv
  have hts0 := atoms_spec (ws := .code y cc nL ret :: lw_good) B.pre
  have hown : s.vm.findClass y.cls = some m.cls := findClass_of_methodNamed B.named
  have hnm : meth.name = y.name := (name_of_methodNamed B.named B.method).1
  have hl := lv_entry As (n := nL) hn
  rw [lg_entry_eq]
  exact body (p, l, e, e_rm d mc ms, s, m, As.toArray, below, meth, c, vx_MQ below (e_Qc θ Post) (e_XC θ PostX) As.toArray s mc ms (e_A θ), nL) ⟨rfl, rfl, rfl, B.exec, B.bytes, hml, hown, fun w hw => hts0 w (List.mem_cons_of_mem _ hw), hG, hb0, B.notSynchronized, htr, B.returns, hnm⟩ rfl hnt s.heap _ [] L f hP hD hk va_S.rf hl
/-- the room of a call -/
def e_fit (R : Room) (d nLy k n : Nat) : Prop := 10 + d + 1 ≤ R.frames ∧ 8 + (nLy + 11) + (150 + 40 * d) ≤ R.locals ∧ k ≤ R.cells ∧ n ≤ R.slots
/-- what a call's row of the code says: V an object's method, S a static one, I a constructor, VN SN IN those of nest mates, U a method that overrides -/
def e_cB (y : MethodName) (bb : ByteArray) (nLy : Nat) (rty : Option FieldType) (np : Nat) (x : MethodName) : Prop := e_w (.code y bb nLy rty) ∧ e_w (.initialized y.cls) ∧ (x.cls ≠ "java/lang/invoke/MethodHandle" ∧ x.cls ≠ "java/lang/invoke/VarHandle") ∧ (parseMethodDescriptor x.desc).map (fun d => d.parameters.length) = some np
def e_ivV (cc : ByteArray) (own : String) (pc nx ci : Nat) (y : MethodName) (bb : ByteArray) (nLy : Nat) (rty : Option FieldType) (np : Nat) : Prop := ∃ idx T N, e_at cc pc (.invokevirtual idx) 3 nx ∧ e_cl[ci]? = some (y.cls, T, N) ∧ e_cB y bb nLy rty np y ∧ e_w (.methodLink own idx y) ∧ e_w (.instanceMethod y) ∧ e_w (.selects y.cls y y)
def e_ivU (cc : ByteArray) (own : String) (pc nx ci : Nat) (y : MethodName) (bb : ByteArray) (nLy : Nat) (rty : Option FieldType) (np : Nat) : Prop := ∃ idx C T N ow z, e_at cc pc (.invokevirtual idx) 3 nx ∧ e_cl[ci]? = some (C, T, N) ∧ e_w (.code y bb nLy rty) ∧ e_w (.initialized y.cls) ∧ (ow ≠ "java/lang/invoke/MethodHandle" ∧ ow ≠ "java/lang/invoke/VarHandle") ∧ (parseMethodDescriptor z.desc).map (fun d => d.parameters.length) = some np ∧ e_w (.methodLink own idx z) ∧ e_w (.instanceMethod y) ∧ e_w (.selects C z y) ∧ e_w (.sameMethod z.cls ow z.name z.desc) ∧ e_n (.declares ⟨ow, z.name, z.desc⟩)
def e_ivS (cc : ByteArray) (own : String) (pc nx : Nat) (y : MethodName) (bb : ByteArray) (nLy : Nat) (rty : Option FieldType) (np : Nat) : Prop := ∃ idx, e_at cc pc (.invokestatic idx) 3 nx ∧ e_cB y bb nLy rty np y ∧ (e_w (.methodLink own idx y) ∨ ∃ host, e_n (.methodLinkNest own idx y host)) ∧ e_w (.static y)
def e_ivI (cc : ByteArray) (own : String) (pc nx : Nat) (y : MethodName) (bb : ByteArray) (nLy : Nat) (np : Nat) : Prop := ∃ idx, e_at cc pc (.invokespecial idx) 3 nx ∧ e_cB y bb nLy none np y ∧ (e_w (.methodLink own idx y) ∨ ∃ host, e_n (.methodLinkNest own idx y host)) ∧ e_w (.instanceMethod y) ∧ y.name = "<init>"
section EC
variable {θ : e_T} {x : e_X} {pc nx tgt : Nat} {lv : List (Nat × Value)} {st : List Value} {ph : e_PH} {k n : Nat} {cc : ByteArray} {own nm : String} {nL : Nat} {ret : Option FieldType} {R : Room} {l : Launch} {Post PostX' : Option Value → e_PH → Prop} {PostX : String → e_PH → Prop}
/-- behind a call: what came back -/
theorem e_run {p : Program} {e : Env} {s : State} {m : MethodId} {args : Array Value} {below : List Frame} {meth : Method} {c : Code} {Q : State → Prop} {H : Heap} {locs : List Loc} {ls : Array Slot} {mc ms : Nat} {st0 : List Value} {a : Array Value}
    (hr : vx_Run p l e R s m args below meth c H locs k n mc ms (F0 m pc ls st0) st (e_Qc θ Post a) (e_XC θ PostX) (e_A θ)) (hS : va_S (e_A θ) s.heap H locs) (hl : lv_has ls nL lv)
    (kk : ∀ v ph', Post v ph' → EJ θ (p, l, e, R, s, m, args, below, meth, c, Q, nL) (pc + 3) lv (v.toList ++ st) ph' (k + mc) (n + ms))
    (kx : ∀ E ph', PostX E ph' → ET θ (p, l, e, R, s, m, args, below, meth, c, Q, nL) pc lv st ph' (k + mc) (n + ms) E) : W p l e R s m args below meth c H locs k n Q (F0 m pc ls st0) := by
  intro T hT X
  rcases hr T hT X with ⟨v, st₀, t, T', L0, h0, X', hL, e1, e2, ⟨⟨v', ph', hv, hp, L, f, hP, hD, hk⟩, hF⟩, sp⟩ | ⟨q, st₀, t, T', L0, E, ce, h0, X', hL, e1, e2, ⟨⟨ph', hp, L, f, hP, hD, hk⟩, hF⟩, hce, hcv, hcl, sp⟩
  · cases hv
    obtain ⟨k1, k2, k3⟩ := vx_keep h0 e1 hS (fun q _ h => h) (fun q h => h) hL hF
    obtain ⟨t2, a1, b1⟩ := kk v ph' hp T'.heap ls (locs ++ L0) L f (by rw [e1]; exact hP) hD hk k3 hl T' rfl X'
    exact ⟨t2, sp t2 a1, b1⟩
  · obtain ⟨k1, k2, k3⟩ := vx_keep h0 e1 hS (fun q _ h => h) (fun q h => h) hL hF
    obtain ⟨t2, a1, b1⟩ := kx E ph' hp T'.heap ls (locs ++ L0) L f q ce (by rw [e1]; exact hP) hD hk k3 hl (by rw [e1]; exact hce) hcv hcl T' rfl X'
    exact ⟨t2, sp.trans a1, b1⟩
theorem e_pre {s U : State} {H : Heap} {locs : List Loc} {L : List Nat} {f : Nat → va_E} (hP : va_P θ.1 e_cl (va_pl L f) H) (hD : va_D (e_A θ) (va_pl L f)) (hk : e_lk ph L f) (hS : va_S (e_A θ) s.heap H locs) (hG : e_GS θ s s.heap) (hb0 : θ.2.2.1 ≤ s.heap.size) (hU : U.heap = H) (hW : s.WarmedH U.vm) : e_U θ ph U :=
  ⟨⟨L, f, by rw [hU]; exact hP, hD, hk⟩, e_GS.warm hW (by rw [hU]; exact hG.kept hS.2.1), by rw [hU]; exact Nat.le_trans hb0 hS.1⟩
theorem e_callV (hX : e_in cc own nm nL ret R l θ x) {ci b d nLy mc ms np : Nat} {y : MethodName} {bb : ByteArray} {rty : Option FieldType} {As : List Value} {fs : List Value} {st0 : List Value} (hd : e_ivV cc own pc nx ci y bb nLy rty np) (hp : ph b = some (e_O ci fs)) (hM : MC y bb nLy rty d mc ms l θ (.ref b :: As) ph Post PostX) (h0 : As.reverse ++ .ref b :: st = st0) (hl0 : As.length = np) (hf : e_fit R d nLy (k + mc) (n + ms)) (hw : (st.map fun v => v.category).sum ≤ 8)
    (kx : ∀ E ph', PostX E ph' → ET θ x pc lv st ph' (k + mc) (n + ms) E) (kk : ∀ v ph', Post v ph' → EJ θ x nx lv (v.toList ++ st) ph' (k + mc) (n + ms)) : EJ θ x pc lv st0 ph k n := by
  obtain ⟨p, l', e, R', s, m, args, below, meth, c, Q, nL'⟩ := x
  obtain ⟨rfl, rfl, rfl, hx, hb, hml, hown, hts, hG, hb0, hlk, htr, hr, hnm⟩ := hX
  obtain ⟨idx, T, N, ⟨hd, rfl⟩, hc, ⟨hw1, hw2, hw3, hw4⟩, hw5, hw6, hw7⟩ := hd
  subst h0
  intro H ls locs L f hP hD hk hS hl
  obtain ⟨q0, hq⟩ := hk.get hp
  refine e_run (vx_runV (C := y.cls) (b := b) (As := As) (rest := st) (Ts := lw_good) (own := own) (n := np) ⟨hx, hb, hml, hown, hts⟩ hM ⟨callB_of np hts (e_goodIn _ rfl hw1) rfl rfl rfl (hts _ hw2) (hts _ hw5) ⟨hw3.1, hw3.2, hw4⟩ ⟨hf.1, hf.2.1⟩, hts _ hw6, hts _ hw7⟩ ⟨e_blind, va_recv hG.1 hP hc hq, fun U hU hW => ⟨rfl, e_pre hP hD hk hS hG hb0 hU hW⟩⟩ rfl hl0 hl.1 rfl (lv_room hw) hd ⟨hf.2.2.1, hf.2.2.2⟩) hS hl kk kx
theorem e_callU (hX : e_in cc own nm nL ret R l θ x) {ci b d nLy mc ms np : Nat} {y : MethodName} {bb : ByteArray} {rty : Option FieldType} {As : List Value} {fs : List Value} {st0 : List Value} (hd : e_ivU cc own pc nx ci y bb nLy rty np) (hp : ph b = some (e_O ci fs)) (hM : MC y bb nLy rty d mc ms l θ (.ref b :: As) ph Post PostX) (h0 : As.reverse ++ .ref b :: st = st0) (hl0 : As.length = np) (hf : e_fit R d nLy (k + mc) (n + ms)) (hw : (st.map fun v => v.category).sum ≤ 8)
    (kx : ∀ E ph', PostX E ph' → ET θ x pc lv st ph' (k + mc) (n + ms) E) (kk : ∀ v ph', Post v ph' → EJ θ x nx lv (v.toList ++ st) ph' (k + mc) (n + ms)) : EJ θ x pc lv st0 ph k n := by
  obtain ⟨p, l', e, R', s, m, args, below, meth, c, Q, nL'⟩ := x
  obtain ⟨rfl, rfl, rfl, hx, hb, hml, hown, hts, hG, hb0, hlk, htr, hr, hnm⟩ := hX
  obtain ⟨idx, C, T, N, ow, z, ⟨hd, rfl⟩, hc, hw1, hw2, hw3, hw4, hw5, hw6, hw7, hw8, hw9⟩ := hd
  subst h0
  intro H ls locs L f hP hD hk hS hl
  obtain ⟨q0, hq⟩ := hk.get hp
  have hg := e_goodIn _ rfl hw1
  refine e_run (vx_runU (x := z) (C := C) (owner := ow) (b := b) (As := As) (rest := st) (Ts := lw_good) (own := own) (n := np) ⟨hx, hb, hml, hown, hts⟩ hM ⟨⟨rfl, rfl, hf.1, hf.2.1, pay_in hts hg, List.mem_cons_self⟩, hts _ hw1, hts _ hw2, hw3, fun sig h => by rw [h] at hw4; exact (Option.some.inj hw4).symm, hts _ hw5, hts _ hw8, va_Decl.abs (hG.2.1 _ hw9), hts _ hw7, hts _ hw6⟩ ⟨e_blind, va_recv hG.1 hP hc hq, fun U hU hW => ⟨rfl, e_pre hP hD hk hS hG hb0 hU hW⟩⟩ rfl hl0 hl.1 rfl (lv_room hw) hd ⟨hf.2.2.1, hf.2.2.2⟩) hS hl kk kx
theorem e_callS (hX : e_in cc own nm nL ret R l θ x) {d nLy mc ms np : Nat} {y : MethodName} {bb : ByteArray} {rty : Option FieldType} {As : List Value} {st0 : List Value} (hd : e_ivS cc own pc nx y bb nLy rty np) (hM : MC y bb nLy rty d mc ms l θ As ph Post PostX) (h0 : As.reverse ++ st = st0) (hl0 : As.length = np) (hf : e_fit R d nLy (k + mc) (n + ms)) (hw : (st.map fun v => v.category).sum ≤ 8)
    (kx : ∀ E ph', PostX E ph' → ET θ x pc lv st ph' (k + mc) (n + ms) E) (kk : ∀ v ph', Post v ph' → EJ θ x nx lv (v.toList ++ st) ph' (k + mc) (n + ms)) : EJ θ x pc lv st0 ph k n := by
  obtain ⟨p, l', e, R', s, m, args, below, meth, c, Q, nL'⟩ := x
  obtain ⟨rfl, rfl, rfl, hx, hb, hml, hown, hts, hG, hb0, hlk, htr, hr, hnm⟩ := hX
  obtain ⟨idx, ⟨hd, rfl⟩, ⟨hw1, hw2, hw3, hw4⟩, hw5, hw6⟩ := hd
  subst h0
  intro H ls locs L f hP hD hk hS hl
  rcases hw5 with hw5 | ⟨host, hw5⟩
  · exact e_run (vx_runS (As := As) (rest := st) (Ts := lw_good) (own := own) (n := np) ⟨hx, hb, hml, hown, hts⟩ hM ⟨callB_of np hts (e_goodIn _ rfl hw1) rfl rfl rfl (hts _ hw2) (hts _ hw5) ⟨hw3.1, hw3.2, hw4⟩ ⟨hf.1, hf.2.1⟩, hts _ hw6⟩ ⟨e_blind, fun U hU hW => ⟨rfl, e_pre hP hD hk hS hG hb0 hU hW⟩⟩ rfl hl0 hl.1 rfl (lv_room hw) hd ⟨hf.2.2.1, hf.2.2.2⟩) hS hl kk kx
  · exact e_run (vx_runSN (As := As) (rest := st) (Ts := lw_good) (own := own) (n := np) ⟨hx, hb, hml, hown, hts⟩ hM ⟨va_cnB (ws' := lw_good) np hts (e_goodIn _ rfl hw1) rfl rfl rfl (hG.2.1 _ hw5) (hts _ hw2) ⟨hw3.1, hw3.2, hw4⟩ ⟨hf.1, hf.2.1⟩, hts _ hw6, trivial⟩ ⟨e_blind, fun U hU hW => ⟨rfl, e_pre hP hD hk hS hG hb0 hU hW⟩⟩ rfl hl0 hl.1 rfl (lv_room hw) hd ⟨hf.2.2.1, hf.2.2.2⟩) hS hl kk kx
theorem e_callI (hX : e_in cc own nm nL ret R l θ x) {b d nLy mc ms np : Nat} {y : MethodName} {bb : ByteArray} {As : List Value} {st0 : List Value} (hd : e_ivI cc own pc nx y bb nLy np) (hM : MC y bb nLy none d mc ms l θ (.ref b :: As) ph Post PostX) (h0 : As.reverse ++ .ref b :: st = st0) (hl0 : As.length = np) (hf : e_fit R d nLy (k + mc) (n + ms)) (hw : (st.map fun v => v.category).sum ≤ 8)
    (kx : ∀ E ph', PostX E ph' → ET θ x pc lv st ph' (k + mc) (n + ms) E) (kk : ∀ v ph', Post v ph' → EJ θ x nx lv (v.toList ++ st) ph' (k + mc) (n + ms)) : EJ θ x pc lv st0 ph k n := by
  obtain ⟨p, l', e, R', s, m, args, below, meth, c, Q, nL'⟩ := x
  obtain ⟨rfl, rfl, rfl, hx, hb, hml, hown, hts, hG, hb0, hlk, htr, hr, hnm⟩ := hX
  obtain ⟨idx, ⟨hd, rfl⟩, ⟨hw1, hw2, hw3, hw4⟩, hw5, hw6, hw7⟩ := hd
  subst h0
  intro H ls locs L f hP hD hk hS hl
  rcases hw5 with hw5 | ⟨host, hw5⟩
  · exact e_run (vx_runI (b := b) (As := As) (rest := st) (Ts := lw_good) (own := own) (n := np) ⟨hx, hb, hml, hown, hts⟩ hM ⟨callB_of np hts (e_goodIn _ rfl hw1) rfl rfl rfl (hts _ hw2) (hts _ hw5) ⟨hw3.1, hw3.2, hw4⟩ ⟨hf.1, hf.2.1⟩, hw7, hts _ hw6⟩ ⟨e_blind, fun U hU hW => ⟨rfl, e_pre hP hD hk hS hG hb0 hU hW⟩⟩ rfl hl0 hl.1 rfl (lv_room hw) hd ⟨hf.2.2.1, hf.2.2.2⟩) hS hl kk kx
  · exact e_run (vx_runIN (b := b) (As := As) (rest := st) (Ts := lw_good) (own := own) (n := np) ⟨hx, hb, hml, hown, hts⟩ hM ⟨va_cnB (ws' := lw_good) np hts (e_goodIn _ rfl hw1) rfl rfl rfl (hG.2.1 _ hw5) (hts _ hw2) ⟨hw3.1, hw3.2, hw4⟩ ⟨hf.1, hf.2.1⟩, hw7, hts _ hw6⟩ ⟨e_blind, fun U hU hW => ⟨rfl, e_pre hP hD hk hS hG hb0 hU hW⟩⟩ rfl hl0 hl.1 rfl (lv_room hw) hd ⟨hf.2.2.1, hf.2.2.2⟩) hS hl kk kx
theorem e_obj (hX : e_in cc own nm nL ret R l θ x) {a idx : Nat} (hd : e_at cc pc (.invokespecial idx) 3 nx) (hw1 : e_w (.methodLink own idx objectInit)) (hw2 : e_w (.instanceMethod objectInit)) (hw3 : e_w (.code objectInit ⟨#[0xb1]⟩ 1 none)) (hf : 1 ≤ R.frames ∧ (st.map fun v => v.category).sum + 12 ≤ R.locals) (kk : EJ θ x nx lv st ph k n) : EJ θ x pc lv (.ref a :: st) ph k n := by
  obtain ⟨p, l', e, R', s, m, args, below, meth, c, Q, nL'⟩ := x
  obtain ⟨rfl, rfl, rfl, hx, hb, hml, hown, hts, hG, hb0, hlk, htr, hr, hnm⟩ := hX
  obtain ⟨hd, rfl⟩ := hd
  intro H ls locs L f hP hD hk hS hl
  exact W.objInit hx hb hown (hts _ hw1) (hts _ hw2) (hts _ hw3) rfl (hl.1.trans hml.symm) rfl hd hf.1 (by show 2 * 0 + _ + 12 ≤ _; omega) (kk H ls locs L f hP hD hk hS hl)
/-- ends -/
theorem e_post {s : State} {args : Array Value} {v : Option Value} {H : Heap} {locs : List Loc} {L : List Nat} {f : Nat → va_E} (hp : Post v ph) (hP : va_P θ.1 e_cl (va_pl L f) H) (hD : va_D (e_A θ) (va_pl L f)) (hk : e_lk ph L f) (hS : va_S (e_A θ) s.heap H locs) : ∀ t : State, t.heap = H → s.WarmedH t.vm → e_Qc θ Post args s (.returned v) t := fun t ht _ => ⟨⟨v, ph, rfl, hp, L, f, by rw [ht]; exact hP, hD, hk⟩, hS.F ht⟩
theorem e_iret (hX : e_in cc own nm nL ret R l θ x) {mc ms : Nat} (hQ : e_qq θ x Post PostX mc ms) {v : Int32} (hd : e_at cc pc .ireturn 1 nx) (hr0 : ret = some .int) (h1 : k ≤ mc) (h2 : n ≤ ms) (hp : Post (some (.int v)) ph) : EJ θ x pc lv [.int v] ph k n := by
  obtain ⟨p, l', e, R', s, m, args, below, meth, c, Q, nL'⟩ := x
  obtain ⟨rfl, rfl, rfl, hx, hb, hml, hown, hts, hG, hb0, hlk, htr, hr, hnm⟩ := hX
  obtain ⟨hd, rfl⟩ := hd
  cases hQ
  intro H ls locs L f hP hD hk hS hl
  exact W.widen h1 h2 (vx_ret (W.iret hx hb (hr.trans hr0) (e_post hp hP hD hk hS) hS.2.2 hd hlk))
theorem e_zret (hX : e_in cc own nm nL ret R l θ x) {mc ms : Nat} (hQ : e_qq θ x Post PostX mc ms) {v : Int32} (hd : e_at cc pc .ireturn 1 nx) (hr0 : ret = some .boolean) (hv : narrow .boolean (.int v) = .int v) (h1 : k ≤ mc) (h2 : n ≤ ms) (hp : Post (some (.int v)) ph) : EJ θ x pc lv [.int v] ph k n := by
  obtain ⟨p, l', e, R', s, m, args, below, meth, c, Q, nL'⟩ := x
  obtain ⟨rfl, rfl, rfl, hx, hb, hml, hown, hts, hG, hb0, hlk, htr, hr, hnm⟩ := hX
  obtain ⟨hd, rfl⟩ := hd
  cases hQ
  intro H ls locs L f hP hD hk hS hl
  exact W.widen h1 h2 (vx_ret (W.zret hx hb (hr.trans hr0) hv (e_post hp hP hD hk hS) hS.2.2 hd hlk))
theorem e_vret (hX : e_in cc own nm nL ret R l θ x) {mc ms : Nat} (hQ : e_qq θ x Post PostX mc ms) (hd : e_at cc pc .return_ 1 nx) (hr0 : ret = none) (h1 : k ≤ mc) (h2 : n ≤ ms) (hp : Post none ph) : EJ θ x pc lv [] ph k n := by
  obtain ⟨p, l', e, R', s, m, args, below, meth, c, Q, nL'⟩ := x
  obtain ⟨rfl, rfl, rfl, hx, hb, hml, hown, hts, hG, hb0, hlk, htr, hr, hnm⟩ := hX
  obtain ⟨hd, rfl⟩ := hd
  cases hQ
  intro H ls locs L f hP hD hk hS hl
  exact W.widen h1 h2 (vx_ret (W.vret hx hb (hr.trans hr0) (e_post hp hP hD hk hS) hS.2.2 hd hlk))
theorem e_lret (hX : e_in cc own nm nL ret R l θ x) {mc ms : Nat} (hQ : e_qq θ x Post PostX mc ms) {v : Int64} (hd : e_at cc pc .lreturn 1 nx) (hr0 : ret = some .long) (h1 : k ≤ mc) (h2 : n ≤ ms) (hp : Post (some (.long v)) ph) : EJ θ x pc lv [.long v] ph k n := by
  obtain ⟨p, l', e, R', s, m, args, below, meth, c, Q, nL'⟩ := x
  obtain ⟨rfl, rfl, rfl, hx, hb, hml, hown, hts, hG, hb0, hlk, htr, hr, hnm⟩ := hX
  obtain ⟨hd, rfl⟩ := hd
  cases hQ
  intro H ls locs L f hP hD hk hS hl
  exact W.widen h1 h2 (vx_ret (W.lret hx hb (hr.trans hr0) (e_post hp hP hD hk hS) hS.2.2 hd hlk))
theorem e_dret (hX : e_in cc own nm nL ret R l θ x) {mc ms : Nat} (hQ : e_qq θ x Post PostX mc ms) {v : UInt64} (hd : e_at cc pc .dreturn 1 nx) (hr0 : ret = some .double) (h1 : k ≤ mc) (h2 : n ≤ ms) (hp : Post (some (.double v)) ph) : EJ θ x pc lv [.double v] ph k n := by
  obtain ⟨p, l', e, R', s, m, args, below, meth, c, Q, nL'⟩ := x
  obtain ⟨rfl, rfl, rfl, hx, hb, hml, hown, hts, hG, hb0, hlk, htr, hr, hnm⟩ := hX
  obtain ⟨hd, rfl⟩ := hd
  cases hQ
  intro H ls locs L f hP hD hk hS hl
  exact W.widen h1 h2 (vx_ret (W.dret hx hb (hr.trans hr0) (e_post hp hP hD hk hS) hS.2.2 hd hlk))
theorem e_fret (hX : e_in cc own nm nL ret R l θ x) {mc ms : Nat} (hQ : e_qq θ x Post PostX mc ms) {v : UInt32} (hd : e_at cc pc .freturn 1 nx) (hr0 : ret = some .float) (h1 : k ≤ mc) (h2 : n ≤ ms) (hp : Post (some (.float v)) ph) : EJ θ x pc lv [.float v] ph k n := by
  obtain ⟨p, l', e, R', s, m, args, below, meth, c, Q, nL'⟩ := x
  obtain ⟨rfl, rfl, rfl, hx, hb, hml, hown, hts, hG, hb0, hlk, htr, hr, hnm⟩ := hX
  obtain ⟨hd, rfl⟩ := hd
  cases hQ
  intro H ls locs L f hP hD hk hS hl
  exact W.widen h1 h2 (vx_ret (W.fret hx hb (hr.trans hr0) (e_post hp hP hD hk hS) hS.2.2 hd hlk))
theorem e_aret (hX : e_in cc own nm nL ret R l θ x) {mc ms : Nat} (hQ : e_qq θ x Post PostX mc ms) {a : Nat} {rt : FieldType} (hd : e_at cc pc .areturn 1 nx) (hr0 : ret = some rt) (hrt : (∃ n, rt = .object n) ∨ ∃ t, rt = .array t) (h1 : k ≤ mc) (h2 : n ≤ ms) (hp : Post (some (.ref a)) ph) : EJ θ x pc lv [.ref a] ph k n := by
  obtain ⟨p, l', e, R', s, m, args, below, meth, c, Q, nL'⟩ := x
  obtain ⟨rfl, rfl, rfl, hx, hb, hml, hown, hts, hG, hb0, hlk, htr, hr, hnm⟩ := hX
  obtain ⟨hd, rfl⟩ := hd
  cases hQ
  intro H ls locs L f hP hD hk hS hl
  exact W.widen h1 h2 (vx_ret (W.aret hx hb (hr.trans hr0) hrt (Or.inr ⟨a, rfl⟩) (e_post hp hP hD hk hS) hS.2.2 hd hlk))
/-- 'throw new E("..")' -/
def e_thr (cc : ByteArray) (own : String) (pc : Nat) (E : String) : Prop := ∃ (ik is ic ci : Nat) (tx : String), e_cl[ci]? = some (E, TE0, 0) ∧ decode cc pc = .ok (.new ik, 3) ∧ decode cc (pc + 3) = .ok (.dup, 1) ∧ decode cc (pc + 4) = .ok (.ldc is, 2) ∧ decode cc (pc + 6) = .ok (.invokespecial ic, 3) ∧ decode cc (pc + 9) = .ok (.athrow, 1) ∧ Bundle.fit E = true ∧ e_w (.classLink own ik E) ∧ e_w (.initialized E) ∧ Cond.stringRef own is tx ∈ lw_tbl ∧ ∀ w ∈ vx_atS own ic E ["java/lang/RuntimeException", "java/lang/Exception"], (w ∈ lw_good ∨ w ∈ lw_nest) ∧ vx_ot w = true
theorem e_throw (hX : e_in cc own nm nL ret R l θ x) {E : String} (hd : e_thr cc own pc E) (hf : 5 < R.frames ∧ (st.map fun v => v.category).sum + 82 ≤ R.locals ∧ k + 1 ≤ R.cells ∧ n + 6 ≤ R.slots) (kk : ET θ x (pc + 9) lv st ph (k + 1) (n + 6) E) : EJ θ x pc lv st ph k n := by
  obtain ⟨p, l', e, R', s, m, args, below, meth, c, Q, nL'⟩ := x
  obtain ⟨rfl, rfl, rfl, hx, hb, hml, hown, hts, hG, hb0, hlk, htr, hr, hnm⟩ := hX
  obtain ⟨ik, is, ic, ci, tx, hc, d0, d3, d4, d6, d9, hfit, hw1, hw2, hw3, hw4⟩ := hd
  intro H ls locs L f hP hD hk hS hl
  have hstr : ∃ a, vk_R own is tx a s := by
    rcases hG.2.2.2.2.2.2.2.2.2.2.2 _ _ _ hw3 with h | h
    · exact ⟨_, h⟩
    · exact h
  obtain ⟨sa, hstr⟩ := hstr
  have hat : ∀ w ∈ vx_atS own ic E ["java/lang/RuntimeException", "java/lang/Exception"], w.before args s = true := fun w hw => by
    obtain ⟨h1, h2⟩ := hw4 w hw
    rcases h1 with h1 | h1
    · exact hts w h1
    · refine va_Nw.use ?_ (hG.2.1 w h1)
      have h3 := (List.mem_filter.mp h1).2
      cases w <;> first | rfl | (exfalso; revert h3; decide) | (exfalso; cases h3)
  refine vx_makeS (A := e_A θ) (T0 := TE0) hx hb htr hown hfit (by decide) (hts _ hw1) (hts _ hw2) hstr hat (fun w hw => ?_) hG.2.2.1 hG.2.2.2.1 hS (hl.1.trans hml.symm) d0 d3 d4 d6 hG.1 hP hD (fun q h => Nat.le_trans hb0 h) hc hf.1 (by show _ + 82 ≤ _; exact hf.2.1) hf.2.2.1 hf.2.2.2 (fun q H1 hP1 hD1 hS1 => ?_)
  · rcases List.mem_cons.mp hw with rfl | hw
    · rfl
    · rcases List.mem_cons.mp hw with rfl | hw
      · rfl
      · exact (hw4 w hw).2
  · refine vx_athrow hx hb d9 ?_
    have hl9 : (va_pl L f ++ [(q, Sum.inr (ci, []))])[(va_pl L f).length]? = some (q, (Sum.inr (ci, []) : va_E)) := by simp
    obtain ⟨r, h1, ce, g1, g2, g3, -⟩ := hP1 _ _ hl9
    have hr0 : r = (E, TE0, 0) := Option.some.inj (h1.symm.trans hc)
    have hcl : s.vm.findClass E = some ce.cls := by rw [g2]; exact (hG.1.1 ci _ hc).2.1
    have hP2 : va_P θ.1 e_cl (va_pl L f) H1 := fun j z hz => hP1 j z (by rw [List.getElem?_append_left (List.getElem?_eq_some_iff.mp hz).1]; exact hz)
    exact kk H1 ls locs L f q ce hP2 hD hk hS1 hl g1 g3 hcl
theorem e_out {mc ms : Nat} (hX : e_in cc own nm nL ret R l θ x) (hQ : e_qq θ x Post PostX mc ms) (hT : e_nt x) {E : String} (h1 : k ≤ mc) (h2 : n ≤ ms) (hp : PostX E ph) : ET θ x pc lv st ph k n E := by
  obtain ⟨p, l', e, R', s, m, args, below, meth, c, Q, nL'⟩ := x
  obtain ⟨rfl, rfl, rfl, hx, hb, hml, hown, hts, hG, hb0, hlk, htr, hr, hnm⟩ := hX
  cases hQ
  intro H ls locs L f q ce hP hD hk hS hl hcell hv hcl
  exact vx_out (fun z hz => absurd (hT z hz) id) hlk hcell hv hcl (fun t ht _ => ⟨⟨ph, hp, L, f, by rw [ht]; exact hP, hD, hk⟩, hS.F ht⟩) hS.2.2 h1 h2
end EC
end
