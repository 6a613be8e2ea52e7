section
-- ===== PART A: goes FIRST, ahead of the names: the tables' words, and 'selects' of the private methods out of them =====
/-- a private method of a class that the tables say can be made, by its rows of tables_1 -/
def lw_okq (q : MethodName × Nat) : Prop := (q.1.cls ≠ "java/lang/invoke/MethodHandle" ∧ q.1.cls ≠ "java/lang/invoke/VarHandle") ∧ Cond.instantiable q.1.cls q.2 ∈ tables_1 ∧ Cond.privateMethod q.1 ∈ tables_1 ∧ Cond.instanceMethod q.1 ∈ tables_1
theorem lw_p0 : lw_okq (⟨"PoleSets", "refuse", "(I)I"⟩, 9) := ⟨⟨by decide +kernel, by decide +kernel⟩, List.mem_of_getElem? (i := 17) (by decide +kernel), List.mem_of_getElem? (i := 561) (by decide +kernel), List.mem_of_getElem? (i := 562) (by decide +kernel)⟩
theorem lw_p1 : lw_okq (⟨"PoleSets", "answer", "(I)I"⟩, 9) := ⟨⟨by decide +kernel, by decide +kernel⟩, List.mem_of_getElem? (i := 17) (by decide +kernel), List.mem_of_getElem? (i := 577) (by decide +kernel), List.mem_of_getElem? (i := 578) (by decide +kernel)⟩
theorem lw_p2 : lw_okq (⟨"PoleSets$Grouping", "heapUp", "(II)I"⟩, 19) := ⟨⟨by decide +kernel, by decide +kernel⟩, List.mem_of_getElem? (i := 191) (by decide +kernel), List.mem_of_getElem? (i := 682) (by decide +kernel), List.mem_of_getElem? (i := 683) (by decide +kernel)⟩
theorem lw_p3 : lw_okq (⟨"PoleSets$Grouping", "scatter", "()V"⟩, 19) := ⟨⟨by decide +kernel, by decide +kernel⟩, List.mem_of_getElem? (i := 191) (by decide +kernel), List.mem_of_getElem? (i := 686) (by decide +kernel), List.mem_of_getElem? (i := 687) (by decide +kernel)⟩
theorem lw_p4 : lw_okq (⟨"PoleSets$Grouping", "spread", "(IIII)I"⟩, 19) := ⟨⟨by decide +kernel, by decide +kernel⟩, List.mem_of_getElem? (i := 191) (by decide +kernel), List.mem_of_getElem? (i := 690) (by decide +kernel), List.mem_of_getElem? (i := 691) (by decide +kernel)⟩
theorem lw_p5 : lw_okq (⟨"PoleSets$Grouping", "findHeapLies", "(I)V"⟩, 19) := ⟨⟨by decide +kernel, by decide +kernel⟩, List.mem_of_getElem? (i := 191) (by decide +kernel), List.mem_of_getElem? (i := 698) (by decide +kernel), List.mem_of_getElem? (i := 699) (by decide +kernel)⟩
theorem lw_p6 : lw_okq (⟨"PoleSets$Grouping", "numberHeap", "(II)V"⟩, 19) := ⟨⟨by decide +kernel, by decide +kernel⟩, List.mem_of_getElem? (i := 191) (by decide +kernel), List.mem_of_getElem? (i := 706) (by decide +kernel), List.mem_of_getElem? (i := 707) (by decide +kernel)⟩
theorem lw_p7 : lw_okq (⟨"PoleSets$Grouping", "measure", "(ILPoleSets$Group;)V"⟩, 19) := ⟨⟨by decide +kernel, by decide +kernel⟩, List.mem_of_getElem? (i := 191) (by decide +kernel), List.mem_of_getElem? (i := 718) (by decide +kernel), List.mem_of_getElem? (i := 719) (by decide +kernel)⟩
theorem lw_p8 : lw_okq (⟨"PoleSets$Grouping", "findSeed", "(ILPoleSets$Group;)V"⟩, 19) := ⟨⟨by decide +kernel, by decide +kernel⟩, List.mem_of_getElem? (i := 191) (by decide +kernel), List.mem_of_getElem? (i := 722) (by decide +kernel), List.mem_of_getElem? (i := 723) (by decide +kernel)⟩
theorem lw_p9 : lw_okq (⟨"PoleSets$Grouping", "countAround", "(II)I"⟩, 19) := ⟨⟨by decide +kernel, by decide +kernel⟩, List.mem_of_getElem? (i := 191) (by decide +kernel), List.mem_of_getElem? (i := 726) (by decide +kernel), List.mem_of_getElem? (i := 727) (by decide +kernel)⟩
theorem lw_p10 : lw_okq (⟨"PoleSets$Circle", "levelOf", "(LPoleSets$Vector;I)J"⟩, 1) := ⟨⟨by decide +kernel, by decide +kernel⟩, List.mem_of_getElem? (i := 25) (by decide +kernel), List.mem_of_getElem? (i := 763) (by decide +kernel), List.mem_of_getElem? (i := 764) (by decide +kernel)⟩
theorem lw_p11 : lw_okq (⟨"PoleSets$Circle", "tiltOf", "(JJ)I"⟩, 1) := ⟨⟨by decide +kernel, by decide +kernel⟩, List.mem_of_getElem? (i := 25) (by decide +kernel), List.mem_of_getElem? (i := 768) (by decide +kernel), List.mem_of_getElem? (i := 769) (by decide +kernel)⟩
theorem lw_p12 : lw_okq (⟨"PoleSets$Grouping", "openCone", "(ILPoleSets$Group;)V"⟩, 19) := ⟨⟨by decide +kernel, by decide +kernel⟩, List.mem_of_getElem? (i := 191) (by decide +kernel), List.mem_of_getElem? (i := 773) (by decide +kernel), List.mem_of_getElem? (i := 774) (by decide +kernel)⟩
theorem lw_p13 : lw_okq (⟨"PoleSets$Survey", "isFirstOfItsLie", "(I)Z"⟩, 11) := ⟨⟨by decide +kernel, by decide +kernel⟩, List.mem_of_getElem? (i := 44) (by decide +kernel), List.mem_of_getElem? (i := 808) (by decide +kernel), List.mem_of_getElem? (i := 809) (by decide +kernel)⟩
theorem lw_p14 : lw_okq (⟨"PoleSets$Survey", "countOnLine", "(I)I"⟩, 11) := ⟨⟨by decide +kernel, by decide +kernel⟩, List.mem_of_getElem? (i := 44) (by decide +kernel), List.mem_of_getElem? (i := 840) (by decide +kernel), List.mem_of_getElem? (i := 841) (by decide +kernel)⟩
theorem lw_p15 : lw_okq (⟨"PoleSets", "answerOrNothing", "(I)I"⟩, 9) := ⟨⟨by decide +kernel, by decide +kernel⟩, List.mem_of_getElem? (i := 17) (by decide +kernel), List.mem_of_getElem? (i := 899) (by decide +kernel), List.mem_of_getElem? (i := 900) (by decide +kernel)⟩
def lw_privs_1 : List (MethodName × Nat) := [(⟨"PoleSets", "refuse", "(I)I"⟩, 9), (⟨"PoleSets", "answer", "(I)I"⟩, 9), (⟨"PoleSets$Grouping", "heapUp", "(II)I"⟩, 19), (⟨"PoleSets$Grouping", "scatter", "()V"⟩, 19), (⟨"PoleSets$Grouping", "spread", "(IIII)I"⟩, 19), (⟨"PoleSets$Grouping", "findHeapLies", "(I)V"⟩, 19), (⟨"PoleSets$Grouping", "numberHeap", "(II)V"⟩, 19), (⟨"PoleSets$Grouping", "measure", "(ILPoleSets$Group;)V"⟩, 19), (⟨"PoleSets$Grouping", "findSeed", "(ILPoleSets$Group;)V"⟩, 19), (⟨"PoleSets$Grouping", "countAround", "(II)I"⟩, 19), (⟨"PoleSets$Circle", "levelOf", "(LPoleSets$Vector;I)J"⟩, 1), (⟨"PoleSets$Circle", "tiltOf", "(JJ)I"⟩, 1), (⟨"PoleSets$Grouping", "openCone", "(ILPoleSets$Group;)V"⟩, 19), (⟨"PoleSets$Survey", "isFirstOfItsLie", "(I)Z"⟩, 11), (⟨"PoleSets$Survey", "countOnLine", "(I)I"⟩, 11), (⟨"PoleSets", "answerOrNothing", "(I)I"⟩, 9)]
theorem lw_r1 : ∀ q ∈ lw_privs_1, lw_okq q := List.forall_mem_cons.mpr ⟨lw_p0, List.forall_mem_cons.mpr ⟨lw_p1, List.forall_mem_cons.mpr ⟨lw_p2, List.forall_mem_cons.mpr ⟨lw_p3, List.forall_mem_cons.mpr ⟨lw_p4, List.forall_mem_cons.mpr ⟨lw_p5, List.forall_mem_cons.mpr ⟨lw_p6, List.forall_mem_cons.mpr ⟨lw_p7, List.forall_mem_cons.mpr ⟨lw_p8, List.forall_mem_cons.mpr ⟨lw_p9, List.forall_mem_cons.mpr ⟨lw_p10, List.forall_mem_cons.mpr ⟨lw_p11, List.forall_mem_cons.mpr ⟨lw_p12, List.forall_mem_cons.mpr ⟨lw_p13, List.forall_mem_cons.mpr ⟨lw_p14, List.forall_mem_cons.mpr ⟨lw_p15, fun _ h => absurd h List.not_mem_nil⟩⟩⟩⟩⟩⟩⟩⟩⟩⟩⟩⟩⟩⟩⟩⟩
theorem lw_p16 : lw_okq (⟨"PoleSets", "areTwoSets", "(II)Z"⟩, 9) := ⟨⟨by decide +kernel, by decide +kernel⟩, List.mem_of_getElem? (i := 17) (by decide +kernel), List.mem_of_getElem? (i := 911) (by decide +kernel), List.mem_of_getElem? (i := 912) (by decide +kernel)⟩
theorem lw_p17 : lw_okq (⟨"PoleSets$Grouping", "nearestOpen", "(I)I"⟩, 19) := ⟨⟨by decide +kernel, by decide +kernel⟩, List.mem_of_getElem? (i := 191) (by decide +kernel), List.mem_of_getElem? (i := 927) (by decide +kernel), List.mem_of_getElem? (i := 928) (by decide +kernel)⟩
theorem lw_p18 : lw_okq (⟨"PoleSets$Grouping", "isBridge", "(I)Z"⟩, 19) := ⟨⟨by decide +kernel, by decide +kernel⟩, List.mem_of_getElem? (i := 191) (by decide +kernel), List.mem_of_getElem? (i := 973) (by decide +kernel), List.mem_of_getElem? (i := 974) (by decide +kernel)⟩
theorem lw_p19 : lw_okq (⟨"PoleSets$Settling", "begin", "()V"⟩, 9) := ⟨⟨by decide +kernel, by decide +kernel⟩, List.mem_of_getElem? (i := 347) (by decide +kernel), List.mem_of_getElem? (i := 1009) (by decide +kernel), List.mem_of_getElem? (i := 1010) (by decide +kernel)⟩
theorem lw_p20 : lw_okq (⟨"PoleSets$Settling", "moveCracks", "()Z"⟩, 9) := ⟨⟨by decide +kernel, by decide +kernel⟩, List.mem_of_getElem? (i := 347) (by decide +kernel), List.mem_of_getElem? (i := 1014) (by decide +kernel), List.mem_of_getElem? (i := 1015) (by decide +kernel)⟩
theorem lw_p21 : lw_okq (⟨"PoleSets$Settling", "placeFor", "(LPoleSets$Vector;)I"⟩, 9) := ⟨⟨by decide +kernel, by decide +kernel⟩, List.mem_of_getElem? (i := 347) (by decide +kernel), List.mem_of_getElem? (i := 1018) (by decide +kernel), List.mem_of_getElem? (i := 1019) (by decide +kernel)⟩
theorem lw_p22 : lw_okq (⟨"PoleSets$Settling", "renewMeans", "()V"⟩, 9) := ⟨⟨by decide +kernel, by decide +kernel⟩, List.mem_of_getElem? (i := 347) (by decide +kernel), List.mem_of_getElem? (i := 1024) (by decide +kernel), List.mem_of_getElem? (i := 1025) (by decide +kernel)⟩
theorem lw_p23 : lw_okq (⟨"PoleSets$Scan", "addToWeft", "(LPoleSets$Vector;J)V"⟩, 13) := ⟨⟨by decide +kernel, by decide +kernel⟩, List.mem_of_getElem? (i := 388) (by decide +kernel), List.mem_of_getElem? (i := 1088) (by decide +kernel), List.mem_of_getElem? (i := 1089) (by decide +kernel)⟩
theorem lw_p24 : lw_okq (⟨"PoleSets$Scan", "shareOf", "(LPoleSets$Vector;)J"⟩, 13) := ⟨⟨by decide +kernel, by decide +kernel⟩, List.mem_of_getElem? (i := 388) (by decide +kernel), List.mem_of_getElem? (i := 1104) (by decide +kernel), List.mem_of_getElem? (i := 1105) (by decide +kernel)⟩
theorem lw_p25 : lw_okq (⟨"PoleSets$Scan", "weightsBy", "(LPoleSets$Vector;)I"⟩, 13) := ⟨⟨by decide +kernel, by decide +kernel⟩, List.mem_of_getElem? (i := 388) (by decide +kernel), List.mem_of_getElem? (i := 1123) (by decide +kernel), List.mem_of_getElem? (i := 1124) (by decide +kernel)⟩
theorem lw_p26 : lw_okq (⟨"PoleSets$Grouping", "isOn", "(III)Z"⟩, 19) := ⟨⟨by decide +kernel, by decide +kernel⟩, List.mem_of_getElem? (i := 191) (by decide +kernel), List.mem_of_getElem? (i := 1153) (by decide +kernel), List.mem_of_getElem? (i := 1154) (by decide +kernel)⟩
theorem lw_p27 : lw_okq (⟨"PoleSets$Hazards", "wedgeSlides", "(III)Z"⟩, 10) := ⟨⟨by decide +kernel, by decide +kernel⟩, List.mem_of_getElem? (i := 442) (by decide +kernel), List.mem_of_getElem? (i := 1237) (by decide +kernel), List.mem_of_getElem? (i := 1238) (by decide +kernel)⟩
theorem lw_p28 : lw_okq (⟨"PoleSets$Folding", "turnInto", "(LPoleSets$Vector;ILPoleSets$Vector;)V"⟩, 8) := ⟨⟨by decide +kernel, by decide +kernel⟩, List.mem_of_getElem? (i := 483) (by decide +kernel), List.mem_of_getElem? (i := 1289) (by decide +kernel), List.mem_of_getElem? (i := 1290) (by decide +kernel)⟩
theorem lw_p29 : lw_okq (⟨"PoleSetsModel", "refuse", "(I)I"⟩, 49) := ⟨⟨by decide +kernel, by decide +kernel⟩, List.mem_of_getElem? (i := 1303) (by decide +kernel), List.mem_of_getElem? (i := 1469) (by decide +kernel), List.mem_of_getElem? (i := 1470) (by decide +kernel)⟩
theorem lw_p30 : lw_okq (⟨"PoleSetsModel", "laysArrow", "(II)V"⟩, 49) := ⟨⟨by decide +kernel, by decide +kernel⟩, List.mem_of_getElem? (i := 1303) (by decide +kernel), List.mem_of_getElem? (i := 1473) (by decide +kernel), List.mem_of_getElem? (i := 1474) (by decide +kernel)⟩
theorem lw_p31 : lw_okq (⟨"PoleSetsModel", "gives", "(I)I"⟩, 49) := ⟨⟨by decide +kernel, by decide +kernel⟩, List.mem_of_getElem? (i := 1303) (by decide +kernel), List.mem_of_getElem? (i := 1484) (by decide +kernel), List.mem_of_getElem? (i := 1485) (by decide +kernel)⟩
def lw_privs_2 : List (MethodName × Nat) := [(⟨"PoleSets", "areTwoSets", "(II)Z"⟩, 9), (⟨"PoleSets$Grouping", "nearestOpen", "(I)I"⟩, 19), (⟨"PoleSets$Grouping", "isBridge", "(I)Z"⟩, 19), (⟨"PoleSets$Settling", "begin", "()V"⟩, 9), (⟨"PoleSets$Settling", "moveCracks", "()Z"⟩, 9), (⟨"PoleSets$Settling", "placeFor", "(LPoleSets$Vector;)I"⟩, 9), (⟨"PoleSets$Settling", "renewMeans", "()V"⟩, 9), (⟨"PoleSets$Scan", "addToWeft", "(LPoleSets$Vector;J)V"⟩, 13), (⟨"PoleSets$Scan", "shareOf", "(LPoleSets$Vector;)J"⟩, 13), (⟨"PoleSets$Scan", "weightsBy", "(LPoleSets$Vector;)I"⟩, 13), (⟨"PoleSets$Grouping", "isOn", "(III)Z"⟩, 19), (⟨"PoleSets$Hazards", "wedgeSlides", "(III)Z"⟩, 10), (⟨"PoleSets$Folding", "turnInto", "(LPoleSets$Vector;ILPoleSets$Vector;)V"⟩, 8), (⟨"PoleSetsModel", "refuse", "(I)I"⟩, 49), (⟨"PoleSetsModel", "laysArrow", "(II)V"⟩, 49), (⟨"PoleSetsModel", "gives", "(I)I"⟩, 49)]
theorem lw_r2 : ∀ q ∈ lw_privs_2, lw_okq q := List.forall_mem_cons.mpr ⟨lw_p16, List.forall_mem_cons.mpr ⟨lw_p17, List.forall_mem_cons.mpr ⟨lw_p18, List.forall_mem_cons.mpr ⟨lw_p19, List.forall_mem_cons.mpr ⟨lw_p20, List.forall_mem_cons.mpr ⟨lw_p21, List.forall_mem_cons.mpr ⟨lw_p22, List.forall_mem_cons.mpr ⟨lw_p23, List.forall_mem_cons.mpr ⟨lw_p24, List.forall_mem_cons.mpr ⟨lw_p25, List.forall_mem_cons.mpr ⟨lw_p26, List.forall_mem_cons.mpr ⟨lw_p27, List.forall_mem_cons.mpr ⟨lw_p28, List.forall_mem_cons.mpr ⟨lw_p29, List.forall_mem_cons.mpr ⟨lw_p30, List.forall_mem_cons.mpr ⟨lw_p31, fun _ h => absurd h List.not_mem_nil⟩⟩⟩⟩⟩⟩⟩⟩⟩⟩⟩⟩⟩⟩⟩⟩
theorem lw_p32 : lw_okq (⟨"PoleSetsModel", "isLine", "(I)Z"⟩, 49) := ⟨⟨by decide +kernel, by decide +kernel⟩, List.mem_of_getElem? (i := 1303) (by decide +kernel), List.mem_of_getElem? (i := 1495) (by decide +kernel), List.mem_of_getElem? (i := 1496) (by decide +kernel)⟩
theorem lw_p33 : lw_okq (⟨"PoleSetsModel", "laysPole", "(II)V"⟩, 49) := ⟨⟨by decide +kernel, by decide +kernel⟩, List.mem_of_getElem? (i := 1303) (by decide +kernel), List.mem_of_getElem? (i := 1499) (by decide +kernel), List.mem_of_getElem? (i := 1500) (by decide +kernel)⟩
theorem lw_p34 : lw_okq (⟨"PoleSetsModel", "isCrack", "(I)Z"⟩, 49) := ⟨⟨by decide +kernel, by decide +kernel⟩, List.mem_of_getElem? (i := 1303) (by decide +kernel), List.mem_of_getElem? (i := 1510) (by decide +kernel), List.mem_of_getElem? (i := 1511) (by decide +kernel)⟩
theorem lw_p35 : lw_okq (⟨"PoleSetsModel", "laysSets", "()V"⟩, 49) := ⟨⟨by decide +kernel, by decide +kernel⟩, List.mem_of_getElem? (i := 1303) (by decide +kernel), List.mem_of_getElem? (i := 1526) (by decide +kernel), List.mem_of_getElem? (i := 1527) (by decide +kernel)⟩
theorem lw_p36 : lw_okq (⟨"PoleSetsModel", "laysGroups", "(II)V"⟩, 49) := ⟨⟨by decide +kernel, by decide +kernel⟩, List.mem_of_getElem? (i := 1303) (by decide +kernel), List.mem_of_getElem? (i := 1530) (by decide +kernel), List.mem_of_getElem? (i := 1531) (by decide +kernel)⟩
theorem lw_p37 : lw_okq (⟨"PoleSetsModel", "areNear", "(III)Z"⟩, 49) := ⟨⟨by decide +kernel, by decide +kernel⟩, List.mem_of_getElem? (i := 1303) (by decide +kernel), List.mem_of_getElem? (i := 1534) (by decide +kernel), List.mem_of_getElem? (i := 1535) (by decide +kernel)⟩
theorem lw_p38 : lw_okq (⟨"PoleSetsModel", "dotOf", "(II)J"⟩, 49) := ⟨⟨by decide +kernel, by decide +kernel⟩, List.mem_of_getElem? (i := 1303) (by decide +kernel), List.mem_of_getElem? (i := 1538) (by decide +kernel), List.mem_of_getElem? (i := 1539) (by decide +kernel)⟩
theorem lw_p39 : lw_okq (⟨"PoleSetsModel", "squareOf", "(I)J"⟩, 49) := ⟨⟨by decide +kernel, by decide +kernel⟩, List.mem_of_getElem? (i := 1303) (by decide +kernel), List.mem_of_getElem? (i := 1545) (by decide +kernel), List.mem_of_getElem? (i := 1546) (by decide +kernel)⟩
theorem lw_p40 : lw_okq (⟨"PoleSetsModel", "lieOf", "(I)I"⟩, 49) := ⟨⟨by decide +kernel, by decide +kernel⟩, List.mem_of_getElem? (i := 1303) (by decide +kernel), List.mem_of_getElem? (i := 1557) (by decide +kernel), List.mem_of_getElem? (i := 1558) (by decide +kernel)⟩
theorem lw_p41 : lw_okq (⟨"PoleSetsModel", "bigGroups", "()I"⟩, 49) := ⟨⟨by decide +kernel, by decide +kernel⟩, List.mem_of_getElem? (i := 1303) (by decide +kernel), List.mem_of_getElem? (i := 1562) (by decide +kernel), List.mem_of_getElem? (i := 1563) (by decide +kernel)⟩
theorem lw_p42 : lw_okq (⟨"PoleSetsModel", "sliding", "()I"⟩, 49) := ⟨⟨by decide +kernel, by decide +kernel⟩, List.mem_of_getElem? (i := 1303) (by decide +kernel), List.mem_of_getElem? (i := 1566) (by decide +kernel), List.mem_of_getElem? (i := 1567) (by decide +kernel)⟩
theorem lw_p43 : lw_okq (⟨"PoleSetsModel", "laysLies", "()V"⟩, 49) := ⟨⟨by decide +kernel, by decide +kernel⟩, List.mem_of_getElem? (i := 1303) (by decide +kernel), List.mem_of_getElem? (i := 1570) (by decide +kernel), List.mem_of_getElem? (i := 1571) (by decide +kernel)⟩
theorem lw_p44 : lw_okq (⟨"PoleSetsModel", "laysMeans", "()V"⟩, 49) := ⟨⟨by decide +kernel, by decide +kernel⟩, List.mem_of_getElem? (i := 1303) (by decide +kernel), List.mem_of_getElem? (i := 1574) (by decide +kernel), List.mem_of_getElem? (i := 1575) (by decide +kernel)⟩
theorem lw_p45 : lw_okq (⟨"PoleSetsModel", "laysMeanOf", "(I)V"⟩, 49) := ⟨⟨by decide +kernel, by decide +kernel⟩, List.mem_of_getElem? (i := 1303) (by decide +kernel), List.mem_of_getElem? (i := 1578) (by decide +kernel), List.mem_of_getElem? (i := 1579) (by decide +kernel)⟩
theorem lw_p46 : lw_okq (⟨"PoleSetsModel", "laysSumOf", "(I)V"⟩, 49) := ⟨⟨by decide +kernel, by decide +kernel⟩, List.mem_of_getElem? (i := 1303) (by decide +kernel), List.mem_of_getElem? (i := 1582) (by decide +kernel), List.mem_of_getElem? (i := 1583) (by decide +kernel)⟩
theorem lw_p47 : lw_okq (⟨"PoleSetsModel", "seedOf", "(I)I"⟩, 49) := ⟨⟨by decide +kernel, by decide +kernel⟩, List.mem_of_getElem? (i := 1303) (by decide +kernel), List.mem_of_getElem? (i := 1586) (by decide +kernel), List.mem_of_getElem? (i := 1587) (by decide +kernel)⟩
def lw_privs_3 : List (MethodName × Nat) := [(⟨"PoleSetsModel", "isLine", "(I)Z"⟩, 49), (⟨"PoleSetsModel", "laysPole", "(II)V"⟩, 49), (⟨"PoleSetsModel", "isCrack", "(I)Z"⟩, 49), (⟨"PoleSetsModel", "laysSets", "()V"⟩, 49), (⟨"PoleSetsModel", "laysGroups", "(II)V"⟩, 49), (⟨"PoleSetsModel", "areNear", "(III)Z"⟩, 49), (⟨"PoleSetsModel", "dotOf", "(II)J"⟩, 49), (⟨"PoleSetsModel", "squareOf", "(I)J"⟩, 49), (⟨"PoleSetsModel", "lieOf", "(I)I"⟩, 49), (⟨"PoleSetsModel", "bigGroups", "()I"⟩, 49), (⟨"PoleSetsModel", "sliding", "()I"⟩, 49), (⟨"PoleSetsModel", "laysLies", "()V"⟩, 49), (⟨"PoleSetsModel", "laysMeans", "()V"⟩, 49), (⟨"PoleSetsModel", "laysMeanOf", "(I)V"⟩, 49), (⟨"PoleSetsModel", "laysSumOf", "(I)V"⟩, 49), (⟨"PoleSetsModel", "seedOf", "(I)I"⟩, 49)]
theorem lw_r3 : ∀ q ∈ lw_privs_3, lw_okq q := List.forall_mem_cons.mpr ⟨lw_p32, List.forall_mem_cons.mpr ⟨lw_p33, List.forall_mem_cons.mpr ⟨lw_p34, List.forall_mem_cons.mpr ⟨lw_p35, List.forall_mem_cons.mpr ⟨lw_p36, List.forall_mem_cons.mpr ⟨lw_p37, List.forall_mem_cons.mpr ⟨lw_p38, List.forall_mem_cons.mpr ⟨lw_p39, List.forall_mem_cons.mpr ⟨lw_p40, List.forall_mem_cons.mpr ⟨lw_p41, List.forall_mem_cons.mpr ⟨lw_p42, List.forall_mem_cons.mpr ⟨lw_p43, List.forall_mem_cons.mpr ⟨lw_p44, List.forall_mem_cons.mpr ⟨lw_p45, List.forall_mem_cons.mpr ⟨lw_p46, List.forall_mem_cons.mpr ⟨lw_p47, fun _ h => absurd h List.not_mem_nil⟩⟩⟩⟩⟩⟩⟩⟩⟩⟩⟩⟩⟩⟩⟩⟩
theorem lw_p48 : lw_okq (⟨"PoleSetsModel", "nearIn", "(II)I"⟩, 49) := ⟨⟨by decide +kernel, by decide +kernel⟩, List.mem_of_getElem? (i := 1303) (by decide +kernel), List.mem_of_getElem? (i := 1590) (by decide +kernel), List.mem_of_getElem? (i := 1591) (by decide +kernel)⟩
theorem lw_p49 : lw_okq (⟨"PoleSetsModel", "laysSum", "([IIJJJ)V"⟩, 49) := ⟨⟨by decide +kernel, by decide +kernel⟩, List.mem_of_getElem? (i := 1303) (by decide +kernel), List.mem_of_getElem? (i := 1594) (by decide +kernel), List.mem_of_getElem? (i := 1595) (by decide +kernel)⟩
theorem lw_p50 : lw_okq (⟨"PoleSetsModel", "beginsSum", "()V"⟩, 49) := ⟨⟨by decide +kernel, by decide +kernel⟩, List.mem_of_getElem? (i := 1303) (by decide +kernel), List.mem_of_getElem? (i := 1598) (by decide +kernel), List.mem_of_getElem? (i := 1599) (by decide +kernel)⟩
theorem lw_p51 : lw_okq (⟨"PoleSetsModel", "weight", "(I)I"⟩, 49) := ⟨⟨by decide +kernel, by decide +kernel⟩, List.mem_of_getElem? (i := 1303) (by decide +kernel), List.mem_of_getElem? (i := 1602) (by decide +kernel), List.mem_of_getElem? (i := 1603) (by decide +kernel)⟩
theorem lw_p52 : lw_okq (⟨"PoleSetsModel", "weightBy", "(IJJJ)I"⟩, 49) := ⟨⟨by decide +kernel, by decide +kernel⟩, List.mem_of_getElem? (i := 1303) (by decide +kernel), List.mem_of_getElem? (i := 1606) (by decide +kernel), List.mem_of_getElem? (i := 1607) (by decide +kernel)⟩
theorem lw_p53 : lw_okq (⟨"PoleSetsModel", "sums", "(JJJIZ)V"⟩, 49) := ⟨⟨by decide +kernel, by decide +kernel⟩, List.mem_of_getElem? (i := 1303) (by decide +kernel), List.mem_of_getElem? (i := 1617) (by decide +kernel), List.mem_of_getElem? (i := 1618) (by decide +kernel)⟩
theorem lw_p54 : lw_okq (⟨"PoleSetsModel", "laysMean", "()Z"⟩, 49) := ⟨⟨by decide +kernel, by decide +kernel⟩, List.mem_of_getElem? (i := 1303) (by decide +kernel), List.mem_of_getElem? (i := 1621) (by decide +kernel), List.mem_of_getElem? (i := 1622) (by decide +kernel)⟩
theorem lw_p55 : lw_okq (⟨"PoleSetsModel", "turnsUp", "()V"⟩, 49) := ⟨⟨by decide +kernel, by decide +kernel⟩, List.mem_of_getElem? (i := 1303) (by decide +kernel), List.mem_of_getElem? (i := 1625) (by decide +kernel), List.mem_of_getElem? (i := 1626) (by decide +kernel)⟩
theorem lw_p56 : lw_okq (⟨"PoleSetsModel", "layMean", "(I)V"⟩, 49) := ⟨⟨by decide +kernel, by decide +kernel⟩, List.mem_of_getElem? (i := 1303) (by decide +kernel), List.mem_of_getElem? (i := 1629) (by decide +kernel), List.mem_of_getElem? (i := 1630) (by decide +kernel)⟩
theorem lw_p57 : lw_okq (⟨"PoleSetsModel", "directionOfVector", "()I"⟩, 49) := ⟨⟨by decide +kernel, by decide +kernel⟩, List.mem_of_getElem? (i := 1303) (by decide +kernel), List.mem_of_getElem? (i := 1633) (by decide +kernel), List.mem_of_getElem? (i := 1634) (by decide +kernel)⟩
theorem lw_p58 : lw_okq (⟨"PoleSetsModel", "trendOf", "()I"⟩, 49) := ⟨⟨by decide +kernel, by decide +kernel⟩, List.mem_of_getElem? (i := 1303) (by decide +kernel), List.mem_of_getElem? (i := 1637) (by decide +kernel), List.mem_of_getElem? (i := 1638) (by decide +kernel)⟩
theorem lw_p59 : lw_okq (⟨"PoleSetsModel", "dipOfVector", "()I"⟩, 49) := ⟨⟨by decide +kernel, by decide +kernel⟩, List.mem_of_getElem? (i := 1303) (by decide +kernel), List.mem_of_getElem? (i := 1641) (by decide +kernel), List.mem_of_getElem? (i := 1642) (by decide +kernel)⟩
theorem lw_p60 : lw_okq (⟨"PoleSetsModel", "outOf", "(I)I"⟩, 49) := ⟨⟨by decide +kernel, by decide +kernel⟩, List.mem_of_getElem? (i := 1303) (by decide +kernel), List.mem_of_getElem? (i := 1645) (by decide +kernel), List.mem_of_getElem? (i := 1646) (by decide +kernel)⟩
theorem lw_p61 : lw_okq (⟨"PoleSetsModel", "laysWedge", "(II)Z"⟩, 49) := ⟨⟨by decide +kernel, by decide +kernel⟩, List.mem_of_getElem? (i := 1303) (by decide +kernel), List.mem_of_getElem? (i := 1649) (by decide +kernel), List.mem_of_getElem? (i := 1650) (by decide +kernel)⟩
theorem lw_p62 : lw_okq (⟨"PoleSetsModel", "crossesMeans", "(II)V"⟩, 49) := ⟨⟨by decide +kernel, by decide +kernel⟩, List.mem_of_getElem? (i := 1303) (by decide +kernel), List.mem_of_getElem? (i := 1654) (by decide +kernel), List.mem_of_getElem? (i := 1655) (by decide +kernel)⟩
theorem lw_p63 : lw_okq (⟨"PoleSetsModel", "laysCross", "(JJJJJJ)V"⟩, 49) := ⟨⟨by decide +kernel, by decide +kernel⟩, List.mem_of_getElem? (i := 1303) (by decide +kernel), List.mem_of_getElem? (i := 1658) (by decide +kernel), List.mem_of_getElem? (i := 1659) (by decide +kernel)⟩
def lw_privs_4 : List (MethodName × Nat) := [(⟨"PoleSetsModel", "nearIn", "(II)I"⟩, 49), (⟨"PoleSetsModel", "laysSum", "([IIJJJ)V"⟩, 49), (⟨"PoleSetsModel", "beginsSum", "()V"⟩, 49), (⟨"PoleSetsModel", "weight", "(I)I"⟩, 49), (⟨"PoleSetsModel", "weightBy", "(IJJJ)I"⟩, 49), (⟨"PoleSetsModel", "sums", "(JJJIZ)V"⟩, 49), (⟨"PoleSetsModel", "laysMean", "()Z"⟩, 49), (⟨"PoleSetsModel", "turnsUp", "()V"⟩, 49), (⟨"PoleSetsModel", "layMean", "(I)V"⟩, 49), (⟨"PoleSetsModel", "directionOfVector", "()I"⟩, 49), (⟨"PoleSetsModel", "trendOf", "()I"⟩, 49), (⟨"PoleSetsModel", "dipOfVector", "()I"⟩, 49), (⟨"PoleSetsModel", "outOf", "(I)I"⟩, 49), (⟨"PoleSetsModel", "laysWedge", "(II)Z"⟩, 49), (⟨"PoleSetsModel", "crossesMeans", "(II)V"⟩, 49), (⟨"PoleSetsModel", "laysCross", "(JJJJJJ)V"⟩, 49)]
theorem lw_r4 : ∀ q ∈ lw_privs_4, lw_okq q := List.forall_mem_cons.mpr ⟨lw_p48, List.forall_mem_cons.mpr ⟨lw_p49, List.forall_mem_cons.mpr ⟨lw_p50, List.forall_mem_cons.mpr ⟨lw_p51, List.forall_mem_cons.mpr ⟨lw_p52, List.forall_mem_cons.mpr ⟨lw_p53, List.forall_mem_cons.mpr ⟨lw_p54, List.forall_mem_cons.mpr ⟨lw_p55, List.forall_mem_cons.mpr ⟨lw_p56, List.forall_mem_cons.mpr ⟨lw_p57, List.forall_mem_cons.mpr ⟨lw_p58, List.forall_mem_cons.mpr ⟨lw_p59, List.forall_mem_cons.mpr ⟨lw_p60, List.forall_mem_cons.mpr ⟨lw_p61, List.forall_mem_cons.mpr ⟨lw_p62, List.forall_mem_cons.mpr ⟨lw_p63, fun _ h => absurd h List.not_mem_nil⟩⟩⟩⟩⟩⟩⟩⟩⟩⟩⟩⟩⟩⟩⟩⟩
theorem lw_p64 : lw_okq (⟨"PoleSetsModel", "plungeOfVector", "()I"⟩, 49) := ⟨⟨by decide +kernel, by decide +kernel⟩, List.mem_of_getElem? (i := 1303) (by decide +kernel), List.mem_of_getElem? (i := 1662) (by decide +kernel), List.mem_of_getElem? (i := 1663) (by decide +kernel)⟩
theorem lw_p65 : lw_okq (⟨"PoleSetsModel", "slidingBy", "(II)I"⟩, 49) := ⟨⟨by decide +kernel, by decide +kernel⟩, List.mem_of_getElem? (i := 1303) (by decide +kernel), List.mem_of_getElem? (i := 1666) (by decide +kernel), List.mem_of_getElem? (i := 1667) (by decide +kernel)⟩
theorem lw_p66 : lw_okq (⟨"PoleSetsModel", "unlikeLies", "()I"⟩, 49) := ⟨⟨by decide +kernel, by decide +kernel⟩, List.mem_of_getElem? (i := 1303) (by decide +kernel), List.mem_of_getElem? (i := 1683) (by decide +kernel), List.mem_of_getElem? (i := 1684) (by decide +kernel)⟩
theorem lw_p67 : lw_okq (⟨"PoleSetsModel", "members", "(I)I"⟩, 49) := ⟨⟨by decide +kernel, by decide +kernel⟩, List.mem_of_getElem? (i := 1303) (by decide +kernel), List.mem_of_getElem? (i := 1687) (by decide +kernel), List.mem_of_getElem? (i := 1688) (by decide +kernel)⟩
theorem lw_p68 : lw_okq (⟨"PoleSetsModel", "alikeTo", "(I)I"⟩, 49) := ⟨⟨by decide +kernel, by decide +kernel⟩, List.mem_of_getElem? (i := 1303) (by decide +kernel), List.mem_of_getElem? (i := 1695) (by decide +kernel), List.mem_of_getElem? (i := 1696) (by decide +kernel)⟩
theorem lw_p69 : lw_okq (⟨"PoleSetsModel", "angleBetween", "(II)I"⟩, 49) := ⟨⟨by decide +kernel, by decide +kernel⟩, List.mem_of_getElem? (i := 1303) (by decide +kernel), List.mem_of_getElem? (i := 1707) (by decide +kernel), List.mem_of_getElem? (i := 1708) (by decide +kernel)⟩
theorem lw_p70 : lw_okq (⟨"PoleSetsModel", "isSet", "(I)Z"⟩, 49) := ⟨⟨by decide +kernel, by decide +kernel⟩, List.mem_of_getElem? (i := 1303) (by decide +kernel), List.mem_of_getElem? (i := 1722) (by decide +kernel), List.mem_of_getElem? (i := 1723) (by decide +kernel)⟩
theorem lw_p71 : lw_okq (⟨"PoleSetsModel", "givesLong", "(J)J"⟩, 49) := ⟨⟨by decide +kernel, by decide +kernel⟩, List.mem_of_getElem? (i := 1303) (by decide +kernel), List.mem_of_getElem? (i := 1726) (by decide +kernel), List.mem_of_getElem? (i := 1727) (by decide +kernel)⟩
theorem lw_p72 : lw_okq (⟨"PoleSetsModel", "longOf", "()J"⟩, 49) := ⟨⟨by decide +kernel, by decide +kernel⟩, List.mem_of_getElem? (i := 1303) (by decide +kernel), List.mem_of_getElem? (i := 1730) (by decide +kernel), List.mem_of_getElem? (i := 1731) (by decide +kernel)⟩
theorem lw_p73 : lw_okq (⟨"PoleSetsModel", "tight", "()I"⟩, 49) := ⟨⟨by decide +kernel, by decide +kernel⟩, List.mem_of_getElem? (i := 1303) (by decide +kernel), List.mem_of_getElem? (i := 1734) (by decide +kernel), List.mem_of_getElem? (i := 1735) (by decide +kernel)⟩
theorem lw_p74 : lw_okq (⟨"PoleSetsModel", "coneOf", "(I)I"⟩, 49) := ⟨⟨by decide +kernel, by decide +kernel⟩, List.mem_of_getElem? (i := 1303) (by decide +kernel), List.mem_of_getElem? (i := 1739) (by decide +kernel), List.mem_of_getElem? (i := 1740) (by decide +kernel)⟩
theorem lw_p75 : lw_okq (⟨"PoleSetsModel", "angleToMean", "(II)I"⟩, 49) := ⟨⟨by decide +kernel, by decide +kernel⟩, List.mem_of_getElem? (i := 1303) (by decide +kernel), List.mem_of_getElem? (i := 1743) (by decide +kernel), List.mem_of_getElem? (i := 1744) (by decide +kernel)⟩
theorem lw_p76 : lw_okq (⟨"PoleSetsModel", "dotWithMean", "(II)J"⟩, 49) := ⟨⟨by decide +kernel, by decide +kernel⟩, List.mem_of_getElem? (i := 1303) (by decide +kernel), List.mem_of_getElem? (i := 1747) (by decide +kernel), List.mem_of_getElem? (i := 1748) (by decide +kernel)⟩
theorem lw_p77 : lw_okq (⟨"PoleSetsModel", "squareOfMean", "(I)J"⟩, 49) := ⟨⟨by decide +kernel, by decide +kernel⟩, List.mem_of_getElem? (i := 1303) (by decide +kernel), List.mem_of_getElem? (i := 1751) (by decide +kernel), List.mem_of_getElem? (i := 1752) (by decide +kernel)⟩
theorem lw_p78 : lw_okq (⟨"PoleSetsModel", "halfOf", "(I)I"⟩, 49) := ⟨⟨by decide +kernel, by decide +kernel⟩, List.mem_of_getElem? (i := 1303) (by decide +kernel), List.mem_of_getElem? (i := 1755) (by decide +kernel), List.mem_of_getElem? (i := 1756) (by decide +kernel)⟩
theorem lw_p79 : lw_okq (⟨"PoleSetsModel", "isNearMean", "(III)Z"⟩, 49) := ⟨⟨by decide +kernel, by decide +kernel⟩, List.mem_of_getElem? (i := 1303) (by decide +kernel), List.mem_of_getElem? (i := 1759) (by decide +kernel), List.mem_of_getElem? (i := 1760) (by decide +kernel)⟩
def lw_privs_5 : List (MethodName × Nat) := [(⟨"PoleSetsModel", "plungeOfVector", "()I"⟩, 49), (⟨"PoleSetsModel", "slidingBy", "(II)I"⟩, 49), (⟨"PoleSetsModel", "unlikeLies", "()I"⟩, 49), (⟨"PoleSetsModel", "members", "(I)I"⟩, 49), (⟨"PoleSetsModel", "alikeTo", "(I)I"⟩, 49), (⟨"PoleSetsModel", "angleBetween", "(II)I"⟩, 49), (⟨"PoleSetsModel", "isSet", "(I)Z"⟩, 49), (⟨"PoleSetsModel", "givesLong", "(J)J"⟩, 49), (⟨"PoleSetsModel", "longOf", "()J"⟩, 49), (⟨"PoleSetsModel", "tight", "()I"⟩, 49), (⟨"PoleSetsModel", "coneOf", "(I)I"⟩, 49), (⟨"PoleSetsModel", "angleToMean", "(II)I"⟩, 49), (⟨"PoleSetsModel", "dotWithMean", "(II)J"⟩, 49), (⟨"PoleSetsModel", "squareOfMean", "(I)J"⟩, 49), (⟨"PoleSetsModel", "halfOf", "(I)I"⟩, 49), (⟨"PoleSetsModel", "isNearMean", "(III)Z"⟩, 49)]
theorem lw_r5 : ∀ q ∈ lw_privs_5, lw_okq q := List.forall_mem_cons.mpr ⟨lw_p64, List.forall_mem_cons.mpr ⟨lw_p65, List.forall_mem_cons.mpr ⟨lw_p66, List.forall_mem_cons.mpr ⟨lw_p67, List.forall_mem_cons.mpr ⟨lw_p68, List.forall_mem_cons.mpr ⟨lw_p69, List.forall_mem_cons.mpr ⟨lw_p70, List.forall_mem_cons.mpr ⟨lw_p71, List.forall_mem_cons.mpr ⟨lw_p72, List.forall_mem_cons.mpr ⟨lw_p73, List.forall_mem_cons.mpr ⟨lw_p74, List.forall_mem_cons.mpr ⟨lw_p75, List.forall_mem_cons.mpr ⟨lw_p76, List.forall_mem_cons.mpr ⟨lw_p77, List.forall_mem_cons.mpr ⟨lw_p78, List.forall_mem_cons.mpr ⟨lw_p79, fun _ h => absurd h List.not_mem_nil⟩⟩⟩⟩⟩⟩⟩⟩⟩⟩⟩⟩⟩⟩⟩⟩
theorem lw_p80 : lw_okq (⟨"PoleSetsModel", "nthOf", "(II)I"⟩, 49) := ⟨⟨by decide +kernel, by decide +kernel⟩, List.mem_of_getElem? (i := 1303) (by decide +kernel), List.mem_of_getElem? (i := 1767) (by decide +kernel), List.mem_of_getElem? (i := 1768) (by decide +kernel)⟩
theorem lw_p81 : lw_okq (⟨"PoleSetsModel", "areSets", "(II)Z"⟩, 49) := ⟨⟨by decide +kernel, by decide +kernel⟩, List.mem_of_getElem? (i := 1303) (by decide +kernel), List.mem_of_getElem? (i := 1779) (by decide +kernel), List.mem_of_getElem? (i := 1780) (by decide +kernel)⟩
theorem lw_p82 : lw_okq (⟨"PoleSetsModel", "angleOfMeans", "(II)I"⟩, 49) := ⟨⟨by decide +kernel, by decide +kernel⟩, List.mem_of_getElem? (i := 1303) (by decide +kernel), List.mem_of_getElem? (i := 1783) (by decide +kernel), List.mem_of_getElem? (i := 1784) (by decide +kernel)⟩
theorem lw_p83 : lw_okq (⟨"PoleSetsModel", "isBridge", "(I)Z"⟩, 49) := ⟨⟨by decide +kernel, by decide +kernel⟩, List.mem_of_getElem? (i := 1303) (by decide +kernel), List.mem_of_getElem? (i := 1807) (by decide +kernel), List.mem_of_getElem? (i := 1808) (by decide +kernel)⟩
theorem lw_p84 : lw_okq (⟨"PoleSetsModel", "nearestTo", "(I)I"⟩, 49) := ⟨⟨by decide +kernel, by decide +kernel⟩, List.mem_of_getElem? (i := 1303) (by decide +kernel), List.mem_of_getElem? (i := 1815) (by decide +kernel), List.mem_of_getElem? (i := 1816) (by decide +kernel)⟩
theorem lw_p85 : lw_okq (⟨"PoleSetsModel", "setsBy", "(I)I"⟩, 49) := ⟨⟨by decide +kernel, by decide +kernel⟩, List.mem_of_getElem? (i := 1303) (by decide +kernel), List.mem_of_getElem? (i := 1823) (by decide +kernel), List.mem_of_getElem? (i := 1824) (by decide +kernel)⟩
theorem lw_p86 : lw_okq (⟨"PoleSetsModel", "settles", "(I)V"⟩, 49) := ⟨⟨by decide +kernel, by decide +kernel⟩, List.mem_of_getElem? (i := 1303) (by decide +kernel), List.mem_of_getElem? (i := 1838) (by decide +kernel), List.mem_of_getElem? (i := 1839) (by decide +kernel)⟩
theorem lw_p87 : lw_okq (⟨"PoleSetsModel", "round", "(I)Z"⟩, 49) := ⟨⟨by decide +kernel, by decide +kernel⟩, List.mem_of_getElem? (i := 1303) (by decide +kernel), List.mem_of_getElem? (i := 1842) (by decide +kernel), List.mem_of_getElem? (i := 1843) (by decide +kernel)⟩
theorem lw_p88 : lw_okq (⟨"PoleSetsModel", "thickAt", "(III)I"⟩, 49) := ⟨⟨by decide +kernel, by decide +kernel⟩, List.mem_of_getElem? (i := 1303) (by decide +kernel), List.mem_of_getElem? (i := 1858) (by decide +kernel), List.mem_of_getElem? (i := 1859) (by decide +kernel)⟩
theorem lw_p89 : lw_okq (⟨"PoleSetsModel", "weights", "()J"⟩, 49) := ⟨⟨by decide +kernel, by decide +kernel⟩, List.mem_of_getElem? (i := 1303) (by decide +kernel), List.mem_of_getElem? (i := 1866) (by decide +kernel), List.mem_of_getElem? (i := 1867) (by decide +kernel)⟩
theorem lw_p90 : lw_okq (⟨"PoleSetsModel", "laysFabric", "()V"⟩, 49) := ⟨⟨by decide +kernel, by decide +kernel⟩, List.mem_of_getElem? (i := 1303) (by decide +kernel), List.mem_of_getElem? (i := 1878) (by decide +kernel), List.mem_of_getElem? (i := 1879) (by decide +kernel)⟩
theorem lw_p91 : lw_okq (⟨"PoleSetsModel", "hasOf", "()J"⟩, 49) := ⟨⟨by decide +kernel, by decide +kernel⟩, List.mem_of_getElem? (i := 1303) (by decide +kernel), List.mem_of_getElem? (i := 1886) (by decide +kernel), List.mem_of_getElem? (i := 1887) (by decide +kernel)⟩
theorem lw_p92 : lw_okq (⟨"PoleSetsModel", "laysSpacing", "(II)Z"⟩, 49) := ⟨⟨by decide +kernel, by decide +kernel⟩, List.mem_of_getElem? (i := 1303) (by decide +kernel), List.mem_of_getElem? (i := 1907) (by decide +kernel), List.mem_of_getElem? (i := 1908) (by decide +kernel)⟩
theorem lw_p93 : lw_okq (⟨"PoleSetsModel", "coefficient", "(IJJJ)J"⟩, 49) := ⟨⟨by decide +kernel, by decide +kernel⟩, List.mem_of_getElem? (i := 1303) (by decide +kernel), List.mem_of_getElem? (i := 1912) (by decide +kernel), List.mem_of_getElem? (i := 1913) (by decide +kernel)⟩
theorem lw_p94 : lw_okq (⟨"PoleSetsModel", "topplingBy", "(II)I"⟩, 49) := ⟨⟨by decide +kernel, by decide +kernel⟩, List.mem_of_getElem? (i := 1303) (by decide +kernel), List.mem_of_getElem? (i := 1936) (by decide +kernel), List.mem_of_getElem? (i := 1937) (by decide +kernel)⟩
theorem lw_p95 : lw_okq (⟨"PoleSetsModel", "wedgesBy", "(II)I"⟩, 49) := ⟨⟨by decide +kernel, by decide +kernel⟩, List.mem_of_getElem? (i := 1303) (by decide +kernel), List.mem_of_getElem? (i := 1940) (by decide +kernel), List.mem_of_getElem? (i := 1941) (by decide +kernel)⟩
def lw_privs_6 : List (MethodName × Nat) := [(⟨"PoleSetsModel", "nthOf", "(II)I"⟩, 49), (⟨"PoleSetsModel", "areSets", "(II)Z"⟩, 49), (⟨"PoleSetsModel", "angleOfMeans", "(II)I"⟩, 49), (⟨"PoleSetsModel", "isBridge", "(I)Z"⟩, 49), (⟨"PoleSetsModel", "nearestTo", "(I)I"⟩, 49), (⟨"PoleSetsModel", "setsBy", "(I)I"⟩, 49), (⟨"PoleSetsModel", "settles", "(I)V"⟩, 49), (⟨"PoleSetsModel", "round", "(I)Z"⟩, 49), (⟨"PoleSetsModel", "thickAt", "(III)I"⟩, 49), (⟨"PoleSetsModel", "weights", "()J"⟩, 49), (⟨"PoleSetsModel", "laysFabric", "()V"⟩, 49), (⟨"PoleSetsModel", "hasOf", "()J"⟩, 49), (⟨"PoleSetsModel", "laysSpacing", "(II)Z"⟩, 49), (⟨"PoleSetsModel", "coefficient", "(IJJJ)J"⟩, 49), (⟨"PoleSetsModel", "topplingBy", "(II)I"⟩, 49), (⟨"PoleSetsModel", "wedgesBy", "(II)I"⟩, 49)]
theorem lw_r6 : ∀ q ∈ lw_privs_6, lw_okq q := List.forall_mem_cons.mpr ⟨lw_p80, List.forall_mem_cons.mpr ⟨lw_p81, List.forall_mem_cons.mpr ⟨lw_p82, List.forall_mem_cons.mpr ⟨lw_p83, List.forall_mem_cons.mpr ⟨lw_p84, List.forall_mem_cons.mpr ⟨lw_p85, List.forall_mem_cons.mpr ⟨lw_p86, List.forall_mem_cons.mpr ⟨lw_p87, List.forall_mem_cons.mpr ⟨lw_p88, List.forall_mem_cons.mpr ⟨lw_p89, List.forall_mem_cons.mpr ⟨lw_p90, List.forall_mem_cons.mpr ⟨lw_p91, List.forall_mem_cons.mpr ⟨lw_p92, List.forall_mem_cons.mpr ⟨lw_p93, List.forall_mem_cons.mpr ⟨lw_p94, List.forall_mem_cons.mpr ⟨lw_p95, fun _ h => absurd h List.not_mem_nil⟩⟩⟩⟩⟩⟩⟩⟩⟩⟩⟩⟩⟩⟩⟩⟩
theorem lw_p96 : lw_okq (⟨"PoleSetsModel", "doesSlide", "(IIII)Z"⟩, 49) := ⟨⟨by decide +kernel, by decide +kernel⟩, List.mem_of_getElem? (i := 1303) (by decide +kernel), List.mem_of_getElem? (i := 1944) (by decide +kernel), List.mem_of_getElem? (i := 1945) (by decide +kernel)⟩
theorem lw_p97 : lw_okq (⟨"PoleSetsModel", "firstWedge", "()I"⟩, 49) := ⟨⟨by decide +kernel, by decide +kernel⟩, List.mem_of_getElem? (i := 1303) (by decide +kernel), List.mem_of_getElem? (i := 1948) (by decide +kernel), List.mem_of_getElem? (i := 1949) (by decide +kernel)⟩
theorem lw_p98 : lw_okq (⟨"PoleSetsModel", "risksBy", "(II)I"⟩, 49) := ⟨⟨by decide +kernel, by decide +kernel⟩, List.mem_of_getElem? (i := 1303) (by decide +kernel), List.mem_of_getElem? (i := 1960) (by decide +kernel), List.mem_of_getElem? (i := 1961) (by decide +kernel)⟩
theorem lw_p99 : lw_okq (⟨"PoleSetsModel", "folded", "(IIII)I"⟩, 49) := ⟨⟨by decide +kernel, by decide +kernel⟩, List.mem_of_getElem? (i := 1303) (by decide +kernel), List.mem_of_getElem? (i := 1972) (by decide +kernel), List.mem_of_getElem? (i := 1973) (by decide +kernel)⟩
theorem lw_p100 : lw_okq (⟨"PoleSetsModel", "laysTurned", "(JJJII)V"⟩, 49) := ⟨⟨by decide +kernel, by decide +kernel⟩, List.mem_of_getElem? (i := 1303) (by decide +kernel), List.mem_of_getElem? (i := 1976) (by decide +kernel), List.mem_of_getElem? (i := 1977) (by decide +kernel)⟩
def lw_privs_7 : List (MethodName × Nat) := [(⟨"PoleSetsModel", "doesSlide", "(IIII)Z"⟩, 49), (⟨"PoleSetsModel", "firstWedge", "()I"⟩, 49), (⟨"PoleSetsModel", "risksBy", "(II)I"⟩, 49), (⟨"PoleSetsModel", "folded", "(IIII)I"⟩, 49), (⟨"PoleSetsModel", "laysTurned", "(JJJII)V"⟩, 49)]
theorem lw_r7 : ∀ q ∈ lw_privs_7, lw_okq q := List.forall_mem_cons.mpr ⟨lw_p96, List.forall_mem_cons.mpr ⟨lw_p97, List.forall_mem_cons.mpr ⟨lw_p98, List.forall_mem_cons.mpr ⟨lw_p99, List.forall_mem_cons.mpr ⟨lw_p100, fun _ h => absurd h List.not_mem_nil⟩⟩⟩⟩⟩
def lw_privs : List (MethodName × Nat) := lw_privs_1 ++ (lw_privs_2 ++ (lw_privs_3 ++ (lw_privs_4 ++ (lw_privs_5 ++ (lw_privs_6 ++ (lw_privs_7))))))
def lw_tbl : List Cond := k2_sels lw_privs ++ tables_1
theorem lw_privs_ok : ∀ q ∈ lw_privs, lw_okq q := by
  show ∀ q ∈ lw_privs_1 ++ (lw_privs_2 ++ (lw_privs_3 ++ (lw_privs_4 ++ (lw_privs_5 ++ (lw_privs_6 ++ (lw_privs_7)))))), lw_okq q
  exact List.forall_mem_append.mpr ⟨lw_r1, List.forall_mem_append.mpr ⟨lw_r2, List.forall_mem_append.mpr ⟨lw_r3, List.forall_mem_append.mpr ⟨lw_r4, List.forall_mem_append.mpr ⟨lw_r5, List.forall_mem_append.mpr ⟨lw_r6, lw_r7⟩⟩⟩⟩⟩⟩
end
section
/-! the program as tables: classes, fields, links, methods, calls, constants, the order in which cells are made -/
def cnmL : List String := ["PoleSets$Vector", "PoleSets$Crack", "PoleSets$Group", "PoleSets$Gather", "PoleSets$Folding", "PoleSets$Circle", "PoleSets$Settling", "PoleSets$Hazards", "PoleSets$Survey", "PoleSets$Scan", "PoleSets$Grouping", "PoleSets", "PoleSetsModel", "PoleSetsLaw", "java/lang/Math", "java/lang/Integer"]
def cName (c : Nat) : String := cnmL.getD c ""
def fldsL : List (List (String × String × Bool)) := [
  [("x", "J", false), ("y", "J", false), ("z", "J", false)],
  [("slot", "I", true), ("pole", "LPoleSets$Vector;", true), ("line", "I", false), ("direction", "I", false), ("dip", "I", false), ("at", "I", false), ("plain", "I", false), ("lie", "I", false), ("weight", "I", false)],
  [("gather", "LPoleSets$Gather;", true), ("seedPole", "LPoleSets$Vector;", true), ("mean", "LPoleSets$Vector;", true), ("size", "I", false), ("leastLie", "I", false), ("measured", "Z", false), ("seed", "I", false), ("direction", "I", false), ("dip", "I", false), ("cone", "I", false), ("half", "I", false)],
  [("sum", "LPoleSets$Vector;", true), ("mass", "J", false)],
  [("survey", "LPoleSets$Survey;", true), ("grouping", "LPoleSets$Grouping;", true), ("circle", "LPoleSets$Circle;", true), ("axle", "LPoleSets$Vector;", true), ("aside", "LPoleSets$Vector;", true), ("turned", "LPoleSets$Vector;", true), ("guide", "LPoleSets$Vector;", true), ("gather", "LPoleSets$Gather;", true)],
  [("sines", "[I", true)],
  [("survey", "LPoleSets$Survey;", true), ("grouping", "LPoleSets$Grouping;", true), ("circle", "LPoleSets$Circle;", true), ("places", "[I", true), ("means", "[LPoleSets$Vector;", true), ("gather", "LPoleSets$Gather;", true), ("rounds", "I", false), ("reach", "I", false), ("edition", "I", false)],
  [("grouping", "LPoleSets$Grouping;", true), ("circle", "LPoleSets$Circle;", true), ("edge", "LPoleSets$Vector;", true), ("trends", "[I", true), ("plunges", "[I", true), ("facing", "I", false), ("steepness", "I", false), ("friction", "I", false), ("side", "I", false), ("edition", "I", false)],
  [("circle", "LPoleSets$Circle;", true), ("trends", "[I", true), ("plunges", "[I", true), ("lengths", "[I", true), ("arrows", "[LPoleSets$Vector;", true), ("cracks", "[LPoleSets$Crack;", true), ("angles", "[I", true), ("lines", "I", false), ("count", "I", false), ("cap", "I", false), ("edition", "I", false)],
  [("survey", "LPoleSets$Survey;", true), ("circle", "LPoleSets$Circle;", true), ("trial", "LPoleSets$Vector;", true), ("weft", "[J", true), ("girdle", "[I", true), ("cluster", "[I", true), ("bestLine", "[I", true), ("thickest", "[I", true), ("weftEdition", "I", false), ("axesEdition", "I", false), ("lineEdition", "I", false), ("thickEdition", "I", false), ("thickAngle", "I", false)],
  [("survey", "LPoleSets$Survey;", true), ("circle", "LPoleSets$Circle;", true), ("places", "[I", true), ("groups", "[LPoleSets$Group;", true), ("means", "[LPoleSets$Vector;", true), ("heapOf", "[I", true), ("heapSizes", "[I", true), ("heapLies", "[I", true), ("queue", "[I", true), ("links", "[I", true), ("setsBy", "[I", true), ("massAt", "[I", true), ("link", "I", false), ("least", "I", false), ("sets", "I", false), ("edition", "I", false), ("bridgeEdition", "I", false), ("bridgeCount", "I", false), ("firstBridge", "I", false)],
  [("circle", "LPoleSets$Circle;", true), ("survey", "LPoleSets$Survey;", true), ("grouping", "LPoleSets$Grouping;", true), ("settling", "LPoleSets$Settling;", true), ("scan", "LPoleSets$Scan;", true), ("hazards", "LPoleSets$Hazards;", true), ("folding", "LPoleSets$Folding;", true), ("asked", "LPoleSets$Vector;", true), ("status", "I", false)],
  [("status", "I", false), ("lines", "I", false), ("cracks", "I", false), ("link", "I", false), ("least", "I", false), ("cap", "I", false), ("slopeDirection", "I", false), ("slopeDip", "I", false), ("friction", "I", false), ("side", "I", false), ("trend", "[I", true), ("plunge", "[I", true), ("length", "[I", true), ("on", "[I", true), ("direction", "[I", true), ("dip", "[I", true), ("place", "[I", true), ("px", "[I", true), ("py", "[I", true), ("pz", "[I", true), ("ax", "[I", true), ("ay", "[I", true), ("az", "[I", true), ("vx", "I", false), ("vy", "I", false), ("vz", "I", false), ("groupOf", "[I", true), ("setOf", "[I", true), ("size", "[I", true), ("leastLie", "[I", true), ("groups", "I", false), ("sets", "I", false), ("sx", "J", false), ("sy", "J", false), ("sz", "J", false), ("mass", "J", false), ("mx", "[I", true), ("my", "[I", true), ("mz", "[I", true), ("settledOf", "[I", true), ("rounds", "I", false), ("fabric", "[J", true), ("gaps", "I", false), ("apparent", "I", false), ("truly", "I", false), ("lieDirection", "[I", true), ("lieDip", "[I", true), ("wedgeTrend", "[I", true), ("wedgePlunge", "[I", true)]]
def ftcL : List (List Nat) := [[1, 1, 1], [0, 2, 0, 0, 0, 0, 0, 0, 0], [2, 2, 2, 0, 0, 3, 0, 0, 0, 0, 0], [2, 1], [2, 2, 2, 2, 2, 2, 2, 2], [2], [2, 2, 2, 2, 2, 2, 0, 0, 0], [2, 2, 2, 2, 2, 0, 0, 0, 0, 0], [2, 2, 2, 2, 2, 2, 2, 0, 0, 0, 0], [2, 2, 2, 2, 2, 2, 2, 2, 0, 0, 0, 0, 0], [2, 2, 2, 2, 2, 2, 2, 2, 2, 2, 2, 2, 0, 0, 0, 0, 0, 0, 0], [2, 2, 2, 2, 2, 2, 2, 2, 0], [0, 0, 0, 0, 0, 0, 0, 0, 0, 0, 2, 2, 2, 2, 2, 2, 2, 2, 2, 2, 2, 2, 2, 0, 0, 0, 2, 2, 2, 2, 0, 0, 1, 1, 1, 1, 2, 2, 2, 2, 0, 2, 0, 0, 0, 2, 2, 2, 2]]
def fQ (c k : Nat) : String × String × Bool := (fldsL.getD c []).getD k ("", "", false)
def fT (c : Nat) : u_T := fun k => (cName c, (fQ c k).1, (fQ c k).2.1, (fQ c k).2.2)
def nf (c : Nat) : Nat := (fldsL.getD c []).length
def ftc (c k : Nat) : Nat := (ftcL.getD c []).getD k 9
def fTy (c k : Nat) : FieldType := (parseFieldDescriptor (fQ c k).2.1).getD .int
def clsV : List vw_C := (List.range 13).map fun c => (cName c, fT c, nf c)
def fldL : List (List (Nat × Nat × Nat × Nat)) := [
  [(9, 0, 0, 161), (15, 0, 1, 166), (18, 0, 2, 171)],
  [(7, 1, 0, 192), (16, 1, 1, 194), (20, 1, 3, 204), (23, 1, 4, 205), (32, 1, 6, 210), (38, 1, 7, 212), (41, 1, 2, 201), (44, 1, 5, 207), (47, 1, 8, 216)],
  [(10, 2, 0, 324), (19, 2, 1, 326), (23, 2, 2, 328), (26, 2, 3, 331), (30, 2, 4, 333), (33, 2, 5, 335), (37, 3, 1, 315), (41, 2, 7, 339), (44, 2, 8, 342), (55, 2, 9, 346), (58, 2, 10, 348), (61, 2, 6, 337)],
  [(12, 3, 0, 313), (22, 3, 1, 314), (30, 0, 0, 164), (33, 0, 1, 169), (36, 0, 2, 174)],
  [(9, 4, 0, 593), (15, 4, 1, 594), (19, 4, 2, 595), (26, 4, 3, 596), (30, 4, 4, 597), (33, 4, 5, 598), (36, 4, 6, 599), (42, 4, 7, 600), (65, 0, 0, 162), (69, 0, 1, 167), (72, 0, 2, 172), (79, 10, 4, 382), (92, 8, 8, 260), (98, 10, 2, 377), (102, 8, 5, 249), (106, 1, 1, 196), (111, 1, 8, 217)],
  [(9, 5, 0, 139), (59, 0, 0, 165), (63, 0, 1, 170), (68, 0, 2, 175)],
  [(9, 6, 0, 457), (15, 6, 1, 458), (19, 6, 2, 459), (23, 6, 3, 460), (29, 6, 4, 462), (40, 6, 5, 464), (44, 6, 8, 468), (48, 8, 10, 264), (51, 6, 7, 467), (57, 6, 6, 465), (67, 8, 8, 258), (70, 10, 2, 376), (73, 10, 14, 397), (76, 10, 4, 383), (81, 8, 5, 250), (85, 1, 1, 197), (108, 1, 8, 219)],
  [(9, 7, 0, 550), (15, 7, 1, 551), (22, 7, 2, 552), (26, 7, 3, 553), (30, 7, 4, 554), (33, 7, 5, 555), (37, 7, 6, 557), (40, 7, 7, 559), (43, 7, 8, 560), (46, 7, 9, 561), (58, 10, 14, 398), (63, 10, 3, 380), (67, 2, 8, 343), (72, 2, 7, 340), (78, 10, 4, 384), (93, 10, 15, 402)],
  [(9, 8, 0, 240), (15, 8, 1, 241), (19, 8, 2, 242), (22, 8, 3, 243), (27, 8, 4, 245), (37, 8, 5, 247), (44, 8, 6, 253), (47, 8, 9, 262), (51, 8, 7, 254), (54, 8, 8, 257), (63, 1, 2, 202), (66, 1, 5, 208), (73, 1, 1, 198), (84, 1, 8, 218), (90, 1, 0, 193), (93, 8, 10, 267), (118, 1, 7, 213), (137, 1, 6, 211), (140, 1, 4, 206)],
  [(9, 9, 0, 496), (15, 9, 1, 497), (22, 9, 2, 498), (26, 9, 3, 499), (30, 9, 4, 501), (34, 9, 5, 503), (37, 9, 6, 505), (40, 9, 7, 507), (43, 9, 8, 509), (47, 9, 9, 510), (50, 9, 10, 511), (53, 9, 11, 512), (56, 8, 10, 265), (61, 8, 8, 256), (64, 8, 5, 248), (68, 1, 1, 195), (73, 1, 8, 215), (88, 0, 0, 163), (92, 0, 1, 168), (95, 0, 2, 173), (134, 9, 12, 513)],
  [(9, 10, 0, 373), (15, 10, 1, 374), (19, 10, 2, 375), (25, 10, 3, 379), (31, 10, 4, 381), (36, 2, 2, 329), (40, 10, 5, 386), (43, 10, 6, 387), (46, 10, 7, 388), (49, 10, 8, 389), (52, 10, 9, 390), (55, 10, 10, 391), (58, 10, 11, 392), (61, 10, 12, 393), (65, 10, 13, 395), (68, 10, 15, 401), (71, 10, 16, 403), (74, 8, 10, 266), (77, 8, 8, 259), (109, 10, 17, 404), (112, 10, 18, 406), (122, 2, 3, 332), (129, 10, 14, 400), (139, 8, 5, 252), (143, 1, 7, 214), (154, 2, 4, 334), (165, 2, 5, 336), (175, 2, 0, 325), (184, 1, 8, 220), (187, 1, 1, 199), (190, 2, 1, 327), (210, 2, 7, 341), (213, 2, 8, 344), (222, 2, 6, 338), (225, 2, 9, 347), (232, 2, 10, 349), (237, 3, 1, 316), (248, 1, 2, 203), (259, 1, 5, 209), (266, 8, 4, 246)],
  [(10, 11, 0, 618), (21, 11, 1, 619), (30, 11, 2, 620), (39, 11, 3, 621), (46, 11, 4, 622), (55, 11, 5, 623), (62, 11, 6, 624), (69, 11, 7, 625), (73, 11, 8, 626), (85, 8, 7, 255), (103, 8, 3, 244), (107, 8, 8, 261), (124, 10, 12, 394), (127, 10, 13, 396), (134, 8, 9, 263), (163, 10, 14, 399), (172, 10, 2, 378), (175, 8, 5, 251), (235, 10, 18, 407), (238, 10, 17, 405), (241, 1, 1, 200), (244, 10, 4, 385), (262, 6, 6, 466), (271, 6, 3, 461), (272, 6, 4, 463), (301, 9, 3, 500), (308, 9, 5, 504), (311, 9, 4, 502), (317, 9, 6, 506), (326, 9, 7, 508), (341, 2, 2, 330), (389, 7, 5, 556), (392, 7, 6, 558), (404, 2, 8, 345)],
  [(7, 12, 3, 1412), (13, 12, 4, 1413), (16, 12, 5, 1414), (19, 12, 7, 1416), (22, 12, 8, 1417), (25, 12, 9, 1418), (28, 12, 10, 1419), (32, 12, 11, 1420), (35, 12, 12, 1421), (38, 12, 13, 1422), (41, 12, 14, 1423), (44, 12, 15, 1424), (47, 12, 16, 1425), (50, 12, 17, 1426), (53, 12, 18, 1427), (56, 12, 19, 1428), (59, 12, 20, 1429), (62, 12, 21, 1430), (65, 12, 22, 1431), (68, 12, 26, 1435), (71, 12, 27, 1436), (74, 12, 28, 1437), (77, 12, 29, 1438), (80, 12, 36, 1445), (83, 12, 37, 1446), (86, 12, 38, 1447), (89, 12, 39, 1448), (92, 12, 41, 1450), (96, 12, 45, 1454), (99, 12, 46, 1455), (102, 12, 47, 1456), (105, 12, 48, 1457), (108, 12, 0, 1409), (127, 12, 23, 1432), (130, 12, 24, 1433), (133, 12, 25, 1434), (186, 12, 1, 1410), (196, 12, 2, 1411), (213, 12, 6, 1415), (226, 12, 30, 1439), (244, 12, 31, 1440), (250, 12, 32, 1441), (254, 12, 33, 1442), (257, 12, 34, 1443), (260, 12, 35, 1444), (378, 12, 40, 1449), (408, 12, 42, 1451), (411, 12, 43, 1452), (418, 12, 44, 1453)],
  [],
  [],
  []]
def fldE (own idx : Nat) : Option (Nat × Nat × Nat × Nat) := (fldL.getD own []).find? (fun q => q.1 == idx)
def fld (own idx : Nat) : Option (Nat × Nat) := (fldE own idx).map (fun q => (q.2.1, q.2.2.1))
def mNmL : List MethodName := [
  ⟨"PoleSets$Vector", "<init>", "()V"⟩,
  ⟨"PoleSets$Vector", "put", "(JJJ)V"⟩,
  ⟨"PoleSets$Vector", "copy", "(LPoleSets$Vector;)V"⟩,
  ⟨"PoleSets$Vector", "number", "(I)J"⟩,
  ⟨"PoleSets$Vector", "dot", "(LPoleSets$Vector;)J"⟩,
  ⟨"PoleSets$Vector", "square", "()J"⟩,
  ⟨"PoleSets$Vector", "isZero", "()Z"⟩,
  ⟨"PoleSets$Vector", "putCross", "(LPoleSets$Vector;LPoleSets$Vector;)V"⟩,
  ⟨"PoleSets$Vector", "turnUp", "()V"⟩,
  ⟨"PoleSets$Crack", "<init>", "(I)V"⟩,
  ⟨"PoleSets$Crack", "lay", "(II)V"⟩,
  ⟨"PoleSets$Crack", "tell", "(I)I"⟩,
  ⟨"PoleSets$Group", "<init>", "()V"⟩,
  ⟨"PoleSets$Group", "begin", "(II)V"⟩,
  ⟨"PoleSets$Group", "tell", "(I)J"⟩,
  ⟨"PoleSets$Gather", "<init>", "()V"⟩,
  ⟨"PoleSets$Gather", "clear", "()V"⟩,
  ⟨"PoleSets$Gather", "add", "(ILPoleSets$Vector;LPoleSets$Vector;)V"⟩,
  ⟨"PoleSets$Gather", "reachOfSum", "()J"⟩,
  ⟨"PoleSets$Gather", "tightness", "()I"⟩,
  ⟨"PoleSets$Gather", "meanInto", "(LPoleSets$Vector;)V"⟩,
  ⟨"PoleSets$Folding", "<init>", "(LPoleSets$Survey;LPoleSets$Grouping;LPoleSets$Circle;)V"⟩,
  ⟨"PoleSets$Folding", "turnInto", "(LPoleSets$Vector;ILPoleSets$Vector;)V"⟩,
  ⟨"PoleSets$Folding", "tightBy", "(IIII)I"⟩,
  ⟨"PoleSets$Circle", "<init>", "()V"⟩,
  ⟨"PoleSets$Circle", "bow", "(I)I"⟩,
  ⟨"PoleSets$Circle", "sine", "(I)I"⟩,
  ⟨"PoleSets$Circle", "cosine", "(I)I"⟩,
  ⟨"PoleSets$Circle", "poleInto", "(IILPoleSets$Vector;)V"⟩,
  ⟨"PoleSets$Circle", "arrowInto", "(IILPoleSets$Vector;)V"⟩,
  ⟨"PoleSets$Circle", "areNear", "(LPoleSets$Vector;LPoleSets$Vector;I)Z"⟩,
  ⟨"PoleSets$Circle", "angleOf", "(LPoleSets$Vector;LPoleSets$Vector;)I"⟩,
  ⟨"PoleSets$Circle", "nearestOf", "(LPoleSets$Vector;[LPoleSets$Vector;I)I"⟩,
  ⟨"PoleSets$Circle", "trendOf", "(LPoleSets$Vector;)I"⟩,
  ⟨"PoleSets$Circle", "levelOf", "(LPoleSets$Vector;I)J"⟩,
  ⟨"PoleSets$Circle", "tiltOf", "(JJ)I"⟩,
  ⟨"PoleSets$Circle", "plungeOf", "(LPoleSets$Vector;I)I"⟩,
  ⟨"PoleSets$Circle", "lieOf", "(LPoleSets$Vector;)I"⟩,
  ⟨"PoleSets$Settling", "<init>", "(LPoleSets$Survey;LPoleSets$Grouping;LPoleSets$Circle;)V"⟩,
  ⟨"PoleSets$Settling", "settle", "(I)V"⟩,
  ⟨"PoleSets$Settling", "begin", "()V"⟩,
  ⟨"PoleSets$Settling", "moveCracks", "()Z"⟩,
  ⟨"PoleSets$Settling", "placeFor", "(LPoleSets$Vector;)I"⟩,
  ⟨"PoleSets$Settling", "renewMeans", "()V"⟩,
  ⟨"PoleSets$Settling", "countMoved", "()I"⟩,
  ⟨"PoleSets$Settling", "countNowhere", "()I"⟩,
  ⟨"PoleSets$Hazards", "<init>", "(LPoleSets$Grouping;LPoleSets$Circle;)V"⟩,
  ⟨"PoleSets$Hazards", "cut", "(IIII)V"⟩,
  ⟨"PoleSets$Hazards", "off", "(II)I"⟩,
  ⟨"PoleSets$Hazards", "slidingSets", "(II)I"⟩,
  ⟨"PoleSets$Hazards", "topplingSets", "(II)I"⟩,
  ⟨"PoleSets$Hazards", "wedgeInto", "(IILPoleSets$Vector;)Z"⟩,
  ⟨"PoleSets$Hazards", "findWedges", "()V"⟩,
  ⟨"PoleSets$Hazards", "wedgeSlides", "(III)Z"⟩,
  ⟨"PoleSets$Hazards", "countWedges", "(II)I"⟩,
  ⟨"PoleSets$Hazards", "firstCouple", "()I"⟩,
  ⟨"PoleSets$Hazards", "countAll", "(II)I"⟩,
  ⟨"PoleSets$Hazards", "holding", "(I)I"⟩,
  ⟨"PoleSets$Survey", "<init>", "(LPoleSets$Circle;)V"⟩,
  ⟨"PoleSets$Survey", "hasLine", "(I)Z"⟩,
  ⟨"PoleSets$Survey", "hasCrack", "(I)Z"⟩,
  ⟨"PoleSets$Survey", "addLine", "(III)I"⟩,
  ⟨"PoleSets$Survey", "addCrack", "(IIII)I"⟩,
  ⟨"PoleSets$Survey", "removeCrack", "(I)V"⟩,
  ⟨"PoleSets$Survey", "weighBy", "(I)V"⟩,
  ⟨"PoleSets$Survey", "weightBy", "(LPoleSets$Vector;LPoleSets$Vector;)I"⟩,
  ⟨"PoleSets$Survey", "angleBetween", "(II)I"⟩,
  ⟨"PoleSets$Survey", "countNear", "(II)I"⟩,
  ⟨"PoleSets$Survey", "countAlike", "(I)I"⟩,
  ⟨"PoleSets$Survey", "countLies", "()I"⟩,
  ⟨"PoleSets$Survey", "isFirstOfItsLie", "(I)Z"⟩,
  ⟨"PoleSets$Survey", "tellLine", "(II)I"⟩,
  ⟨"PoleSets$Survey", "countOnLine", "(I)I"⟩,
  ⟨"PoleSets$Survey", "massOfAll", "()J"⟩,
  ⟨"PoleSets$Survey", "thickAt", "(LPoleSets$Vector;I)I"⟩,
  ⟨"PoleSets$Survey", "inPetal", "(IZ)I"⟩,
  ⟨"PoleSets$Survey", "blindLines", "(LPoleSets$Vector;I)I"⟩,
  ⟨"PoleSets$Scan", "<init>", "(LPoleSets$Survey;LPoleSets$Circle;)V"⟩,
  ⟨"PoleSets$Scan", "weave", "()V"⟩,
  ⟨"PoleSets$Scan", "addToWeft", "(LPoleSets$Vector;J)V"⟩,
  ⟨"PoleSets$Scan", "shareOf", "(LPoleSets$Vector;)J"⟩,
  ⟨"PoleSets$Scan", "findAxes", "()V"⟩,
  ⟨"PoleSets$Scan", "putPair", "([III)V"⟩,
  ⟨"PoleSets$Scan", "findBestLine", "()V"⟩,
  ⟨"PoleSets$Scan", "weightsBy", "(LPoleSets$Vector;)I"⟩,
  ⟨"PoleSets$Scan", "findThickest", "(I)V"⟩,
  ⟨"PoleSets$Grouping", "<init>", "(LPoleSets$Survey;LPoleSets$Circle;)V"⟩,
  ⟨"PoleSets$Grouping", "groupBy", "(II)V"⟩,
  ⟨"PoleSets$Grouping", "spread", "(IIII)I"⟩,
  ⟨"PoleSets$Grouping", "scatter", "()V"⟩,
  ⟨"PoleSets$Grouping", "heapUp", "(II)I"⟩,
  ⟨"PoleSets$Grouping", "countSets", "(II)I"⟩,
  ⟨"PoleSets$Grouping", "countBy", "(I)I"⟩,
  ⟨"PoleSets$Grouping", "leastLink", "(II)I"⟩,
  ⟨"PoleSets$Grouping", "nearestOpen", "(I)I"⟩,
  ⟨"PoleSets$Grouping", "findBridges", "()V"⟩,
  ⟨"PoleSets$Grouping", "isBridge", "(I)Z"⟩,
  ⟨"PoleSets$Grouping", "refresh", "()V"⟩,
  ⟨"PoleSets$Grouping", "findHeapLies", "(I)V"⟩,
  ⟨"PoleSets$Grouping", "numberHeap", "(II)V"⟩,
  ⟨"PoleSets$Grouping", "hasSet", "(I)Z"⟩,
  ⟨"PoleSets$Grouping", "findPlaced", "(II)I"⟩,
  ⟨"PoleSets$Grouping", "countStrays", "()I"⟩,
  ⟨"PoleSets$Grouping", "fingerprint", "()I"⟩,
  ⟨"PoleSets$Grouping", "measureAll", "()V"⟩,
  ⟨"PoleSets$Grouping", "measured", "(I)LPoleSets$Group;"⟩,
  ⟨"PoleSets$Grouping", "measure", "(ILPoleSets$Group;)V"⟩,
  ⟨"PoleSets$Grouping", "findSeed", "(ILPoleSets$Group;)V"⟩,
  ⟨"PoleSets$Grouping", "countAround", "(II)I"⟩,
  ⟨"PoleSets$Grouping", "openCone", "(ILPoleSets$Group;)V"⟩,
  ⟨"PoleSets$Grouping", "angleOfMeans", "(II)I"⟩,
  ⟨"PoleSets$Grouping", "conesMeet", "(II)Z"⟩,
  ⟨"PoleSets$Grouping", "countInCone", "(II)I"⟩,
  ⟨"PoleSets$Grouping", "isOn", "(III)Z"⟩,
  ⟨"PoleSets$Grouping", "countOn", "(II)I"⟩,
  ⟨"PoleSets$Grouping", "apparentGap", "(II)I"⟩,
  ⟨"PoleSets$Grouping", "trueGap", "(II)I"⟩,
  ⟨"PoleSets", "<init>", "()V"⟩,
  ⟨"PoleSets", "status", "()I"⟩,
  ⟨"PoleSets", "line", "(III)I"⟩,
  ⟨"PoleSets", "crack", "(IIII)I"⟩,
  ⟨"PoleSets", "drop", "(I)I"⟩,
  ⟨"PoleSets", "link", "(II)I"⟩,
  ⟨"PoleSets", "cap", "(I)I"⟩,
  ⟨"PoleSets", "slope", "(IIII)I"⟩,
  ⟨"PoleSets", "many", "(I)I"⟩,
  ⟨"PoleSets", "of", "(II)I"⟩,
  ⟨"PoleSets", "along", "(II)I"⟩,
  ⟨"PoleSets", "angle", "(II)I"⟩,
  ⟨"PoleSets", "near", "(II)I"⟩,
  ⟨"PoleSets", "set", "(II)J"⟩,
  ⟨"PoleSets", "member", "(II)I"⟩,
  ⟨"PoleSets", "stray", "(I)I"⟩,
  ⟨"PoleSets", "apart", "(II)I"⟩,
  ⟨"PoleSets", "hangs", "(II)I"⟩,
  ⟨"PoleSets", "overlap", "(III)I"⟩,
  ⟨"PoleSets", "digest", "()I"⟩,
  ⟨"PoleSets", "without", "(I)I"⟩,
  ⟨"PoleSets", "bridges", "(I)I"⟩,
  ⟨"PoleSets", "nearestSet", "(II)I"⟩,
  ⟨"PoleSets", "would", "(I)I"⟩,
  ⟨"PoleSets", "linkFor", "(I)I"⟩,
  ⟨"PoleSets", "settled", "(II)I"⟩,
  ⟨"PoleSets", "settledIn", "(II)I"⟩,
  ⟨"PoleSets", "settledLie", "(II)I"⟩,
  ⟨"PoleSets", "thick", "(III)I"⟩,
  ⟨"PoleSets", "excess", "(III)I"⟩,
  ⟨"PoleSets", "rose", "(II)I"⟩,
  ⟨"PoleSets", "fabric", "(I)I"⟩,
  ⟨"PoleSets", "axis", "(ZI)I"⟩,
  ⟨"PoleSets", "nextLine", "(I)I"⟩,
  ⟨"PoleSets", "blind", "(III)I"⟩,
  ⟨"PoleSets", "peak", "(II)I"⟩,
  ⟨"PoleSets", "spacing", "(III)I"⟩,
  ⟨"PoleSets", "meets", "(IIIII)I"⟩,
  ⟨"PoleSets", "block", "(IIIIII)J"⟩,
  ⟨"PoleSets", "wedge", "(III)I"⟩,
  ⟨"PoleSets", "risk", "(I)I"⟩,
  ⟨"PoleSets", "safety", "(I)I"⟩,
  ⟨"PoleSets", "safest", "(I)I"⟩,
  ⟨"PoleSets", "steepest", "()I"⟩,
  ⟨"PoleSets", "fold", "(IIII)I"⟩,
  ⟨"PoleSets", "unfold", "(IIII)I"⟩,
  ⟨"PoleSets", "answer", "(I)I"⟩,
  ⟨"PoleSets", "refuse", "(I)I"⟩,
  ⟨"PoleSets", "answerOrNothing", "(I)I"⟩,
  ⟨"PoleSets", "areTwoSets", "(II)Z"⟩,
  ⟨"PoleSets", "within", "(III)Z"⟩,
  ⟨"PoleSets", "isLie", "(II)Z"⟩,
  ⟨"PoleSets", "isLine", "(III)Z"⟩,
  ⟨"PoleSets", "parted", "(JJ)J"⟩,
  ⟨"PoleSets", "root", "(J)J"⟩,
  ⟨"PoleSets", "slant", "(LPoleSets$Vector;LPoleSets$Vector;)J"⟩,
  ⟨"PoleSets", "plainDirection", "(II)I"⟩,
  ⟨"PoleSets", "lieNumber", "(II)I"⟩,
  ⟨"PoleSets", "fillWithVectors", "([LPoleSets$Vector;)V"⟩,
  ⟨"PoleSetsModel", "<init>", "()V"⟩,
  ⟨"PoleSetsModel", "status", "()I"⟩,
  ⟨"PoleSetsModel", "refuse", "(I)I"⟩,
  ⟨"PoleSetsModel", "gives", "(I)I"⟩,
  ⟨"PoleSetsModel", "givesLong", "(J)J"⟩,
  ⟨"PoleSetsModel", "isFrom", "(III)Z"⟩,
  ⟨"PoleSetsModel", "sine", "(I)I"⟩,
  ⟨"PoleSetsModel", "cosine", "(I)I"⟩,
  ⟨"PoleSetsModel", "root", "(J)J"⟩,
  ⟨"PoleSetsModel", "plainDirection", "(II)I"⟩,
  ⟨"PoleSetsModel", "laysPole", "(II)V"⟩,
  ⟨"PoleSetsModel", "laysArrow", "(II)V"⟩,
  ⟨"PoleSetsModel", "dot", "(JJJJJJ)J"⟩,
  ⟨"PoleSetsModel", "square", "(JJJ)J"⟩,
  ⟨"PoleSetsModel", "isNear", "(JJI)Z"⟩,
  ⟨"PoleSetsModel", "angleOf", "(JJ)I"⟩,
  ⟨"PoleSetsModel", "dotOf", "(II)J"⟩,
  ⟨"PoleSetsModel", "squareOf", "(I)J"⟩,
  ⟨"PoleSetsModel", "angleBetween", "(II)I"⟩,
  ⟨"PoleSetsModel", "areNear", "(III)Z"⟩,
  ⟨"PoleSetsModel", "weightBy", "(IJJJ)I"⟩,
  ⟨"PoleSetsModel", "weight", "(I)I"⟩,
  ⟨"PoleSetsModel", "line", "(III)I"⟩,
  ⟨"PoleSetsModel", "isLie", "(II)Z"⟩,
  ⟨"PoleSetsModel", "isLine", "(I)Z"⟩,
  ⟨"PoleSetsModel", "isCrack", "(I)Z"⟩,
  ⟨"PoleSetsModel", "crack", "(IIII)I"⟩,
  ⟨"PoleSetsModel", "drop", "(I)I"⟩,
  ⟨"PoleSetsModel", "link", "(II)I"⟩,
  ⟨"PoleSetsModel", "cap", "(I)I"⟩,
  ⟨"PoleSetsModel", "slope", "(IIII)I"⟩,
  ⟨"PoleSetsModel", "lieOf", "(I)I"⟩,
  ⟨"PoleSetsModel", "laysGroups", "(II)V"⟩,
  ⟨"PoleSetsModel", "bigGroups", "()I"⟩,
  ⟨"PoleSetsModel", "laysSets", "()V"⟩,
  ⟨"PoleSetsModel", "members", "(I)I"⟩,
  ⟨"PoleSetsModel", "nearIn", "(II)I"⟩,
  ⟨"PoleSetsModel", "seedOf", "(I)I"⟩,
  ⟨"PoleSetsModel", "beginsSum", "()V"⟩,
  ⟨"PoleSetsModel", "sums", "(JJJIZ)V"⟩,
  ⟨"PoleSetsModel", "laysSum", "([IIJJJ)V"⟩,
  ⟨"PoleSetsModel", "laysMean", "()Z"⟩,
  ⟨"PoleSetsModel", "turnsUp", "()V"⟩,
  ⟨"PoleSetsModel", "laysSumOf", "(I)V"⟩,
  ⟨"PoleSetsModel", "laysMeanOf", "(I)V"⟩,
  ⟨"PoleSetsModel", "laysMeans", "()V"⟩,
  ⟨"PoleSetsModel", "layMean", "(I)V"⟩,
  ⟨"PoleSetsModel", "trendOf", "()I"⟩,
  ⟨"PoleSetsModel", "outOf", "(I)I"⟩,
  ⟨"PoleSetsModel", "dipOfVector", "()I"⟩,
  ⟨"PoleSetsModel", "directionOfVector", "()I"⟩,
  ⟨"PoleSetsModel", "longOf", "()J"⟩,
  ⟨"PoleSetsModel", "tight", "()I"⟩,
  ⟨"PoleSetsModel", "squareOfMean", "(I)J"⟩,
  ⟨"PoleSetsModel", "dotWithMean", "(II)J"⟩,
  ⟨"PoleSetsModel", "angleToMean", "(II)I"⟩,
  ⟨"PoleSetsModel", "isNearMean", "(III)Z"⟩,
  ⟨"PoleSetsModel", "coneOf", "(I)I"⟩,
  ⟨"PoleSetsModel", "halfOf", "(I)I"⟩,
  ⟨"PoleSetsModel", "isSet", "(I)Z"⟩,
  ⟨"PoleSetsModel", "areSets", "(II)Z"⟩,
  ⟨"PoleSetsModel", "unlikeLies", "()I"⟩,
  ⟨"PoleSetsModel", "many", "(I)I"⟩,
  ⟨"PoleSetsModel", "alikeTo", "(I)I"⟩,
  ⟨"PoleSetsModel", "of", "(II)I"⟩,
  ⟨"PoleSetsModel", "along", "(II)I"⟩,
  ⟨"PoleSetsModel", "angle", "(II)I"⟩,
  ⟨"PoleSetsModel", "near", "(II)I"⟩,
  ⟨"PoleSetsModel", "set", "(II)J"⟩,
  ⟨"PoleSetsModel", "nthOf", "(II)I"⟩,
  ⟨"PoleSetsModel", "member", "(II)I"⟩,
  ⟨"PoleSetsModel", "stray", "(I)I"⟩,
  ⟨"PoleSetsModel", "angleOfMeans", "(II)I"⟩,
  ⟨"PoleSetsModel", "apart", "(II)I"⟩,
  ⟨"PoleSetsModel", "hangs", "(II)I"⟩,
  ⟨"PoleSetsModel", "overlap", "(III)I"⟩,
  ⟨"PoleSetsModel", "digest", "()I"⟩,
  ⟨"PoleSetsModel", "without", "(I)I"⟩,
  ⟨"PoleSetsModel", "isBridge", "(I)Z"⟩,
  ⟨"PoleSetsModel", "bridges", "(I)I"⟩,
  ⟨"PoleSetsModel", "nearestTo", "(I)I"⟩,
  ⟨"PoleSetsModel", "nearestSet", "(II)I"⟩,
  ⟨"PoleSetsModel", "setsBy", "(I)I"⟩,
  ⟨"PoleSetsModel", "would", "(I)I"⟩,
  ⟨"PoleSetsModel", "linkFor", "(I)I"⟩,
  ⟨"PoleSetsModel", "round", "(I)Z"⟩,
  ⟨"PoleSetsModel", "settles", "(I)V"⟩,
  ⟨"PoleSetsModel", "isReach", "(I)Z"⟩,
  ⟨"PoleSetsModel", "settled", "(II)I"⟩,
  ⟨"PoleSetsModel", "settledIn", "(II)I"⟩,
  ⟨"PoleSetsModel", "settledLie", "(II)I"⟩,
  ⟨"PoleSetsModel", "weights", "()J"⟩,
  ⟨"PoleSetsModel", "thickAt", "(III)I"⟩,
  ⟨"PoleSetsModel", "thick", "(III)I"⟩,
  ⟨"PoleSetsModel", "excess", "(III)I"⟩,
  ⟨"PoleSetsModel", "rose", "(II)I"⟩,
  ⟨"PoleSetsModel", "laysFabric", "()V"⟩,
  ⟨"PoleSetsModel", "fabric", "(I)I"⟩,
  ⟨"PoleSetsModel", "hasOf", "()J"⟩,
  ⟨"PoleSetsModel", "axis", "(ZI)I"⟩,
  ⟨"PoleSetsModel", "nextLine", "(I)I"⟩,
  ⟨"PoleSetsModel", "blind", "(III)I"⟩,
  ⟨"PoleSetsModel", "peak", "(II)I"⟩,
  ⟨"PoleSetsModel", "coefficient", "(IJJJ)J"⟩,
  ⟨"PoleSetsModel", "laysSpacing", "(II)Z"⟩,
  ⟨"PoleSetsModel", "spacing", "(III)I"⟩,
  ⟨"PoleSetsModel", "meets", "(IIIII)I"⟩,
  ⟨"PoleSetsModel", "laysCross", "(JJJJJJ)V"⟩,
  ⟨"PoleSetsModel", "crossesMeans", "(II)V"⟩,
  ⟨"PoleSetsModel", "isLength", "(I)Z"⟩,
  ⟨"PoleSetsModel", "block", "(IIIIII)J"⟩,
  ⟨"PoleSetsModel", "laysWedge", "(II)Z"⟩,
  ⟨"PoleSetsModel", "plungeOfVector", "()I"⟩,
  ⟨"PoleSetsModel", "wedge", "(III)I"⟩,
  ⟨"PoleSetsModel", "off", "(II)I"⟩,
  ⟨"PoleSetsModel", "ones", "(I)I"⟩,
  ⟨"PoleSetsModel", "laysLies", "()V"⟩,
  ⟨"PoleSetsModel", "sliding", "()I"⟩,
  ⟨"PoleSetsModel", "slidingBy", "(II)I"⟩,
  ⟨"PoleSetsModel", "topplingBy", "(II)I"⟩,
  ⟨"PoleSetsModel", "doesSlide", "(IIII)Z"⟩,
  ⟨"PoleSetsModel", "wedgesBy", "(II)I"⟩,
  ⟨"PoleSetsModel", "firstWedge", "()I"⟩,
  ⟨"PoleSetsModel", "risk", "(I)I"⟩,
  ⟨"PoleSetsModel", "safety", "(I)I"⟩,
  ⟨"PoleSetsModel", "risksBy", "(II)I"⟩,
  ⟨"PoleSetsModel", "safest", "(I)I"⟩,
  ⟨"PoleSetsModel", "steepest", "()I"⟩,
  ⟨"PoleSetsModel", "laysTurned", "(JJJII)V"⟩,
  ⟨"PoleSetsModel", "folded", "(IIII)I"⟩,
  ⟨"PoleSetsModel", "fold", "(IIII)I"⟩,
  ⟨"PoleSetsModel", "unfold", "(IIII)I"⟩,
  ⟨"java/lang/Integer", "bitCount", "(I)I"⟩,
  x]
def mCdL : List ByteArray := [prog_12_method_1_code, prog_12_method_2_code, prog_12_method_3_code, prog_12_method_4_code, prog_12_method_5_code, prog_12_method_6_code, prog_12_method_7_code, prog_12_method_8_code, prog_12_method_9_code, prog_3_method_1_code, prog_3_method_2_code, prog_3_method_3_code, prog_6_method_1_code, prog_6_method_2_code, prog_6_method_3_code, prog_5_method_1_code, prog_5_method_2_code, prog_5_method_3_code, prog_5_method_4_code, prog_5_method_5_code, prog_5_method_6_code, prog_4_method_1_code, prog_4_method_2_code, prog_4_method_3_code, prog_2_method_1_code, prog_2_method_2_code, prog_2_method_3_code, prog_2_method_4_code, prog_2_method_5_code, prog_2_method_6_code, prog_2_method_7_code, prog_2_method_8_code, prog_2_method_9_code, prog_2_method_10_code, prog_2_method_11_code, prog_2_method_12_code, prog_2_method_13_code, prog_2_method_14_code, prog_10_method_1_code, prog_10_method_2_code, prog_10_method_3_code, prog_10_method_4_code, prog_10_method_5_code, prog_10_method_6_code, prog_10_method_7_code, prog_10_method_8_code, prog_8_method_1_code, prog_8_method_2_code, prog_8_method_3_code, prog_8_method_4_code, prog_8_method_5_code, prog_8_method_6_code, prog_8_method_7_code, prog_8_method_8_code, prog_8_method_9_code, prog_8_method_10_code, prog_8_method_11_code, prog_8_method_12_code, prog_11_method_1_code, prog_11_method_2_code, prog_11_method_3_code, prog_11_method_4_code, prog_11_method_5_code, prog_11_method_6_code, prog_11_method_7_code, prog_11_method_8_code, prog_11_method_9_code, prog_11_method_10_code, prog_11_method_11_code, prog_11_method_12_code, prog_11_method_13_code, prog_11_method_14_code, prog_11_method_15_code, prog_11_method_16_code, prog_11_method_17_code, prog_11_method_18_code, prog_11_method_19_code, prog_9_method_1_code, prog_9_method_2_code, prog_9_method_3_code, prog_9_method_4_code, prog_9_method_5_code, prog_9_method_6_code, prog_9_method_7_code, prog_9_method_8_code, prog_9_method_9_code, prog_7_method_1_code, prog_7_method_2_code, prog_7_method_3_code, prog_7_method_4_code, prog_7_method_5_code, prog_7_method_6_code, prog_7_method_7_code, prog_7_method_8_code, prog_7_method_9_code, prog_7_method_10_code, prog_7_method_11_code, prog_7_method_12_code, prog_7_method_13_code, prog_7_method_14_code, prog_7_method_15_code, prog_7_method_16_code, prog_7_method_17_code, prog_7_method_18_code, prog_7_method_19_code, prog_7_method_20_code, prog_7_method_21_code, prog_7_method_22_code, prog_7_method_23_code, prog_7_method_24_code, prog_7_method_25_code, prog_7_method_26_code, prog_7_method_27_code, prog_7_method_28_code, prog_7_method_29_code, prog_7_method_30_code, prog_7_method_31_code, prog_1_method_1_code, prog_1_method_2_code, prog_1_method_3_code, prog_1_method_4_code, prog_1_method_5_code, prog_1_method_6_code, prog_1_method_7_code, prog_1_method_8_code, prog_1_method_9_code, prog_1_method_10_code, prog_1_method_11_code, prog_1_method_12_code, prog_1_method_13_code, prog_1_method_14_code, prog_1_method_15_code, prog_1_method_16_code, prog_1_method_17_code, prog_1_method_18_code, prog_1_method_19_code, prog_1_method_20_code, prog_1_method_21_code, prog_1_method_22_code, prog_1_method_23_code, prog_1_method_24_code, prog_1_method_25_code, prog_1_method_26_code, prog_1_method_27_code, prog_1_method_28_code, prog_1_method_29_code, prog_1_method_30_code, prog_1_method_31_code, prog_1_method_32_code, prog_1_method_33_code, prog_1_method_34_code, prog_1_method_35_code, prog_1_method_36_code, prog_1_method_37_code, prog_1_method_38_code, prog_1_method_39_code, prog_1_method_40_code, prog_1_method_41_code, prog_1_method_42_code, prog_1_method_43_code, prog_1_method_44_code, prog_1_method_45_code, prog_1_method_46_code, prog_1_method_47_code, prog_1_method_48_code, prog_1_method_49_code, prog_1_method_50_code, prog_1_method_51_code, prog_1_method_52_code, prog_1_method_53_code, prog_1_method_54_code, prog_1_method_55_code, prog_1_method_56_code, prog_1_method_57_code, prog_1_method_58_code, prog_1_method_59_code, prog_14_method_1_code, prog_14_method_2_code, prog_14_method_3_code, prog_14_method_4_code, prog_14_method_5_code, prog_14_method_6_code, prog_14_method_7_code, prog_14_method_8_code, prog_14_method_9_code, prog_14_method_10_code, prog_14_method_11_code, prog_14_method_12_code, prog_14_method_13_code, prog_14_method_14_code, prog_14_method_15_code, prog_14_method_16_code, prog_14_method_18_code, prog_14_method_19_code, prog_14_method_20_code, prog_14_method_21_code, prog_14_method_22_code, prog_14_method_23_code, prog_14_method_24_code, prog_14_method_25_code, prog_14_method_26_code, prog_14_method_27_code, prog_14_method_28_code, prog_14_method_29_code, prog_14_method_30_code, prog_14_method_31_code, prog_14_method_32_code, prog_14_method_33_code, prog_14_method_34_code, prog_14_method_35_code, prog_14_method_36_code, prog_14_method_37_code, prog_14_method_38_code, prog_14_method_39_code, prog_14_method_40_code, prog_14_method_41_code, prog_14_method_42_code, prog_14_method_43_code, prog_14_method_44_code, prog_14_method_45_code, prog_14_method_46_code, prog_14_method_47_code, prog_14_method_48_code, prog_14_method_49_code, prog_14_method_50_code, prog_14_method_51_code, prog_14_method_52_code, prog_14_method_53_code, prog_14_method_54_code, prog_14_method_55_code, prog_14_method_56_code, prog_14_method_57_code, prog_14_method_58_code, prog_14_method_59_code, prog_14_method_60_code, prog_14_method_61_code, prog_14_method_62_code, prog_14_method_63_code, prog_14_method_64_code, prog_14_method_65_code, prog_14_method_66_code, prog_14_method_67_code, prog_14_method_68_code, prog_14_method_69_code, prog_14_method_70_code, prog_14_method_71_code, prog_14_method_72_code, prog_14_method_73_code, prog_14_method_74_code, prog_14_method_75_code, prog_14_method_76_code, prog_14_method_77_code, prog_14_method_78_code, prog_14_method_79_code, prog_14_method_80_code, prog_14_method_81_code, prog_14_method_82_code, prog_14_method_83_code, prog_14_method_84_code, prog_14_method_85_code, prog_14_method_86_code, prog_14_method_87_code, prog_14_method_88_code, prog_14_method_89_code, prog_14_method_90_code, prog_14_method_91_code, prog_14_method_92_code, prog_14_method_93_code, prog_14_method_94_code, prog_14_method_95_code, prog_14_method_96_code, prog_14_method_97_code, prog_14_method_98_code, prog_14_method_99_code, prog_14_method_100_code, prog_14_method_101_code, prog_14_method_102_code, prog_14_method_103_code, prog_14_method_104_code, prog_14_method_105_code, prog_14_method_106_code, prog_14_method_107_code, prog_14_method_108_code, prog_14_method_109_code, prog_14_method_110_code, prog_14_method_111_code, prog_14_method_112_code, prog_14_method_113_code, prog_14_method_114_code, prog_14_method_115_code, prog_14_method_116_code, prog_14_method_117_code, prog_14_method_118_code, prog_14_method_119_code, prog_14_method_120_code, prog_14_method_121_code, prog_14_method_122_code, prog_14_method_123_code, prog_14_method_124_code, prog_14_method_125_code, prog_14_method_126_code, prog_14_method_127_code, prog_14_method_128_code, prog_14_method_129_code, prog_14_method_130_code, prog_14_method_131_code, prog_14_method_132_code, prog_14_method_133_code, prog_15_method_49_code, code]
def mMxL : List Nat := [1, 7, 2, 2, 2, 1, 1, 3, 2, 2, 3, 2, 1, 3, 2, 1, 1, 6, 1, 3, 8, 4, 12, 7, 3, 2, 2, 2, 6, 5, 8, 15, 8, 8, 3, 11, 3, 4, 4, 3, 2, 4, 3, 3, 3, 3, 3, 5, 3, 7, 7, 4, 5, 9, 7, 4, 5, 4, 3, 2, 2, 5, 8, 4, 3, 9, 3, 5, 4, 3, 3, 3, 4, 4, 5, 6, 5, 3, 4, 4, 6, 16, 3, 4, 4, 5, 4, 3, 9, 2, 5, 6, 2, 6, 4, 2, 4, 3, 4, 6, 2, 5, 3, 3, 2, 3, 4, 7, 5, 6, 3, 3, 6, 4, 5, 7, 5, 1, 1, 4, 5, 2, 4, 3, 5, 2, 3, 3, 3, 3, 3, 3, 2, 3, 3, 4, 1, 2, 2, 5, 2, 3, 3, 3, 3, 4, 6, 3, 2, 3, 2, 4, 3, 5, 9, 9, 5, 2, 3, 6, 3, 5, 9, 2, 2, 2, 3, 3, 2, 3, 4, 8, 4, 2, 2, 2, 1, 1, 2, 2, 3, 3, 3, 1, 8, 2, 4, 3, 12, 6, 5, 5, 3, 2, 3, 4, 10, 3, 4, 2, 2, 2, 5, 3, 4, 3, 5, 2, 7, 3, 4, 4, 5, 5, 1, 10, 10, 1, 1, 3, 3, 2, 2, 3, 2, 4, 1, 1, 3, 2, 3, 3, 4, 4, 6, 2, 3, 5, 2, 4, 3, 5, 3, 5, 3, 5, 4, 3, 3, 3, 4, 7, 5, 2, 4, 5, 4, 4, 2, 2, 3, 5, 3, 1, 6, 3, 3, 4, 8, 4, 4, 6, 4, 2, 1, 15, 11, 6, 9, 10, 6, 4, 6, 13, 3, 1, 9, 3, 4, 4, 3, 3, 4, 1, 5, 5, 8, 6, 3, 3, 2, 3, 4, 2, 19, 12, 5, 9, 1, 4]
def mRtL : List (Option FieldType) := [none, none, none, (some .long), (some .long), (some .long), (some .boolean), none, none, none, none, (some .int), none, none, (some .long), none, none, none, (some .long), (some .int), none, none, none, (some .int), none, (some .int), (some .int), (some .int), none, none, (some .boolean), (some .int), (some .int), (some .int), (some .long), (some .int), (some .int), (some .int), none, none, none, (some .boolean), (some .int), none, (some .int), (some .int), none, none, (some .int), (some .int), (some .int), (some .boolean), none, (some .boolean), (some .int), (some .int), (some .int), (some .int), none, (some .boolean), (some .boolean), (some .int), (some .int), none, none, (some .int), (some .int), (some .int), (some .int), (some .int), (some .boolean), (some .int), (some .int), (some .long), (some .int), (some .int), (some .int), none, none, none, (some .long), none, none, none, (some .int), none, none, none, (some .int), none, (some .int), (some .int), (some .int), (some .int), (some .int), none, (some .boolean), none, none, none, (some .boolean), (some .int), (some .int), (some .int), none, (some (.object "PoleSets$Group")), none, none, (some .int), none, (some .int), (some .boolean), (some .int), (some .boolean), (some .int), (some .int), (some .int), none, (some .int), (some .int), (some .int), (some .int), (some .int), (some .int), (some .int), (some .int), (some .int), (some .int), (some .int), (some .int), (some .long), (some .int), (some .int), (some .int), (some .int), (some .int), (some .int), (some .int), (some .int), (some .int), (some .int), (some .int), (some .int), (some .int), (some .int), (some .int), (some .int), (some .int), (some .int), (some .int), (some .int), (some .int), (some .int), (some .int), (some .int), (some .long), (some .int), (some .int), (some .int), (some .int), (some .int), (some .int), (some .int), (some .int), (some .int), (some .int), (some .boolean), (some .boolean), (some .boolean), (some .boolean), (some .long), (some .long), (some .long), (some .int), (some .int), none, none, (some .int), (some .int), (some .int), (some .long), (some .boolean), (some .int), (some .int), (some .long), (some .int), none, none, (some .long), (some .long), (some .boolean), (some .int), (some .long), (some .long), (some .int), (some .boolean), (some .int), (some .int), (some .int), (some .boolean), (some .boolean), (some .boolean), (some .int), (some .int), (some .int), (some .int), (some .int), (some .int), none, (some .int), none, (some .int), (some .int), (some .int), none, none, none, (some .boolean), none, none, none, none, none, (some .int), (some .int), (some .int), (some .int), (some .long), (some .int), (some .long), (some .long), (some .int), (some .boolean), (some .int), (some .int), (some .boolean), (some .boolean), (some .int), (some .int), (some .int), (some .int), (some .int), (some .int), (some .int), (some .long), (some .int), (some .int), (some .int), (some .int), (some .int), (some .int), (some .int), (some .int), (some .int), (some .boolean), (some .int), (some .int), (some .int), (some .int), (some .int), (some .int), (some .boolean), none, (some .boolean), (some .int), (some .int), (some .int), (some .long), (some .int), (some .int), (some .int), (some .int), none, (some .int), (some .long), (some .int), (some .int), (some .int), (some .int), (some .long), (some .boolean), (some .int), (some .int), none, none, (some .boolean), (some .long), (some .boolean), (some .int), (some .int), (some .int), (some .int), none, (some .int), (some .int), (some .int), (some .boolean), (some .int), (some .int), (some .int), (some .int), (some .int), (some .int), (some .int), none, (some .int), (some .int), (some .int), (some .int), some .boolean]
def mOwL : List Nat := [0, 0, 0, 0, 0, 0, 0, 0, 0, 1, 1, 1, 2, 2, 2, 3, 3, 3, 3, 3, 3, 4, 4, 4, 5, 5, 5, 5, 5, 5, 5, 5, 5, 5, 5, 5, 5, 5, 6, 6, 6, 6, 6, 6, 6, 6, 7, 7, 7, 7, 7, 7, 7, 7, 7, 7, 7, 7, 8, 8, 8, 8, 8, 8, 8, 8, 8, 8, 8, 8, 8, 8, 8, 8, 8, 8, 8, 9, 9, 9, 9, 9, 9, 9, 9, 9, 10, 10, 10, 10, 10, 10, 10, 10, 10, 10, 10, 10, 10, 10, 10, 10, 10, 10, 10, 10, 10, 10, 10, 10, 10, 10, 10, 10, 10, 10, 10, 11, 11, 11, 11, 11, 11, 11, 11, 11, 11, 11, 11, 11, 11, 11, 11, 11, 11, 11, 11, 11, 11, 11, 11, 11, 11, 11, 11, 11, 11, 11, 11, 11, 11, 11, 11, 11, 11, 11, 11, 11, 11, 11, 11, 11, 11, 11, 11, 11, 11, 11, 11, 11, 11, 11, 11, 11, 11, 11, 12, 12, 12, 12, 12, 12, 12, 12, 12, 12, 12, 12, 12, 12, 12, 12, 12, 12, 12, 12, 12, 12, 12, 12, 12, 12, 12, 12, 12, 12, 12, 12, 12, 12, 12, 12, 12, 12, 12, 12, 12, 12, 12, 12, 12, 12, 12, 12, 12, 12, 12, 12, 12, 12, 12, 12, 12, 12, 12, 12, 12, 12, 12, 12, 12, 12, 12, 12, 12, 12, 12, 12, 12, 12, 12, 12, 12, 12, 12, 12, 12, 12, 12, 12, 12, 12, 12, 12, 12, 12, 12, 12, 12, 12, 12, 12, 12, 12, 12, 12, 12, 12, 12, 12, 12, 12, 12, 12, 12, 12, 12, 12, 12, 12, 12, 12, 12, 12, 12, 12, 12, 12, 12, 12, 12, 12, 12, 12, 12, 12, 12, 12, 15, 13]
def mNpL : List Nat := [0, 3, 1, 1, 1, 0, 0, 2, 0, 1, 2, 1, 0, 2, 1, 0, 0, 3, 0, 0, 1, 3, 3, 4, 0, 1, 1, 1, 3, 3, 3, 2, 3, 1, 2, 2, 2, 1, 3, 1, 0, 0, 1, 0, 0, 0, 2, 4, 2, 2, 2, 3, 0, 3, 2, 0, 2, 1, 1, 1, 1, 3, 4, 1, 1, 2, 2, 2, 1, 0, 1, 2, 1, 0, 2, 2, 2, 2, 0, 2, 1, 0, 3, 0, 1, 1, 2, 2, 4, 0, 2, 2, 1, 2, 1, 0, 1, 0, 1, 2, 1, 2, 0, 0, 0, 1, 2, 2, 2, 2, 2, 2, 2, 3, 2, 2, 2, 0, 0, 3, 4, 1, 2, 1, 4, 1, 2, 2, 2, 2, 2, 2, 1, 2, 2, 3, 0, 1, 1, 2, 1, 1, 2, 2, 2, 3, 3, 2, 1, 2, 1, 3, 2, 3, 5, 6, 3, 1, 1, 1, 0, 4, 4, 1, 1, 1, 2, 3, 2, 3, 2, 1, 2, 2, 2, 1, 0, 0, 1, 1, 1, 3, 1, 1, 1, 2, 2, 2, 6, 3, 3, 2, 2, 1, 2, 3, 4, 1, 3, 2, 1, 1, 4, 1, 2, 1, 4, 1, 2, 0, 0, 1, 2, 1, 0, 5, 5, 0, 0, 1, 1, 0, 1, 0, 1, 0, 0, 0, 0, 1, 2, 2, 3, 1, 1, 1, 2, 0, 1, 1, 2, 2, 2, 2, 2, 2, 2, 1, 2, 2, 2, 3, 0, 1, 1, 1, 1, 2, 1, 1, 1, 1, 1, 1, 2, 2, 2, 0, 3, 3, 3, 2, 0, 1, 0, 2, 1, 3, 2, 4, 2, 3, 5, 6, 2, 1, 6, 2, 0, 3, 2, 1, 0, 0, 2, 2, 4, 2, 0, 1, 1, 2, 1, 0, 5, 4, 4, 4, 1, 1]
def mKdL : List Nat := [2, 0, 0, 0, 0, 0, 0, 0, 0, 2, 0, 0, 2, 0, 0, 2, 0, 0, 0, 0, 0, 2, 0, 0, 2, 1, 0, 0, 0, 0, 0, 0, 0, 0, 0, 0, 0, 0, 2, 0, 0, 0, 0, 0, 0, 0, 2, 0, 1, 0, 0, 0, 0, 0, 0, 0, 0, 0, 2, 0, 0, 0, 0, 0, 0, 0, 0, 0, 0, 0, 0, 0, 0, 0, 0, 0, 0, 2, 0, 0, 0, 0, 1, 0, 0, 0, 2, 0, 0, 0, 0, 0, 0, 0, 0, 0, 0, 0, 0, 0, 0, 0, 0, 0, 0, 0, 0, 0, 0, 0, 0, 0, 0, 0, 0, 0, 0, 2, 0, 0, 0, 0, 0, 0, 0, 0, 0, 0, 0, 0, 0, 0, 0, 0, 0, 0, 0, 0, 0, 0, 0, 0, 0, 0, 0, 0, 0, 0, 0, 0, 0, 0, 0, 0, 0, 0, 0, 0, 0, 0, 0, 0, 0, 0, 0, 0, 0, 1, 1, 1, 1, 1, 1, 1, 1, 1, 2, 0, 0, 0, 0, 1, 1, 1, 1, 1, 0, 0, 1, 1, 1, 1, 0, 0, 0, 0, 0, 0, 0, 1, 0, 0, 0, 0, 0, 0, 0, 0, 0, 0, 0, 0, 0, 0, 0, 0, 0, 0, 0, 0, 0, 0, 0, 0, 0, 0, 0, 0, 0, 0, 0, 0, 0, 0, 0, 0, 0, 0, 0, 0, 0, 0, 0, 0, 0, 0, 0, 0, 0, 0, 0, 0, 0, 0, 0, 0, 0, 0, 0, 0, 0, 0, 0, 1, 0, 0, 0, 0, 0, 0, 0, 0, 0, 0, 0, 0, 0, 0, 0, 0, 0, 0, 0, 0, 0, 1, 0, 0, 0, 0, 1, 1, 0, 0, 0, 0, 0, 0, 0, 0, 0, 0, 0, 0, 0, 0, 0, 0, 1, 1]
/-- where a method's own words stand in the table: its code, what it is (of an object or none), its choice, its class -/
def mWsL : List (Nat × Nat × Nat × Nat) := [(159, 158, 0, 105), (676, 674, 675, 105), (833, 831, 832, 105), (931, 929, 930, 105), (718, 716, 717, 105), (723, 721, 722, 105), (1311, 1309, 1310, 105), (1291, 1289, 1290, 105), (853, 851, 852, 105), (188, 187, 0, 106), (699, 697, 698, 106), (927, 925, 926, 106), (303, 302, 0, 108), (813, 811, 812, 108), (971, 969, 970, 108), (309, 308, 0, 109), (838, 836, 837, 109), (843, 841, 842, 109), (975, 973, 974, 109), (982, 980, 981, 109), (848, 846, 847, 109), (587, 586, 0, 113), (1392, 1391, 28, 113), (1385, 1383, 1384, 113), (129, 128, 0, 103), (133, 132, 0, 103), (1344, 1342, 1343, 103), (1169, 1167, 1168, 103), (709, 707, 708, 103), (672, 670, 671, 103), (1042, 1040, 1041, 103), (734, 732, 733, 103), (1085, 1083, 1084, 103), (861, 859, 860, 103), (866, 865, 10, 103), (871, 870, 11, 103), (1317, 1315, 1316, 103), (857, 855, 856, 103), (451, 450, 0, 110), (1108, 1106, 1107, 110), (1112, 1111, 19, 110), (1117, 1116, 20, 110), (1121, 1120, 21, 110), (1127, 1126, 22, 110), (1134, 1132, 1133, 110), (1138, 1136, 1137, 110), (546, 545, 0, 112), (773, 771, 772, 112), (888, 887, 0, 112), (885, 883, 884, 112), (1332, 1330, 1331, 112), (1305, 1303, 1304, 112), (1325, 1323, 1324, 112), (1340, 1339, 27, 112), (1336, 1334, 1335, 112), (1350, 1348, 1349, 112), (1369, 1367, 1368, 112), (1358, 1356, 1357, 112), (148, 147, 0, 104), (691, 689, 690, 104), (745, 743, 744, 104), (668, 666, 667, 104), (695, 693, 694, 104), (749, 747, 748, 104), (765, 763, 764, 104), (714, 712, 713, 104), (797, 795, 796, 104), (957, 955, 956, 104), (923, 921, 922, 104), (907, 905, 906, 104), (911, 910, 13, 104), (939, 937, 938, 104), (943, 942, 14, 104), (1165, 1163, 1164, 104), (1156, 1154, 1155, 104), (1179, 1177, 1178, 104), (1235, 1233, 1234, 104), (492, 491, 0, 111), (1187, 1185, 1186, 111), (1191, 1190, 23, 111), (1207, 1206, 24, 111), (1201, 1199, 1200, 111), (1212, 1211, 0, 111), (1220, 1218, 1219, 111), (1226, 1225, 25, 111), (1243, 1241, 1242, 111), (295, 294, 0, 107), (757, 755, 756, 107), (793, 792, 4, 107), (789, 788, 3, 107), (785, 784, 2, 107), (1064, 1062, 1063, 107), (1095, 1093, 1094, 107), (1026, 1024, 1025, 107), (1030, 1029, 17, 107), (1072, 1070, 1071, 107), (1076, 1075, 18, 107), (781, 779, 780, 107), (801, 800, 5, 107), (809, 808, 6, 107), (966, 964, 965, 107), (998, 996, 997, 107), (915, 913, 914, 107), (1055, 1053, 1054, 107), (777, 775, 776, 107), (817, 815, 816, 107), (821, 820, 7, 107), (825, 824, 8, 107), (829, 828, 9, 107), (876, 875, 12, 107), (1018, 1016, 1017, 107), (1046, 1044, 1045, 107), (1038, 1036, 1037, 107), (1256, 1255, 26, 107), (1252, 1250, 1251, 107), (1260, 1258, 1259, 107), (1267, 1265, 1266, 107), (121, 120, 0, 102), (649, 647, 648, 102), (653, 651, 652, 102), (684, 682, 683, 102), (741, 739, 740, 102), (753, 751, 752, 102), (761, 759, 760, 102), (769, 767, 768, 102), (902, 900, 901, 102), (919, 917, 918, 102), (935, 933, 934, 102), (948, 946, 947, 102), (953, 951, 952, 102), (962, 960, 961, 102), (994, 992, 993, 102), (1006, 1004, 1005, 102), (1010, 1008, 1009, 102), (1022, 1020, 1021, 102), (1034, 1032, 1033, 102), (1051, 1049, 1050, 102), (1060, 1058, 1059, 102), (1068, 1066, 1067, 102), (1081, 1079, 1080, 102), (1091, 1089, 1090, 102), (1100, 1098, 1099, 102), (1104, 1102, 1103, 102), (1142, 1140, 1141, 102), (1146, 1144, 1145, 102), (1151, 1149, 1150, 102), (1161, 1159, 1160, 102), (1175, 1173, 1174, 102), (1183, 1181, 1182, 102), (1197, 1195, 1196, 102), (1216, 1214, 1215, 102), (1231, 1229, 1230, 102), (1239, 1237, 1238, 102), (1248, 1246, 1247, 102), (1281, 1279, 1280, 102), (1287, 1285, 1286, 102), (1299, 1297, 1298, 102), (1321, 1319, 1320, 102), (1354, 1352, 1353, 102), (1364, 1362, 1363, 102), (1377, 1375, 1376, 102), (1381, 1379, 1380, 102), (1402, 1400, 1401, 102), (680, 679, 1, 102), (664, 663, 0, 102), (1002, 1001, 15, 102), (1014, 1013, 16, 102), (659, 658, 0, 102), (687, 686, 0, 102), (656, 655, 0, 102), (138, 137, 0, 102), (727, 726, 0, 102), (1270, 1269, 0, 102), (702, 701, 0, 102), (705, 704, 0, 102), (154, 153, 0, 102), (1407, 1406, 0, 114), (1560, 1558, 1559, 114), (1572, 1571, 29, 114), (1587, 1586, 31, 114), (1829, 1828, 71, 114), (1567, 1566, 0, 114), (1582, 1581, 0, 114), (1579, 1578, 0, 114), (1713, 1712, 0, 114), (1605, 1604, 0, 114), (1602, 1601, 33, 114), (1576, 1575, 30, 114), (1644, 1643, 0, 114), (1651, 1650, 0, 114), (1654, 1653, 0, 114), (1813, 1812, 0, 114), (1641, 1640, 38, 114), (1648, 1647, 39, 114), (1810, 1809, 69, 114), (1637, 1636, 37, 114), (1709, 1708, 52, 114), (1705, 1704, 51, 114), (1564, 1562, 1563, 114), (1594, 1593, 0, 114), (1598, 1597, 32, 114), (1613, 1612, 34, 114), (1591, 1589, 1590, 114), (1609, 1607, 1608, 114), (1617, 1615, 1616, 114), (1621, 1619, 1620, 114), (1625, 1623, 1624, 114), (1660, 1659, 40, 114), (1633, 1632, 36, 114), (1665, 1664, 41, 114), (1629, 1628, 35, 114), (1790, 1789, 67, 114), (1693, 1692, 48, 114), (1689, 1688, 47, 114), (1701, 1700, 50, 114), (1720, 1719, 53, 114), (1697, 1696, 49, 114), (1724, 1723, 54, 114), (1728, 1727, 55, 114), (1685, 1684, 46, 114), (1681, 1680, 45, 114), (1677, 1676, 44, 114), (1732, 1731, 56, 114), (1740, 1739, 58, 114), (1748, 1747, 60, 114), (1744, 1743, 59, 114), (1736, 1735, 57, 114), (1833, 1832, 72, 114), (1837, 1836, 73, 114), (1854, 1853, 77, 114), (1850, 1849, 76, 114), (1846, 1845, 75, 114), (1862, 1861, 79, 114), (1842, 1841, 74, 114), (1858, 1857, 78, 114), (1825, 1824, 70, 114), (1882, 1881, 81, 114), (1786, 1785, 66, 114), (1782, 1780, 1781, 114), (1798, 1797, 68, 114), (1794, 1792, 1793, 114), (1802, 1800, 1801, 114), (1806, 1804, 1805, 114), (1817, 1815, 1816, 114), (1821, 1819, 1820, 114), (1870, 1869, 80, 114), (1866, 1864, 1865, 114), (1874, 1872, 1873, 114), (1886, 1885, 82, 114), (1878, 1876, 1877, 114), (1890, 1888, 1889, 114), (1894, 1892, 1893, 114), (1898, 1896, 1897, 114), (1902, 1900, 1901, 114), (1910, 1909, 83, 114), (1906, 1904, 1905, 114), (1918, 1917, 84, 114), (1914, 1912, 1913, 114), (1926, 1925, 85, 114), (1922, 1920, 1921, 114), (1930, 1928, 1929, 114), (1945, 1944, 87, 114), (1941, 1940, 86, 114), (1937, 1936, 0, 114), (1934, 1932, 1933, 114), (1949, 1947, 1948, 114), (1953, 1951, 1952, 114), (1969, 1968, 89, 114), (1961, 1960, 88, 114), (1957, 1955, 1956, 114), (1965, 1963, 1964, 114), (1973, 1971, 1972, 114), (1981, 1980, 90, 114), (1977, 1975, 1976, 114), (1989, 1988, 91, 114), (1985, 1983, 1984, 114), (1993, 1991, 1992, 114), (1998, 1996, 1997, 114), (2002, 2000, 2001, 114), (2015, 2014, 93, 114), (2010, 2009, 92, 114), (2006, 2004, 2005, 114), (2019, 2017, 2018, 114), (1761, 1760, 63, 114), (1757, 1756, 62, 114), (2026, 2025, 0, 114), (2023, 2021, 2022, 114), (1752, 1751, 61, 114), (1765, 1764, 64, 114), (2031, 2029, 2030, 114), (1772, 1771, 0, 114), (1778, 1777, 0, 114), (1673, 1672, 43, 114), (1669, 1668, 42, 114), (1769, 1768, 65, 114), (2039, 2038, 94, 114), (2047, 2046, 96, 114), (2043, 2042, 95, 114), (2051, 2050, 97, 114), (2035, 2033, 2034, 114), (2055, 2053, 2054, 114), (2063, 2062, 98, 114), (2059, 2057, 2058, 114), (2067, 2065, 2066, 114), (2079, 2078, 100, 114), (2075, 2074, 99, 114), (2071, 2069, 2070, 114), (2083, 2081, 2082, 114), (895, 894, 0, 116)]
def mName (y : Nat) : MethodName := mNmL.getD y x
def mCode (y : Nat) : ByteArray := mCdL.getD y code
def mMx (y : Nat) : Nat := mMxL.getD y 0
def mRt (y : Nat) : Option FieldType := mRtL.getD y none
def mOw (y : Nat) : Nat := mOwL.getD y 0
def mNp (y : Nat) : Nat := mNpL.getD y 0
def mKd (y : Nat) : Nat := mKdL.getD y 0
def mWs (y : Nat) : Nat × Nat × Nat × Nat := mWsL.getD y (0, 0, 0, 0)
def calL : List (List (Nat × Nat × Nat × Nat)) := [
  [(21, 1, 0, 834)],
  [(15, 0, 1, 191), (26, 173, 1, 700), (35, 174, 1, 703), (50, 3, 0, 928)],
  [(9, 15, 0, 307), (18, 0, 1, 323), (47, 18, 0, 972), (51, 19, 0, 979), (64, 3, 0, 990)],
  [(11, 0, 1, 312), (18, 1, 0, 839), (26, 4, 0, 844), (39, 5, 0, 976), (43, 171, 1, 977), (49, 18, 0, 983), (57, 170, 1, 849), (66, 8, 0, 850)],
  [(25, 0, 1, 590), (41, 15, 0, 592), (46, 27, 0, 1386), (52, 26, 0, 1387), (57, 4, 0, 1394), (61, 7, 0, 1395), (75, 1, 0, 1388), (85, 22, 0, 1389), (89, 16, 0, 1396), (114, 17, 0, 1397), (118, 19, 0, 1398)],
  [(15, 25, 0, 131), (22, 170, 1, 136), (32, 173, 1, 710), (35, 1, 0, 673), (41, 4, 0, 735), (47, 5, 0, 737), (51, 31, 0, 1086), (71, 34, 0, 863), (75, 35, 0, 868), (79, 33, 0, 858), (83, 174, 1, 872)],
  [(33, 175, 1, 454), (39, 15, 0, 456), (54, 40, 0, 1109), (60, 41, 0, 1114), (64, 43, 0, 1124), (77, 2, 0, 1113), (91, 42, 0, 1118), (95, 32, 0, 1122), (101, 31, 0, 1123), (105, 16, 0, 1128), (111, 17, 0, 1129), (115, 20, 0, 1130)],
  [(21, 0, 1, 549), (75, 48, 0, 886), (82, 7, 0, 1306), (86, 8, 0, 1307), (89, 6, 0, 1308), (94, 51, 0, 1326), (98, 33, 0, 1327), (104, 36, 0, 1328), (108, 26, 0, 1341), (112, 27, 0, 1345), (117, 53, 0, 1337), (121, 49, 0, 1370), (124, 308, 0, 1371), (129, 50, 0, 1372), (132, 54, 0, 1373), (137, 170, 1, 1360)],
  [(31, 175, 1, 152), (41, 9, 0, 186), (57, 29, 0, 669), (69, 10, 0, 696), (77, 28, 0, 706), (80, 65, 0, 711), (87, 31, 0, 731), (96, 4, 0, 715), (102, 5, 0, 720), (106, 170, 1, 724), (110, 171, 1, 725), (114, 66, 0, 958), (121, 70, 0, 908), (125, 72, 0, 940), (129, 3, 0, 944), (133, 30, 0, 1157)],
  [(21, 0, 1, 495), (76, 79, 0, 1188), (80, 73, 0, 1192), (84, 170, 1, 1193), (100, 78, 0, 1202), (103, 28, 0, 1203), (109, 80, 0, 1204), (113, 5, 0, 1209), (116, 82, 0, 1210), (123, 29, 0, 1222), (126, 84, 0, 1223), (130, 65, 0, 1227), (137, 74, 0, 1244)],
  [(35, 12, 0, 301), (80, 66, 0, 794), (84, 89, 0, 786), (87, 88, 0, 790), (91, 90, 0, 782), (94, 91, 0, 1096), (97, 94, 0, 1027), (115, 96, 0, 1073), (119, 101, 0, 1077), (125, 98, 0, 798), (132, 99, 0, 806), (148, 13, 0, 810), (151, 97, 0, 778), (157, 102, 0, 1056), (161, 105, 0, 814), (168, 106, 0, 818), (172, 107, 0, 822), (179, 16, 0, 835), (193, 17, 0, 840), (197, 2, 0, 830), (201, 20, 0, 845), (204, 37, 0, 854), (216, 109, 0, 873), (219, 108, 0, 826), (228, 31, 0, 877), (241, 110, 0, 1047), (244, 30, 0, 1039), (251, 113, 0, 1253), (255, 114, 0, 1261), (262, 170, 1, 1263), (269, 172, 1, 1268), (273, 115, 0, 1276)],
  [(9, 24, 0, 127), (18, 58, 0, 146), (27, 86, 0, 293), (36, 38, 0, 449), (45, 77, 0, 490), (52, 46, 0, 544), (61, 21, 0, 585), (68, 0, 1, 157), (77, 169, 0, 654), (81, 164, 0, 661), (88, 61, 0, 665), (92, 163, 0, 677), (95, 168, 0, 685), (99, 59, 0, 688), (110, 62, 0, 692), (114, 60, 0, 742), (117, 63, 0, 746), (121, 167, 0, 657), (130, 87, 0, 754), (137, 64, 0, 762), (140, 47, 0, 770), (144, 104, 0, 774), (147, 49, 0, 882), (151, 308, 0, 893), (156, 97, 0, 903), (159, 69, 0, 904), (166, 102, 0, 912), (169, 68, 0, 920), (179, 11, 0, 924), (184, 71, 0, 936), (187, 66, 0, 949), (190, 67, 0, 954), (193, 100, 0, 963), (196, 105, 0, 967), (200, 14, 0, 968), (205, 101, 0, 995), (208, 165, 0, 999), (211, 166, 0, 1011), (214, 110, 0, 1015), (217, 93, 0, 1023), (220, 112, 0, 1035), (223, 111, 0, 1043), (226, 103, 0, 1052), (229, 91, 0, 1061), (232, 95, 0, 1069), (248, 32, 0, 1082), (252, 31, 0, 1087), (256, 92, 0, 1092), (259, 39, 0, 1105), (265, 44, 0, 1131), (268, 45, 0, 1135), (273, 37, 0, 1147), (277, 28, 0, 1152), (281, 74, 0, 1153), (285, 73, 0, 1162), (289, 27, 0, 1166), (294, 75, 0, 1176), (298, 78, 0, 1184), (305, 81, 0, 1198), (314, 83, 0, 1217), (320, 76, 0, 1232), (323, 85, 0, 1240), (329, 114, 0, 1249), (332, 115, 0, 1257), (335, 116, 0, 1264), (338, 29, 0, 1282), (344, 172, 0, 1283), (348, 170, 0, 1274), (353, 7, 0, 1288), (357, 4, 0, 1271), (373, 51, 0, 1302), (377, 3, 0, 1312), (380, 33, 0, 1313), (383, 36, 0, 1314), (386, 52, 0, 1322), (395, 50, 0, 1329), (398, 54, 0, 1333), (401, 55, 0, 1347), (407, 57, 0, 1355), (411, 56, 0, 1366), (414, 23, 0, 1382), (425, 5, 0, 1273), (428, 171, 0, 1275)],
  [(111, 182, 0, 1580), (120, 185, 0, 1603), (124, 183, 0, 1577), (136, 188, 0, 1642), (142, 190, 0, 1652), (146, 189, 0, 1649), (150, 192, 0, 1638), (154, 193, 0, 1645), (158, 191, 0, 1811), (164, 184, 0, 1711), (174, 196, 0, 1706), (178, 181, 0, 1565), (183, 178, 0, 1569), (189, 187, 0, 1573), (193, 179, 0, 1584), (199, 199, 0, 1592), (203, 200, 0, 1595), (207, 186, 0, 1599), (210, 201, 0, 1610), (216, 210, 0, 1626), (219, 293, 0, 1666), (223, 291, 0, 1776), (229, 195, 0, 1634), (233, 207, 0, 1657), (238, 208, 0, 1630), (241, 209, 0, 1662), (247, 212, 0, 1690), (263, 214, 0, 1698), (266, 197, 0, 1702), (269, 215, 0, 1717), (273, 218, 0, 1725), (276, 213, 0, 1686), (279, 216, 0, 1694), (283, 219, 0, 1682), (287, 217, 0, 1721), (291, 220, 0, 1678), (294, 223, 0, 1737), (297, 224, 0, 1745), (300, 225, 0, 1741), (303, 227, 0, 1830), (309, 230, 0, 1847), (312, 229, 0, 1851), (315, 231, 0, 1843), (321, 232, 0, 1859), (324, 235, 0, 1822), (327, 237, 0, 1783), (330, 211, 0, 1787), (333, 239, 0, 1795), (336, 194, 0, 1807), (339, 221, 0, 1674), (342, 222, 0, 1729), (345, 180, 0, 1826), (348, 226, 0, 1733), (351, 228, 0, 1834), (354, 233, 0, 1839), (357, 234, 0, 1855), (360, 245, 0, 1867), (363, 236, 0, 1879), (366, 248, 0, 1883), (369, 254, 0, 1907), (372, 256, 0, 1915), (375, 258, 0, 1923), (381, 261, 0, 1942), (384, 263, 0, 1935), (387, 262, 0, 1938), (390, 268, 0, 1958), (394, 267, 0, 1966), (397, 272, 0, 1978), (400, 274, 0, 1986), (414, 279, 0, 2012), (421, 280, 0, 2007), (424, 283, 0, 1758), (428, 285, 0, 2024), (431, 284, 0, 1754), (437, 287, 0, 1749), (440, 288, 0, 1762), (445, 292, 0, 1670), (448, 294, 0, 1766), (451, 290, 0, 1770), (454, 296, 0, 2044), (458, 295, 0, 2036), (461, 297, 0, 2040), (464, 298, 0, 2048), (467, 301, 0, 2060), (470, 304, 0, 2076), (474, 305, 0, 2072)],
  [(9, 117, 0, 119), (12, 176, 0, 1405), (13, 118, 0, 646), (17, 177, 0, 1557), (18, 119, 0, 650), (22, 198, 0, 1561), (23, 120, 0, 681), (27, 202, 0, 1588), (28, 121, 0, 738), (32, 203, 0, 1606), (33, 122, 0, 750), (37, 204, 0, 1614), (38, 123, 0, 758), (41, 205, 0, 1618), (42, 124, 0, 766), (45, 206, 0, 1622), (46, 125, 0, 899), (49, 238, 0, 1779), (50, 126, 0, 916), (53, 240, 0, 1791), (54, 127, 0, 932), (57, 241, 0, 1799), (58, 128, 0, 945), (61, 242, 0, 1803), (62, 129, 0, 950), (65, 243, 0, 1814), (66, 130, 0, 959), (70, 244, 0, 1818), (71, 131, 0, 991), (74, 246, 0, 1863), (75, 132, 0, 1003), (78, 247, 0, 1871), (79, 133, 0, 1007), (82, 249, 0, 1875), (83, 134, 0, 1019), (86, 250, 0, 1887), (87, 135, 0, 1031), (90, 251, 0, 1891), (91, 136, 0, 1048), (94, 252, 0, 1895), (95, 137, 0, 1057), (98, 253, 0, 1899), (99, 138, 0, 1065), (102, 255, 0, 1903), (103, 139, 0, 1078), (106, 257, 0, 1911), (107, 140, 0, 1088), (110, 259, 0, 1919), (111, 141, 0, 1097), (114, 260, 0, 1927), (115, 142, 0, 1101), (118, 264, 0, 1931), (119, 143, 0, 1139), (122, 265, 0, 1946), (123, 144, 0, 1143), (126, 266, 0, 1950), (127, 145, 0, 1148), (130, 269, 0, 1954), (131, 146, 0, 1158), (134, 270, 0, 1962), (135, 147, 0, 1172), (138, 271, 0, 1970), (139, 148, 0, 1180), (142, 273, 0, 1974), (143, 149, 0, 1194), (147, 275, 0, 1982), (148, 150, 0, 1213), (151, 276, 0, 1990), (152, 151, 0, 1228), (155, 277, 0, 1995), (156, 152, 0, 1236), (159, 278, 0, 1999), (160, 153, 0, 1245), (163, 281, 0, 2003), (164, 154, 0, 1278), (168, 282, 0, 2016), (169, 155, 0, 1284), (173, 286, 0, 2020), (174, 156, 0, 1296), (177, 289, 0, 2028), (178, 157, 0, 1318), (181, 299, 0, 2032), (182, 158, 0, 1351), (185, 300, 0, 2052), (186, 159, 0, 1361), (189, 302, 0, 2056), (190, 160, 0, 1374), (193, 303, 0, 2064), (194, 161, 0, 1378), (197, 306, 0, 2068), (198, 162, 0, 1399), (201, 307, 0, 2080)],
  [],
  []]
def calE (own idx : Nat) : Option (Nat × Nat × Nat × Nat) := (calL.getD own []).find? (fun q => q.1 == idx)
def cal (own idx : Nat) : Option Nat := (calE own idx).map (fun q => q.2.1)
def objL : List (List (Nat × Nat)) := [[(3, 160)], [(1, 189)], [(1, 304)], [(3, 310)], [(3, 588)], [(3, 130)], [(3, 452)], [(3, 547)], [(3, 149)], [(3, 493)], [(3, 296)], [(1, 122)], [(1, 1408)], [], [], []]
def objE (own idx : Nat) : Option (Nat × Nat) := (objL.getD own []).find? (fun q => q.1 == idx)
def prmL : List (List (Nat × Nat × Nat)) := [[], [], [], [(61, 3, 987)], [], [(26, 5, 1170)], [], [(49, 5, 889), (55, 1, 892)], [], [], [(101, 0, 878), (106, 1, 803)], [(361, 4, 1293), (367, 1, 1300), (370, 0, 1301)], [(168, 3, 1716), (236, 1, 1661), (318, 0, 1753), (434, 4, 2027), (443, 2, 1773)], [], [], []]
def prmE (own idx : Nat) : Option (Nat × Nat × Nat) := (prmL.getD own []).find? (fun q => q.1 == idx)
def prm (own idx : Nat) : Option Nat := (prmE own idx).map (fun q => q.2.1)
def prNm : List MethodName := [⟨"java/lang/Math", "max", "(II)I"⟩, ⟨"java/lang/Math", "min", "(II)I"⟩, ⟨"java/lang/Math", "abs", "(I)I"⟩, ⟨"java/lang/Math", "min", "(JJ)J"⟩, ⟨"java/lang/Math", "abs", "(J)J"⟩, ⟨"java/lang/Math", "floorMod", "(II)I"⟩]
def kiL : List (List (Nat × Int32 × Nat)) := [[], [], [], [(52, 1000000, 984)], [], [(21, 40500, 135)], [], [], [], [(122, 2147483647, 1221)], [(138, 2147483647, 802), (258, 100000, 1262)], [(352, 100000, 660), (410, 2147483647, 1365)], [(115, 40500, 1583), (182, 100000, 1568), (232, 1000000, 1656), (407, 100001, 2011)], [], [], [(265, 1431655765, 896), (266, 858993459, 897), (267, 252645135, 898)]]
def klL : List (List (Nat × Int64 × Nat)) := [[(25, 1000, 1292)], [], [], [(47, 1000, 978), (53, 1000000, 985), (55, 100, 986)], [(55, 1000, 1393)], [(19, 4000, 134), (45, 1000000, 736), (57, (-9223372036854775808), 862), (66, 1000, 867)], [], [(115, 1000, 1346), (135, 100, 1359)], [(100, 1000000, 719)], [(98, 2, 1208)], [(235, 2, 881), (276, 1000, 1277)], [(292, 1000, 1171), (417, 4294967296, 728), (419, 32768, 729), (421, 1073741824, 730), (423, 1000000, 1272)], [(116, 3037000499, 1714), (118, 2, 1715), (140, 1000000, 1655), (162, 1000, 1710), (307, 100, 1838), (405, 9223372036854775807, 1994)], [], [], []]
def kiE (own idx : Nat) : Option (Nat × Int32 × Nat) := (kiL.getD own []).find? (fun q => q.1 == idx)
def klE (own idx : Nat) : Option (Nat × Int64 × Nat) := (klL.getD own []).find? (fun q => q.1 == idx)
def kI (own idx : Nat) : Option Int32 := (kiE own idx).map (fun q => q.2.1)
def kL (own idx : Nat) : Option Int64 := (klE own idx).map (fun q => q.2.1)
def clkL : List (List (Nat × Nat × Nat)) := [[], [(13, 0, 190)], [(7, 3, 305), (16, 0, 322)], [(9, 0, 311)], [(23, 0, 589), (39, 3, 591)], [], [(27, 0, 453), (37, 3, 455)], [(19, 0, 548)], [(25, 0, 150), (35, 1, 183)], [(19, 0, 494)], [(23, 2, 297), (29, 0, 299)], [(7, 5, 125), (16, 8, 144), (25, 10, 291), (34, 6, 447), (43, 9, 488), (50, 7, 542), (59, 4, 583), (66, 0, 155)], [], [(7, 11, 117), (10, 12, 1403)], [], []]
def clkE (own idx : Nat) : Option (Nat × Nat × Nat) := (clkL.getD own []).find? (fun q => q.1 == idx)
def clk (own idx : Nat) : Option Nat := (clkE own idx).map (fun q => q.2.1)
def cWsL : List (Nat × Nat) := [(156, 105), (185, 106), (300, 108), (306, 109), (584, 113), (126, 103), (448, 110), (543, 112), (145, 104), (489, 111), (292, 107), (118, 102), (1404, 114)]
def cWs (c : Nat) : Nat × Nat := cWsL.getD c (0, 0)
/-- arrays of references: kind, class of the elements, place of its word -/
def arkL : List (Nat × Nat × Nat) := [(4, 0, 151), (5, 1, 184), (6, 2, 298)]
def NT : Nat := 378
def shL : List (Nat × Nat) := [(2, 0), (1, 11), (1, 5), (2, 630), (1, 8), (2, 6), (2, 6), (2, 6), (4, 6), (5, 60), (2, 3600), (1, 10), (2, 60), (6, 30), (4, 30), (2, 60), (2, 60), (2, 60), (2, 60), (2, 60), (2, 46), (2, 91), (1, 6), (2, 60), (4, 30), (1, 3), (1, 0), (1, 9), (1, 0), (3, 6), (2, 2), (2, 2), (2, 3), (2, 3), (1, 7), (1, 0), (2, 900), (2, 900), (1, 4), (1, 0), (1, 0), (1, 0), (1, 0), (1, 3), (1, 0), (1, 0), (1, 12), (2, 6), (2, 6), (2, 6), (2, 60), (2, 60), (2, 60), (2, 60), (2, 60), (2, 60), (2, 60), (2, 6), (2, 6), (2, 6), (2, 60), (2, 60), (2, 60), (2, 60), (2, 30), (2, 30), (2, 30), (2, 60), (3, 6), (2, 30), (2, 30), (2, 900), (2, 900), (0, 0), (0, 0), (0, 0), (0, 0), (0, 0), (0, 0), (0, 0), (0, 0), (0, 0), (0, 0), (0, 0), (0, 0), (0, 0), (0, 0), (0, 0), (0, 0), (0, 0), (0, 0), (0, 0), (0, 0), (0, 0), (0, 0), (0, 0), (0, 0), (0, 0), (0, 0), (0, 0)]
def psL : List Nat := [0, 0, 1, 2, 3, 4, 5, 6, 7, 14, 135, 136, 137, 138, 139, 290, 291, 292, 293, 294, 295, 296, 297, 298, 299, 330, 331, 332, 333, 334, 335, 336, 337, 338, 339, 340, 341, 342, 343, 344, 345, 346, 347, 348, 349, 350, 351, 352, 353, 354, 355, 356, 357, 358, 359, 360, 361, 362, 363, 364, 365, 366, 367, 368, 369, 370, 371, 372, 373, 374, 375, 376, 377, 0, 0, 0, 0, 0, 0, 0, 0, 0, 0, 0, 0, 0, 0, 0, 0, 0, 0, 0, 0, 0, 0, 0, 0, 0, 0, 0]
def SH (a : Nat) : Nat × Nat := if a < 100 then shL.getD a (0, 0) else if 100 ≤ a ∧ a < 106 then (1, 0) else if 200 ≤ a ∧ a < 260 then (1, 1) else if 300 ≤ a ∧ a < 360 then (1, 0) else if 400 ≤ a ∧ a < 430 then (1, 2) else if 500 ≤ a ∧ a < 530 then (1, 3) else if 600 ≤ a ∧ a < 630 then (1, 0) else if 700 ≤ a ∧ a < 730 then (1, 0) else if 800 ≤ a ∧ a < 830 then (1, 0) else if 900 ≤ a ∧ a < 930 then (1, 0) else (0, 0)
def pos (a : Nat) : Nat := if a < 100 then psL.getD a 0 else if a < 200 then 8 + 1 * (a - 100) else if a < 300 then 15 + 2 * (a - 200) else if a < 400 then 16 + 2 * (a - 300) else if a < 500 then 140 + 5 * (a - 400) else if a < 600 then 141 + 5 * (a - 500) else if a < 700 then 142 + 5 * (a - 600) else if a < 800 then 143 + 5 * (a - 700) else if a < 900 then 144 + 5 * (a - 800) else if a < 1000 then 300 + 1 * (a - 900) else 0
def adL : List Nat := [1, 2, 3, 4, 5, 6, 7, 8, 100, 101, 102, 103, 104, 105, 9, 200, 300, 201, 301, 202, 302, 203, 303, 204, 304, 205, 305, 206, 306, 207, 307, 208, 308, 209, 309, 210, 310, 211, 311, 212, 312, 213, 313, 214, 314, 215, 315, 216, 316, 217, 317, 218, 318, 219, 319, 220, 320, 221, 321, 222, 322, 223, 323, 224, 324, 225, 325, 226, 326, 227, 327, 228, 328, 229, 329, 230, 330, 231, 331, 232, 332, 233, 333, 234, 334, 235, 335, 236, 336, 237, 337, 238, 338, 239, 339, 240, 340, 241, 341, 242, 342, 243, 343, 244, 344, 245, 345, 246, 346, 247, 347, 248, 348, 249, 349, 250, 350, 251, 351, 252, 352, 253, 353, 254, 354, 255, 355, 256, 356, 257, 357, 258, 358, 259, 359, 10, 11, 12, 13, 14, 400, 500, 600, 700, 800, 401, 501, 601, 701, 801, 402, 502, 602, 702, 802, 403, 503, 603, 703, 803, 404, 504, 604, 704, 804, 405, 505, 605, 705, 805, 406, 506, 606, 706, 806, 407, 507, 607, 707, 807, 408, 508, 608, 708, 808, 409, 509, 609, 709, 809, 410, 510, 610, 710, 810, 411, 511, 611, 711, 811, 412, 512, 612, 712, 812, 413, 513, 613, 713, 813, 414, 514, 614, 714, 814, 415, 515, 615, 715, 815, 416, 516, 616, 716, 816, 417, 517, 617, 717, 817, 418, 518, 618, 718, 818, 419, 519, 619, 719, 819, 420, 520, 620, 720, 820, 421, 521, 621, 721, 821, 422, 522, 622, 722, 822, 423, 523, 623, 723, 823, 424, 524, 624, 724, 824, 425, 525, 625, 725, 825, 426, 526, 626, 726, 826, 427, 527, 627, 727, 827, 428, 528, 628, 728, 828, 429, 529, 629, 729, 829, 15, 16, 17, 18, 19, 20, 21, 22, 23, 24, 900, 901, 902, 903, 904, 905, 906, 907, 908, 909, 910, 911, 912, 913, 914, 915, 916, 917, 918, 919, 920, 921, 922, 923, 924, 925, 926, 927, 928, 929, 25, 26, 27, 28, 29, 30, 31, 32, 33, 34, 35, 36, 37, 38, 39, 40, 41, 42, 43, 44, 45, 46, 47, 48, 49, 50, 51, 52, 53, 54, 55, 56, 57, 58, 59, 60, 61, 62, 63, 64, 65, 66, 67, 68, 69, 70, 71, 72]
def ADR (i : Nat) : Nat := adL.getD i 0
def szSh (q : Nat × Nat) : Nat := if q.1 = 1 then nf q.2 else q.2
/-- how many slots the first n cells have together -/
def slN : Nat → Nat | 0 => 0 | n + 1 => slN n + szSh (SH (ADR n))
theorem inT1 {w : Jvm.Cond} (h : w ∈ tables_1_1) : w ∈ lw_tbl := List.mem_append_right _ (List.mem_append_left _ h)
theorem inT2 {w : Jvm.Cond} (h : w ∈ tables_1_2) : w ∈ lw_tbl := List.mem_append_right _ (List.mem_append_right _ (List.mem_append_left _ h))
theorem inT3 {w : Jvm.Cond} (h : w ∈ tables_1_3) : w ∈ lw_tbl := List.mem_append_right _ (List.mem_append_right _ (List.mem_append_right _ (List.mem_append_left _ h)))
theorem inT4 {w : Jvm.Cond} (h : w ∈ tables_1_4) : w ∈ lw_tbl := List.mem_append_right _ (List.mem_append_right _ (List.mem_append_right _ (List.mem_append_right _ (List.mem_append_left _ h))))
theorem inT5 {w : Jvm.Cond} (h : w ∈ tables_1_5) : w ∈ lw_tbl := List.mem_append_right _ (List.mem_append_right _ (List.mem_append_right _ (List.mem_append_right _ (List.mem_append_right _ (List.mem_append_left _ h)))))
theorem inT6 {w : Jvm.Cond} (h : w ∈ tables_1_6) : w ∈ lw_tbl := List.mem_append_right _ (List.mem_append_right _ (List.mem_append_right _ (List.mem_append_right _ (List.mem_append_right _ (List.mem_append_right _ (List.mem_append_left _ h))))))
theorem inT7 {w : Jvm.Cond} (h : w ∈ tables_1_7) : w ∈ lw_tbl := List.mem_append_right _ (List.mem_append_right _ (List.mem_append_right _ (List.mem_append_right _ (List.mem_append_right _ (List.mem_append_right _ (List.mem_append_right _ (List.mem_append_left _ h)))))))
theorem inT8 {w : Jvm.Cond} (h : w ∈ tables_1_8) : w ∈ lw_tbl := List.mem_append_right _ (List.mem_append_right _ (List.mem_append_right _ (List.mem_append_right _ (List.mem_append_right _ (List.mem_append_right _ (List.mem_append_right _ (List.mem_append_right _ (List.mem_append_left _ h))))))))
theorem inT9 {w : Jvm.Cond} (h : w ∈ tables_1_9) : w ∈ lw_tbl := List.mem_append_right _ (List.mem_append_right _ (List.mem_append_right _ (List.mem_append_right _ (List.mem_append_right _ (List.mem_append_right _ (List.mem_append_right _ (List.mem_append_right _ (List.mem_append_right _ (h)))))))))
def atW (p : Nat) (w : Jvm.Cond) : Bool := decide (lw_tbl[p]? = some w)
theorem atW_mem {p : Nat} {w : Jvm.Cond} (h : atW p w = true) : w ∈ lw_tbl := List.mem_of_getElem? (of_decide_eq_true h)
def chkF : Bool := (List.range 16).all fun own => (fldL.getD own []).all fun q => decide (q.2.1 < 13) && decide (q.2.2.1 < nf q.2.1) && atW q.2.2.2 (.fieldLink (cName own) q.1 (cName q.2.1) (fQ q.2.1 q.2.2.1).1 (fQ q.2.1 q.2.2.1).2.1)
theorem chkF_ok : chkF = true := by decide +kernel
def chkM1 (y : Nat) : Bool := decide ((mName y).cls = cName (mOw y)) && (if mKd y = 1 then atW (mWs y).2.1 (.static (mName y)) else atW (mWs y).2.1 (.instanceMethod (mName y))) && (if mKd y = 0 then atW (mWs y).2.2.1 (.selects (mName y).cls (mName y) (mName y)) else true) && atW (mWs y).2.2.2 (.initialized (mName y).cls)
def chkM2 (y : Nat) : Bool := decide ((mName y).cls ≠ "java/lang/invoke/MethodHandle" ∧ (mName y).cls ≠ "java/lang/invoke/VarHandle" ∧ (parseMethodDescriptor (mName y).desc).map (fun d => d.parameters.length) = some (mNp y)) && decide (Jvm.plainName (mName y).cls = true) && decide (mKd y = 2 → (mName y).name = "<init>" ∧ mRt y = none) && decide (mMx y ≤ 40) && decide (mKd y < 3) && decide (mOw y < 16)
theorem chkM1_0 : ((List.range 40).all fun i => chkM1 (0 + i)) = true := by decide +kernel
theorem chkM1_40 : ((List.range 40).all fun i => chkM1 (40 + i)) = true := by decide +kernel
theorem chkM1_80 : ((List.range 40).all fun i => chkM1 (80 + i)) = true := by decide +kernel
theorem chkM1_120 : ((List.range 40).all fun i => chkM1 (120 + i)) = true := by decide +kernel
theorem chkM1_160 : ((List.range 40).all fun i => chkM1 (160 + i)) = true := by decide +kernel
theorem chkM1_200 : ((List.range 40).all fun i => chkM1 (200 + i)) = true := by decide +kernel
theorem chkM1_240 : ((List.range 40).all fun i => chkM1 (240 + i)) = true := by decide +kernel
theorem chkM1_280 : ((List.range 29).all fun i => chkM1 (280 + i)) = true := by decide +kernel
theorem chkM1_ok (y : Nat) (h : y < 309) : chkM1 y = true := by
  rcases Nat.lt_or_ge y 40 with q0 | q0
  · have := List.all_eq_true.mp chkM1_0 (y - 0) (List.mem_range.mpr (by omega)); rwa [show 0 + (y - 0) = y by omega] at this
  rcases Nat.lt_or_ge y 80 with q40 | q40
  · have := List.all_eq_true.mp chkM1_40 (y - 40) (List.mem_range.mpr (by omega)); rwa [show 40 + (y - 40) = y by omega] at this
  rcases Nat.lt_or_ge y 120 with q80 | q80
  · have := List.all_eq_true.mp chkM1_80 (y - 80) (List.mem_range.mpr (by omega)); rwa [show 80 + (y - 80) = y by omega] at this
  rcases Nat.lt_or_ge y 160 with q120 | q120
  · have := List.all_eq_true.mp chkM1_120 (y - 120) (List.mem_range.mpr (by omega)); rwa [show 120 + (y - 120) = y by omega] at this
  rcases Nat.lt_or_ge y 200 with q160 | q160
  · have := List.all_eq_true.mp chkM1_160 (y - 160) (List.mem_range.mpr (by omega)); rwa [show 160 + (y - 160) = y by omega] at this
  rcases Nat.lt_or_ge y 240 with q200 | q200
  · have := List.all_eq_true.mp chkM1_200 (y - 200) (List.mem_range.mpr (by omega)); rwa [show 200 + (y - 200) = y by omega] at this
  rcases Nat.lt_or_ge y 280 with q240 | q240
  · have := List.all_eq_true.mp chkM1_240 (y - 240) (List.mem_range.mpr (by omega)); rwa [show 240 + (y - 240) = y by omega] at this
  have := List.all_eq_true.mp chkM1_280 (y - 280) (List.mem_range.mpr (by omega)); rwa [show 280 + (y - 280) = y by omega] at this
theorem chkM2_0 : ((List.range 40).all fun i => chkM2 (0 + i)) = true := by decide +kernel
theorem chkM2_40 : ((List.range 40).all fun i => chkM2 (40 + i)) = true := by decide +kernel
theorem chkM2_80 : ((List.range 40).all fun i => chkM2 (80 + i)) = true := by decide +kernel
theorem chkM2_120 : ((List.range 40).all fun i => chkM2 (120 + i)) = true := by decide +kernel
theorem chkM2_160 : ((List.range 40).all fun i => chkM2 (160 + i)) = true := by decide +kernel
theorem chkM2_200 : ((List.range 40).all fun i => chkM2 (200 + i)) = true := by decide +kernel
theorem chkM2_240 : ((List.range 40).all fun i => chkM2 (240 + i)) = true := by decide +kernel
theorem chkM2_280 : ((List.range 29).all fun i => chkM2 (280 + i)) = true := by decide +kernel
theorem chkM2_ok (y : Nat) (h : y < 309) : chkM2 y = true := by
  rcases Nat.lt_or_ge y 40 with q0 | q0
  · have := List.all_eq_true.mp chkM2_0 (y - 0) (List.mem_range.mpr (by omega)); rwa [show 0 + (y - 0) = y by omega] at this
  rcases Nat.lt_or_ge y 80 with q40 | q40
  · have := List.all_eq_true.mp chkM2_40 (y - 40) (List.mem_range.mpr (by omega)); rwa [show 40 + (y - 40) = y by omega] at this
  rcases Nat.lt_or_ge y 120 with q80 | q80
  · have := List.all_eq_true.mp chkM2_80 (y - 80) (List.mem_range.mpr (by omega)); rwa [show 80 + (y - 80) = y by omega] at this
  rcases Nat.lt_or_ge y 160 with q120 | q120
  · have := List.all_eq_true.mp chkM2_120 (y - 120) (List.mem_range.mpr (by omega)); rwa [show 120 + (y - 120) = y by omega] at this
  rcases Nat.lt_or_ge y 200 with q160 | q160
  · have := List.all_eq_true.mp chkM2_160 (y - 160) (List.mem_range.mpr (by omega)); rwa [show 160 + (y - 160) = y by omega] at this
  rcases Nat.lt_or_ge y 240 with q200 | q200
  · have := List.all_eq_true.mp chkM2_200 (y - 200) (List.mem_range.mpr (by omega)); rwa [show 200 + (y - 200) = y by omega] at this
  rcases Nat.lt_or_ge y 280 with q240 | q240
  · have := List.all_eq_true.mp chkM2_240 (y - 240) (List.mem_range.mpr (by omega)); rwa [show 240 + (y - 240) = y by omega] at this
  have := List.all_eq_true.mp chkM2_280 (y - 280) (List.mem_range.mpr (by omega)); rwa [show 280 + (y - 280) = y by omega] at this
def chkC : Bool := (List.range 16).all fun own => (calL.getD own []).all fun q => decide (q.2.1 < 309) && (if q.2.2.1 = 0 then atW q.2.2.2 (.methodLink (cName own) q.1 (mName q.2.1)) else atW q.2.2.2 (.methodLinkNest (cName own) q.1 (mName q.2.1) "PoleSets"))
theorem chkC_ok : chkC = true := by decide +kernel
def chkO : Bool := (List.range 16).all fun own => (objL.getD own []).all fun q => atW q.2 (.methodLink (cName own) q.1 objectInit)
theorem chkO_ok : chkO = true := by decide +kernel
theorem objI_ok : Jvm.Cond.instanceMethod objectInit ∈ lw_tbl ∧ Jvm.Cond.code objectInit ⟨#[0xb1]⟩ 1 none ∈ lw_tbl := ⟨List.mem_of_getElem? (i := 123) (by decide +kernel), List.mem_of_getElem? (i := 124) (by decide +kernel)⟩
def chkP : Bool := (List.range 16).all fun own => (prmL.getD own []).all (fun q => decide (q.2.1 < 6) && atW q.2.2 (.methodLink (cName own) q.1 (prNm.getD q.2.1 x)))
theorem chkP_ok : chkP = true := by decide +kernel
theorem prc0 : Jvm.Cond.code (prNm.getD 0 x) Lib.Math.max.code 2 ((some .int)) ∈ lw_tbl := inT4 (List.mem_of_getElem? (i := 59) (by decide +kernel))
theorem prs0 : Jvm.Cond.static (prNm.getD 0 x) ∈ lw_tbl := List.mem_of_getElem? (i := 879) (by decide +kernel)
theorem prc1 : Jvm.Cond.code (prNm.getD 1 x) Lib.Math.min.code 2 ((some .int)) ∈ lw_tbl := inT3 (List.mem_of_getElem? (i := 224) (by decide +kernel))
theorem prs1 : Jvm.Cond.static (prNm.getD 1 x) ∈ lw_tbl := List.mem_of_getElem? (i := 804) (by decide +kernel)
theorem prc2 : Jvm.Cond.code (prNm.getD 2 x) Lib.Math.abs.code 1 ((some .int)) ∈ lw_tbl := inT7 (List.mem_of_getElem? (i := 234) (by decide +kernel))
theorem prs2 : Jvm.Cond.static (prNm.getD 2 x) ∈ lw_tbl := List.mem_of_getElem? (i := 1774) (by decide +kernel)
theorem prc3 : Jvm.Cond.code (prNm.getD 3 x) Lib.MathLoose.min_long.code 4 ((some .long)) ∈ lw_tbl := inT4 (List.mem_of_getElem? (i := 168) (by decide +kernel))
theorem prs3 : Jvm.Cond.static (prNm.getD 3 x) ∈ lw_tbl := List.mem_of_getElem? (i := 988) (by decide +kernel)
theorem prc4 : Jvm.Cond.code (prNm.getD 4 x) Lib.MathLoose.abs_long.code 2 ((some .long)) ∈ lw_tbl := inT5 (List.mem_of_getElem? (i := 234) (by decide +kernel))
theorem prs4 : Jvm.Cond.static (prNm.getD 4 x) ∈ lw_tbl := List.mem_of_getElem? (i := 1294) (by decide +kernel)
theorem prc5 : Jvm.Cond.code (prNm.getD 5 x) prog_16_method_50_code 3 ((some .int)) ∈ lw_tbl := inT4 (List.mem_of_getElem? (i := 70) (by decide +kernel))
theorem prs5 : Jvm.Cond.static (prNm.getD 5 x) ∈ lw_tbl := List.mem_of_getElem? (i := 890) (by decide +kernel)
theorem pri_ok : Jvm.Cond.initialized "java/lang/Math" ∈ lw_tbl := List.mem_of_getElem? (i := 115) (by decide +kernel)
def chkK : Bool := (List.range 16).all fun own => (kiL.getD own []).all (fun q => atW q.2.2 (.constant (cName own) q.1 q.2.1)) && (klL.getD own []).all (fun q => atW q.2.2 (.constantLong (cName own) q.1 q.2.1))
theorem chkK_ok : chkK = true := by decide +kernel
def chkL : Bool := (List.range 16).all fun own => (clkL.getD own []).all (fun q => decide (q.2.1 < 13) && atW q.2.2 (.classLink (cName own) q.1 (cName q.2.1)))
theorem chkL_ok : chkL = true := by decide +kernel
def chkW : Bool := (List.range 13).all fun c => atW (cWs c).1 (.instantiable (cName c) (nf c)) && atW (cWs c).2 (.initialized (cName c))
theorem chkW_ok : chkW = true := by decide +kernel
def chkA : Bool := arkL.all (fun q => atW q.2.2 (.arrayOver (.object (cName q.2.1)))) && atW 143 (.arrayClass .int) && atW 541 (.arrayClass .long)
theorem chkA_ok : chkA = true := by decide +kernel

def lypL : List (List Nat) := [[176, 178, 180], [221, 223, 225, 227, 229, 231, 233, 235, 237], [350, 352, 354, 356, 358, 360, 362, 364, 366, 368, 370], [317, 319], [601, 603, 605, 607, 609, 611, 613, 615], [140], [469, 471, 473, 475, 477, 479, 481, 483, 485], [562, 564, 566, 568, 570, 572, 574, 576, 578, 580], [268, 270, 272, 274, 276, 278, 280, 282, 284, 286, 288], [514, 516, 518, 520, 522, 524, 526, 528, 530, 532, 534, 536, 538], [408, 410, 412, 414, 416, 418, 420, 422, 424, 426, 428, 430, 432, 434, 436, 438, 440, 442, 444], [627, 629, 631, 633, 635, 637, 639, 641, 643], [1458, 1460, 1462, 1464, 1466, 1468, 1470, 1472, 1474, 1476, 1478, 1480, 1482, 1484, 1486, 1488, 1490, 1492, 1494, 1496, 1498, 1500, 1502, 1504, 1506, 1508, 1510, 1512, 1514, 1516, 1518, 1520, 1522, 1524, 1526, 1528, 1530, 1532, 1534, 1536, 1538, 1540, 1542, 1544, 1546, 1548, 1550, 1552, 1554]]
def chkY : Bool := (List.range 13).all fun c => (List.range (nf c)).all fun k => atW ((lypL.getD c []).getD k 0) (u_lay (cName c) (fT c) k) && decide (parseFieldDescriptor (fQ c k).2.1 = some (fTy c k)) && decide (ftc c k = (match fTy c k with | .int => 0 | .long => 1 | .boolean => 3 | .object _ => 2 | .array _ => 2 | _ => 9))
theorem chkY_ok : chkY = true := by decide +kernel
theorem chkN_ok : ((List.range 13).all fun c => (List.range (nf c)).all fun a => (List.range (nf c)).all fun b => decide (a = b ∨ (fQ c a).1 ≠ (fQ c b).1)) = true := by decide +kernel
theorem lay1_ok : ((List.range NT).all fun i => decide (pos (ADR i) = i ∧ ADR i ≠ 0 ∧ (SH (ADR i)).1 ≠ 0 ∧ ADR i < 1000)) = true := by decide +kernel
theorem lay2_ok : ((List.range 1000).all fun a => decide (a = 0 ∨ (SH a).1 = 0 ∨ (pos a < NT ∧ ADR (pos a) = a))) = true := by decide +kernel
def lw_gd : List Jvm.Cond := lw_tbl.filter goodWord
theorem gd_mem {w : Jvm.Cond} (h : w ∈ lw_tbl) (g : goodWord w = true) : w ∈ lw_gd := List.mem_filter.mpr ⟨h, g⟩
def ALLn (P : Nat → Prop) : Nat → Nat → Prop | 0, _ => True | n + 1, s => P s ∧ ALLn P n (s + 1)
theorem ALLn_at {P : Nat → Prop} : ∀ (n s : Nat), ALLn P n s → ∀ y, s ≤ y → y < s + n → P y
  | 0, s, _, y, h1, h2 => absurd h2 (by omega)
  | n + 1, s, h, y, h1, h2 => by
    rcases Nat.eq_or_lt_of_le h1 with e | e
    · exact e ▸ h.1
    · exact ALLn_at n (s + 1) h.2 y e (by omega)
def codeW (y : Nat) : Jvm.Cond := .code (mName y) (mCode y) (mMx y) (mRt y)
set_option maxRecDepth 20000 in
theorem cdk0 : ALLn (fun y => codeW y ∈ lw_tbl) 16 0 := ⟨inT1 (List.mem_of_getElem? (i := 58) rfl), inT3 (List.mem_of_getElem? (i := 95) rfl), inT4 (List.mem_of_getElem? (i := 12) rfl), inT4 (List.mem_of_getElem? (i := 110) rfl), inT3 (List.mem_of_getElem? (i := 137) rfl), inT3 (List.mem_of_getElem? (i := 142) rfl), inT6 (List.mem_of_getElem? (i := 10) rfl), inT5 (List.mem_of_getElem? (i := 230) rfl), inT4 (List.mem_of_getElem? (i := 32) rfl), inT1 (List.mem_of_getElem? (i := 87) rfl), inT3 (List.mem_of_getElem? (i := 118) rfl), inT4 (List.mem_of_getElem? (i := 106) rfl), inT1 (List.mem_of_getElem? (i := 202) rfl), inT3 (List.mem_of_getElem? (i := 232) rfl), inT4 (List.mem_of_getElem? (i := 150) rfl), inT1 (List.mem_of_getElem? (i := 208) rfl), trivial⟩
set_option maxRecDepth 20000 in
theorem cdk1 : ALLn (fun y => codeW y ∈ lw_tbl) 16 16 := ⟨inT4 (List.mem_of_getElem? (i := 17) rfl), inT4 (List.mem_of_getElem? (i := 22) rfl), inT4 (List.mem_of_getElem? (i := 154) rfl), inT4 (List.mem_of_getElem? (i := 161) rfl), inT4 (List.mem_of_getElem? (i := 27) rfl), inT3 (List.mem_of_getElem? (i := 6) rfl), inT6 (List.mem_of_getElem? (i := 91) rfl), inT6 (List.mem_of_getElem? (i := 84) rfl), inT1 (List.mem_of_getElem? (i := 28) rfl), inT1 (List.mem_of_getElem? (i := 32) rfl), inT6 (List.mem_of_getElem? (i := 43) rfl), inT5 (List.mem_of_getElem? (i := 108) rfl), inT3 (List.mem_of_getElem? (i := 128) rfl), inT3 (List.mem_of_getElem? (i := 91) rfl), inT4 (List.mem_of_getElem? (i := 221) rfl), inT3 (List.mem_of_getElem? (i := 153) rfl), trivial⟩
set_option maxRecDepth 20000 in
theorem cdk2 : ALLn (fun y => codeW y ∈ lw_tbl) 16 32 := ⟨inT5 (List.mem_of_getElem? (i := 24) rfl), inT4 (List.mem_of_getElem? (i := 40) rfl), inT4 (List.mem_of_getElem? (i := 45) rfl), inT4 (List.mem_of_getElem? (i := 50) rfl), inT6 (List.mem_of_getElem? (i := 16) rfl), inT4 (List.mem_of_getElem? (i := 36) rfl), inT2 (List.mem_of_getElem? (i := 110) rfl), inT5 (List.mem_of_getElem? (i := 47) rfl), inT5 (List.mem_of_getElem? (i := 51) rfl), inT5 (List.mem_of_getElem? (i := 56) rfl), inT5 (List.mem_of_getElem? (i := 60) rfl), inT5 (List.mem_of_getElem? (i := 66) rfl), inT5 (List.mem_of_getElem? (i := 73) rfl), inT5 (List.mem_of_getElem? (i := 77) rfl), inT2 (List.mem_of_getElem? (i := 205) rfl), inT3 (List.mem_of_getElem? (i := 192) rfl), trivial⟩
set_option maxRecDepth 20000 in
theorem cdk3 : ALLn (fun y => codeW y ∈ lw_tbl) 16 48 := ⟨inT4 (List.mem_of_getElem? (i := 67) rfl), inT4 (List.mem_of_getElem? (i := 64) rfl), inT6 (List.mem_of_getElem? (i := 31) rfl), inT6 (List.mem_of_getElem? (i := 4) rfl), inT6 (List.mem_of_getElem? (i := 24) rfl), inT6 (List.mem_of_getElem? (i := 39) rfl), inT6 (List.mem_of_getElem? (i := 35) rfl), inT6 (List.mem_of_getElem? (i := 49) rfl), inT6 (List.mem_of_getElem? (i := 68) rfl), inT6 (List.mem_of_getElem? (i := 57) rfl), inT1 (List.mem_of_getElem? (i := 47) rfl), inT3 (List.mem_of_getElem? (i := 110) rfl), inT3 (List.mem_of_getElem? (i := 164) rfl), inT3 (List.mem_of_getElem? (i := 87) rfl), inT3 (List.mem_of_getElem? (i := 114) rfl), inT3 (List.mem_of_getElem? (i := 168) rfl), trivial⟩
set_option maxRecDepth 20000 in
theorem cdk4 : ALLn (fun y => codeW y ∈ lw_tbl) 16 64 := ⟨inT3 (List.mem_of_getElem? (i := 184) rfl), inT3 (List.mem_of_getElem? (i := 133) rfl), inT3 (List.mem_of_getElem? (i := 216) rfl), inT4 (List.mem_of_getElem? (i := 136) rfl), inT4 (List.mem_of_getElem? (i := 102) rfl), inT4 (List.mem_of_getElem? (i := 86) rfl), inT4 (List.mem_of_getElem? (i := 90) rfl), inT4 (List.mem_of_getElem? (i := 118) rfl), inT4 (List.mem_of_getElem? (i := 122) rfl), inT5 (List.mem_of_getElem? (i := 104) rfl), inT5 (List.mem_of_getElem? (i := 95) rfl), inT5 (List.mem_of_getElem? (i := 118) rfl), inT5 (List.mem_of_getElem? (i := 174) rfl), inT2 (List.mem_of_getElem? (i := 151) rfl), inT5 (List.mem_of_getElem? (i := 126) rfl), inT5 (List.mem_of_getElem? (i := 130) rfl), trivial⟩
set_option maxRecDepth 20000 in
theorem cdk5 : ALLn (fun y => codeW y ∈ lw_tbl) 16 80 := ⟨inT5 (List.mem_of_getElem? (i := 146) rfl), inT5 (List.mem_of_getElem? (i := 140) rfl), inT5 (List.mem_of_getElem? (i := 151) rfl), inT5 (List.mem_of_getElem? (i := 159) rfl), inT5 (List.mem_of_getElem? (i := 165) rfl), inT5 (List.mem_of_getElem? (i := 182) rfl), inT1 (List.mem_of_getElem? (i := 194) rfl), inT3 (List.mem_of_getElem? (i := 176) rfl), inT3 (List.mem_of_getElem? (i := 212) rfl), inT3 (List.mem_of_getElem? (i := 208) rfl), inT3 (List.mem_of_getElem? (i := 204) rfl), inT5 (List.mem_of_getElem? (i := 3) rfl), inT5 (List.mem_of_getElem? (i := 34) rfl), inT4 (List.mem_of_getElem? (i := 205) rfl), inT4 (List.mem_of_getElem? (i := 209) rfl), inT5 (List.mem_of_getElem? (i := 11) rfl), trivial⟩
set_option maxRecDepth 20000 in
theorem cdk6 : ALLn (fun y => codeW y ∈ lw_tbl) 16 96 := ⟨inT5 (List.mem_of_getElem? (i := 15) rfl), inT3 (List.mem_of_getElem? (i := 200) rfl), inT3 (List.mem_of_getElem? (i := 220) rfl), inT3 (List.mem_of_getElem? (i := 228) rfl), inT4 (List.mem_of_getElem? (i := 145) rfl), inT4 (List.mem_of_getElem? (i := 177) rfl), inT4 (List.mem_of_getElem? (i := 94) rfl), inT4 (List.mem_of_getElem? (i := 234) rfl), inT3 (List.mem_of_getElem? (i := 196) rfl), inT3 (List.mem_of_getElem? (i := 236) rfl), inT4 (List.mem_of_getElem? (i := 0) rfl), inT4 (List.mem_of_getElem? (i := 4) rfl), inT4 (List.mem_of_getElem? (i := 8) rfl), inT4 (List.mem_of_getElem? (i := 55) rfl), inT4 (List.mem_of_getElem? (i := 197) rfl), inT4 (List.mem_of_getElem? (i := 225) rfl), trivial⟩
set_option maxRecDepth 20000 in
theorem cdk7 : ALLn (fun y => codeW y ∈ lw_tbl) 16 112 := ⟨inT4 (List.mem_of_getElem? (i := 217) rfl), inT5 (List.mem_of_getElem? (i := 195) rfl), inT5 (List.mem_of_getElem? (i := 191) rfl), inT5 (List.mem_of_getElem? (i := 199) rfl), inT5 (List.mem_of_getElem? (i := 206) rfl), inT1 (List.mem_of_getElem? (i := 20) rfl), inT3 (List.mem_of_getElem? (i := 68) rfl), inT3 (List.mem_of_getElem? (i := 72) rfl), inT3 (List.mem_of_getElem? (i := 103) rfl), inT3 (List.mem_of_getElem? (i := 160) rfl), inT3 (List.mem_of_getElem? (i := 172) rfl), inT3 (List.mem_of_getElem? (i := 180) rfl), inT3 (List.mem_of_getElem? (i := 188) rfl), inT4 (List.mem_of_getElem? (i := 81) rfl), inT4 (List.mem_of_getElem? (i := 98) rfl), inT4 (List.mem_of_getElem? (i := 114) rfl), trivial⟩
set_option maxRecDepth 20000 in
theorem cdk8 : ALLn (fun y => codeW y ∈ lw_tbl) 16 128 := ⟨inT4 (List.mem_of_getElem? (i := 127) rfl), inT4 (List.mem_of_getElem? (i := 132) rfl), inT4 (List.mem_of_getElem? (i := 141) rfl), inT4 (List.mem_of_getElem? (i := 173) rfl), inT4 (List.mem_of_getElem? (i := 185) rfl), inT4 (List.mem_of_getElem? (i := 189) rfl), inT4 (List.mem_of_getElem? (i := 201) rfl), inT4 (List.mem_of_getElem? (i := 213) rfl), inT4 (List.mem_of_getElem? (i := 230) rfl), inT4 (List.mem_of_getElem? (i := 239) rfl), inT5 (List.mem_of_getElem? (i := 7) rfl), inT5 (List.mem_of_getElem? (i := 20) rfl), inT5 (List.mem_of_getElem? (i := 30) rfl), inT5 (List.mem_of_getElem? (i := 39) rfl), inT5 (List.mem_of_getElem? (i := 43) rfl), inT5 (List.mem_of_getElem? (i := 81) rfl), trivial⟩
set_option maxRecDepth 20000 in
theorem cdk9 : ALLn (fun y => codeW y ∈ lw_tbl) 16 144 := ⟨inT5 (List.mem_of_getElem? (i := 85) rfl), inT5 (List.mem_of_getElem? (i := 90) rfl), inT5 (List.mem_of_getElem? (i := 100) rfl), inT5 (List.mem_of_getElem? (i := 114) rfl), inT5 (List.mem_of_getElem? (i := 122) rfl), inT5 (List.mem_of_getElem? (i := 136) rfl), inT5 (List.mem_of_getElem? (i := 155) rfl), inT5 (List.mem_of_getElem? (i := 170) rfl), inT5 (List.mem_of_getElem? (i := 178) rfl), inT5 (List.mem_of_getElem? (i := 187) rfl), inT5 (List.mem_of_getElem? (i := 220) rfl), inT5 (List.mem_of_getElem? (i := 226) rfl), inT5 (List.mem_of_getElem? (i := 238) rfl), inT6 (List.mem_of_getElem? (i := 20) rfl), inT6 (List.mem_of_getElem? (i := 53) rfl), inT6 (List.mem_of_getElem? (i := 63) rfl), trivial⟩
set_option maxRecDepth 20000 in
theorem cdk10 : ALLn (fun y => codeW y ∈ lw_tbl) 16 160 := ⟨inT6 (List.mem_of_getElem? (i := 76) rfl), inT6 (List.mem_of_getElem? (i := 80) rfl), inT6 (List.mem_of_getElem? (i := 101) rfl), inT3 (List.mem_of_getElem? (i := 99) rfl), inT3 (List.mem_of_getElem? (i := 83) rfl), inT4 (List.mem_of_getElem? (i := 181) rfl), inT4 (List.mem_of_getElem? (i := 193) rfl), inT3 (List.mem_of_getElem? (i := 78) rfl), inT3 (List.mem_of_getElem? (i := 106) rfl), inT3 (List.mem_of_getElem? (i := 75) rfl), inT1 (List.mem_of_getElem? (i := 37) rfl), inT3 (List.mem_of_getElem? (i := 146) rfl), inT5 (List.mem_of_getElem? (i := 209) rfl), inT3 (List.mem_of_getElem? (i := 121) rfl), inT3 (List.mem_of_getElem? (i := 124) rfl), inT1 (List.mem_of_getElem? (i := 53) rfl), trivial⟩
set_option maxRecDepth 20000 in
theorem cdk11 : ALLn (fun y => codeW y ∈ lw_tbl) 16 176 := ⟨inT6 (List.mem_of_getElem? (i := 106) rfl), inT7 (List.mem_of_getElem? (i := 19) rfl), inT7 (List.mem_of_getElem? (i := 31) rfl), inT7 (List.mem_of_getElem? (i := 46) rfl), inT8 (List.mem_of_getElem? (i := 48) rfl), inT7 (List.mem_of_getElem? (i := 26) rfl), inT7 (List.mem_of_getElem? (i := 41) rfl), inT7 (List.mem_of_getElem? (i := 38) rfl), inT7 (List.mem_of_getElem? (i := 172) rfl), inT7 (List.mem_of_getElem? (i := 64) rfl), inT7 (List.mem_of_getElem? (i := 61) rfl), inT7 (List.mem_of_getElem? (i := 35) rfl), inT7 (List.mem_of_getElem? (i := 103) rfl), inT7 (List.mem_of_getElem? (i := 110) rfl), inT7 (List.mem_of_getElem? (i := 113) rfl), inT8 (List.mem_of_getElem? (i := 32) rfl), trivial⟩
set_option maxRecDepth 20000 in
theorem cdk12 : ALLn (fun y => codeW y ∈ lw_tbl) 16 192 := ⟨inT7 (List.mem_of_getElem? (i := 100) rfl), inT7 (List.mem_of_getElem? (i := 107) rfl), inT8 (List.mem_of_getElem? (i := 29) rfl), inT7 (List.mem_of_getElem? (i := 96) rfl), inT7 (List.mem_of_getElem? (i := 168) rfl), inT7 (List.mem_of_getElem? (i := 164) rfl), inT7 (List.mem_of_getElem? (i := 23) rfl), inT7 (List.mem_of_getElem? (i := 53) rfl), inT7 (List.mem_of_getElem? (i := 57) rfl), inT7 (List.mem_of_getElem? (i := 72) rfl), inT7 (List.mem_of_getElem? (i := 50) rfl), inT7 (List.mem_of_getElem? (i := 68) rfl), inT7 (List.mem_of_getElem? (i := 76) rfl), inT7 (List.mem_of_getElem? (i := 80) rfl), inT7 (List.mem_of_getElem? (i := 84) rfl), inT7 (List.mem_of_getElem? (i := 119) rfl), trivial⟩
set_option maxRecDepth 20000 in
theorem cdk13 : ALLn (fun y => codeW y ∈ lw_tbl) 16 208 := ⟨inT7 (List.mem_of_getElem? (i := 92) rfl), inT7 (List.mem_of_getElem? (i := 124) rfl), inT7 (List.mem_of_getElem? (i := 88) rfl), inT8 (List.mem_of_getElem? (i := 9) rfl), inT7 (List.mem_of_getElem? (i := 152) rfl), inT7 (List.mem_of_getElem? (i := 148) rfl), inT7 (List.mem_of_getElem? (i := 160) rfl), inT7 (List.mem_of_getElem? (i := 179) rfl), inT7 (List.mem_of_getElem? (i := 156) rfl), inT7 (List.mem_of_getElem? (i := 183) rfl), inT7 (List.mem_of_getElem? (i := 187) rfl), inT7 (List.mem_of_getElem? (i := 144) rfl), inT7 (List.mem_of_getElem? (i := 140) rfl), inT7 (List.mem_of_getElem? (i := 136) rfl), inT7 (List.mem_of_getElem? (i := 191) rfl), inT7 (List.mem_of_getElem? (i := 199) rfl), trivial⟩
set_option maxRecDepth 20000 in
theorem cdk14 : ALLn (fun y => codeW y ∈ lw_tbl) 16 224 := ⟨inT7 (List.mem_of_getElem? (i := 207) rfl), inT7 (List.mem_of_getElem? (i := 203) rfl), inT7 (List.mem_of_getElem? (i := 195) rfl), inT8 (List.mem_of_getElem? (i := 52) rfl), inT8 (List.mem_of_getElem? (i := 56) rfl), inT8 (List.mem_of_getElem? (i := 73) rfl), inT8 (List.mem_of_getElem? (i := 69) rfl), inT8 (List.mem_of_getElem? (i := 65) rfl), inT8 (List.mem_of_getElem? (i := 81) rfl), inT8 (List.mem_of_getElem? (i := 61) rfl), inT8 (List.mem_of_getElem? (i := 77) rfl), inT8 (List.mem_of_getElem? (i := 44) rfl), inT8 (List.mem_of_getElem? (i := 101) rfl), inT8 (List.mem_of_getElem? (i := 5) rfl), inT8 (List.mem_of_getElem? (i := 1) rfl), inT8 (List.mem_of_getElem? (i := 17) rfl), trivial⟩
set_option maxRecDepth 20000 in
theorem cdk15 : ALLn (fun y => codeW y ∈ lw_tbl) 16 240 := ⟨inT8 (List.mem_of_getElem? (i := 13) rfl), inT8 (List.mem_of_getElem? (i := 21) rfl), inT8 (List.mem_of_getElem? (i := 25) rfl), inT8 (List.mem_of_getElem? (i := 36) rfl), inT8 (List.mem_of_getElem? (i := 40) rfl), inT8 (List.mem_of_getElem? (i := 89) rfl), inT8 (List.mem_of_getElem? (i := 85) rfl), inT8 (List.mem_of_getElem? (i := 93) rfl), inT8 (List.mem_of_getElem? (i := 105) rfl), inT8 (List.mem_of_getElem? (i := 97) rfl), inT8 (List.mem_of_getElem? (i := 109) rfl), inT8 (List.mem_of_getElem? (i := 113) rfl), inT8 (List.mem_of_getElem? (i := 117) rfl), inT8 (List.mem_of_getElem? (i := 121) rfl), inT8 (List.mem_of_getElem? (i := 129) rfl), inT8 (List.mem_of_getElem? (i := 125) rfl), trivial⟩
set_option maxRecDepth 20000 in
theorem cdk16 : ALLn (fun y => codeW y ∈ lw_tbl) 16 256 := ⟨inT8 (List.mem_of_getElem? (i := 137) rfl), inT8 (List.mem_of_getElem? (i := 133) rfl), inT8 (List.mem_of_getElem? (i := 145) rfl), inT8 (List.mem_of_getElem? (i := 141) rfl), inT8 (List.mem_of_getElem? (i := 149) rfl), inT8 (List.mem_of_getElem? (i := 164) rfl), inT8 (List.mem_of_getElem? (i := 160) rfl), inT8 (List.mem_of_getElem? (i := 156) rfl), inT8 (List.mem_of_getElem? (i := 153) rfl), inT8 (List.mem_of_getElem? (i := 168) rfl), inT8 (List.mem_of_getElem? (i := 172) rfl), inT8 (List.mem_of_getElem? (i := 188) rfl), inT8 (List.mem_of_getElem? (i := 180) rfl), inT8 (List.mem_of_getElem? (i := 176) rfl), inT8 (List.mem_of_getElem? (i := 184) rfl), inT8 (List.mem_of_getElem? (i := 192) rfl), trivial⟩
set_option maxRecDepth 20000 in
theorem cdk17 : ALLn (fun y => codeW y ∈ lw_tbl) 16 272 := ⟨inT8 (List.mem_of_getElem? (i := 200) rfl), inT8 (List.mem_of_getElem? (i := 196) rfl), inT8 (List.mem_of_getElem? (i := 208) rfl), inT8 (List.mem_of_getElem? (i := 204) rfl), inT8 (List.mem_of_getElem? (i := 212) rfl), inT8 (List.mem_of_getElem? (i := 217) rfl), inT8 (List.mem_of_getElem? (i := 221) rfl), inT8 (List.mem_of_getElem? (i := 234) rfl), inT8 (List.mem_of_getElem? (i := 229) rfl), inT8 (List.mem_of_getElem? (i := 225) rfl), inT8 (List.mem_of_getElem? (i := 238) rfl), inT7 (List.mem_of_getElem? (i := 220) rfl), inT7 (List.mem_of_getElem? (i := 216) rfl), inT9 (List.mem_of_getElem? (i := 5) rfl), inT9 (List.mem_of_getElem? (i := 2) rfl), inT7 (List.mem_of_getElem? (i := 211) rfl), trivial⟩
set_option maxRecDepth 20000 in
theorem cdk18 : ALLn (fun y => codeW y ∈ lw_tbl) 16 288 := ⟨inT7 (List.mem_of_getElem? (i := 224) rfl), inT9 (List.mem_of_getElem? (i := 10) rfl), inT7 (List.mem_of_getElem? (i := 231) rfl), inT7 (List.mem_of_getElem? (i := 237) rfl), inT7 (List.mem_of_getElem? (i := 132) rfl), inT7 (List.mem_of_getElem? (i := 128) rfl), inT7 (List.mem_of_getElem? (i := 228) rfl), inT9 (List.mem_of_getElem? (i := 18) rfl), inT9 (List.mem_of_getElem? (i := 26) rfl), inT9 (List.mem_of_getElem? (i := 22) rfl), inT9 (List.mem_of_getElem? (i := 30) rfl), inT9 (List.mem_of_getElem? (i := 14) rfl), inT9 (List.mem_of_getElem? (i := 34) rfl), inT9 (List.mem_of_getElem? (i := 42) rfl), inT9 (List.mem_of_getElem? (i := 38) rfl), inT9 (List.mem_of_getElem? (i := 46) rfl), trivial⟩
set_option maxRecDepth 20000 in
theorem cdk19 : ALLn (fun y => codeW y ∈ lw_tbl) 5 304 := ⟨inT9 (List.mem_of_getElem? (i := 58) rfl), inT9 (List.mem_of_getElem? (i := 54) rfl), inT9 (List.mem_of_getElem? (i := 50) rfl), inT9 (List.mem_of_getElem? (i := 62) rfl), inT4 (List.mem_of_getElem? (i := 74) rfl), trivial⟩
theorem cd_ok (y : Nat) (h : y < 309) : codeW y ∈ lw_tbl := by
  rcases Nat.lt_or_ge y 16 with q0 | q0
  · exact ALLn_at _ _ cdk0 y (by omega) (by omega)
  rcases Nat.lt_or_ge y 32 with q1 | q1
  · exact ALLn_at _ _ cdk1 y (by omega) (by omega)
  rcases Nat.lt_or_ge y 48 with q2 | q2
  · exact ALLn_at _ _ cdk2 y (by omega) (by omega)
  rcases Nat.lt_or_ge y 64 with q3 | q3
  · exact ALLn_at _ _ cdk3 y (by omega) (by omega)
  rcases Nat.lt_or_ge y 80 with q4 | q4
  · exact ALLn_at _ _ cdk4 y (by omega) (by omega)
  rcases Nat.lt_or_ge y 96 with q5 | q5
  · exact ALLn_at _ _ cdk5 y (by omega) (by omega)
  rcases Nat.lt_or_ge y 112 with q6 | q6
  · exact ALLn_at _ _ cdk6 y (by omega) (by omega)
  rcases Nat.lt_or_ge y 128 with q7 | q7
  · exact ALLn_at _ _ cdk7 y (by omega) (by omega)
  rcases Nat.lt_or_ge y 144 with q8 | q8
  · exact ALLn_at _ _ cdk8 y (by omega) (by omega)
  rcases Nat.lt_or_ge y 160 with q9 | q9
  · exact ALLn_at _ _ cdk9 y (by omega) (by omega)
  rcases Nat.lt_or_ge y 176 with q10 | q10
  · exact ALLn_at _ _ cdk10 y (by omega) (by omega)
  rcases Nat.lt_or_ge y 192 with q11 | q11
  · exact ALLn_at _ _ cdk11 y (by omega) (by omega)
  rcases Nat.lt_or_ge y 208 with q12 | q12
  · exact ALLn_at _ _ cdk12 y (by omega) (by omega)
  rcases Nat.lt_or_ge y 224 with q13 | q13
  · exact ALLn_at _ _ cdk13 y (by omega) (by omega)
  rcases Nat.lt_or_ge y 240 with q14 | q14
  · exact ALLn_at _ _ cdk14 y (by omega) (by omega)
  rcases Nat.lt_or_ge y 256 with q15 | q15
  · exact ALLn_at _ _ cdk15 y (by omega) (by omega)
  rcases Nat.lt_or_ge y 272 with q16 | q16
  · exact ALLn_at _ _ cdk16 y (by omega) (by omega)
  rcases Nat.lt_or_ge y 288 with q17 | q17
  · exact ALLn_at _ _ cdk17 y (by omega) (by omega)
  rcases Nat.lt_or_ge y 304 with q18 | q18
  · exact ALLn_at _ _ cdk18 y (by omega) (by omega)
  exact ALLn_at _ _ cdk19 y (by omega) (by omega)
def nestL : List Jvm.Cond := (List.range 16).flatMap fun own => (calL.getD own []).filterMap fun q => if q.2.2.1 = 0 then none else some (.methodLinkNest (cName own) q.1 (mName q.2.1) "PoleSets")
end
section
/-! THE ABSTRACT MACHINE: a memory of ints, longs and references at numbered cells; one function runs a method's bytes -/
abbrev Mm : Type := (Nat → Nat → Int32) × (Nat → Nat → Int64) × (Nat → Nat → Option Nat) × Nat × Nat
def up2 {α : Type} (f : Nat → Nat → α) (a k : Nat) (v : α) : Nat → Nat → α := fun a' k' => if a' = a ∧ k' = k then v else f a' k'
def zr2 {α : Type} (f : Nat → Nat → α) (a : Nat) (v : α) : Nat → Nat → α := fun a' k' => if a' = a then v else f a' k'
def setI (σ : Mm) (a k : Nat) (v : Int32) : Mm := (up2 σ.1 a k v, σ.2)
def setJ (σ : Mm) (a k : Nat) (v : Int64) : Mm := (σ.1, up2 σ.2.1 a k v, σ.2.2)
def setR (σ : Mm) (a k : Nat) (v : Option Nat) : Mm := (σ.1, σ.2.1, up2 σ.2.2.1 a k v, σ.2.2.2)
/-- the next cell is made: all its places hold nothing -/
def newC (σ : Mm) : Mm := (zr2 σ.1 (ADR σ.2.2.2.1) 0, zr2 σ.2.1 (ADR σ.2.2.2.1) 0, zr2 σ.2.2.1 (ADR σ.2.2.2.1) none, σ.2.2.2.1 + 1, σ.2.2.2.2)
def gV (σ : Mm) (a c k : Nat) : Value := if ftc c k = 0 then .int (σ.1 a k) else if ftc c k = 1 then .long (σ.2.1 a k) else if ftc c k = 3 then .int (σ.1 a k) else va_rf (σ.2.2.1 a k)
def sV (σ : Mm) (a c k : Nat) (v : Value) : Option Mm := match v with
  | .int x => if ftc c k = 0 then some (setI σ a k x) else if ftc c k = 3 ∧ (x = 0 ∨ x = 1) then some (setI σ a k x) else none
  | .long x => if ftc c k = 1 then some (setJ σ a k x) else none
  | .ref b => if ftc c k = 2 then some (setR σ a k (some b)) else none
  | _ => none
def aLn (σ : Mm) (a : Nat) : Nat := if a = 0 then σ.2.2.2.2 else (SH a).2
def alc (σ : Mm) (a : Nat) : Prop := pos a < σ.2.2.2.1
/-! locals -/
def isLg : Value → Bool
  | .long _ => true
  | .double _ => true
  | _ => false
def clr (L : List Value) (x : Nat) : List Value := if x = 0 then L else match L[x - 1]? with
  | some v => if isLg v then L.set (x - 1) (.retAddr 0) else L
  | none => L
def st1 (L : List Value) (x : Nat) (v : Value) : List Value := clr (L.set x v) x
def st2 (L : List Value) (x : Nat) (v : Value) : List Value := (clr (L.set x v) x).set (x + 1) (.retAddr 0)
def ldI (L : List Value) (x : Nat) : Option Int32 := match L[x]? with
  | some (.int v) => some v
  | _ => none
def ldJ (L : List Value) (x : Nat) : Option Int64 := match L[x]? with
  | some (.long v) => some v
  | _ => none
def ldA (L : List Value) (x : Nat) : Option Nat := match L[x]? with
  | some (.ref v) => some v
  | _ => none
abbrev Nx : Type := Nat × List Value × List Value × Mm
def sI (pc : Nat) (L st : List Value) (σ : Mm) (x : Nat) : Option Nx := match st with
  | .int v :: r => if x < L.length then some (pc, st1 L x (.int v), r, σ) else none
  | _ => none
def sJ (pc : Nat) (L st : List Value) (σ : Mm) (x : Nat) : Option Nx := match st with
  | .long v :: r => if x + 1 < L.length then some (pc, st2 L x (.long v), r, σ) else none
  | _ => none
def sA (pc : Nat) (L st : List Value) (σ : Mm) (x : Nat) : Option Nx := match st with
  | .ref v :: r => if x < L.length then some (pc, st1 L x (.ref v), r, σ) else none
  | _ => none
def pI1 (f : Int32 → Value) : List Value → Option (List Value)
  | .int x :: r => some (f x :: r)
  | _ => none
def pI2 (f : Int32 → Int32 → Value) : List Value → Option (List Value)
  | .int y :: .int x :: r => some (f x y :: r)
  | _ => none
def pJ1 (f : Int64 → Value) : List Value → Option (List Value)
  | .long x :: r => some (f x :: r)
  | _ => none
def pJ2 (f : Int64 → Int64 → Value) : List Value → Option (List Value)
  | .long y :: .long x :: r => some (f x y :: r)
  | _ => none
def pD2 (f : Int32 → Int32 → Value) : List Value → Option (List Value)
  | .int y :: .int x :: r => if y = 0 then none else some (f x y :: r)
  | _ => none
def pE2 (f : Int64 → Int64 → Value) : List Value → Option (List Value)
  | .long y :: .long x :: r => if y = 0 then none else some (f x y :: r)
  | _ => none
def pS2 (f : Int64 → Int32 → Value) : List Value → Option (List Value)
  | .int y :: .long x :: r => some (f x y :: r)
  | _ => none
def stO (pc : Nat) (L : List Value) (σ : Mm) (o : Option (List Value)) : Option Nx := o.map fun r => (pc, L, r, σ)
def cnd (c : ClassFile.Cond) (x y : Int32) : Bool := match c with
  | .eq => decide (x = y)
  | .ne => decide (¬ x = y)
  | .lt => decide (x < y)
  | .ge => decide (y ≤ x)
  | .gt => decide (y < x)
  | .le => decide (x ≤ y)
def tgt (pc : Nat) (off : Int) : Option Nat := if 0 ≤ (pc : Int) + off then some ((pc : Int) + off).toNat else none
def jmp (pc : Nat) (off : Int) (L st : List Value) (σ : Mm) : Option Nx := (tgt pc off).map fun t => (t, L, st, σ)
def arkC (k : Nat) : Nat := if k = 4 then 0 else if k = 5 then 1 else 2
def lnO : Instr → Nat → Bool
  | .bipush _, n => n == 2
  | .sipush _, n => n == 3
  | .ldc _, n => n == 2
  | .ldc_w _, n => n == 3
  | .ldc2_w _, n => n == 3
  | .iload _, n => n == 2
  | .lload _, n => n == 2
  | .aload _, n => n == 2
  | .istore _, n => n == 2
  | .lstore _, n => n == 2
  | .astore _, n => n == 2
  | .iinc _ _, n => n == 3 || n == 6
  | .goto _, n => n == 3
  | .ifCond _ _, n => n == 3
  | .if_icmp _ _, n => n == 3
  | .getfield _, n => n == 3
  | .putfield _, n => n == 3
  | .new _, n => n == 3
  | .newarray _, n => n == 2
  | .anewarray _, n => n == 3
  | .invokevirtual _, n => n == 3
  | .invokestatic _, n => n == 3
  | .invokespecial _, n => n == 3
  | .tableswitch .., _ => true
  | _, n => n == 1
def sGet (y idx pc : Nat) (L st : List Value) (σ : Mm) : Option Nx := match st with
  | .ref a :: r => (match fld (mOw y) idx with
    | some q => if SH a = (1, q.1) ∧ pos a < σ.2.2.2.1 then some (pc, L, gV σ a q.1 q.2 :: r, σ) else none
    | none => none)
  | _ => none
def sPut (y idx pc : Nat) (L st : List Value) (σ : Mm) : Option Nx := match st with
  | v :: .ref a :: r => (match fld (mOw y) idx with
    | some q => if SH a = (1, q.1) ∧ pos a < σ.2.2.2.1 ∧ ((fQ q.1 q.2).2.2 = false ∨ (mKd y = 2 ∧ mOw y = q.1)) then (sV σ a q.1 q.2 v).map (fun s => (pc, L, r, s)) else none
    | none => none)
  | _ => none
def sIld (pc : Nat) (L st : List Value) (σ : Mm) : Option Nx := match st with
  | .int j :: .ref a :: r => if (SH a).1 = 2 ∧ (a = 0 ∨ pos a < σ.2.2.2.1) ∧ ¬ (j < 0 ∨ aLn σ a ≤ j.toNatClampNeg) then some (pc, L, .int (σ.1 a j.toNatClampNeg) :: r, σ) else none
  | _ => none
def sIst (pc : Nat) (L st : List Value) (σ : Mm) : Option Nx := match st with
  | .int v :: .int j :: .ref a :: r => if (SH a).1 = 2 ∧ a ≠ 0 ∧ pos a < σ.2.2.2.1 ∧ ¬ (j < 0 ∨ (SH a).2 ≤ j.toNatClampNeg) then some (pc, L, r, setI σ a j.toNatClampNeg v) else none
  | _ => none
def sJld (pc : Nat) (L st : List Value) (σ : Mm) : Option Nx := match st with
  | .int j :: .ref a :: r => if (SH a).1 = 3 ∧ pos a < σ.2.2.2.1 ∧ ¬ (j < 0 ∨ (SH a).2 ≤ j.toNatClampNeg) then some (pc, L, .long (σ.2.1 a j.toNatClampNeg) :: r, σ) else none
  | _ => none
def sJst (pc : Nat) (L st : List Value) (σ : Mm) : Option Nx := match st with
  | .long v :: .int j :: .ref a :: r => if (SH a).1 = 3 ∧ pos a < σ.2.2.2.1 ∧ ¬ (j < 0 ∨ (SH a).2 ≤ j.toNatClampNeg) then some (pc, L, r, setJ σ a j.toNatClampNeg v) else none
  | _ => none
def sAld (pc : Nat) (L st : List Value) (σ : Mm) : Option Nx := match st with
  | .int j :: .ref a :: r => if (4 ≤ (SH a).1 ∧ (SH a).1 ≤ 6) ∧ pos a < σ.2.2.2.1 ∧ ¬ (j < 0 ∨ (SH a).2 ≤ j.toNatClampNeg) then some (pc, L, va_rf (σ.2.2.1 a j.toNatClampNeg) :: r, σ) else none
  | _ => none
def sAst (pc : Nat) (L st : List Value) (σ : Mm) : Option Nx := match st with
  | .ref v :: .int j :: .ref a :: r => if (4 ≤ (SH a).1 ∧ (SH a).1 ≤ 6) ∧ pos a < σ.2.2.2.1 ∧ ¬ (j < 0 ∨ (SH a).2 ≤ j.toNatClampNeg) ∧ SH v = (1, arkC (SH a).1) ∧ pos v < σ.2.2.2.1 then some (pc, L, r, setR σ a j.toNatClampNeg (some v)) else none
  | _ => none
def sLen (pc : Nat) (L st : List Value) (σ : Mm) : Option Nx := match st with
  | .ref a :: r => if 2 ≤ (SH a).1 ∧ (SH a).1 ≤ 6 ∧ (a = 0 ∨ pos a < σ.2.2.2.1) then some (pc, L, .int (nI (aLn σ a)) :: r, σ) else none
  | _ => none
/-- a row of numbers is made -/
def sNra (k pc : Nat) (L st : List Value) (σ : Mm) : Option Nx := match st with
  | .int n :: r => if ¬ n < 0 ∧ σ.2.2.2.1 < NT ∧ SH (ADR σ.2.2.2.1) = (k, n.toNatClampNeg) ∧ n.toNatClampNeg ≤ 10000 then some (pc, L, .ref (ADR σ.2.2.2.1) :: r, newC σ) else none
  | _ => none
def sAna (y idx pc : Nat) (L st : List Value) (σ : Mm) : Option Nx := match clk (mOw y) idx with
  | some c => if c < 3 then sNra (4 + c) pc L st σ else none
  | none => none
def sNew (y idx pc : Nat) (L st : List Value) (σ : Mm) : Option Nx := match clk (mOw y) idx with
  | some c => if σ.2.2.2.1 < NT ∧ SH (ADR σ.2.2.2.1) = (1, c) then some (pc, L, .ref (ADR σ.2.2.2.1) :: st, newC σ) else none
  | none => none
def sIf (c : ClassFile.Cond) (off : Int) (pc : Nat) (L st : List Value) (σ : Mm) : Option Nx := match st with
  | .int x :: r => (tgt pc off).map fun t => (if cnd c x 0 then t else pc + 3, L, r, σ)
  | _ => none
def sIc (c : ClassFile.Cond) (off : Int) (pc : Nat) (L st : List Value) (σ : Mm) : Option Nx := match st with
  | .int y :: .int x :: r => (tgt pc off).map fun t => (if cnd c x y then t else pc + 3, L, r, σ)
  | _ => none
def sSw (d lo hi : Int) (offs : Array Int) (pc : Nat) (L st : List Value) (σ : Mm) : Option Nx := match st with
  | .int x :: r => if x.toInt < lo ∨ hi < x.toInt then jmp pc d L r σ else (match offs[(x.toInt - lo).toNat]? with
    | some off => jmp pc off L r σ
    | none => none)
  | _ => none
def sInc (x : Nat) (k : Int) (pc : Nat) (L st : List Value) (σ : Mm) : Option Nx := match ldI L x with
  | some v => if x < L.length then some (pc, st1 L x (.int (v + Int32.ofInt k)), st, σ) else none
  | none => none
def sDup (pc : Nat) (L st : List Value) (σ : Mm) : Option Nx := match st with
  | v :: r => if v.category = 1 then some (pc, L, v :: v :: r, σ) else none
  | _ => none
def sDup2 (pc : Nat) (L st : List Value) (σ : Mm) : Option Nx := match st with
  | v :: w :: r => if v.category = 1 ∧ w.category = 1 then some (pc, L, v :: w :: v :: w :: r, σ) else none
  | _ => none
def sPop (pc : Nat) (L st : List Value) (σ : Mm) : Option Nx := match st with
  | v :: r => if v.category = 1 then some (pc, L, r, σ) else none
  | _ => none
def stp (y : Nat) (i : Instr) (pc len : Nat) (L st : List Value) (σ : Mm) : Option Nx :=
  if lnO i len then match i with
  | .iconst n => some (pc + len, L, .int (Int32.ofInt n) :: st, σ)
  | .bipush n => some (pc + len, L, .int (Int8.ofInt n).toInt32 :: st, σ)
  | .sipush n => some (pc + len, L, .int (Int16.ofInt n).toInt32 :: st, σ)
  | .lconst n => some (pc + len, L, .long (Int64.ofNat n) :: st, σ)
  | .ldc x => (kI (mOw y) x).map fun v => (pc + len, L, .int v :: st, σ)
  | .ldc_w x => (kI (mOw y) x).map fun v => (pc + len, L, .int v :: st, σ)
  | .ldc2_w x => (kL (mOw y) x).map fun v => (pc + len, L, .long v :: st, σ)
  | .iload x => (ldI L x).map fun v => (pc + len, L, .int v :: st, σ)
  | .iload_n x => (ldI L x).map fun v => (pc + len, L, .int v :: st, σ)
  | .lload x => (ldJ L x).map fun v => (pc + len, L, .long v :: st, σ)
  | .lload_n x => (ldJ L x).map fun v => (pc + len, L, .long v :: st, σ)
  | .aload x => (ldA L x).map fun v => (pc + len, L, .ref v :: st, σ)
  | .aload_n x => (ldA L x).map fun v => (pc + len, L, .ref v :: st, σ)
  | .istore x => sI (pc + len) L st σ x
  | .istore_n x => sI (pc + len) L st σ x
  | .lstore x => sJ (pc + len) L st σ x
  | .lstore_n x => sJ (pc + len) L st σ x
  | .astore x => sA (pc + len) L st σ x
  | .astore_n x => sA (pc + len) L st σ x
  | .iinc x k => sInc x k (pc + len) L st σ
  | .iadd => stO (pc + len) L σ (pI2 (fun x y => .int (x + y)) st)
  | .isub => stO (pc + len) L σ (pI2 (fun x y => .int (x - y)) st)
  | .imul => stO (pc + len) L σ (pI2 (fun x y => .int (x * y)) st)
  | .iand => stO (pc + len) L σ (pI2 (fun x y => .int (x &&& y)) st)
  | .ior => stO (pc + len) L σ (pI2 (fun x y => .int (x ||| y)) st)
  | .ixor => stO (pc + len) L σ (pI2 (fun x y => .int (x ^^^ y)) st)
  | .ishl => stO (pc + len) L σ (pI2 (fun x y => .int (x <<< (y &&& 31))) st)
  | .ishr => stO (pc + len) L σ (pI2 (fun x y => .int (x >>> (y &&& 31))) st)
  | .iushr => stO (pc + len) L σ (pI2 (fun x y => .int (x.toUInt32 >>> (y.toUInt32 &&& Int32.toUInt32 31)).toInt32) st)
  | .idiv => stO (pc + len) L σ (pD2 (fun x y => .int (x / y)) st)
  | .irem => stO (pc + len) L σ (pD2 (fun x y => .int (x - x / y * y)) st)
  | .ineg => stO (pc + len) L σ (pI1 (fun x => .int (-x)) st)
  | .i2l => stO (pc + len) L σ (pI1 (fun x => .long x.toInt64) st)
  | .l2i => stO (pc + len) L σ (pJ1 (fun x => .int x.toInt32) st)
  | .ladd => stO (pc + len) L σ (pJ2 (fun x y => .long (x + y)) st)
  | .lsub => stO (pc + len) L σ (pJ2 (fun x y => .long (x - y)) st)
  | .lmul => stO (pc + len) L σ (pJ2 (fun x y => .long (x * y)) st)
  | .ldiv => stO (pc + len) L σ (pE2 (fun x y => .long (x / y)) st)
  | .lneg => stO (pc + len) L σ (pJ1 (fun x => .long (-x)) st)
  | .lshr => stO (pc + len) L σ (pS2 (fun x y => .long (x >>> (y.toInt64 &&& 63))) st)
  | .lcmp => stO (pc + len) L σ (pJ2 (fun x y => .int (lg_cmp x y)) st)
  | .dup => sDup (pc + len) L st σ
  | .dup2 => sDup2 (pc + len) L st σ
  | .pop => sPop (pc + len) L st σ
  | .getfield x => sGet y x (pc + len) L st σ
  | .putfield x => sPut y x (pc + len) L st σ
  | .iaload => sIld (pc + len) L st σ
  | .iastore => sIst (pc + len) L st σ
  | .laload => sJld (pc + len) L st σ
  | .lastore => sJst (pc + len) L st σ
  | .aaload => sAld (pc + len) L st σ
  | .aastore => sAst (pc + len) L st σ
  | .arraylength => sLen (pc + len) L st σ
  | .newarray .int => sNra 2 (pc + len) L st σ
  | .newarray .long => sNra 3 (pc + len) L st σ
  | .anewarray x => sAna y x (pc + len) L st σ
  | .new x => sNew y x (pc + len) L st σ
  | .goto off => jmp pc off L st σ
  | .ifCond c off => sIf c off pc L st σ
  | .if_icmp c off => sIc c off pc L st σ
  | .tableswitch d lo hi offs => sSw d lo hi offs pc L st σ
  | _ => none
  else none
def ctl : Instr → Nat
  | .ireturn => 1
  | .lreturn => 1
  | .areturn => 1
  | .return_ => 1
  | .invokevirtual _ => 2
  | .invokestatic _ => 2
  | .invokespecial _ => 2
  | _ => 0
def isOb : Option FieldType → Bool
  | some (.object _) => true
  | _ => false
def rtV (y : Nat) (i : Instr) (len : Nat) (st : List Value) : Option (Option Value) := if len = 1 then match i, st with
  | .ireturn, [.int v] => if mRt y = some .int ∨ (mRt y = some .boolean ∧ (v = 0 ∨ v = 1)) then some (some (.int v)) else none
  | .lreturn, [.long v] => if mRt y = some .long then some (some (.long v)) else none
  | .areturn, [.ref a] => if isOb (mRt y) then some (some (.ref a)) else none
  | .return_, [] => if mRt y = none then some none else none
  | _, _ => none
  else none
def ctS (l : List Value) : Nat := (l.map fun v => v.category).sum
def fmod (x : Int32) : Int32 := if x - x / 360 * 360 < 0 then x - x / 360 * 360 + 360 else x - x / 360 * 360
def prV (p : Nat) (st : List Value) : Option (List Value) := match p with
  | 0 => pI2 (fun x y => .int (if x < y then y else x)) st
  | 1 => pI2 (fun x y => .int (if y < x then y else x)) st
  | 2 => pI1 (fun x => .int (if 0 ≤ x then x else 0 - x)) st
  | 3 => pJ2 (fun x y => .long (if y < x then y else x)) st
  | 4 => pJ1 (fun x => .long (if 0 < x then x else -x)) st
  | 5 => (match st with
    | .int y :: .int x :: r => if y = 360 then some (.int (fmod x) :: r) else none
    | _ => none)
  | _ => none
/-- Object's own making, and Math's functions -/
def spc (y : Nat) (i : Instr) (st : List Value) : Option (List Value) := if ctS st ≤ 12 then match i with
  | .invokespecial x => (match objE (mOw y) x with
    | some _ => (match st with
      | .ref _ :: r => some r
      | _ => none)
    | none => none)
  | .invokestatic x => (match prm (mOw y) x with
    | some p => prV p st
    | none => none)
  | _ => none
  else none
def flt (as : List Value) : List Value := as.flatMap fun v => if v.category = 2 then [v, .retAddr 0] else [v]
def enL (z : Nat) (as : List Value) : List Value := flt as ++ List.replicate (mMx z - (flt as).length) (.retAddr 0)
/-- which method is called, with what, what stays below -/
def cinv (y : Nat) (i : Instr) (st : List Value) (σ : Mm) : Option (Nat × List Value × List Value) := match i with
  | .invokestatic x => (match cal (mOw y) x with
    | some z => if mKd z = 1 ∧ mNp z ≤ st.length ∧ ctS (st.drop (mNp z)) ≤ 8 then some (z, (st.take (mNp z)).reverse, st.drop (mNp z)) else none
    | none => none)
  | .invokevirtual x => (match cal (mOw y) x with
    | some z => (match st.drop (mNp z) with
      | .ref b :: r => if mKd z = 0 ∧ mNp z ≤ st.length ∧ ctS r ≤ 8 ∧ SH b = (1, mOw z) ∧ pos b < σ.2.2.2.1 then some (z, .ref b :: (st.take (mNp z)).reverse, r) else none
      | _ => none)
    | none => none)
  | .invokespecial x => (match cal (mOw y) x with
    | some z => (match st.drop (mNp z) with
      | .ref b :: r => if mKd z = 2 ∧ mNp z ≤ st.length ∧ ctS r ≤ 8 then some (z, .ref b :: (st.take (mNp z)).reverse, r) else none
      | _ => none)
    | none => none)
  | _ => none
def irun : Nat → Nat → Nat → Nat → List Value → List Value → Mm → Option (Option Value × Mm)
  | 0, _, _, _, _, _, _ => none
  | n + 1, d, y, pc, L, st, σ => match decode (mCode y) pc with
    | .error _ => none
    | .ok (i, len) => if ctl i = 0 then (match stp y i pc len L st σ with
        | none => none
        | some q => irun n d y q.1 q.2.1 q.2.2.1 q.2.2.2)
      else if ctl i = 1 then (rtV y i len st).map (fun r => (r, σ))
      else if len = 3 then match d with
        | 0 => none
        | d' + 1 => match spc y i st with
          | some st' => irun n (d' + 1) y (pc + 3) L st' σ
          | none => match cinv y i st σ with
            | none => none
            | some q => if (flt q.2.1).length ≤ mMx q.1 then (match irun n d' q.1 0 (enL q.1 q.2.1) [] σ with
                | none => none
                | some u => irun n (d' + 1) y (pc + 3) L (u.1.toList ++ q.2.2) u.2) else none
      else none
theorem irun_mono : ∀ (n d y pc : Nat) (L st : List Value) (σ : Mm) (x : Option Value × Mm), irun n d y pc L st σ = some x → irun (n + 1) d y pc L st σ = some x := by
  intro n
  induction n with
  | zero => intro d y pc L st σ x h; simp [irun] at h
  | succ n ih =>
    intro d y pc L st σ x h
    unfold irun at h ⊢
    split at h
    · cases h
    · rename_i i len hd
      try simp only [hd]
      split at h
      · rename_i hc
        rw [if_pos hc]
        split at h
        · cases h
        · rename_i q hq
          exact ih _ _ _ _ _ _ _ h
      · rename_i hc
        rw [if_neg hc]
        split at h
        · rename_i hc2
          rw [if_pos hc2]
          exact h
        · rename_i hc2
          rw [if_neg hc2]
          split at h
          · rename_i hl
            rw [if_pos hl]
            split at h
            · cases h
            · split at h
              · rename_i hs
                try simp only [hs]
                exact ih _ _ _ _ _ _ _ h
              · rename_i hs
                try simp only [hs]
                split at h
                · cases h
                · rename_i q hq
                  try simp only [hq]
                  split at h
                  · rename_i hf
                    rw [if_pos hf]
                    split at h
                    · cases h
                    · rename_i u hu
                      rw [ih _ _ _ _ _ _ _ hu]
                      exact ih _ _ _ _ _ _ _ h
                  · cases h
          · cases h
theorem irun_le {n k d y pc : Nat} {L st : List Value} {σ : Mm} {x : Option Value × Mm} (hk : n ≤ k) (h : irun n d y pc L st σ = some x) : irun k d y pc L st σ = some x := by
  induction hk with
  | refl => exact h
  | step _ ih => exact irun_mono _ _ _ _ _ _ _ _ ih
def Ev (d y pc : Nat) (L st : List Value) (σ : Mm) (x : Option Value × Mm) : Prop := ∃ n, irun n d y pc L st σ = some x
theorem Ev_one {d y pc : Nat} {L st : List Value} {σ : Mm} {x x' : Option Value × Mm} (h : Ev d y pc L st σ x) (h' : Ev d y pc L st σ x') : x = x' := by
  obtain ⟨n, h⟩ := h
  obtain ⟨k, h'⟩ := h'
  have h1 := irun_le (Nat.le_max_left n k) h
  have h2 := irun_le (Nat.le_max_right n k) h'
  exact Option.some.inj (h1.symm.trans h2)
/-- what a run comes to: nothing, or an answer and the memory -/
noncomputable def ev (d y pc : Nat) (L st : List Value) (σ : Mm) : Option (Option Value × Mm) := @dite _ (∃ x, Ev d y pc L st σ x) (Classical.propDecidable _) (fun h => some h.choose) (fun _ => none)
theorem ev_iff {d y pc : Nat} {L st : List Value} {σ : Mm} {x : Option Value × Mm} : ev d y pc L st σ = some x ↔ Ev d y pc L st σ x := by
  unfold ev
  split
  · rename_i h
    constructor
    · intro e
      cases e
      exact h.choose_spec
    · intro e
      rw [Ev_one h.choose_spec e]
  · rename_i h
    constructor
    · intro e
      cases e
    · intro e
      exact absurd ⟨x, e⟩ h
theorem ev_ext {o : Option (Option Value × Mm)} {d y pc : Nat} {L st : List Value} {σ : Mm} (h : ∀ x, Ev d y pc L st σ x ↔ o = some x) : ev d y pc L st σ = o := by
  cases e : ev d y pc L st σ with
  | some x => exact ((h x).mp (ev_iff.mp e)).symm
  | none =>
    cases o with
    | none => rfl
    | some x => rw [ev_iff.mpr ((h x).mpr rfl)] at e; exact e.symm ▸ rfl
theorem ev_step {d y pc len : Nat} {i : Instr} {L st : List Value} {σ : Mm} (hd : decode (mCode y) pc = .ok (i, len)) (hc : ctl i = 0) {q : Nx} (hs : stp y i pc len L st σ = some q) : ev d y pc L st σ = ev d y q.1 q.2.1 q.2.2.1 q.2.2.2 := by
  refine ev_ext fun x => ?_
  rw [ev_iff]
  constructor
  · rintro ⟨n, h⟩
    cases n with
    | zero => simp [irun] at h
    | succ n =>
      refine ⟨n, ?_⟩
      simpa [irun, hd, hc, hs] using h
  · rintro ⟨n, h⟩
    exact ⟨n + 1, by simpa [irun, hd, hc, hs] using h⟩
theorem ev_ret {d y pc len : Nat} {i : Instr} {L st : List Value} {σ : Mm} {r : Option Value} (hd : decode (mCode y) pc = .ok (i, len)) (hc : ctl i = 1) (hs : rtV y i len st = some r) : ev d y pc L st σ = some (r, σ) :=
  ev_iff.mpr ⟨1, by simp [irun, hd, hc, hs]⟩
theorem ev_spc {d y pc : Nat} {i : Instr} {L st st' : List Value} {σ : Mm} (hd : decode (mCode y) pc = .ok (i, 3)) (hc : ctl i = 2) (hs : spc y i st = some st') : ev (d + 1) y pc L st σ = ev (d + 1) y (pc + 3) L st' σ := by
  refine ev_ext fun x => ?_
  rw [ev_iff]
  constructor
  · rintro ⟨n, h⟩
    cases n with
    | zero => simp [irun] at h
    | succ n =>
      refine ⟨n, ?_⟩
      simpa [irun, hd, hc, hs] using h
  · rintro ⟨n, h⟩
    exact ⟨n + 1, by simpa [irun, hd, hc, hs] using h⟩
noncomputable def den (d z : Nat) (as : List Value) (σ : Mm) : Option (Option Value × Mm) := ev d z 0 (enL z as) [] σ
def bnd (o : Option (Option Value × Mm)) (k : Option Value → Mm → Option (Option Value × Mm)) : Option (Option Value × Mm) := match o with
  | none => none
  | some u => k u.1 u.2
theorem ev_call {d y pc : Nat} {i : Instr} {L st : List Value} {σ : Mm} {q : Nat × List Value × List Value} (hd : decode (mCode y) pc = .ok (i, 3)) (hc : ctl i = 2) (hs : spc y i st = none) (hq : cinv y i st σ = some q) (hf : (flt q.2.1).length ≤ mMx q.1) :
    ev (d + 1) y pc L st σ = bnd (den d q.1 q.2.1 σ) (fun r σ' => ev (d + 1) y (pc + 3) L (r.toList ++ q.2.2) σ') := by
  refine ev_ext fun x => ?_
  constructor
  · rintro ⟨n, h⟩
    cases n with
    | zero => simp [irun] at h
    | succ n =>
      cases hu : irun n d q.1 0 (enL q.1 q.2.1) [] σ with
      | none => simp [irun, hd, hc, hs, hq, hf, hu] at h
      | some u =>
        have hu' : den d q.1 q.2.1 σ = some u := ev_iff.mpr ⟨n, hu⟩
        rw [hu']
        exact ev_iff.mpr ⟨n, by simpa [irun, hd, hc, hs, hq, hf, hu] using h⟩
  · intro h
    cases hu : den d q.1 q.2.1 σ with
    | none => rw [hu] at h; cases h
    | some u =>
      rw [hu] at h
      obtain ⟨n, h1⟩ := ev_iff.mp hu
      obtain ⟨k, h2⟩ := ev_iff.mp h
      refine ⟨max n k + 1, ?_⟩
      have h1 := irun_le (Nat.le_max_left n k) h1
      have h2 := irun_le (Nat.le_max_right n k) h2
      simpa [irun, hd, hc, hs, hq, hf, h1] using h2
end
section
/-! HOW THE ABSTRACT MEMORY LIES IN THE HEAP: cell i of those that were made stands at B + i; the script at b -/
def ra (B b a : Nat) : Nat := if a = 0 then b else B + pos a
def rl (B b : Nat) : Value → Value
  | .ref a => .ref (ra B b a)
  | v => v
theorem rl_cat (B b : Nat) (v : Value) : (rl B b v).category = v.category := by cases v <;> rfl
theorem rl_rf (B b : Nat) (r : Option Nat) : rl B b (va_rf r) = va_rf (r.map (ra B b)) := by cases r <;> rfl
def ent (B b : Nat) (cA : Nat → ClassId) (σ : Mm) (a : Nat) : va_E :=
  if (SH a).1 = 1 then .inr ((SH a).2, (List.range (nf (SH a).2)).map fun k => rl B b (gV σ a (SH a).2 k))
  else if (SH a).1 = 2 then .inl (cA 2, (SH a).2, .inl (σ.1 a))
  else if (SH a).1 = 3 then .inl (cA 3, (SH a).2, .inr (.inl (σ.2.1 a)))
  else .inl (cA (SH a).1, (SH a).2, .inr (.inr (.inr (.inr fun j => (σ.2.2.1 a j).map (ra B b)))))
def wld (B b : Nat) (cA : Nat → ClassId) (σ : Mm) : va_W := (List.range σ.2.2.2.1).map fun i => (B + i, ent B b cA σ (ADR i))
def tyA (cA : Nat → ClassId) : List (ClassId × FieldType) := [(cA 2, .int), (cA 3, .long), (cA 4, .object (cName 0)), (cA 5, .object (cName 1)), (cA 6, .object (cName 2))]
def AA (B : Nat) : Nat → Prop := fun q => B ≤ q
def KX (dC : Nat → ClassId) (dI : Nat → Nat → Nat) (cA : Nat → ClassId) (U : State) : Prop := va_K (dC, dI) clsV (tyA cA) U ∧ (∀ w ∈ nestL, va_Nw w U) ∧ ∀ c, c < 3 → va_AO (cName c) U
theorem nest_form {w : Jvm.Cond} (h : w ∈ nestL) : ∃ a i x, w = .methodLinkNest a i x "PoleSets" := by
  unfold nestL at h
  obtain ⟨own, -, h⟩ := List.mem_flatMap.mp h
  obtain ⟨q, -, h⟩ := List.mem_filterMap.mp h
  split at h
  · cases h
  · cases h
    exact ⟨_, _, _, rfl⟩
theorem KX.warm {dC : Nat → ClassId} {dI : Nat → Nat → Nat} {cA : Nat → ClassId} {s U : State} (hW : s.WarmedH U.vm) (h : KX dC dI cA s) : KX dC dI cA U := by
  refine ⟨va_K.moved hW.alike h.1, fun w hw => ?_, fun c hc => va_AO.moved hW.alike (h.2.2 c hc)⟩
  obtain ⟨a, i, x, rfl⟩ := nest_form hw
  exact va_Nw.warmM hW (h.2.1 _ hw)
theorem lay1 {i : Nat} (h : i < NT) : pos (ADR i) = i ∧ ADR i ≠ 0 ∧ (SH (ADR i)).1 ≠ 0 ∧ ADR i < 1000 := of_decide_eq_true (List.all_eq_true.mp lay1_ok i (List.mem_range.mpr h))
theorem SH_big {a : Nat} (h : 1000 ≤ a) : (SH a).1 = 0 := by
  unfold SH
  rw [if_neg (by omega), if_neg (by omega), if_neg (by omega), if_neg (by omega), if_neg (by omega), if_neg (by omega), if_neg (by omega), if_neg (by omega), if_neg (by omega), if_neg (by omega)]
theorem lay2 {a : Nat} (h0 : a ≠ 0) (h : (SH a).1 ≠ 0) : pos a < NT ∧ ADR (pos a) = a := by
  have h1 : a < 1000 := by
    rcases Nat.lt_or_ge a 1000 with q | q
    · exact q
    · exact absurd (SH_big q) h
  have := of_decide_eq_true (List.all_eq_true.mp lay2_ok a (List.mem_range.mpr h1))
  rcases this with q | q | q
  · exact absurd q h0
  · exact absurd q h
  · exact q
theorem SH0 : SH 0 = (2, 0) := by decide +kernel
theorem obj0 {a c : Nat} (h : SH a = (1, c)) : a ≠ 0 := by
  intro e
  rw [e, SH0] at h
  cases h
theorem wld_at {B b : Nat} {cA : Nat → ClassId} {σ : Mm} {a : Nat} (h0 : a ≠ 0) (hs : (SH a).1 ≠ 0) (hp : pos a < σ.2.2.2.1) : (wld B b cA σ)[pos a]? = some (B + pos a, ent B b cA σ a) := by
  unfold wld
  rw [List.getElem?_map, List.getElem?_range hp]
  simp only [Option.map_some, (lay2 h0 hs).2]
theorem wld_D (B b : Nat) (cA : Nat → ClassId) (σ : Mm) : va_D (AA B) (wld B b cA σ) := by
  have key : ∀ (i : Nat) (q : Nat × va_E), (wld B b cA σ)[i]? = some q → q.1 = B + i := by
    intro i q h
    unfold wld at h
    rw [List.getElem?_map] at h
    cases hr : (List.range σ.2.2.2.1)[i]? with
    | none => rw [hr] at h; cases h
    | some j =>
      rw [hr] at h
      have : j = i := by
        have := List.getElem?_eq_some_iff.mp hr
        obtain ⟨h1, h2⟩ := this
        simpa using h2.symm
      subst this
      cases h
      rfl
  refine ⟨fun i j p q hi hj e => ?_, fun k q hk => ?_⟩
  · have h1 := key i p hi
    have h2 := key j q hj
    omega
  · have h1 := key k q hk
    show B ≤ q.1
    omega
/-- one cell's entry is set, the others' stay -/
theorem wld_set {B b : Nat} {cA : Nat → ClassId} {σ σ' : Mm} {a : Nat} (hn : σ'.2.2.2.1 = σ.2.2.2.1) (hN : σ.2.2.2.1 ≤ NT) (h0 : a ≠ 0) (hs : (SH a).1 ≠ 0) (hp : pos a < σ.2.2.2.1) (hoff : ∀ a', a' ≠ a → ent B b cA σ' a' = ent B b cA σ a') :
    (wld B b cA σ).set (pos a) (B + pos a, ent B b cA σ' a) = wld B b cA σ' := by
  apply List.ext_getElem?
  intro i
  rw [List.getElem?_set]
  unfold wld
  rw [List.getElem?_map, List.getElem?_map, hn]
  by_cases hi : i < σ.2.2.2.1
  · rw [List.getElem?_range hi]
    simp only [Option.map_some, List.length_map, List.length_range]
    split
    · rename_i e
      subst e
      rw [(lay2 h0 hs).2]
    · rename_i e
      rw [hoff]
      intro e2
      apply e
      rw [← e2]
      exact (lay1 (Nat.lt_of_lt_of_le hi hN)).1
  · have h1 : (List.range σ.2.2.2.1)[i]? = none := by simp; omega
    rw [h1]
    simp only [Option.map_none, List.length_map, List.length_range]
    split
    · rename_i e
      subst e
      exact absurd hp hi
    · rfl
theorem gV_I {σ : Mm} {a k : Nat} {v : Int32} {a' c k' : Nat} : gV (setI σ a k v) a' c k' = if a' = a ∧ k' = k ∧ (ftc c k' = 0 ∨ ftc c k' = 3) then .int v else gV σ a' c k' := by
  unfold gV setI up2
  by_cases h : a' = a ∧ k' = k
  · obtain ⟨rfl, rfl⟩ := h
    by_cases h0 : ftc c k' = 0
    · simp [h0]
    · by_cases h3 : ftc c k' = 3
      · simp [h3]
      · simp [h0, h3]
  · have h' : ¬ (a' = a ∧ k' = k ∧ (ftc c k' = 0 ∨ ftc c k' = 3)) := fun q => h ⟨q.1, q.2.1⟩
    rw [if_neg h']
    simp [h]
theorem gV_J {σ : Mm} {a k : Nat} {v : Int64} {a' c k' : Nat} : gV (setJ σ a k v) a' c k' = if a' = a ∧ k' = k ∧ ftc c k' = 1 then .long v else gV σ a' c k' := by
  unfold gV setJ up2
  by_cases h : a' = a ∧ k' = k
  · obtain ⟨rfl, rfl⟩ := h
    by_cases h0 : ftc c k' = 1
    · simp [h0]
    · simp [h0]
  · have h' : ¬ (a' = a ∧ k' = k ∧ ftc c k' = 1) := fun q => h ⟨q.1, q.2.1⟩
    rw [if_neg h']
    simp [h]
theorem gV_R {σ : Mm} {a k : Nat} {v : Option Nat} {a' c k' : Nat} : gV (setR σ a k v) a' c k' = if a' = a ∧ k' = k ∧ ¬ ftc c k' = 0 ∧ ¬ ftc c k' = 1 ∧ ¬ ftc c k' = 3 then va_rf v else gV σ a' c k' := by
  unfold gV setR up2
  by_cases h : a' = a ∧ k' = k
  · obtain ⟨rfl, rfl⟩ := h
    by_cases h0 : ftc c k' = 0
    · simp [h0]
    · by_cases h1 : ftc c k' = 1
      · simp [h1]
      · by_cases h3 : ftc c k' = 3
        · simp [h3]
        · simp [h0, h1, h3]
  · have h' : ¬ (a' = a ∧ k' = k ∧ ¬ ftc c k' = 0 ∧ ¬ ftc c k' = 1 ∧ ¬ ftc c k' = 3) := fun q => h ⟨q.1, q.2.1⟩
    rw [if_neg h']
    simp [h]
theorem up2_ne {α : Type} {f : Nat → Nat → α} {a k a' : Nat} {v : α} (h : a' ≠ a) : up2 f a k v a' = f a' := by
  funext k'
  unfold up2
  rw [if_neg (fun q => h q.1)]
theorem ent_I_off {B b : Nat} {cA : Nat → ClassId} {σ : Mm} {a k : Nat} {v : Int32} (a' : Nat) (h : a' ≠ a) : ent B b cA (setI σ a k v) a' = ent B b cA σ a' := by
  unfold ent
  simp only [gV_I, h, false_and, if_false]
  rw [show (setI σ a k v).1 a' = σ.1 a' from up2_ne h]
  rfl
theorem ent_J_off {B b : Nat} {cA : Nat → ClassId} {σ : Mm} {a k : Nat} {v : Int64} (a' : Nat) (h : a' ≠ a) : ent B b cA (setJ σ a k v) a' = ent B b cA σ a' := by
  unfold ent
  simp only [gV_J, h, false_and, if_false]
  rw [show (setJ σ a k v).2.1 a' = σ.2.1 a' from up2_ne h]
  rfl
theorem ent_R_off {B b : Nat} {cA : Nat → ClassId} {σ : Mm} {a k : Nat} {v : Option Nat} (a' : Nat) (h : a' ≠ a) : ent B b cA (setR σ a k v) a' = ent B b cA σ a' := by
  unfold ent
  simp only [gV_R, h, false_and, if_false]
  rw [show (setR σ a k v).2.2.1 a' = σ.2.2.1 a' from up2_ne h]
  rfl
/-! words -/
theorem gdL {w : Jvm.Cond} (h : w ∈ lw_tbl) (g : goodWord w = true) : w ∈ lw_gd := gd_mem h g
theorem in_fields {c : Nat} (hc : c < 13) : ∀ w ∈ u_ws (cName c) (fT c) (nf c), w ∈ lw_gd := by
  intro w hw
  obtain ⟨k, hk, rfl⟩ := List.mem_map.mp hw
  have h1 := List.all_eq_true.mp (List.all_eq_true.mp chkY_ok c (List.mem_range.mpr hc)) k hk
  simp only [Bool.and_eq_true] at h1
  refine gdL (atW_mem h1.1.1) ?_
  unfold u_lay
  split <;> rfl
theorem ty_fields {c : Nat} (hc : c < 13) : ∀ k, k < nf c → parseFieldDescriptor (fT c k).2.2.1 = some (fTy c k) := by
  intro k hk
  have h1 := List.all_eq_true.mp (List.all_eq_true.mp chkY_ok c (List.mem_range.mpr hc)) k (List.mem_range.mpr hk)
  simp only [Bool.and_eq_true, decide_eq_true_eq] at h1
  exact h1.1.2
theorem tc_fields {c : Nat} (hc : c < 13) {k : Nat} (hk : k < nf c) : ftc c k = (match fTy c k with | .int => 0 | .long => 1 | .boolean => 3 | .object _ => 2 | .array _ => 2 | _ => 9) := by
  have h1 := List.all_eq_true.mp (List.all_eq_true.mp chkY_ok c (List.mem_range.mpr hc)) k (List.mem_range.mpr hk)
  simp only [Bool.and_eq_true, decide_eq_true_eq] at h1
  exact h1.2
theorem nm_fields {c : Nat} (hc : c < 13) : ∀ a, a < nf c → ∀ b, b < nf c → a ≠ b → (fT c a).2.1 ≠ (fT c b).2.1 := by
  intro a ha b hb hne
  have h1 := of_decide_eq_true (List.all_eq_true.mp (List.all_eq_true.mp (List.all_eq_true.mp chkN_ok c (List.mem_range.mpr hc)) a (List.mem_range.mpr ha)) b (List.mem_range.mpr hb))
  rcases h1 with h | h
  · exact absurd h hne
  · exact h
theorem clsV_at {c : Nat} (hc : c < 13) : clsV[c]? = some (cName c, fT c, nf c) := by
  unfold clsV
  rw [List.getElem?_map, List.getElem?_range hc]
  rfl
theorem own_lt {α : Type} {L : List (List α)} {own : Nat} {x : α} (hL : L.length = 16) (h : x ∈ L.getD own []) : own < 16 := by
  rcases Nat.lt_or_ge own 16 with q | q
  · exact q
  · rw [List.getD_eq_getElem?_getD, List.getElem?_eq_none (by omega)] at h
    cases h
theorem fld_ok {own idx c k : Nat} (h : fld own idx = some (c, k)) : c < 13 ∧ k < nf c ∧ Jvm.Cond.fieldLink (cName own) idx (cName c) (fQ c k).1 (fQ c k).2.1 ∈ lw_gd := by
  unfold fld fldE at h
  obtain ⟨q, hq, e⟩ := Option.map_eq_some_iff.mp h
  cases e
  have hm := List.mem_of_find?_eq_some hq
  have hi : q.1 = idx := by simpa using List.find?_some hq
  have ho : own < 16 := own_lt (by decide +kernel) hm
  have h1 := List.all_eq_true.mp (List.all_eq_true.mp chkF_ok own (List.mem_range.mpr ho)) q hm
  simp only [Bool.and_eq_true, decide_eq_true_eq] at h1
  rw [hi] at h1
  exact ⟨h1.1.1, h1.1.2, gdL (atW_mem h1.2) rfl⟩
theorem clk_ok {own idx c : Nat} (h : clk own idx = some c) : c < 13 ∧ Jvm.Cond.classLink (cName own) idx (cName c) ∈ lw_gd ∧ Jvm.Cond.instantiable (cName c) (nf c) ∈ lw_gd ∧ Jvm.Cond.initialized (cName c) ∈ lw_gd := by
  unfold clk clkE at h
  obtain ⟨q, hq, e⟩ := Option.map_eq_some_iff.mp h
  cases e
  have hm := List.mem_of_find?_eq_some hq
  have hi : q.1 = idx := by simpa using List.find?_some hq
  have ho : own < 16 := own_lt (by decide +kernel) hm
  have h1 := List.all_eq_true.mp (List.all_eq_true.mp chkL_ok own (List.mem_range.mpr ho)) q hm
  simp only [Bool.and_eq_true, decide_eq_true_eq] at h1
  rw [hi] at h1
  have h2 := List.all_eq_true.mp chkW_ok q.2.1 (List.mem_range.mpr h1.1)
  simp only [Bool.and_eq_true] at h2
  exact ⟨h1.1, gdL (atW_mem h1.2) rfl, gdL (atW_mem h2.1) rfl, gdL (atW_mem h2.2) rfl⟩
theorem kI_ok {own idx : Nat} {v : Int32} (h : kI own idx = some v) : Jvm.Cond.constant (cName own) idx v ∈ lw_gd := by
  unfold kI kiE at h
  obtain ⟨q, hq, e⟩ := Option.map_eq_some_iff.mp h
  cases e
  have hm := List.mem_of_find?_eq_some hq
  have hi : q.1 = idx := by simpa using List.find?_some hq
  have ho : own < 16 := own_lt (by decide +kernel) hm
  have h1 := List.all_eq_true.mp chkK_ok own (List.mem_range.mpr ho)
  simp only [Bool.and_eq_true] at h1
  have h2 := List.all_eq_true.mp h1.1 q hm
  rw [hi] at h2
  exact gdL (atW_mem h2) rfl
theorem kL_ok {own idx : Nat} {v : Int64} (h : kL own idx = some v) : Jvm.Cond.constantLong (cName own) idx v ∈ lw_gd := by
  unfold kL klE at h
  obtain ⟨q, hq, e⟩ := Option.map_eq_some_iff.mp h
  cases e
  have hm := List.mem_of_find?_eq_some hq
  have hi : q.1 = idx := by simpa using List.find?_some hq
  have ho : own < 16 := own_lt (by decide +kernel) hm
  have h1 := List.all_eq_true.mp chkK_ok own (List.mem_range.mpr ho)
  simp only [Bool.and_eq_true] at h1
  have h2 := List.all_eq_true.mp h1.2 q hm
  rw [hi] at h2
  exact gdL (atW_mem h2) rfl
theorem arrI_ok : Jvm.Cond.arrayClass .int ∈ lw_gd ∧ Jvm.Cond.arrayClass .long ∈ lw_gd := by
  have h := chkA_ok
  unfold chkA at h
  simp only [Bool.and_eq_true] at h
  exact ⟨gdL (atW_mem h.1.2) rfl, gdL (atW_mem h.2) rfl⟩
/-! locals -/
def us : Value → Bool
  | .int _ => true
  | .long _ => true
  | .ref _ => true
  | _ => false
def prsF (B b : Nat) (L : List Value) (i : Nat) : Option (Nat × Value) := match L[i]? with
  | some v => if us v then some (i, rl B b v) else none
  | none => none
def prs (B b : Nat) (L : List Value) : List (Nat × Value) := (List.range L.length).filterMap (prsF B b L)
theorem prs_mem {B b : Nat} {L : List Value} {q : Nat × Value} : q ∈ prs B b L ↔ ∃ v, L[q.1]? = some v ∧ us v = true ∧ q.2 = rl B b v := by
  unfold prs
  rw [List.mem_filterMap]
  constructor
  · rintro ⟨i, -, h⟩
    unfold prsF at h
    split at h
    · rename_i v hv
      split at h
      · rename_i hu
        cases h
        exact ⟨v, hv, hu, rfl⟩
      · cases h
    · cases h
  · rintro ⟨v, hv, hu, e⟩
    refine ⟨q.1, List.mem_range.mpr (List.getElem?_eq_some_iff.mp hv).1, ?_⟩
    unfold prsF
    rw [hv]
    simp only [hu, if_true]
    rw [← e]
def lvL (B b : Nat) (ls : Array Slot) (nL : Nat) (L : List Value) : Prop := L.length = nL ∧ lv_has ls nL (prs B b L)
theorem lvL.get {B b : Nat} {ls : Array Slot} {nL : Nat} {L : List Value} (h : lvL B b ls nL L) {x : Nat} {v : Value} (hx : L[x]? = some v) (hu : us v = true) : ls[x]? = some (.val (rl B b v)) :=
  h.2.2.2 (x, rl B b v) (prs_mem.mpr ⟨v, hx, hu, rfl⟩)
theorem us_cat {v : Value} (hu : us v = true) : isLg v = decide (v.category = 2) := by cases v <;> first | rfl | cases hu
theorem clr_at {L : List Value} {x i : Nat} {v : Value} (h : (clr L x)[i]? = some v) (hu : us v = true) : L[i]? = some v ∧ ¬ (i + 1 = x ∧ v.category = 2) := by
  unfold clr at h
  split at h
  · exact ⟨h, fun q => by omega⟩
  · split at h
    · rename_i w hw
      split at h
      · rename_i hl
        rw [List.getElem?_set] at h
        split at h
        · split at h
          · cases h
            cases hu
          · cases h
        · rename_i hne
          exact ⟨h, fun q => by omega⟩
      · rename_i hl
        refine ⟨h, fun q => ?_⟩
        have e : x - 1 = i := by omega
        rw [e, h] at hw
        cases hw
        rw [us_cat hu] at hl
        exact hl (decide_eq_true q.2)
    · rename_i hw
      refine ⟨h, fun q => ?_⟩
      have e : x - 1 = i := by omega
      rw [e, h] at hw
      cases hw
theorem clr_len (L : List Value) (x : Nat) : (clr L x).length = L.length := by
  unfold clr
  split
  · rfl
  · split
    · split <;> simp
    · rfl
theorem lvL_st1 {B b : Nat} {ls ls' : Array Slot} {nL : Nat} {L : List Value} {x : Nat} {v : Value} (h : lvL B b ls nL L)
    (h' : lv_has ls' nL ((x, rl B b v) :: (prs B b L).filter (fun q => !(q.1 == x) && !(q.1 + 1 == x && q.2.category == 2)))) : lvL B b ls' nL (st1 L x v) := by
  refine ⟨by unfold st1; rw [clr_len, List.length_set]; exact h.1, h'.1, h'.2.1, fun q hq => h'.2.2 q ?_⟩
  obtain ⟨w, hw, hu, e⟩ := prs_mem.mp hq
  unfold st1 at hw
  obtain ⟨h1, h2⟩ := clr_at hw hu
  rw [List.getElem?_set] at h1
  split at h1
  · rename_i e2
    split at h1
    · cases h1
      refine List.mem_cons.mpr (Or.inl ?_)
      rw [e2, ← e]
    · cases h1
  · rename_i e2
    refine List.mem_cons.mpr (Or.inr (List.mem_filter.mpr ⟨prs_mem.mpr ⟨w, h1, hu, e⟩, ?_⟩))
    have e3 : (q.1 == x) = false := by simpa using fun q => e2 q.symm
    rw [e3]
    simp only [Bool.not_false, Bool.true_and, Bool.not_eq_true', Bool.and_eq_false_iff, beq_eq_false_iff_ne, ne_eq]
    rw [e, rl_cat]
    by_cases hx : q.1 + 1 = x
    · exact Or.inr fun hc => h2 ⟨hx, hc⟩
    · exact Or.inl hx
theorem lvL_st2 {B b : Nat} {ls ls' : Array Slot} {nL : Nat} {L : List Value} {x : Nat} {v : Value} (h : lvL B b ls nL L)
    (h' : lv_has ls' nL ((x, rl B b v) :: (prs B b L).filter (fun q => !(q.1 == x) && (!(q.1 == x + 1) && !(q.1 + 1 == x && q.2.category == 2))))) : lvL B b ls' nL (st2 L x v) := by
  refine ⟨by unfold st2; rw [List.length_set, clr_len, List.length_set]; exact h.1, h'.1, h'.2.1, fun q hq => h'.2.2 q ?_⟩
  obtain ⟨w, hw, hu, e⟩ := prs_mem.mp hq
  unfold st2 at hw
  rw [List.getElem?_set] at hw
  split at hw
  · split at hw
    · cases hw
      cases hu
    · cases hw
  · rename_i e4
    obtain ⟨h1, h2⟩ := clr_at hw hu
    rw [List.getElem?_set] at h1
    split at h1
    · rename_i e2
      split at h1
      · cases h1
        refine List.mem_cons.mpr (Or.inl ?_)
        rw [e2, ← e]
      · cases h1
    · rename_i e2
      refine List.mem_cons.mpr (Or.inr (List.mem_filter.mpr ⟨prs_mem.mpr ⟨w, h1, hu, e⟩, ?_⟩))
      have e3 : (q.1 == x) = false := by simpa using fun q => e2 q.symm
      have e5 : (q.1 == x + 1) = false := by simpa using fun q => e4 q.symm
      rw [e3, e5]
      simp only [Bool.not_false, Bool.true_and, Bool.not_eq_true', Bool.and_eq_false_iff, beq_eq_false_iff_ne, ne_eq]
      rw [e, rl_cat]
      by_cases hx : q.1 + 1 = x
      · exact Or.inr fun hc => h2 ⟨hx, hc⟩
      · exact Or.inl hx
theorem ftc_rng : ((List.range 13).all fun c => (List.range (nf c)).all fun k => decide (ftc c k < 4)) = true := by decide +kernel
end
section
/-! ONE STEP of the abstract machine is a step of the machine -/
section STP
variable {p : Program} {l : Launch} {e : Env} {R : Room} {s : State} {m : MethodId} {args : Array Value} {below : List Frame} {meth : Method} {c : Code} {Q : State → Prop}
variable {B b n0 y : Nat} {dC : Nat → ClassId} {dI : Nat → Nat → Nat} {cA : Nat → ClassId}
/-- a method's surroundings -/
def Cx (p : Program) (R : Room) (s : State) (m : MethodId) (args : Array Value) (meth : Method) (c : Code) (y B b n0 : Nat) (dC : Nat → ClassId) (dI : Nat → Nat → Nat) (cA : Nat → ClassId) : Prop :=
  p.tables.exec = Jvm.exec ∧ c.code = mCode y ∧ c.maxLocals = mMx y ∧ s.vm.findClass (cName (mOw y)) = some m.cls ∧ (∀ w ∈ lw_gd, w.before args s = true) ∧ KX dC dI cA s ∧ meth.sig.returnType = mRt y ∧ meth.locks = false ∧ (mKd y = 2 → meth.name = "<init>") ∧ s.heap.size = B + n0 ∧ b < B
/-- the memory as it stands in a heap -/
def Rl (B b : Nat) (dC : Nat → ClassId) (dI : Nat → Nat → Nat) (cA : Nat → ClassId) (s : State) (n0 : Nat) (σ : Mm) (H : Heap) (locs : List Loc) : Prop :=
  va_P (dC, dI) clsV (wld B b cA σ) H ∧ va_S (AA B) s.heap H locs ∧ va_X b σ.2.2.2.2 (σ.1 0) s s.heap ∧ n0 ≤ σ.2.2.2.1 ∧ σ.2.2.2.1 ≤ NT
abbrev WW (p : Program) (l : Launch) (e : Env) (R : Room) (s : State) (m : MethodId) (args : Array Value) (below : List Frame) (meth : Method) (c : Code) (Q : State → Prop) (B b n0 y : Nat) (dC : Nat → ClassId) (dI : Nat → Nat → Nat) (cA : Nat → ClassId) (pc : Nat) (L st : List Value) (σ : Mm) : Prop :=
  ∀ (H : Heap) (locs : List Loc) (ls : Array Slot), Rl B b dC dI cA s n0 σ H locs → lvL B b ls (mMx y) L → W p l e R s m args below meth c H locs (σ.2.2.2.1 - n0) (slN σ.2.2.2.1 - slN n0) Q (F0 m pc ls (st.map (rl B b)))
theorem ww_ld1 {pc len : Nat} {L st : List Value} {σ : Mm} {q : Nx} (hs : some (pc + len, L, st, σ) = some q) (k : WW p l e R s m args below meth c Q B b n0 y dC dI cA q.1 q.2.1 q.2.2.1 q.2.2.2) : WW p l e R s m args below meth c Q B b n0 y dC dI cA (pc + len) L st σ := by
  cases hs
  exact k
theorem bL {B n0 : Nat} {s : State} (h : s.heap.size = B + n0) (hb : b < B) : b < s.heap.size ∧ ¬ AA B b := ⟨by omega, fun q => by have : B ≤ b := q; omega⟩
theorem rl_w {x : Jvm.Cond} (C : Cx p R s m args meth c y B b n0 dC dI cA) (h : x ∈ lw_gd) : x.before args s = true := C.2.2.2.2.1 x h
/-! fields -/
theorem ww_get {pc len idx : Nat} {L st : List Value} {σ : Mm} {q : Nx} (C : Cx p R s m args meth c y B b n0 dC dI cA) (hd : decode (mCode y) pc = .ok (.getfield idx, 3)) (hs : sGet y idx (pc + 3) L st σ = some q)
    (k : WW p l e R s m args below meth c Q B b n0 y dC dI cA q.1 q.2.1 q.2.2.1 q.2.2.2) : WW p l e R s m args below meth c Q B b n0 y dC dI cA pc L st σ := by
  intro H locs ls hR hl
  obtain ⟨hx, hb, hml, hown, hts, hK, hr, hlk, hin, hsz, hbB⟩ := C
  unfold sGet at hs
  split at hs
  · rename_i a r
    split at hs
    · rename_i f hf
      obtain ⟨c1, k1⟩ := f
      split at hs
      · rename_i hc
        cases hs
        obtain ⟨hSH, hp⟩ := hc
        obtain ⟨f1, f2, f3⟩ := fld_ok hf
        have h0 := obj0 hSH
        have hw := wld_at (B := B) (b := b) (cA := cA) (σ := σ) h0 (by simp [hSH]) hp
        have he : ent B b cA σ a = .inr (c1, (List.range (nf c1)).map fun k => rl B b (gV σ a c1 k)) := by unfold ent; rw [hSH]; rfl
        rw [he] at hw
        show W p l e R s m args below meth c H locs _ _ Q (F0 m pc ls (.ref (ra B b a) :: r.map (rl B b)))
        rw [show ra B b a = B + pos a by unfold ra; rw [if_neg h0]]
        refine va_get (D := (dC, dI)) (C := cName c1) (T := fT c1) (N := nf c1) (own := cName (mOw y)) (ref := cName c1) hx hb hts (in_fields f1) hown hK.1 hR.1 (pos a) hw (clsV_at f1) k1 f2 (hts _ f3) (fun _ h => h) (v := rl B b (gV σ a c1 k1)) ?_ hd (k H locs ls hR hl)
        rw [List.getElem?_map, List.getElem?_range f2]
        rfl
      · cases hs
    · cases hs
  · cases hs
theorem X_up {σ : Mm} {a k : Nat} {v : Int32} (h : a ≠ 0) : (setI σ a k v).1 0 = σ.1 0 := up2_ne (fun q => h q.symm)
theorem nar_fit {c k : Nat} (hc : c < 13) (hk : k < nf c) {v : Value} {σ σ' : Mm} {a : Nat} (h : sV σ a c k v = some σ') : narrow (fTy c k) (rl B b v) = rl B b v ∧ fits (fTy c k) (rl B b v) = true := by
  have ht := tc_fields hc hk
  unfold sV at h
  split at h
  · rename_i x
    split at h
    · rename_i h0
      rw [ht] at h0
      split at h0 <;> first | (rename_i e; rw [e]; exact ⟨rfl, rfl⟩) | cases h0
    · split at h
      · rename_i h3
        obtain ⟨h3, hx⟩ := h3
        rw [ht] at h3
        split at h3 <;> first | cases h3 | skip
        rename_i e
        rw [e]
        rcases hx with rfl | rfl
        · exact ⟨show narrow .boolean (.int 0) = .int 0 by decide, show fits .boolean (.int 0) = true by decide⟩
        · exact ⟨show narrow .boolean (.int 1) = .int 1 by decide, show fits .boolean (.int 1) = true by decide⟩
      · cases h
  · split at h
    · rename_i h0
      rw [ht] at h0
      split at h0 <;> first | (rename_i e; rw [e]; exact ⟨rfl, rfl⟩) | cases h0
    · cases h
  · split at h
    · rename_i h0
      rw [ht] at h0
      split at h0 <;> first | (rename_i e; rw [e]; exact ⟨rfl, rfl⟩) | cases h0
    · cases h
  · cases h
theorem set_map_range {α : Type} {n k : Nat} {f g : Nat → α} (h : ∀ j, j ≠ k → g j = f j) : ((List.range n).map f).set k (g k) = (List.range n).map g := by
  apply List.ext_getElem?
  intro i
  rw [List.getElem?_set, List.getElem?_map, List.getElem?_map]
  by_cases hi : i < n
  · rw [List.getElem?_range hi]
    simp only [Option.map_some, List.length_map, List.length_range]
    split
    · rename_i e2
      subst e2
      first | rw [if_pos hi] | rfl
    · rename_i e2
      rw [h i (fun q => e2 q.symm)]
  · have h1 : (List.range n)[i]? = none := by simp; omega
    rw [h1]
    simp only [Option.map_none, List.length_map, List.length_range]
    split
    · rename_i e2
      subst e2
      first | rw [if_neg hi] | (exact absurd ‹_› hi)
    · rfl
theorem sV_ent {σ σ' : Mm} {a c1 k1 : Nat} {v : Value} (hc : c1 < 13) (hk : k1 < nf c1) (hSH : SH a = (1, c1)) (h : sV σ a c1 k1 v = some σ') :
    σ'.2.2.2 = σ.2.2.2 ∧ σ'.1 0 = σ.1 0 ∧ (∀ a', a' ≠ a → ent B b cA σ' a' = ent B b cA σ a') ∧ ent B b cA σ' a = .inr (c1, ((List.range (nf c1)).map fun k => rl B b (gV σ a c1 k)).set k1 (rl B b v)) := by
  have h0 := obj0 hSH
  have he : ∀ τ : Mm, ent B b cA τ a = .inr (c1, (List.range (nf c1)).map fun k => rl B b (gV τ a c1 k)) := fun τ => by unfold ent; rw [hSH]; rfl
  unfold sV at h
  split at h
  · rename_i x
    have key : (ftc c1 k1 = 0 ∨ ftc c1 k1 = 3) → (setI σ a k1 x).2.2.2 = σ.2.2.2 ∧ (setI σ a k1 x).1 0 = σ.1 0 ∧ (∀ a', a' ≠ a → ent B b cA (setI σ a k1 x) a' = ent B b cA σ a') ∧ ent B b cA (setI σ a k1 x) a = .inr (c1, ((List.range (nf c1)).map fun k => rl B b (gV σ a c1 k)).set k1 (rl B b (.int x))) := by
      intro ht
      refine ⟨rfl, X_up h0, fun a' => ent_I_off a', ?_⟩
      rw [he]
      congr 2
      have := set_map_range (n := nf c1) (k := k1) (f := fun k => rl B b (gV σ a c1 k)) (g := fun k => rl B b (gV (setI σ a k1 x) a c1 k)) (fun j hj => by simp only [gV_I]; rw [if_neg (fun q => hj q.2.1)])
      rw [← this]
      congr 1
      show rl B b (gV (setI σ a k1 x) a c1 k1) = _
      rw [gV_I, if_pos ⟨rfl, rfl, ht⟩]
    split at h
    · rename_i ht
      cases h
      exact key (Or.inl ht)
    · split at h
      · rename_i ht
        cases h
        exact key (Or.inr ht.1)
      · cases h
  · rename_i x
    split at h
    · rename_i ht
      cases h
      refine ⟨rfl, rfl, fun a' => ent_J_off a', ?_⟩
      rw [he]
      congr 2
      have := set_map_range (n := nf c1) (k := k1) (f := fun k => rl B b (gV σ a c1 k)) (g := fun k => rl B b (gV (setJ σ a k1 x) a c1 k)) (fun j hj => by simp only [gV_J]; rw [if_neg (fun q => hj q.2.1)])
      rw [← this]
      congr 1
      show rl B b (gV (setJ σ a k1 x) a c1 k1) = _
      rw [gV_J, if_pos ⟨rfl, rfl, ht⟩]
    · cases h
  · rename_i x
    split at h
    · rename_i ht
      cases h
      refine ⟨rfl, rfl, fun a' => ent_R_off a', ?_⟩
      rw [he]
      congr 2
      have := set_map_range (n := nf c1) (k := k1) (f := fun k => rl B b (gV σ a c1 k)) (g := fun k => rl B b (gV (setR σ a k1 (some x)) a c1 k)) (fun j hj => by simp only [gV_R]; rw [if_neg (fun q => hj q.2.1)])
      rw [← this]
      congr 1
      show rl B b (gV (setR σ a k1 (some x)) a c1 k1) = _
      rw [gV_R, if_pos ⟨rfl, rfl, by rw [ht]; decide, by rw [ht]; decide, by rw [ht]; decide⟩]
      rfl
    · cases h
  · cases h
theorem ww_put {pc idx : Nat} {L st : List Value} {σ : Mm} {q : Nx} (C : Cx p R s m args meth c y B b n0 dC dI cA) (hd : decode (mCode y) pc = .ok (.putfield idx, 3)) (hs : sPut y idx (pc + 3) L st σ = some q)
    (k : WW p l e R s m args below meth c Q B b n0 y dC dI cA q.1 q.2.1 q.2.2.1 q.2.2.2) : WW p l e R s m args below meth c Q B b n0 y dC dI cA pc L st σ := by
  intro H locs ls hR hl
  obtain ⟨hx, hb, hml, hown, hts, hK, hr, hlk, hin, hsz, hbB⟩ := C
  unfold sPut at hs
  split at hs
  · rename_i v a r
    split at hs
    · rename_i f hf
      obtain ⟨c1, k1⟩ := f
      split at hs
      · rename_i hc
        obtain ⟨σ', hv, e1⟩ := Option.map_eq_some_iff.mp hs
        cases e1
        obtain ⟨hSH, hp, hfin⟩ := hc
        obtain ⟨f1, f2, f3⟩ := fld_ok hf
        have h0 := obj0 hSH
        have hw := wld_at (B := B) (b := b) (cA := cA) (σ := σ) h0 (by simp [hSH]) hp
        have he : ent B b cA σ a = .inr (c1, (List.range (nf c1)).map fun k => rl B b (gV σ a c1 k)) := by unfold ent; rw [hSH]; rfl
        obtain ⟨g1, g2, g3, g4⟩ := sV_ent (B := B) (b := b) (cA := cA) f1 f2 hSH hv
        have hset := wld_set (B := B) (b := b) (cA := cA) (σ := σ) (σ' := σ') (by rw [g1]) hR.2.2.2.2 h0 (by simp [hSH]) hp g3
        rw [g4] at hset
        rw [he] at hw
        obtain ⟨n1, n2⟩ := nar_fit (B := B) (b := b) f1 f2 hv
        show W p l e R s m args below meth c H locs _ _ Q (F0 m pc ls (rl B b v :: .ref (ra B b a) :: r.map (rl B b)))
        rw [show ra B b a = B + pos a by unfold ra; rw [if_neg h0]]
        have fin : ∀ (H1 : Heap) (locs1 : List Loc), va_P (dC, dI) clsV ((wld B b cA σ).set (pos a) (B + pos a, .inr (c1, ((List.range (nf c1)).map fun k => rl B b (gV σ a c1 k)).set k1 (rl B b v)))) H1 → va_D (AA B) ((wld B b cA σ).set (pos a) (B + pos a, .inr (c1, ((List.range (nf c1)).map fun k => rl B b (gV σ a c1 k)).set k1 (rl B b v)))) → va_S (AA B) s.heap H1 locs1 → W p l e R s m args below meth c H1 locs1 (σ.2.2.2.1 - n0) (slN σ.2.2.2.1 - slN n0) Q (F0 m (pc + 3) ls (r.map (rl B b))) := by
          intro H1 locs1 q1 q2 q3
          rw [hset] at q1
          have := k H1 locs1 ls ⟨q1, q3, by rw [g1, g2]; exact hR.2.2.1, by rw [g1]; exact hR.2.2.2.1, by rw [g1]; exact hR.2.2.2.2⟩ hl
          rw [g1] at this
          exact this
        by_cases hf2 : (fQ c1 k1).2.2 = false
        · exact va_put (D := (dC, dI)) (C := cName c1) (T := fT c1) (N := nf c1) (own := cName (mOw y)) (ref := cName c1) hx hb hts (in_fields f1) (fTy c1) (ty_fields f1) (nm_fields f1) hown hK.1 hR.1 (wld_D B b cA σ) hR.2.1 (pos a) hw (clsV_at f1) k1 f2 (hts _ f3) (fun _ h => h) hf2 (ty := fTy c1 k1) (ty_fields f1 k1 f2) n1 n2 (by simp [f2]) hd fin
        · rcases hfin with q | ⟨q1, q2⟩
          · exact absurd q hf2
          · exact va_putF (D := (dC, dI)) (C := cName c1) (T := fT c1) (N := nf c1) (own := cName (mOw y)) (ref := cName c1) hx hb hts (in_fields f1) (fTy c1) (ty_fields f1) (nm_fields f1) hown hK.1 hR.1 (wld_D B b cA σ) hR.2.1 (pos a) hw (clsV_at f1) k1 f2 (hts _ f3) (fun _ h => h) (show (fQ c1 k1).2.2 = true by simpa using hf2) (hin q1) (by rw [q2]; rfl) (ty := fTy c1 k1) (ty_fields f1 k1 f2) n1 n2 (by simp [f2]) hd fin
      · cases hs
    · cases hs
  · cases hs
end STP
end
section
/-! arrays, new cells, locals, numbers, branches -/
section STP2
variable {p : Program} {l : Launch} {e : Env} {R : Room} {s : State} {m : MethodId} {args : Array Value} {below : List Frame} {meth : Method} {c : Code} {Q : State → Prop}
variable {B b n0 y : Nat} {dC : Nat → ClassId} {dI : Nat → Nat → Nat} {cA : Nat → ClassId}
theorem ra_ne {a : Nat} (h : a ≠ 0) : ra B b a = B + pos a := by unfold ra; rw [if_neg h]
theorem ent2 {σ : Mm} {a : Nat} (h : (SH a).1 = 2) : ent B b cA σ a = .inl (cA 2, (SH a).2, .inl (σ.1 a)) := by unfold ent; rw [if_neg (by rw [h]; decide), if_pos h]
theorem ent3 {σ : Mm} {a : Nat} (h : (SH a).1 = 3) : ent B b cA σ a = .inl (cA 3, (SH a).2, .inr (.inl (σ.2.1 a))) := by unfold ent; rw [if_neg (by rw [h]; decide), if_neg (by rw [h]; decide), if_pos h]
theorem ent4 {σ : Mm} {a : Nat} (h : 4 ≤ (SH a).1) : ent B b cA σ a = .inl (cA (SH a).1, (SH a).2, .inr (.inr (.inr (.inr fun j => (σ.2.2.1 a j).map (ra B b))))) := by unfold ent; rw [if_neg (by omega), if_neg (by omega), if_neg (by omega)]
theorem ww_ild {pc : Nat} {L st : List Value} {σ : Mm} {q : Nx} (C : Cx p R s m args meth c y B b n0 dC dI cA) (hd : decode (mCode y) pc = .ok (.iaload, 1)) (hs : sIld (pc + 1) L st σ = some q)
    (k : WW p l e R s m args below meth c Q B b n0 y dC dI cA q.1 q.2.1 q.2.2.1 q.2.2.2) : WW p l e R s m args below meth c Q B b n0 y dC dI cA pc L st σ := by
  intro H locs ls hR hl
  obtain ⟨hx, hb, hml, hown, hts, hK, hr, hlk, hin, hsz, hbB⟩ := C
  unfold sIld at hs
  split at hs
  · rename_i j a r
    split at hs
    · rename_i hc
      cases hs
      obtain ⟨hSH, hp, hj⟩ := hc
      by_cases h0 : a = 0
      · subst h0
        exact va_sld (b := b) (L := σ.2.2.2.2) (xs := σ.1 0) hx hb hR.2.2.1 (bL hsz hbB).1 (bL hsz hbB).2 hR.2.1 (i := j) hj hd (k H locs ls hR hl)
      · have hp := hp.resolve_left h0
        have hw := wld_at (B := B) (b := b) (cA := cA) (σ := σ) h0 (by rw [hSH]; decide) hp
        rw [ent2 hSH] at hw
        show W p l e R s m args below meth c H locs _ _ Q (F0 m pc ls (.int j :: .ref (ra B b a) :: r.map (rl B b)))
        rw [ra_ne h0]
        have hj : vp_in j (SH a).2 := by unfold aLn at hj; rw [if_neg h0] at hj; exact hj
        exact va_iald (D := (dC, dI)) hx hb hK.1 hR.1 (pos a) 0 hw rfl hj hd (k H locs ls hR hl)
    · cases hs
  · cases hs
theorem ww_len {pc : Nat} {L st : List Value} {σ : Mm} {q : Nx} (C : Cx p R s m args meth c y B b n0 dC dI cA) (hd : decode (mCode y) pc = .ok (.arraylength, 1)) (hs : sLen (pc + 1) L st σ = some q)
    (k : WW p l e R s m args below meth c Q B b n0 y dC dI cA q.1 q.2.1 q.2.2.1 q.2.2.2) : WW p l e R s m args below meth c Q B b n0 y dC dI cA pc L st σ := by
  intro H locs ls hR hl
  obtain ⟨hx, hb, hml, hown, hts, hK, hr, hlk, hin, hsz, hbB⟩ := C
  unfold sLen at hs
  split at hs
  · rename_i a r
    split at hs
    · rename_i hc
      cases hs
      obtain ⟨h2, h6, hp⟩ := hc
      by_cases h0 : a = 0
      · subst h0
        exact va_slen (b := b) (L := σ.2.2.2.2) (xs := σ.1 0) hx hb hR.2.2.1 (bL hsz hbB).1 (bL hsz hbB).2 hR.2.1 hd (k H locs ls hR hl)
      · have hp := hp.resolve_left h0
        have hw := wld_at (B := B) (b := b) (cA := cA) (σ := σ) h0 (by omega) hp
        show W p l e R s m args below meth c H locs _ _ Q (F0 m pc ls (.ref (ra B b a) :: r.map (rl B b)))
        rw [ra_ne h0]
        have hv : Int32.ofNat (SH a).2 = nI (aLn σ a) := by unfold aLn; rw [if_neg h0]; rfl
        by_cases e2 : (SH a).1 = 2
        · rw [ent2 e2] at hw
          exact va_alen (D := (dC, dI)) hx hb hK.1 hR.1 (pos a) 0 hw (ty := .int) rfl hv hd (k H locs ls hR hl)
        by_cases e3 : (SH a).1 = 3
        · rw [ent3 e3] at hw
          exact va_alen (D := (dC, dI)) hx hb hK.1 hR.1 (pos a) 1 hw (ty := .long) rfl hv hd (k H locs ls hR hl)
        rw [ent4 (by omega)] at hw
        by_cases e4 : (SH a).1 = 4
        · rw [e4] at hw
          exact va_alen (D := (dC, dI)) hx hb hK.1 hR.1 (pos a) 2 hw (ty := .object (cName 0)) rfl hv hd (k H locs ls hR hl)
        by_cases e5 : (SH a).1 = 5
        · rw [e5] at hw
          exact va_alen (D := (dC, dI)) hx hb hK.1 hR.1 (pos a) 3 hw (ty := .object (cName 1)) rfl hv hd (k H locs ls hR hl)
        have e6 : (SH a).1 = 6 := by omega
        rw [e6] at hw
        exact va_alen (D := (dC, dI)) hx hb hK.1 hR.1 (pos a) 4 hw (ty := .object (cName 2)) rfl hv hd (k H locs ls hR hl)
    · cases hs
  · cases hs
theorem ww_ist {pc : Nat} {L st : List Value} {σ : Mm} {q : Nx} (C : Cx p R s m args meth c y B b n0 dC dI cA) (hd : decode (mCode y) pc = .ok (.iastore, 1)) (hs : sIst (pc + 1) L st σ = some q)
    (k : WW p l e R s m args below meth c Q B b n0 y dC dI cA q.1 q.2.1 q.2.2.1 q.2.2.2) : WW p l e R s m args below meth c Q B b n0 y dC dI cA pc L st σ := by
  intro H locs ls hR hl
  obtain ⟨hx, hb, hml, hown, hts, hK, hr, hlk, hin, hsz, hbB⟩ := C
  unfold sIst at hs
  split at hs
  · rename_i v j a r
    split at hs
    · rename_i hc
      cases hs
      obtain ⟨hSH, h0, hp, hj⟩ := hc
      have hw := wld_at (B := B) (b := b) (cA := cA) (σ := σ) h0 (by rw [hSH]; decide) hp
      rw [ent2 hSH] at hw
      have hset := wld_set (B := B) (b := b) (cA := cA) (σ := σ) (σ' := setI σ a j.toNatClampNeg v) rfl hR.2.2.2.2 h0 (by rw [hSH]; decide) hp (fun a' => ent_I_off a')
      rw [ent2 hSH] at hset
      show W p l e R s m args below meth c H locs _ _ Q (F0 m pc ls (.int v :: .int j :: .ref (ra B b a) :: r.map (rl B b)))
      rw [ra_ne h0]
      refine va_iast (D := (dC, dI)) hx hb hK.1 hR.1 (wld_D B b cA σ) hR.2.1 (pos a) 0 hw rfl (i := j) (x := v) hj hd fun H1 locs1 q1 q2 q3 => ?_
      have e1 : upd (σ.1 a) j.toNatClampNeg v = (setI σ a j.toNatClampNeg v).1 a := by
        funext t
        unfold upd setI up2
        simp
      rw [e1, hset] at q1
      exact k H1 locs1 ls ⟨q1, q3, by rw [X_up h0]; exact hR.2.2.1, hR.2.2.2.1, hR.2.2.2.2⟩ hl
    · cases hs
  · cases hs
theorem ww_jld {pc : Nat} {L st : List Value} {σ : Mm} {q : Nx} (C : Cx p R s m args meth c y B b n0 dC dI cA) (hd : decode (mCode y) pc = .ok (.laload, 1)) (hs : sJld (pc + 1) L st σ = some q)
    (k : WW p l e R s m args below meth c Q B b n0 y dC dI cA q.1 q.2.1 q.2.2.1 q.2.2.2) : WW p l e R s m args below meth c Q B b n0 y dC dI cA pc L st σ := by
  intro H locs ls hR hl
  obtain ⟨hx, hb, hml, hown, hts, hK, hr, hlk, hin, hsz, hbB⟩ := C
  unfold sJld at hs
  split at hs
  · rename_i j a r
    split at hs
    · rename_i hc
      cases hs
      obtain ⟨hSH, hp, hj⟩ := hc
      have h0 : a ≠ 0 := fun q => by rw [q, SH0] at hSH; cases hSH
      have hw := wld_at (B := B) (b := b) (cA := cA) (σ := σ) h0 (by rw [hSH]; decide) hp
      rw [ent3 hSH] at hw
      show W p l e R s m args below meth c H locs _ _ Q (F0 m pc ls (.int j :: .ref (ra B b a) :: r.map (rl B b)))
      rw [ra_ne h0]
      exact va_lald (D := (dC, dI)) hx hb hK.1 hR.1 (pos a) 1 hw rfl hj hd (k H locs ls hR hl)
    · cases hs
  · cases hs
theorem ww_jst {pc : Nat} {L st : List Value} {σ : Mm} {q : Nx} (C : Cx p R s m args meth c y B b n0 dC dI cA) (hd : decode (mCode y) pc = .ok (.lastore, 1)) (hs : sJst (pc + 1) L st σ = some q)
    (k : WW p l e R s m args below meth c Q B b n0 y dC dI cA q.1 q.2.1 q.2.2.1 q.2.2.2) : WW p l e R s m args below meth c Q B b n0 y dC dI cA pc L st σ := by
  intro H locs ls hR hl
  obtain ⟨hx, hb, hml, hown, hts, hK, hr, hlk, hin, hsz, hbB⟩ := C
  unfold sJst at hs
  split at hs
  · rename_i v j a r
    split at hs
    · rename_i hc
      cases hs
      obtain ⟨hSH, hp, hj⟩ := hc
      have h0 : a ≠ 0 := fun q => by rw [q, SH0] at hSH; cases hSH
      have hw := wld_at (B := B) (b := b) (cA := cA) (σ := σ) h0 (by rw [hSH]; decide) hp
      rw [ent3 hSH] at hw
      have hset := wld_set (B := B) (b := b) (cA := cA) (σ := σ) (σ' := setJ σ a j.toNatClampNeg v) rfl hR.2.2.2.2 h0 (by rw [hSH]; decide) hp (fun a' => ent_J_off a')
      rw [ent3 hSH] at hset
      show W p l e R s m args below meth c H locs _ _ Q (F0 m pc ls (.long v :: .int j :: .ref (ra B b a) :: r.map (rl B b)))
      rw [ra_ne h0]
      refine va_last (D := (dC, dI)) hx hb hK.1 hR.1 (wld_D B b cA σ) hR.2.1 (pos a) 1 hw rfl (i := j) (x := v) hj hd fun H1 locs1 q1 q2 q3 => ?_
      have e1 : vp_updL (σ.2.1 a) j.toNatClampNeg v = (setJ σ a j.toNatClampNeg v).2.1 a := by
        funext t
        unfold vp_updL setJ up2
        simp
      rw [e1, hset] at q1
      exact k H1 locs1 ls ⟨q1, q3, hR.2.2.1, hR.2.2.2.1, hR.2.2.2.2⟩ hl
    · cases hs
  · cases hs
theorem tyA_at {kk : Nat} (h4 : 4 ≤ kk) (h6 : kk ≤ 6) : (tyA cA)[kk - 2]? = some (cA kk, .object (cName (arkC kk))) := by
  have : kk = 4 ∨ kk = 5 ∨ kk = 6 := by omega
  rcases this with rfl | rfl | rfl <;> rfl
theorem ww_ald {pc : Nat} {L st : List Value} {σ : Mm} {q : Nx} (C : Cx p R s m args meth c y B b n0 dC dI cA) (hd : decode (mCode y) pc = .ok (.aaload, 1)) (hs : sAld (pc + 1) L st σ = some q)
    (k : WW p l e R s m args below meth c Q B b n0 y dC dI cA q.1 q.2.1 q.2.2.1 q.2.2.2) : WW p l e R s m args below meth c Q B b n0 y dC dI cA pc L st σ := by
  intro H locs ls hR hl
  obtain ⟨hx, hb, hml, hown, hts, hK, hr, hlk, hin, hsz, hbB⟩ := C
  unfold sAld at hs
  split at hs
  · rename_i j a r
    split at hs
    · rename_i hc
      cases hs
      obtain ⟨⟨h4, h6⟩, hp, hj⟩ := hc
      have h0 : a ≠ 0 := fun q => by rw [q, SH0] at h4; exact absurd h4 (by decide)
      have hw := wld_at (B := B) (b := b) (cA := cA) (σ := σ) h0 (by omega) hp
      rw [ent4 h4] at hw
      show W p l e R s m args below meth c H locs _ _ Q (F0 m pc ls (.int j :: .ref (ra B b a) :: r.map (rl B b)))
      rw [ra_ne h0]
      refine va_aldq (D := (dC, dI)) hx hb hK.1 hR.1 (pos a) ((SH a).1 - 2) hw (tyA_at h4 h6) hj hd ?_
      have := k H locs ls hR hl
      simp only [List.map_cons, rl_rf] at this
      exact this
    · cases hs
  · cases hs
theorem arkC_lt {kk : Nat} : arkC kk < 13 := by unfold arkC; split <;> first | decide | (split <;> decide)
theorem ww_ast {pc : Nat} {L st : List Value} {σ : Mm} {q : Nx} (C : Cx p R s m args meth c y B b n0 dC dI cA) (hd : decode (mCode y) pc = .ok (.aastore, 1)) (hs : sAst (pc + 1) L st σ = some q)
    (k : WW p l e R s m args below meth c Q B b n0 y dC dI cA q.1 q.2.1 q.2.2.1 q.2.2.2) : WW p l e R s m args below meth c Q B b n0 y dC dI cA pc L st σ := by
  intro H locs ls hR hl
  obtain ⟨hx, hb, hml, hown, hts, hK, hr, hlk, hin, hsz, hbB⟩ := C
  unfold sAst at hs
  split at hs
  · rename_i v j a r
    split at hs
    · rename_i hc
      cases hs
      obtain ⟨⟨h4, h6⟩, hp, hj, hv, hpv⟩ := hc
      have h0 : a ≠ 0 := fun q => by rw [q, SH0] at h4; exact absurd h4 (by decide)
      have hv0 := obj0 hv
      have hw := wld_at (B := B) (b := b) (cA := cA) (σ := σ) h0 (by omega) hp
      have hwv := wld_at (B := B) (b := b) (cA := cA) (σ := σ) hv0 (by simp [hv]) hpv
      have hev : ent B b cA σ v = .inr (arkC (SH a).1, (List.range (nf (arkC (SH a).1))).map fun k => rl B b (gV σ v (arkC (SH a).1) k)) := by unfold ent; rw [hv]; rfl
      rw [hev] at hwv
      rw [ent4 h4] at hw
      have hset := wld_set (B := B) (b := b) (cA := cA) (σ := σ) (σ' := setR σ a j.toNatClampNeg (some v)) rfl hR.2.2.2.2 h0 (by omega) hp (fun a' => ent_R_off a')
      rw [ent4 h4] at hset
      show W p l e R s m args below meth c H locs _ _ Q (F0 m pc ls (.ref (ra B b v) :: .int j :: .ref (ra B b a) :: r.map (rl B b)))
      rw [ra_ne h0, ra_ne hv0]
      refine va_astq (D := (dC, dI)) (r := (cName (arkC (SH a).1), fT (arkC (SH a).1), nf (arkC (SH a).1))) hx hb hK.1 hR.1 (wld_D B b cA σ) hR.2.1 (pos a) ((SH a).1 - 2) (pos v) (arkC (SH a).1) hw (tyA_at h4 h6) hwv (clsV_at arkC_lt) (i := j) hj hd fun H1 locs1 q1 q2 q3 => ?_
      have e1 : va_up (fun j => (σ.2.2.1 a j).map (ra B b)) j.toNatClampNeg (some (B + pos v)) = fun t => ((setR σ a j.toNatClampNeg (some v)).2.2.1 a t).map (ra B b) := by
        funext t
        unfold va_up setR up2
        by_cases ht : t = j.toNatClampNeg
        · simp [ht, ra_ne hv0]
        · simp [ht]
      rw [e1, hset] at q1
      exact k H1 locs1 ls ⟨q1, q3, hR.2.2.1, hR.2.2.2.1, hR.2.2.2.2⟩ hl
    · cases hs
  · cases hs
/-! new cells -/
theorem W_sz {H : Heap} {locs : List Loc} {σ : Mm} {g : JFrame} {slots : Nat} (C : Cx p R s m args meth c y B b n0 dC dI cA) (hR : Rl B b dC dI cA s n0 σ H locs) (k : H.size = B + σ.2.2.2.1 → W p l e R s m args below meth c H locs (σ.2.2.2.1 - n0) slots Q g) : W p l e R s m args below meth c H locs (σ.2.2.2.1 - n0) slots Q g := by
  intro T hT X
  refine k ?_ T hT X
  obtain ⟨hx, hb, hml, hown, hts, hK, hr, hlk, hin, hsz, hbB⟩ := C
  have h1 := X.heapSize
  rw [hT] at h1
  have h2 := hR.2.2.2.1
  have h3 := hR.2.1.1
  by_cases hn : σ.2.2.2.1 = n0
  · omega
  · have hlt : σ.2.2.2.1 - 1 < σ.2.2.2.1 := by omega
    have hw : (wld B b cA σ)[σ.2.2.2.1 - 1]? = some (B + (σ.2.2.2.1 - 1), ent B b cA σ (ADR (σ.2.2.2.1 - 1))) := by
      unfold wld
      rw [List.getElem?_map, List.getElem?_range hlt]
      rfl
    have h4 := va_at.lt (hR.1 _ _ hw)
    have h5 : B + (σ.2.2.2.1 - 1) < H.size := h4
    omega
theorem zr2_ne {α : Type} {f : Nat → Nat → α} {a a' : Nat} {v : α} (h : a' ≠ a) : zr2 f a v a' = f a' := by
  funext k'
  unfold zr2
  rw [if_neg h]
theorem ent_new_off {σ : Mm} {a' : Nat} (h : a' ≠ ADR σ.2.2.2.1) : ent B b cA (newC σ) a' = ent B b cA σ a' := by
  have e1 : (newC σ).1 a' = σ.1 a' := zr2_ne h
  have e2 : (newC σ).2.1 a' = σ.2.1 a' := zr2_ne h
  have e3 : (newC σ).2.2.1 a' = σ.2.2.1 a' := zr2_ne h
  unfold ent gV
  rw [e1, e2, e3]
theorem wld_new {σ : Mm} (h : σ.2.2.2.1 < NT) : wld B b cA (newC σ) = wld B b cA σ ++ [(B + σ.2.2.2.1, ent B b cA (newC σ) (ADR σ.2.2.2.1))] := by
  unfold wld
  rw [show (newC σ).2.2.2.1 = σ.2.2.2.1 + 1 from rfl, List.range_succ, List.map_append]
  congr 1
  apply List.map_congr_left
  intro i hi
  have hi := List.mem_range.mp hi
  rw [ent_new_off]
  intro e1
  have h1 := (lay1 (Nat.lt_trans hi h)).1
  have h2 := (lay1 h).1
  rw [e1] at h1
  omega
theorem Rl_new {σ : Mm} {H H' : Heap} {locs : List Loc} (hR : Rl B b dC dI cA s n0 σ H locs) (hn : σ.2.2.2.1 < NT) (hz : H.size = B + σ.2.2.2.1) (ho : ∀ q, q < B + σ.2.2.2.1 → H'[q]? = H[q]?) (hz' : H'.size = B + σ.2.2.2.1 + 1) (hnew : va_at (dC, dI) clsV (B + σ.2.2.2.1, ent B b cA (newC σ) (ADR σ.2.2.2.1)) H') : Rl B b dC dI cA s n0 (newC σ) H' locs := by
  refine ⟨?_, ⟨?_, fun q h1 h2 => ?_, hR.2.1.2.2⟩, ?_, ?_, hn⟩
  · rw [wld_new hn]
    refine (hR.1.kept fun k q hk => ho q.1 ?_).app ?_
    · have := va_at.lt (hR.1 k q hk)
      omega
    · intro k q hk
      have hz : k < 1 := (List.getElem?_eq_some_iff.mp hk).1
      rw [show k = 0 by omega] at hk
      cases hk
      exact hnew
  · have := hR.2.1.1
    omega
  · have h3 := hR.2.1.1
    rw [ho q (by omega)]
    exact hR.2.1.2.1 q h1 h2
  · have e1 : (newC σ).1 0 = σ.1 0 := zr2_ne (fun q => (lay1 hn).2.1 q.symm)
    rw [e1]
    exact hR.2.2.1
  · show n0 ≤ σ.2.2.2.1 + 1
    have := hR.2.2.2.1
    omega
theorem slN_le : ∀ {a b : Nat}, a ≤ b → slN a ≤ slN b := by
  intro a b h
  induction h with
  | refl => exact Nat.le_refl _
  | step _ ih => exact Nat.le_trans ih (Nat.le_add_right _ _)
theorem room_new {σ : Mm} (hn0 : n0 ≤ σ.2.2.2.1) (hc : σ.2.2.2.1 + 1 - n0 ≤ R.cells) (hsl : slN (σ.2.2.2.1 + 1) - slN n0 ≤ R.slots) : σ.2.2.2.1 - n0 + 1 ≤ R.cells ∧ slN σ.2.2.2.1 - slN n0 + szSh (SH (ADR σ.2.2.2.1)) ≤ R.slots := by
  have h1 := slN_le hn0
  have h2 : slN (σ.2.2.2.1 + 1) = slN σ.2.2.2.1 + szSh (SH (ADR σ.2.2.2.1)) := rfl
  omega
theorem WW_new {pc' : Nat} {L st : List Value} {σ : Mm} (k : WW p l e R s m args below meth c Q B b n0 y dC dI cA pc' L (.ref (ADR σ.2.2.2.1) :: st) (newC σ)) {H : Heap} {locs : List Loc} {ls : Array Slot} (hn : σ.2.2.2.1 < NT) (hn0 : n0 ≤ σ.2.2.2.1) (hR : Rl B b dC dI cA s n0 (newC σ) H locs) (hl : lvL B b ls (mMx y) L) : W p l e R s m args below meth c H locs (σ.2.2.2.1 - n0 + 1) (slN σ.2.2.2.1 - slN n0 + szSh (SH (ADR σ.2.2.2.1))) Q (F0 m pc' ls (.ref (B + σ.2.2.2.1) :: st.map (rl B b))) := by
  have h := k H locs ls hR hl
  have e1 : (newC σ).2.2.2.1 - n0 = σ.2.2.2.1 - n0 + 1 := by
    show σ.2.2.2.1 + 1 - n0 = _
    omega
  have e2 : slN (newC σ).2.2.2.1 - slN n0 = slN σ.2.2.2.1 - slN n0 + szSh (SH (ADR σ.2.2.2.1)) := by
    show slN σ.2.2.2.1 + szSh (SH (ADR σ.2.2.2.1)) - slN n0 = _
    have := slN_le hn0
    omega
  rw [e1, e2] at h
  have e3 : rl B b (.ref (ADR σ.2.2.2.1)) = .ref (B + σ.2.2.2.1) := by
    show Value.ref (ra B b (ADR σ.2.2.2.1)) = _
    rw [ra_ne (lay1 hn).2.1, (lay1 hn).1]
  rw [List.map_cons, e3] at h
  exact h
theorem ww_new {pc idx : Nat} {L st : List Value} {σ : Mm} {q : Nx} (C : Cx p R s m args meth c y B b n0 dC dI cA) (hd : decode (mCode y) pc = .ok (.new idx, 3)) (hs : sNew y idx (pc + 3) L st σ = some q) (hrm : q.2.2.2.2.2.2.1 - n0 ≤ R.cells ∧ slN q.2.2.2.2.2.2.1 - slN n0 ≤ R.slots)
    (k : WW p l e R s m args below meth c Q B b n0 y dC dI cA q.1 q.2.1 q.2.2.1 q.2.2.2) : WW p l e R s m args below meth c Q B b n0 y dC dI cA pc L st σ := by
  intro H locs ls hR hl
  refine W_sz C hR fun hz => ?_
  obtain ⟨hx, hb, hml, hown, hts, hK, hr, hlk, hin, hsz, hbB⟩ := C
  unfold sNew at hs
  split at hs
  · rename_i c1 hc1
    split at hs
    · rename_i hc
      cases hs
      obtain ⟨hn, hSH⟩ := hc
      obtain ⟨f1, f2, f3, f4⟩ := clk_ok hc1
      have hrm2 := room_new (R := R) hR.2.2.2.1 hrm.1 hrm.2
      have hsz2 : szSh (SH (ADR σ.2.2.2.1)) = nf c1 := by rw [hSH]; rfl
      rw [hsz2] at hrm2
      refine W.newcK hx hb hown (hts _ f2) (hts _ f3) (hts _ f4) rfl hd hrm2.1 hrm2.2 (hK.1.1 c1 _ (clsV_at f1)).2.1 hz fun H1 kC hkC e1 z1 o1 => ?_
      have h := WW_new k (H := H1) (locs := locs) (ls := ls) hn hR.2.2.2.1 (Rl_new hR hn hz o1 z1 ?_) hl
      · rw [hsz2] at h
        exact h
      · have he : ent B b cA (newC σ) (ADR σ.2.2.2.1) = .inr (c1, (List.range (nf c1)).map fun k => rl B b (gV (newC σ) (ADR σ.2.2.2.1) c1 k)) := by unfold ent; rw [hSH]; rfl
        rw [he]
        refine ⟨_, clsV_at f1, (u_born (fTy c1) hts (in_fields f1) (hK.1.1 c1 _ (clsV_at f1)) hkC e1 (ty_fields f1)).to fun j hj => ?_⟩
        have h1 : vp_V ((List.range (nf c1)).map fun k => rl B b (gV (newC σ) (ADR σ.2.2.2.1) c1 k)) j = rl B b (gV (newC σ) (ADR σ.2.2.2.1) c1 j) := by
          unfold vp_V
          rw [List.getD_eq_getElem?_getD, List.getElem?_map, List.getElem?_range hj]
          rfl
        rw [h1]
        have ht := tc_fields f1 hj
        have h9 : ftc c1 j = 0 ∨ ftc c1 j = 1 ∨ ftc c1 j = 2 ∨ ftc c1 j = 3 := by
          have := List.all_eq_true.mp (List.all_eq_true.mp ftc_rng c1 (List.mem_range.mpr f1)) j (List.mem_range.mpr hj)
          have := of_decide_eq_true this
          omega
        unfold gV newC zr2
        simp only [if_true]
        rcases h9 with h9 | h9 | h9 | h9 <;> rw [h9] at ht <;> split at ht <;> first | (rename_i e9; rw [e9, h9]; rfl) | cases ht
    · cases hs
  · cases hs
end STP2
end
section
/-! rows of numbers and of references that are made; locals; numbers; branches; then any step -/
section STP3
variable {p : Program} {l : Launch} {e : Env} {R : Room} {s : State} {m : MethodId} {args : Array Value} {below : List Frame} {meth : Method} {c : Code} {Q : State → Prop}
variable {B b n0 y : Nat} {dC : Nat → ClassId} {dI : Nat → Nat → Nat} {cA : Nat → ClassId}
theorem ww_nrI {pc : Nat} {L st : List Value} {σ : Mm} {q : Nx} (C : Cx p R s m args meth c y B b n0 dC dI cA) (hd : decode (mCode y) pc = .ok (.newarray .int, 2)) (hs : sNra 2 (pc + 2) L st σ = some q) (hrm : q.2.2.2.2.2.2.1 - n0 ≤ R.cells ∧ slN q.2.2.2.2.2.2.1 - slN n0 ≤ R.slots)
    (k : WW p l e R s m args below meth c Q B b n0 y dC dI cA q.1 q.2.1 q.2.2.1 q.2.2.2) : WW p l e R s m args below meth c Q B b n0 y dC dI cA pc L st σ := by
  intro H locs ls hR hl
  refine W_sz C hR fun hz => ?_
  obtain ⟨hx, hb, hml, hown, hts, hK, hr, hlk, hin, hsz, hbB⟩ := C
  unfold sNra at hs
  split at hs
  · rename_i n r
    split at hs
    · rename_i hc
      cases hs
      obtain ⟨hnn, hn, hSH, hbig⟩ := hc
      have hrm2 := room_new (R := R) hR.2.2.2.1 hrm.1 hrm.2
      have hsz2 : szSh (SH (ADR σ.2.2.2.1)) = n.toNatClampNeg := by rw [hSH]; rfl
      rw [hsz2] at hrm2
      refine va_newaK (atype := .int) hx hb (hts _ arrI_ok.1) rfl hd rfl hnn rfl (by show n.toNatClampNeg * 4 ≤ _; omega) hrm2.1 hrm2.2 hz fun H1 cA' e1 z1 o1 hA hN => ?_
      have hcA : cA' = cA 2 := Option.some.inj (hN.symm.trans (hK.1.2 0 _ rfl).2)
      subst hcA
      have h := WW_new k (H := H1) (locs := locs) (ls := ls) hn hR.2.2.2.1 (Rl_new hR hn hz o1 z1 ?_) hl
      · rw [hsz2] at h
        exact h
      · rw [ent2 (by rw [hSH])]
        show H1[B + σ.2.2.2.1]? = some (vp_cell _ _)
        rw [e1, hSH, vp_cell_i]
        congr 2
        funext t
        show Value.int 0 = .int (zr2 σ.1 (ADR σ.2.2.2.1) 0 (ADR σ.2.2.2.1) t)
        unfold zr2
        rw [if_pos rfl]
    · cases hs
  · cases hs
theorem ww_nrJ {pc : Nat} {L st : List Value} {σ : Mm} {q : Nx} (C : Cx p R s m args meth c y B b n0 dC dI cA) (hd : decode (mCode y) pc = .ok (.newarray .long, 2)) (hs : sNra 3 (pc + 2) L st σ = some q) (hrm : q.2.2.2.2.2.2.1 - n0 ≤ R.cells ∧ slN q.2.2.2.2.2.2.1 - slN n0 ≤ R.slots)
    (k : WW p l e R s m args below meth c Q B b n0 y dC dI cA q.1 q.2.1 q.2.2.1 q.2.2.2) : WW p l e R s m args below meth c Q B b n0 y dC dI cA pc L st σ := by
  intro H locs ls hR hl
  refine W_sz C hR fun hz => ?_
  obtain ⟨hx, hb, hml, hown, hts, hK, hr, hlk, hin, hsz, hbB⟩ := C
  unfold sNra at hs
  split at hs
  · rename_i n r
    split at hs
    · rename_i hc
      cases hs
      obtain ⟨hnn, hn, hSH, hbig⟩ := hc
      have hrm2 := room_new (R := R) hR.2.2.2.1 hrm.1 hrm.2
      have hsz2 : szSh (SH (ADR σ.2.2.2.1)) = n.toNatClampNeg := by rw [hSH]; rfl
      rw [hsz2] at hrm2
      refine va_newaK (atype := .long) hx hb (hts _ arrI_ok.2) rfl hd rfl hnn rfl (by show n.toNatClampNeg * 8 ≤ _; omega) hrm2.1 hrm2.2 hz fun H1 cA' e1 z1 o1 hA hN => ?_
      have hcA : cA' = cA 3 := Option.some.inj (hN.symm.trans (hK.1.2 1 _ rfl).2)
      subst hcA
      have h := WW_new k (H := H1) (locs := locs) (ls := ls) hn hR.2.2.2.1 (Rl_new hR hn hz o1 z1 ?_) hl
      · rw [hsz2] at h
        exact h
      · rw [ent3 (by rw [hSH])]
        show H1[B + σ.2.2.2.1]? = some (vp_cell _ _)
        rw [e1, hSH, vp_cell_l]
        congr 2
        funext t
        show Value.long 0 = .long (zr2 σ.2.1 (ADR σ.2.2.2.1) 0 (ADR σ.2.2.2.1) t)
        unfold zr2
        rw [if_pos rfl]
    · cases hs
  · cases hs
theorem ww_ana {pc idx : Nat} {L st : List Value} {σ : Mm} {q : Nx} (C : Cx p R s m args meth c y B b n0 dC dI cA) (hd : decode (mCode y) pc = .ok (.anewarray idx, 3)) (hs : sAna y idx (pc + 3) L st σ = some q) (hrm : q.2.2.2.2.2.2.1 - n0 ≤ R.cells ∧ slN q.2.2.2.2.2.2.1 - slN n0 ≤ R.slots)
    (k : WW p l e R s m args below meth c Q B b n0 y dC dI cA q.1 q.2.1 q.2.2.1 q.2.2.2) : WW p l e R s m args below meth c Q B b n0 y dC dI cA pc L st σ := by
  intro H locs ls hR hl
  refine W_sz C hR fun hz => ?_
  obtain ⟨hx, hb, hml, hown, hts, hK, hr, hlk, hin, hsz, hbB⟩ := C
  unfold sAna at hs
  split at hs
  · rename_i c1 hc1
    split at hs
    · rename_i h3
      obtain ⟨f1, f2, f3, f4⟩ := clk_ok hc1
      unfold sNra at hs
      split at hs
      · rename_i n r
        split at hs
        · rename_i hc
          cases hs
          obtain ⟨hnn, hn, hSH, hbig⟩ := hc
          have hrm2 := room_new (R := R) hR.2.2.2.1 hrm.1 hrm.2
          have hsz2 : szSh (SH (ADR σ.2.2.2.1)) = n.toNatClampNeg := by
            rw [hSH]
            unfold szSh
            rw [if_neg (by omega)]
          rw [hsz2] at hrm2
          have hty : (tyA cA)[2 + c1]? = some (cA (4 + c1), .object (cName c1)) := by
            have : c1 = 0 ∨ c1 = 1 ∨ c1 = 2 := by omega
            rcases this with rfl | rfl | rfl <;> rfl
          refine W.anew hx hb hown (hts _ f2) (va_AO.use (hK.2.2 c1 h3)) rfl hd rfl hnn (by omega) hrm2.1 hrm2.2 fun cA' kA comp g1 g2 g3 g4 => ?_
          obtain ⟨kA2, comp2, k1, k2, k3, k4⟩ := (hK.1.2 _ _ hty).2
          have hcA : cA' = cA (4 + c1) := Option.some.inj (g1.symm.trans k4)
          subst hcA
          have hz1 : (H.push ({ cls := cA (4 + c1), slots := Array.replicate n.toNatClampNeg .null, vm := .none } : Cell)).size = B + σ.2.2.2.1 + 1 := by rw [Array.size_push, hz]
          have e1 : (H.push ({ cls := cA (4 + c1), slots := Array.replicate n.toNatClampNeg .null, vm := .none } : Cell))[B + σ.2.2.2.1]? = some (arrV (cA (4 + c1)) n.toNatClampNeg (fun _ => .null)) := by rw [← hz, Array.getElem?_push_size, ← arrV_new]
          have o1 : ∀ q : Nat, q < B + σ.2.2.2.1 → (H.push ({ cls := cA (4 + c1), slots := Array.replicate n.toNatClampNeg .null, vm := .none } : Cell))[q]? = H[q]? := fun q hq => by rw [Array.getElem?_push, if_neg (by omega)]
          have h := WW_new k (H := H.push ({ cls := cA (4 + c1), slots := Array.replicate n.toNatClampNeg .null, vm := .none } : Cell)) (locs := locs) (ls := ls) hn hR.2.2.2.1 (Rl_new hR hn hz o1 hz1 ?_) hl
          · rw [hsz2, ← hz] at h
            exact h
          · rw [ent4 (by rw [hSH]; show 4 ≤ 4 + c1; omega)]
            show _ = some (vp_cell _ _)
            rw [e1, hSH, vp_cell_q]
            congr 2
            funext t
            show Value.null = va_rf ((zr2 σ.2.2.1 (ADR σ.2.2.2.1) none (ADR σ.2.2.2.1) t).map (ra B b))
            unfold zr2
            rw [if_pos rfl]
            rfl
        · cases hs
      · cases hs
    · cases hs
  · cases hs
/-! locals -/
theorem ldI_spec {L : List Value} {x : Nat} {v : Int32} (h : ldI L x = some v) : L[x]? = some (.int v) := by
  unfold ldI at h
  split at h
  · rename_i h1
    cases h
    exact h1
  · cases h
theorem ldJ_spec {L : List Value} {x : Nat} {v : Int64} (h : ldJ L x = some v) : L[x]? = some (.long v) := by
  unfold ldJ at h
  split at h
  · rename_i h1
    cases h
    exact h1
  · cases h
theorem ldA_spec {L : List Value} {x : Nat} {v : Nat} (h : ldA L x = some v) : L[x]? = some (.ref v) := by
  unfold ldA at h
  split at h
  · rename_i h1
    cases h
    exact h1
  · cases h
theorem lv_iinc' {H : Heap} {locs : List Loc} {cells slots : Nat} {cc : ByteArray} {pc : Nat} {ls : Array Slot} {rest : List Value} (hexec : p.tables.exec = Jvm.exec) (hb : c.code = cc) {i nL len : Nat} {n : Int} {x : Int32} {lv : List (Nat × Value)} (hdg : decode cc pc = .ok (.iinc i n, len)) (h : lv_has ls nL lv) (hg : ls[i]? = some (.val (.int x))) (hn : i < nL)
    (kk : ∀ ls' : Array Slot, lv_has ls' nL ((i, Value.int (x + Int32.ofInt n)) :: lv.filter (fun q => !(q.1 == i) && !(q.1 + 1 == i && q.2.category == 2))) → W p l e R s m args below meth c H locs cells slots Q (F0 m (pc + len) ls' rest)) : W p l e R s m args below meth c H locs cells slots Q (F0 m pc ls rest) := by
  obtain ⟨ls', e', h'⟩ := lv_store1 (v := .int (x + Int32.ofInt n)) h hn rfl
  intro T hT X
  obtain ⟨t, a, b⟩ := kk ls' h' T hT X
  refine ⟨t, ?_, b⟩
  jvm_step X.here [X.here.top, ↓top_set X.here.top, hexec, hb, hdg, hg, e']
  exact a
/-! any step -/
theorem tgt_spec {pc t : Nat} {off : Int} (h : tgt pc off = some t) : (pc : Int) + off = (t : Int) := by
  unfold tgt at h
  split at h
  · cases h
    omega
  · cases h
theorem jmp_spec {pc : Nat} {off : Int} {L st : List Value} {σ : Mm} {q : Nx} (h : jmp pc off L st σ = some q) : ∃ t : Nat, (pc : Int) + off = (t : Int) ∧ q = (t, L, st, σ) := by
  unfold jmp at h
  obtain ⟨t, ht, e1⟩ := Option.map_eq_some_iff.mp h
  exact ⟨t, tgt_spec ht, e1.symm⟩
theorem stO_spec {pc : Nat} {L : List Value} {σ : Mm} {o : Option (List Value)} {q : Nx} (h : stO pc L σ o = some q) : ∃ r, o = some r ∧ q = (pc, L, r, σ) := by
  unfold stO at h
  obtain ⟨t, ht, e1⟩ := Option.map_eq_some_iff.mp h
  exact ⟨t, ht, e1.symm⟩
theorem pI1_spec {f : Int32 → Value} {st r : List Value} (h : pI1 f st = some r) : ∃ x t, st = .int x :: t ∧ r = f x :: t := by
  unfold pI1 at h
  split at h
  · cases h; exact ⟨_, _, rfl, rfl⟩
  · cases h
theorem pI2_spec {f : Int32 → Int32 → Value} {st r : List Value} (h : pI2 f st = some r) : ∃ x y t, st = .int y :: .int x :: t ∧ r = f x y :: t := by
  unfold pI2 at h
  split at h
  · cases h; exact ⟨_, _, _, rfl, rfl⟩
  · cases h
theorem pJ1_spec {f : Int64 → Value} {st r : List Value} (h : pJ1 f st = some r) : ∃ x t, st = .long x :: t ∧ r = f x :: t := by
  unfold pJ1 at h
  split at h
  · cases h; exact ⟨_, _, rfl, rfl⟩
  · cases h
theorem pJ2_spec {f : Int64 → Int64 → Value} {st r : List Value} (h : pJ2 f st = some r) : ∃ x y t, st = .long y :: .long x :: t ∧ r = f x y :: t := by
  unfold pJ2 at h
  split at h
  · cases h; exact ⟨_, _, _, rfl, rfl⟩
  · cases h
theorem pD2_spec {f : Int32 → Int32 → Value} {st r : List Value} (h : pD2 f st = some r) : ∃ x y t, ¬ y = 0 ∧ st = .int y :: .int x :: t ∧ r = f x y :: t := by
  unfold pD2 at h
  split at h
  · split at h
    · cases h
    · rename_i h0
      cases h; exact ⟨_, _, _, h0, rfl, rfl⟩
  · cases h
theorem pE2_spec {f : Int64 → Int64 → Value} {st r : List Value} (h : pE2 f st = some r) : ∃ x y t, ¬ y = 0 ∧ st = .long y :: .long x :: t ∧ r = f x y :: t := by
  unfold pE2 at h
  split at h
  · split at h
    · cases h
    · rename_i h0
      cases h; exact ⟨_, _, _, h0, rfl, rfl⟩
  · cases h
theorem pS2_spec {f : Int64 → Int32 → Value} {st r : List Value} (h : pS2 f st = some r) : ∃ x y t, st = .int y :: .long x :: t ∧ r = f x y :: t := by
  unfold pS2 at h
  split at h
  · cases h; exact ⟨_, _, _, rfl, rfl⟩
  · cases h
end STP3
end
section
/-! any step that is no call and no return -/
section STP4
variable {p : Program} {l : Launch} {e : Env} {R : Room} {s : State} {m : MethodId} {args : Array Value} {below : List Frame} {meth : Method} {c : Code} {Q : State → Prop}
variable {B b n0 y : Nat} {dC : Nat → ClassId} {dI : Nat → Nat → Nat} {cA : Nat → ClassId}
theorem ww_stI {pc x : Nat} {L st : List Value} {σ : Mm} {q : Nx} (pc' : Nat) (hs : sI pc' L st σ x = some q)
    (row : ∀ {H : Heap} {locs : List Loc} {ls : Array Slot} {v : Int32} {r : List Value} {cells slots : Nat}, lv_has ls (mMx y) (prs B b L) → x < mMx y → (∀ ls' : Array Slot, lv_has ls' (mMx y) ((x, Value.int v) :: (prs B b L).filter (fun q => !(q.1 == x) && !(q.1 + 1 == x && q.2.category == 2))) → W p l e R s m args below meth c H locs cells slots Q (F0 m pc' ls' r)) → W p l e R s m args below meth c H locs cells slots Q (F0 m pc ls (.int v :: r)))
    (k : WW p l e R s m args below meth c Q B b n0 y dC dI cA q.1 q.2.1 q.2.2.1 q.2.2.2) : WW p l e R s m args below meth c Q B b n0 y dC dI cA pc L st σ := by
  intro H locs ls hR hl
  unfold sI at hs
  split at hs
  · rename_i v r
    split at hs
    · rename_i hx
      cases hs
      exact row hl.2 (by rw [← hl.1]; exact hx) fun ls' h' => k H locs ls' hR (lvL_st1 hl h')
    · cases hs
  · cases hs
theorem ww_stJ {pc x : Nat} {L st : List Value} {σ : Mm} {q : Nx} (pc' : Nat) (hs : sJ pc' L st σ x = some q)
    (row : ∀ {H : Heap} {locs : List Loc} {ls : Array Slot} {v : Int64} {r : List Value} {cells slots : Nat}, lv_has ls (mMx y) (prs B b L) → x + 1 < mMx y → (∀ ls' : Array Slot, lv_has ls' (mMx y) ((x, Value.long v) :: (prs B b L).filter (fun q => !(q.1 == x) && (!(q.1 == x + 1) && !(q.1 + 1 == x && q.2.category == 2)))) → W p l e R s m args below meth c H locs cells slots Q (F0 m pc' ls' r)) → W p l e R s m args below meth c H locs cells slots Q (F0 m pc ls (.long v :: r)))
    (k : WW p l e R s m args below meth c Q B b n0 y dC dI cA q.1 q.2.1 q.2.2.1 q.2.2.2) : WW p l e R s m args below meth c Q B b n0 y dC dI cA pc L st σ := by
  intro H locs ls hR hl
  unfold sJ at hs
  split at hs
  · rename_i v r
    split at hs
    · rename_i hx
      cases hs
      exact row hl.2 (by rw [← hl.1]; exact hx) fun ls' h' => k H locs ls' hR (lvL_st2 hl h')
    · cases hs
  · cases hs
theorem ww_stA {pc x : Nat} {L st : List Value} {σ : Mm} {q : Nx} (pc' : Nat) (hs : sA pc' L st σ x = some q)
    (row : ∀ {H : Heap} {locs : List Loc} {ls : Array Slot} {v : Nat} {r : List Value} {cells slots : Nat}, lv_has ls (mMx y) (prs B b L) → x < mMx y → (∀ ls' : Array Slot, lv_has ls' (mMx y) ((x, Value.ref v) :: (prs B b L).filter (fun q => !(q.1 == x) && !(q.1 + 1 == x && q.2.category == 2))) → W p l e R s m args below meth c H locs cells slots Q (F0 m pc' ls' r)) → W p l e R s m args below meth c H locs cells slots Q (F0 m pc ls (.ref v :: r)))
    (k : WW p l e R s m args below meth c Q B b n0 y dC dI cA q.1 q.2.1 q.2.2.1 q.2.2.2) : WW p l e R s m args below meth c Q B b n0 y dC dI cA pc L st σ := by
  intro H locs ls hR hl
  unfold sA at hs
  split at hs
  · rename_i v r
    split at hs
    · rename_i hx
      cases hs
      exact row (v := ra B b v) hl.2 (by rw [← hl.1]; exact hx) fun ls' h' => k H locs ls' hR (lvL_st1 (v := .ref v) hl h')
    · cases hs
  · cases hs
theorem ww_bin {pc : Nat} {L st : List Value} {σ : Mm} {q : Nx} {pc' : Nat} {f : Int32 → Int32 → Value} (hs : stO pc' L σ (pI2 f st) = some q)
    (row : ∀ {H : Heap} {locs : List Loc} {ls : Array Slot} {x z : Int32} {r : List Value} {cells slots : Nat}, W p l e R s m args below meth c H locs cells slots Q (F0 m pc' ls (rl B b (f x z) :: r)) → W p l e R s m args below meth c H locs cells slots Q (F0 m pc ls (.int z :: .int x :: r)))
    (k : WW p l e R s m args below meth c Q B b n0 y dC dI cA q.1 q.2.1 q.2.2.1 q.2.2.2) : WW p l e R s m args below meth c Q B b n0 y dC dI cA pc L st σ := by
  intro H locs ls hR hl
  obtain ⟨r, h1, rfl⟩ := stO_spec hs
  obtain ⟨x, z, t, rfl, rfl⟩ := pI2_spec h1
  exact row (k H locs ls hR hl)
theorem ww_binL {pc : Nat} {L st : List Value} {σ : Mm} {q : Nx} {pc' : Nat} {f : Int64 → Int64 → Value} (hs : stO pc' L σ (pJ2 f st) = some q)
    (row : ∀ {H : Heap} {locs : List Loc} {ls : Array Slot} {x z : Int64} {r : List Value} {cells slots : Nat}, W p l e R s m args below meth c H locs cells slots Q (F0 m pc' ls (rl B b (f x z) :: r)) → W p l e R s m args below meth c H locs cells slots Q (F0 m pc ls (.long z :: .long x :: r)))
    (k : WW p l e R s m args below meth c Q B b n0 y dC dI cA q.1 q.2.1 q.2.2.1 q.2.2.2) : WW p l e R s m args below meth c Q B b n0 y dC dI cA pc L st σ := by
  intro H locs ls hR hl
  obtain ⟨r, h1, rfl⟩ := stO_spec hs
  obtain ⟨x, z, t, rfl, rfl⟩ := pJ2_spec h1
  exact row (k H locs ls hR hl)
theorem ww_un {pc : Nat} {L st : List Value} {σ : Mm} {q : Nx} {pc' : Nat} {f : Int32 → Value} (hs : stO pc' L σ (pI1 f st) = some q)
    (row : ∀ {H : Heap} {locs : List Loc} {ls : Array Slot} {x : Int32} {r : List Value} {cells slots : Nat}, W p l e R s m args below meth c H locs cells slots Q (F0 m pc' ls (rl B b (f x) :: r)) → W p l e R s m args below meth c H locs cells slots Q (F0 m pc ls (.int x :: r)))
    (k : WW p l e R s m args below meth c Q B b n0 y dC dI cA q.1 q.2.1 q.2.2.1 q.2.2.2) : WW p l e R s m args below meth c Q B b n0 y dC dI cA pc L st σ := by
  intro H locs ls hR hl
  obtain ⟨r, h1, rfl⟩ := stO_spec hs
  obtain ⟨x, t, rfl, rfl⟩ := pI1_spec h1
  exact row (k H locs ls hR hl)
theorem ww_unL {pc : Nat} {L st : List Value} {σ : Mm} {q : Nx} {pc' : Nat} {f : Int64 → Value} (hs : stO pc' L σ (pJ1 f st) = some q)
    (row : ∀ {H : Heap} {locs : List Loc} {ls : Array Slot} {x : Int64} {r : List Value} {cells slots : Nat}, W p l e R s m args below meth c H locs cells slots Q (F0 m pc' ls (rl B b (f x) :: r)) → W p l e R s m args below meth c H locs cells slots Q (F0 m pc ls (.long x :: r)))
    (k : WW p l e R s m args below meth c Q B b n0 y dC dI cA q.1 q.2.1 q.2.2.1 q.2.2.2) : WW p l e R s m args below meth c Q B b n0 y dC dI cA pc L st σ := by
  intro H locs ls hR hl
  obtain ⟨r, h1, rfl⟩ := stO_spec hs
  obtain ⟨x, t, rfl, rfl⟩ := pJ1_spec h1
  exact row (k H locs ls hR hl)
theorem ww_if {pc : Nat} {cn : ClassFile.Cond} {off : Int} {L st : List Value} {σ : Mm} {q : Nx} (C : Cx p R s m args meth c y B b n0 dC dI cA) (hd : decode (mCode y) pc = .ok (.ifCond cn off, 3)) (hs : sIf cn off pc L st σ = some q)
    (k : WW p l e R s m args below meth c Q B b n0 y dC dI cA q.1 q.2.1 q.2.2.1 q.2.2.2) : WW p l e R s m args below meth c Q B b n0 y dC dI cA pc L st σ := by
  intro H locs ls hR hl
  obtain ⟨hx, hb, -⟩ := C
  unfold sIf at hs
  split at hs
  · rename_i x r
    obtain ⟨t, ht, e1⟩ := Option.map_eq_some_iff.mp hs
    cases e1
    have ht := tgt_spec ht
    have kk := k H locs ls hR hl
    show W p l e R s m args below meth c H locs _ _ Q (F0 m pc ls (.int x :: r.map (rl B b)))
    cases cn <;> simp only [cnd, decide_eq_true_eq] at kk
    · exact lv_if_eq hx hb hd ht (fun h => by rw [if_pos h] at kk; exact kk) (fun h => by rw [if_neg h] at kk; exact kk)
    · exact lv_if_ne hx hb hd ht (fun h => by rw [if_pos h] at kk; exact kk) (fun h => by rw [if_neg (fun q => q h)] at kk; exact kk)
    · exact lv_if_lt hx hb hd ht (fun h => by rw [if_pos h] at kk; exact kk) (fun h => by rw [if_neg h] at kk; exact kk)
    · exact lv_if_ge hx hb hd ht (fun h => by rw [if_pos h] at kk; exact kk) (fun h => by rw [if_neg h] at kk; exact kk)
    · exact lv_if_gt hx hb hd ht (fun h => by rw [if_pos h] at kk; exact kk) (fun h => by rw [if_neg h] at kk; exact kk)
    · exact lv_if_le hx hb hd ht (fun h => by rw [if_pos h] at kk; exact kk) (fun h => by rw [if_neg h] at kk; exact kk)
  · cases hs
theorem ww_ic {pc : Nat} {cn : ClassFile.Cond} {off : Int} {L st : List Value} {σ : Mm} {q : Nx} (C : Cx p R s m args meth c y B b n0 dC dI cA) (hd : decode (mCode y) pc = .ok (.if_icmp cn off, 3)) (hs : sIc cn off pc L st σ = some q)
    (k : WW p l e R s m args below meth c Q B b n0 y dC dI cA q.1 q.2.1 q.2.2.1 q.2.2.2) : WW p l e R s m args below meth c Q B b n0 y dC dI cA pc L st σ := by
  intro H locs ls hR hl
  obtain ⟨hx, hb, -⟩ := C
  unfold sIc at hs
  split at hs
  · rename_i z x r
    obtain ⟨t, ht, e1⟩ := Option.map_eq_some_iff.mp hs
    cases e1
    have ht := tgt_spec ht
    have kk := k H locs ls hR hl
    show W p l e R s m args below meth c H locs _ _ Q (F0 m pc ls (.int z :: .int x :: r.map (rl B b)))
    cases cn <;> simp only [cnd, decide_eq_true_eq] at kk
    · exact lv_icmp_eq hx hb hd ht (fun h => by rw [if_pos h] at kk; exact kk) (fun h => by rw [if_neg h] at kk; exact kk)
    · exact lv_icmp_ne hx hb hd ht (fun h => by rw [if_pos h] at kk; exact kk) (fun h => by rw [if_neg (fun q => q h)] at kk; exact kk)
    · exact lv_icmp_lt hx hb hd ht (fun h => by rw [if_pos h] at kk; exact kk) (fun h => by rw [if_neg h] at kk; exact kk)
    · exact lv_icmp_ge hx hb hd ht (fun h => by rw [if_pos h] at kk; exact kk) (fun h => by rw [if_neg h] at kk; exact kk)
    · exact lv_icmp_gt hx hb hd ht (fun h => by rw [if_pos h] at kk; exact kk) (fun h => by rw [if_neg h] at kk; exact kk)
    · exact lv_icmp_le hx hb hd ht (fun h => by rw [if_pos h] at kk; exact kk) (fun h => by rw [if_neg h] at kk; exact kk)
  · cases hs
theorem ww_stp {pc len : Nat} {i : Instr} {L st : List Value} {σ : Mm} {q : Nx} (C : Cx p R s m args meth c y B b n0 dC dI cA) (hd : decode (mCode y) pc = .ok (i, len)) (hs : stp y i pc len L st σ = some q) (hrm : q.2.2.2.2.2.2.1 - n0 ≤ R.cells ∧ slN q.2.2.2.2.2.2.1 - slN n0 ≤ R.slots)
    (k : WW p l e R s m args below meth c Q B b n0 y dC dI cA q.1 q.2.1 q.2.2.1 q.2.2.2) : WW p l e R s m args below meth c Q B b n0 y dC dI cA pc L st σ := by
  have hx := C.1
  have hb := C.2.1
  have hown := C.2.2.2.1
  have hts := C.2.2.2.2.1
  unfold stp at hs
  split at hs
  rotate_left
  · cases hs
  rename_i hln
  cases i
  case iconst n => have e1 : len = 1 := by simpa [lnO] using hln
                   subst e1; cases hs; intro H locs ls hR hl; exact lv_iconst hx hb hd rfl (k H locs ls hR hl)
  case bipush n => have e1 : len = 2 := by simpa [lnO] using hln
                   subst e1; cases hs; intro H locs ls hR hl; exact lv_bipush hx hb hd rfl (k H locs ls hR hl)
  case sipush n => have e1 : len = 3 := by simpa [lnO] using hln
                   subst e1; cases hs; intro H locs ls hR hl; exact lv_sipush hx hb hd rfl (k H locs ls hR hl)
  case lconst n => have e1 : len = 1 := by simpa [lnO] using hln
                   subst e1; cases hs; intro H locs ls hR hl; exact lv_lconst hx hb hd rfl (k H locs ls hR hl)
  case ldc x => have e1 : len = 2 := by simpa [lnO] using hln
                subst e1; obtain ⟨v, hv, e2⟩ := Option.map_eq_some_iff.mp hs
                cases e2; intro H locs ls hR hl; exact W.ldc hx hb hown (hts _ (kI_ok hv)) rfl hd (k H locs ls hR hl)
  case ldc_w x => have e1 : len = 3 := by simpa [lnO] using hln
                  subst e1; obtain ⟨v, hv, e2⟩ := Option.map_eq_some_iff.mp hs
                  cases e2; intro H locs ls hR hl; exact lv_ldcw hx hb hown (hts _ (kI_ok hv)) hd (k H locs ls hR hl)
  case ldc2_w x => have e1 : len = 3 := by simpa [lnO] using hln
                   subst e1; obtain ⟨v, hv, e2⟩ := Option.map_eq_some_iff.mp hs
                   cases e2; intro H locs ls hR hl; exact W.ldc2 hx hb hown (hts _ (kL_ok hv)) rfl hd (k H locs ls hR hl)
  case iload x => have e1 : len = 2 := by simpa [lnO] using hln
                  subst e1; obtain ⟨v, hv, e2⟩ := Option.map_eq_some_iff.mp hs
                  cases e2; intro H locs ls hR hl; exact lv_iload hx hb hd (hl.get (ldI_spec hv) rfl) (k H locs ls hR hl)
  case iload_n x => have e1 : len = 1 := by simpa [lnO] using hln
                    subst e1; obtain ⟨v, hv, e2⟩ := Option.map_eq_some_iff.mp hs
                    cases e2; intro H locs ls hR hl; exact lv_iload_n hx hb hd rfl (hl.get (ldI_spec hv) rfl) (k H locs ls hR hl)
  case lload x => have e1 : len = 2 := by simpa [lnO] using hln
                  subst e1; obtain ⟨v, hv, e2⟩ := Option.map_eq_some_iff.mp hs
                  cases e2; intro H locs ls hR hl; exact lv_lload hx hb hd (hl.get (ldJ_spec hv) rfl) (k H locs ls hR hl)
  case lload_n x => have e1 : len = 1 := by simpa [lnO] using hln
                    subst e1; obtain ⟨v, hv, e2⟩ := Option.map_eq_some_iff.mp hs
                    cases e2; intro H locs ls hR hl; exact lv_lload_n hx hb hd rfl (hl.get (ldJ_spec hv) rfl) (k H locs ls hR hl)
  case aload x => have e1 : len = 2 := by simpa [lnO] using hln
                  subst e1; obtain ⟨v, hv, e2⟩ := Option.map_eq_some_iff.mp hs
                  cases e2; intro H locs ls hR hl; exact lv_aload hx hb hd (hl.get (ldA_spec hv) rfl) (k H locs ls hR hl)
  case aload_n x => have e1 : len = 1 := by simpa [lnO] using hln
                    subst e1; obtain ⟨v, hv, e2⟩ := Option.map_eq_some_iff.mp hs
                    cases e2; intro H locs ls hR hl; exact lv_aload_n hx hb hd rfl (hl.get (ldA_spec hv) rfl) (k H locs ls hR hl)
  case istore x => have e1 : len = 2 := by simpa [lnO] using hln
                   subst e1; exact ww_stI (pc + 2) hs (fun h1 h2 h3 => lv_istore hx hb hd h1 h2 rfl h3) k
  case istore_n x => have e1 : len = 1 := by simpa [lnO] using hln
                     subst e1; exact ww_stI (pc + 1) hs (fun h1 h2 h3 => lv_istore_n hx hb hd rfl h1 h2 rfl h3) k
  case lstore x => have e1 : len = 2 := by simpa [lnO] using hln
                   subst e1; exact ww_stJ (pc + 2) hs (fun h1 h2 h3 => lv_lstore hx hb hd h1 h2 rfl h3) k
  case lstore_n x => have e1 : len = 1 := by simpa [lnO] using hln
                     subst e1; exact ww_stJ (pc + 1) hs (fun h1 h2 h3 => lv_lstore_n hx hb hd rfl h1 h2 rfl h3) k
  case astore x => have e1 : len = 2 := by simpa [lnO] using hln
                   subst e1; exact ww_stA (pc + 2) hs (fun h1 h2 h3 => lv_astore hx hb hd h1 h2 rfl h3) k
  case astore_n x => have e1 : len = 1 := by simpa [lnO] using hln
                     subst e1; exact ww_stA (pc + 1) hs (fun h1 h2 h3 => lv_astore_n hx hb hd rfl h1 h2 rfl h3) k
  case iinc x kk => change sInc x kk (pc + len) L st σ = some q at hs
                    intro H locs ls hR hl
                    unfold sInc at hs
                    split at hs
                    · rename_i v hv
                      split at hs
                      · rename_i hxl
                        cases hs
                        exact lv_iinc' hx hb hd hl.2 (hl.get (ldI_spec hv) rfl) (by rw [← hl.1]; exact hxl) fun ls' h' => k H locs ls' hR (lvL_st1 (v := .int (v + Int32.ofInt kk)) hl h')
                      · cases hs
                    · cases hs
  case iadd => have e1 : len = 1 := by simpa [lnO] using hln
               subst e1; exact ww_bin hs (fun h => lv_iadd hx hb hd h) k
  case isub => have e1 : len = 1 := by simpa [lnO] using hln
               subst e1; exact ww_bin hs (fun h => lv_isub hx hb hd h) k
  case imul => have e1 : len = 1 := by simpa [lnO] using hln
               subst e1; exact ww_bin hs (fun h => lv_imul hx hb hd h) k
  case iand => have e1 : len = 1 := by simpa [lnO] using hln
               subst e1; exact ww_bin hs (fun h => lv_iand hx hb hd h) k
  case ior => have e1 : len = 1 := by simpa [lnO] using hln
              subst e1; exact ww_bin hs (fun h => lv_ior hx hb hd h) k
  case ixor => have e1 : len = 1 := by simpa [lnO] using hln
               subst e1; exact ww_bin hs (fun h => lv_ixor hx hb hd h) k
  case ishl => have e1 : len = 1 := by simpa [lnO] using hln
               subst e1; exact ww_bin hs (fun h => lv_ishl hx hb hd h) k
  case ishr => have e1 : len = 1 := by simpa [lnO] using hln
               subst e1; exact ww_bin hs (fun h => lv_ishr hx hb hd h) k
  case iushr => have e1 : len = 1 := by simpa [lnO] using hln
                subst e1; exact ww_bin hs (fun h => lv_iushr hx hb hd rfl h) k
  case idiv => have e1 : len = 1 := by simpa [lnO] using hln
               subst e1; intro H locs ls hR hl
               obtain ⟨r, h1, rfl⟩ := stO_spec hs
               obtain ⟨x, z, t, h0, rfl, rfl⟩ := pD2_spec h1
               exact lv_idiv hx hb hd h0 (k H locs ls hR hl)
  case irem => have e1 : len = 1 := by simpa [lnO] using hln
               subst e1; intro H locs ls hR hl
               obtain ⟨r, h1, rfl⟩ := stO_spec hs
               obtain ⟨x, z, t, h0, rfl, rfl⟩ := pD2_spec h1
               exact lv_irem hx hb hd h0 (k H locs ls hR hl)
  case ineg => have e1 : len = 1 := by simpa [lnO] using hln
               subst e1; exact ww_un hs (fun h => lv_ineg hx hb hd h) k
  case i2l => have e1 : len = 1 := by simpa [lnO] using hln
              subst e1; exact ww_un hs (fun h => lv_i2l hx hb hd rfl h) k
  case l2i => have e1 : len = 1 := by simpa [lnO] using hln
              subst e1; exact ww_unL hs (fun h => lv_l2i hx hb hd rfl h) k
  case ladd => have e1 : len = 1 := by simpa [lnO] using hln
               subst e1; exact ww_binL hs (fun h => lv_ladd hx hb hd h) k
  case lsub => have e1 : len = 1 := by simpa [lnO] using hln
               subst e1; exact ww_binL hs (fun h => lv_lsub hx hb hd h) k
  case lmul => have e1 : len = 1 := by simpa [lnO] using hln
               subst e1; exact ww_binL hs (fun h => lv_lmul hx hb hd h) k
  case ldiv => have e1 : len = 1 := by simpa [lnO] using hln
               subst e1; intro H locs ls hR hl
               obtain ⟨r, h1, rfl⟩ := stO_spec hs
               obtain ⟨x, z, t, h0, rfl, rfl⟩ := pE2_spec h1
               exact lv_ldiv hx hb hd h0 (k H locs ls hR hl)
  case lneg => have e1 : len = 1 := by simpa [lnO] using hln
               subst e1; exact ww_unL hs (fun h => lv_lneg hx hb hd h) k
  case lshr => have e1 : len = 1 := by simpa [lnO] using hln
               subst e1; intro H locs ls hR hl
               obtain ⟨r, h1, rfl⟩ := stO_spec hs
               obtain ⟨x, z, t, rfl, rfl⟩ := pS2_spec h1
               exact lv_lshr hx hb hd rfl (k H locs ls hR hl)
  case lcmp => have e1 : len = 1 := by simpa [lnO] using hln
               subst e1; exact ww_binL hs (fun h => W.lcmp hx hb hd h) k
  case dup => have e1 : len = 1 := by simpa [lnO] using hln
              subst e1; intro H locs ls hR hl
              change sDup (pc + 1) L st σ = some q at hs
              unfold sDup at hs
              split at hs
              · split at hs
                · rename_i hc
                  cases hs
                  exact lv_dup hx hb hd (by rw [rl_cat]; exact hc) (k H locs ls hR hl)
                · cases hs
              · cases hs
  case dup2 => have e1 : len = 1 := by simpa [lnO] using hln
               subst e1; intro H locs ls hR hl
               change sDup2 (pc + 1) L st σ = some q at hs
               unfold sDup2 at hs
               split at hs
               · split at hs
                 · rename_i hc
                   cases hs
                   exact lv_dup2_11 hx hb hd (by rw [rl_cat]; exact hc.1) (by rw [rl_cat]; exact hc.2) (k H locs ls hR hl)
                 · cases hs
               · cases hs
  case pop => have e1 : len = 1 := by simpa [lnO] using hln
              subst e1; intro H locs ls hR hl
              change sPop (pc + 1) L st σ = some q at hs
              unfold sPop at hs
              split at hs
              · split at hs
                · rename_i hc
                  cases hs
                  exact lv_pop hx hb hd (by rw [rl_cat]; exact hc) (k H locs ls hR hl)
                · cases hs
              · cases hs
  case getfield x => have e1 : len = 3 := by simpa [lnO] using hln
                     subst e1; exact ww_get (len := 3) C hd hs k
  case putfield x => have e1 : len = 3 := by simpa [lnO] using hln
                     subst e1; exact ww_put C hd hs k
  case iaload => have e1 : len = 1 := by simpa [lnO] using hln
                 subst e1; exact ww_ild C hd hs k
  case iastore => have e1 : len = 1 := by simpa [lnO] using hln
                  subst e1; exact ww_ist C hd hs k
  case laload => have e1 : len = 1 := by simpa [lnO] using hln
                 subst e1; exact ww_jld C hd hs k
  case lastore => have e1 : len = 1 := by simpa [lnO] using hln
                  subst e1; exact ww_jst C hd hs k
  case aaload => have e1 : len = 1 := by simpa [lnO] using hln
                 subst e1; exact ww_ald C hd hs k
  case aastore => have e1 : len = 1 := by simpa [lnO] using hln
                  subst e1; exact ww_ast C hd hs k
  case arraylength => have e1 : len = 1 := by simpa [lnO] using hln
                      subst e1; exact ww_len C hd hs k
  case newarray t => have e1 : len = 2 := by simpa [lnO] using hln
                     subst e1
                     cases t <;> first | (exact ww_nrI C hd hs hrm k) | (exact ww_nrJ C hd hs hrm k) | (cases hs)
  case anewarray x => have e1 : len = 3 := by simpa [lnO] using hln
                      subst e1; exact ww_ana C hd hs hrm k
  case new x => have e1 : len = 3 := by simpa [lnO] using hln
                subst e1; exact ww_new C hd hs hrm k
  case goto off => have e1 : len = 3 := by simpa [lnO] using hln
                   subst e1; intro H locs ls hR hl
                   obtain ⟨t, ht, rfl⟩ := jmp_spec hs
                   exact lv_goto hx hb hd ht (k H locs ls hR hl)
  case ifCond cn off => have e1 : len = 3 := by simpa [lnO] using hln
                        subst e1; exact ww_if C hd hs k
  case if_icmp cn off => have e1 : len = 3 := by simpa [lnO] using hln
                         subst e1; exact ww_ic C hd hs k
  case tableswitch d lo hi offs => intro H locs ls hR hl
                                   change sSw d lo hi offs pc L st σ = some q at hs
                                   unfold sSw at hs
                                   split at hs
                                   · split at hs
                                     · rename_i hc
                                       obtain ⟨t, ht, rfl⟩ := jmp_spec hs
                                       exact lv_tableOut hx hb hd hc ht (k H locs ls hR hl)
                                     · rename_i hc
                                       split at hs
                                       · rename_i off ho
                                         obtain ⟨t, ht, rfl⟩ := jmp_spec hs
                                         exact lv_tableIn hx hb hd (fun q => hc (Or.inl q)) (fun q => hc (Or.inr q)) ho ht (k H locs ls hR hl)
                                       · cases hs
                                   · cases hs
  all_goals cases hs
end STP4
end
section
/-! numbers: what Java's ints and longs are as whole numbers -/
theorem t32 (x : Int32) : -2147483648 ≤ x.toInt ∧ x.toInt ≤ 2147483647 := by
  have h1 := Int32.le_toInt x
  have h2 := Int32.toInt_lt x
  omega
theorem t64 (x : Int64) : -9223372036854775808 ≤ x.toInt ∧ x.toInt ≤ 9223372036854775807 := by
  have h1 := Int64.le_toInt x
  have h2 := Int64.toInt_lt x
  omega
theorem bm32 {z : Int} (h1 : -2147483648 ≤ z) (h2 : z ≤ 2147483647) : z.bmod (2 ^ 32) = z := Int.bmod_eq_of_le (by omega) (by omega)
theorem bm64 {z : Int} (h1 : -9223372036854775808 ≤ z) (h2 : z ≤ 9223372036854775807) : z.bmod (2 ^ 64) = z := Int.bmod_eq_of_le (by omega) (by omega)
theorem add32 {a b : Int32} (h1 : -2147483648 ≤ a.toInt + b.toInt) (h2 : a.toInt + b.toInt ≤ 2147483647) : (a + b).toInt = a.toInt + b.toInt := by
  rw [Int32.toInt_add]; exact bm32 h1 h2
theorem sub32 {a b : Int32} (h1 : -2147483648 ≤ a.toInt - b.toInt) (h2 : a.toInt - b.toInt ≤ 2147483647) : (a - b).toInt = a.toInt - b.toInt := by
  rw [Int32.toInt_sub]; exact bm32 h1 h2
theorem mul32 {a b : Int32} (h1 : -2147483648 ≤ a.toInt * b.toInt) (h2 : a.toInt * b.toInt ≤ 2147483647) : (a * b).toInt = a.toInt * b.toInt := by
  rw [Int32.toInt_mul]; exact bm32 h1 h2
theorem neg32 {a : Int32} (h1 : -2147483647 ≤ a.toInt) : (-a).toInt = -a.toInt := by
  rw [Int32.toInt_neg]; exact bm32 (by have := t32 a; omega) (by omega)
theorem add64 {a b : Int64} (h1 : -9223372036854775808 ≤ a.toInt + b.toInt) (h2 : a.toInt + b.toInt ≤ 9223372036854775807) : (a + b).toInt = a.toInt + b.toInt := by
  rw [Int64.toInt_add]; exact bm64 h1 h2
theorem sub64 {a b : Int64} (h1 : -9223372036854775808 ≤ a.toInt - b.toInt) (h2 : a.toInt - b.toInt ≤ 9223372036854775807) : (a - b).toInt = a.toInt - b.toInt := by
  rw [Int64.toInt_sub]; exact bm64 h1 h2
theorem mul64 {a b : Int64} (h1 : -9223372036854775808 ≤ a.toInt * b.toInt) (h2 : a.toInt * b.toInt ≤ 9223372036854775807) : (a * b).toInt = a.toInt * b.toInt := by
  rw [Int64.toInt_mul]; exact bm64 h1 h2
theorem neg64 {a : Int64} (h1 : -9223372036854775807 ≤ a.toInt) : (-a).toInt = -a.toInt := by
  rw [Int64.toInt_neg]; exact bm64 (by have := t64 a; omega) (by omega)
theorem tdiv_le {a b : Int} (hb : 0 < b) : -a.natAbs ≤ a.tdiv b ∧ a.tdiv b ≤ a.natAbs := by
  have h := Int.natAbs_tdiv_le_natAbs a b
  omega
theorem tdiv_np {a b : Int} (ha : a ≤ 0) (hb : 0 ≤ b) : a.tdiv b ≤ 0 := by
  have := Int.tdiv_nonneg (a := -a) (b := b) (by omega) hb
  rw [Int.neg_tdiv] at this
  omega
theorem div32 {a b : Int32} (hb : 0 < b.toInt) : (a / b).toInt = a.toInt.tdiv b.toInt := by
  rw [Int32.toInt_div]
  have h1 := t32 a
  have h2 : (a.toInt.tdiv b.toInt).natAbs ≤ a.toInt.natAbs := Int.natAbs_tdiv_le_natAbs _ _
  by_cases h0 : 0 ≤ a.toInt
  · have h3 := Int.tdiv_nonneg h0 (Int.le_of_lt hb)
    exact bm32 (by omega) (by omega)
  · have h3 : a.toInt.tdiv b.toInt ≤ 0 := tdiv_np (by omega) (Int.le_of_lt hb)
    exact bm32 (by omega) (by omega)
theorem div64 {a b : Int64} (hb : 0 < b.toInt) : (a / b).toInt = a.toInt.tdiv b.toInt := by
  rw [Int64.toInt_div]
  have h1 := t64 a
  have h2 : (a.toInt.tdiv b.toInt).natAbs ≤ a.toInt.natAbs := Int.natAbs_tdiv_le_natAbs _ _
  by_cases h0 : 0 ≤ a.toInt
  · have h3 := Int.tdiv_nonneg h0 (Int.le_of_lt hb)
    exact bm64 (by omega) (by omega)
  · have h3 : a.toInt.tdiv b.toInt ≤ 0 := tdiv_np (by omega) (Int.le_of_lt hb)
    exact bm64 (by omega) (by omega)
theorem rem32 {a b : Int32} (hb : 0 < b.toInt) : (a - a / b * b).toInt = a.toInt.tmod b.toInt := by
  have h1 := t32 a
  have e := Int.mul_tdiv_add_tmod a.toInt b.toInt
  have e2 : b.toInt * a.toInt.tdiv b.toInt = a.toInt.tdiv b.toInt * b.toInt := Int.mul_comm _ _
  rw [e2] at e
  have hd := div32 (a := a) hb
  by_cases h0 : 0 ≤ a.toInt
  · have h3 := Int.tmod_nonneg b.toInt h0
    have h4 := Int.mul_nonneg (Int.tdiv_nonneg h0 (Int.le_of_lt hb)) (Int.le_of_lt hb)
    have hm : (a / b * b).toInt = a.toInt.tdiv b.toInt * b.toInt := by rw [mul32 (by rw [hd]; omega) (by rw [hd]; omega), hd]
    rw [sub32 (by rw [hm]; omega) (by rw [hm]; omega), hm]
    omega
  · have h3 : a.toInt.tmod b.toInt ≤ 0 := by
      have := Int.tmod_nonneg b.toInt (a := -a.toInt) (by omega)
      rw [Int.neg_tmod] at this
      omega
    have h5 : a.toInt.tdiv b.toInt ≤ 0 := tdiv_np (by omega) (Int.le_of_lt hb)
    have h4 : a.toInt.tdiv b.toInt * b.toInt ≤ 0 := Int.mul_nonpos_of_nonpos_of_nonneg h5 (Int.le_of_lt hb)
    have hm : (a / b * b).toInt = a.toInt.tdiv b.toInt * b.toInt := by rw [mul32 (by rw [hd]; omega) (by rw [hd]; omega), hd]
    rw [sub32 (by rw [hm]; omega) (by rw [hm]; omega), hm]
    omega
theorem xor_sign (a : Int32) : 0 ≤ a ^^^ 360 ↔ 0 ≤ a := by
  rw [Int32.le_iff_toInt_le, Int32.le_iff_toInt_le]
  have h1 : ∀ x : Int32, (0 ≤ x.toInt) ↔ x.toBitVec.msb = false := by
    intro x
    have := BitVec.msb_eq_toInt (x := x.toBitVec)
    rw [this]
    show 0 ≤ x.toBitVec.toInt ↔ _
    simp
  rw [show (0 : Int32).toInt = 0 from rfl, h1, h1, Int32.toBitVec_xor, BitVec.msb_xor]
  rw [show (360 : Int32).toBitVec.msb = false by decide]
  simp
theorem fm_nn {a : Int32} (h : 0 ≤ a ^^^ 360) : ¬ a - a / 360 * 360 < 0 := by
  rw [xor_sign, Int32.le_iff_toInt_le] at h
  rw [Int32.lt_iff_toInt_lt, rem32 (by decide)]
  have := Int.tmod_nonneg (360 : Int) h
  show ¬ a.toInt.tmod 360 < 0
  omega
theorem fm_neg {a : Int32} (h : ¬ 0 ≤ a ^^^ 360) (h2 : ¬ a - a / 360 * 360 = 0) : a - a / 360 * 360 < 0 := by
  rw [xor_sign, Int32.le_iff_toInt_le] at h
  have h4 : (a - a / 360 * 360).toInt = a.toInt.tmod 360 := rem32 (by decide)
  have h5 : ¬ (a - a / 360 * 360).toInt = 0 := fun q => h2 (Int32.toInt_inj.mp q)
  rw [Int32.lt_iff_toInt_lt]
  show (a - a / 360 * 360).toInt < 0
  rw [h4] at h5 ⊢
  have h' : ¬ (0 : Int) ≤ a.toInt := h
  have := Int.tmod_nonneg (360 : Int) (a := -a.toInt) (by omega)
  rw [Int.neg_tmod] at this
  omega
theorem rem_eq (a : Int32) : a % 360 = a - a / 360 * 360 := by
  apply Int32.toInt_inj.mp
  rw [rem32 (by decide), Int32.toInt_mod]
end
section
/-! Math.floorMod(a, 360), walked: its class has rows of its own for some names, not for this one -/
abbrev fmC : ByteArray := prog_16_method_50_code
theorem fm_0 : decode fmC 0 = .ok (.iload_n 0, 1) := by decide +kernel
theorem fm_1 : decode fmC 1 = .ok (.iload_n 1, 1) := by decide +kernel
theorem fm_2 : decode fmC 2 = .ok (.irem, 1) := by decide +kernel
theorem fm_3 : decode fmC 3 = .ok (.istore_n 2, 1) := by decide +kernel
theorem fm_4 : decode fmC 4 = .ok (.iload_n 0, 1) := by decide +kernel
theorem fm_5 : decode fmC 5 = .ok (.iload_n 1, 1) := by decide +kernel
theorem fm_6 : decode fmC 6 = .ok (.ixor, 1) := by decide +kernel
theorem fm_7 : decode fmC 7 = .ok (.ifCond .ge 11, 3) := by decide +kernel
theorem fm_10 : decode fmC 10 = .ok (.iload_n 2, 1) := by decide +kernel
theorem fm_11 : decode fmC 11 = .ok (.ifCond .eq 7, 3) := by decide +kernel
theorem fm_14 : decode fmC 14 = .ok (.iload_n 2, 1) := by decide +kernel
theorem fm_15 : decode fmC 15 = .ok (.iload_n 1, 1) := by decide +kernel
theorem fm_16 : decode fmC 16 = .ok (.iadd, 1) := by decide +kernel
theorem fm_17 : decode fmC 17 = .ok (.ireturn, 1) := by decide +kernel
theorem fm_18 : decode fmC 18 = .ok (.iload_n 2, 1) := by decide +kernel
theorem fm_19 : decode fmC 19 = .ok (.ireturn, 1) := by decide +kernel
def fmX : MethodName := ⟨"java/lang/Math", "floorMod", "(II)I"⟩
theorem fm_row0 : (NativeRow.find? natives fmX.cls fmX.name fmX.desc).isNone = true := by decide +kernel
theorem fm_row (p : Program) : NativeRow.find? p.tables.natives fmX.cls fmX.name fmX.desc = none := by
  cases p <;> exact Option.isNone_iff_eq_none.mp fm_row0
def fmS : Spec where
  pre := .and (.code fmX fmC 3 (some .int)) (.and (.count 2) (.and (.isInt (.arg 0)) (.and (.isInt (.arg 1)) (.eq (.arg 1) (.int 360)))))
  post := .and .returned (.or (.and (.lt (.rem (.arg 0) (.int 360)) (.int 0)) (.eq .result (.add (.rem (.arg 0) (.int 360)) (.int 360)))) (.and (.not (.lt (.rem (.arg 0) (.int 360)) (.int 0))) (.eq .result (.rem (.arg 0) (.int 360)))))
  changes := some []
theorem fm_meets (l : Launch) : MeetsLoose l fmX fmS := by
  refine MeetsLoose.of_body_ov (code := fmC) (maxLocals := 3) (ret := some .int) fm_row ?_ ?_
  · intro args s h
    simp only [fmS, Cond.before_and, Bool.and_eq_true] at h
    exact h.1
  · intro p e s m args below meth c s₁ B
    have hpre := B.pre
    simp only [fmS, Cond.before_and, Bool.and_eq_true] at hpre
    obtain ⟨a, b, rfl⟩ := Cond.two_ints hpre.2.1 hpre.2.2.1 hpre.2.2.2.1
    have hb36 : b = 360 := by
      have h := hpre.2.2.2.2
      simpa [Cond.before, Cond.holds, Cond.value, Term.eval] using h
    subst hb36
    have hloc : argsToLocals #[.int a, .int 360] 3 = #[.val (.int a), .val (.int 360), .unset] := rfl
    have fin : ∀ r : Int32, (∀ fs, Steps p.tables e below (s₁.setTop (entryFrame m #[.int a, .int 360] 3)) (s₁.setFrames fs) ∨ handOver s₁ (some (.int r)) below ≠ some fs) →
        (fmS.post.after #[.int a, .int 360] s (.returned (some (.int r))) = fun _ => true) →
        ∃ s₂ o, Steps p.tables e below (s₁.setTop (entryFrame m #[.int a, .int 360] 3)) s₂ ∧ s₂.status = .running ∧ Ended s₂ below o ∧
          fmS.ensures #[.int a, .int 360] s o s₂ := by
      intro r hwalk hpost
      obtain ⟨fs, hfs⟩ := handOver_isSome (s := s₁) (some (.int r)) B.hears₁
      refine ⟨s₁.setFrames fs, .returned (some (.int r)), (hwalk fs).resolve_right (fun h => h hfs), B.here.running, B.ended hfs (by intro h; cases h), ?_, State.sameBut_nil.mpr ?_⟩
      · rw [hpost]
      · rw [State.frames_setFrames _ B.cur₁, B.back]
    have hst : ∀ r : Int32, storeLocals #[.val (.int a), .val (.int 360), .unset] 2 (.int r) = some #[.val (.int a), .val (.int 360), .val (.int r)] := fun r => by simp [storeLocals, storeSelf, setAt, Value.category]
    have hrem : a % 360 = a - a / 360 * 360 := rem_eq a
    by_cases h1 : 0 ≤ a ^^^ 360
    · refine fin (a - a / 360 * 360) (fun fs => ?_) (by funext s'; simp [fmS, Cond.after, Cond.holds, Cond.value, Term.eval, hrem, fm_nn h1])
      by_cases hfs : handOver s₁ (some (.int (a - a / 360 * 360))) below = some fs
      · left
        unfold entryFrame; rw [hloc]
        refine Steps.instrAtOv (c := _) (by simpa using B.here) ?_
        simp [jvm, wpRun, exec, B.here.top, B.exec, B.bytes, fm_0]
        refine Steps.instrAtOv (c := _) (by simpa using B.here) ?_
        simp [jvm, wpRun, exec, B.here.top, B.exec, B.bytes, fm_1]
        refine Steps.instrAtOv (c := _) (by simpa using B.here) ?_
        simp [jvm, wpRun, exec, B.here.top, B.exec, B.bytes, fm_2]
        refine Steps.instrAtOv (c := _) (by simpa using B.here) ?_
        simp [jvm, wpRun, exec, B.here.top, B.exec, B.bytes, fm_3, hst]
        refine Steps.instrAtOv (c := _) (by simpa using B.here) ?_
        simp [jvm, wpRun, exec, B.here.top, B.exec, B.bytes, fm_4]
        refine Steps.instrAtOv (c := _) (by simpa using B.here) ?_
        simp [jvm, wpRun, exec, B.here.top, B.exec, B.bytes, fm_5]
        refine Steps.instrAtOv (c := _) (by simpa using B.here) ?_
        simp [jvm, wpRun, exec, B.here.top, B.exec, B.bytes, fm_6]
        refine Steps.instrAtOv (c := _) (by simpa using B.here) ?_
        simp [jvm, wpRun, exec, B.here.top, B.exec, B.bytes, fm_7, ifCond.holds, h1]
        refine Steps.instrAtOv (c := _) (by simpa using B.here) ?_
        simp [jvm, wpRun, exec, B.here.top, B.exec, B.bytes, fm_18]
        refine Steps.instrAtOv (c := _) (by simpa using B.here) ?_
        simp [jvm, wpRun, exec, B.here.top, B.exec, B.bytes, fm_19, B.method₁, B.returns, narrow]
        intro acts
        rw [ret_to B.frames₁ B.method₁ B.notSynchronized rfl rfl hfs]
        exact Steps.refl _
      · exact Or.inr hfs
    · by_cases h2 : a - a / 360 * 360 = 0
      · refine fin (0) (fun fs => ?_) (by funext s'; simp [fmS, Cond.after, Cond.holds, Cond.value, Term.eval, hrem, h2])
        by_cases hfs : handOver s₁ (some (.int (0))) below = some fs
        · left
          unfold entryFrame; rw [hloc]
          refine Steps.instrAtOv (c := _) (by simpa using B.here) ?_
          simp [jvm, wpRun, exec, B.here.top, B.exec, B.bytes, fm_0]
          refine Steps.instrAtOv (c := _) (by simpa using B.here) ?_
          simp [jvm, wpRun, exec, B.here.top, B.exec, B.bytes, fm_1]
          refine Steps.instrAtOv (c := _) (by simpa using B.here) ?_
          simp [jvm, wpRun, exec, B.here.top, B.exec, B.bytes, fm_2]
          refine Steps.instrAtOv (c := _) (by simpa using B.here) ?_
          simp [jvm, wpRun, exec, B.here.top, B.exec, B.bytes, fm_3, hst]
          refine Steps.instrAtOv (c := _) (by simpa using B.here) ?_
          simp [jvm, wpRun, exec, B.here.top, B.exec, B.bytes, fm_4]
          refine Steps.instrAtOv (c := _) (by simpa using B.here) ?_
          simp [jvm, wpRun, exec, B.here.top, B.exec, B.bytes, fm_5]
          refine Steps.instrAtOv (c := _) (by simpa using B.here) ?_
          simp [jvm, wpRun, exec, B.here.top, B.exec, B.bytes, fm_6]
          refine Steps.instrAtOv (c := _) (by simpa using B.here) ?_
          simp [jvm, wpRun, exec, B.here.top, B.exec, B.bytes, fm_7, ifCond.holds, h1]
          refine Steps.instrAtOv (c := _) (by simpa using B.here) ?_
          simp [jvm, wpRun, exec, B.here.top, B.exec, B.bytes, fm_10]
          refine Steps.instrAtOv (c := _) (by simpa using B.here) ?_
          simp [jvm, wpRun, exec, B.here.top, B.exec, B.bytes, fm_11, ifCond.holds, h2]
          refine Steps.instrAtOv (c := _) (by simpa using B.here) ?_
          simp [jvm, wpRun, exec, B.here.top, B.exec, B.bytes, fm_18]
          refine Steps.instrAtOv (c := _) (by simpa using B.here) ?_
          simp [jvm, wpRun, exec, B.here.top, B.exec, B.bytes, fm_19, B.method₁, B.returns, narrow]
          intro acts
          rw [ret_to B.frames₁ B.method₁ B.notSynchronized rfl rfl hfs]
          exact Steps.refl _
        · exact Or.inr hfs
      · refine fin (a - a / 360 * 360 + 360) (fun fs => ?_) (by funext s'; simp [fmS, Cond.after, Cond.holds, Cond.value, Term.eval, hrem, fm_neg h1 h2])
        by_cases hfs : handOver s₁ (some (.int (a - a / 360 * 360 + 360))) below = some fs
        · left
          unfold entryFrame; rw [hloc]
          refine Steps.instrAtOv (c := _) (by simpa using B.here) ?_
          simp [jvm, wpRun, exec, B.here.top, B.exec, B.bytes, fm_0]
          refine Steps.instrAtOv (c := _) (by simpa using B.here) ?_
          simp [jvm, wpRun, exec, B.here.top, B.exec, B.bytes, fm_1]
          refine Steps.instrAtOv (c := _) (by simpa using B.here) ?_
          simp [jvm, wpRun, exec, B.here.top, B.exec, B.bytes, fm_2]
          refine Steps.instrAtOv (c := _) (by simpa using B.here) ?_
          simp [jvm, wpRun, exec, B.here.top, B.exec, B.bytes, fm_3, hst]
          refine Steps.instrAtOv (c := _) (by simpa using B.here) ?_
          simp [jvm, wpRun, exec, B.here.top, B.exec, B.bytes, fm_4]
          refine Steps.instrAtOv (c := _) (by simpa using B.here) ?_
          simp [jvm, wpRun, exec, B.here.top, B.exec, B.bytes, fm_5]
          refine Steps.instrAtOv (c := _) (by simpa using B.here) ?_
          simp [jvm, wpRun, exec, B.here.top, B.exec, B.bytes, fm_6]
          refine Steps.instrAtOv (c := _) (by simpa using B.here) ?_
          simp [jvm, wpRun, exec, B.here.top, B.exec, B.bytes, fm_7, ifCond.holds, h1]
          refine Steps.instrAtOv (c := _) (by simpa using B.here) ?_
          simp [jvm, wpRun, exec, B.here.top, B.exec, B.bytes, fm_10]
          refine Steps.instrAtOv (c := _) (by simpa using B.here) ?_
          simp [jvm, wpRun, exec, B.here.top, B.exec, B.bytes, fm_11, ifCond.holds, h2]
          refine Steps.instrAtOv (c := _) (by simpa using B.here) ?_
          simp [jvm, wpRun, exec, B.here.top, B.exec, B.bytes, fm_14]
          refine Steps.instrAtOv (c := _) (by simpa using B.here) ?_
          simp [jvm, wpRun, exec, B.here.top, B.exec, B.bytes, fm_15]
          refine Steps.instrAtOv (c := _) (by simpa using B.here) ?_
          simp [jvm, wpRun, exec, B.here.top, B.exec, B.bytes, fm_16]
          refine Steps.instrAtOv (c := _) (by simpa using B.here) ?_
          simp [jvm, wpRun, exec, B.here.top, B.exec, B.bytes, fm_17, B.method₁, B.returns, narrow]
          intro acts
          rw [ret_to B.frames₁ B.method₁ B.notSynchronized rfl rfl hfs]
          exact Steps.refl _
        · exact Or.inr hfs
end
section
/-! what a run never does to the memory; Math's rows; the entry of a method -/
def Inv0 (σ σ' : Mm) : Prop := σ.2.2.2.1 ≤ σ'.2.2.2.1 ∧ σ'.1 0 = σ.1 0 ∧ σ'.2.2.2.2 = σ.2.2.2.2 ∧ (σ.2.2.2.1 ≤ NT → σ'.2.2.2.1 ≤ NT)
theorem Inv0.rf (σ : Mm) : Inv0 σ σ := ⟨Nat.le_refl _, rfl, rfl, id⟩
theorem Inv0.tr {σ σ' σ'' : Mm} (h : Inv0 σ σ') (h' : Inv0 σ' σ'') : Inv0 σ σ'' := ⟨Nat.le_trans h.1 h'.1, h'.2.1.trans h.2.1, h'.2.2.1.trans h.2.2.1, fun q => h'.2.2.2 (h.2.2.2 q)⟩
theorem Inv0.I {σ : Mm} {a k : Nat} {v : Int32} (h : a ≠ 0) : Inv0 σ (setI σ a k v) := ⟨Nat.le_refl _, X_up h, rfl, id⟩
theorem Inv0.J {σ : Mm} {a k : Nat} {v : Int64} : Inv0 σ (setJ σ a k v) := ⟨Nat.le_refl _, rfl, rfl, id⟩
theorem Inv0.R {σ : Mm} {a k : Nat} {v : Option Nat} : Inv0 σ (setR σ a k v) := ⟨Nat.le_refl _, rfl, rfl, id⟩
theorem Inv0.N {σ : Mm} (h : σ.2.2.2.1 < NT) : Inv0 σ (newC σ) := ⟨Nat.le_succ _, zr2_ne (fun q => (lay1 h).2.1 q.symm), rfl, fun _ => h⟩
theorem Inv0.V {σ σ' : Mm} {a c k : Nat} {v : Value} (h0 : a ≠ 0) (h : sV σ a c k v = some σ') : Inv0 σ σ' := by
  unfold sV at h
  split at h
  · split at h
    · cases h; exact Inv0.I h0
    · split at h
      · cases h; exact Inv0.I h0
      · cases h
  · split at h
    · cases h; exact Inv0.J
    · cases h
  · split at h
    · cases h; exact Inv0.R
    · cases h
  · cases h
theorem inv_stO {pc : Nat} {L : List Value} {σ : Mm} {o : Option (List Value)} {q : Nx} (h : stO pc L σ o = some q) : Inv0 σ q.2.2.2 := by
  obtain ⟨r, -, rfl⟩ := stO_spec h
  exact Inv0.rf σ
theorem inv_map {α : Type} {pc : Nat} {L : List Value} {st : α → List Value} {σ : Mm} {o : Option α} {q : Nx} (h : (o.map fun v => (pc, L, st v, σ)) = some q) : Inv0 σ q.2.2.2 := by
  obtain ⟨r, -, rfl⟩ := Option.map_eq_some_iff.mp h
  exact Inv0.rf σ
theorem inv_nra {k pc : Nat} {L st : List Value} {σ : Mm} {q : Nx} (h : sNra k pc L st σ = some q) : Inv0 σ q.2.2.2 := by
  unfold sNra at h
  split at h
  · split at h
    · rename_i hc
      cases h; exact Inv0.N hc.2.1
    · cases h
  · cases h
theorem inv_jmp {pc : Nat} {off : Int} {L st : List Value} {σ : Mm} {q : Nx} (h : jmp pc off L st σ = some q) : Inv0 σ q.2.2.2 := by
  obtain ⟨t, -, rfl⟩ := jmp_spec h
  exact Inv0.rf σ
theorem inv_stp {y pc len : Nat} {i : Instr} {L st : List Value} {σ : Mm} {q : Nx} (hs : stp y i pc len L st σ = some q) : Inv0 σ q.2.2.2 := by
  unfold stp at hs
  split at hs
  rotate_left
  · cases hs
  rename_i hln
  cases i
  case ldc => exact inv_map hs
  case ldc_w => exact inv_map hs
  case ldc2_w => exact inv_map hs
  case iload => exact inv_map hs
  case iload_n => exact inv_map hs
  case lload => exact inv_map hs
  case lload_n => exact inv_map hs
  case aload => exact inv_map hs
  case aload_n => exact inv_map hs
  case getfield x =>
    change sGet y x (pc + len) L st σ = some q at hs
    unfold sGet at hs
    repeat' split at hs
    all_goals first | (cases hs; exact Inv0.rf σ) | cases hs
  case putfield x =>
    change sPut y x (pc + len) L st σ = some q at hs
    unfold sPut at hs
    split at hs
    · split at hs
      · split at hs
        · rename_i hc
          obtain ⟨s', h1, rfl⟩ := Option.map_eq_some_iff.mp hs
          exact Inv0.V (obj0 hc.1) h1
        · cases hs
      · cases hs
    · cases hs
  case iastore =>
    change sIst (pc + len) L st σ = some q at hs
    unfold sIst at hs
    split at hs
    · split at hs
      · rename_i hc
        cases hs; exact Inv0.I hc.2.1
      · cases hs
    · cases hs
  case lastore =>
    change sJst (pc + len) L st σ = some q at hs
    unfold sJst at hs
    repeat' split at hs
    all_goals first | (cases hs; exact Inv0.J) | cases hs
  case aastore =>
    change sAst (pc + len) L st σ = some q at hs
    unfold sAst at hs
    repeat' split at hs
    all_goals first | (cases hs; exact Inv0.R) | cases hs
  case newarray t => cases t <;> first | exact inv_nra hs | cases hs
  case anewarray x =>
    change sAna y x (pc + len) L st σ = some q at hs
    unfold sAna at hs
    repeat' split at hs
    all_goals first | exact inv_nra hs | cases hs
  case new x =>
    change sNew y x (pc + len) L st σ = some q at hs
    unfold sNew at hs
    split at hs
    · split at hs
      · rename_i hc
        cases hs; exact Inv0.N hc.1
      · cases hs
    · cases hs
  case goto off => exact inv_jmp hs
  case tableswitch d lo hi offs =>
    change sSw d lo hi offs pc L st σ = some q at hs
    unfold sSw at hs
    repeat' split at hs
    all_goals first | exact inv_jmp hs | cases hs
  case ifCond cn off =>
    change sIf cn off pc L st σ = some q at hs
    unfold sIf at hs
    split at hs
    · obtain ⟨r, -, rfl⟩ := Option.map_eq_some_iff.mp hs
      exact Inv0.rf σ
    · cases hs
  case if_icmp cn off =>
    change sIc cn off pc L st σ = some q at hs
    unfold sIc at hs
    split at hs
    · obtain ⟨r, -, rfl⟩ := Option.map_eq_some_iff.mp hs
      exact Inv0.rf σ
    · cases hs
  all_goals first
    | (exact inv_stO hs)
    | (simp only [sI, sJ, sA, sInc, sDup, sDup2, sPop, sIld, sJld, sAld, sLen] at hs; (repeat' split at hs) <;> first | (cases hs; exact Inv0.rf σ) | cases hs)
theorem inv_run : ∀ (n d y pc : Nat) (L st : List Value) (σ : Mm) (x : Option Value × Mm), irun n d y pc L st σ = some x → Inv0 σ x.2 := by
  intro n
  induction n with
  | zero => intro d y pc L st σ x h; simp [irun] at h
  | succ n ih =>
    intro d y pc L st σ x h
    unfold irun at h
    split at h
    · cases h
    · split at h
      · split at h
        · cases h
        · rename_i q hq
          exact (inv_stp hq).tr (ih _ _ _ _ _ _ _ h)
      · split at h
        · obtain ⟨r, -, rfl⟩ := Option.map_eq_some_iff.mp h
          exact Inv0.rf σ
        · split at h
          · split at h
            · cases h
            · split at h
              · exact ih _ _ _ _ _ _ _ h
              · split at h
                · cases h
                · split at h
                  · split at h
                    · cases h
                    · rename_i u hu
                      exact (ih _ _ _ _ _ _ _ hu).tr (ih _ _ _ _ _ _ _ h)
                  · cases h
          · cases h
section MTH
variable {p : Program} {l : Launch} {e : Env} {R : Room} {s : State} {m : MethodId} {args : Array Value} {below : List Frame} {meth : Method} {c : Code} {H : Heap} {locs : List Loc} {cells slots : Nat} {Q : State → Prop}
variable {pc : Nat} {ls : Array Slot} {rest : List Value}
theorem va_mfm {cc : ByteArray} (hexec : p.tables.exec = Jvm.exec) (hb : c.code = cc) (hml : c.maxLocals = ls.size) {own : String} {index : Nat} (hown : s.vm.findClass own = some m.cls) (hlink : (Cond.methodLink own index fmX).before args s = true) (hstat : (Cond.static fmX).before args s = true) (hini : (Cond.initialized "java/lang/Math").before args s = true) (hcode : (Cond.code fmX fmC 3 (some .int)).before args s = true)
    (hframes : 1 ≤ R.frames) (hlocals : (rest.map fun v => v.category).sum + 14 ≤ R.locals) (hc : cells ≤ R.cells) (hs : slots ≤ R.slots) {x : Int32} (hdg : decode cc pc = .ok (.invokestatic index, 3))
    (kk : W p l e R s m args below meth c H locs cells slots Q (F0 m (pc + 3) ls (.int (fmod x) :: rest))) : W p l e R s m args below meth c H locs cells slots Q (F0 m pc ls (.int 360 :: .int x :: rest)) := by
  intro T hT X
  obtain ⟨v, vm', X', ⟨first, t, hpost⟩, hstep⟩ := X.staticByContractV hexec hown hlink hstat hini hcode (by decide) (fm_meets l) rfl rfl rfl rfl
    (fun args' first o s₂ h => by
      cases o with
      | returned r => exact ⟨r, rfl⟩
      | threw y => exact absurd h (by simp [fmS, Cond.after, Cond.holds, Cond.value]))
    (g := F0 m pc ls (.int 360 :: .int x :: rest)) rfl (by rw [hml]) (argsL := [.int x, .int 360]) (rest := rest)
    (fun sig hs => by
      have h : parseMethodDescriptor "(II)I" = some { parameters := [.int, .int], returnType := some .int } := by decide +kernel
      rw [show fmX.desc = "(II)I" from rfl, h] at hs
      rw [← Option.some.inj hs]; rfl)
    rfl (by rw [hb]; exact hdg)
    (fun vm' hW => by
      simp only [fmS, Cond.before_and, Bool.and_eq_true]
      refine ⟨?_, rfl, rfl, rfl, rfl⟩
      have q := hcode
      rw [← Cond.code_setVm hW.alike] at q
      simp only [Cond.before, Cond.holds, Cond.value, State.methodNamed?, State.vm_setVm] at q ⊢
      exact q)
    (by show 0 + 1 ≤ R.frames; omega) (by show 2 * 0 + (rest.map fun v => v.category).sum + (3 + 11) + 0 ≤ R.locals; omega) (by show cells + 0 ≤ R.cells; omega) (by show slots + 0 ≤ R.slots; omega)
  obtain ⟨t2, a1, b1⟩ := kk (T.setVm vm') hT X'
  refine ⟨t2, hstep t2 ?_, b1⟩
  have hv : v = some (.int (fmod x)) := by
    have hrem : x % 360 = x - x / 360 * 360 := rem_eq x
    unfold fmod
    by_cases h1 : x - x / 360 * 360 < 0
    · rw [if_pos h1]
      rcases v with _ | w
      · simp [fmS, Cond.after, Cond.holds, Cond.value, Term.eval, hrem, h1] at hpost
      · cases w <;> simp [fmS, Cond.after, Cond.holds, Cond.value, Term.eval, hrem, h1] at hpost
        rename_i r
        by_cases hr : r = x - x / 360 * 360 + 360
        · rw [hr]
        · simp [hr] at hpost
    · rw [if_neg h1]
      rcases v with _ | w
      · simp [fmS, Cond.after, Cond.holds, Cond.value, Term.eval, hrem, h1] at hpost
      · cases w <;> simp [fmS, Cond.after, Cond.holds, Cond.value, Term.eval, hrem, h1] at hpost
        rename_i r
        by_cases hr : r = x - x / 360 * 360
        · rw [hr]
        · simp [hr] at hpost
  rw [hv]
  exact a1
end MTH
theorem flt_sl (B b : Nat) : ∀ (as : List Value), (flt as).length = (lg_sl (as.map (rl B b))).length ∧ ∀ (i : Nat) (v : Value), (flt as)[i]? = some v → us v = true → (lg_sl (as.map (rl B b)))[i]? = some (.val (rl B b v)) := by
  intro as
  induction as with
  | nil => exact ⟨rfl, fun i v h => by simp [flt] at h⟩
  | cons w t ih =>
    have e1 : flt (w :: t) = (if w.category = 2 then [w, .retAddr 0] else [w]) ++ flt t := by simp [flt]
    have e2 : lg_sl ((w :: t).map (rl B b)) = (if w.category = 2 then [.val (rl B b w), .second] else [.val (rl B b w)]) ++ lg_sl (t.map (rl B b)) := by simp [lg_sl, rl_cat]
    rw [e1, e2]
    by_cases hc : w.category = 2
    · rw [if_pos hc, if_pos hc]
      refine ⟨by simp [ih.1], fun i v h hu => ?_⟩
      match i, h with
      | 0, h => cases h; rfl
      | 1, h => cases h; cases hu
      | i + 2, h => exact ih.2 i v h hu
    · rw [if_neg hc, if_neg hc]
      refine ⟨by simp [ih.1], fun i v h hu => ?_⟩
      match i, h with
      | 0, h => cases h; rfl
      | i + 1, h => exact ih.2 i v h hu
theorem en_lvL {B b z : Nat} {as : List Value} (h : (flt as).length ≤ mMx z) : lvL B b ((lg_sl (as.map (rl B b)) ++ List.replicate (mMx z - (lg_sl (as.map (rl B b))).length) Slot.unset).toArray) (mMx z) (enL z as) := by
  obtain ⟨h1, h2⟩ := flt_sl B b as
  have h3 := lv_entry (as.map (rl B b)) (n := mMx z) (by rw [← h1]; exact h)
  refine ⟨?_, h3.1, h3.2.1, fun q hq => ?_⟩
  · unfold enL
    rw [List.length_append, List.length_replicate]
    omega
  · obtain ⟨v, hv, hu, hr⟩ := prs_mem.mp hq
    unfold enL at hv
    rw [hr]
    by_cases hi : q.1 < (flt as).length
    · rw [List.getElem?_append_left hi] at hv
      have h4 := h2 q.1 v hv hu
      simp only [List.getElem?_toArray]
      rw [List.getElem?_append_left (by omega)]
      exact h4
    · rw [List.getElem?_append_right (by omega), List.getElem?_replicate] at hv
      split at hv
      · cases hv; cases hu
      · cases hv
end
section
/-! ANY RUN of the abstract machine is a run of the machine -/
def rmD (d mc ms : Nat) : Room := { frames := d, cells := mc, slots := ms, locals := 60 * d }
def wsY (y : Nat) : List Jvm.Cond := codeW y :: lw_gd
theorem codeW_gd {y : Nat} (h : y < 309) : codeW y ∈ lw_gd := gdL (cd_ok y h) rfl
theorem gd_in {w : Jvm.Cond} (h : w ∈ lw_gd) : w ∈ lw_gd ∧ ((w.onTables && w.keeps) = true ∨ ∃ ty, w = .arrayClass ty) := ⟨h, good_of_word (List.mem_filter.mp h).2⟩
theorem wsY_in {y : Nat} (h : y < 309) : ∀ w ∈ wsY y, w ∈ lw_gd ∧ ((w.onTables && w.keeps) = true ∨ ∃ ty, w = .arrayClass ty) := by
  intro w hw
  rcases List.mem_cons.mp hw with rfl | hw
  · exact gd_in (codeW_gd h)
  · exact gd_in hw
def PcY (B b : Nat) (dC : Nat → ClassId) (dI : Nat → Nat → Nat) (cA : Nat → ClassId) (as : List Value) (σ : Mm) : Array Value → State → Prop := fun v U =>
  v = (as.map (rl B b)).toArray ∧ U.heap.size = B + σ.2.2.2.1 ∧ va_P (dC, dI) clsV (wld B b cA σ) U.heap ∧ va_X b σ.2.2.2.2 (σ.1 0) U U.heap ∧ KX dC dI cA U
def QcY (B b : Nat) (dC : Nat → ClassId) (dI : Nat → Nat → Nat) (cA : Nat → ClassId) (r : Option Value) (σ' : Mm) : Array Value → State → Outcome → State → Prop := fun _ st o t =>
  o = .returned (r.map (rl B b)) ∧ va_P (dC, dI) clsV (wld B b cA σ') t.heap ∧ va_F (AA B) st t
theorem PcY_blind {B b : Nat} {dC : Nat → ClassId} {dI : Nat → Nat → Nat} {cA : Nat → ClassId} {as : List Value} {σ : Mm} : FrameBlind (PcY B b dC dI cA as σ) := by
  intro a U g mk h
  obtain ⟨h1, h2, h3, h4, h5⟩ := h
  exact ⟨h1, h2, h3, va_X.moved (Vm.Alike.refl U.vm) h4, KX.warm (s := U) (U := U.calling g mk a) (State.WarmedH.refl U) h5⟩
def RunP (l : Launch) (n : Nat) : Prop := ∀ (p : Program) (e : Env) (R : Room) (s : State) (m : MethodId) (args : Array Value) (below : List Frame) (meth : Method) (c : Code) (Q : State → Prop) (B b n0 : Nat) (dC : Nat → ClassId) (dI : Nat → Nat → Nat) (cA : Nat → ClassId) (d y pc : Nat) (L st : List Value) (σ : Mm) (r : Option Value) (σ' : Mm),
  irun n d y pc L st σ = some (r, σ') → Cx p R s m args meth c y B b n0 dC dI cA → d ≤ R.frames → 60 * d ≤ R.locals → σ'.2.2.2.1 - n0 ≤ R.cells → slN σ'.2.2.2.1 - slN n0 ≤ R.slots →
  (∀ (pc : Nat) (L st : List Value) (i : Instr) (len : Nat), decode (mCode y) pc = .ok (i, len) → rtV y i len st = some r → WW p l e R s m args below meth c Q B b n0 y dC dI cA pc L st σ') →
  WW p l e R s m args below meth c Q B b n0 y dC dI cA pc L st σ
theorem m1 {y : Nat} (h : y < 309) : (mName y).cls = cName (mOw y) ∧ (mKd y = 1 → Jvm.Cond.static (mName y) ∈ lw_gd) ∧ (mKd y ≠ 1 → Jvm.Cond.instanceMethod (mName y) ∈ lw_gd) ∧ (mKd y = 0 → Jvm.Cond.selects (mName y).cls (mName y) (mName y) ∈ lw_gd) ∧ Jvm.Cond.initialized (mName y).cls ∈ lw_gd := by
  have h1 := chkM1_ok y h
  unfold chkM1 at h1
  simp only [Bool.and_eq_true, decide_eq_true_eq] at h1
  obtain ⟨⟨⟨a1, a2⟩, a3⟩, a4⟩ := h1
  refine ⟨a1, fun q => ?_, fun q => ?_, fun q => ?_, gdL (atW_mem a4) rfl⟩
  · rw [if_pos q] at a2
    exact gdL (atW_mem a2) rfl
  · rw [if_neg q] at a2
    exact gdL (atW_mem a2) rfl
  · rw [if_pos q] at a3
    exact gdL (atW_mem a3) rfl
theorem m2 {y : Nat} (h : y < 309) : ((mName y).cls ≠ "java/lang/invoke/MethodHandle" ∧ (mName y).cls ≠ "java/lang/invoke/VarHandle" ∧ (parseMethodDescriptor (mName y).desc).map (fun d => d.parameters.length) = some (mNp y)) ∧ Jvm.plainName (mName y).cls = true ∧ (mKd y = 2 → (mName y).name = "<init>" ∧ mRt y = none) ∧ mMx y ≤ 40 ∧ mOw y < 16 := by
  have h1 := chkM2_ok y h
  unfold chkM2 at h1
  simp only [Bool.and_eq_true, decide_eq_true_eq] at h1
  obtain ⟨⟨⟨⟨⟨a1, a2⟩, a3⟩, a4⟩, a5⟩, a6⟩ := h1
  exact ⟨a1, a2, a3, a4, a6⟩
section RUNS
variable {p : Program} {l : Launch} {e : Env} {R : Room} {s : State} {m : MethodId} {args : Array Value} {below : List Frame} {meth : Method} {c : Code} {Q : State → Prop}
variable {B b n0 y : Nat} {dC : Nat → ClassId} {dI : Nat → Nat → Nat} {cA : Nat → ClassId}
/-- the end of a method -/
theorem ww_ret {pc len mc ms : Nat} {i : Instr} {L st : List Value} {σ : Mm} {r : Option Value} (C : Cx p R s m args meth c y B b n0 dC dI cA) (hd : decode (mCode y) pc = .ok (i, len)) (hs : rtV y i len st = some r) (hmc : σ.2.2.2.1 - n0 = mc) (hms : slN σ.2.2.2.1 - slN n0 = ms) :
    WW p l e R s m args below meth c (MQ below (QcY B b dC dI cA r σ) args s mc ms (AA B)) B b n0 y dC dI cA pc L st σ := by
  intro H locs ls hR hl
  obtain ⟨hx, hb, hml, hown, hts, hK, hr, hlk, hin, hsz, hbB⟩ := C
  subst hmc; subst hms
  have hq : ∀ t : State, t.heap = H → s.WarmedH t.vm → QcY B b dC dI cA r σ args s (.returned (r.map (rl B b))) t := fun t ht hW => ⟨rfl, by rw [ht]; exact hR.1, hR.2.1.F ht⟩
  unfold rtV at hs
  split at hs
  · rename_i hl1
    subst hl1
    split at hs
    · rename_i v
      split at hs
      · rename_i hc
        cases hs
        rcases hc with hc | ⟨hc, hv⟩
        · exact W.iret hx hb (by rw [hr, hc]) hq hR.2.1.2.2 hd
        · exact W.zret (ty := .boolean) hx hb (by rw [hr, hc]) (by rcases hv with rfl | rfl <;> decide) hq hR.2.1.2.2 hd
      · cases hs
    · split at hs
      · rename_i hc
        cases hs
        exact W.lret hx hb (by rw [hr, hc]) hq hR.2.1.2.2 hd
      · cases hs
    · rename_i a
      split at hs
      · rename_i hc
        cases hs
        cases hm : mRt y with
        | none => rw [hm] at hc; cases hc
        | some t =>
          cases t <;> rw [hm] at hc <;> first | cases hc | skip
          rename_i nm
          exact W.aret (rt := .object nm) hx hb (by rw [hr, hm]) (Or.inl ⟨_, rfl⟩) (Or.inr ⟨_, rfl⟩) hq hR.2.1.2.2 hd
      · cases hs
    · split at hs
      · rename_i hc
        cases hs
        exact W.vret hx hb (by rw [hr, hc]) hq hR.2.1.2.2 hd
      · cases hs
    · cases hs
  · cases hs
theorem met_of_run {n d z : Nat} {as : List Value} {σ σ' : Mm} {r : Option Value} (ih : RunP l n) (hz : z < 309) (hf : (flt as).length ≤ mMx z) (h : irun n d z 0 (enL z as) [] σ = some (r, σ')) (hN : σ.2.2.2.1 ≤ NT) (hbB : b < B) :
    Met l (mName z) (wsY z) (rmD d (σ'.2.2.2.1 - σ.2.2.2.1) (slN σ'.2.2.2.1 - slN σ.2.2.2.1)) (PcY B b dC dI cA as σ) (QcY B b dC dI cA r σ') (σ'.2.2.2.1 - σ.2.2.2.1) (slN σ'.2.2.2.1 - slN σ.2.2.2.1) (AA B) := by
  refine Met.ofW (cc := mCode z) (maxL := mMx z) (ret := mRt z) (m2 hz).2.1 rfl ?_
  intro p e s m args below meth c s₁ BB hml hv
  obtain ⟨rfl, hsz, hP, hX, hK⟩ := hv
  have hts := atoms_spec (ws := wsY z) BB.pre
  have hown : s.vm.findClass (cName (mOw z)) = some m.cls := by rw [← (m1 hz).1]; exact findClass_of_methodNamed BB.named
  have hnm : mKd z = 2 → meth.name = "<init>" := fun q => by rw [← ((m2 hz).2.2.1 q).1]; exact (name_of_methodNamed BB.named BB.method).1
  have C : Cx p (rmD d (σ'.2.2.2.1 - σ.2.2.2.1) (slN σ'.2.2.2.1 - slN σ.2.2.2.1)) s m (as.map (rl B b)).toArray meth c z B b σ.2.2.2.1 dC dI cA := ⟨BB.exec, BB.bytes, hml, hown, fun w hw => hts w (List.mem_cons_of_mem _ hw), hK, BB.returns, BB.notSynchronized, hnm, hsz, hbB⟩
  have hW := ih p e (rmD d (σ'.2.2.2.1 - σ.2.2.2.1) (slN σ'.2.2.2.1 - slN σ.2.2.2.1)) s m (as.map (rl B b)).toArray below meth c (MQ below (QcY B b dC dI cA r σ') (as.map (rl B b)).toArray s (σ'.2.2.2.1 - σ.2.2.2.1) (slN σ'.2.2.2.1 - slN σ.2.2.2.1) (AA B)) B b σ.2.2.2.1 dC dI cA d z 0 (enL z as) [] σ r σ' h C (Nat.le_refl _) (Nat.le_refl _) (Nat.le_refl _) (Nat.le_refl _) (fun pc L st i len hd hs => ww_ret C hd hs rfl rfl) s.heap [] _ ⟨hP, va_S.rf, hX, Nat.le_refl _, hN⟩ (en_lvL hf)
  rw [Nat.sub_self, Nat.sub_self] at hW
  rw [lg_entry_eq]
  exact hW
/-- behind a call -/
theorem ww_back {pc z : Nat} {L st rest : List Value} {σ σ' : Mm} {r : Option Value} {H : Heap} {locs : List Loc} {ls : Array Slot} {a : Array Value} (hI : Inv0 σ σ') (hR : Rl B b dC dI cA s n0 σ H locs) (hl : lvL B b ls (mMx y) L)
    (hrun : va_Run p l e R s m args below meth c H locs (σ.2.2.2.1 - n0) (slN σ.2.2.2.1 - slN n0) (σ'.2.2.2.1 - σ.2.2.2.1) (slN σ'.2.2.2.1 - slN σ.2.2.2.1) (F0 m pc ls (st.map (rl B b))) (rest.map (rl B b)) (QcY B b dC dI cA r σ' a) (AA B))
    (k : WW p l e R s m args below meth c Q B b n0 y dC dI cA (pc + 3) L (r.toList ++ rest) σ') : W p l e R s m args below meth c H locs (σ.2.2.2.1 - n0) (slN σ.2.2.2.1 - slN n0) Q (F0 m pc ls (st.map (rl B b))) := by
  intro T hT X
  obtain ⟨v, st₀, t, T', Lc, h0, X', hL, e1, e2, ⟨hv, hP, hF⟩, hgo⟩ := hrun T hT X
  have hv : v = r.map (rl B b) := Outcome.returned.inj hv
  subst hv
  have hn0 := hR.2.2.2.1
  have e3 : σ.2.2.2.1 - n0 + (σ'.2.2.2.1 - σ.2.2.2.1) = σ'.2.2.2.1 - n0 := by have := hI.1; omega
  have e4 : slN σ.2.2.2.1 - slN n0 + (slN σ'.2.2.2.1 - slN σ.2.2.2.1) = slN σ'.2.2.2.1 - slN n0 := by
    have h1 := slN_le hn0
    have h2 := slN_le hI.1
    omega
  rw [e3, e4] at X'
  have hR' : Rl B b dC dI cA s n0 σ' T'.heap (locs ++ Lc) := by
    refine ⟨by rw [e1]; exact hP, ⟨?_, fun q h1 h2 => ?_, fun x hx => ?_⟩, ?_, Nat.le_trans hn0 hI.1, hI.2.2.2 hR.2.2.2.2⟩
    · rw [e1]
      exact Nat.le_trans hR.2.1.1 (by rw [← h0]; exact hF.1)
    · rw [e1, hF.2 q (by rw [h0]; exact Nat.lt_of_lt_of_le h1 hR.2.1.1) h2, h0]
      exact hR.2.1.2.1 q h1 h2
    · rcases List.mem_append.mp hx with hx | hx
      · exact hR.2.1.2.2 x hx
      · exact hL x hx
    · rw [hI.2.1, hI.2.2.1]
      exact hR.2.2.1
  obtain ⟨t2, a1, b1⟩ := k T'.heap (locs ++ Lc) ls hR' hl T' rfl X'
  refine ⟨t2, hgo t2 ?_, b1⟩
  have e5 : (r.toList ++ rest).map (rl B b) = (r.map (rl B b)).toList ++ rest.map (rl B b) := by cases r <;> simp
  rw [e5] at a1
  exact a1
end RUNS
end
section
/-! calls, and the whole run -/
def pFm (st : List Value) : Option (List Value) := match st with
  | .int y :: .int x :: r => if y = 360 then some (.int (fmod x) :: r) else none
  | _ => none
theorem pFm_spec {st r : List Value} (h : pFm st = some r) : ∃ x t, st = .int 360 :: .int x :: t ∧ r = .int (fmod x) :: t := by
  unfold pFm at h
  split at h
  · split at h
    · rename_i h36
      subst h36
      cases h
      exact ⟨_, _, rfl, rfl⟩
    · cases h
  · cases h
section SND
variable {p : Program} {l : Launch} {e : Env} {R : Room} {s : State} {m : MethodId} {args : Array Value} {below : List Frame} {meth : Method} {c : Code} {Q : State → Prop}
variable {B b n0 y : Nat} {dC : Nat → ClassId} {dI : Nat → Nat → Nat} {cA : Nat → ClassId}
theorem ctS_cons (v : Value) (r : List Value) : ctS (v :: r) = v.category + ctS r := by simp [ctS]
theorem ctS_map (r : List Value) : ((r.map (rl B b)).map fun v => v.category).sum = ctS r := by
  unfold ctS
  rw [List.map_map]
  congr 1
  apply List.map_congr_left
  intro v _
  exact rl_cat B b v
theorem prm_ok {own idx q : Nat} (h : prm own idx = some q) : q < 6 ∧ Jvm.Cond.methodLink (cName own) idx (prNm.getD q x) ∈ lw_gd := by
  unfold prm prmE at h
  obtain ⟨q', hq, e⟩ := Option.map_eq_some_iff.mp h
  cases e
  have hm := List.mem_of_find?_eq_some hq
  have hi : q'.1 = idx := by simpa using List.find?_some hq
  have ho : own < 16 := own_lt (by decide +kernel) hm
  have h1 := List.all_eq_true.mp (List.all_eq_true.mp chkP_ok own (List.mem_range.mpr ho)) q' hm
  simp only [Bool.and_eq_true, decide_eq_true_eq] at h1
  rw [hi] at h1
  exact ⟨h1.1, gdL (atW_mem h1.2) rfl⟩
theorem obj_ok {own idx : Nat} {q : Nat × Nat} (h : objE own idx = some q) : Jvm.Cond.methodLink (cName own) idx objectInit ∈ lw_gd := by
  unfold objE at h
  have hm := List.mem_of_find?_eq_some h
  have hi : q.1 = idx := by simpa using List.find?_some h
  have ho : own < 16 := own_lt (by decide +kernel) hm
  have h1 := List.all_eq_true.mp (List.all_eq_true.mp chkO_ok own (List.mem_range.mpr ho)) q hm
  rw [hi] at h1
  exact gdL (atW_mem h1) rfl
theorem cal_ok {own idx z : Nat} (h : cal own idx = some z) : z < 309 ∧ (Jvm.Cond.methodLink (cName own) idx (mName z) ∈ lw_gd ∨ Jvm.Cond.methodLinkNest (cName own) idx (mName z) "PoleSets" ∈ nestL) := by
  unfold cal calE at h
  obtain ⟨q, hq, e⟩ := Option.map_eq_some_iff.mp h
  cases e
  have hm := List.mem_of_find?_eq_some hq
  have hi : q.1 = idx := by simpa using List.find?_some hq
  have ho : own < 16 := own_lt (by decide +kernel) hm
  have h1 := List.all_eq_true.mp (List.all_eq_true.mp chkC_ok own (List.mem_range.mpr ho)) q hm
  simp only [Bool.and_eq_true, decide_eq_true_eq] at h1
  refine ⟨h1.1, ?_⟩
  by_cases h0 : q.2.2.1 = 0
  · rw [if_pos h0, hi] at h1
    exact Or.inl (gdL (atW_mem h1.2) rfl)
  · refine Or.inr (List.mem_flatMap.mpr ⟨own, List.mem_range.mpr ho, List.mem_filterMap.mpr ⟨q, hm, ?_⟩⟩)
    rw [if_neg h0, hi]
theorem ww_spc {pc : Nat} {i : Instr} {L st st' : List Value} {σ : Mm} (C : Cx p R s m args meth c y B b n0 dC dI cA) (hd : decode (mCode y) pc = .ok (i, 3)) (hs : spc y i st = some st') (hfr : 1 ≤ R.frames) (hlo : 60 ≤ R.locals) (hce : σ.2.2.2.1 - n0 ≤ R.cells) (hsl : slN σ.2.2.2.1 - slN n0 ≤ R.slots)
    (k : WW p l e R s m args below meth c Q B b n0 y dC dI cA (pc + 3) L st' σ) : WW p l e R s m args below meth c Q B b n0 y dC dI cA pc L st σ := by
  intro H locs ls hR hl
  have kk := k H locs ls hR hl
  obtain ⟨hx, hb, hml, hown, hts, hK, hr, hlk, hin, hsz, hbB⟩ := C
  have hls : c.maxLocals = ls.size := by rw [hml]; exact hl.2.1.symm
  unfold spc at hs
  split at hs
  · rename_i hct
    split at hs
    · rename_i idx
      split at hs
      · rename_i q hq
        split at hs
        · rename_i a r
          cases hs
          rw [ctS_cons] at hct
          refine W.objInit hx hb hown (hts _ (obj_ok hq)) (hts _ (gdL objI_ok.1 rfl)) (hts _ (gdL objI_ok.2 rfl)) rfl hls.symm rfl hd hfr ?_ kk
          show 2 * 0 + ((st'.map (rl B b)).map fun v => v.category).sum + 12 ≤ R.locals
          rw [ctS_map]
          omega
        · cases hs
      · cases hs
    · rename_i idx
      split at hs
      · rename_i q hq
        obtain ⟨hq6, hlink⟩ := prm_ok hq
        have hini := hts _ (gdL pri_ok rfl)
        have hlink := hts _ hlink
        have hloc : ∀ (n : Nat) (r : List Value), ctS r ≤ 12 → n ≤ 40 → ((r.map (rl B b)).map fun v => v.category).sum + n ≤ R.locals := fun n r h1 h2 => by rw [ctS_map]; omega
        match q, hq6 with
        | 0, _ =>
          obtain ⟨u, v, t, rfl, rfl⟩ := pI2_spec hs
          simp only [ctS_cons, Value.category] at hct
          exact va_mmax hx hb hls hown hlink (hts _ (gdL prs0 rfl)) hini (hts _ (gdL prc0 rfl)) hfr (hloc 13 t (by omega) (by omega)) hce hsl hd kk
        | 1, _ =>
          obtain ⟨u, v, t, rfl, rfl⟩ := pI2_spec hs
          simp only [ctS_cons, Value.category] at hct
          exact va_mmin hx hb hls hown hlink (hts _ (gdL prs1 rfl)) hini (hts _ (gdL prc1 rfl)) hfr (hloc 13 t (by omega) (by omega)) hce hsl hd kk
        | 2, _ =>
          obtain ⟨u, t, rfl, rfl⟩ := pI1_spec hs
          simp only [ctS_cons, Value.category] at hct
          exact va_mabs hx hb hls hown hlink (hts _ (gdL prs2 rfl)) hini (hts _ (gdL prc2 rfl)) hfr (hloc 13 t (by omega) (by omega)) hce hsl hd kk
        | 3, _ =>
          obtain ⟨u, v, t, rfl, rfl⟩ := pJ2_spec hs
          simp only [ctS_cons, Value.category] at hct
          exact va_mmin_long hx hb hls hown hlink (hts _ (gdL prs3 rfl)) hini (hts _ (gdL prc3 rfl)) hfr (hloc 15 t (by omega) (by omega)) hce hsl hd kk
        | 4, _ =>
          obtain ⟨u, t, rfl, rfl⟩ := pJ1_spec hs
          simp only [ctS_cons, Value.category] at hct
          exact va_mabs_long hx hb hls hown hlink (hts _ (gdL prs4 rfl)) hini (hts _ (gdL prc4 rfl)) hfr (hloc 13 t (by omega) (by omega)) hce hsl hd kk
        | 5, _ =>
          obtain ⟨u, t, rfl, rfl⟩ := pFm_spec (show pFm st = some st' from hs)
          simp only [ctS_cons, Value.category] at hct
          exact va_mfm hx hb hls hown hlink (hts _ (gdL prs5 rfl)) hini (hts _ (gdL prc5 rfl)) hfr (hloc 14 t (by omega) (by omega)) hce hsl hd kk
      · cases hs
    · cases hs
  · cases hs
theorem take_drop_len {st : List Value} {k : Nat} (h : k ≤ st.length) : ((st.take k).reverse).length = k := by
  rw [List.length_reverse, List.length_take]
  omega
theorem stk_eq (st : List Value) (k : Nat) : st = ((st.take k).reverse).reverse ++ st.drop k := by
  rw [List.reverse_reverse, List.take_append_drop]
theorem ww_call {n d pc : Nat} {i : Instr} {L st : List Value} {σ σ' : Mm} {r : Option Value} {q : Nat × List Value × List Value} (C : Cx p R s m args meth c y B b n0 dC dI cA) (ih : RunP l n) (hd : decode (mCode y) pc = .ok (i, 3)) (hq : cinv y i st σ = some q) (hf : (flt q.2.1).length ≤ mMx q.1) (h : irun n d q.1 0 (enL q.1 q.2.1) [] σ = some (r, σ'))
    (hfr : d + 1 ≤ R.frames) (hlo : 60 * (d + 1) ≤ R.locals) (hce : σ'.2.2.2.1 - n0 ≤ R.cells) (hsl : slN σ'.2.2.2.1 - slN n0 ≤ R.slots)
    (k : WW p l e R s m args below meth c Q B b n0 y dC dI cA (pc + 3) L (r.toList ++ q.2.2) σ') : WW p l e R s m args below meth c Q B b n0 y dC dI cA pc L st σ := by
  intro H locs ls hR hl
  refine W_sz C hR fun hz => ?_
  have hI : Inv0 σ σ' := inv_run _ _ _ _ _ _ _ _ h
  obtain ⟨hx, hb, hml, hown, hts, hK, hr, hlk, hin, hsz, hbB⟩ := C
  have hls : ls.size = mMx y := hl.2.1
  have hn0 := hR.2.2.2.1
  have hcell : σ.2.2.2.1 - n0 + (σ'.2.2.2.1 - σ.2.2.2.1) ≤ R.cells ∧ slN σ.2.2.2.1 - slN n0 + (slN σ'.2.2.2.1 - slN σ.2.2.2.1) ≤ R.slots := by
    have h1 := slN_le hn0
    have h2 := slN_le hI.1
    have h3 := hI.1
    omega
  have hbel : ∀ U : State, U.heap = H → s.WarmedH U.vm → PcY B b dC dI cA q.2.1 σ (q.2.1.map (rl B b)).toArray U := fun U hU hW =>
    ⟨rfl, by rw [hU]; exact hz, by rw [hU]; exact hR.1, by
      rw [hU]
      refine va_X.moved hW.alike (hR.2.2.1.kept ?_)
      exact hR.2.1.2.1 b (by omega) (fun q => by have : B ≤ b := q; omega), hK.warm hW⟩
  have S : CallFix p m c (mCode y) (mMx y) s args lw_gd (cName (mOw y)) := ⟨hx, hb, hml, hown, hts⟩
  have cb : ∀ {z : Nat} (hz : z < 309), (rmD d (σ'.2.2.2.1 - σ.2.2.2.1) (slN σ'.2.2.2.1 - slN σ.2.2.2.1)).cells = σ'.2.2.2.1 - σ.2.2.2.1 ∧ (rmD d (σ'.2.2.2.1 - σ.2.2.2.1) (slN σ'.2.2.2.1 - slN σ.2.2.2.1)).slots = slN σ'.2.2.2.1 - slN σ.2.2.2.1 ∧ (rmD d (σ'.2.2.2.1 - σ.2.2.2.1) (slN σ'.2.2.2.1 - slN σ.2.2.2.1)).frames + 1 ≤ R.frames ∧ 8 + (mMx z + 11) + (rmD d (σ'.2.2.2.1 - σ.2.2.2.1) (slN σ'.2.2.2.1 - slN σ.2.2.2.1)).locals ≤ R.locals ∧ (∀ w ∈ wsY z, ∀ (a' : Array Value) (U : State), s.WarmedH U.vm → w.before a' U = true) ∧ Cond.code (mName z) (mCode z) (mMx z) (mRt z) ∈ wsY z ∧ (Cond.code (mName z) (mCode z) (mMx z) (mRt z)).before args s = true ∧ (Cond.initialized (mName z).cls).before args s = true ∧ ((mName z).cls ≠ "java/lang/invoke/MethodHandle" ∧ (mName z).cls ≠ "java/lang/invoke/VarHandle") ∧ ∀ sig, parseMethodDescriptor (mName z).desc = some sig → mNp z = sig.parameters.length := by
    intro z hz
    obtain ⟨⟨g1, g2, g3⟩, -, -, g4, -⟩ := m2 hz
    refine ⟨rfl, rfl, hfr, ?_, pay_in hts (wsY_in hz), List.mem_cons_self, hts _ (codeW_gd hz), hts _ (m1 hz).2.2.2.2, ⟨g1, g2⟩, fun sig hsig => ?_⟩
    · show 8 + (mMx z + 11) + 60 * d ≤ R.locals
      omega
    · rw [hsig] at g3
      exact (Option.some.inj g3).symm
  unfold cinv at hq
  split at hq
  · rename_i idx
    split at hq
    · rename_i z hzc
      split at hq
      · rename_i hc
        cases hq
        obtain ⟨hz9, hlink⟩ := cal_ok hzc
        obtain ⟨hkd, hnp, hct⟩ := hc
        have hM := met_of_run (dC := dC) (dI := dI) (cA := cA) ih hz9 hf h hR.2.2.2.2 hbB
        obtain ⟨c1, c2, c3, c4, c5, c6, c7, c8, c9, c10⟩ := cb hz9
        have hstk : st.map (rl B b) = ((((st.take (mNp z)).reverse).map (rl B b))).reverse ++ (st.drop (mNp z)).map (rl B b) := by
          rw [← List.map_reverse, ← List.map_append, ← stk_eq]
        have hct' : 2 * (F0 m pc ls (st.map (rl B b))).monitorRoom + (((st.drop (mNp z)).map (rl B b)).map fun v => v.category).sum ≤ 8 := by
          rw [ctS_map]
          show 2 * 0 + _ ≤ 8
          omega
        rcases hlink with hlink | hlink
        · exact ww_back (z := z) hI hR hl (va_runS (As := ((st.take (mNp z)).reverse).map (rl B b)) S hM ⟨⟨c1, c2, c3, c4, c5, c6, c7, c8, c9, c10, hts _ hlink⟩, hts _ ((m1 hz9).2.1 hkd)⟩ ⟨PcY_blind, fun U hU hW => hbel U hU hW⟩ rfl (by rw [List.length_map]; exact take_drop_len hnp) hls hstk hct' hd hcell) k
        · exact ww_back (z := z) hI hR hl (va_runSN (As := ((st.take (mNp z)).reverse).map (rl B b)) S hM ⟨⟨⟨c1, c2, c3, c4, c5, c6⟩, c7, c8, c9, c10, va_Nw.use rfl (hK.2.1 _ hlink)⟩, hts _ ((m1 hz9).2.1 hkd), trivial⟩ ⟨PcY_blind, fun U hU hW => hbel U hU hW⟩ rfl (by rw [List.length_map]; exact take_drop_len hnp) hls hstk hct' hd hcell) k
      · cases hq
    · cases hq
  · rename_i idx
    split at hq
    · rename_i z hzc
      split at hq
      · rename_i bb rr hdrop
        split at hq
        · rename_i hc
          cases hq
          obtain ⟨hz9, hlink⟩ := cal_ok hzc
          obtain ⟨hkd, hnp, hct, hSH, hpos⟩ := hc
          have hM := met_of_run (dC := dC) (dI := dI) (cA := cA) ih hz9 hf h hR.2.2.2.2 hbB
          obtain ⟨c1, c2, c3, c4, c5, c6, c7, c8, c9, c10⟩ := cb hz9
          have hstk : st.map (rl B b) = ((((st.take (mNp z)).reverse).map (rl B b))).reverse ++ .ref (ra B b bb) :: rr.map (rl B b) := by
            have h1 := stk_eq st (mNp z)
            rw [hdrop] at h1
            conv => lhs; rw [h1]
            rw [List.map_append, List.map_reverse]
            rfl
          have hct' : 2 * (F0 m pc ls (st.map (rl B b))).monitorRoom + ((rr.map (rl B b)).map fun v => v.category).sum ≤ 8 := by
            rw [ctS_map]
            show 2 * 0 + _ ≤ 8
            omega
          have h0 := obj0 hSH
          have hwb := wld_at (B := B) (b := b) (cA := cA) (σ := σ) h0 (by simp [hSH]) hpos
          have heb : ent B b cA σ bb = .inr (mOw z, (List.range (nf (mOw z))).map fun k => rl B b (gV σ bb (mOw z) k)) := by unfold ent; rw [hSH]; rfl
          rw [heb] at hwb
          have hcell2 : ∃ cellB : Cell, H[ra B b bb]? = some cellB ∧ cellB.vm.isStatics = false ∧ s.vm.findClass (mName z).cls = some cellB.cls := by
            obtain ⟨r0, hr0, cellB, g1, g2, g3, -⟩ := hR.1 _ _ hwb
            refine ⟨cellB, by rw [ra_ne h0]; exact g1, by rw [g3]; rfl, ?_⟩
            have h13 : mOw z < 13 := by
              have := (List.getElem?_eq_some_iff.mp hr0).1
              simpa [clsV] using this
            rw [(m1 hz9).1, g2]
            exact (hK.1.1 (mOw z) _ (clsV_at h13)).2.1
          rcases hlink with hlink | hlink
          · exact ww_back (z := z) hI hR hl (va_runV (C := (mName z).cls) (As := ((st.take (mNp z)).reverse).map (rl B b)) S hM ⟨⟨c1, c2, c3, c4, c5, c6, c7, c8, c9, c10, hts _ hlink⟩, hts _ ((m1 hz9).2.2.1 (by omega)), hts _ ((m1 hz9).2.2.2.1 hkd)⟩ ⟨PcY_blind, hcell2, fun U hU hW => hbel U hU hW⟩ rfl (by rw [List.length_map]; exact take_drop_len hnp) hls hstk hct' hd hcell) k
          · exact ww_back (z := z) hI hR hl (va_runVN (C := (mName z).cls) (As := ((st.take (mNp z)).reverse).map (rl B b)) S hM ⟨⟨⟨c1, c2, c3, c4, c5, c6⟩, c7, c8, c9, c10, va_Nw.use rfl (hK.2.1 _ hlink)⟩, hts _ ((m1 hz9).2.2.1 (by omega)), hts _ ((m1 hz9).2.2.2.1 hkd)⟩ ⟨PcY_blind, hcell2, fun U hU hW => hbel U hU hW⟩ rfl (by rw [List.length_map]; exact take_drop_len hnp) hls hstk hct' hd hcell) k
        · cases hq
      · cases hq
    · cases hq
  · rename_i idx
    split at hq
    · rename_i z hzc
      split at hq
      · rename_i bb rr hdrop
        split at hq
        · rename_i hc
          cases hq
          obtain ⟨hz9, hlink⟩ := cal_ok hzc
          obtain ⟨hkd, hnp, hct⟩ := hc
          obtain ⟨hnm, hrt⟩ := (m2 hz9).2.2.1 hkd
          have hM := met_of_run (dC := dC) (dI := dI) (cA := cA) ih hz9 hf h hR.2.2.2.2 hbB
          obtain ⟨c1, c2, c3, c4, c5, c6, c7, c8, c9, c10⟩ := cb hz9
          rw [hrt] at c6 c7
          have hstk : st.map (rl B b) = ((((st.take (mNp z)).reverse).map (rl B b))).reverse ++ .ref (ra B b bb) :: rr.map (rl B b) := by
            have h1 := stk_eq st (mNp z)
            rw [hdrop] at h1
            conv => lhs; rw [h1]
            rw [List.map_append, List.map_reverse]
            rfl
          have hct' : 2 * (F0 m pc ls (st.map (rl B b))).monitorRoom + ((rr.map (rl B b)).map fun v => v.category).sum ≤ 8 := by
            rw [ctS_map]
            show 2 * 0 + _ ≤ 8
            omega
          rcases hlink with hlink | hlink
          · exact ww_back (z := z) hI hR hl (va_runI (As := ((st.take (mNp z)).reverse).map (rl B b)) S hM ⟨⟨c1, c2, c3, c4, c5, c6, c7, c8, c9, c10, hts _ hlink⟩, hnm, hts _ ((m1 hz9).2.2.1 (by omega))⟩ ⟨PcY_blind, fun U hU hW => hbel U hU hW⟩ rfl (by rw [List.length_map]; exact take_drop_len hnp) hls hstk hct' hd hcell) k
          · exact ww_back (z := z) hI hR hl (va_runIN (As := ((st.take (mNp z)).reverse).map (rl B b)) S hM ⟨⟨⟨c1, c2, c3, c4, c5, c6⟩, c7, c8, c9, c10, va_Nw.use rfl (hK.2.1 _ hlink)⟩, hnm, hts _ ((m1 hz9).2.2.1 (by omega))⟩ ⟨PcY_blind, fun U hU hW => hbel U hU hW⟩ rfl (by rw [List.length_map]; exact take_drop_len hnp) hls hstk hct' hd hcell) k
        · cases hq
      · cases hq
    · cases hq
  · cases hq
end SND
theorem run_ok (l : Launch) : ∀ n, RunP l n := by
  intro n
  induction n with
  | zero => intro p e R s m args below meth c Q B b n0 dC dI cA d y pc L st σ r σ' h; simp [irun] at h
  | succ n ih =>
    intro p e R s m args below meth c Q B b n0 dC dI cA d y pc L st σ r σ' h C hfr hlo hce hsl hK
    unfold irun at h
    split at h
    · cases h
    · rename_i i len hd
      split at h
      · split at h
        · cases h
        · rename_i q hq
          have h1 := (inv_run _ _ _ _ _ _ _ _ h).1
          have h2 := slN_le h1
          exact ww_stp C hd hq ⟨by show q.2.2.2.2.2.2.1 - n0 ≤ _; have : q.2.2.2.2.2.2.1 ≤ σ'.2.2.2.1 := h1; omega, by have : slN q.2.2.2.2.2.2.1 ≤ slN σ'.2.2.2.1 := h2; omega⟩ (ih p e R s m args below meth c Q B b n0 dC dI cA d y _ _ _ _ r σ' h C hfr hlo hce hsl hK)
      · split at h
        · obtain ⟨r', hr, e1⟩ := Option.map_eq_some_iff.mp h
          cases e1
          exact hK pc L st i len hd hr
        · split at h
          · rename_i hl3
            subst hl3
            split at h
            · cases h
            · rename_i d'
              split at h
              · rename_i st' hst
                have h1 := (inv_run _ _ _ _ _ _ _ _ h).1
                have h2 := slN_le h1
                exact ww_spc C hd hst (by omega) (by omega) (by have : σ.2.2.2.1 ≤ σ'.2.2.2.1 := h1; omega) (by have : slN σ.2.2.2.1 ≤ slN σ'.2.2.2.1 := h2; omega) (ih p e R s m args below meth c Q B b n0 dC dI cA (d' + 1) y _ _ _ _ r σ' h C hfr hlo hce hsl hK)
              · split at h
                · cases h
                · rename_i q hq
                  split at h
                  · rename_i hf
                    split at h
                    · cases h
                    · rename_i u hu
                      have h1 := (inv_run _ _ _ _ _ _ _ _ h).1
                      have h2 := slN_le h1
                      exact ww_call (r := u.1) (σ' := u.2) C ih hd hq hf hu hfr hlo (by have : u.2.2.2.2.1 ≤ σ'.2.2.2.1 := h1; omega) (by have : slN u.2.2.2.2.1 ≤ slN σ'.2.2.2.1 := h2; omega) (ih p e R s m args below meth c Q B b n0 dC dI cA (d' + 1) y _ _ _ _ r σ' h C hfr hlo hce hsl hK)
                  · cases h
          · cases h
end
section
-- ===== end of PART A; then your names; then what follows =====
/-! THE CLAIM OUT OF ONE WALK OF THE LAW'S BODY. Your part is whole_start (and what it stands on); all else here is the same for every law, but numbers. -/
def R_law : String := "PoleSetsLaw"
def lw_P (b : Addr) (xs : List Int32) (args : Array Value) (s : State) : Prop := args = #[.ref b] ∧ s.IntsAt b xs ∧ xs.length ≤ 3584 ∧ (Jvm.Cond.and given_1 narrow_1).before args s = true
def lw_Q (_ : Array Value) (s : State) (o : Outcome) (t : State) : Prop := o = .returned (some (.int 1)) ∧ Framed s o t [] 600000 7302250
def lw_Z (below : List Frame) (a : Array Value) (s : State) : State → Prop := fun t => ∃ o, t.status = .running ∧ Ended t below o ∧ lw_Q a s o t
/-- the law's own end, with 1 on the stack, nothing written that was there before, its room as the claim has it -/
theorem lw_ret {p : Program} {l : Launch} {e : Env} {s : State} {m : MethodId} {below : List Frame} {meth : Method} {c : Code} {b : Nat} (hx : p.tables.exec = Jvm.exec) (hb : c.code = code) (hr : meth.sig.returnType = ret) (hlocks : meth.locks = false) {pc : Nat} {H : Heap} {ls : Array Slot} (hdg : decode code pc = .ok (.ireturn, 1)) : W p l e room_1 s m #[Value.ref b] below meth c H [] 600000 7302250 (lw_Z below #[Value.ref b] s) (F0 m pc ls [.int 1]) := by
  intro T hT X
  obtain ⟨fs, hret, hrun, hended, hW, hframe⟩ := X.leave (v := some (.int 1)) (hlocks := hlocks) (fun h => by rw [hr] at h; cases h)
  have hmeth' : T.vm.method? m = some meth := X.method'
  refine ⟨T.setFrames fs, ?_, .returned (some (.int 1)), hrun, hended, rfl, ⟨_, rfl⟩, hW, hframe⟩
  jvm_step X.here [X.here.top, hx, hb, hdg, hmeth', hr, ret, narrow_b1]
  (try refine ⟨rfl, ?_⟩); (try refine ⟨rfl, ?_⟩)
  first | (intro acts; rw [hret _ acts rfl rfl rfl]) | rw [hret _ _ rfl rfl rfl]
  exact Steps.refl _
/-- what holds at the law's entry: the machine, the code, the tables' words (any of lw_tbl by 'hts w (by decide +kernel)'), the script of L ints xs at the cell b, what the Statement gives of the start (any of its parts by flat_of_before) -/
def lw_At (p : Program) (s : State) (m : MethodId) (meth : Method) (c : Code) (b L : Nat) (xs : Nat → Int32) : Prop :=
  p.tables.exec = Jvm.exec ∧ c.code = code ∧ meth.sig.returnType = ret ∧ c.maxLocals = 4 ∧ s.vm.findClass R_law = some m.cls ∧ (∀ w ∈ lw_tbl, w.before #[Value.ref b] s = true) ∧ va_X b L xs s s.heap ∧ b < s.heap.size ∧ meth.locks = false ∧ (Jvm.Cond.and given_1 narrow_1).before #[Value.ref b] s = true
/-! the law's run on the abstract machine gives the claim -/
def sg0 (L : Nat) (xs : Nat → Int32) : Mm := (fun a k => if a = 0 then xs k else 0, fun _ _ => 0, fun _ _ => none, 0, L)
theorem gd_sub {w : Jvm.Cond} (h : w ∈ lw_gd) : w ∈ lw_tbl := (List.mem_filter.mp h).1
theorem nest_tbl : nestL.all (fun w => decide (w ∈ lw_tbl)) = true := by
  rw [List.all_eq_true]
  intro w hw
  apply decide_eq_true
  unfold nestL at hw
  obtain ⟨own, ho, h⟩ := List.mem_flatMap.mp hw
  obtain ⟨q, hm, h⟩ := List.mem_filterMap.mp h
  have h1 := List.all_eq_true.mp (List.all_eq_true.mp chkC_ok own ho) q hm
  simp only [Bool.and_eq_true, decide_eq_true_eq] at h1
  split at h
  · cases h
  · rename_i h0
    cases h
    rw [if_neg h0] at h1
    exact atW_mem h1.2
theorem KX_init {args : Array Value} {s : State} (hts : ∀ w ∈ lw_tbl, w.before args s = true) : ∃ dC dI cA, KX dC dI cA s := by
  have hk : ∀ c, ∃ (q : ClassId × (Nat → Nat)), c < 13 → u_Kn s (cName c) (fT c) (nf c) q.1 q.2 := by
    intro c
    by_cases hc : c < 13
    · have h2 := List.all_eq_true.mp chkW_ok c (List.mem_range.mpr hc)
      simp only [Bool.and_eq_true] at h2
      obtain ⟨c0, iS, h⟩ := u_known (C := cName c) (T := fT c) (N := nf c) (n := nf c) hts (fun w hw => gd_sub (in_fields hc w hw)) (hts _ (atW_mem h2.1))
      exact ⟨(c0, iS), fun _ => h⟩
    · exact ⟨(0, fun _ => 0), fun q => absurd q hc⟩
  have hA := chkA_ok
  unfold chkA at hA
  simp only [Bool.and_eq_true] at hA
  have arrP : ∀ ty : FieldType, Jvm.Cond.arrayClass ty ∈ lw_tbl → ∃ cA : ClassId, ArrOfT s cA ty ∧ s.vm.findClass ("[" ++ ty.toString) = some cA := by
    intro ty h
    obtain ⟨c, k, comp, h1, h2, h3⟩ := Cond.arrayClass_spec (hts _ h)
    exact ⟨c, fun N z => ⟨(fun k h => by cases h), k, h2, comp, h3⟩, h1⟩
  have arrQ : ∀ c, c < 3 → ∃ cA : ClassId, ArrOfT s cA (.object (cName c)) ∧ va_RA s cA (.object (cName c)) ∧ va_AO (cName c) s := by
    intro c hc
    have hm : Jvm.Cond.arrayOver (.object (cName c)) ∈ lw_tbl := by
      have h1 := List.all_eq_true.mp hA.1.1
      have : c = 0 ∨ c = 1 ∨ c = 2 := by omega
      rcases this with rfl | rfl | rfl
      · exact atW_mem (h1 _ (List.mem_of_getElem? (i := 0) rfl))
      · exact atW_mem (h1 _ (List.mem_of_getElem? (i := 1) rfl))
      · exact atW_mem (h1 _ (List.mem_of_getElem? (i := 2) rfl))
    have h := hts _ hm
    obtain ⟨comp, cA, k, hcomp, hidx, hkk, hkind, hname⟩ := Cond.arrayOver_spec h
    exact ⟨cA, fun N z => ⟨(fun k h => by cases h), k, hkk, comp, hkind⟩, ⟨k, comp, hkk, hkind, hcomp, hname⟩, h⟩
  obtain ⟨a2, h2, h2'⟩ := arrP .int (atW_mem hA.1.2)
  obtain ⟨a3, h3, h3'⟩ := arrP .long (atW_mem hA.2)
  obtain ⟨a4, h4, h4', h4''⟩ := arrQ 0 (by omega)
  obtain ⟨a5, h5, h5', h5''⟩ := arrQ 1 (by omega)
  obtain ⟨a6, h6, h6', h6''⟩ := arrQ 2 (by omega)
  refine ⟨fun c => (hk c).choose.1, fun c => (hk c).choose.2, fun k => if k = 2 then a2 else if k = 3 then a3 else if k = 4 then a4 else if k = 5 then a5 else a6, ⟨fun c q hq => ?_, fun k q hq => ?_⟩, fun w hw => ?_, fun c hc => ?_⟩
  · have hc : c < 13 := by
      have := (List.getElem?_eq_some_iff.mp hq).1
      simpa [clsV] using this
    rw [clsV_at hc] at hq
    cases hq
    exact (hk c).choose_spec hc
  · match k, hq with
    | 0, hq => cases hq; exact ⟨h2, h2'⟩
    | 1, hq => cases hq; exact ⟨h3, h3'⟩
    | 2, hq => cases hq; exact ⟨h4, h4'⟩
    | 3, hq => cases hq; exact ⟨h5, h5'⟩
    | 4, hq => cases hq; exact ⟨h6, h6'⟩
    | k + 5, hq => simp [tyA] at hq
  · have hm := of_decide_eq_true (List.all_eq_true.mp nest_tbl w hw)
    obtain ⟨a, i, x, rfl⟩ := nest_form hw
    exact va_tabs rfl rfl (hts _ hm)
  · have : c = 0 ∨ c = 1 ∨ c = 2 := by omega
    rcases this with rfl | rfl | rfl
    · exact h4''
    · exact h5''
    · exact h6''
theorem slN_NT : slN NT ≤ 20000 := by decide +kernel
theorem law_mx : mMx 309 = 4 ∧ mRt 309 = some .boolean ∧ mKd 309 = 1 ∧ cName (mOw 309) = R_law := by decide +kernel
theorem whole_of (hev : ∀ (L : Nat) (xs : Nat → Int32), L ≤ 3584 → ∃ σ', Ev 100 309 0 (enL 309 [.ref 0]) [] (sg0 L xs) (some (.int 1), σ'))
    {p : Program} {e : Env} {s : State} {m : MethodId} {below : List Frame} {meth : Method} {c : Code} (l : Launch) {b L : Nat} {xs : Nat → Int32} (hL : L ≤ 3584) (C0 : lw_At p s m meth c b L xs) : W p l e room_1 s m #[Value.ref b] below meth c s.heap [] 0 0 (lw_Z below #[Value.ref b] s) (entryFrame m ([Value.ref b] : List Value).toArray 4) := by
  obtain ⟨hx, hb, hr, hml, hown, hts, hX, hbl, hlocks, hgv⟩ := C0
  obtain ⟨dC, dI, cA, hK⟩ := KX_init hts
  obtain ⟨σ', n, hrun⟩ := hev L xs hL
  have hI := inv_run _ _ _ _ _ _ _ _ hrun
  have hN : σ'.2.2.2.1 ≤ NT := hI.2.2.2 (Nat.zero_le _)
  have hS := slN_le hN
  have hS2 := slN_NT
  have hb' : c.code = mCode 309 := by rw [hb]; rfl
  have C : Cx p room_1 s m #[Value.ref b] meth c 309 s.heap.size b 0 dC dI cA := ⟨hx, hb', by rw [hml, law_mx.1], by rw [law_mx.2.2.2]; exact hown, fun w hw => hts w (gd_sub hw), hK, by rw [hr, law_mx.2.1]; rfl, hlocks, (fun q => by rw [law_mx.2.2.1] at q; cases q), rfl, hbl⟩
  have hK' : ∀ (pc : Nat) (L st : List Value) (i : Instr) (len : Nat), decode (mCode 309) pc = .ok (i, len) → rtV 309 i len st = some (some (.int 1)) → WW p l e room_1 s m #[Value.ref b] below meth c (lw_Z below #[Value.ref b] s) s.heap.size b 0 309 dC dI cA pc L st σ' := by
    intro pc L st i len hd hs H locs ls hR hl
    unfold rtV at hs
    split at hs
    · rename_i hl1
      subst hl1
      split at hs
      · rename_i v
        split at hs
        · cases hs
          refine va_forget (fun q hq => hR.2.1.2.2 q hq) ?_
          refine W.widen (k := 600000) (n := 7302250) (by have : NT = 378 := rfl; omega) (by omega) ?_
          exact lw_ret hx hb hr hlocks hd
        · cases hs
      · split at hs
        · cases hs
        · cases hs
      · split at hs
        · cases hs
        · cases hs
      · split at hs
        · cases hs
        · cases hs
      · cases hs
    · cases hs
  have hfin := run_ok l n p e room_1 s m #[Value.ref b] below meth c (lw_Z below #[Value.ref b] s) s.heap.size b 0 dC dI cA 100 309 0 (enL 309 [.ref 0]) [] (sg0 L xs) (some (.int 1)) σ' hrun C (Nat.le_of_ble_eq_true rfl) (Nat.le_of_ble_eq_true rfl) (by show σ'.2.2.2.1 - 0 ≤ 600000; have : NT = 378 := rfl; omega) (by show slN σ'.2.2.2.1 - slN 0 ≤ 7302250; omega) hK' s.heap [] _ ⟨fun k q h => by simp [wld, sg0] at h, va_S.rf, hX, Nat.le_refl _, Nat.zero_le _⟩ (en_lvL (z := 309) (as := [.ref 0]) (by decide +kernel))
  rw [lg_entry_eq]
  rw [law_mx.1] at hfin
  exact hfin
end
section
theorem law_runs (L : Nat) (xs : Nat → Int32) (hL : L ≤ 3584) : ∃ σ', Ev 100 309 0 (enL 309 [.ref 0]) [] (sg0 L xs) (some (.int 1), σ') := by
  sorry
theorem whole_start {p : Program} {e : Env} {s : State} {m : MethodId} {below : List Frame} {meth : Method} {c : Code} (l : Launch) (hflags : l.flags = flags0) {b L : Nat} {xs : Nat → Int32} (hL : L ≤ 3584) (C0 : lw_At p s m meth c b L xs) : W p l e room_1 s m #[Value.ref b] below meth c s.heap [] 0 0 (lw_Z below #[Value.ref b] s) (entryFrame m ([Value.ref b] : List Value).toArray 4) :=
  whole_of law_runs l hL C0
-- ===== YOUR PART ENDS =====
set_option maxHeartbeats 4000000 in
theorem lw_walk (l : Launch) (hflags : l.flags = flags0) (b : Addr) (xs : List Int32) : MetFree l x (headSpec (Jvm.Cond.code x code maxLocals ret :: tables_1) room_1) (lw_P b xs) (fun _ _ _ _ _ => True) lw_Q := by
  refine MetFree.of_bodyS (code := code) (maxLocals := maxLocals) (ret := ret) (by decide) ?_ ?_
  · intro args s m h hn
    obtain ⟨meth, c, h1, h2, h3, h4, h5, h6, -, -⟩ := Cond.code_spec hn (atoms_spec (ws := Jvm.Cond.code x code maxLocals ret :: tables_1) h _ List.mem_cons_self)
    exact ⟨meth, c, h1, h2, h3, h4, h5, h6⟩
  · intro p e s m args below meth c s₁ B hml0 hP _
    obtain ⟨rfl, hx, hbd, hgv⟩ := hP
    obtain ⟨scr, harrAt, hlist, hof, hsmall⟩ := hx
    obtain ⟨hcb, hkn, -, -⟩ := State.arrayAt?_spec harrAt
    have hown : s.vm.findClass R_law = some m.cls := findClass_of_methodNamed B.named
    have hts0 : ∀ c ∈ (Jvm.Cond.code x code maxLocals ret :: tables_1), c.before #[Value.ref b] s = true := atoms_spec (ws := Jvm.Cond.code x code maxLocals ret :: tables_1) B.pre
    have hts : ∀ w ∈ lw_tbl, w.before #[Value.ref b] s = true := k2_hts_sels lw_privs (fun w hw => hts0 w (List.mem_cons_of_mem _ hw)) lw_privs_ok
    have hml : c.maxLocals = 4 := B.maxLocals_eq (hts0 _ List.mem_cons_self)
    have X₀ : Stand p l e room_1 s m #[Value.ref b] below meth c s₁ [] 0 0 := Stand.of_body B
    have hh0 : s₁.heap = s.heap := by rw [B.state]; rfl
    have hsz : scr.slots.size = xs.length := by rw [← Array.length_toList, hlist, List.length_map]
    have hval : ∀ j : Nat, j < xs.length → scr.slots[j]? = some (.int (xs.getD j 0)) := fun j hj => by
      rw [← Array.getElem?_toList, hlist]
      simp [hj]
    have hbl : b < s.heap.size := (Array.getElem?_eq_some_iff.mp hcb).1
    have hX : va_X b xs.length (fun j => xs.getD j 0) s s.heap := ⟨scr, hcb, hof, hkn, hsz, hval⟩
    have K : W p l e room_1 s m #[Value.ref b] below meth c s₁.heap [] 0 0 (lw_Z below #[Value.ref b] s) (entryFrame m ([Value.ref b] : List Value).toArray 4) := by
      rw [hh0]
      exact whole_start l hflags hbd ⟨B.exec, B.bytes, B.returns, hml, hown, hts, hX, hbl, B.notSynchronized, hgv⟩
    obtain ⟨t, a1, o, b1, b2, b3⟩ := K s₁ rfl X₀
    exact ⟨t, o, a1, b1, b2, b3⟩
theorem lw_pre_spec {args : Array Value} {s : State} (h : (Jvm.Cond.and given_1 narrow_1).before args s = true) (hr : rest_1_c.before args s = true) : ∃ (b : Addr) (xs : List Int32), lw_P b xs args s := by
  have hs := flat_of_before _ h
  have hq := flat_of_before _ hr
  have hc : (Cond.count 1).before args s = true := hs _ (by decide +kernel)
  have harr : (Cond.arrayOf (.arg 0) .int).before args s = true := hs _ (by decide +kernel)
  have hle : (Cond.le (.length (.arg 0)) (.int 3584)).before args s = true := hs _ (by decide +kernel)
  have hlen : (Cond.isInt (.length (.arg 0))).before args s = true := hq _ (by decide +kernel)
  have hall : (Cond.all (.arg 0) (.isInt (.elem (.arg 0) (.index 0)))).before args s = true := hq _ (by decide +kernel)
  obtain ⟨b, xs, hb, hx⟩ := State.ints_of_pre rfl harr hlen hall
  have hsm : xs.length < 2 ^ 31 := hx.choose_spec.2.2.2
  have hev : (Term.length (.arg 0)).eval args s none [] s = some (.int xs.length.toInt32) := hx.length_eval hb
  have hv := Cond.le_ints hev (show (Term.int 3584).eval args s none [] s = some (.int 3584) from rfl)
  have hd : xs.length.toInt32 ≤ 3584 := by
    simpa [Cond.before, Cond.holds, hv] using hle
  have hN : xs.length ≤ 3584 := (Int32.ofNat_le_ofNat hsm (by decide)).mp (show Int32.ofNat xs.length ≤ Int32.ofNat 3584 from hd)
  exact ⟨b, xs, Cond.one_arg hc (show args[0]? = some (.ref b) from hb), hx, hN, h⟩
theorem lw_comes (l : Launch) (hflags : l.flags = flags0) : Comes l x (Jvm.Cond.code x code maxLocals ret :: tables_1) room_1 (fun tb e args s => Calls_1 tb e args s ∧ rest_1 tb e args s ∧ Pre_1 tb e args s)
    (fun _ _ args s o t => lw_Q args s o t) := by
  intro p e ha hc hk s m args below hf hfit hheap happ hpre
  obtain ⟨b, xs, hP⟩ := lw_pre_spec hpre.2.2 hpre.2.1
  obtain ⟨k, o, h1, h2, h3, hQ⟩ := lw_walk l hflags b xs p e ha hc hk s m args below hf ((Spec.applies_iff_loose hf).mp happ).1 hP trivial
  exact ⟨k, o, h1, h2, h3, hQ⟩
theorem lw_frame {s t : State} {o : Outcome} {args : Array Value} (h : Framed s o t [] 600000 7302250) :
    Framed s o t (fieldLocs frame_1_writes args s ++ arrayLocs frame_1_arrays args s ++ staticLocs frame_1_statics s) 600000 7302250 := h
theorem lw_limb (L : Cond) (hL : ∀ (args : Array Value) (s t : State), L.after args s (.returned (some (.int 1))) t = true) :
    ArmFor flags0 classFile x code maxLocals ret World_1 tables_1 room_1 Calls_1 rest_1 Pre_1
      (fun tb e a s o t => postC L tb e a s o t ∧ Framed s o t (fieldLocs frame_1_writes a s ++ arrayLocs frame_1_arrays a s ++ staticLocs frame_1_statics s) 600000 7302250) := by
  intro l hflags _ _ p e ha hc hk s m args below hf hfit hheap happ hpre
  obtain ⟨k, o, h1, h2, h3, rfl, hF⟩ := lw_comes l hflags p e ha hc hk s m args below hf hfit hheap happ hpre
  exact ⟨k, _, h1, h2, h3, hL args s _, lw_frame hF⟩
theorem i_vc : Claimed_1_1 ∧ Claimed_1_2 := ⟨lw_limb limb_1_1 (fun args s t => by simp [limb_1_1, Cond.after, Cond.holds, Cond.value]), lw_limb limb_1_2 (fun args s t => Cond.after_iff.mpr (by
  first | (rw [show limb_1_2 = Cond.eq .result (.int 1) from rfl, Cond.eq_ints (x := 1) (y := 1) rfl rfl]; simp; done) | (simp [limb_1_2, Cond.value, Term.eval]; done)))⟩
end
