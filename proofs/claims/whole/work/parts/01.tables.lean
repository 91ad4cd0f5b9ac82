-- ===== PART A: goes FIRST, ahead of the names: the tables' words, and 'selects' of the private methods out of them =====
/-- a private method of a class that the tables say can be made, by its rows of tables_1 -/
def lw_okq (q : MethodName × Nat) : Prop := (q.1.cls ≠ "java/lang/invoke/MethodHandle" ∧ q.1.cls ≠ "java/lang/invoke/VarHandle") ∧ Cond.instantiable q.1.cls q.2 ∈ tables_1 ∧ Cond.privateMethod q.1 ∈ tables_1 ∧ Cond.instanceMethod q.1 ∈ tables_1
theorem lw_p0 : lw_okq (⟨"TideDesk", "isPast", "(I)Z"⟩, 14) := ⟨⟨by decide +kernel, by decide +kernel⟩, List.mem_of_getElem? (i := 18) (by decide +kernel), List.mem_of_getElem? (i := 574) (by decide +kernel), List.mem_of_getElem? (i := 575) (by decide +kernel)⟩
theorem lw_p1 : lw_okq (⟨"TideDesk", "isGauge", "(I)Z"⟩, 14) := ⟨⟨by decide +kernel, by decide +kernel⟩, List.mem_of_getElem? (i := 18) (by decide +kernel), List.mem_of_getElem? (i := 617) (by decide +kernel), List.mem_of_getElem? (i := 618) (by decide +kernel)⟩
theorem lw_p2 : lw_okq (⟨"TideDesk$Gauges", "keepBySize", "(D)V"⟩, 15) := ⟨⟨by decide +kernel, by decide +kernel⟩, List.mem_of_getElem? (i := 81) (by decide +kernel), List.mem_of_getElem? (i := 677) (by decide +kernel), List.mem_of_getElem? (i := 678) (by decide +kernel)⟩
theorem lw_p3 : lw_okq (⟨"TideDesk$Shoals", "addBed", "(IIII)V"⟩, 10) := ⟨⟨by decide +kernel, by decide +kernel⟩, List.mem_of_getElem? (i := 145) (by decide +kernel), List.mem_of_getElem? (i := 701) (by decide +kernel), List.mem_of_getElem? (i := 702) (by decide +kernel)⟩
theorem lw_p4 : lw_okq (⟨"TideDesk", "isShoal", "(I)Z"⟩, 14) := ⟨⟨by decide +kernel, by decide +kernel⟩, List.mem_of_getElem? (i := 18) (by decide +kernel), List.mem_of_getElem? (i := 709) (by decide +kernel), List.mem_of_getElem? (i := 710) (by decide +kernel)⟩
theorem lw_p5 : lw_okq (⟨"TideDesk$Shoals", "bedInForce", "(III)I"⟩, 10) := ⟨⟨by decide +kernel, by decide +kernel⟩, List.mem_of_getElem? (i := 145) (by decide +kernel), List.mem_of_getElem? (i := 725) (by decide +kernel), List.mem_of_getElem? (i := 726) (by decide +kernel)⟩
theorem lw_p6 : lw_okq (⟨"TideDesk$Waters", "halve", "(IIZI)I"⟩, 8) := ⟨⟨by decide +kernel, by decide +kernel⟩, List.mem_of_getElem? (i := 186) (by decide +kernel), List.mem_of_getElem? (i := 766) (by decide +kernel), List.mem_of_getElem? (i := 767) (by decide +kernel)⟩
theorem lw_p7 : lw_okq (⟨"TideDesk$Waters", "keep", "(IIZI)V"⟩, 8) := ⟨⟨by decide +kernel, by decide +kernel⟩, List.mem_of_getElem? (i := 186) (by decide +kernel), List.mem_of_getElem? (i := 770) (by decide +kernel), List.mem_of_getElem? (i := 771) (by decide +kernel)⟩
theorem lw_p8 : lw_okq (⟨"TideDesk$Waters", "nearestHigh", "(II)I"⟩, 8) := ⟨⟨by decide +kernel, by decide +kernel⟩, List.mem_of_getElem? (i := 186) (by decide +kernel), List.mem_of_getElem? (i := 813) (by decide +kernel), List.mem_of_getElem? (i := 814) (by decide +kernel)⟩
theorem lw_p9 : lw_okq (⟨"TideDesk$Ships", "deepOf", "(I)I"⟩, 11) := ⟨⟨by decide +kernel, by decide +kernel⟩, List.mem_of_getElem? (i := 223) (by decide +kernel), List.mem_of_getElem? (i := 832) (by decide +kernel), List.mem_of_getElem? (i := 833) (by decide +kernel)⟩
theorem lw_p10 : lw_okq (⟨"TideDesk", "isShipOrNothing", "(I)Z"⟩, 14) := ⟨⟨by decide +kernel, by decide +kernel⟩, List.mem_of_getElem? (i := 18) (by decide +kernel), List.mem_of_getElem? (i := 839) (by decide +kernel), List.mem_of_getElem? (i := 840) (by decide +kernel)⟩
theorem lw_p11 : lw_okq (⟨"TideDesk", "isShip", "(I)Z"⟩, 14) := ⟨⟨by decide +kernel, by decide +kernel⟩, List.mem_of_getElem? (i := 18) (by decide +kernel), List.mem_of_getElem? (i := 847) (by decide +kernel), List.mem_of_getElem? (i := 848) (by decide +kernel)⟩
theorem lw_p12 : lw_okq (⟨"TideDesk$Ships", "pairAnswer", "(III)I"⟩, 11) := ⟨⟨by decide +kernel, by decide +kernel⟩, List.mem_of_getElem? (i := 223) (by decide +kernel), List.mem_of_getElem? (i := 855) (by decide +kernel), List.mem_of_getElem? (i := 856) (by decide +kernel)⟩
theorem lw_p13 : lw_okq (⟨"TideDesk$Ships", "begin", "(I)V"⟩, 11) := ⟨⟨by decide +kernel, by decide +kernel⟩, List.mem_of_getElem? (i := 223) (by decide +kernel), List.mem_of_getElem? (i := 862) (by decide +kernel), List.mem_of_getElem? (i := 863) (by decide +kernel)⟩
theorem lw_p14 : lw_okq (⟨"TideDesk$Ships", "needOf", "(I)I"⟩, 11) := ⟨⟨by decide +kernel, by decide +kernel⟩, List.mem_of_getElem? (i := 223) (by decide +kernel), List.mem_of_getElem? (i := 870) (by decide +kernel), List.mem_of_getElem? (i := 871) (by decide +kernel)⟩
theorem lw_p15 : lw_okq (⟨"TideDesk$Ships", "keelOf", "(I)I"⟩, 11) := ⟨⟨by decide +kernel, by decide +kernel⟩, List.mem_of_getElem? (i := 223) (by decide +kernel), List.mem_of_getElem? (i := 878) (by decide +kernel), List.mem_of_getElem? (i := 879) (by decide +kernel)⟩
def lw_privs_1 : List (MethodName × Nat) := [(⟨"TideDesk", "isPast", "(I)Z"⟩, 14), (⟨"TideDesk", "isGauge", "(I)Z"⟩, 14), (⟨"TideDesk$Gauges", "keepBySize", "(D)V"⟩, 15), (⟨"TideDesk$Shoals", "addBed", "(IIII)V"⟩, 10), (⟨"TideDesk", "isShoal", "(I)Z"⟩, 14), (⟨"TideDesk$Shoals", "bedInForce", "(III)I"⟩, 10), (⟨"TideDesk$Waters", "halve", "(IIZI)I"⟩, 8), (⟨"TideDesk$Waters", "keep", "(IIZI)V"⟩, 8), (⟨"TideDesk$Waters", "nearestHigh", "(II)I"⟩, 8), (⟨"TideDesk$Ships", "deepOf", "(I)I"⟩, 11), (⟨"TideDesk", "isShipOrNothing", "(I)Z"⟩, 14), (⟨"TideDesk", "isShip", "(I)Z"⟩, 14), (⟨"TideDesk$Ships", "pairAnswer", "(III)I"⟩, 11), (⟨"TideDesk$Ships", "begin", "(I)V"⟩, 11), (⟨"TideDesk$Ships", "needOf", "(I)I"⟩, 11), (⟨"TideDesk$Ships", "keelOf", "(I)I"⟩, 11)]
theorem lw_r1 : ∀ q ∈ lw_privs_1, lw_okq q := List.forall_mem_cons.mpr ⟨lw_p0, List.forall_mem_cons.mpr ⟨lw_p1, List.forall_mem_cons.mpr ⟨lw_p2, List.forall_mem_cons.mpr ⟨lw_p3, List.forall_mem_cons.mpr ⟨lw_p4, List.forall_mem_cons.mpr ⟨lw_p5, List.forall_mem_cons.mpr ⟨lw_p6, List.forall_mem_cons.mpr ⟨lw_p7, List.forall_mem_cons.mpr ⟨lw_p8, List.forall_mem_cons.mpr ⟨lw_p9, List.forall_mem_cons.mpr ⟨lw_p10, List.forall_mem_cons.mpr ⟨lw_p11, List.forall_mem_cons.mpr ⟨lw_p12, List.forall_mem_cons.mpr ⟨lw_p13, List.forall_mem_cons.mpr ⟨lw_p14, List.forall_mem_cons.mpr ⟨lw_p15, fun _ h => absurd h List.not_mem_nil⟩⟩⟩⟩⟩⟩⟩⟩⟩⟩⟩⟩⟩⟩⟩⟩
theorem lw_p16 : lw_okq (⟨"TideDesk$Ships", "paceOf", "(I)I"⟩, 11) := ⟨⟨by decide +kernel, by decide +kernel⟩, List.mem_of_getElem? (i := 223) (by decide +kernel), List.mem_of_getElem? (i := 882) (by decide +kernel), List.mem_of_getElem? (i := 883) (by decide +kernel)⟩
theorem lw_p17 : lw_okq (⟨"TideDesk$Ships", "patienceOf", "(I)I"⟩, 11) := ⟨⟨by decide +kernel, by decide +kernel⟩, List.mem_of_getElem? (i := 223) (by decide +kernel), List.mem_of_getElem? (i := 886) (by decide +kernel), List.mem_of_getElem? (i := 887) (by decide +kernel)⟩
theorem lw_p18 : lw_okq (⟨"TideDesk$Voyages", "tryLeg", "(III)I"⟩, 11) := ⟨⟨by decide +kernel, by decide +kernel⟩, List.mem_of_getElem? (i := 295) (by decide +kernel), List.mem_of_getElem? (i := 1013) (by decide +kernel), List.mem_of_getElem? (i := 1014) (by decide +kernel)⟩
theorem lw_p19 : lw_okq (⟨"TideDesk$Passages", "meetsAny", "(I)Z"⟩, 17) := ⟨⟨by decide +kernel, by decide +kernel⟩, List.mem_of_getElem? (i := 395) (by decide +kernel), List.mem_of_getElem? (i := 1073) (by decide +kernel), List.mem_of_getElem? (i := 1074) (by decide +kernel)⟩
theorem lw_p20 : lw_okq (⟨"TideDesk$Passages", "meets", "(II)Z"⟩, 17) := ⟨⟨by decide +kernel, by decide +kernel⟩, List.mem_of_getElem? (i := 395) (by decide +kernel), List.mem_of_getElem? (i := 1077) (by decide +kernel), List.mem_of_getElem? (i := 1078) (by decide +kernel)⟩
theorem lw_p21 : lw_okq (⟨"TideDesk$Passages", "meetInLock", "(IIII)Z"⟩, 17) := ⟨⟨by decide +kernel, by decide +kernel⟩, List.mem_of_getElem? (i := 395) (by decide +kernel), List.mem_of_getElem? (i := 1081) (by decide +kernel), List.mem_of_getElem? (i := 1082) (by decide +kernel)⟩
theorem lw_p22 : lw_okq (⟨"TideDesk$Passages", "meetInReach", "(IIII)Z"⟩, 17) := ⟨⟨by decide +kernel, by decide +kernel⟩, List.mem_of_getElem? (i := 395) (by decide +kernel), List.mem_of_getElem? (i := 1085) (by decide +kernel), List.mem_of_getElem? (i := 1086) (by decide +kernel)⟩
theorem lw_p23 : lw_okq (⟨"TideDesk$Passages", "keepComing", "(I)V"⟩, 17) := ⟨⟨by decide +kernel, by decide +kernel⟩, List.mem_of_getElem? (i := 395) (by decide +kernel), List.mem_of_getElem? (i := 1089) (by decide +kernel), List.mem_of_getElem? (i := 1090) (by decide +kernel)⟩
theorem lw_p24 : lw_okq (⟨"TideDesk", "isPassage", "(I)Z"⟩, 14) := ⟨⟨by decide +kernel, by decide +kernel⟩, List.mem_of_getElem? (i := 18) (by decide +kernel), List.mem_of_getElem? (i := 1097) (by decide +kernel), List.mem_of_getElem? (i := 1098) (by decide +kernel)⟩
theorem lw_p25 : lw_okq (⟨"TideDesk$Passages", "holdLocks", "(I)Z"⟩, 17) := ⟨⟨by decide +kernel, by decide +kernel⟩, List.mem_of_getElem? (i := 395) (by decide +kernel), List.mem_of_getElem? (i := 1114) (by decide +kernel), List.mem_of_getElem? (i := 1115) (by decide +kernel)⟩
theorem lw_p26 : lw_okq (⟨"TideDesk$Passages", "askAtLast", "(I)I"⟩, 17) := ⟨⟨by decide +kernel, by decide +kernel⟩, List.mem_of_getElem? (i := 395) (by decide +kernel), List.mem_of_getElem? (i := 1118) (by decide +kernel), List.mem_of_getElem? (i := 1119) (by decide +kernel)⟩
theorem lw_p27 : lw_okq (⟨"TideDesk$Passages", "freeAll", "()V"⟩, 17) := ⟨⟨by decide +kernel, by decide +kernel⟩, List.mem_of_getElem? (i := 395) (by decide +kernel), List.mem_of_getElem? (i := 1122) (by decide +kernel), List.mem_of_getElem? (i := 1123) (by decide +kernel)⟩
theorem lw_p28 : lw_okq (⟨"TideDeskModel", "isKnowing", "(II)Z"⟩, 91) := ⟨⟨by decide +kernel, by decide +kernel⟩, List.mem_of_getElem? (i := 1146) (by decide +kernel), List.mem_of_getElem? (i := 1484) (by decide +kernel), List.mem_of_getElem? (i := 1485) (by decide +kernel)⟩
theorem lw_p29 : lw_okq (⟨"TideDeskModel", "isFull", "()Z"⟩, 91) := ⟨⟨by decide +kernel, by decide +kernel⟩, List.mem_of_getElem? (i := 1146) (by decide +kernel), List.mem_of_getElem? (i := 1488) (by decide +kernel), List.mem_of_getElem? (i := 1489) (by decide +kernel)⟩
theorem lw_p30 : lw_okq (⟨"TideDeskModel", "rises", "(III)Z"⟩, 91) := ⟨⟨by decide +kernel, by decide +kernel⟩, List.mem_of_getElem? (i := 1146) (by decide +kernel), List.mem_of_getElem? (i := 1493) (by decide +kernel), List.mem_of_getElem? (i := 1494) (by decide +kernel)⟩
theorem lw_p31 : lw_okq (⟨"TideDeskModel", "inForce", "(III)I"⟩, 91) := ⟨⟨by decide +kernel, by decide +kernel⟩, List.mem_of_getElem? (i := 1146) (by decide +kernel), List.mem_of_getElem? (i := 1497) (by decide +kernel), List.mem_of_getElem? (i := 1498) (by decide +kernel)⟩
def lw_privs_2 : List (MethodName × Nat) := [(⟨"TideDesk$Ships", "paceOf", "(I)I"⟩, 11), (⟨"TideDesk$Ships", "patienceOf", "(I)I"⟩, 11), (⟨"TideDesk$Voyages", "tryLeg", "(III)I"⟩, 11), (⟨"TideDesk$Passages", "meetsAny", "(I)Z"⟩, 17), (⟨"TideDesk$Passages", "meets", "(II)Z"⟩, 17), (⟨"TideDesk$Passages", "meetInLock", "(IIII)Z"⟩, 17), (⟨"TideDesk$Passages", "meetInReach", "(IIII)Z"⟩, 17), (⟨"TideDesk$Passages", "keepComing", "(I)V"⟩, 17), (⟨"TideDesk", "isPassage", "(I)Z"⟩, 14), (⟨"TideDesk$Passages", "holdLocks", "(I)Z"⟩, 17), (⟨"TideDesk$Passages", "askAtLast", "(I)I"⟩, 17), (⟨"TideDesk$Passages", "freeAll", "()V"⟩, 17), (⟨"TideDeskModel", "isKnowing", "(II)Z"⟩, 91), (⟨"TideDeskModel", "isFull", "()Z"⟩, 91), (⟨"TideDeskModel", "rises", "(III)Z"⟩, 91), (⟨"TideDeskModel", "inForce", "(III)I"⟩, 91)]
theorem lw_r2 : ∀ q ∈ lw_privs_2, lw_okq q := List.forall_mem_cons.mpr ⟨lw_p16, List.forall_mem_cons.mpr ⟨lw_p17, List.forall_mem_cons.mpr ⟨lw_p18, List.forall_mem_cons.mpr ⟨lw_p19, List.forall_mem_cons.mpr ⟨lw_p20, List.forall_mem_cons.mpr ⟨lw_p21, List.forall_mem_cons.mpr ⟨lw_p22, List.forall_mem_cons.mpr ⟨lw_p23, List.forall_mem_cons.mpr ⟨lw_p24, List.forall_mem_cons.mpr ⟨lw_p25, List.forall_mem_cons.mpr ⟨lw_p26, List.forall_mem_cons.mpr ⟨lw_p27, List.forall_mem_cons.mpr ⟨lw_p28, List.forall_mem_cons.mpr ⟨lw_p29, List.forall_mem_cons.mpr ⟨lw_p30, List.forall_mem_cons.mpr ⟨lw_p31, fun _ h => absurd h List.not_mem_nil⟩⟩⟩⟩⟩⟩⟩⟩⟩⟩⟩⟩⟩⟩⟩⟩
theorem lw_p32 : lw_okq (⟨"TideDeskModel", "fails", "(I)I"⟩, 91) := ⟨⟨by decide +kernel, by decide +kernel⟩, List.mem_of_getElem? (i := 1146) (by decide +kernel), List.mem_of_getElem? (i := 1505) (by decide +kernel), List.mem_of_getElem? (i := 1506) (by decide +kernel)⟩
theorem lw_p33 : lw_okq (⟨"TideDeskModel", "isGauge", "(I)Z"⟩, 91) := ⟨⟨by decide +kernel, by decide +kernel⟩, List.mem_of_getElem? (i := 1146) (by decide +kernel), List.mem_of_getElem? (i := 1521) (by decide +kernel), List.mem_of_getElem? (i := 1522) (by decide +kernel)⟩
theorem lw_p34 : lw_okq (⟨"TideDeskModel", "momentOf", "(II)I"⟩, 91) := ⟨⟨by decide +kernel, by decide +kernel⟩, List.mem_of_getElem? (i := 1146) (by decide +kernel), List.mem_of_getElem? (i := 1525) (by decide +kernel), List.mem_of_getElem? (i := 1526) (by decide +kernel)⟩
theorem lw_p35 : lw_okq (⟨"TideDeskModel", "reads", "(II)I"⟩, 91) := ⟨⟨by decide +kernel, by decide +kernel⟩, List.mem_of_getElem? (i := 1146) (by decide +kernel), List.mem_of_getElem? (i := 1543) (by decide +kernel), List.mem_of_getElem? (i := 1544) (by decide +kernel)⟩
theorem lw_p36 : lw_okq (⟨"TideDeskModel", "surges", "(II)I"⟩, 91) := ⟨⟨by decide +kernel, by decide +kernel⟩, List.mem_of_getElem? (i := 1146) (by decide +kernel), List.mem_of_getElem? (i := 1566) (by decide +kernel), List.mem_of_getElem? (i := 1567) (by decide +kernel)⟩
theorem lw_p37 : lw_okq (⟨"TideDeskModel", "lay", "(III)V"⟩, 91) := ⟨⟨by decide +kernel, by decide +kernel⟩, List.mem_of_getElem? (i := 1146) (by decide +kernel), List.mem_of_getElem? (i := 1579) (by decide +kernel), List.mem_of_getElem? (i := 1580) (by decide +kernel)⟩
theorem lw_p38 : lw_okq (⟨"TideDeskModel", "isShoal", "(I)Z"⟩, 91) := ⟨⟨by decide +kernel, by decide +kernel⟩, List.mem_of_getElem? (i := 1146) (by decide +kernel), List.mem_of_getElem? (i := 1587) (by decide +kernel), List.mem_of_getElem? (i := 1588) (by decide +kernel)⟩
theorem lw_p39 : lw_okq (⟨"TideDeskModel", "goesDown", "(III)Z"⟩, 91) := ⟨⟨by decide +kernel, by decide +kernel⟩, List.mem_of_getElem? (i := 1146) (by decide +kernel), List.mem_of_getElem? (i := 1595) (by decide +kernel), List.mem_of_getElem? (i := 1596) (by decide +kernel)⟩
theorem lw_p40 : lw_okq (⟨"TideDeskModel", "flows", "(II)Z"⟩, 91) := ⟨⟨by decide +kernel, by decide +kernel⟩, List.mem_of_getElem? (i := 1146) (by decide +kernel), List.mem_of_getElem? (i := 1603) (by decide +kernel), List.mem_of_getElem? (i := 1604) (by decide +kernel)⟩
theorem lw_p41 : lw_okq (⟨"TideDeskModel", "heightAt", "(II)D"⟩, 91) := ⟨⟨by decide +kernel, by decide +kernel⟩, List.mem_of_getElem? (i := 1146) (by decide +kernel), List.mem_of_getElem? (i := 1611) (by decide +kernel), List.mem_of_getElem? (i := 1612) (by decide +kernel)⟩
theorem lw_p42 : lw_okq (⟨"TideDeskModel", "halved", "(IIIZ)I"⟩, 91) := ⟨⟨by decide +kernel, by decide +kernel⟩, List.mem_of_getElem? (i := 1146) (by decide +kernel), List.mem_of_getElem? (i := 1615) (by decide +kernel), List.mem_of_getElem? (i := 1616) (by decide +kernel)⟩
theorem lw_p43 : lw_okq (⟨"TideDeskModel", "isRange", "(II)Z"⟩, 91) := ⟨⟨by decide +kernel, by decide +kernel⟩, List.mem_of_getElem? (i := 1146) (by decide +kernel), List.mem_of_getElem? (i := 1627) (by decide +kernel), List.mem_of_getElem? (i := 1628) (by decide +kernel)⟩
theorem lw_p44 : lw_okq (⟨"TideDeskModel", "rangeOf", "(II)D"⟩, 91) := ⟨⟨by decide +kernel, by decide +kernel⟩, List.mem_of_getElem? (i := 1146) (by decide +kernel), List.mem_of_getElem? (i := 1631) (by decide +kernel), List.mem_of_getElem? (i := 1632) (by decide +kernel)⟩
theorem lw_p45 : lw_okq (⟨"TideDeskModel", "streams", "(II)I"⟩, 91) := ⟨⟨by decide +kernel, by decide +kernel⟩, List.mem_of_getElem? (i := 1146) (by decide +kernel), List.mem_of_getElem? (i := 1649) (by decide +kernel), List.mem_of_getElem? (i := 1650) (by decide +kernel)⟩
theorem lw_p46 : lw_okq (⟨"TideDeskModel", "isPart", "(I)Z"⟩, 91) := ⟨⟨by decide +kernel, by decide +kernel⟩, List.mem_of_getElem? (i := 1146) (by decide +kernel), List.mem_of_getElem? (i := 1657) (by decide +kernel), List.mem_of_getElem? (i := 1658) (by decide +kernel)⟩
theorem lw_p47 : lw_okq (⟨"TideDeskModel", "isShip", "(I)Z"⟩, 91) := ⟨⟨by decide +kernel, by decide +kernel⟩, List.mem_of_getElem? (i := 1146) (by decide +kernel), List.mem_of_getElem? (i := 1661) (by decide +kernel), List.mem_of_getElem? (i := 1662) (by decide +kernel)⟩
def lw_privs_3 : List (MethodName × Nat) := [(⟨"TideDeskModel", "fails", "(I)I"⟩, 91), (⟨"TideDeskModel", "isGauge", "(I)Z"⟩, 91), (⟨"TideDeskModel", "momentOf", "(II)I"⟩, 91), (⟨"TideDeskModel", "reads", "(II)I"⟩, 91), (⟨"TideDeskModel", "surges", "(II)I"⟩, 91), (⟨"TideDeskModel", "lay", "(III)V"⟩, 91), (⟨"TideDeskModel", "isShoal", "(I)Z"⟩, 91), (⟨"TideDeskModel", "goesDown", "(III)Z"⟩, 91), (⟨"TideDeskModel", "flows", "(II)Z"⟩, 91), (⟨"TideDeskModel", "heightAt", "(II)D"⟩, 91), (⟨"TideDeskModel", "halved", "(IIIZ)I"⟩, 91), (⟨"TideDeskModel", "isRange", "(II)Z"⟩, 91), (⟨"TideDeskModel", "rangeOf", "(II)D"⟩, 91), (⟨"TideDeskModel", "streams", "(II)I"⟩, 91), (⟨"TideDeskModel", "isPart", "(I)Z"⟩, 91), (⟨"TideDeskModel", "isShip", "(I)Z"⟩, 91)]
theorem lw_r3 : ∀ q ∈ lw_privs_3, lw_okq q := List.forall_mem_cons.mpr ⟨lw_p32, List.forall_mem_cons.mpr ⟨lw_p33, List.forall_mem_cons.mpr ⟨lw_p34, List.forall_mem_cons.mpr ⟨lw_p35, List.forall_mem_cons.mpr ⟨lw_p36, List.forall_mem_cons.mpr ⟨lw_p37, List.forall_mem_cons.mpr ⟨lw_p38, List.forall_mem_cons.mpr ⟨lw_p39, List.forall_mem_cons.mpr ⟨lw_p40, List.forall_mem_cons.mpr ⟨lw_p41, List.forall_mem_cons.mpr ⟨lw_p42, List.forall_mem_cons.mpr ⟨lw_p43, List.forall_mem_cons.mpr ⟨lw_p44, List.forall_mem_cons.mpr ⟨lw_p45, List.forall_mem_cons.mpr ⟨lw_p46, List.forall_mem_cons.mpr ⟨lw_p47, fun _ h => absurd h List.not_mem_nil⟩⟩⟩⟩⟩⟩⟩⟩⟩⟩⟩⟩⟩⟩⟩⟩
theorem lw_p48 : lw_okq (⟨"TideDeskModel", "asks", "(II)I"⟩, 91) := ⟨⟨by decide +kernel, by decide +kernel⟩, List.mem_of_getElem? (i := 1146) (by decide +kernel), List.mem_of_getElem? (i := 1669) (by decide +kernel), List.mem_of_getElem? (i := 1670) (by decide +kernel)⟩
theorem lw_p49 : lw_okq (⟨"TideDeskModel", "begins", "(I)V"⟩, 91) := ⟨⟨by decide +kernel, by decide +kernel⟩, List.mem_of_getElem? (i := 1146) (by decide +kernel), List.mem_of_getElem? (i := 1676) (by decide +kernel), List.mem_of_getElem? (i := 1677) (by decide +kernel)⟩
theorem lw_p50 : lw_okq (⟨"TideDeskModel", "asksOne", "(II)I"⟩, 91) := ⟨⟨by decide +kernel, by decide +kernel⟩, List.mem_of_getElem? (i := 1146) (by decide +kernel), List.mem_of_getElem? (i := 1680) (by decide +kernel), List.mem_of_getElem? (i := 1681) (by decide +kernel)⟩
theorem lw_p51 : lw_okq (⟨"TideDeskModel", "needOf", "(I)V"⟩, 91) := ⟨⟨by decide +kernel, by decide +kernel⟩, List.mem_of_getElem? (i := 1146) (by decide +kernel), List.mem_of_getElem? (i := 1684) (by decide +kernel), List.mem_of_getElem? (i := 1685) (by decide +kernel)⟩
theorem lw_p52 : lw_okq (⟨"TideDeskModel", "keelOf", "(I)V"⟩, 91) := ⟨⟨by decide +kernel, by decide +kernel⟩, List.mem_of_getElem? (i := 1146) (by decide +kernel), List.mem_of_getElem? (i := 1688) (by decide +kernel), List.mem_of_getElem? (i := 1689) (by decide +kernel)⟩
theorem lw_p53 : lw_okq (⟨"TideDeskModel", "paceOf", "(I)I"⟩, 91) := ⟨⟨by decide +kernel, by decide +kernel⟩, List.mem_of_getElem? (i := 1146) (by decide +kernel), List.mem_of_getElem? (i := 1692) (by decide +kernel), List.mem_of_getElem? (i := 1693) (by decide +kernel)⟩
theorem lw_p54 : lw_okq (⟨"TideDeskModel", "patienceOf", "(I)V"⟩, 91) := ⟨⟨by decide +kernel, by decide +kernel⟩, List.mem_of_getElem? (i := 1146) (by decide +kernel), List.mem_of_getElem? (i := 1696) (by decide +kernel), List.mem_of_getElem? (i := 1697) (by decide +kernel)⟩
theorem lw_p55 : lw_okq (⟨"TideDeskModel", "isOf", "(II)Z"⟩, 91) := ⟨⟨by decide +kernel, by decide +kernel⟩, List.mem_of_getElem? (i := 1146) (by decide +kernel), List.mem_of_getElem? (i := 1712) (by decide +kernel), List.mem_of_getElem? (i := 1713) (by decide +kernel)⟩
theorem lw_p56 : lw_okq (⟨"TideDeskModel", "stands", "(II)I"⟩, 91) := ⟨⟨by decide +kernel, by decide +kernel⟩, List.mem_of_getElem? (i := 1146) (by decide +kernel), List.mem_of_getElem? (i := 1727) (by decide +kernel), List.mem_of_getElem? (i := 1728) (by decide +kernel)⟩
theorem lw_p57 : lw_okq (⟨"TideDeskModel", "takes", "(II)Z"⟩, 91) := ⟨⟨by decide +kernel, by decide +kernel⟩, List.mem_of_getElem? (i := 1146) (by decide +kernel), List.mem_of_getElem? (i := 1731) (by decide +kernel), List.mem_of_getElem? (i := 1732) (by decide +kernel)⟩
theorem lw_p58 : lw_okq (⟨"TideDeskModel", "isStarted", "(I)Z"⟩, 91) := ⟨⟨by decide +kernel, by decide +kernel⟩, List.mem_of_getElem? (i := 1146) (by decide +kernel), List.mem_of_getElem? (i := 1756) (by decide +kernel), List.mem_of_getElem? (i := 1757) (by decide +kernel)⟩
theorem lw_p59 : lw_okq (⟨"TideDeskModel", "looks", "(III)I"⟩, 91) := ⟨⟨by decide +kernel, by decide +kernel⟩, List.mem_of_getElem? (i := 1146) (by decide +kernel), List.mem_of_getElem? (i := 1783) (by decide +kernel), List.mem_of_getElem? (i := 1784) (by decide +kernel)⟩
theorem lw_p60 : lw_okq (⟨"TideDeskModel", "passes", "(IIIZ)I"⟩, 91) := ⟨⟨by decide +kernel, by decide +kernel⟩, List.mem_of_getElem? (i := 1146) (by decide +kernel), List.mem_of_getElem? (i := 1787) (by decide +kernel), List.mem_of_getElem? (i := 1788) (by decide +kernel)⟩
theorem lw_p61 : lw_okq (⟨"TideDeskModel", "plans", "(I)V"⟩, 91) := ⟨⟨by decide +kernel, by decide +kernel⟩, List.mem_of_getElem? (i := 1146) (by decide +kernel), List.mem_of_getElem? (i := 1812) (by decide +kernel), List.mem_of_getElem? (i := 1813) (by decide +kernel)⟩
theorem lw_p62 : lw_okq (⟨"TideDeskModel", "isFree", "(I)Z"⟩, 91) := ⟨⟨by decide +kernel, by decide +kernel⟩, List.mem_of_getElem? (i := 1146) (by decide +kernel), List.mem_of_getElem? (i := 1816) (by decide +kernel), List.mem_of_getElem? (i := 1817) (by decide +kernel)⟩
theorem lw_p63 : lw_okq (⟨"TideDeskModel", "isWith", "(II)Z"⟩, 91) := ⟨⟨by decide +kernel, by decide +kernel⟩, List.mem_of_getElem? (i := 1146) (by decide +kernel), List.mem_of_getElem? (i := 1820) (by decide +kernel), List.mem_of_getElem? (i := 1821) (by decide +kernel)⟩
def lw_privs_4 : List (MethodName × Nat) := [(⟨"TideDeskModel", "asks", "(II)I"⟩, 91), (⟨"TideDeskModel", "begins", "(I)V"⟩, 91), (⟨"TideDeskModel", "asksOne", "(II)I"⟩, 91), (⟨"TideDeskModel", "needOf", "(I)V"⟩, 91), (⟨"TideDeskModel", "keelOf", "(I)V"⟩, 91), (⟨"TideDeskModel", "paceOf", "(I)I"⟩, 91), (⟨"TideDeskModel", "patienceOf", "(I)V"⟩, 91), (⟨"TideDeskModel", "isOf", "(II)Z"⟩, 91), (⟨"TideDeskModel", "stands", "(II)I"⟩, 91), (⟨"TideDeskModel", "takes", "(II)Z"⟩, 91), (⟨"TideDeskModel", "isStarted", "(I)Z"⟩, 91), (⟨"TideDeskModel", "looks", "(III)I"⟩, 91), (⟨"TideDeskModel", "passes", "(IIIZ)I"⟩, 91), (⟨"TideDeskModel", "plans", "(I)V"⟩, 91), (⟨"TideDeskModel", "isFree", "(I)Z"⟩, 91), (⟨"TideDeskModel", "isWith", "(II)Z"⟩, 91)]
theorem lw_r4 : ∀ q ∈ lw_privs_4, lw_okq q := List.forall_mem_cons.mpr ⟨lw_p48, List.forall_mem_cons.mpr ⟨lw_p49, List.forall_mem_cons.mpr ⟨lw_p50, List.forall_mem_cons.mpr ⟨lw_p51, List.forall_mem_cons.mpr ⟨lw_p52, List.forall_mem_cons.mpr ⟨lw_p53, List.forall_mem_cons.mpr ⟨lw_p54, List.forall_mem_cons.mpr ⟨lw_p55, List.forall_mem_cons.mpr ⟨lw_p56, List.forall_mem_cons.mpr ⟨lw_p57, List.forall_mem_cons.mpr ⟨lw_p58, List.forall_mem_cons.mpr ⟨lw_p59, List.forall_mem_cons.mpr ⟨lw_p60, List.forall_mem_cons.mpr ⟨lw_p61, List.forall_mem_cons.mpr ⟨lw_p62, List.forall_mem_cons.mpr ⟨lw_p63, fun _ h => absurd h List.not_mem_nil⟩⟩⟩⟩⟩⟩⟩⟩⟩⟩⟩⟩⟩⟩⟩⟩
theorem lw_p64 : lw_okq (⟨"TideDeskModel", "comesTo", "(II)I"⟩, 91) := ⟨⟨by decide +kernel, by decide +kernel⟩, List.mem_of_getElem? (i := 1146) (by decide +kernel), List.mem_of_getElem? (i := 1824) (by decide +kernel), List.mem_of_getElem? (i := 1825) (by decide +kernel)⟩
theorem lw_p65 : lw_okq (⟨"TideDeskModel", "isPassage", "(I)Z"⟩, 91) := ⟨⟨by decide +kernel, by decide +kernel⟩, List.mem_of_getElem? (i := 1146) (by decide +kernel), List.mem_of_getElem? (i := 1835) (by decide +kernel), List.mem_of_getElem? (i := 1836) (by decide +kernel)⟩
theorem lw_p66 : lw_okq (⟨"TideDeskModel", "goes", "(II)I"⟩, 91) := ⟨⟨by decide +kernel, by decide +kernel⟩, List.mem_of_getElem? (i := 1146) (by decide +kernel), List.mem_of_getElem? (i := 1847) (by decide +kernel), List.mem_of_getElem? (i := 1848) (by decide +kernel)⟩
def lw_privs_5 : List (MethodName × Nat) := [(⟨"TideDeskModel", "comesTo", "(II)I"⟩, 91), (⟨"TideDeskModel", "isPassage", "(I)Z"⟩, 91), (⟨"TideDeskModel", "goes", "(II)I"⟩, 91)]
theorem lw_r5 : ∀ q ∈ lw_privs_5, lw_okq q := List.forall_mem_cons.mpr ⟨lw_p64, List.forall_mem_cons.mpr ⟨lw_p65, List.forall_mem_cons.mpr ⟨lw_p66, fun _ h => absurd h List.not_mem_nil⟩⟩⟩
def lw_privs : List (MethodName × Nat) := lw_privs_1 ++ (lw_privs_2 ++ (lw_privs_3 ++ (lw_privs_4 ++ (lw_privs_5))))
def lw_tbl : List Cond := k2_sels lw_privs ++ tables_1
theorem lw_privs_ok : ∀ q ∈ lw_privs, lw_okq q := by
  show ∀ q ∈ lw_privs_1 ++ (lw_privs_2 ++ (lw_privs_3 ++ (lw_privs_4 ++ (lw_privs_5)))), lw_okq q
  exact List.forall_mem_append.mpr ⟨lw_r1, List.forall_mem_append.mpr ⟨lw_r2, List.forall_mem_append.mpr ⟨lw_r3, List.forall_mem_append.mpr ⟨lw_r4, lw_r5⟩⟩⟩⟩
/-- the streams that the claim lets the run draw from -/
abbrev lw_cs : List Choice := [Jvm.Choice.named "NaN.bits", Jvm.Choice.named "NaN.copy"]
theorem lw_bits : nanBits ∈ lw_cs := by first | decide | exact List.mem_cons_self | simp [lw_cs, nanBits]
def RX0 : String := "TideDesk$Findings"
def TX0 : u_T := fun k => match k with
  | 0 => ("TideDesk$Findings", "ever", "I", false)
  | _ => ("TideDesk$Findings", "latest", "I", false)
def tyX0 : Nat → FieldType := fun k => match k with
  | 0 => .int
  | _ => .int
abbrev wsX00 : List Cond := u_ws RX0 TX0 2
theorem nmX0 : ∀ a, a < 2 → ∀ b, b < 2 → a ≠ b → (TX0 a).2.1 ≠ (TX0 b).2.1 := by decide +kernel
theorem tyX0_ok : ∀ k, k < 2 → parseFieldDescriptor (TX0 k).2.2.1 = some (tyX0 k) := by decide +kernel
def RX1 : String := "TideDesk$Fleets"
def TX1 : u_T := fun k => match k with
  | 0 => ("TideDesk$Fleets", "ships", "LTideDesk$Ships;", true)
  | 1 => ("TideDesk$Fleets", "stands", "[Z", true)
  | 2 => ("TideDesk$Fleets", "sort", "[I", true)
  | 3 => ("TideDesk$Fleets", "size", "[I", true)
  | 4 => ("TideDesk$Fleets", "place", "[I", true)
  | _ => ("TideDesk$Fleets", "carried", "[I", true)
def tyX1 : Nat → FieldType := fun k => match k with
  | 0 => .object "TideDesk$Ships"
  | 1 => .array .boolean
  | 2 => .array .int
  | 3 => .array .int
  | 4 => .array .int
  | _ => .array .int
abbrev wsX10 : List Cond := u_ws RX1 TX1 6
theorem nmX1 : ∀ a, a < 6 → ∀ b, b < 6 → a ≠ b → (TX1 a).2.1 ≠ (TX1 b).2.1 := by decide +kernel
theorem tyX1_ok : ∀ k, k < 6 → parseFieldDescriptor (TX1 k).2.2.1 = some (tyX1 k) := by decide +kernel
def RX2 : String := "TideDesk$Gauges"
def TX2 : u_T := fun k => match k with
  | 0 => ("TideDesk$Gauges", "surveys", "LTideDesk$Surveys;", true)
  | 1 => ("TideDesk$Gauges", "station", "[I", true)
  | 2 => ("TideDesk$Gauges", "first", "[I", true)
  | 3 => ("TideDesk$Gauges", "step", "[I", true)
  | 4 => ("TideDesk$Gauges", "isOut", "[Z", true)
  | 5 => ("TideDesk$Gauges", "size", "[I", true)
  | 6 => ("TideDesk$Gauges", "shorts", "[S", true)
  | 7 => ("TideDesk$Gauges", "airs", "[I", true)
  | 8 => ("TideDesk$Gauges", "gathered", "[D", true)
  | 9 => ("TideDesk$Gauges", "told", "I", false)
  | 10 => ("TideDesk$Gauges", "take", "I", false)
  | 11 => ("TideDesk$Gauges", "fade", "I", false)
  | 12 => ("TideDesk$Gauges", "there", "I", false)
  | 13 => ("TideDesk$Gauges", "missing", "I", false)
  | _ => ("TideDesk$Gauges", "latest", "I", false)
def tyX2 : Nat → FieldType := fun k => match k with
  | 0 => .object "TideDesk$Surveys"
  | 1 => .array .int
  | 2 => .array .int
  | 3 => .array .int
  | 4 => .array .boolean
  | 5 => .array .int
  | 6 => .array .short
  | 7 => .array .int
  | 8 => .array .double
  | 9 => .int
  | 10 => .int
  | 11 => .int
  | 12 => .int
  | 13 => .int
  | _ => .int
abbrev wsX20 : List Cond := u_ws RX2 TX2 15
theorem nmX2 : ∀ a, a < 15 → ∀ b, b < 15 → a ≠ b → (TX2 a).2.1 ≠ (TX2 b).2.1 := by decide +kernel
theorem tyX2_ok : ∀ k, k < 15 → parseFieldDescriptor (TX2 k).2.2.1 = some (tyX2 k) := by decide +kernel
def RX3 : String := "TideDesk$Passages"
def TX3 : u_T := fun k => match k with
  | 0 => ("TideDesk$Passages", "findings", "LTideDesk$Findings;", true)
  | 1 => ("TideDesk$Passages", "ships", "LTideDesk$Ships;", true)
  | 2 => ("TideDesk$Passages", "routes", "LTideDesk$Routes;", true)
  | 3 => ("TideDesk$Passages", "shoals", "LTideDesk$Shoals;", true)
  | 4 => ("TideDesk$Passages", "voyages", "LTideDesk$Voyages;", true)
  | 5 => ("TideDesk$Passages", "ship", "[I", true)
  | 6 => ("TideDesk$Passages", "route", "[I", true)
  | 7 => ("TideDesk$Passages", "minute", "[I", true)
  | 8 => ("TideDesk$Passages", "since", "[I", true)
  | 9 => ("TideDesk$Passages", "start", "[I", true)
  | 10 => ("TideDesk$Passages", "waits", "[Z", true)
  | 11 => ("TideDesk$Passages", "coming", "[I", true)
  | 12 => ("TideDesk$Passages", "isHeld", "[Z", true)
  | 13 => ("TideDesk$Passages", "told", "I", false)
  | 14 => ("TideDesk$Passages", "tried", "I", false)
  | 15 => ("TideDesk$Passages", "holding", "I", false)
  | _ => ("TideDesk$Passages", "mostHolding", "I", false)
def tyX3 : Nat → FieldType := fun k => match k with
  | 0 => .object "TideDesk$Findings"
  | 1 => .object "TideDesk$Ships"
  | 2 => .object "TideDesk$Routes"
  | 3 => .object "TideDesk$Shoals"
  | 4 => .object "TideDesk$Voyages"
  | 5 => .array .int
  | 6 => .array .int
  | 7 => .array .int
  | 8 => .array .int
  | 9 => .array .int
  | 10 => .array .boolean
  | 11 => .array .int
  | 12 => .array .boolean
  | 13 => .int
  | 14 => .int
  | 15 => .int
  | _ => .int
abbrev wsX30 : List Cond := u_ws RX3 TX3 17
theorem nmX3 : ∀ a, a < 17 → ∀ b, b < 17 → a ≠ b → (TX3 a).2.1 ≠ (TX3 b).2.1 := by decide +kernel
theorem tyX3_ok : ∀ k, k < 17 → parseFieldDescriptor (TX3 k).2.2.1 = some (tyX3 k) := by decide +kernel
def RX4 : String := "TideDesk$Routes"
def TX4 : u_T := fun k => match k with
  | 0 => ("TideDesk$Routes", "legs", "[I", true)
  | 1 => ("TideDesk$Routes", "shoal", "[I", true)
  | 2 => ("TideDesk$Routes", "distance", "[I", true)
  | _ => ("TideDesk$Routes", "mark", "[I", true)
def tyX4 : Nat → FieldType := fun k => match k with
  | 0 => .array .int
  | 1 => .array .int
  | 2 => .array .int
  | _ => .array .int
abbrev wsX40 : List Cond := u_ws RX4 TX4 4
theorem nmX4 : ∀ a, a < 4 → ∀ b, b < 4 → a ≠ b → (TX4 a).2.1 ≠ (TX4 b).2.1 := by decide +kernel
theorem tyX4_ok : ∀ k, k < 4 → parseFieldDescriptor (TX4 k).2.2.1 = some (tyX4 k) := by decide +kernel
def RX5 : String := "TideDesk$Ships"
def TX5 : u_T := fun k => match k with
  | 0 => ("TideDesk$Ships", "kind", "[I", true)
  | 1 => ("TideDesk$Ships", "draught", "[I", true)
  | 2 => ("TideDesk$Ships", "pace", "[I", true)
  | 3 => ("TideDesk$Ships", "x", "[I", true)
  | 4 => ("TideDesk$Ships", "onePart", "[I", true)
  | 5 => ("TideDesk$Ships", "otherPart", "[I", true)
  | 6 => ("TideDesk$Ships", "pairsDeep", "[I", true)
  | 7 => ("TideDesk$Ships", "trace", "[I", true)
  | 8 => ("TideDesk$Ships", "traced", "I", false)
  | 9 => ("TideDesk$Ships", "told", "I", false)
  | _ => ("TideDesk$Ships", "fault", "I", false)
def tyX5 : Nat → FieldType := fun k => match k with
  | 0 => .array .int
  | 1 => .array .int
  | 2 => .array .int
  | 3 => .array .int
  | 4 => .array .int
  | 5 => .array .int
  | 6 => .array .int
  | 7 => .array .int
  | 8 => .int
  | 9 => .int
  | _ => .int
abbrev wsX50 : List Cond := u_ws RX5 TX5 11
theorem nmX5 : ∀ a, a < 11 → ∀ b, b < 11 → a ≠ b → (TX5 a).2.1 ≠ (TX5 b).2.1 := by decide +kernel
theorem tyX5_ok : ∀ k, k < 11 → parseFieldDescriptor (TX5 k).2.2.1 = some (tyX5 k) := by decide +kernel
def RX6 : String := "TideDesk$Shoals"
def TX6 : u_T := fun k => match k with
  | 0 => ("TideDesk$Shoals", "surveys", "LTideDesk$Surveys;", true)
  | 1 => ("TideDesk$Shoals", "gauges", "LTideDesk$Gauges;", true)
  | 2 => ("TideDesk$Shoals", "station", "[I", true)
  | 3 => ("TideDesk$Shoals", "lock", "[I", true)
  | 4 => ("TideDesk$Shoals", "bedShoal", "[I", true)
  | 5 => ("TideDesk$Shoals", "bedDay", "[I", true)
  | 6 => ("TideDesk$Shoals", "bedSince", "[I", true)
  | 7 => ("TideDesk$Shoals", "bed", "[I", true)
  | 8 => ("TideDesk$Shoals", "told", "I", false)
  | _ => ("TideDesk$Shoals", "dredgings", "I", false)
def tyX6 : Nat → FieldType := fun k => match k with
  | 0 => .object "TideDesk$Surveys"
  | 1 => .object "TideDesk$Gauges"
  | 2 => .array .int
  | 3 => .array .int
  | 4 => .array .int
  | 5 => .array .int
  | 6 => .array .int
  | 7 => .array .int
  | 8 => .int
  | _ => .int
abbrev wsX60 : List Cond := u_ws RX6 TX6 10
theorem nmX6 : ∀ a, a < 10 → ∀ b, b < 10 → a ≠ b → (TX6 a).2.1 ≠ (TX6 b).2.1 := by decide +kernel
theorem tyX6_ok : ∀ k, k < 10 → parseFieldDescriptor (TX6 k).2.2.1 = some (tyX6 k) := by decide +kernel
def RX7 : String := "TideDesk$Surveys"
def TX7 : u_T := fun k => match k with
  | 0 => ("TideDesk$Surveys", "draftMean", "[I", true)
  | 1 => ("TideDesk$Surveys", "draftWaves", "[I", true)
  | 2 => ("TideDesk$Surveys", "draftRow", "[I", true)
  | 3 => ("TideDesk$Surveys", "station", "[I", true)
  | 4 => ("TideDesk$Surveys", "day", "[I", true)
  | 5 => ("TideDesk$Surveys", "since", "[I", true)
  | 6 => ("TideDesk$Surveys", "mean", "[I", true)
  | 7 => ("TideDesk$Surveys", "waves", "[I", true)
  | 8 => ("TideDesk$Surveys", "row", "[I", true)
  | _ => ("TideDesk$Surveys", "told", "I", false)
def tyX7 : Nat → FieldType := fun k => match k with
  | 0 => .array .int
  | 1 => .array .int
  | 2 => .array .int
  | 3 => .array .int
  | 4 => .array .int
  | 5 => .array .int
  | 6 => .array .int
  | 7 => .array .int
  | 8 => .array .int
  | _ => .int
abbrev wsX70 : List Cond := u_ws RX7 TX7 10
theorem nmX7 : ∀ a, a < 10 → ∀ b, b < 10 → a ≠ b → (TX7 a).2.1 ≠ (TX7 b).2.1 := by decide +kernel
theorem tyX7_ok : ∀ k, k < 10 → parseFieldDescriptor (TX7 k).2.2.1 = some (tyX7 k) := by decide +kernel
def RX8 : String := "TideDesk$Voyages"
def TX8 : u_T := fun k => match k with
  | 0 => ("TideDesk$Voyages", "findings", "LTideDesk$Findings;", true)
  | 1 => ("TideDesk$Voyages", "ships", "LTideDesk$Ships;", true)
  | 2 => ("TideDesk$Voyages", "routes", "LTideDesk$Routes;", true)
  | 3 => ("TideDesk$Voyages", "shoals", "LTideDesk$Shoals;", true)
  | 4 => ("TideDesk$Voyages", "tides", "LTideDesk$Waters;", true)
  | 5 => ("TideDesk$Voyages", "coming", "[I", true)
  | 6 => ("TideDesk$Voyages", "rise", "I", false)
  | 7 => ("TideDesk$Voyages", "set", "I", false)
  | 8 => ("TideDesk$Voyages", "need", "I", false)
  | 9 => ("TideDesk$Voyages", "pace", "I", false)
  | _ => ("TideDesk$Voyages", "byDay", "Z", false)
def tyX8 : Nat → FieldType := fun k => match k with
  | 0 => .object "TideDesk$Findings"
  | 1 => .object "TideDesk$Ships"
  | 2 => .object "TideDesk$Routes"
  | 3 => .object "TideDesk$Shoals"
  | 4 => .object "TideDesk$Waters"
  | 5 => .array .int
  | 6 => .int
  | 7 => .int
  | 8 => .int
  | 9 => .int
  | _ => .boolean
abbrev wsX80 : List Cond := u_ws RX8 TX8 11
theorem nmX8 : ∀ a, a < 11 → ∀ b, b < 11 → a ≠ b → (TX8 a).2.1 ≠ (TX8 b).2.1 := by decide +kernel
theorem tyX8_ok : ∀ k, k < 11 → parseFieldDescriptor (TX8 k).2.2.1 = some (tyX8 k) := by decide +kernel
def RX9 : String := "TideDesk$Waters"
def TX9 : u_T := fun k => match k with
  | 0 => ("TideDesk$Waters", "surveys", "LTideDesk$Surveys;", true)
  | 1 => ("TideDesk$Waters", "size", "[I", true)
  | 2 => ("TideDesk$Waters", "moment", "[I", true)
  | 3 => ("TideDesk$Waters", "isHigh", "[Z", true)
  | 4 => ("TideDesk$Waters", "height", "[D", true)
  | 5 => ("TideDesk$Waters", "measured", "[D", true)
  | 6 => ("TideDesk$Waters", "stream", "[I", true)
  | _ => ("TideDesk$Waters", "steps", "I", false)
def tyX9 : Nat → FieldType := fun k => match k with
  | 0 => .object "TideDesk$Surveys"
  | 1 => .array .int
  | 2 => .array .int
  | 3 => .array .boolean
  | 4 => .array .double
  | 5 => .array .double
  | 6 => .array .int
  | _ => .int
abbrev wsX90 : List Cond := u_ws RX9 TX9 8
theorem nmX9 : ∀ a, a < 8 → ∀ b, b < 8 → a ≠ b → (TX9 a).2.1 ≠ (TX9 b).2.1 := by decide +kernel
theorem tyX9_ok : ∀ k, k < 8 → parseFieldDescriptor (TX9 k).2.2.1 = some (tyX9 k) := by decide +kernel
def RX10 : String := "TideDesk$Windows"
def TX10 : u_T := fun k => match k with
  | 0 => ("TideDesk$Windows", "first", "[I", true)
  | 1 => ("TideDesk$Windows", "last", "[I", true)
  | 2 => ("TideDesk$Windows", "size", "I", false)
  | 3 => ("TideDesk$Windows", "wrongMinutes", "I", false)
  | 4 => ("TideDesk$Windows", "lastWrong", "I", false)
  | _ => ("TideDesk$Windows", "isOpen", "Z", false)
def tyX10 : Nat → FieldType := fun k => match k with
  | 0 => .array .int
  | 1 => .array .int
  | 2 => .int
  | 3 => .int
  | 4 => .int
  | _ => .boolean
abbrev wsX100 : List Cond := u_ws RX10 TX10 6
theorem nmX10 : ∀ a, a < 6 → ∀ b, b < 6 → a ≠ b → (TX10 a).2.1 ≠ (TX10 b).2.1 := by decide +kernel
theorem tyX10_ok : ∀ k, k < 6 → parseFieldDescriptor (TX10 k).2.2.1 = some (tyX10 k) := by decide +kernel
def RX11 : String := "TideDesk"
def TX11 : u_T := fun k => match k with
  | 0 => ("TideDesk", "findings", "LTideDesk$Findings;", true)
  | 1 => ("TideDesk", "surveys", "LTideDesk$Surveys;", true)
  | 2 => ("TideDesk", "gauges", "LTideDesk$Gauges;", true)
  | 3 => ("TideDesk", "shoals", "LTideDesk$Shoals;", true)
  | 4 => ("TideDesk", "tides", "LTideDesk$Waters;", true)
  | 5 => ("TideDesk", "ships", "LTideDesk$Ships;", true)
  | 6 => ("TideDesk", "fleets", "LTideDesk$Fleets;", true)
  | 7 => ("TideDesk", "routes", "LTideDesk$Routes;", true)
  | 8 => ("TideDesk", "voyages", "LTideDesk$Voyages;", true)
  | 9 => ("TideDesk", "kept", "LTideDesk$Windows;", true)
  | 10 => ("TideDesk", "passages", "LTideDesk$Passages;", true)
  | 11 => ("TideDesk", "now", "I", false)
  | 12 => ("TideDesk", "lastAsked", "I", false)
  | _ => ("TideDesk", "lastLacking", "I", false)
def tyX11 : Nat → FieldType := fun k => match k with
  | 0 => .object "TideDesk$Findings"
  | 1 => .object "TideDesk$Surveys"
  | 2 => .object "TideDesk$Gauges"
  | 3 => .object "TideDesk$Shoals"
  | 4 => .object "TideDesk$Waters"
  | 5 => .object "TideDesk$Ships"
  | 6 => .object "TideDesk$Fleets"
  | 7 => .object "TideDesk$Routes"
  | 8 => .object "TideDesk$Voyages"
  | 9 => .object "TideDesk$Windows"
  | 10 => .object "TideDesk$Passages"
  | 11 => .int
  | 12 => .int
  | _ => .int
abbrev wsX110 : List Cond := u_ws RX11 TX11 14
theorem nmX11 : ∀ a, a < 14 → ∀ b, b < 14 → a ≠ b → (TX11 a).2.1 ≠ (TX11 b).2.1 := by decide +kernel
theorem tyX11_ok : ∀ k, k < 14 → parseFieldDescriptor (TX11 k).2.2.1 = some (tyX11 k) := by decide +kernel
def RX12 : String := "TideDeskModel"
def TX12 : u_T := fun k => match k with
  | 0 => ("TideDeskModel", "now", "I", false)
  | 1 => ("TideDeskModel", "finding", "I", false)
  | 2 => ("TideDeskModel", "findings", "I", false)
  | 3 => ("TideDeskModel", "mean", "[I", true)
  | 4 => ("TideDeskModel", "waves", "[I", true)
  | 5 => ("TideDeskModel", "sizes", "[I", true)
  | 6 => ("TideDeskModel", "speeds", "[I", true)
  | 7 => ("TideDeskModel", "phases", "[I", true)
  | 8 => ("TideDeskModel", "surveys", "I", false)
  | 9 => ("TideDeskModel", "surveyStation", "[I", true)
  | 10 => ("TideDeskModel", "surveyDay", "[I", true)
  | 11 => ("TideDeskModel", "surveyTold", "[I", true)
  | 12 => ("TideDeskModel", "surveyMean", "[I", true)
  | 13 => ("TideDeskModel", "surveyWaves", "[I", true)
  | 14 => ("TideDeskModel", "surveySizes", "[I", true)
  | 15 => ("TideDeskModel", "surveySpeeds", "[I", true)
  | 16 => ("TideDeskModel", "surveyPhases", "[I", true)
  | 17 => ("TideDeskModel", "level", "D", false)
  | 18 => ("TideDeskModel", "gauges", "I", false)
  | 19 => ("TideDeskModel", "gaugeStation", "[I", true)
  | 20 => ("TideDeskModel", "gaugeFirst", "[I", true)
  | 21 => ("TideDeskModel", "gaugeStep", "[I", true)
  | 22 => ("TideDeskModel", "isOut", "[Z", true)
  | 23 => ("TideDeskModel", "readings", "[I", true)
  | 24 => ("TideDeskModel", "shorts", "[I", true)
  | 25 => ("TideDeskModel", "airs", "[I", true)
  | 26 => ("TideDeskModel", "take", "I", false)
  | 27 => ("TideDeskModel", "fade", "I", false)
  | 28 => ("TideDeskModel", "steps", "I", false)
  | 29 => ("TideDeskModel", "lacking", "I", false)
  | 30 => ("TideDeskModel", "offs", "[D", true)
  | 31 => ("TideDeskModel", "surge", "D", false)
  | 32 => ("TideDeskModel", "lacks", "I", false)
  | 33 => ("TideDeskModel", "shoals", "I", false)
  | 34 => ("TideDeskModel", "shoalStation", "[I", true)
  | 35 => ("TideDeskModel", "locks", "[I", true)
  | 36 => ("TideDeskModel", "dredgings", "I", false)
  | 37 => ("TideDeskModel", "beds", "I", false)
  | 38 => ("TideDeskModel", "bedShoal", "[I", true)
  | 39 => ("TideDeskModel", "bedDay", "[I", true)
  | 40 => ("TideDeskModel", "bedTold", "[I", true)
  | 41 => ("TideDeskModel", "bedDepth", "[I", true)
  | 42 => ("TideDeskModel", "waters", "[I", true)
  | 43 => ("TideDeskModel", "waterMoment", "[I", true)
  | 44 => ("TideDeskModel", "isHigh", "[Z", true)
  | 45 => ("TideDeskModel", "waterHeight", "[D", true)
  | 46 => ("TideDeskModel", "streams", "[I", true)
  | 47 => ("TideDeskModel", "heights", "[D", true)
  | 48 => ("TideDeskModel", "streamAt", "I", false)
  | 49 => ("TideDeskModel", "ships", "I", false)
  | 50 => ("TideDeskModel", "kinds", "[I", true)
  | 51 => ("TideDeskModel", "draughts", "[I", true)
  | 52 => ("TideDeskModel", "paces", "[I", true)
  | 53 => ("TideDeskModel", "xs", "[I", true)
  | 54 => ("TideDeskModel", "parts", "[I", true)
  | 55 => ("TideDeskModel", "nested", "[I", true)
  | 56 => ("TideDeskModel", "asked", "I", false)
  | 57 => ("TideDeskModel", "traced", "I", false)
  | 58 => ("TideDeskModel", "trace", "[I", true)
  | 59 => ("TideDeskModel", "fleetSort", "[I", true)
  | 60 => ("TideDeskModel", "fleetSize", "[I", true)
  | 61 => ("TideDeskModel", "places", "[I", true)
  | 62 => ("TideDeskModel", "value", "I", false)
  | 63 => ("TideDeskModel", "pile", "[I", true)
  | 64 => ("TideDeskModel", "isSecond", "[Z", true)
  | 65 => ("TideDeskModel", "firsts", "[I", true)
  | 66 => ("TideDeskModel", "moving", "[I", true)
  | 67 => ("TideDeskModel", "legs", "[I", true)
  | 68 => ("TideDeskModel", "legShoal", "[I", true)
  | 69 => ("TideDeskModel", "legDistance", "[I", true)
  | 70 => ("TideDeskModel", "legMark", "[I", true)
  | 71 => ("TideDeskModel", "rise", "I", false)
  | 72 => ("TideDeskModel", "set", "I", false)
  | 73 => ("TideDeskModel", "windows", "I", false)
  | 74 => ("TideDeskModel", "windowFirst", "[I", true)
  | 75 => ("TideDeskModel", "windowLast", "[I", true)
  | 76 => ("TideDeskModel", "wrongs", "I", false)
  | 77 => ("TideDeskModel", "wrongLast", "I", false)
  | 78 => ("TideDeskModel", "passages", "I", false)
  | 79 => ("TideDeskModel", "passShip", "[I", true)
  | 80 => ("TideDeskModel", "passRoute", "[I", true)
  | 81 => ("TideDeskModel", "passFrom", "[I", true)
  | 82 => ("TideDeskModel", "waits", "[Z", true)
  | 83 => ("TideDeskModel", "since", "[I", true)
  | 84 => ("TideDeskModel", "starts", "[I", true)
  | 85 => ("TideDeskModel", "passPace", "[I", true)
  | 86 => ("TideDeskModel", "come", "[I", true)
  | 87 => ("TideDeskModel", "paceNow", "I", false)
  | 88 => ("TideDeskModel", "tries", "I", false)
  | 89 => ("TideDeskModel", "heldMost", "I", false)
  | _ => ("TideDeskModel", "isHeld", "[Z", true)
def tyX12 : Nat → FieldType := fun k => match k with
  | 0 => .int
  | 1 => .int
  | 2 => .int
  | 3 => .array .int
  | 4 => .array .int
  | 5 => .array .int
  | 6 => .array .int
  | 7 => .array .int
  | 8 => .int
  | 9 => .array .int
  | 10 => .array .int
  | 11 => .array .int
  | 12 => .array .int
  | 13 => .array .int
  | 14 => .array .int
  | 15 => .array .int
  | 16 => .array .int
  | 17 => .double
  | 18 => .int
  | 19 => .array .int
  | 20 => .array .int
  | 21 => .array .int
  | 22 => .array .boolean
  | 23 => .array .int
  | 24 => .array .int
  | 25 => .array .int
  | 26 => .int
  | 27 => .int
  | 28 => .int
  | 29 => .int
  | 30 => .array .double
  | 31 => .double
  | 32 => .int
  | 33 => .int
  | 34 => .array .int
  | 35 => .array .int
  | 36 => .int
  | 37 => .int
  | 38 => .array .int
  | 39 => .array .int
  | 40 => .array .int
  | 41 => .array .int
  | 42 => .array .int
  | 43 => .array .int
  | 44 => .array .boolean
  | 45 => .array .double
  | 46 => .array .int
  | 47 => .array .double
  | 48 => .int
  | 49 => .int
  | 50 => .array .int
  | 51 => .array .int
  | 52 => .array .int
  | 53 => .array .int
  | 54 => .array .int
  | 55 => .array .int
  | 56 => .int
  | 57 => .int
  | 58 => .array .int
  | 59 => .array .int
  | 60 => .array .int
  | 61 => .array .int
  | 62 => .int
  | 63 => .array .int
  | 64 => .array .boolean
  | 65 => .array .int
  | 66 => .array .int
  | 67 => .array .int
  | 68 => .array .int
  | 69 => .array .int
  | 70 => .array .int
  | 71 => .int
  | 72 => .int
  | 73 => .int
  | 74 => .array .int
  | 75 => .array .int
  | 76 => .int
  | 77 => .int
  | 78 => .int
  | 79 => .array .int
  | 80 => .array .int
  | 81 => .array .int
  | 82 => .array .boolean
  | 83 => .array .int
  | 84 => .array .int
  | 85 => .array .int
  | 86 => .array .int
  | 87 => .int
  | 88 => .int
  | 89 => .int
  | _ => .array .boolean
abbrev wsX120 : List Cond := u_ws RX12 TX12 91
theorem nmX12 : ∀ a, a < 91 → ∀ b, b < 91 → a ≠ b → (TX12 a).2.1 ≠ (TX12 b).2.1 := by decide +kernel
theorem tyX12_ok : ∀ k, k < 91 → parseFieldDescriptor (TX12 k).2.2.1 = some (tyX12 k) := by decide +kernel
abbrev vwCl : List vw_C := [(RX0, TX0, 2), (RX1, TX1, 6), (RX2, TX2, 15), (RX3, TX3, 17), (RX4, TX4, 4), (RX5, TX5, 11), (RX6, TX6, 10), (RX7, TX7, 10), (RX8, TX8, 11), (RX9, TX9, 8), (RX10, TX10, 6), (RX11, TX11, 14), (RX12, TX12, 91)]
