section
-- ===== PART A: goes FIRST, ahead of the names: the tables' words, and 'selects' of the private methods out of them =====
/-- a private method of a class that the tables say can be made, by its rows of tables_1 -/
def lw_okq (q : MethodName × Nat) : Prop := (q.1.cls ≠ "java/lang/invoke/MethodHandle" ∧ q.1.cls ≠ "java/lang/invoke/VarHandle") ∧ Cond.instantiable q.1.cls q.2 ∈ tables_1 ∧ Cond.privateMethod q.1 ∈ tables_1 ∧ Cond.instanceMethod q.1 ∈ tables_1
theorem lw_p0 : lw_okq (⟨"TideDesk", "isPast", "(I)Z"⟩, 14) := ⟨⟨by decide +kernel, by decide +kernel⟩, List.mem_of_getElem? (i := 18) (by decide +kernel), List.mem_of_getElem? (i := 574) (by decide +kernel), List.mem_of_getElem? (i := 575) (by decide +kernel)⟩
theorem lw_p1 : lw_okq (⟨"TideDesk", "isGauge", "(I)Z"⟩, 14) := ⟨⟨by decide +kernel, by decide +kernel⟩, List.mem_of_getElem? (i := 18) (by decide +kernel), List.mem_of_getElem? (i := 617) (by decide +kernel), List.mem_of_getElem? (i := 618) (by decide +kernel)⟩
theorem lw_p2 : lw_okq (⟨"TideDesk$Gauges", "keepBySize", "(D)V"⟩, 15) := ⟨⟨by decide +kernel, by decide +kernel⟩, List.mem_of_getElem? (i := 81) (by decide +kernel), List.mem_of_getElem? (i := 677) (by decide +kernel), List.mem_of_getElem? (i := 678) (by decide +kernel)⟩
theorem lw_p3 : lw_okq (⟨"TideDesk$Shoals", "addBed", "(IIII)V"⟩, 10) := ⟨⟨by decide +kernel, by decide +kernel⟩, List.mem_of_getElem? (i := 145) (by decide +kernel), List.mem_of_getElem? (i := 701) (by decide +kernel), List.mem_of_getElem? (i := 702) (by decide +kernel)⟩
theorem lw_p4 : lw_okq (⟨"TideDesk", "isShoal", "(I)Z"⟩, 14) := ⟨⟨by decide +kernel, by decide +kernel⟩, List.mem_of_getElem? (i := 18) (by decide +kernel), List.mem_of_getElem? (i := 709) (by decide +kernel), List.mem_of_getElem? (i := 710) (by decide +kernel)⟩
theorem lw_p5 : lw_okq (⟨"TideDesk$Shoals", "bedInForce", "(III)I"⟩, 10) := ⟨⟨by decide +kernel, by decide +kernel⟩, List.mem_of_getElem? (i := 145) (by decide +kernel), List.mem_of_getElem? (i := 725) (by decide +kernel), List.mem_of_getElem? (i := 726) (by decide +kernel)⟩
theorem lw_p6 : lw_okq (⟨"TideDesk$Waters", "halve", "(IIZI)I"⟩, 8) := ⟨⟨by decide +kernel, by decide +kernel⟩, List.mem_of_getElem? (i := 186) (by decide +kernel), List.mem_of_getElem? (i := 766) (by decide +kernel), List.mem_of_getElem? (i := 767) (by decide +kernel)⟩
theorem lw_p7 : lw_okq (⟨"TideDesk$Waters", "keep", "(IIZI)V"⟩, 8) := ⟨⟨by decide +kernel, by decide +kernel⟩, List.mem_of_getElem? (i := 186) (by decide +kernel), List.mem_of_getElem? (i := 770) (by decide +kernel), List.mem_of_getElem? (i := 771) (by decide +kernel)⟩
theorem lw_p8 : lw_okq (⟨"TideDesk$Waters", "nearestHigh", "(II)I"⟩, 8) := ⟨⟨by decide +kernel, by decide +kernel⟩, List.mem_of_getElem? (i := 186) (by decide +kernel), List.mem_of_getElem? (i := 813) (by decide +kernel), List.mem_of_getElem? (i := 814) (by decide +kernel)⟩
theorem lw_p9 : lw_okq (⟨"TideDesk$Ships", "deepOf", "(I)I"⟩, 11) := ⟨⟨by decide +kernel, by decide +kernel⟩, List.mem_of_getElem? (i := 223) (by decide +kernel), List.mem_of_getElem? (i := 832) (by decide +kernel), List.mem_of_getElem? (i := 833) (by decide +kernel)⟩
theorem lw_p10 : lw_okq (⟨"TideDesk", "isShipOrNothing", "(I)Z"⟩, 14) := ⟨⟨by decide +kernel, by decide +kernel⟩, List.mem_of_getElem? (i := 18) (by decide +kernel), List.mem_of_getElem? (i := 839) (by decide +kernel), List.mem_of_getElem? (i := 840) (by decide +kernel)⟩
theorem lw_p11 : lw_okq (⟨"TideDesk", "isShip", "(I)Z"⟩, 14) := ⟨⟨by decide +kernel, by decide +kernel⟩, List.mem_of_getElem? (i := 18) (by decide +kernel), List.mem_of_getElem? (i := 847) (by decide +kernel), List.mem_of_getElem? (i := 848) (by decide +kernel)⟩
theorem lw_p12 : lw_okq (⟨"TideDesk$Ships", "pairAnswer", "(III)I"⟩, 11) := ⟨⟨by decide +kernel, by decide +kernel⟩, List.mem_of_getElem? (i := 223) (by decide +kernel), List.mem_of_getElem? (i := 855) (by decide +kernel), List.mem_of_getElem? (i := 856) (by decide +kernel)⟩
theorem lw_p13 : lw_okq (⟨"TideDesk$Ships", "begin", "(I)V"⟩, 11) := ⟨⟨by decide +kernel, by decide +kernel⟩, List.mem_of_getElem? (i := 223) (by decide +kernel), List.mem_of_getElem? (i := 862) (by decide +kernel), List.mem_of_getElem? (i := 863) (by decide +kernel)⟩
theorem lw_p14 : lw_okq (⟨"TideDesk$Ships", "needOf", "(I)I"⟩, 11) := ⟨⟨by decide +kernel, by decide +kernel⟩, List.mem_of_getElem? (i := 223) (by decide +kernel), List.mem_of_getElem? (i := 870) (by decide +kernel), List.mem_of_getElem? (i := 871) (by decide +kernel)⟩
theorem lw_p15 : lw_okq (⟨"TideDesk$Ships", "keelOf", "(I)I"⟩, 11) := ⟨⟨by decide +kernel, by decide +kernel⟩, List.mem_of_getElem? (i := 223) (by decide +kernel), List.mem_of_getElem? (i := 878) (by decide +kernel), List.mem_of_getElem? (i := 879) (by decide +kernel)⟩
def lw_privs_1 : List (MethodName × Nat) := [(⟨"TideDesk", "isPast", "(I)Z"⟩, 14), (⟨"TideDesk", "isGauge", "(I)Z"⟩, 14), (⟨"TideDesk$Gauges", "keepBySize", "(D)V"⟩, 15), (⟨"TideDesk$Shoals", "addBed", "(IIII)V"⟩, 10), (⟨"TideDesk", "isShoal", "(I)Z"⟩, 14), (⟨"TideDesk$Shoals", "bedInForce", "(III)I"⟩, 10), (⟨"TideDesk$Waters", "halve", "(IIZI)I"⟩, 8), (⟨"TideDesk$Waters", "keep", "(IIZI)V"⟩, 8), (⟨"TideDesk$Waters", "nearestHigh", "(II)I"⟩, 8), (⟨"TideDesk$Ships", "deepOf", "(I)I"⟩, 11), (⟨"TideDesk", "isShipOrNothing", "(I)Z"⟩, 14), (⟨"TideDesk", "isShip", "(I)Z"⟩, 14), (⟨"TideDesk$Ships", "pairAnswer", "(III)I"⟩, 11), (⟨"TideDesk$Ships", "begin", "(I)V"⟩, 11), (⟨"TideDesk$Ships", "needOf", "(I)I"⟩, 11), (⟨"TideDesk$Ships", "keelOf", "(I)I"⟩, 11)]
theorem lw_r1 : ∀ q ∈ lw_privs_1, lw_okq q := List.forall_mem_cons.mpr ⟨lw_p0, List.forall_mem_cons.mpr ⟨lw_p1, List.forall_mem_cons.mpr ⟨lw_p2, List.forall_mem_cons.mpr ⟨lw_p3, List.forall_mem_cons.mpr ⟨lw_p4, List.forall_mem_cons.mpr ⟨lw_p5, List.forall_mem_cons.mpr ⟨lw_p6, List.forall_mem_cons.mpr ⟨lw_p7, List.forall_mem_cons.mpr ⟨lw_p8, List.forall_mem_cons.mpr ⟨lw_p9, List.forall_mem_cons.mpr ⟨lw_p10, List.forall_mem_cons.mpr ⟨lw_p11, List.forall_mem_cons.mpr ⟨lw_p12, List.forall_mem_cons.mpr ⟨lw_p13, List.forall_mem_cons.mpr ⟨lw_p14, List.forall_mem_cons.mpr ⟨lw_p15, fun _ h => absurd h List.not_mem_nil⟩⟩⟩⟩⟩⟩⟩⟩⟩⟩⟩⟩⟩⟩⟩⟩
theorem lw_p16 : lw_okq (⟨"TideDesk$Ships", "paceOf", "(I)I"⟩, 11) := ⟨⟨by decide +kernel, by decide +kernel⟩, List.mem_of_getElem? (i := 223) (by decide +kernel), List.mem_of_getElem? (i := 882) (by decide +kernel), List.mem_of_getElem? (i := 883) (by decide +kernel)⟩
theorem lw_p17 : lw_okq (⟨"TideDesk$Ships", "patienceOf", "(I)I"⟩, 11) := ⟨⟨by decide +kernel, by decide +kernel⟩, List.mem_of_getElem? (i := 223) (by decide +kernel), List.mem_of_getElem? (i := 886) (by decide +kernel), List.mem_of_getElem? (i := 887) (by decide +kernel)⟩
theorem lw_p18 : lw_okq (⟨"TideDesk$Voyages", "tryLeg", "(III)I"⟩, 11) := ⟨⟨by decide +kernel, by decide +kernel⟩, List.mem_of_getElem? (i := 295) (by decide +kernel), List.mem_of_getElem? (i := 1013) (by decide +kernel), List.mem_of_getElem? (i := 1014) (by decide +kernel)⟩
theorem lw_p19 : lw_okq (⟨"TideDesk$Passages", "meetsAny", "(I)Z"⟩, 17) := ⟨⟨by decide +kernel, by decide +kernel⟩, List.mem_of_getElem? (i := 395) (by decide +kernel), List.mem_of_getElem? (i := 1073) (by decide +kernel), List.mem_of_getElem? (i := 1074) (by decide +kernel)⟩
theorem lw_p20 : lw_okq (⟨"TideDesk$Passages", "meets", "(II)Z"⟩, 17) := ⟨⟨by decide +kernel, by decide +kernel⟩, List.mem_of_getElem? (i := 395) (by decide +kernel), List.mem_of_getElem? (i := 1077) (by decide +kernel), List.mem_of_getElem? (i := 1078) (by decide +kernel)⟩
theorem lw_p21 : lw_okq (⟨"TideDesk$Passages", "meetInLock", "(IIII)Z"⟩, 17) := ⟨⟨by decide +kernel, by decide +kernel⟩, List.mem_of_getElem? (i := 395) (by decide +kernel), List.mem_of_getElem? (i := 1081) (by decide +kernel), List.mem_of_getElem? (i := 1082) (by decide +kernel)⟩
theorem lw_p22 : lw_okq (⟨"TideDesk$Passages", "meetInReach", "(IIII)Z"⟩, 17) := ⟨⟨by decide +kernel, by decide +kernel⟩, List.mem_of_getElem? (i := 395) (by decide +kernel), List.mem_of_getElem? (i := 1085) (by decide +kernel), List.mem_of_getElem? (i := 1086) (by decide +kernel)⟩
theorem lw_p23 : lw_okq (⟨"TideDesk$Passages", "keepComing", "(I)V"⟩, 17) := ⟨⟨by decide +kernel, by decide +kernel⟩, List.mem_of_getElem? (i := 395) (by decide +kernel), List.mem_of_getElem? (i := 1089) (by decide +kernel), List.mem_of_getElem? (i := 1090) (by decide +kernel)⟩
theorem lw_p24 : lw_okq (⟨"TideDesk", "isPassage", "(I)Z"⟩, 14) := ⟨⟨by decide +kernel, by decide +kernel⟩, List.mem_of_getElem? (i := 18) (by decide +kernel), List.mem_of_getElem? (i := 1097) (by decide +kernel), List.mem_of_getElem? (i := 1098) (by decide +kernel)⟩
theorem lw_p25 : lw_okq (⟨"TideDesk$Passages", "holdLocks", "(I)Z"⟩, 17) := ⟨⟨by decide +kernel, by decide +kernel⟩, List.mem_of_getElem? (i := 395) (by decide +kernel), List.mem_of_getElem? (i := 1114) (by decide +kernel), List.mem_of_getElem? (i := 1115) (by decide +kernel)⟩
theorem lw_p26 : lw_okq (⟨"TideDesk$Passages", "askAtLast", "(I)I"⟩, 17) := ⟨⟨by decide +kernel, by decide +kernel⟩, List.mem_of_getElem? (i := 395) (by decide +kernel), List.mem_of_getElem? (i := 1118) (by decide +kernel), List.mem_of_getElem? (i := 1119) (by decide +kernel)⟩
theorem lw_p27 : lw_okq (⟨"TideDesk$Passages", "freeAll", "()V"⟩, 17) := ⟨⟨by decide +kernel, by decide +kernel⟩, List.mem_of_getElem? (i := 395) (by decide +kernel), List.mem_of_getElem? (i := 1122) (by decide +kernel), List.mem_of_getElem? (i := 1123) (by decide +kernel)⟩
theorem lw_p28 : lw_okq (⟨"TideDeskModel", "isKnowing", "(II)Z"⟩, 91) := ⟨⟨by decide +kernel, by decide +kernel⟩, List.mem_of_getElem? (i := 1146) (by decide +kernel), List.mem_of_getElem? (i := 1484) (by decide +kernel), List.mem_of_getElem? (i := 1485) (by decide +kernel)⟩
theorem lw_p29 : lw_okq (⟨"TideDeskModel", "isFull", "()Z"⟩, 91) := ⟨⟨by decide +kernel, by decide +kernel⟩, List.mem_of_getElem? (i := 1146) (by decide +kernel), List.mem_of_getElem? (i := 1488) (by decide +kernel), List.mem_of_getElem? (i := 1489) (by decide +kernel)⟩
theorem lw_p30 : lw_okq (⟨"TideDeskModel", "rises", "(III)Z"⟩, 91) := ⟨⟨by decide +kernel, by decide +kernel⟩, List.mem_of_getElem? (i := 1146) (by decide +kernel), List.mem_of_getElem? (i := 1493) (by decide +kernel), List.mem_of_getElem? (i := 1494) (by decide +kernel)⟩
theorem lw_p31 : lw_okq (⟨"TideDeskModel", "inForce", "(III)I"⟩, 91) := ⟨⟨by decide +kernel, by decide +kernel⟩, List.mem_of_getElem? (i := 1146) (by decide +kernel), List.mem_of_getElem? (i := 1497) (by decide +kernel), List.mem_of_getElem? (i := 1498) (by decide +kernel)⟩
def lw_privs_2 : List (MethodName × Nat) := [(⟨"TideDesk$Ships", "paceOf", "(I)I"⟩, 11), (⟨"TideDesk$Ships", "patienceOf", "(I)I"⟩, 11), (⟨"TideDesk$Voyages", "tryLeg", "(III)I"⟩, 11), (⟨"TideDesk$Passages", "meetsAny", "(I)Z"⟩, 17), (⟨"TideDesk$Passages", "meets", "(II)Z"⟩, 17), (⟨"TideDesk$Passages", "meetInLock", "(IIII)Z"⟩, 17), (⟨"TideDesk$Passages", "meetInReach", "(IIII)Z"⟩, 17), (⟨"TideDesk$Passages", "keepComing", "(I)V"⟩, 17), (⟨"TideDesk", "isPassage", "(I)Z"⟩, 14), (⟨"TideDesk$Passages", "holdLocks", "(I)Z"⟩, 17), (⟨"TideDesk$Passages", "askAtLast", "(I)I"⟩, 17), (⟨"TideDesk$Passages", "freeAll", "()V"⟩, 17), (⟨"TideDeskModel", "isKnowing", "(II)Z"⟩, 91), (⟨"TideDeskModel", "isFull", "()Z"⟩, 91), (⟨"TideDeskModel", "rises", "(III)Z"⟩, 91), (⟨"TideDeskModel", "inForce", "(III)I"⟩, 91)]
theorem lw_r2 : ∀ q ∈ lw_privs_2, lw_okq q := List.forall_mem_cons.mpr ⟨lw_p16, List.forall_mem_cons.mpr ⟨lw_p17, List.forall_mem_cons.mpr ⟨lw_p18, List.forall_mem_cons.mpr ⟨lw_p19, List.forall_mem_cons.mpr ⟨lw_p20, List.forall_mem_cons.mpr ⟨lw_p21, List.forall_mem_cons.mpr ⟨lw_p22, List.forall_mem_cons.mpr ⟨lw_p23, List.forall_mem_cons.mpr ⟨lw_p24, List.forall_mem_cons.mpr ⟨lw_p25, List.forall_mem_cons.mpr ⟨lw_p26, List.forall_mem_cons.mpr ⟨lw_p27, List.forall_mem_cons.mpr ⟨lw_p28, List.forall_mem_cons.mpr ⟨lw_p29, List.forall_mem_cons.mpr ⟨lw_p30, List.forall_mem_cons.mpr ⟨lw_p31, fun _ h => absurd h List.not_mem_nil⟩⟩⟩⟩⟩⟩⟩⟩⟩⟩⟩⟩⟩⟩⟩⟩
theorem lw_p32 : lw_okq (⟨"TideDeskModel", "fails", "(I)I"⟩, 91) := ⟨⟨by decide +kernel, by decide +kernel⟩, List.mem_of_getElem? (i := 1146) (by decide +kernel), List.mem_of_getElem? (i := 1505) (by decide +kernel), List.mem_of_getElem? (i := 1506) (by decide +kernel)⟩
theorem lw_p33 : lw_okq (⟨"TideDeskModel", "isGauge", "(I)Z"⟩, 91) := ⟨⟨by decide +kernel, by decide +kernel⟩, List.mem_of_getElem? (i := 1146) (by decide +kernel), List.mem_of_getElem? (i := 1521) (by decide +kernel), List.mem_of_getElem? (i := 1522) (by decide +kernel)⟩
theorem lw_p34 : lw_okq (⟨"TideDeskModel", "momentOf", "(II)I"⟩, 91) := ⟨⟨by decide +kernel, by decide +kernel⟩, List.mem_of_getElem? (i := 1146) (by decide +kernel), List.mem_of_getElem? (i := 1525) (by decide +kernel), List.mem_of_getElem? (i := 1526) (by decide +kernel)⟩
theorem lw_p35 : lw_okq (⟨"TideDeskModel", "reads", "(II)I"⟩, 91) := ⟨⟨by decide +kernel, by decide +kernel⟩, List.mem_of_getElem? (i := 1146) (by decide +kernel), List.mem_of_getElem? (i := 1543) (by decide +kernel), List.mem_of_getElem? (i := 1544) (by decide +kernel)⟩
theorem lw_p36 : lw_okq (⟨"TideDeskModel", "surges", "(II)I"⟩, 91) := ⟨⟨by decide +kernel, by decide +kernel⟩, List.mem_of_getElem? (i := 1146) (by decide +kernel), List.mem_of_getElem? (i := 1566) (by decide +kernel), List.mem_of_getElem? (i := 1567) (by decide +kernel)⟩
theorem lw_p37 : lw_okq (⟨"TideDeskModel", "lay", "(III)V"⟩, 91) := ⟨⟨by decide +kernel, by decide +kernel⟩, List.mem_of_getElem? (i := 1146) (by decide +kernel), List.mem_of_getElem? (i := 1579) (by decide +kernel), List.mem_of_getElem? (i := 1580) (by decide +kernel)⟩
theorem lw_p38 : lw_okq (⟨"TideDeskModel", "isShoal", "(I)Z"⟩, 91) := ⟨⟨by decide +kernel, by decide +kernel⟩, List.mem_of_getElem? (i := 1146) (by decide +kernel), List.mem_of_getElem? (i := 1587) (by decide +kernel), List.mem_of_getElem? (i := 1588) (by decide +kernel)⟩
theorem lw_p39 : lw_okq (⟨"TideDeskModel", "goesDown", "(III)Z"⟩, 91) := ⟨⟨by decide +kernel, by decide +kernel⟩, List.mem_of_getElem? (i := 1146) (by decide +kernel), List.mem_of_getElem? (i := 1595) (by decide +kernel), List.mem_of_getElem? (i := 1596) (by decide +kernel)⟩
theorem lw_p40 : lw_okq (⟨"TideDeskModel", "flows", "(II)Z"⟩, 91) := ⟨⟨by decide +kernel, by decide +kernel⟩, List.mem_of_getElem? (i := 1146) (by decide +kernel), List.mem_of_getElem? (i := 1603) (by decide +kernel), List.mem_of_getElem? (i := 1604) (by decide +kernel)⟩
theorem lw_p41 : lw_okq (⟨"TideDeskModel", "heightAt", "(II)D"⟩, 91) := ⟨⟨by decide +kernel, by decide +kernel⟩, List.mem_of_getElem? (i := 1146) (by decide +kernel), List.mem_of_getElem? (i := 1611) (by decide +kernel), List.mem_of_getElem? (i := 1612) (by decide +kernel)⟩
theorem lw_p42 : lw_okq (⟨"TideDeskModel", "halved", "(IIIZ)I"⟩, 91) := ⟨⟨by decide +kernel, by decide +kernel⟩, List.mem_of_getElem? (i := 1146) (by decide +kernel), List.mem_of_getElem? (i := 1615) (by decide +kernel), List.mem_of_getElem? (i := 1616) (by decide +kernel)⟩
theorem lw_p43 : lw_okq (⟨"TideDeskModel", "isRange", "(II)Z"⟩, 91) := ⟨⟨by decide +kernel, by decide +kernel⟩, List.mem_of_getElem? (i := 1146) (by decide +kernel), List.mem_of_getElem? (i := 1627) (by decide +kernel), List.mem_of_getElem? (i := 1628) (by decide +kernel)⟩
theorem lw_p44 : lw_okq (⟨"TideDeskModel", "rangeOf", "(II)D"⟩, 91) := ⟨⟨by decide +kernel, by decide +kernel⟩, List.mem_of_getElem? (i := 1146) (by decide +kernel), List.mem_of_getElem? (i := 1631) (by decide +kernel), List.mem_of_getElem? (i := 1632) (by decide +kernel)⟩
theorem lw_p45 : lw_okq (⟨"TideDeskModel", "streams", "(II)I"⟩, 91) := ⟨⟨by decide +kernel, by decide +kernel⟩, List.mem_of_getElem? (i := 1146) (by decide +kernel), List.mem_of_getElem? (i := 1649) (by decide +kernel), List.mem_of_getElem? (i := 1650) (by decide +kernel)⟩
theorem lw_p46 : lw_okq (⟨"TideDeskModel", "isPart", "(I)Z"⟩, 91) := ⟨⟨by decide +kernel, by decide +kernel⟩, List.mem_of_getElem? (i := 1146) (by decide +kernel), List.mem_of_getElem? (i := 1657) (by decide +kernel), List.mem_of_getElem? (i := 1658) (by decide +kernel)⟩
theorem lw_p47 : lw_okq (⟨"TideDeskModel", "isShip", "(I)Z"⟩, 91) := ⟨⟨by decide +kernel, by decide +kernel⟩, List.mem_of_getElem? (i := 1146) (by decide +kernel), List.mem_of_getElem? (i := 1661) (by decide +kernel), List.mem_of_getElem? (i := 1662) (by decide +kernel)⟩
def lw_privs_3 : List (MethodName × Nat) := [(⟨"TideDeskModel", "fails", "(I)I"⟩, 91), (⟨"TideDeskModel", "isGauge", "(I)Z"⟩, 91), (⟨"TideDeskModel", "momentOf", "(II)I"⟩, 91), (⟨"TideDeskModel", "reads", "(II)I"⟩, 91), (⟨"TideDeskModel", "surges", "(II)I"⟩, 91), (⟨"TideDeskModel", "lay", "(III)V"⟩, 91), (⟨"TideDeskModel", "isShoal", "(I)Z"⟩, 91), (⟨"TideDeskModel", "goesDown", "(III)Z"⟩, 91), (⟨"TideDeskModel", "flows", "(II)Z"⟩, 91), (⟨"TideDeskModel", "heightAt", "(II)D"⟩, 91), (⟨"TideDeskModel", "halved", "(IIIZ)I"⟩, 91), (⟨"TideDeskModel", "isRange", "(II)Z"⟩, 91), (⟨"TideDeskModel", "rangeOf", "(II)D"⟩, 91), (⟨"TideDeskModel", "streams", "(II)I"⟩, 91), (⟨"TideDeskModel", "isPart", "(I)Z"⟩, 91), (⟨"TideDeskModel", "isShip", "(I)Z"⟩, 91)]
theorem lw_r3 : ∀ q ∈ lw_privs_3, lw_okq q := List.forall_mem_cons.mpr ⟨lw_p32, List.forall_mem_cons.mpr ⟨lw_p33, List.forall_mem_cons.mpr ⟨lw_p34, List.forall_mem_cons.mpr ⟨lw_p35, List.forall_mem_cons.mpr ⟨lw_p36, List.forall_mem_cons.mpr ⟨lw_p37, List.forall_mem_cons.mpr ⟨lw_p38, List.forall_mem_cons.mpr ⟨lw_p39, List.forall_mem_cons.mpr ⟨lw_p40, List.forall_mem_cons.mpr ⟨lw_p41, List.forall_mem_cons.mpr ⟨lw_p42, List.forall_mem_cons.mpr ⟨lw_p43, List.forall_mem_cons.mpr ⟨lw_p44, List.forall_mem_cons.mpr ⟨lw_p45, List.forall_mem_cons.mpr ⟨lw_p46, List.forall_mem_cons.mpr ⟨lw_p47, fun _ h => absurd h List.not_mem_nil⟩⟩⟩⟩⟩⟩⟩⟩⟩⟩⟩⟩⟩⟩⟩⟩
theorem lw_p48 : lw_okq (⟨"TideDeskModel", "asks", "(II)I"⟩, 91) := ⟨⟨by decide +kernel, by decide +kernel⟩, List.mem_of_getElem? (i := 1146) (by decide +kernel), List.mem_of_getElem? (i := 1669) (by decide +kernel), List.mem_of_getElem? (i := 1670) (by decide +kernel)⟩
theorem lw_p49 : lw_okq (⟨"TideDeskModel", "begins", "(I)V"⟩, 91) := ⟨⟨by decide +kernel, by decide +kernel⟩, List.mem_of_getElem? (i := 1146) (by decide +kernel), List.mem_of_getElem? (i := 1676) (by decide +kernel), List.mem_of_getElem? (i := 1677) (by decide +kernel)⟩
theorem lw_p50 : lw_okq (⟨"TideDeskModel", "asksOne", "(II)I"⟩, 91) := ⟨⟨by decide +kernel, by decide +kernel⟩, List.mem_of_getElem? (i := 1146) (by decide +kernel), List.mem_of_getElem? (i := 1680) (by decide +kernel), List.mem_of_getElem? (i := 1681) (by decide +kernel)⟩
theorem lw_p51 : lw_okq (⟨"TideDeskModel", "needOf", "(I)V"⟩, 91) := ⟨⟨by decide +kernel, by decide +kernel⟩, List.mem_of_getElem? (i := 1146) (by decide +kernel), List.mem_of_getElem? (i := 1684) (by decide +kernel), List.mem_of_getElem? (i := 1685) (by decide +kernel)⟩
theorem lw_p52 : lw_okq (⟨"TideDeskModel", "keelOf", "(I)V"⟩, 91) := ⟨⟨by decide +kernel, by decide +kernel⟩, List.mem_of_getElem? (i := 1146) (by decide +kernel), List.mem_of_getElem? (i := 1688) (by decide +kernel), List.mem_of_getElem? (i := 1689) (by decide +kernel)⟩
theorem lw_p53 : lw_okq (⟨"TideDeskModel", "paceOf", "(I)I"⟩, 91) := ⟨⟨by decide +kernel, by decide +kernel⟩, List.mem_of_getElem? (i := 1146) (by decide +kernel), List.mem_of_getElem? (i := 1692) (by decide +kernel), List.mem_of_getElem? (i := 1693) (by decide +kernel)⟩
theorem lw_p54 : lw_okq (⟨"TideDeskModel", "patienceOf", "(I)V"⟩, 91) := ⟨⟨by decide +kernel, by decide +kernel⟩, List.mem_of_getElem? (i := 1146) (by decide +kernel), List.mem_of_getElem? (i := 1696) (by decide +kernel), List.mem_of_getElem? (i := 1697) (by decide +kernel)⟩
theorem lw_p55 : lw_okq (⟨"TideDeskModel", "isOf", "(II)Z"⟩, 91) := ⟨⟨by decide +kernel, by decide +kernel⟩, List.mem_of_getElem? (i := 1146) (by decide +kernel), List.mem_of_getElem? (i := 1712) (by decide +kernel), List.mem_of_getElem? (i := 1713) (by decide +kernel)⟩
theorem lw_p56 : lw_okq (⟨"TideDeskModel", "stands", "(II)I"⟩, 91) := ⟨⟨by decide +kernel, by decide +kernel⟩, List.mem_of_getElem? (i := 1146) (by decide +kernel), List.mem_of_getElem? (i := 1727) (by decide +kernel), List.mem_of_getElem? (i := 1728) (by decide +kernel)⟩
theorem lw_p57 : lw_okq (⟨"TideDeskModel", "takes", "(II)Z"⟩, 91) := ⟨⟨by decide +kernel, by decide +kernel⟩, List.mem_of_getElem? (i := 1146) (by decide +kernel), List.mem_of_getElem? (i := 1731) (by decide +kernel), List.mem_of_getElem? (i := 1732) (by decide +kernel)⟩
theorem lw_p58 : lw_okq (⟨"TideDeskModel", "isStarted", "(I)Z"⟩, 91) := ⟨⟨by decide +kernel, by decide +kernel⟩, List.mem_of_getElem? (i := 1146) (by decide +kernel), List.mem_of_getElem? (i := 1756) (by decide +kernel), List.mem_of_getElem? (i := 1757) (by decide +kernel)⟩
theorem lw_p59 : lw_okq (⟨"TideDeskModel", "looks", "(III)I"⟩, 91) := ⟨⟨by decide +kernel, by decide +kernel⟩, List.mem_of_getElem? (i := 1146) (by decide +kernel), List.mem_of_getElem? (i := 1783) (by decide +kernel), List.mem_of_getElem? (i := 1784) (by decide +kernel)⟩
theorem lw_p60 : lw_okq (⟨"TideDeskModel", "passes", "(IIIZ)I"⟩, 91) := ⟨⟨by decide +kernel, by decide +kernel⟩, List.mem_of_getElem? (i := 1146) (by decide +kernel), List.mem_of_getElem? (i := 1787) (by decide +kernel), List.mem_of_getElem? (i := 1788) (by decide +kernel)⟩
theorem lw_p61 : lw_okq (⟨"TideDeskModel", "plans", "(I)V"⟩, 91) := ⟨⟨by decide +kernel, by decide +kernel⟩, List.mem_of_getElem? (i := 1146) (by decide +kernel), List.mem_of_getElem? (i := 1812) (by decide +kernel), List.mem_of_getElem? (i := 1813) (by decide +kernel)⟩
theorem lw_p62 : lw_okq (⟨"TideDeskModel", "isFree", "(I)Z"⟩, 91) := ⟨⟨by decide +kernel, by decide +kernel⟩, List.mem_of_getElem? (i := 1146) (by decide +kernel), List.mem_of_getElem? (i := 1816) (by decide +kernel), List.mem_of_getElem? (i := 1817) (by decide +kernel)⟩
theorem lw_p63 : lw_okq (⟨"TideDeskModel", "isWith", "(II)Z"⟩, 91) := ⟨⟨by decide +kernel, by decide +kernel⟩, List.mem_of_getElem? (i := 1146) (by decide +kernel), List.mem_of_getElem? (i := 1820) (by decide +kernel), List.mem_of_getElem? (i := 1821) (by decide +kernel)⟩
def lw_privs_4 : List (MethodName × Nat) := [(⟨"TideDeskModel", "asks", "(II)I"⟩, 91), (⟨"TideDeskModel", "begins", "(I)V"⟩, 91), (⟨"TideDeskModel", "asksOne", "(II)I"⟩, 91), (⟨"TideDeskModel", "needOf", "(I)V"⟩, 91), (⟨"TideDeskModel", "keelOf", "(I)V"⟩, 91), (⟨"TideDeskModel", "paceOf", "(I)I"⟩, 91), (⟨"TideDeskModel", "patienceOf", "(I)V"⟩, 91), (⟨"TideDeskModel", "isOf", "(II)Z"⟩, 91), (⟨"TideDeskModel", "stands", "(II)I"⟩, 91), (⟨"TideDeskModel", "takes", "(II)Z"⟩, 91), (⟨"TideDeskModel", "isStarted", "(I)Z"⟩, 91), (⟨"TideDeskModel", "looks", "(III)I"⟩, 91), (⟨"TideDeskModel", "passes", "(IIIZ)I"⟩, 91), (⟨"TideDeskModel", "plans", "(I)V"⟩, 91), (⟨"TideDeskModel", "isFree", "(I)Z"⟩, 91), (⟨"TideDeskModel", "isWith", "(II)Z"⟩, 91)]
theorem lw_r4 : ∀ q ∈ lw_privs_4, lw_okq q := List.forall_mem_cons.mpr ⟨lw_p48, List.forall_mem_cons.mpr ⟨lw_p49, List.forall_mem_cons.mpr ⟨lw_p50, List.forall_mem_cons.mpr ⟨lw_p51, List.forall_mem_cons.mpr ⟨lw_p52, List.forall_mem_cons.mpr ⟨lw_p53, List.forall_mem_cons.mpr ⟨lw_p54, List.forall_mem_cons.mpr ⟨lw_p55, List.forall_mem_cons.mpr ⟨lw_p56, List.forall_mem_cons.mpr ⟨lw_p57, List.forall_mem_cons.mpr ⟨lw_p58, List.forall_mem_cons.mpr ⟨lw_p59, List.forall_mem_cons.mpr ⟨lw_p60, List.forall_mem_cons.mpr ⟨lw_p61, List.forall_mem_cons.mpr ⟨lw_p62, List.forall_mem_cons.mpr ⟨lw_p63, fun _ h => absurd h List.not_mem_nil⟩⟩⟩⟩⟩⟩⟩⟩⟩⟩⟩⟩⟩⟩⟩⟩
theorem lw_p64 : lw_okq (⟨"TideDeskModel", "comesTo", "(II)I"⟩, 91) := ⟨⟨by decide +kernel, by decide +kernel⟩, List.mem_of_getElem? (i := 1146) (by decide +kernel), List.mem_of_getElem? (i := 1824) (by decide +kernel), List.mem_of_getElem? (i := 1825) (by decide +kernel)⟩
theorem lw_p65 : lw_okq (⟨"TideDeskModel", "isPassage", "(I)Z"⟩, 91) := ⟨⟨by decide +kernel, by decide +kernel⟩, List.mem_of_getElem? (i := 1146) (by decide +kernel), List.mem_of_getElem? (i := 1835) (by decide +kernel), List.mem_of_getElem? (i := 1836) (by decide +kernel)⟩
theorem lw_p66 : lw_okq (⟨"TideDeskModel", "goes", "(II)I"⟩, 91) := ⟨⟨by decide +kernel, by decide +kernel⟩, List.mem_of_getElem? (i := 1146) (by decide +kernel), List.mem_of_getElem? (i := 1847) (by decide +kernel), List.mem_of_getElem? (i := 1848) (by decide +kernel)⟩
def lw_privs_5 : List (MethodName × Nat) := [(⟨"TideDeskModel", "comesTo", "(II)I"⟩, 91), (⟨"TideDeskModel", "isPassage", "(I)Z"⟩, 91), (⟨"TideDeskModel", "goes", "(II)I"⟩, 91)]
theorem lw_r5 : ∀ q ∈ lw_privs_5, lw_okq q := List.forall_mem_cons.mpr ⟨lw_p64, List.forall_mem_cons.mpr ⟨lw_p65, List.forall_mem_cons.mpr ⟨lw_p66, fun _ h => absurd h List.not_mem_nil⟩⟩⟩
def lw_privs : List (MethodName × Nat) := lw_privs_1 ++ (lw_privs_2 ++ (lw_privs_3 ++ (lw_privs_4 ++ (lw_privs_5))))
def lw_tbl : List Cond := k2_sels lw_privs ++ tables_1
theorem lw_privs_ok : ∀ q ∈ lw_privs, lw_okq q := by
  show ∀ q ∈ lw_privs_1 ++ (lw_privs_2 ++ (lw_privs_3 ++ (lw_privs_4 ++ (lw_privs_5)))), lw_okq q
  exact List.forall_mem_append.mpr ⟨lw_r1, List.forall_mem_append.mpr ⟨lw_r2, List.forall_mem_append.mpr ⟨lw_r3, List.forall_mem_append.mpr ⟨lw_r4, lw_r5⟩⟩⟩⟩
/-- the streams that the claim lets the run draw from -/
abbrev lw_cs : List Choice := [Jvm.Choice.named "NaN.bits", Jvm.Choice.named "NaN.copy"]
theorem lw_bits : nanBits ∈ lw_cs := by first | decide | exact List.mem_cons_self | simp [lw_cs, nanBits]
def RX0 : String := "TideDesk$Findings"
def TX0 : u_T := fun k => match k with
  | 0 => ("TideDesk$Findings", "ever", "I", false)
  | _ => ("TideDesk$Findings", "latest", "I", false)
def tyX0 : Nat → FieldType := fun k => match k with
  | 0 => .int
  | _ => .int
abbrev wsX00 : List Cond := u_ws RX0 TX0 2
theorem nmX0 : ∀ a, a < 2 → ∀ b, b < 2 → a ≠ b → (TX0 a).2.1 ≠ (TX0 b).2.1 := by decide +kernel
theorem tyX0_ok : ∀ k, k < 2 → parseFieldDescriptor (TX0 k).2.2.1 = some (tyX0 k) := by decide +kernel
def RX1 : String := "TideDesk$Fleets"
def TX1 : u_T := fun k => match k with
  | 0 => ("TideDesk$Fleets", "ships", "LTideDesk$Ships;", true)
  | 1 => ("TideDesk$Fleets", "stands", "[Z", true)
  | 2 => ("TideDesk$Fleets", "sort", "[I", true)
  | 3 => ("TideDesk$Fleets", "size", "[I", true)
  | 4 => ("TideDesk$Fleets", "place", "[I", true)
  | _ => ("TideDesk$Fleets", "carried", "[I", true)
def tyX1 : Nat → FieldType := fun k => match k with
  | 0 => .object "TideDesk$Ships"
  | 1 => .array .boolean
  | 2 => .array .int
  | 3 => .array .int
  | 4 => .array .int
  | _ => .array .int
abbrev wsX10 : List Cond := u_ws RX1 TX1 6
theorem nmX1 : ∀ a, a < 6 → ∀ b, b < 6 → a ≠ b → (TX1 a).2.1 ≠ (TX1 b).2.1 := by decide +kernel
theorem tyX1_ok : ∀ k, k < 6 → parseFieldDescriptor (TX1 k).2.2.1 = some (tyX1 k) := by decide +kernel
def RX2 : String := "TideDesk$Gauges"
def TX2 : u_T := fun k => match k with
  | 0 => ("TideDesk$Gauges", "surveys", "LTideDesk$Surveys;", true)
  | 1 => ("TideDesk$Gauges", "station", "[I", true)
  | 2 => ("TideDesk$Gauges", "first", "[I", true)
  | 3 => ("TideDesk$Gauges", "step", "[I", true)
  | 4 => ("TideDesk$Gauges", "isOut", "[Z", true)
  | 5 => ("TideDesk$Gauges", "size", "[I", true)
  | 6 => ("TideDesk$Gauges", "shorts", "[S", true)
  | 7 => ("TideDesk$Gauges", "airs", "[I", true)
  | 8 => ("TideDesk$Gauges", "gathered", "[D", true)
  | 9 => ("TideDesk$Gauges", "told", "I", false)
  | 10 => ("TideDesk$Gauges", "take", "I", false)
  | 11 => ("TideDesk$Gauges", "fade", "I", false)
  | 12 => ("TideDesk$Gauges", "there", "I", false)
  | 13 => ("TideDesk$Gauges", "missing", "I", false)
  | _ => ("TideDesk$Gauges", "latest", "I", false)
def tyX2 : Nat → FieldType := fun k => match k with
  | 0 => .object "TideDesk$Surveys"
  | 1 => .array .int
  | 2 => .array .int
  | 3 => .array .int
  | 4 => .array .boolean
  | 5 => .array .int
  | 6 => .array .short
  | 7 => .array .int
  | 8 => .array .double
  | 9 => .int
  | 10 => .int
  | 11 => .int
  | 12 => .int
  | 13 => .int
  | _ => .int
abbrev wsX20 : List Cond := u_ws RX2 TX2 15
theorem nmX2 : ∀ a, a < 15 → ∀ b, b < 15 → a ≠ b → (TX2 a).2.1 ≠ (TX2 b).2.1 := by decide +kernel
theorem tyX2_ok : ∀ k, k < 15 → parseFieldDescriptor (TX2 k).2.2.1 = some (tyX2 k) := by decide +kernel
def RX3 : String := "TideDesk$Passages"
def TX3 : u_T := fun k => match k with
  | 0 => ("TideDesk$Passages", "findings", "LTideDesk$Findings;", true)
  | 1 => ("TideDesk$Passages", "ships", "LTideDesk$Ships;", true)
  | 2 => ("TideDesk$Passages", "routes", "LTideDesk$Routes;", true)
  | 3 => ("TideDesk$Passages", "shoals", "LTideDesk$Shoals;", true)
  | 4 => ("TideDesk$Passages", "voyages", "LTideDesk$Voyages;", true)
  | 5 => ("TideDesk$Passages", "ship", "[I", true)
  | 6 => ("TideDesk$Passages", "route", "[I", true)
  | 7 => ("TideDesk$Passages", "minute", "[I", true)
  | 8 => ("TideDesk$Passages", "since", "[I", true)
  | 9 => ("TideDesk$Passages", "start", "[I", true)
  | 10 => ("TideDesk$Passages", "waits", "[Z", true)
  | 11 => ("TideDesk$Passages", "coming", "[I", true)
  | 12 => ("TideDesk$Passages", "isHeld", "[Z", true)
  | 13 => ("TideDesk$Passages", "told", "I", false)
  | 14 => ("TideDesk$Passages", "tried", "I", false)
  | 15 => ("TideDesk$Passages", "holding", "I", false)
  | _ => ("TideDesk$Passages", "mostHolding", "I", false)
def tyX3 : Nat → FieldType := fun k => match k with
  | 0 => .object "TideDesk$Findings"
  | 1 => .object "TideDesk$Ships"
  | 2 => .object "TideDesk$Routes"
  | 3 => .object "TideDesk$Shoals"
  | 4 => .object "TideDesk$Voyages"
  | 5 => .array .int
  | 6 => .array .int
  | 7 => .array .int
  | 8 => .array .int
  | 9 => .array .int
  | 10 => .array .boolean
  | 11 => .array .int
  | 12 => .array .boolean
  | 13 => .int
  | 14 => .int
  | 15 => .int
  | _ => .int
abbrev wsX30 : List Cond := u_ws RX3 TX3 17
theorem nmX3 : ∀ a, a < 17 → ∀ b, b < 17 → a ≠ b → (TX3 a).2.1 ≠ (TX3 b).2.1 := by decide +kernel
theorem tyX3_ok : ∀ k, k < 17 → parseFieldDescriptor (TX3 k).2.2.1 = some (tyX3 k) := by decide +kernel
def RX4 : String := "TideDesk$Routes"
def TX4 : u_T := fun k => match k with
  | 0 => ("TideDesk$Routes", "legs", "[I", true)
  | 1 => ("TideDesk$Routes", "shoal", "[I", true)
  | 2 => ("TideDesk$Routes", "distance", "[I", true)
  | _ => ("TideDesk$Routes", "mark", "[I", true)
def tyX4 : Nat → FieldType := fun k => match k with
  | 0 => .array .int
  | 1 => .array .int
  | 2 => .array .int
  | _ => .array .int
abbrev wsX40 : List Cond := u_ws RX4 TX4 4
theorem nmX4 : ∀ a, a < 4 → ∀ b, b < 4 → a ≠ b → (TX4 a).2.1 ≠ (TX4 b).2.1 := by decide +kernel
theorem tyX4_ok : ∀ k, k < 4 → parseFieldDescriptor (TX4 k).2.2.1 = some (tyX4 k) := by decide +kernel
def RX5 : String := "TideDesk$Ships"
def TX5 : u_T := fun k => match k with
  | 0 => ("TideDesk$Ships", "kind", "[I", true)
  | 1 => ("TideDesk$Ships", "draught", "[I", true)
  | 2 => ("TideDesk$Ships", "pace", "[I", true)
  | 3 => ("TideDesk$Ships", "x", "[I", true)
  | 4 => ("TideDesk$Ships", "onePart", "[I", true)
  | 5 => ("TideDesk$Ships", "otherPart", "[I", true)
  | 6 => ("TideDesk$Ships", "pairsDeep", "[I", true)
  | 7 => ("TideDesk$Ships", "trace", "[I", true)
  | 8 => ("TideDesk$Ships", "traced", "I", false)
  | 9 => ("TideDesk$Ships", "told", "I", false)
  | _ => ("TideDesk$Ships", "fault", "I", false)
def tyX5 : Nat → FieldType := fun k => match k with
  | 0 => .array .int
  | 1 => .array .int
  | 2 => .array .int
  | 3 => .array .int
  | 4 => .array .int
  | 5 => .array .int
  | 6 => .array .int
  | 7 => .array .int
  | 8 => .int
  | 9 => .int
  | _ => .int
abbrev wsX50 : List Cond := u_ws RX5 TX5 11
theorem nmX5 : ∀ a, a < 11 → ∀ b, b < 11 → a ≠ b → (TX5 a).2.1 ≠ (TX5 b).2.1 := by decide +kernel
theorem tyX5_ok : ∀ k, k < 11 → parseFieldDescriptor (TX5 k).2.2.1 = some (tyX5 k) := by decide +kernel
def RX6 : String := "TideDesk$Shoals"
def TX6 : u_T := fun k => match k with
  | 0 => ("TideDesk$Shoals", "surveys", "LTideDesk$Surveys;", true)
  | 1 => ("TideDesk$Shoals", "gauges", "LTideDesk$Gauges;", true)
  | 2 => ("TideDesk$Shoals", "station", "[I", true)
  | 3 => ("TideDesk$Shoals", "lock", "[I", true)
  | 4 => ("TideDesk$Shoals", "bedShoal", "[I", true)
  | 5 => ("TideDesk$Shoals", "bedDay", "[I", true)
  | 6 => ("TideDesk$Shoals", "bedSince", "[I", true)
  | 7 => ("TideDesk$Shoals", "bed", "[I", true)
  | 8 => ("TideDesk$Shoals", "told", "I", false)
  | _ => ("TideDesk$Shoals", "dredgings", "I", false)
def tyX6 : Nat → FieldType := fun k => match k with
  | 0 => .object "TideDesk$Surveys"
  | 1 => .object "TideDesk$Gauges"
  | 2 => .array .int
  | 3 => .array .int
  | 4 => .array .int
  | 5 => .array .int
  | 6 => .array .int
  | 7 => .array .int
  | 8 => .int
  | _ => .int
abbrev wsX60 : List Cond := u_ws RX6 TX6 10
theorem nmX6 : ∀ a, a < 10 → ∀ b, b < 10 → a ≠ b → (TX6 a).2.1 ≠ (TX6 b).2.1 := by decide +kernel
theorem tyX6_ok : ∀ k, k < 10 → parseFieldDescriptor (TX6 k).2.2.1 = some (tyX6 k) := by decide +kernel
def RX7 : String := "TideDesk$Surveys"
def TX7 : u_T := fun k => match k with
  | 0 => ("TideDesk$Surveys", "draftMean", "[I", true)
  | 1 => ("TideDesk$Surveys", "draftWaves", "[I", true)
  | 2 => ("TideDesk$Surveys", "draftRow", "[I", true)
  | 3 => ("TideDesk$Surveys", "station", "[I", true)
  | 4 => ("TideDesk$Surveys", "day", "[I", true)
  | 5 => ("TideDesk$Surveys", "since", "[I", true)
  | 6 => ("TideDesk$Surveys", "mean", "[I", true)
  | 7 => ("TideDesk$Surveys", "waves", "[I", true)
  | 8 => ("TideDesk$Surveys", "row", "[I", true)
  | _ => ("TideDesk$Surveys", "told", "I", false)
def tyX7 : Nat → FieldType := fun k => match k with
  | 0 => .array .int
  | 1 => .array .int
  | 2 => .array .int
  | 3 => .array .int
  | 4 => .array .int
  | 5 => .array .int
  | 6 => .array .int
  | 7 => .array .int
  | 8 => .array .int
  | _ => .int
abbrev wsX70 : List Cond := u_ws RX7 TX7 10
theorem nmX7 : ∀ a, a < 10 → ∀ b, b < 10 → a ≠ b → (TX7 a).2.1 ≠ (TX7 b).2.1 := by decide +kernel
theorem tyX7_ok : ∀ k, k < 10 → parseFieldDescriptor (TX7 k).2.2.1 = some (tyX7 k) := by decide +kernel
def RX8 : String := "TideDesk$Voyages"
def TX8 : u_T := fun k => match k with
  | 0 => ("TideDesk$Voyages", "findings", "LTideDesk$Findings;", true)
  | 1 => ("TideDesk$Voyages", "ships", "LTideDesk$Ships;", true)
  | 2 => ("TideDesk$Voyages", "routes", "LTideDesk$Routes;", true)
  | 3 => ("TideDesk$Voyages", "shoals", "LTideDesk$Shoals;", true)
  | 4 => ("TideDesk$Voyages", "tides", "LTideDesk$Waters;", true)
  | 5 => ("TideDesk$Voyages", "coming", "[I", true)
  | 6 => ("TideDesk$Voyages", "rise", "I", false)
  | 7 => ("TideDesk$Voyages", "set", "I", false)
  | 8 => ("TideDesk$Voyages", "need", "I", false)
  | 9 => ("TideDesk$Voyages", "pace", "I", false)
  | _ => ("TideDesk$Voyages", "byDay", "Z", false)
def tyX8 : Nat → FieldType := fun k => match k with
  | 0 => .object "TideDesk$Findings"
  | 1 => .object "TideDesk$Ships"
  | 2 => .object "TideDesk$Routes"
  | 3 => .object "TideDesk$Shoals"
  | 4 => .object "TideDesk$Waters"
  | 5 => .array .int
  | 6 => .int
  | 7 => .int
  | 8 => .int
  | 9 => .int
  | _ => .boolean
abbrev wsX80 : List Cond := u_ws RX8 TX8 11
theorem nmX8 : ∀ a, a < 11 → ∀ b, b < 11 → a ≠ b → (TX8 a).2.1 ≠ (TX8 b).2.1 := by decide +kernel
theorem tyX8_ok : ∀ k, k < 11 → parseFieldDescriptor (TX8 k).2.2.1 = some (tyX8 k) := by decide +kernel
def RX9 : String := "TideDesk$Waters"
def TX9 : u_T := fun k => match k with
  | 0 => ("TideDesk$Waters", "surveys", "LTideDesk$Surveys;", true)
  | 1 => ("TideDesk$Waters", "size", "[I", true)
  | 2 => ("TideDesk$Waters", "moment", "[I", true)
  | 3 => ("TideDesk$Waters", "isHigh", "[Z", true)
  | 4 => ("TideDesk$Waters", "height", "[D", true)
  | 5 => ("TideDesk$Waters", "measured", "[D", true)
  | 6 => ("TideDesk$Waters", "stream", "[I", true)
  | _ => ("TideDesk$Waters", "steps", "I", false)
def tyX9 : Nat → FieldType := fun k => match k with
  | 0 => .object "TideDesk$Surveys"
  | 1 => .array .int
  | 2 => .array .int
  | 3 => .array .boolean
  | 4 => .array .double
  | 5 => .array .double
  | 6 => .array .int
  | _ => .int
abbrev wsX90 : List Cond := u_ws RX9 TX9 8
theorem nmX9 : ∀ a, a < 8 → ∀ b, b < 8 → a ≠ b → (TX9 a).2.1 ≠ (TX9 b).2.1 := by decide +kernel
theorem tyX9_ok : ∀ k, k < 8 → parseFieldDescriptor (TX9 k).2.2.1 = some (tyX9 k) := by decide +kernel
def RX10 : String := "TideDesk$Windows"
def TX10 : u_T := fun k => match k with
  | 0 => ("TideDesk$Windows", "first", "[I", true)
  | 1 => ("TideDesk$Windows", "last", "[I", true)
  | 2 => ("TideDesk$Windows", "size", "I", false)
  | 3 => ("TideDesk$Windows", "wrongMinutes", "I", false)
  | 4 => ("TideDesk$Windows", "lastWrong", "I", false)
  | _ => ("TideDesk$Windows", "isOpen", "Z", false)
def tyX10 : Nat → FieldType := fun k => match k with
  | 0 => .array .int
  | 1 => .array .int
  | 2 => .int
  | 3 => .int
  | 4 => .int
  | _ => .boolean
abbrev wsX100 : List Cond := u_ws RX10 TX10 6
theorem nmX10 : ∀ a, a < 6 → ∀ b, b < 6 → a ≠ b → (TX10 a).2.1 ≠ (TX10 b).2.1 := by decide +kernel
theorem tyX10_ok : ∀ k, k < 6 → parseFieldDescriptor (TX10 k).2.2.1 = some (tyX10 k) := by decide +kernel
def RX11 : String := "TideDesk"
def TX11 : u_T := fun k => match k with
  | 0 => ("TideDesk", "findings", "LTideDesk$Findings;", true)
  | 1 => ("TideDesk", "surveys", "LTideDesk$Surveys;", true)
  | 2 => ("TideDesk", "gauges", "LTideDesk$Gauges;", true)
  | 3 => ("TideDesk", "shoals", "LTideDesk$Shoals;", true)
  | 4 => ("TideDesk", "tides", "LTideDesk$Waters;", true)
  | 5 => ("TideDesk", "ships", "LTideDesk$Ships;", true)
  | 6 => ("TideDesk", "fleets", "LTideDesk$Fleets;", true)
  | 7 => ("TideDesk", "routes", "LTideDesk$Routes;", true)
  | 8 => ("TideDesk", "voyages", "LTideDesk$Voyages;", true)
  | 9 => ("TideDesk", "kept", "LTideDesk$Windows;", true)
  | 10 => ("TideDesk", "passages", "LTideDesk$Passages;", true)
  | 11 => ("TideDesk", "now", "I", false)
  | 12 => ("TideDesk", "lastAsked", "I", false)
  | _ => ("TideDesk", "lastLacking", "I", false)
def tyX11 : Nat → FieldType := fun k => match k with
  | 0 => .object "TideDesk$Findings"
  | 1 => .object "TideDesk$Surveys"
  | 2 => .object "TideDesk$Gauges"
  | 3 => .object "TideDesk$Shoals"
  | 4 => .object "TideDesk$Waters"
  | 5 => .object "TideDesk$Ships"
  | 6 => .object "TideDesk$Fleets"
  | 7 => .object "TideDesk$Routes"
  | 8 => .object "TideDesk$Voyages"
  | 9 => .object "TideDesk$Windows"
  | 10 => .object "TideDesk$Passages"
  | 11 => .int
  | 12 => .int
  | _ => .int
abbrev wsX110 : List Cond := u_ws RX11 TX11 14
theorem nmX11 : ∀ a, a < 14 → ∀ b, b < 14 → a ≠ b → (TX11 a).2.1 ≠ (TX11 b).2.1 := by decide +kernel
theorem tyX11_ok : ∀ k, k < 14 → parseFieldDescriptor (TX11 k).2.2.1 = some (tyX11 k) := by decide +kernel
def RX12 : String := "TideDeskModel"
def TX12 : u_T := fun k => match k with
  | 0 => ("TideDeskModel", "now", "I", false)
  | 1 => ("TideDeskModel", "finding", "I", false)
  | 2 => ("TideDeskModel", "findings", "I", false)
  | 3 => ("TideDeskModel", "mean", "[I", true)
  | 4 => ("TideDeskModel", "waves", "[I", true)
  | 5 => ("TideDeskModel", "sizes", "[I", true)
  | 6 => ("TideDeskModel", "speeds", "[I", true)
  | 7 => ("TideDeskModel", "phases", "[I", true)
  | 8 => ("TideDeskModel", "surveys", "I", false)
  | 9 => ("TideDeskModel", "surveyStation", "[I", true)
  | 10 => ("TideDeskModel", "surveyDay", "[I", true)
  | 11 => ("TideDeskModel", "surveyTold", "[I", true)
  | 12 => ("TideDeskModel", "surveyMean", "[I", true)
  | 13 => ("TideDeskModel", "surveyWaves", "[I", true)
  | 14 => ("TideDeskModel", "surveySizes", "[I", true)
  | 15 => ("TideDeskModel", "surveySpeeds", "[I", true)
  | 16 => ("TideDeskModel", "surveyPhases", "[I", true)
  | 17 => ("TideDeskModel", "level", "D", false)
  | 18 => ("TideDeskModel", "gauges", "I", false)
  | 19 => ("TideDeskModel", "gaugeStation", "[I", true)
  | 20 => ("TideDeskModel", "gaugeFirst", "[I", true)
  | 21 => ("TideDeskModel", "gaugeStep", "[I", true)
  | 22 => ("TideDeskModel", "isOut", "[Z", true)
  | 23 => ("TideDeskModel", "readings", "[I", true)
  | 24 => ("TideDeskModel", "shorts", "[I", true)
  | 25 => ("TideDeskModel", "airs", "[I", true)
  | 26 => ("TideDeskModel", "take", "I", false)
  | 27 => ("TideDeskModel", "fade", "I", false)
  | 28 => ("TideDeskModel", "steps", "I", false)
  | 29 => ("TideDeskModel", "lacking", "I", false)
  | 30 => ("TideDeskModel", "offs", "[D", true)
  | 31 => ("TideDeskModel", "surge", "D", false)
  | 32 => ("TideDeskModel", "lacks", "I", false)
  | 33 => ("TideDeskModel", "shoals", "I", false)
  | 34 => ("TideDeskModel", "shoalStation", "[I", true)
  | 35 => ("TideDeskModel", "locks", "[I", true)
  | 36 => ("TideDeskModel", "dredgings", "I", false)
  | 37 => ("TideDeskModel", "beds", "I", false)
  | 38 => ("TideDeskModel", "bedShoal", "[I", true)
  | 39 => ("TideDeskModel", "bedDay", "[I", true)
  | 40 => ("TideDeskModel", "bedTold", "[I", true)
  | 41 => ("TideDeskModel", "bedDepth", "[I", true)
  | 42 => ("TideDeskModel", "waters", "[I", true)
  | 43 => ("TideDeskModel", "waterMoment", "[I", true)
  | 44 => ("TideDeskModel", "isHigh", "[Z", true)
  | 45 => ("TideDeskModel", "waterHeight", "[D", true)
  | 46 => ("TideDeskModel", "streams", "[I", true)
  | 47 => ("TideDeskModel", "heights", "[D", true)
  | 48 => ("TideDeskModel", "streamAt", "I", false)
  | 49 => ("TideDeskModel", "ships", "I", false)
  | 50 => ("TideDeskModel", "kinds", "[I", true)
  | 51 => ("TideDeskModel", "draughts", "[I", true)
  | 52 => ("TideDeskModel", "paces", "[I", true)
  | 53 => ("TideDeskModel", "xs", "[I", true)
  | 54 => ("TideDeskModel", "parts", "[I", true)
  | 55 => ("TideDeskModel", "nested", "[I", true)
  | 56 => ("TideDeskModel", "asked", "I", false)
  | 57 => ("TideDeskModel", "traced", "I", false)
  | 58 => ("TideDeskModel", "trace", "[I", true)
  | 59 => ("TideDeskModel", "fleetSort", "[I", true)
  | 60 => ("TideDeskModel", "fleetSize", "[I", true)
  | 61 => ("TideDeskModel", "places", "[I", true)
  | 62 => ("TideDeskModel", "value", "I", false)
  | 63 => ("TideDeskModel", "pile", "[I", true)
  | 64 => ("TideDeskModel", "isSecond", "[Z", true)
  | 65 => ("TideDeskModel", "firsts", "[I", true)
  | 66 => ("TideDeskModel", "moving", "[I", true)
  | 67 => ("TideDeskModel", "legs", "[I", true)
  | 68 => ("TideDeskModel", "legShoal", "[I", true)
  | 69 => ("TideDeskModel", "legDistance", "[I", true)
  | 70 => ("TideDeskModel", "legMark", "[I", true)
  | 71 => ("TideDeskModel", "rise", "I", false)
  | 72 => ("TideDeskModel", "set", "I", false)
  | 73 => ("TideDeskModel", "windows", "I", false)
  | 74 => ("TideDeskModel", "windowFirst", "[I", true)
  | 75 => ("TideDeskModel", "windowLast", "[I", true)
  | 76 => ("TideDeskModel", "wrongs", "I", false)
  | 77 => ("TideDeskModel", "wrongLast", "I", false)
  | 78 => ("TideDeskModel", "passages", "I", false)
  | 79 => ("TideDeskModel", "passShip", "[I", true)
  | 80 => ("TideDeskModel", "passRoute", "[I", true)
  | 81 => ("TideDeskModel", "passFrom", "[I", true)
  | 82 => ("TideDeskModel", "waits", "[Z", true)
  | 83 => ("TideDeskModel", "since", "[I", true)
  | 84 => ("TideDeskModel", "starts", "[I", true)
  | 85 => ("TideDeskModel", "passPace", "[I", true)
  | 86 => ("TideDeskModel", "come", "[I", true)
  | 87 => ("TideDeskModel", "paceNow", "I", false)
  | 88 => ("TideDeskModel", "tries", "I", false)
  | 89 => ("TideDeskModel", "heldMost", "I", false)
  | _ => ("TideDeskModel", "isHeld", "[Z", true)
def tyX12 : Nat → FieldType := fun k => match k with
  | 0 => .int
  | 1 => .int
  | 2 => .int
  | 3 => .array .int
  | 4 => .array .int
  | 5 => .array .int
  | 6 => .array .int
  | 7 => .array .int
  | 8 => .int
  | 9 => .array .int
  | 10 => .array .int
  | 11 => .array .int
  | 12 => .array .int
  | 13 => .array .int
  | 14 => .array .int
  | 15 => .array .int
  | 16 => .array .int
  | 17 => .double
  | 18 => .int
  | 19 => .array .int
  | 20 => .array .int
  | 21 => .array .int
  | 22 => .array .boolean
  | 23 => .array .int
  | 24 => .array .int
  | 25 => .array .int
  | 26 => .int
  | 27 => .int
  | 28 => .int
  | 29 => .int
  | 30 => .array .double
  | 31 => .double
  | 32 => .int
  | 33 => .int
  | 34 => .array .int
  | 35 => .array .int
  | 36 => .int
  | 37 => .int
  | 38 => .array .int
  | 39 => .array .int
  | 40 => .array .int
  | 41 => .array .int
  | 42 => .array .int
  | 43 => .array .int
  | 44 => .array .boolean
  | 45 => .array .double
  | 46 => .array .int
  | 47 => .array .double
  | 48 => .int
  | 49 => .int
  | 50 => .array .int
  | 51 => .array .int
  | 52 => .array .int
  | 53 => .array .int
  | 54 => .array .int
  | 55 => .array .int
  | 56 => .int
  | 57 => .int
  | 58 => .array .int
  | 59 => .array .int
  | 60 => .array .int
  | 61 => .array .int
  | 62 => .int
  | 63 => .array .int
  | 64 => .array .boolean
  | 65 => .array .int
  | 66 => .array .int
  | 67 => .array .int
  | 68 => .array .int
  | 69 => .array .int
  | 70 => .array .int
  | 71 => .int
  | 72 => .int
  | 73 => .int
  | 74 => .array .int
  | 75 => .array .int
  | 76 => .int
  | 77 => .int
  | 78 => .int
  | 79 => .array .int
  | 80 => .array .int
  | 81 => .array .int
  | 82 => .array .boolean
  | 83 => .array .int
  | 84 => .array .int
  | 85 => .array .int
  | 86 => .array .int
  | 87 => .int
  | 88 => .int
  | 89 => .int
  | _ => .array .boolean
abbrev wsX120 : List Cond := u_ws RX12 TX12 91
theorem nmX12 : ∀ a, a < 91 → ∀ b, b < 91 → a ≠ b → (TX12 a).2.1 ≠ (TX12 b).2.1 := by decide +kernel
theorem tyX12_ok : ∀ k, k < 91 → parseFieldDescriptor (TX12 k).2.2.1 = some (tyX12 k) := by decide +kernel
abbrev vwCl : List vw_C := [(RX0, TX0, 2), (RX1, TX1, 6), (RX2, TX2, 15), (RX3, TX3, 17), (RX4, TX4, 4), (RX5, TX5, 11), (RX6, TX6, 10), (RX7, TX7, 10), (RX8, TX8, 11), (RX9, TX9, 8), (RX10, TX10, 6), (RX11, TX11, 14), (RX12, TX12, 91)]
end
section
/-! THE WALK AS A FUNCTION. A list of resolved instructions is run over names for values: 'wp' says what must hold for the machine to come where it should. -/
abbrev MI : Type := Nat → Nat → Int32
abbrev MD : Type := Nat → Nat → UInt64
abbrev Lv : Type := List (Nat × Value)
/-- a cell: an object (its number among the kinds, its fields: a reference, an int, a double), or a row (its kind, its length) -/
abbrev Sh : Type := (Nat × List (Nat ⊕ Bool)) ⊕ (Nat × Nat)
/-- a place, its instruction, two numbers, a constant -/
abbrev Op : Type := Nat × Instr × Nat × Nat × Value
abbrev Nt : Type := Lv → List Value → MI → MD → Prop
abbrev Kt : Type := Nat → Nt
abbrev Po : Type := Option Value → MI → MD → Prop
abbrev Rk : Type := Instr → Nat → List Value → MI → MD → Prop
abbrev Ck : Type := Nat → List Value → MI → MD → Po → Prop
def up2 {α : Type} (f : Nat → Nat → α) (k j : Nat) (v : α) : Nat → Nat → α := fun a b => if a = k then (if b = j then v else f a b) else f a b
def nth {α : Type} : List α → Nat → Option α
  | [], _ => none
  | a :: _, 0 => some a
  | _ :: l, n + 1 => nth l n
def lk : Lv → Nat → (Value → Prop) → Prop
  | [], _, _ => False
  | q :: t, i, k => match Nat.beq q.1 i with
    | true => k q.2
    | false => lk t i k
/-- the locals that a store of one word at i leaves -/
def fl1 (i : Nat) : Lv → (Lv → Prop) → Prop
  | [], k => k []
  | q :: t, k => match (!(Nat.beq q.1 i) && !(Nat.beq (q.1 + 1) i && Nat.beq q.2.category 2)) with
    | true => fl1 i t (fun t' => k (q :: t'))
    | false => fl1 i t k
def fl2 (i : Nat) : Lv → (Lv → Prop) → Prop
  | [], k => k []
  | q :: t, k => match (!(Nat.beq q.1 i) && (!(Nat.beq q.1 (i + 1)) && !(Nat.beq (q.1 + 1) i && Nat.beq q.2.category 2))) with
    | true => fl2 i t (fun t' => k (q :: t'))
    | false => fl2 i t k
def pick : List Nat → Lv → (Lv → Prop) → Prop
  | [], _, k => k []
  | i :: is, lv, k => lk lv i (fun v => pick is lv (fun t => k ((i, v) :: t)))
def popN : Nat → List Value → List Value → (List Value → List Value → Prop) → Prop
  | 0, st, acc, k => k acc st
  | _ + 1, [], _, _ => False
  | n + 1, v :: st, acc, k => popN n st (v :: acc) k
def csum : List Value → Nat
  | [] => 0
  | v :: t => v.category + csum t
def okst (r : List Value) (P : Prop) : Prop := match Nat.ble (csum r) 8 with
  | true => P
  | false => False
def lvOf : List (Nat × List Nat) → Nat → List Nat
  | [], _ => []
  | q :: t, i => match Nat.beq q.1 i with
    | true => q.2
    | false => lvOf t i
def tI (st : List Value) (k : Int32 → List Value → Prop) : Prop := match st with
  | .int x :: r => k x r
  | _ => False
def tL (st : List Value) (k : Int64 → List Value → Prop) : Prop := match st with
  | .long x :: r => k x r
  | _ => False
def tF (st : List Value) (k : UInt32 → List Value → Prop) : Prop := match st with
  | .float x :: r => k x r
  | _ => False
def tD (st : List Value) (k : UInt64 → List Value → Prop) : Prop := match st with
  | .double x :: r => k x r
  | _ => False
def tR (st : List Value) (k : Nat → List Value → Prop) : Prop := match st with
  | .ref x :: r => k x r
  | _ => False
def t2I (st : List Value) (k : Int32 → Int32 → List Value → Prop) : Prop := match st with
  | .int y :: .int x :: r => k x y r
  | _ => False
def t2L (st : List Value) (k : Int64 → Int64 → List Value → Prop) : Prop := match st with
  | .long y :: .long x :: r => k x y r
  | _ => False
def t2F (st : List Value) (k : UInt32 → UInt32 → List Value → Prop) : Prop := match st with
  | .float y :: .float x :: r => k x y r
  | _ => False
def t2D (st : List Value) (k : UInt64 → UInt64 → List Value → Prop) : Prop := match st with
  | .double y :: .double x :: r => k x y r
  | _ => False
def isI (w : Value) (P : Prop) : Prop := match w with
  | .int _ => P
  | _ => False
def isL (w : Value) (P : Prop) : Prop := match w with
  | .long _ => P
  | _ => False
def isF (w : Value) (P : Prop) : Prop := match w with
  | .float _ => P
  | _ => False
def isD (w : Value) (P : Prop) : Prop := match w with
  | .double _ => P
  | _ => False
def isR (w : Value) (P : Prop) : Prop := match w with
  | .ref _ => P
  | _ => False
/-- an object of kind ci at k -/
def atO (SH : List Sh) (k ci : Nat) (P : List (Nat ⊕ Bool) → Prop) : Prop := match nth SH k with
  | some (.inl q) => match Nat.beq q.1 ci with
    | true => P q.2
    | false => False
  | _ => False
/-- a row of kind t at k -/
def atA (SH : List Sh) (k t : Nat) (P : Nat → Prop) : Prop := match nth SH k with
  | some (.inr q) => match Nat.beq q.1 t with
    | true => P q.2
    | false => False
  | _ => False
/-- an index within -/
def inn (i : Int32) (n : Nat) : Prop := 0 ≤ i.toInt ∧ i.toInt < n
def xget (SH : List Sh) (a b : Nat) (st : List Value) (I : MI) (D : MD) (k : List Value → Prop) : Prop :=
  tR st (fun q r => atO SH q a (fun fks => match nth fks b with
    | some (.inl t) => k (.ref t :: r)
    | some (.inr false) => k (.int (I q b) :: r)
    | some (.inr true) => k (.double (D q b) :: r)
    | none => False))
/-- a field of a boolean takes 0 and 1 alone: v is then .ref 1 -/
def xput (SH : List Sh) (a b : Nat) (v : Value) (st : List Value) (I : MI) (D : MD) (k : List Value → MI → MD → Prop) : Prop := match st with
  | .int x :: .ref q :: r => atO SH q a (fun fks => match nth fks b with
    | some (.inr false) => (match v with
      | .ref 1 => (x = 0 ∨ x = 1) ∧ k r (up2 I q b x) D
      | _ => k r (up2 I q b x) D)
    | _ => False)
  | .double x :: .ref q :: r => atO SH q a (fun fks => match nth fks b with
    | some (.inr true) => k r I (up2 D q b x)
    | _ => False)
  | _ => False
def xald (SH : List Sh) (t : Nat) (st : List Value) (I : MI) (k : List Value → Prop) : Prop := match st with
  | .int i :: .ref q :: r => atA SH q t (fun n => inn i n ∧ k (.int (I q i.toNatClampNeg) :: r))
  | _ => False
def xdld (SH : List Sh) (st : List Value) (D : MD) (k : List Value → Prop) : Prop := match st with
  | .int i :: .ref q :: r => atA SH q 3 (fun n => inn i n ∧ k (.double (D q i.toNatClampNeg) :: r))
  | _ => False
/-- a load of the script (no cell of ours: its name is .ref 999), or of a row of ints -/
def xild (SH : List Sh) (SC : Option (Nat × (Nat → Int32))) (st : List Value) (I : MI) (k : List Value → Prop) : Prop := match SC with
  | none => xald SH 0 st I k
  | some c => (match st with
    | .int i :: .ref 999 :: r => inn i c.1 ∧ k (.int (c.2 i.toNatClampNeg) :: r)
    | _ => False)
def xast (SH : List Sh) (t : Nat) (nar : Int32 → Int32) (st : List Value) (I : MI) (k : List Value → MI → Prop) : Prop := match st with
  | .int x :: .int i :: .ref q :: r => atA SH q t (fun n => inn i n ∧ k r (up2 I q i.toNatClampNeg (nar x)))
  | _ => False
def xdst (SH : List Sh) (st : List Value) (D : MD) (k : List Value → MD → Prop) : Prop := match st with
  | .double x :: .int i :: .ref q :: r => atA SH q 3 (fun n => inn i n ∧ k r (up2 D q i.toNatClampNeg x))
  | _ => False
def xlen (SC : Option (Nat × (Nat → Int32))) (st : List Value) (k : List Value → Prop) : Prop := match SC, st with
  | some c, .ref 999 :: r => k (.int (Int32.ofNat c.1) :: r)
  | _, _ => False
def xif (c : ClassFile.Cond) (x : Int32) (A B : Prop) : Prop := match c with
  | .eq => (x = 0 → A) ∧ (¬ x = 0 → B)
  | .ne => (¬ x = 0 → A) ∧ (x = 0 → B)
  | .lt => (x < 0 → A) ∧ (¬ x < 0 → B)
  | .ge => (0 ≤ x → A) ∧ (¬ 0 ≤ x → B)
  | .gt => (0 < x → A) ∧ (¬ 0 < x → B)
  | .le => (x ≤ 0 → A) ∧ (¬ x ≤ 0 → B)
def xic (c : ClassFile.Cond) (x y : Int32) (A B : Prop) : Prop := match c with
  | .eq => (x = y → A) ∧ (¬ x = y → B)
  | .ne => (¬ x = y → A) ∧ (x = y → B)
  | .lt => (x < y → A) ∧ (¬ x < y → B)
  | .ge => (y ≤ x → A) ∧ (¬ y ≤ x → B)
  | .gt => (y < x → A) ∧ (¬ y < x → B)
  | .le => (x ≤ y → A) ∧ (¬ x ≤ y → B)
def tgt (pc : Nat) (o : Int) : Nat := ((pc : Int) + o).toNat
def swt (x : Int32) (jp : Int → Prop) (P : Prop) : Int → List Int → Prop
  | _, [] => P
  | n, o :: os => (x.toInt = n → jp o) ∧ swt x jp P (n + 1) os
def swl (x : Int32) (jp : Int → Prop) : List (Int × Int) → Prop → Prop
  | [], P => P
  | q :: qs, P => (x.toInt = q.1 → jp q.2) ∧ swl x jp qs (x.toInt ≠ q.1 → P)
def dup1 (st : List Value) (k : Value → List Value → Prop) : Prop := match st with
  | v :: r => (match Nat.beq v.category 1 with
    | true => k v r
    | false => False)
  | _ => False
def dup11 (st : List Value) (k : Value → Value → List Value → Prop) : Prop := match st with
  | v :: w :: r => (match Nat.beq v.category 1, Nat.beq w.category 1 with
    | true, true => k v w r
    | _, _ => False)
  | _ => False
def xcallS (Ca : Ck) (a b : Nat) (v : Value) (st : List Value) (I : MI) (D : MD) (k : List Value → MI → MD → Prop) : Prop := match v with
  | .ref 0 => popN b st [] (fun As r => okst r (Ca a As I D (fun o I' D' => k (o.toList ++ r) I' D')))
  | .ref 1 => tI st (fun x r => okst r (vn_sni2f x = false ∧ k (.float x.toUInt32 :: r) I D))
  | .ref 2 => tD st (fun x r => okst r (k (.long x.toInt64 :: r) I D))
  | _ => False
def xcallV (SH : List Sh) (Ca : Ck) (a b : Nat) (v : Value) (st : List Value) (I : MI) (D : MD) (k : List Value → MI → MD → Prop) : Prop := match v with
  | .ref ci => popN b st [] (fun As r => tR r (fun q r => atO SH q ci (fun _ => okst r (Ca a (.ref q :: As) I D (fun o I' D' => k (o.toList ++ r) I' D')))))
  | _ => False
def xinc (a : Nat) (v : Value) (lv : Lv) (k : Lv → Prop) : Prop := lk lv a (fun w => match w, v with
  | .int x, .int c => fl1 a lv (fun t => k ((a, .int (x + c)) :: t))
  | _, _ => False)
def ex (SH : List Sh) (SC : Option (Nat × (Nat → Int32))) (Rt : Rk) (Ca : Ck) (pc : Nat) (i : Instr) (a b : Nat) (v : Value) (lv : Lv) (st : List Value) (I : MI) (D : MD) (nx : Nt) (jp : Kt) : Prop := match i with
  | .iconst _ => nx lv (v :: st) I D
  | .bipush _ => nx lv (v :: st) I D
  | .sipush _ => nx lv (v :: st) I D
  | .ldc _ => nx lv (v :: st) I D
  | .ldc_w _ => nx lv (v :: st) I D
  | .ldc2_w _ => nx lv (v :: st) I D
  | .lconst _ => nx lv (v :: st) I D
  | .dconst _ => nx lv (v :: st) I D
  | .fconst _ => nx lv (v :: st) I D
  | .iload _ => lk lv a (fun w => isI w (nx lv (w :: st) I D))
  | .iload_n _ => lk lv a (fun w => isI w (nx lv (w :: st) I D))
  | .lload _ => lk lv a (fun w => isL w (nx lv (w :: st) I D))
  | .lload_n _ => lk lv a (fun w => isL w (nx lv (w :: st) I D))
  | .fload _ => lk lv a (fun w => isF w (nx lv (w :: st) I D))
  | .dload _ => lk lv a (fun w => isD w (nx lv (w :: st) I D))
  | .dload_n _ => lk lv a (fun w => isD w (nx lv (w :: st) I D))
  | .aload _ => lk lv a (fun w => isR w (nx lv (w :: st) I D))
  | .aload_n _ => lk lv a (fun w => isR w (nx lv (w :: st) I D))
  | .istore _ => tI st (fun x r => fl1 a lv (fun t => nx ((a, .int x) :: t) r I D))
  | .istore_n _ => tI st (fun x r => fl1 a lv (fun t => nx ((a, .int x) :: t) r I D))
  | .lstore _ => tL st (fun x r => fl2 a lv (fun t => nx ((a, .long x) :: t) r I D))
  | .fstore _ => tF st (fun x r => fl1 a lv (fun t => nx ((a, .float x) :: t) r I D))
  | .dstore _ => tD st (fun x r => fl2 a lv (fun t => nx ((a, .double x) :: t) r I D))
  | .dstore_n _ => tD st (fun x r => fl2 a lv (fun t => nx ((a, .double x) :: t) r I D))
  | .iinc _ _ => xinc a v lv (fun t => nx t st I D)
  | .iadd => t2I st (fun x y r => nx lv (.int (x + y) :: r) I D)
  | .isub => t2I st (fun x y r => nx lv (.int (x - y) :: r) I D)
  | .imul => t2I st (fun x y r => nx lv (.int (x * y) :: r) I D)
  | .iand => t2I st (fun x y r => nx lv (.int (x &&& y) :: r) I D)
  | .ixor => t2I st (fun x y r => nx lv (.int (x ^^^ y) :: r) I D)
  | .idiv => t2I st (fun x y r => ¬ y = 0 ∧ nx lv (.int (x / y) :: r) I D)
  | .irem => t2I st (fun x y r => ¬ y = 0 ∧ nx lv (.int (x - x / y * y) :: r) I D)
  | .ineg => tI st (fun x r => nx lv (.int (-x) :: r) I D)
  | .i2l => tI st (fun x r => nx lv (.long x.toInt64 :: r) I D)
  | .i2d => tI st (fun x r => nx lv (.double (FP.i2d x) :: r) I D)
  | .i2s => tI st (fun x r => nx lv (.int x.toInt16.toInt32 :: r) I D)
  | .l2i => tL st (fun x r => nx lv (.int x.toInt32 :: r) I D)
  | .ladd => t2L st (fun x y r => nx lv (.long (x + y) :: r) I D)
  | .lsub => t2L st (fun x y r => nx lv (.long (x - y) :: r) I D)
  | .lmul => t2L st (fun x y r => nx lv (.long (x * y) :: r) I D)
  | .land => t2L st (fun x y r => nx lv (.long (x &&& y) :: r) I D)
  | .lor => t2L st (fun x y r => nx lv (.long (x ||| y) :: r) I D)
  | .ldiv => t2L st (fun x y r => ¬ y = 0 ∧ nx lv (.long (x / y) :: r) I D)
  | .lshl => tI st (fun y r => tL r (fun x r => nx lv (.long (x <<< (y.toInt64 &&& 63)) :: r) I D))
  | .lcmp => t2L st (fun x y r => nx lv (.int (lg_cmp x y) :: r) I D)
  | .dadd => t2D st (fun x y r => vf_n64 (FP.dadd x y) ∧ nx lv (.double (FP.dadd x y) :: r) I D)
  | .dsub => t2D st (fun x y r => vf_n64 (FP.dsub x y) ∧ nx lv (.double (FP.dsub x y) :: r) I D)
  | .dmul => t2D st (fun x y r => vf_n64 (FP.dmul x y) ∧ nx lv (.double (FP.dmul x y) :: r) I D)
  | .ddiv => t2D st (fun x y r => vf_n64 (FP.ddiv x y) ∧ nx lv (.double (FP.ddiv x y) :: r) I D)
  | .dneg => tD st (fun x r => nx lv (.double (FP.dneg x) :: r) I D)
  | .fneg => tF st (fun x r => nx lv (.float (FP.fneg x) :: r) I D)
  | .d2l => tD st (fun x r => nx lv (.long (FP.d2l x) :: r) I D)
  | .dcmp o => t2D st (fun x y r => nx lv (.int (Op.cmpValue (FP.dcmp x y) o) :: r) I D)
  | .fcmp o => t2F st (fun x y r => nx lv (.int (Op.cmpValue (FP.fcmp x y) o) :: r) I D)
  | .dup => dup1 st (fun v r => nx lv (v :: v :: r) I D)
  | .pop => dup1 st (fun _ r => nx lv r I D)
  | .dup2 => dup11 st (fun v w r => nx lv (v :: w :: v :: w :: r) I D)
  | .getfield _ => xget SH a b st I D (fun r => nx lv r I D)
  | .putfield _ => xput SH a b v st I D (fun r I D => nx lv r I D)
  | .iaload => xild SH SC st I (fun r => nx lv r I D)
  | .baload => xald SH 1 st I (fun r => nx lv r I D)
  | .saload => xald SH 2 st I (fun r => nx lv r I D)
  | .daload => xdld SH st D (fun r => nx lv r I D)
  | .iastore => xast SH 0 (fun x => x) st I (fun r I => nx lv r I D)
  | .bastore => xast SH 1 (vp_nar .boolean) st I (fun r I => nx lv r I D)
  | .sastore => xast SH 2 (vp_nar .short) st I (fun r I => nx lv r I D)
  | .dastore => xdst SH st D (fun r D => nx lv r I D)
  | .arraylength => xlen SC st (fun r => nx lv r I D)
  | .goto _ => jp a lv st I D
  | .ifCond c _ => tI st (fun x r => xif c x (jp a lv r I D) (nx lv r I D))
  | .if_icmp c _ => t2I st (fun x y r => xic c x y (jp a lv r I D) (nx lv r I D))
  | .tableswitch d lo hi offs => tI st (fun x r => swt x (fun o => jp (tgt pc o) lv r I D) ((x.toInt < lo ∨ hi < x.toInt) → jp (tgt pc d) lv r I D) lo offs.toList)
  | .lookupswitch d ps => tI st (fun x r => swl x (fun o => jp (tgt pc o) lv r I D) ps.toList (jp (tgt pc d) lv r I D))
  | .invokestatic _ => xcallS Ca a b v st I D (fun r I D => nx lv r I D)
  | .invokevirtual _ => xcallV SH Ca a b v st I D (fun r I D => nx lv r I D)
  | .ireturn => Rt i a st I D
  | .lreturn => Rt i a st I D
  | .dreturn => Rt i a st I D
  | .return_ => Rt i a st I D
  | _ => False
/-- a stretch of code, run from its first place (none) or from a place within it; what leaves it goes by K, with the locals that live there -/
def wp (SH : List Sh) (SC : Option (Nat × (Nat → Int32))) (Rt : Rk) (Ca : Ck) (LV : List (Nat × List Nat)) (K : Kt) (e : Nat) : List Op → Option Nat → Nt
  | [], none, lv, st, I, D => pick (lvOf LV e) lv (fun lv' => K e lv' st I D)
  | [], some t, lv, st, I, D => pick (lvOf LV t) lv (fun lv' => K t lv' st I D)
  | q :: r, none, lv, st, I, D => ex SH SC Rt Ca q.1 q.2.1 q.2.2.1 q.2.2.2.1 q.2.2.2.2 lv st I D (fun lv st I D => wp SH SC Rt Ca LV K e r none lv st I D) (fun t lv st I D => wp SH SC Rt Ca LV K e r (some t) lv st I D)
  | q :: r, some t, lv, st, I, D => match Nat.beq q.1 t with
    | true => ex SH SC Rt Ca q.1 q.2.1 q.2.2.1 q.2.2.2.1 q.2.2.2.2 lv st I D (fun lv st I D => wp SH SC Rt Ca LV K e r none lv st I D) (fun t lv st I D => wp SH SC Rt Ca LV K e r (some t) lv st I D)
    | false => wp SH SC Rt Ca LV K e r (some t) lv st I D
end
section
/-! WHAT THE FUNCTION 'wp' SAYS IS WHAT THE MACHINE DOES: a row an instruction, then a stretch, then a method. -/
abbrev Gp : Type := Launch × (Nat → Nat) × (Nat → ClassId) × va_G × (Nat → Prop)
def cv (ad : Nat → Nat) : Value → Value
  | .ref k => .ref (ad k)
  | v => v
def cq (ad : Nat → Nat) (q : Nat × Value) : Nat × Value := (q.1, cv ad q.2)
theorem cv_cat (ad : Nat → Nat) (v : Value) : (cv ad v).category = v.category := by cases v <;> rfl
def fv (ad : Nat → Nat) (I : MI) (D : MD) (k j : Nat) : (Nat ⊕ Bool) → Value
  | .inl t => .ref (ad t)
  | .inr false => .int (I k j)
  | .inr true => .double (D k j)
def fvs (ad : Nat → Nat) (I : MI) (D : MD) (k : Nat) : Nat → List (Nat ⊕ Bool) → List Value
  | _, [] => []
  | j, f :: t => fv ad I D k j f :: fvs ad I D k (j + 1) t
def ent (ad : Nat → Nat) (dA : Nat → ClassId) (I : MI) (D : MD) (k : Nat) : Sh → va_E
  | .inl q => .inr (q.1, fvs ad I D k 0 q.2)
  | .inr q => .inl (dA q.1, q.2, if q.1 = 3 then .inr (.inr (.inr (.inl (D k)))) else .inl (I k))
def wld (ad : Nat → Nat) (dA : Nat → ClassId) (I : MI) (D : MD) : Nat → List Sh → va_W
  | _, [] => []
  | k, s :: t => (ad k, ent ad dA I D k s) :: wld ad dA I D (k + 1) t
theorem nth_eq {α : Type} : ∀ (l : List α) (i : Nat), nth l i = l[i]?
  | [], i => by simp [nth]
  | a :: l, 0 => by simp [nth]
  | a :: l, i + 1 => by simp [nth, nth_eq l i]
theorem fvs_get (ad : Nat → Nat) (I : MI) (D : MD) (k : Nat) : ∀ (l : List (Nat ⊕ Bool)) (j i : Nat), (fvs ad I D k j l)[i]? = l[i]?.map (fv ad I D k (j + i))
  | [], j, i => by simp [fvs]
  | f :: t, j, 0 => by simp [fvs]
  | f :: t, j, i + 1 => by
    have h := fvs_get ad I D k t (j + 1) i
    simp only [fvs, List.getElem?_cons_succ, h]
    rw [show j + 1 + i = j + (i + 1) by omega]
theorem fvs_len (ad : Nat → Nat) (I : MI) (D : MD) (k : Nat) : ∀ (l : List (Nat ⊕ Bool)) (j : Nat), (fvs ad I D k j l).length = l.length
  | [], j => rfl
  | f :: t, j => by simp [fvs, fvs_len ad I D k t (j + 1)]
theorem wld_get (ad : Nat → Nat) (dA : Nat → ClassId) (I : MI) (D : MD) : ∀ (l : List Sh) (k i : Nat), (wld ad dA I D k l)[i]? = l[i]?.map (fun s => (ad (k + i), ent ad dA I D (k + i) s))
  | [], k, i => by simp [wld]
  | f :: t, k, 0 => by simp [wld]
  | f :: t, k, i + 1 => by
    have h := wld_get ad dA I D t (k + 1) i
    simp only [wld, List.getElem?_cons_succ, h]
    rw [show k + 1 + i = k + (i + 1) by omega]
theorem wld_len (ad : Nat → Nat) (dA : Nat → ClassId) (I : MI) (D : MD) : ∀ (l : List Sh) (k : Nat), (wld ad dA I D k l).length = l.length
  | [], k => rfl
  | f :: t, k => by simp [wld, wld_len ad dA I D t (k + 1)]
theorem wld_at {ad : Nat → Nat} {dA : Nat → ClassId} {I : MI} {D : MD} {SH : List Sh} {q : Nat} {s : Sh} (h : nth SH q = some s) : (wld ad dA I D 0 SH)[q]? = some (ad q, ent ad dA I D q s) := by
  rw [wld_get, ← nth_eq, h]
  simp
theorem up2_ne {α : Type} {f : Nat → Nat → α} {k j : Nat} {v : α} {i : Nat} (h : i ≠ k) : up2 f k j v i = f i := by
  funext b
  simp [up2, h]
theorem up2_row {f : MI} {k j : Nat} {v : Int32} : up2 f k j v k = upd (f k) j v := by
  funext b
  simp [up2, upd]
theorem up2_rowD {f : MD} {k j : Nat} {v : UInt64} : up2 f k j v k = vf_upd (f k) j v := by
  funext b
  simp [up2, vf_upd]
theorem fvs_same {ad : Nat → Nat} {I I' : MI} {D D' : MD} {k : Nat} (h : I' k = I k) (h2 : D' k = D k) : ∀ (l : List (Nat ⊕ Bool)) (j : Nat), fvs ad I' D' k j l = fvs ad I D k j l
  | [], j => rfl
  | f :: t, j => by
    have h3 := fvs_same (ad := ad) h h2 t (j + 1)
    simp only [fvs, h3]
    congr 1
    rcases f with t | b
    · rfl
    · cases b <;> simp [fv, h, h2]
theorem ent_same {ad : Nat → Nat} {dA : Nat → ClassId} {I I' : MI} {D D' : MD} {k : Nat} (h : I' k = I k) (h2 : D' k = D k) (s : Sh) : ent ad dA I' D' k s = ent ad dA I D k s := by
  rcases s with q | q
  · simp only [ent, fvs_same h h2]
  · simp only [ent, h, h2]
/-- one cell changes -/
theorem wld_set {ad : Nat → Nat} {dA : Nat → ClassId} {I I' : MI} {D D' : MD} {SH : List Sh} {q : Nat} {s : Sh} (hq : nth SH q = some s) (hI : ∀ i, i ≠ q → I' i = I i) (hD : ∀ i, i ≠ q → D' i = D i) {en : va_E} (he : en = ent ad dA I' D' q s) : (wld ad dA I D 0 SH).set q (ad q, en) = wld ad dA I' D' 0 SH := by
  apply List.ext_getElem?
  intro i
  rw [List.getElem?_set, wld_get, wld_get, wld_len]
  have hl : q < SH.length := by
    rw [nth_eq] at hq
    exact (List.getElem?_eq_some_iff.mp hq).1
  by_cases h : q = i
  · subst h
    rw [if_pos rfl, if_pos hl, ← nth_eq, hq, he]
    simp
  · rw [if_neg h]
    cases hs : SH[i]? with
    | none => rfl
    | some z =>
      simp only [Option.map_some, Nat.zero_add]
      rw [ent_same (hI i (fun x => h x.symm)) (hD i (fun x => h x.symm))]
theorem fvs_setI {ad : Nat → Nat} {I : MI} {D : MD} {k b : Nat} {fks : List (Nat ⊕ Bool)} (hb : nth fks b = some (.inr false)) (x : Int32) : (fvs ad I D k 0 fks).set b (.int x) = fvs ad (up2 I k b x) D k 0 fks := by
  apply List.ext_getElem?
  intro i
  rw [List.getElem?_set, fvs_get, fvs_get, fvs_len]
  have hl : b < fks.length := by
    rw [nth_eq] at hb
    exact (List.getElem?_eq_some_iff.mp hb).1
  by_cases h : b = i
  · subst h
    rw [if_pos rfl, if_pos hl, ← nth_eq, hb]
    simp [fv, up2]
  · rw [if_neg h]
    cases hs : fks[i]? with
    | none => rfl
    | some z =>
      simp only [Option.map_some, Nat.zero_add]
      rcases z with t | c
      · rfl
      · cases c
        · simp [fv, up2, Ne.symm h]
        · simp [fv]
theorem fvs_setD {ad : Nat → Nat} {I : MI} {D : MD} {k b : Nat} {fks : List (Nat ⊕ Bool)} (hb : nth fks b = some (.inr true)) (x : UInt64) : (fvs ad I D k 0 fks).set b (.double x) = fvs ad I (up2 D k b x) k 0 fks := by
  apply List.ext_getElem?
  intro i
  rw [List.getElem?_set, fvs_get, fvs_get, fvs_len]
  have hl : b < fks.length := by
    rw [nth_eq] at hb
    exact (List.getElem?_eq_some_iff.mp hb).1
  by_cases h : b = i
  · subst h
    rw [if_pos rfl, if_pos hl, ← nth_eq, hb]
    simp [fv, up2]
  · rw [if_neg h]
    cases hs : fks[i]? with
    | none => rfl
    | some z =>
      simp only [Option.map_some, Nat.zero_add]
      rcases z with t | c
      · rfl
      · cases c
        · simp [fv]
        · simp [fv, up2, Ne.symm h]
-- what the small words say
theorem lk_e : ∀ {lv : Lv} {i : Nat} {k : Value → Prop}, lk lv i k → ∃ w, (i, w) ∈ lv ∧ k w
  | [], i, k, h => h.elim
  | q :: t, i, k, h => by
    unfold lk at h
    split at h
    next hb =>
      have := Nat.eq_of_beq_eq_true hb
      subst this
      exact ⟨q.2, List.mem_cons_self, h⟩
    next hb =>
      obtain ⟨w, h1, h2⟩ := lk_e h
      exact ⟨w, List.mem_cons_of_mem _ h1, h2⟩
theorem beq_same (a b : Nat) : Nat.beq a b = (a == b) := by
  cases h : Nat.beq a b with
  | true => rw [Nat.eq_of_beq_eq_true h]; simp
  | false =>
    have := Nat.ne_of_beq_eq_false h
    simp [this]
theorem fl1_e : ∀ {lv : Lv} {i : Nat} {k : Lv → Prop}, fl1 i lv k → k (lv.filter (fun q => !(q.1 == i) && !(q.1 + 1 == i && q.2.category == 2)))
  | [], i, k, h => h
  | q :: t, i, k, h => by
    unfold fl1 at h
    rw [List.filter_cons]
    split at h
    next hb =>
      simp only [beq_same] at hb
      rw [if_pos hb]
      exact fl1_e h
    next hb =>
      simp only [beq_same] at hb
      rw [if_neg (by rw [hb]; decide)]
      exact fl1_e h
theorem fl2_e : ∀ {lv : Lv} {i : Nat} {k : Lv → Prop}, fl2 i lv k → k (lv.filter (fun q => !(q.1 == i) && (!(q.1 == i + 1) && !(q.1 + 1 == i && q.2.category == 2))))
  | [], i, k, h => h
  | q :: t, i, k, h => by
    unfold fl2 at h
    rw [List.filter_cons]
    split at h
    next hb =>
      simp only [beq_same] at hb
      rw [if_pos hb]
      exact fl2_e h
    next hb =>
      simp only [beq_same] at hb
      rw [if_neg (by rw [hb]; decide)]
      exact fl2_e h
theorem pick_e : ∀ {is : List Nat} {lv : Lv} {k : Lv → Prop}, pick is lv k → ∃ lv', k lv' ∧ ∀ q ∈ lv', q ∈ lv
  | [], lv, k, h => ⟨[], h, fun q hq => by cases hq⟩
  | i :: is, lv, k, h => by
    unfold pick at h
    obtain ⟨w, h1, h2⟩ := lk_e h
    obtain ⟨t, h3, h4⟩ := pick_e h2
    refine ⟨_, h3, fun q hq => ?_⟩
    rcases List.mem_cons.mp hq with rfl | hq
    · exact h1
    · exact h4 q hq
theorem popN_e : ∀ {n : Nat} {st acc : List Value} {k : List Value → List Value → Prop}, popN n st acc k → ∃ vs r, vs.length = n ∧ st = vs ++ r ∧ k (vs.reverse ++ acc) r
  | 0, st, acc, k, h => ⟨[], st, rfl, rfl, h⟩
  | n + 1, [], acc, k, h => h.elim
  | n + 1, v :: st, acc, k, h => by
    obtain ⟨vs, r, h1, h2, h3⟩ := popN_e (n := n) (st := st) (acc := v :: acc) h
    refine ⟨v :: vs, r, by simp [h1], by simp [h2], ?_⟩
    simpa using h3
theorem csum_e : ∀ (r : List Value), csum r = (r.map fun v => v.category).sum
  | [] => rfl
  | v :: t => by simp [csum, csum_e t]
theorem okst_e {r : List Value} {P : Prop} (h : okst r P) : csum r ≤ 8 ∧ P := by
  unfold okst at h
  split at h
  next hb => exact ⟨Nat.le_of_ble_eq_true hb, h⟩
  next => exact h.elim
theorem tI_e {st : List Value} {k : Int32 → List Value → Prop} (h : tI st k) : ∃ x r, st = .int x :: r ∧ k x r := by
  unfold tI at h; split at h
  next => exact ⟨_, _, rfl, h⟩
  next => exact h.elim
theorem tL_e {st : List Value} {k : Int64 → List Value → Prop} (h : tL st k) : ∃ x r, st = .long x :: r ∧ k x r := by
  unfold tL at h; split at h
  next => exact ⟨_, _, rfl, h⟩
  next => exact h.elim
theorem tF_e {st : List Value} {k : UInt32 → List Value → Prop} (h : tF st k) : ∃ x r, st = .float x :: r ∧ k x r := by
  unfold tF at h; split at h
  next => exact ⟨_, _, rfl, h⟩
  next => exact h.elim
theorem tD_e {st : List Value} {k : UInt64 → List Value → Prop} (h : tD st k) : ∃ x r, st = .double x :: r ∧ k x r := by
  unfold tD at h; split at h
  next => exact ⟨_, _, rfl, h⟩
  next => exact h.elim
theorem tR_e {st : List Value} {k : Nat → List Value → Prop} (h : tR st k) : ∃ x r, st = .ref x :: r ∧ k x r := by
  unfold tR at h; split at h
  next => exact ⟨_, _, rfl, h⟩
  next => exact h.elim
theorem t2I_e {st : List Value} {k : Int32 → Int32 → List Value → Prop} (h : t2I st k) : ∃ x y r, st = .int y :: .int x :: r ∧ k x y r := by
  unfold t2I at h; split at h
  next => exact ⟨_, _, _, rfl, h⟩
  next => exact h.elim
theorem t2L_e {st : List Value} {k : Int64 → Int64 → List Value → Prop} (h : t2L st k) : ∃ x y r, st = .long y :: .long x :: r ∧ k x y r := by
  unfold t2L at h; split at h
  next => exact ⟨_, _, _, rfl, h⟩
  next => exact h.elim
theorem t2F_e {st : List Value} {k : UInt32 → UInt32 → List Value → Prop} (h : t2F st k) : ∃ x y r, st = .float y :: .float x :: r ∧ k x y r := by
  unfold t2F at h; split at h
  next => exact ⟨_, _, _, rfl, h⟩
  next => exact h.elim
theorem t2D_e {st : List Value} {k : UInt64 → UInt64 → List Value → Prop} (h : t2D st k) : ∃ x y r, st = .double y :: .double x :: r ∧ k x y r := by
  unfold t2D at h; split at h
  next => exact ⟨_, _, _, rfl, h⟩
  next => exact h.elim
theorem isI_e {w : Value} {P : Prop} (h : isI w P) : ∃ x, w = .int x ∧ P := by
  unfold isI at h; split at h
  next => exact ⟨_, rfl, h⟩
  next => exact h.elim
theorem isL_e {w : Value} {P : Prop} (h : isL w P) : ∃ x, w = .long x ∧ P := by
  unfold isL at h; split at h
  next => exact ⟨_, rfl, h⟩
  next => exact h.elim
theorem isF_e {w : Value} {P : Prop} (h : isF w P) : ∃ x, w = .float x ∧ P := by
  unfold isF at h; split at h
  next => exact ⟨_, rfl, h⟩
  next => exact h.elim
theorem isD_e {w : Value} {P : Prop} (h : isD w P) : ∃ x, w = .double x ∧ P := by
  unfold isD at h; split at h
  next => exact ⟨_, rfl, h⟩
  next => exact h.elim
theorem isR_e {w : Value} {P : Prop} (h : isR w P) : ∃ x, w = .ref x ∧ P := by
  unfold isR at h; split at h
  next => exact ⟨_, rfl, h⟩
  next => exact h.elim
theorem atO_e {SH : List Sh} {k ci : Nat} {P : List (Nat ⊕ Bool) → Prop} (h : atO SH k ci P) : ∃ fks, nth SH k = some (.inl (ci, fks)) ∧ P fks := by
  unfold atO at h
  split at h
  next q hq =>
    split at h
    next hb =>
      obtain ⟨c, fks⟩ := q
      have := Nat.eq_of_beq_eq_true hb
      dsimp only at this
      subst this
      exact ⟨fks, hq, h⟩
    next => exact h.elim
  next => exact h.elim
theorem atA_e {SH : List Sh} {k t : Nat} {P : Nat → Prop} (h : atA SH k t P) : ∃ n, nth SH k = some (.inr (t, n)) ∧ P n := by
  unfold atA at h
  split at h
  next q hq =>
    split at h
    next hb =>
      obtain ⟨c, fks⟩ := q
      have := Nat.eq_of_beq_eq_true hb
      dsimp only at this
      subst this
      exact ⟨fks, hq, h⟩
    next => exact h.elim
  next => exact h.elim
theorem inn_vp {i : Int32} {n : Nat} (h : inn i n) : vp_in i n := vp_in_iff.mpr h
theorem dup1_e {st : List Value} {k : Value → List Value → Prop} (h : dup1 st k) : ∃ v r, st = v :: r ∧ v.category = 1 ∧ k v r := by
  unfold dup1 at h; split at h
  next =>
    split at h
    next hb => exact ⟨_, _, rfl, Nat.eq_of_beq_eq_true hb, h⟩
    next => exact h.elim
  next => exact h.elim
theorem dup11_e {st : List Value} {k : Value → Value → List Value → Prop} (h : dup11 st k) : ∃ v w r, st = v :: w :: r ∧ v.category = 1 ∧ w.category = 1 ∧ k v w r := by
  unfold dup11 at h; split at h
  next =>
    split at h
    next hb hc => exact ⟨_, _, _, rfl, Nat.eq_of_beq_eq_true hb, Nat.eq_of_beq_eq_true hc, h⟩
    next => exact h.elim
  next => exact h.elim
end
