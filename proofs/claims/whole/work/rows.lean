section
-- ===== PART A: goes FIRST, ahead of the names: the tables' words, and 'selects' of the private methods out of them =====
/-- a private method of a class that the tables say can be made, by its rows of tables_1 -/
def lw_okq (q : MethodName × Nat) : Prop := (q.1.cls ≠ "java/lang/invoke/MethodHandle" ∧ q.1.cls ≠ "java/lang/invoke/VarHandle") ∧ Cond.instantiable q.1.cls q.2 ∈ tables_1 ∧ Cond.privateMethod q.1 ∈ tables_1 ∧ Cond.instanceMethod q.1 ∈ tables_1
theorem lw_p0 : lw_okq (⟨"TideDesk", "isPast", "(I)Z"⟩, 14) := ⟨⟨by decide +kernel, by decide +kernel⟩, List.mem_of_getElem? (i := 18) (by decide +kernel), List.mem_of_getElem? (i := 574) (by decide +kernel), List.mem_of_getElem? (i := 575) (by decide +kernel)⟩
theorem lw_p1 : lw_okq (⟨"TideDesk", "isGauge", "(I)Z"⟩, 14) := ⟨⟨by decide +kernel, by decide +kernel⟩, List.mem_of_getElem? (i := 18) (by decide +kernel), List.mem_of_getElem? (i := 617) (by decide +kernel), List.mem_of_getElem? (i := 618) (by decide +kernel)⟩
theorem lw_p2 : lw_okq (⟨"TideDesk$Gauges", "keepBySize", "(D)V"⟩, 15) := ⟨⟨by decide +kernel, by decide +kernel⟩, List.mem_of_getElem? (i := 81) (by decide +kernel), List.mem_of_getElem? (i := 677) (by decide +kernel), List.mem_of_getElem? (i := 678) (by decide +kernel)⟩
theorem lw_p3 : lw_okq (⟨"TideDesk$Shoals", "addBed", "(IIII)V"⟩, 10) := ⟨⟨by decide +kernel, by decide +kernel⟩, List.mem_of_getElem? (i := 145) (by decide +kernel), List.mem_of_getElem? (i := 701) (by decide +kernel), List.mem_of_getElem? (i := 702) (by decide +kernel)⟩
theorem lw_p4 : lw_okq (⟨"TideDesk", "isShoal", "(I)Z"⟩, 14) := ⟨⟨by decide +kernel, by decide +kernel⟩, List.mem_of_getElem? (i := 18) (by decide +kernel), List.mem_of_getElem? (i := 709) (by decide +kernel), List.mem_of_getElem? (i := 710) (by decide +kernel)⟩
theorem lw_p5 : lw_okq (⟨"TideDesk$Shoals", "bedInForce", "(III)I"⟩, 10) := ⟨⟨by decide +kernel, by decide +kernel⟩, List.mem_of_getElem? (i := 145) (by decide +kernel), List.mem_of_getElem? (i := 725) (by decide +kernel), List.mem_of_getElem? (i := 726) (by decide +kernel)⟩
theorem lw_p6 : lw_okq (⟨"TideDesk$Waters", "halve", "(IIZI)I"⟩, 8) := ⟨⟨by decide +kernel, by decide +kernel⟩, List.mem_of_getElem? (i := 186) (by decide +kernel), List.mem_of_getElem? (i := 766) (by decide +kernel), List.mem_of_getElem? (i := 767) (by decide +kernel)⟩
theorem lw_p7 : lw_okq (⟨"TideDesk$Waters", "keep", "(IIZI)V"⟩, 8) := ⟨⟨by decide +kernel, by decide +kernel⟩, List.mem_of_getElem? (i := 186) (by decide +kernel), List.mem_of_getElem? (i := 770) (by decide +kernel), List.mem_of_getElem? (i := 771) (by decide +kernel)⟩
theorem lw_p8 : lw_okq (⟨"TideDesk$Waters", "nearestHigh", "(II)I"⟩, 8) := ⟨⟨by decide +kernel, by decide +kernel⟩, List.mem_of_getElem? (i := 186) (by decide +kernel), List.mem_of_getElem? (i := 813) (by decide +kernel), List.mem_of_getElem? (i := 814) (by decide +kernel)⟩
theorem lw_p9 : lw_okq (⟨"TideDesk$Ships", "deepOf", "(I)I"⟩, 11) := ⟨⟨by decide +kernel, by decide +kernel⟩, List.mem_of_getElem? (i := 223) (by decide +kernel), List.mem_of_getElem? (i := 832) (by decide +kernel), List.mem_of_getElem? (i := 833) (by decide +kernel)⟩
theorem lw_p10 : lw_okq (⟨"TideDesk", "isShipOrNothing", "(I)Z"⟩, 14) := ⟨⟨by decide +kernel, by decide +kernel⟩, List.mem_of_getElem? (i := 18) (by decide +kernel), List.mem_of_getElem? (i := 839) (by decide +kernel), List.mem_of_getElem? (i := 840) (by decide +kernel)⟩
theorem lw_p11 : lw_okq (⟨"TideDesk", "isShip", "(I)Z"⟩, 14) := ⟨⟨by decide +kernel, by decide +kernel⟩, List.mem_of_getElem? (i := 18) (by decide +kernel), List.mem_of_getElem? (i := 847) (by decide +kernel), List.mem_of_getElem? (i := 848) (by decide +kernel)⟩
theorem lw_p12 : lw_okq (⟨"TideDesk$Ships", "pairAnswer", "(III)I"⟩, 11) := ⟨⟨by decide +kernel, by decide +kernel⟩, List.mem_of_getElem? (i := 223) (by decide +kernel), List.mem_of_getElem? (i := 855) (by decide +kernel), List.mem_of_getElem? (i := 856) (by decide +kernel)⟩
theorem lw_p13 : lw_okq (⟨"TideDesk$Ships", "begin", "(I)V"⟩, 11) := ⟨⟨by decide +kernel, by decide +kernel⟩, List.mem_of_getElem? (i := 223) (by decide +kernel), List.mem_of_getElem? (i := 862) (by decide +kernel), List.mem_of_getElem? (i := 863) (by decide +kernel)⟩
theorem lw_p14 : lw_okq (⟨"TideDesk$Ships", "needOf", "(I)I"⟩, 11) := ⟨⟨by decide +kernel, by decide +kernel⟩, List.mem_of_getElem? (i := 223) (by decide +kernel), List.mem_of_getElem? (i := 870) (by decide +kernel), List.mem_of_getElem? (i := 871) (by decide +kernel)⟩
theorem lw_p15 : lw_okq (⟨"TideDesk$Ships", "keelOf", "(I)I"⟩, 11) := ⟨⟨by decide +kernel, by decide +kernel⟩, List.mem_of_getElem? (i := 223) (by decide +kernel), List.mem_of_getElem? (i := 878) (by decide +kernel), List.mem_of_getElem? (i := 879) (by decide +kernel)⟩
def lw_privs_1 : List (MethodName × Nat) := [(⟨"TideDesk", "isPast", "(I)Z"⟩, 14), (⟨"TideDesk", "isGauge", "(I)Z"⟩, 14), (⟨"TideDesk$Gauges", "keepBySize", "(D)V"⟩, 15), (⟨"TideDesk$Shoals", "addBed", "(IIII)V"⟩, 10), (⟨"TideDesk", "isShoal", "(I)Z"⟩, 14), (⟨"TideDesk$Shoals", "bedInForce", "(III)I"⟩, 10), (⟨"TideDesk$Waters", "halve", "(IIZI)I"⟩, 8), (⟨"TideDesk$Waters", "keep", "(IIZI)V"⟩, 8), (⟨"TideDesk$Waters", "nearestHigh", "(II)I"⟩, 8), (⟨"TideDesk$Ships", "deepOf", "(I)I"⟩, 11), (⟨"TideDesk", "isShipOrNothing", "(I)Z"⟩, 14), (⟨"TideDesk", "isShip", "(I)Z"⟩, 14), (⟨"TideDesk$Ships", "pairAnswer", "(III)I"⟩, 11), (⟨"TideDesk$Ships", "begin", "(I)V"⟩, 11), (⟨"TideDesk$Ships", "needOf", "(I)I"⟩, 11), (⟨"TideDesk$Ships", "keelOf", "(I)I"⟩, 11)]
theorem lw_r1 : ∀ q ∈ lw_privs_1, lw_okq q := List.forall_mem_cons.mpr ⟨lw_p0, List.forall_mem_cons.mpr ⟨lw_p1, List.forall_mem_cons.mpr ⟨lw_p2, List.forall_mem_cons.mpr ⟨lw_p3, List.forall_mem_cons.mpr ⟨lw_p4, List.forall_mem_cons.mpr ⟨lw_p5, List.forall_mem_cons.mpr ⟨lw_p6, List.forall_mem_cons.mpr ⟨lw_p7, List.forall_mem_cons.mpr ⟨lw_p8, List.forall_mem_cons.mpr ⟨lw_p9, List.forall_mem_cons.mpr ⟨lw_p10, List.forall_mem_cons.mpr ⟨lw_p11, List.forall_mem_cons.mpr ⟨lw_p12, List.forall_mem_cons.mpr ⟨lw_p13, List.forall_mem_cons.mpr ⟨lw_p14, List.forall_mem_cons.mpr ⟨lw_p15, fun _ h => absurd h List.not_mem_nil⟩⟩⟩⟩⟩⟩⟩⟩⟩⟩⟩⟩⟩⟩⟩⟩
theorem lw_p16 : lw_okq (⟨"TideDesk$Ships", "paceOf", "(I)I"⟩, 11) := ⟨⟨by decide +kernel, by decide +kernel⟩, List.mem_of_getElem? (i := 223) (by decide +kernel), List.mem_of_getElem? (i := 882) (by decide +kernel), List.mem_of_getElem? (i := 883) (by decide +kernel)⟩
theorem lw_p17 : lw_okq (⟨"TideDesk$Ships", "patienceOf", "(I)I"⟩, 11) := ⟨⟨by decide +kernel, by decide +kernel⟩, List.mem_of_getElem? (i := 223) (by decide +kernel), List.mem_of_getElem? (i := 886) (by decide +kernel), List.mem_of_getElem? (i := 887) (by decide +kernel)⟩
theorem lw_p18 : lw_okq (⟨"TideDesk$Voyages", "tryLeg", "(III)I"⟩, 11) := ⟨⟨by decide +kernel, by decide +kernel⟩, List.mem_of_getElem? (i := 295) (by decide +kernel), List.mem_of_getElem? (i := 1013) (by decide +kernel), List.mem_of_getElem? (i := 1014) (by decide +kernel)⟩
theorem lw_p19 : lw_okq (⟨"TideDesk$Passages", "meetsAny", "(I)Z"⟩, 17) := ⟨⟨by decide +kernel, by decide +kernel⟩, List.mem_of_getElem? (i := 395) (by decide +kernel), List.mem_of_getElem? (i := 1073) (by decide +kernel), List.mem_of_getElem? (i := 1074) (by decide +kernel)⟩
theorem lw_p20 : lw_okq (⟨"TideDesk$Passages", "meets", "(II)Z"⟩, 17) := ⟨⟨by decide +kernel, by decide +kernel⟩, List.mem_of_getElem? (i := 395) (by decide +kernel), List.mem_of_getElem? (i := 1077) (by decide +kernel), List.mem_of_getElem? (i := 1078) (by decide +kernel)⟩
theorem lw_p21 : lw_okq (⟨"TideDesk$Passages", "meetInLock", "(IIII)Z"⟩, 17) := ⟨⟨by decide +kernel, by decide +kernel⟩, List.mem_of_getElem? (i := 395) (by decide +kernel), List.mem_of_getElem? (i := 1081) (by decide +kernel), List.mem_of_getElem? (i := 1082) (by decide +kernel)⟩
theorem lw_p22 : lw_okq (⟨"TideDesk$Passages", "meetInReach", "(IIII)Z"⟩, 17) := ⟨⟨by decide +kernel, by decide +kernel⟩, List.mem_of_getElem? (i := 395) (by decide +kernel), List.mem_of_getElem? (i := 1085) (by decide +kernel), List.mem_of_getElem? (i := 1086) (by decide +kernel)⟩
theorem lw_p23 : lw_okq (⟨"TideDesk$Passages", "keepComing", "(I)V"⟩, 17) := ⟨⟨by decide +kernel, by decide +kernel⟩, List.mem_of_getElem? (i := 395) (by decide +kernel), List.mem_of_getElem? (i := 1089) (by decide +kernel), List.mem_of_getElem? (i := 1090) (by decide +kernel)⟩
theorem lw_p24 : lw_okq (⟨"TideDesk", "isPassage", "(I)Z"⟩, 14) := ⟨⟨by decide +kernel, by decide +kernel⟩, List.mem_of_getElem? (i := 18) (by decide +kernel), List.mem_of_getElem? (i := 1097) (by decide +kernel), List.mem_of_getElem? (i := 1098) (by decide +kernel)⟩
theorem lw_p25 : lw_okq (⟨"TideDesk$Passages", "holdLocks", "(I)Z"⟩, 17) := ⟨⟨by decide +kernel, by decide +kernel⟩, List.mem_of_getElem? (i := 395) (by decide +kernel), List.mem_of_getElem? (i := 1114) (by decide +kernel), List.mem_of_getElem? (i := 1115) (by decide +kernel)⟩
theorem lw_p26 : lw_okq (⟨"TideDesk$Passages", "askAtLast", "(I)I"⟩, 17) := ⟨⟨by decide +kernel, by decide +kernel⟩, List.mem_of_getElem? (i := 395) (by decide +kernel), List.mem_of_getElem? (i := 1118) (by decide +kernel), List.mem_of_getElem? (i := 1119) (by decide +kernel)⟩
theorem lw_p27 : lw_okq (⟨"TideDesk$Passages", "freeAll", "()V"⟩, 17) := ⟨⟨by decide +kernel, by decide +kernel⟩, List.mem_of_getElem? (i := 395) (by decide +kernel), List.mem_of_getElem? (i := 1122) (by decide +kernel), List.mem_of_getElem? (i := 1123) (by decide +kernel)⟩
theorem lw_p28 : lw_okq (⟨"TideDeskModel", "isKnowing", "(II)Z"⟩, 91) := ⟨⟨by decide +kernel, by decide +kernel⟩, List.mem_of_getElem? (i := 1146) (by decide +kernel), List.mem_of_getElem? (i := 1484) (by decide +kernel), List.mem_of_getElem? (i := 1485) (by decide +kernel)⟩
theorem lw_p29 : lw_okq (⟨"TideDeskModel", "isFull", "()Z"⟩, 91) := ⟨⟨by decide +kernel, by decide +kernel⟩, List.mem_of_getElem? (i := 1146) (by decide +kernel), List.mem_of_getElem? (i := 1488) (by decide +kernel), List.mem_of_getElem? (i := 1489) (by decide +kernel)⟩
theorem lw_p30 : lw_okq (⟨"TideDeskModel", "rises", "(III)Z"⟩, 91) := ⟨⟨by decide +kernel, by decide +kernel⟩, List.mem_of_getElem? (i := 1146) (by decide +kernel), List.mem_of_getElem? (i := 1493) (by decide +kernel), List.mem_of_getElem? (i := 1494) (by decide +kernel)⟩
theorem lw_p31 : lw_okq (⟨"TideDeskModel", "inForce", "(III)I"⟩, 91) := ⟨⟨by decide +kernel, by decide +kernel⟩, List.mem_of_getElem? (i := 1146) (by decide +kernel), List.mem_of_getElem? (i := 1497) (by decide +kernel), List.mem_of_getElem? (i := 1498) (by decide +kernel)⟩
def lw_privs_2 : List (MethodName × Nat) := [(⟨"TideDesk$Ships", "paceOf", "(I)I"⟩, 11), (⟨"TideDesk$Ships", "patienceOf", "(I)I"⟩, 11), (⟨"TideDesk$Voyages", "tryLeg", "(III)I"⟩, 11), (⟨"TideDesk$Passages", "meetsAny", "(I)Z"⟩, 17), (⟨"TideDesk$Passages", "meets", "(II)Z"⟩, 17), (⟨"TideDesk$Passages", "meetInLock", "(IIII)Z"⟩, 17), (⟨"TideDesk$Passages", "meetInReach", "(IIII)Z"⟩, 17), (⟨"TideDesk$Passages", "keepComing", "(I)V"⟩, 17), (⟨"TideDesk", "isPassage", "(I)Z"⟩, 14), (⟨"TideDesk$Passages", "holdLocks", "(I)Z"⟩, 17), (⟨"TideDesk$Passages", "askAtLast", "(I)I"⟩, 17), (⟨"TideDesk$Passages", "freeAll", "()V"⟩, 17), (⟨"TideDeskModel", "isKnowing", "(II)Z"⟩, 91), (⟨"TideDeskModel", "isFull", "()Z"⟩, 91), (⟨"TideDeskModel", "rises", "(III)Z"⟩, 91), (⟨"TideDeskModel", "inForce", "(III)I"⟩, 91)]
theorem lw_r2 : ∀ q ∈ lw_privs_2, lw_okq q := List.forall_mem_cons.mpr ⟨lw_p16, List.forall_mem_cons.mpr ⟨lw_p17, List.forall_mem_cons.mpr ⟨lw_p18, List.forall_mem_cons.mpr ⟨lw_p19, List.forall_mem_cons.mpr ⟨lw_p20, List.forall_mem_cons.mpr ⟨lw_p21, List.forall_mem_cons.mpr ⟨lw_p22, List.forall_mem_cons.mpr ⟨lw_p23, List.forall_mem_cons.mpr ⟨lw_p24, List.forall_mem_cons.mpr ⟨lw_p25, List.forall_mem_cons.mpr ⟨lw_p26, List.forall_mem_cons.mpr ⟨lw_p27, List.forall_mem_cons.mpr ⟨lw_p28, List.forall_mem_cons.mpr ⟨lw_p29, List.forall_mem_cons.mpr ⟨lw_p30, List.forall_mem_cons.mpr ⟨lw_p31, fun _ h => absurd h List.not_mem_nil⟩⟩⟩⟩⟩⟩⟩⟩⟩⟩⟩⟩⟩⟩⟩⟩
theorem lw_p32 : lw_okq (⟨"TideDeskModel", "fails", "(I)I"⟩, 91) := ⟨⟨by decide +kernel, by decide +kernel⟩, List.mem_of_getElem? (i := 1146) (by decide +kernel), List.mem_of_getElem? (i := 1505) (by decide +kernel), List.mem_of_getElem? (i := 1506) (by decide +kernel)⟩
theorem lw_p33 : lw_okq (⟨"TideDeskModel", "isGauge", "(I)Z"⟩, 91) := ⟨⟨by decide +kernel, by decide +kernel⟩, List.mem_of_getElem? (i := 1146) (by decide +kernel), List.mem_of_getElem? (i := 1521) (by decide +kernel), List.mem_of_getElem? (i := 1522) (by decide +kernel)⟩
theorem lw_p34 : lw_okq (⟨"TideDeskModel", "momentOf", "(II)I"⟩, 91) := ⟨⟨by decide +kernel, by decide +kernel⟩, List.mem_of_getElem? (i := 1146) (by decide +kernel), List.mem_of_getElem? (i := 1525) (by decide +kernel), List.mem_of_getElem? (i := 1526) (by decide +kernel)⟩
theorem lw_p35 : lw_okq (⟨"TideDeskModel", "reads", "(II)I"⟩, 91) := ⟨⟨by decide +kernel, by decide +kernel⟩, List.mem_of_getElem? (i := 1146) (by decide +kernel), List.mem_of_getElem? (i := 1543) (by decide +kernel), List.mem_of_getElem? (i := 1544) (by decide +kernel)⟩
theorem lw_p36 : lw_okq (⟨"TideDeskModel", "surges", "(II)I"⟩, 91) := ⟨⟨by decide +kernel, by decide +kernel⟩, List.mem_of_getElem? (i := 1146) (by decide +kernel), List.mem_of_getElem? (i := 1566) (by decide +kernel), List.mem_of_getElem? (i := 1567) (by decide +kernel)⟩
theorem lw_p37 : lw_okq (⟨"TideDeskModel", "lay", "(III)V"⟩, 91) := ⟨⟨by decide +kernel, by decide +kernel⟩, List.mem_of_getElem? (i := 1146) (by decide +kernel), List.mem_of_getElem? (i := 1579) (by decide +kernel), List.mem_of_getElem? (i := 1580) (by decide +kernel)⟩
theorem lw_p38 : lw_okq (⟨"TideDeskModel", "isShoal", "(I)Z"⟩, 91) := ⟨⟨by decide +kernel, by decide +kernel⟩, List.mem_of_getElem? (i := 1146) (by decide +kernel), List.mem_of_getElem? (i := 1587) (by decide +kernel), List.mem_of_getElem? (i := 1588) (by decide +kernel)⟩
theorem lw_p39 : lw_okq (⟨"TideDeskModel", "goesDown", "(III)Z"⟩, 91) := ⟨⟨by decide +kernel, by decide +kernel⟩, List.mem_of_getElem? (i := 1146) (by decide +kernel), List.mem_of_getElem? (i := 1595) (by decide +kernel), List.mem_of_getElem? (i := 1596) (by decide +kernel)⟩
theorem lw_p40 : lw_okq (⟨"TideDeskModel", "flows", "(II)Z"⟩, 91) := ⟨⟨by decide +kernel, by decide +kernel⟩, List.mem_of_getElem? (i := 1146) (by decide +kernel), List.mem_of_getElem? (i := 1603) (by decide +kernel), List.mem_of_getElem? (i := 1604) (by decide +kernel)⟩
theorem lw_p41 : lw_okq (⟨"TideDeskModel", "heightAt", "(II)D"⟩, 91) := ⟨⟨by decide +kernel, by decide +kernel⟩, List.mem_of_getElem? (i := 1146) (by decide +kernel), List.mem_of_getElem? (i := 1611) (by decide +kernel), List.mem_of_getElem? (i := 1612) (by decide +kernel)⟩
theorem lw_p42 : lw_okq (⟨"TideDeskModel", "halved", "(IIIZ)I"⟩, 91) := ⟨⟨by decide +kernel, by decide +kernel⟩, List.mem_of_getElem? (i := 1146) (by decide +kernel), List.mem_of_getElem? (i := 1615) (by decide +kernel), List.mem_of_getElem? (i := 1616) (by decide +kernel)⟩
theorem lw_p43 : lw_okq (⟨"TideDeskModel", "isRange", "(II)Z"⟩, 91) := ⟨⟨by decide +kernel, by decide +kernel⟩, List.mem_of_getElem? (i := 1146) (by decide +kernel), List.mem_of_getElem? (i := 1627) (by decide +kernel), List.mem_of_getElem? (i := 1628) (by decide +kernel)⟩
theorem lw_p44 : lw_okq (⟨"TideDeskModel", "rangeOf", "(II)D"⟩, 91) := ⟨⟨by decide +kernel, by decide +kernel⟩, List.mem_of_getElem? (i := 1146) (by decide +kernel), List.mem_of_getElem? (i := 1631) (by decide +kernel), List.mem_of_getElem? (i := 1632) (by decide +kernel)⟩
theorem lw_p45 : lw_okq (⟨"TideDeskModel", "streams", "(II)I"⟩, 91) := ⟨⟨by decide +kernel, by decide +kernel⟩, List.mem_of_getElem? (i := 1146) (by decide +kernel), List.mem_of_getElem? (i := 1649) (by decide +kernel), List.mem_of_getElem? (i := 1650) (by decide +kernel)⟩
theorem lw_p46 : lw_okq (⟨"TideDeskModel", "isPart", "(I)Z"⟩, 91) := ⟨⟨by decide +kernel, by decide +kernel⟩, List.mem_of_getElem? (i := 1146) (by decide +kernel), List.mem_of_getElem? (i := 1657) (by decide +kernel), List.mem_of_getElem? (i := 1658) (by decide +kernel)⟩
theorem lw_p47 : lw_okq (⟨"TideDeskModel", "isShip", "(I)Z"⟩, 91) := ⟨⟨by decide +kernel, by decide +kernel⟩, List.mem_of_getElem? (i := 1146) (by decide +kernel), List.mem_of_getElem? (i := 1661) (by decide +kernel), List.mem_of_getElem? (i := 1662) (by decide +kernel)⟩
def lw_privs_3 : List (MethodName × Nat) := [(⟨"TideDeskModel", "fails", "(I)I"⟩, 91), (⟨"TideDeskModel", "isGauge", "(I)Z"⟩, 91), (⟨"TideDeskModel", "momentOf", "(II)I"⟩, 91), (⟨"TideDeskModel", "reads", "(II)I"⟩, 91), (⟨"TideDeskModel", "surges", "(II)I"⟩, 91), (⟨"TideDeskModel", "lay", "(III)V"⟩, 91), (⟨"TideDeskModel", "isShoal", "(I)Z"⟩, 91), (⟨"TideDeskModel", "goesDown", "(III)Z"⟩, 91), (⟨"TideDeskModel", "flows", "(II)Z"⟩, 91), (⟨"TideDeskModel", "heightAt", "(II)D"⟩, 91), (⟨"TideDeskModel", "halved", "(IIIZ)I"⟩, 91), (⟨"TideDeskModel", "isRange", "(II)Z"⟩, 91), (⟨"TideDeskModel", "rangeOf", "(II)D"⟩, 91), (⟨"TideDeskModel", "streams", "(II)I"⟩, 91), (⟨"TideDeskModel", "isPart", "(I)Z"⟩, 91), (⟨"TideDeskModel", "isShip", "(I)Z"⟩, 91)]
theorem lw_r3 : ∀ q ∈ lw_privs_3, lw_okq q := List.forall_mem_cons.mpr ⟨lw_p32, List.forall_mem_cons.mpr ⟨lw_p33, List.forall_mem_cons.mpr ⟨lw_p34, List.forall_mem_cons.mpr ⟨lw_p35, List.forall_mem_cons.mpr ⟨lw_p36, List.forall_mem_cons.mpr ⟨lw_p37, List.forall_mem_cons.mpr ⟨lw_p38, List.forall_mem_cons.mpr ⟨lw_p39, List.forall_mem_cons.mpr ⟨lw_p40, List.forall_mem_cons.mpr ⟨lw_p41, List.forall_mem_cons.mpr ⟨lw_p42, List.forall_mem_cons.mpr ⟨lw_p43, List.forall_mem_cons.mpr ⟨lw_p44, List.forall_mem_cons.mpr ⟨lw_p45, List.forall_mem_cons.mpr ⟨lw_p46, List.forall_mem_cons.mpr ⟨lw_p47, fun _ h => absurd h List.not_mem_nil⟩⟩⟩⟩⟩⟩⟩⟩⟩⟩⟩⟩⟩⟩⟩⟩
theorem lw_p48 : lw_okq (⟨"TideDeskModel", "asks", "(II)I"⟩, 91) := ⟨⟨by decide +kernel, by decide +kernel⟩, List.mem_of_getElem? (i := 1146) (by decide +kernel), List.mem_of_getElem? (i := 1669) (by decide +kernel), List.mem_of_getElem? (i := 1670) (by decide +kernel)⟩
theorem lw_p49 : lw_okq (⟨"TideDeskModel", "begins", "(I)V"⟩, 91) := ⟨⟨by decide +kernel, by decide +kernel⟩, List.mem_of_getElem? (i := 1146) (by decide +kernel), List.mem_of_getElem? (i := 1676) (by decide +kernel), List.mem_of_getElem? (i := 1677) (by decide +kernel)⟩
theorem lw_p50 : lw_okq (⟨"TideDeskModel", "asksOne", "(II)I"⟩, 91) := ⟨⟨by decide +kernel, by decide +kernel⟩, List.mem_of_getElem? (i := 1146) (by decide +kernel), List.mem_of_getElem? (i := 1680) (by decide +kernel), List.mem_of_getElem? (i := 1681) (by decide +kernel)⟩
theorem lw_p51 : lw_okq (⟨"TideDeskModel", "needOf", "(I)V"⟩, 91) := ⟨⟨by decide +kernel, by decide +kernel⟩, List.mem_of_getElem? (i := 1146) (by decide +kernel), List.mem_of_getElem? (i := 1684) (by decide +kernel), List.mem_of_getElem? (i := 1685) (by decide +kernel)⟩
theorem lw_p52 : lw_okq (⟨"TideDeskModel", "keelOf", "(I)V"⟩, 91) := ⟨⟨by decide +kernel, by decide +kernel⟩, List.mem_of_getElem? (i := 1146) (by decide +kernel), List.mem_of_getElem? (i := 1688) (by decide +kernel), List.mem_of_getElem? (i := 1689) (by decide +kernel)⟩
theorem lw_p53 : lw_okq (⟨"TideDeskModel", "paceOf", "(I)I"⟩, 91) := ⟨⟨by decide +kernel, by decide +kernel⟩, List.mem_of_getElem? (i := 1146) (by decide +kernel), List.mem_of_getElem? (i := 1692) (by decide +kernel), List.mem_of_getElem? (i := 1693) (by decide +kernel)⟩
theorem lw_p54 : lw_okq (⟨"TideDeskModel", "patienceOf", "(I)V"⟩, 91) := ⟨⟨by decide +kernel, by decide +kernel⟩, List.mem_of_getElem? (i := 1146) (by decide +kernel), List.mem_of_getElem? (i := 1696) (by decide +kernel), List.mem_of_getElem? (i := 1697) (by decide +kernel)⟩
theorem lw_p55 : lw_okq (⟨"TideDeskModel", "isOf", "(II)Z"⟩, 91) := ⟨⟨by decide +kernel, by decide +kernel⟩, List.mem_of_getElem? (i := 1146) (by decide +kernel), List.mem_of_getElem? (i := 1712) (by decide +kernel), List.mem_of_getElem? (i := 1713) (by decide +kernel)⟩
theorem lw_p56 : lw_okq (⟨"TideDeskModel", "stands", "(II)I"⟩, 91) := ⟨⟨by decide +kernel, by decide +kernel⟩, List.mem_of_getElem? (i := 1146) (by decide +kernel), List.mem_of_getElem? (i := 1727) (by decide +kernel), List.mem_of_getElem? (i := 1728) (by decide +kernel)⟩
theorem lw_p57 : lw_okq (⟨"TideDeskModel", "takes", "(II)Z"⟩, 91) := ⟨⟨by decide +kernel, by decide +kernel⟩, List.mem_of_getElem? (i := 1146) (by decide +kernel), List.mem_of_getElem? (i := 1731) (by decide +kernel), List.mem_of_getElem? (i := 1732) (by decide +kernel)⟩
theorem lw_p58 : lw_okq (⟨"TideDeskModel", "isStarted", "(I)Z"⟩, 91) := ⟨⟨by decide +kernel, by decide +kernel⟩, List.mem_of_getElem? (i := 1146) (by decide +kernel), List.mem_of_getElem? (i := 1756) (by decide +kernel), List.mem_of_getElem? (i := 1757) (by decide +kernel)⟩
theorem lw_p59 : lw_okq (⟨"TideDeskModel", "looks", "(III)I"⟩, 91) := ⟨⟨by decide +kernel, by decide +kernel⟩, List.mem_of_getElem? (i := 1146) (by decide +kernel), List.mem_of_getElem? (i := 1783) (by decide +kernel), List.mem_of_getElem? (i := 1784) (by decide +kernel)⟩
theorem lw_p60 : lw_okq (⟨"TideDeskModel", "passes", "(IIIZ)I"⟩, 91) := ⟨⟨by decide +kernel, by decide +kernel⟩, List.mem_of_getElem? (i := 1146) (by decide +kernel), List.mem_of_getElem? (i := 1787) (by decide +kernel), List.mem_of_getElem? (i := 1788) (by decide +kernel)⟩
theorem lw_p61 : lw_okq (⟨"TideDeskModel", "plans", "(I)V"⟩, 91) := ⟨⟨by decide +kernel, by decide +kernel⟩, List.mem_of_getElem? (i := 1146) (by decide +kernel), List.mem_of_getElem? (i := 1812) (by decide +kernel), List.mem_of_getElem? (i := 1813) (by decide +kernel)⟩
theorem lw_p62 : lw_okq (⟨"TideDeskModel", "isFree", "(I)Z"⟩, 91) := ⟨⟨by decide +kernel, by decide +kernel⟩, List.mem_of_getElem? (i := 1146) (by decide +kernel), List.mem_of_getElem? (i := 1816) (by decide +kernel), List.mem_of_getElem? (i := 1817) (by decide +kernel)⟩
theorem lw_p63 : lw_okq (⟨"TideDeskModel", "isWith", "(II)Z"⟩, 91) := ⟨⟨by decide +kernel, by decide +kernel⟩, List.mem_of_getElem? (i := 1146) (by decide +kernel), List.mem_of_getElem? (i := 1820) (by decide +kernel), List.mem_of_getElem? (i := 1821) (by decide +kernel)⟩
def lw_privs_4 : List (MethodName × Nat) := [(⟨"TideDeskModel", "asks", "(II)I"⟩, 91), (⟨"TideDeskModel", "begins", "(I)V"⟩, 91), (⟨"TideDeskModel", "asksOne", "(II)I"⟩, 91), (⟨"TideDeskModel", "needOf", "(I)V"⟩, 91), (⟨"TideDeskModel", "keelOf", "(I)V"⟩, 91), (⟨"TideDeskModel", "paceOf", "(I)I"⟩, 91), (⟨"TideDeskModel", "patienceOf", "(I)V"⟩, 91), (⟨"TideDeskModel", "isOf", "(II)Z"⟩, 91), (⟨"TideDeskModel", "stands", "(II)I"⟩, 91), (⟨"TideDeskModel", "takes", "(II)Z"⟩, 91), (⟨"TideDeskModel", "isStarted", "(I)Z"⟩, 91), (⟨"TideDeskModel", "looks", "(III)I"⟩, 91), (⟨"TideDeskModel", "passes", "(IIIZ)I"⟩, 91), (⟨"TideDeskModel", "plans", "(I)V"⟩, 91), (⟨"TideDeskModel", "isFree", "(I)Z"⟩, 91), (⟨"TideDeskModel", "isWith", "(II)Z"⟩, 91)]
theorem lw_r4 : ∀ q ∈ lw_privs_4, lw_okq q := List.forall_mem_cons.mpr ⟨lw_p48, List.forall_mem_cons.mpr ⟨lw_p49, List.forall_mem_cons.mpr ⟨lw_p50, List.forall_mem_cons.mpr ⟨lw_p51, List.forall_mem_cons.mpr ⟨lw_p52, List.forall_mem_cons.mpr ⟨lw_p53, List.forall_mem_cons.mpr ⟨lw_p54, List.forall_mem_cons.mpr ⟨lw_p55, List.forall_mem_cons.mpr ⟨lw_p56, List.forall_mem_cons.mpr ⟨lw_p57, List.forall_mem_cons.mpr ⟨lw_p58, List.forall_mem_cons.mpr ⟨lw_p59, List.forall_mem_cons.mpr ⟨lw_p60, List.forall_mem_cons.mpr ⟨lw_p61, List.forall_mem_cons.mpr ⟨lw_p62, List.forall_mem_cons.mpr ⟨lw_p63, fun _ h => absurd h List.not_mem_nil⟩⟩⟩⟩⟩⟩⟩⟩⟩⟩⟩⟩⟩⟩⟩⟩
theorem lw_p64 : lw_okq (⟨"TideDeskModel", "comesTo", "(II)I"⟩, 91) := ⟨⟨by decide +kernel, by decide +kernel⟩, List.mem_of_getElem? (i := 1146) (by decide +kernel), List.mem_of_getElem? (i := 1824) (by decide +kernel), List.mem_of_getElem? (i := 1825) (by decide +kernel)⟩
theorem lw_p65 : lw_okq (⟨"TideDeskModel", "isPassage", "(I)Z"⟩, 91) := ⟨⟨by decide +kernel, by decide +kernel⟩, List.mem_of_getElem? (i := 1146) (by decide +kernel), List.mem_of_getElem? (i := 1835) (by decide +kernel), List.mem_of_getElem? (i := 1836) (by decide +kernel)⟩
theorem lw_p66 : lw_okq (⟨"TideDeskModel", "goes", "(II)I"⟩, 91) := ⟨⟨by decide +kernel, by decide +kernel⟩, List.mem_of_getElem? (i := 1146) (by decide +kernel), List.mem_of_getElem? (i := 1847) (by decide +kernel), List.mem_of_getElem? (i := 1848) (by decide +kernel)⟩
def lw_privs_5 : List (MethodName × Nat) := [(⟨"TideDeskModel", "comesTo", "(II)I"⟩, 91), (⟨"TideDeskModel", "isPassage", "(I)Z"⟩, 91), (⟨"TideDeskModel", "goes", "(II)I"⟩, 91)]
theorem lw_r5 : ∀ q ∈ lw_privs_5, lw_okq q := List.forall_mem_cons.mpr ⟨lw_p64, List.forall_mem_cons.mpr ⟨lw_p65, List.forall_mem_cons.mpr ⟨lw_p66, fun _ h => absurd h List.not_mem_nil⟩⟩⟩
def lw_privs : List (MethodName × Nat) := lw_privs_1 ++ (lw_privs_2 ++ (lw_privs_3 ++ (lw_privs_4 ++ (lw_privs_5))))
def lw_tbl : List Cond := k2_sels lw_privs ++ tables_1
theorem lw_privs_ok : ∀ q ∈ lw_privs, lw_okq q := by
  show ∀ q ∈ lw_privs_1 ++ (lw_privs_2 ++ (lw_privs_3 ++ (lw_privs_4 ++ (lw_privs_5)))), lw_okq q
  exact List.forall_mem_append.mpr ⟨lw_r1, List.forall_mem_append.mpr ⟨lw_r2, List.forall_mem_append.mpr ⟨lw_r3, List.forall_mem_append.mpr ⟨lw_r4, lw_r5⟩⟩⟩⟩
/-- the streams that the claim lets the run draw from -/
abbrev lw_cs : List Choice := [Jvm.Choice.named "NaN.bits", Jvm.Choice.named "NaN.copy"]
theorem lw_bits : nanBits ∈ lw_cs := by first | decide | exact List.mem_cons_self | simp [lw_cs, nanBits]
def RX0 : String := "TideDesk$Findings"
def TX0 : u_T := fun k => match k with
  | 0 => ("TideDesk$Findings", "ever", "I", false)
  | _ => ("TideDesk$Findings", "latest", "I", false)
def tyX0 : Nat → FieldType := fun k => match k with
  | 0 => .int
  | _ => .int
abbrev wsX00 : List Cond := u_ws RX0 TX0 2
theorem nmX0 : ∀ a, a < 2 → ∀ b, b < 2 → a ≠ b → (TX0 a).2.1 ≠ (TX0 b).2.1 := by decide +kernel
theorem tyX0_ok : ∀ k, k < 2 → parseFieldDescriptor (TX0 k).2.2.1 = some (tyX0 k) := by decide +kernel
def RX1 : String := "TideDesk$Fleets"
def TX1 : u_T := fun k => match k with
  | 0 => ("TideDesk$Fleets", "ships", "LTideDesk$Ships;", true)
  | 1 => ("TideDesk$Fleets", "stands", "[Z", true)
  | 2 => ("TideDesk$Fleets", "sort", "[I", true)
  | 3 => ("TideDesk$Fleets", "size", "[I", true)
  | 4 => ("TideDesk$Fleets", "place", "[I", true)
  | _ => ("TideDesk$Fleets", "carried", "[I", true)
def tyX1 : Nat → FieldType := fun k => match k with
  | 0 => .object "TideDesk$Ships"
  | 1 => .array .boolean
  | 2 => .array .int
  | 3 => .array .int
  | 4 => .array .int
  | _ => .array .int
abbrev wsX10 : List Cond := u_ws RX1 TX1 6
theorem nmX1 : ∀ a, a < 6 → ∀ b, b < 6 → a ≠ b → (TX1 a).2.1 ≠ (TX1 b).2.1 := by decide +kernel
theorem tyX1_ok : ∀ k, k < 6 → parseFieldDescriptor (TX1 k).2.2.1 = some (tyX1 k) := by decide +kernel
def RX2 : String := "TideDesk$Gauges"
def TX2 : u_T := fun k => match k with
  | 0 => ("TideDesk$Gauges", "surveys", "LTideDesk$Surveys;", true)
  | 1 => ("TideDesk$Gauges", "station", "[I", true)
  | 2 => ("TideDesk$Gauges", "first", "[I", true)
  | 3 => ("TideDesk$Gauges", "step", "[I", true)
  | 4 => ("TideDesk$Gauges", "isOut", "[Z", true)
  | 5 => ("TideDesk$Gauges", "size", "[I", true)
  | 6 => ("TideDesk$Gauges", "shorts", "[S", true)
  | 7 => ("TideDesk$Gauges", "airs", "[I", true)
  | 8 => ("TideDesk$Gauges", "gathered", "[D", true)
  | 9 => ("TideDesk$Gauges", "told", "I", false)
  | 10 => ("TideDesk$Gauges", "take", "I", false)
  | 11 => ("TideDesk$Gauges", "fade", "I", false)
  | 12 => ("TideDesk$Gauges", "there", "I", false)
  | 13 => ("TideDesk$Gauges", "missing", "I", false)
  | _ => ("TideDesk$Gauges", "latest", "I", false)
def tyX2 : Nat → FieldType := fun k => match k with
  | 0 => .object "TideDesk$Surveys"
  | 1 => .array .int
  | 2 => .array .int
  | 3 => .array .int
  | 4 => .array .boolean
  | 5 => .array .int
  | 6 => .array .short
  | 7 => .array .int
  | 8 => .array .double
  | 9 => .int
  | 10 => .int
  | 11 => .int
  | 12 => .int
  | 13 => .int
  | _ => .int
abbrev wsX20 : List Cond := u_ws RX2 TX2 15
theorem nmX2 : ∀ a, a < 15 → ∀ b, b < 15 → a ≠ b → (TX2 a).2.1 ≠ (TX2 b).2.1 := by decide +kernel
theorem tyX2_ok : ∀ k, k < 15 → parseFieldDescriptor (TX2 k).2.2.1 = some (tyX2 k) := by decide +kernel
def RX3 : String := "TideDesk$Passages"
def TX3 : u_T := fun k => match k with
  | 0 => ("TideDesk$Passages", "findings", "LTideDesk$Findings;", true)
  | 1 => ("TideDesk$Passages", "ships", "LTideDesk$Ships;", true)
  | 2 => ("TideDesk$Passages", "routes", "LTideDesk$Routes;", true)
  | 3 => ("TideDesk$Passages", "shoals", "LTideDesk$Shoals;", true)
  | 4 => ("TideDesk$Passages", "voyages", "LTideDesk$Voyages;", true)
  | 5 => ("TideDesk$Passages", "ship", "[I", true)
  | 6 => ("TideDesk$Passages", "route", "[I", true)
  | 7 => ("TideDesk$Passages", "minute", "[I", true)
  | 8 => ("TideDesk$Passages", "since", "[I", true)
  | 9 => ("TideDesk$Passages", "start", "[I", true)
  | 10 => ("TideDesk$Passages", "waits", "[Z", true)
  | 11 => ("TideDesk$Passages", "coming", "[I", true)
  | 12 => ("TideDesk$Passages", "isHeld", "[Z", true)
  | 13 => ("TideDesk$Passages", "told", "I", false)
  | 14 => ("TideDesk$Passages", "tried", "I", false)
  | 15 => ("TideDesk$Passages", "holding", "I", false)
  | _ => ("TideDesk$Passages", "mostHolding", "I", false)
def tyX3 : Nat → FieldType := fun k => match k with
  | 0 => .object "TideDesk$Findings"
  | 1 => .object "TideDesk$Ships"
  | 2 => .object "TideDesk$Routes"
  | 3 => .object "TideDesk$Shoals"
  | 4 => .object "TideDesk$Voyages"
  | 5 => .array .int
  | 6 => .array .int
  | 7 => .array .int
  | 8 => .array .int
  | 9 => .array .int
  | 10 => .array .boolean
  | 11 => .array .int
  | 12 => .array .boolean
  | 13 => .int
  | 14 => .int
  | 15 => .int
  | _ => .int
abbrev wsX30 : List Cond := u_ws RX3 TX3 17
theorem nmX3 : ∀ a, a < 17 → ∀ b, b < 17 → a ≠ b → (TX3 a).2.1 ≠ (TX3 b).2.1 := by decide +kernel
theorem tyX3_ok : ∀ k, k < 17 → parseFieldDescriptor (TX3 k).2.2.1 = some (tyX3 k) := by decide +kernel
def RX4 : String := "TideDesk$Routes"
def TX4 : u_T := fun k => match k with
  | 0 => ("TideDesk$Routes", "legs", "[I", true)
  | 1 => ("TideDesk$Routes", "shoal", "[I", true)
  | 2 => ("TideDesk$Routes", "distance", "[I", true)
  | _ => ("TideDesk$Routes", "mark", "[I", true)
def tyX4 : Nat → FieldType := fun k => match k with
  | 0 => .array .int
  | 1 => .array .int
  | 2 => .array .int
  | _ => .array .int
abbrev wsX40 : List Cond := u_ws RX4 TX4 4
theorem nmX4 : ∀ a, a < 4 → ∀ b, b < 4 → a ≠ b → (TX4 a).2.1 ≠ (TX4 b).2.1 := by decide +kernel
theorem tyX4_ok : ∀ k, k < 4 → parseFieldDescriptor (TX4 k).2.2.1 = some (tyX4 k) := by decide +kernel
def RX5 : String := "TideDesk$Ships"
def TX5 : u_T := fun k => match k with
  | 0 => ("TideDesk$Ships", "kind", "[I", true)
  | 1 => ("TideDesk$Ships", "draught", "[I", true)
  | 2 => ("TideDesk$Ships", "pace", "[I", true)
  | 3 => ("TideDesk$Ships", "x", "[I", true)
  | 4 => ("TideDesk$Ships", "onePart", "[I", true)
  | 5 => ("TideDesk$Ships", "otherPart", "[I", true)
  | 6 => ("TideDesk$Ships", "pairsDeep", "[I", true)
  | 7 => ("TideDesk$Ships", "trace", "[I", true)
  | 8 => ("TideDesk$Ships", "traced", "I", false)
  | 9 => ("TideDesk$Ships", "told", "I", false)
  | _ => ("TideDesk$Ships", "fault", "I", false)
def tyX5 : Nat → FieldType := fun k => match k with
  | 0 => .array .int
  | 1 => .array .int
  | 2 => .array .int
  | 3 => .array .int
  | 4 => .array .int
  | 5 => .array .int
  | 6 => .array .int
  | 7 => .array .int
  | 8 => .int
  | 9 => .int
  | _ => .int
abbrev wsX50 : List Cond := u_ws RX5 TX5 11
theorem nmX5 : ∀ a, a < 11 → ∀ b, b < 11 → a ≠ b → (TX5 a).2.1 ≠ (TX5 b).2.1 := by decide +kernel
theorem tyX5_ok : ∀ k, k < 11 → parseFieldDescriptor (TX5 k).2.2.1 = some (tyX5 k) := by decide +kernel
def RX6 : String := "TideDesk$Shoals"
def TX6 : u_T := fun k => match k with
  | 0 => ("TideDesk$Shoals", "surveys", "LTideDesk$Surveys;", true)
  | 1 => ("TideDesk$Shoals", "gauges", "LTideDesk$Gauges;", true)
  | 2 => ("TideDesk$Shoals", "station", "[I", true)
  | 3 => ("TideDesk$Shoals", "lock", "[I", true)
  | 4 => ("TideDesk$Shoals", "bedShoal", "[I", true)
  | 5 => ("TideDesk$Shoals", "bedDay", "[I", true)
  | 6 => ("TideDesk$Shoals", "bedSince", "[I", true)
  | 7 => ("TideDesk$Shoals", "bed", "[I", true)
  | 8 => ("TideDesk$Shoals", "told", "I", false)
  | _ => ("TideDesk$Shoals", "dredgings", "I", false)
def tyX6 : Nat → FieldType := fun k => match k with
  | 0 => .object "TideDesk$Surveys"
  | 1 => .object "TideDesk$Gauges"
  | 2 => .array .int
  | 3 => .array .int
  | 4 => .array .int
  | 5 => .array .int
  | 6 => .array .int
  | 7 => .array .int
  | 8 => .int
  | _ => .int
abbrev wsX60 : List Cond := u_ws RX6 TX6 10
theorem nmX6 : ∀ a, a < 10 → ∀ b, b < 10 → a ≠ b → (TX6 a).2.1 ≠ (TX6 b).2.1 := by decide +kernel
theorem tyX6_ok : ∀ k, k < 10 → parseFieldDescriptor (TX6 k).2.2.1 = some (tyX6 k) := by decide +kernel
def RX7 : String := "TideDesk$Surveys"
def TX7 : u_T := fun k => match k with
  | 0 => ("TideDesk$Surveys", "draftMean", "[I", true)
  | 1 => ("TideDesk$Surveys", "draftWaves", "[I", true)
  | 2 => ("TideDesk$Surveys", "draftRow", "[I", true)
  | 3 => ("TideDesk$Surveys", "station", "[I", true)
  | 4 => ("TideDesk$Surveys", "day", "[I", true)
  | 5 => ("TideDesk$Surveys", "since", "[I", true)
  | 6 => ("TideDesk$Surveys", "mean", "[I", true)
  | 7 => ("TideDesk$Surveys", "waves", "[I", true)
  | 8 => ("TideDesk$Surveys", "row", "[I", true)
  | _ => ("TideDesk$Surveys", "told", "I", false)
def tyX7 : Nat → FieldType := fun k => match k with
  | 0 => .array .int
  | 1 => .array .int
  | 2 => .array .int
  | 3 => .array .int
  | 4 => .array .int
  | 5 => .array .int
  | 6 => .array .int
  | 7 => .array .int
  | 8 => .array .int
  | _ => .int
abbrev wsX70 : List Cond := u_ws RX7 TX7 10
theorem nmX7 : ∀ a, a < 10 → ∀ b, b < 10 → a ≠ b → (TX7 a).2.1 ≠ (TX7 b).2.1 := by decide +kernel
theorem tyX7_ok : ∀ k, k < 10 → parseFieldDescriptor (TX7 k).2.2.1 = some (tyX7 k) := by decide +kernel
def RX8 : String := "TideDesk$Voyages"
def TX8 : u_T := fun k => match k with
  | 0 => ("TideDesk$Voyages", "findings", "LTideDesk$Findings;", true)
  | 1 => ("TideDesk$Voyages", "ships", "LTideDesk$Ships;", true)
  | 2 => ("TideDesk$Voyages", "routes", "LTideDesk$Routes;", true)
  | 3 => ("TideDesk$Voyages", "shoals", "LTideDesk$Shoals;", true)
  | 4 => ("TideDesk$Voyages", "tides", "LTideDesk$Waters;", true)
  | 5 => ("TideDesk$Voyages", "coming", "[I", true)
  | 6 => ("TideDesk$Voyages", "rise", "I", false)
  | 7 => ("TideDesk$Voyages", "set", "I", false)
  | 8 => ("TideDesk$Voyages", "need", "I", false)
  | 9 => ("TideDesk$Voyages", "pace", "I", false)
  | _ => ("TideDesk$Voyages", "byDay", "Z", false)
def tyX8 : Nat → FieldType := fun k => match k with
  | 0 => .object "TideDesk$Findings"
  | 1 => .object "TideDesk$Ships"
  | 2 => .object "TideDesk$Routes"
  | 3 => .object "TideDesk$Shoals"
  | 4 => .object "TideDesk$Waters"
  | 5 => .array .int
  | 6 => .int
  | 7 => .int
  | 8 => .int
  | 9 => .int
  | _ => .boolean
abbrev wsX80 : List Cond := u_ws RX8 TX8 11
theorem nmX8 : ∀ a, a < 11 → ∀ b, b < 11 → a ≠ b → (TX8 a).2.1 ≠ (TX8 b).2.1 := by decide +kernel
theorem tyX8_ok : ∀ k, k < 11 → parseFieldDescriptor (TX8 k).2.2.1 = some (tyX8 k) := by decide +kernel
def RX9 : String := "TideDesk$Waters"
def TX9 : u_T := fun k => match k with
  | 0 => ("TideDesk$Waters", "surveys", "LTideDesk$Surveys;", true)
  | 1 => ("TideDesk$Waters", "size", "[I", true)
  | 2 => ("TideDesk$Waters", "moment", "[I", true)
  | 3 => ("TideDesk$Waters", "isHigh", "[Z", true)
  | 4 => ("TideDesk$Waters", "height", "[D", true)
  | 5 => ("TideDesk$Waters", "measured", "[D", true)
  | 6 => ("TideDesk$Waters", "stream", "[I", true)
  | _ => ("TideDesk$Waters", "steps", "I", false)
def tyX9 : Nat → FieldType := fun k => match k with
  | 0 => .object "TideDesk$Surveys"
  | 1 => .array .int
  | 2 => .array .int
  | 3 => .array .boolean
  | 4 => .array .double
  | 5 => .array .double
  | 6 => .array .int
  | _ => .int
abbrev wsX90 : List Cond := u_ws RX9 TX9 8
theorem nmX9 : ∀ a, a < 8 → ∀ b, b < 8 → a ≠ b → (TX9 a).2.1 ≠ (TX9 b).2.1 := by decide +kernel
theorem tyX9_ok : ∀ k, k < 8 → parseFieldDescriptor (TX9 k).2.2.1 = some (tyX9 k) := by decide +kernel
def RX10 : String := "TideDesk$Windows"
def TX10 : u_T := fun k => match k with
  | 0 => ("TideDesk$Windows", "first", "[I", true)
  | 1 => ("TideDesk$Windows", "last", "[I", true)
  | 2 => ("TideDesk$Windows", "size", "I", false)
  | 3 => ("TideDesk$Windows", "wrongMinutes", "I", false)
  | 4 => ("TideDesk$Windows", "lastWrong", "I", false)
  | _ => ("TideDesk$Windows", "isOpen", "Z", false)
def tyX10 : Nat → FieldType := fun k => match k with
  | 0 => .array .int
  | 1 => .array .int
  | 2 => .int
  | 3 => .int
  | 4 => .int
  | _ => .boolean
abbrev wsX100 : List Cond := u_ws RX10 TX10 6
theorem nmX10 : ∀ a, a < 6 → ∀ b, b < 6 → a ≠ b → (TX10 a).2.1 ≠ (TX10 b).2.1 := by decide +kernel
theorem tyX10_ok : ∀ k, k < 6 → parseFieldDescriptor (TX10 k).2.2.1 = some (tyX10 k) := by decide +kernel
def RX11 : String := "TideDesk"
def TX11 : u_T := fun k => match k with
  | 0 => ("TideDesk", "findings", "LTideDesk$Findings;", true)
  | 1 => ("TideDesk", "surveys", "LTideDesk$Surveys;", true)
  | 2 => ("TideDesk", "gauges", "LTideDesk$Gauges;", true)
  | 3 => ("TideDesk", "shoals", "LTideDesk$Shoals;", true)
  | 4 => ("TideDesk", "tides", "LTideDesk$Waters;", true)
  | 5 => ("TideDesk", "ships", "LTideDesk$Ships;", true)
  | 6 => ("TideDesk", "fleets", "LTideDesk$Fleets;", true)
  | 7 => ("TideDesk", "routes", "LTideDesk$Routes;", true)
  | 8 => ("TideDesk", "voyages", "LTideDesk$Voyages;", true)
  | 9 => ("TideDesk", "kept", "LTideDesk$Windows;", true)
  | 10 => ("TideDesk", "passages", "LTideDesk$Passages;", true)
  | 11 => ("TideDesk", "now", "I", false)
  | 12 => ("TideDesk", "lastAsked", "I", false)
  | _ => ("TideDesk", "lastLacking", "I", false)
def tyX11 : Nat → FieldType := fun k => match k with
  | 0 => .object "TideDesk$Findings"
  | 1 => .object "TideDesk$Surveys"
  | 2 => .object "TideDesk$Gauges"
  | 3 => .object "TideDesk$Shoals"
  | 4 => .object "TideDesk$Waters"
  | 5 => .object "TideDesk$Ships"
  | 6 => .object "TideDesk$Fleets"
  | 7 => .object "TideDesk$Routes"
  | 8 => .object "TideDesk$Voyages"
  | 9 => .object "TideDesk$Windows"
  | 10 => .object "TideDesk$Passages"
  | 11 => .int
  | 12 => .int
  | _ => .int
abbrev wsX110 : List Cond := u_ws RX11 TX11 14
theorem nmX11 : ∀ a, a < 14 → ∀ b, b < 14 → a ≠ b → (TX11 a).2.1 ≠ (TX11 b).2.1 := by decide +kernel
theorem tyX11_ok : ∀ k, k < 14 → parseFieldDescriptor (TX11 k).2.2.1 = some (tyX11 k) := by decide +kernel
def RX12 : String := "TideDeskModel"
def TX12 : u_T := fun k => match k with
  | 0 => ("TideDeskModel", "now", "I", false)
  | 1 => ("TideDeskModel", "finding", "I", false)
  | 2 => ("TideDeskModel", "findings", "I", false)
  | 3 => ("TideDeskModel", "mean", "[I", true)
  | 4 => ("TideDeskModel", "waves", "[I", true)
  | 5 => ("TideDeskModel", "sizes", "[I", true)
  | 6 => ("TideDeskModel", "speeds", "[I", true)
  | 7 => ("TideDeskModel", "phases", "[I", true)
  | 8 => ("TideDeskModel", "surveys", "I", false)
  | 9 => ("TideDeskModel", "surveyStation", "[I", true)
  | 10 => ("TideDeskModel", "surveyDay", "[I", true)
  | 11 => ("TideDeskModel", "surveyTold", "[I", true)
  | 12 => ("TideDeskModel", "surveyMean", "[I", true)
  | 13 => ("TideDeskModel", "surveyWaves", "[I", true)
  | 14 => ("TideDeskModel", "surveySizes", "[I", true)
  | 15 => ("TideDeskModel", "surveySpeeds", "[I", true)
  | 16 => ("TideDeskModel", "surveyPhases", "[I", true)
  | 17 => ("TideDeskModel", "level", "D", false)
  | 18 => ("TideDeskModel", "gauges", "I", false)
  | 19 => ("TideDeskModel", "gaugeStation", "[I", true)
  | 20 => ("TideDeskModel", "gaugeFirst", "[I", true)
  | 21 => ("TideDeskModel", "gaugeStep", "[I", true)
  | 22 => ("TideDeskModel", "isOut", "[Z", true)
  | 23 => ("TideDeskModel", "readings", "[I", true)
  | 24 => ("TideDeskModel", "shorts", "[I", true)
  | 25 => ("TideDeskModel", "airs", "[I", true)
  | 26 => ("TideDeskModel", "take", "I", false)
  | 27 => ("TideDeskModel", "fade", "I", false)
  | 28 => ("TideDeskModel", "steps", "I", false)
  | 29 => ("TideDeskModel", "lacking", "I", false)
  | 30 => ("TideDeskModel", "offs", "[D", true)
  | 31 => ("TideDeskModel", "surge", "D", false)
  | 32 => ("TideDeskModel", "lacks", "I", false)
  | 33 => ("TideDeskModel", "shoals", "I", false)
  | 34 => ("TideDeskModel", "shoalStation", "[I", true)
  | 35 => ("TideDeskModel", "locks", "[I", true)
  | 36 => ("TideDeskModel", "dredgings", "I", false)
  | 37 => ("TideDeskModel", "beds", "I", false)
  | 38 => ("TideDeskModel", "bedShoal", "[I", true)
  | 39 => ("TideDeskModel", "bedDay", "[I", true)
  | 40 => ("TideDeskModel", "bedTold", "[I", true)
  | 41 => ("TideDeskModel", "bedDepth", "[I", true)
  | 42 => ("TideDeskModel", "waters", "[I", true)
  | 43 => ("TideDeskModel", "waterMoment", "[I", true)
  | 44 => ("TideDeskModel", "isHigh", "[Z", true)
  | 45 => ("TideDeskModel", "waterHeight", "[D", true)
  | 46 => ("TideDeskModel", "streams", "[I", true)
  | 47 => ("TideDeskModel", "heights", "[D", true)
  | 48 => ("TideDeskModel", "streamAt", "I", false)
  | 49 => ("TideDeskModel", "ships", "I", false)
  | 50 => ("TideDeskModel", "kinds", "[I", true)
  | 51 => ("TideDeskModel", "draughts", "[I", true)
  | 52 => ("TideDeskModel", "paces", "[I", true)
  | 53 => ("TideDeskModel", "xs", "[I", true)
  | 54 => ("TideDeskModel", "parts", "[I", true)
  | 55 => ("TideDeskModel", "nested", "[I", true)
  | 56 => ("TideDeskModel", "asked", "I", false)
  | 57 => ("TideDeskModel", "traced", "I", false)
  | 58 => ("TideDeskModel", "trace", "[I", true)
  | 59 => ("TideDeskModel", "fleetSort", "[I", true)
  | 60 => ("TideDeskModel", "fleetSize", "[I", true)
  | 61 => ("TideDeskModel", "places", "[I", true)
  | 62 => ("TideDeskModel", "value", "I", false)
  | 63 => ("TideDeskModel", "pile", "[I", true)
  | 64 => ("TideDeskModel", "isSecond", "[Z", true)
  | 65 => ("TideDeskModel", "firsts", "[I", true)
  | 66 => ("TideDeskModel", "moving", "[I", true)
  | 67 => ("TideDeskModel", "legs", "[I", true)
  | 68 => ("TideDeskModel", "legShoal", "[I", true)
  | 69 => ("TideDeskModel", "legDistance", "[I", true)
  | 70 => ("TideDeskModel", "legMark", "[I", true)
  | 71 => ("TideDeskModel", "rise", "I", false)
  | 72 => ("TideDeskModel", "set", "I", false)
  | 73 => ("TideDeskModel", "windows", "I", false)
  | 74 => ("TideDeskModel", "windowFirst", "[I", true)
  | 75 => ("TideDeskModel", "windowLast", "[I", true)
  | 76 => ("TideDeskModel", "wrongs", "I", false)
  | 77 => ("TideDeskModel", "wrongLast", "I", false)
  | 78 => ("TideDeskModel", "passages", "I", false)
  | 79 => ("TideDeskModel", "passShip", "[I", true)
  | 80 => ("TideDeskModel", "passRoute", "[I", true)
  | 81 => ("TideDeskModel", "passFrom", "[I", true)
  | 82 => ("TideDeskModel", "waits", "[Z", true)
  | 83 => ("TideDeskModel", "since", "[I", true)
  | 84 => ("TideDeskModel", "starts", "[I", true)
  | 85 => ("TideDeskModel", "passPace", "[I", true)
  | 86 => ("TideDeskModel", "come", "[I", true)
  | 87 => ("TideDeskModel", "paceNow", "I", false)
  | 88 => ("TideDeskModel", "tries", "I", false)
  | 89 => ("TideDeskModel", "heldMost", "I", false)
  | _ => ("TideDeskModel", "isHeld", "[Z", true)
def tyX12 : Nat → FieldType := fun k => match k with
  | 0 => .int
  | 1 => .int
  | 2 => .int
  | 3 => .array .int
  | 4 => .array .int
  | 5 => .array .int
  | 6 => .array .int
  | 7 => .array .int
  | 8 => .int
  | 9 => .array .int
  | 10 => .array .int
  | 11 => .array .int
  | 12 => .array .int
  | 13 => .array .int
  | 14 => .array .int
  | 15 => .array .int
  | 16 => .array .int
  | 17 => .double
  | 18 => .int
  | 19 => .array .int
  | 20 => .array .int
  | 21 => .array .int
  | 22 => .array .boolean
  | 23 => .array .int
  | 24 => .array .int
  | 25 => .array .int
  | 26 => .int
  | 27 => .int
  | 28 => .int
  | 29 => .int
  | 30 => .array .double
  | 31 => .double
  | 32 => .int
  | 33 => .int
  | 34 => .array .int
  | 35 => .array .int
  | 36 => .int
  | 37 => .int
  | 38 => .array .int
  | 39 => .array .int
  | 40 => .array .int
  | 41 => .array .int
  | 42 => .array .int
  | 43 => .array .int
  | 44 => .array .boolean
  | 45 => .array .double
  | 46 => .array .int
  | 47 => .array .double
  | 48 => .int
  | 49 => .int
  | 50 => .array .int
  | 51 => .array .int
  | 52 => .array .int
  | 53 => .array .int
  | 54 => .array .int
  | 55 => .array .int
  | 56 => .int
  | 57 => .int
  | 58 => .array .int
  | 59 => .array .int
  | 60 => .array .int
  | 61 => .array .int
  | 62 => .int
  | 63 => .array .int
  | 64 => .array .boolean
  | 65 => .array .int
  | 66 => .array .int
  | 67 => .array .int
  | 68 => .array .int
  | 69 => .array .int
  | 70 => .array .int
  | 71 => .int
  | 72 => .int
  | 73 => .int
  | 74 => .array .int
  | 75 => .array .int
  | 76 => .int
  | 77 => .int
  | 78 => .int
  | 79 => .array .int
  | 80 => .array .int
  | 81 => .array .int
  | 82 => .array .boolean
  | 83 => .array .int
  | 84 => .array .int
  | 85 => .array .int
  | 86 => .array .int
  | 87 => .int
  | 88 => .int
  | 89 => .int
  | _ => .array .boolean
abbrev wsX120 : List Cond := u_ws RX12 TX12 91
theorem nmX12 : ∀ a, a < 91 → ∀ b, b < 91 → a ≠ b → (TX12 a).2.1 ≠ (TX12 b).2.1 := by decide +kernel
theorem tyX12_ok : ∀ k, k < 91 → parseFieldDescriptor (TX12 k).2.2.1 = some (tyX12 k) := by decide +kernel
abbrev vwCl : List vw_C := [(RX0, TX0, 2), (RX1, TX1, 6), (RX2, TX2, 15), (RX3, TX3, 17), (RX4, TX4, 4), (RX5, TX5, 11), (RX6, TX6, 10), (RX7, TX7, 10), (RX8, TX8, 11), (RX9, TX9, 8), (RX10, TX10, 6), (RX11, TX11, 14), (RX12, TX12, 91)]
end
section
/-! THE WALK AS A FUNCTION. A list of resolved instructions is run over names for values: 'wp' says what must hold for the machine to come where it should. -/
abbrev MI : Type := Nat → Nat → Int32
abbrev MD : Type := Nat → Nat → UInt64
abbrev Lv : Type := List (Nat × Value)
/-- a cell: an object (its number among the kinds, its fields: a reference, an int, a double), or a row (its kind, its length) -/
abbrev Sh : Type := (Nat × List (Nat ⊕ Bool)) ⊕ (Nat × Nat)
/-- a place, its instruction, two numbers, a constant -/
abbrev Op : Type := Nat × Instr × Nat × Nat × Value
abbrev Nt : Type := Lv → List Value → MI → MD → Prop
abbrev Kt : Type := Nat → Nt
abbrev Po : Type := Option Value → MI → MD → Prop
abbrev Rk : Type := Instr → Nat → List Value → MI → MD → Prop
abbrev Ck : Type := Nat → List Value → MI → MD → Po → Prop
def up2 {α : Type} (f : Nat → Nat → α) (k j : Nat) (v : α) : Nat → Nat → α := fun a => match Nat.beq a k with
  | true => fun b => if b = j then v else f a b
  | false => f a
def nth {α : Type} : List α → Nat → Option α
  | [], _ => none
  | a :: _, 0 => some a
  | _ :: l, n + 1 => nth l n
def lk : Lv → Nat → (Value → Prop) → Prop
  | [], _, _ => False
  | q :: t, i, k => match Nat.beq q.1 i with
    | true => k q.2
    | false => lk t i k
/-- the locals that a store of one word at i leaves -/
def fl1 (i : Nat) : Lv → (Lv → Prop) → Prop
  | [], k => k []
  | q :: t, k => match (!(Nat.beq q.1 i) && !(Nat.beq (q.1 + 1) i && Nat.beq q.2.category 2)) with
    | true => fl1 i t (fun t' => k (q :: t'))
    | false => fl1 i t k
def fl2 (i : Nat) : Lv → (Lv → Prop) → Prop
  | [], k => k []
  | q :: t, k => match (!(Nat.beq q.1 i) && (!(Nat.beq q.1 (i + 1)) && !(Nat.beq (q.1 + 1) i && Nat.beq q.2.category 2))) with
    | true => fl2 i t (fun t' => k (q :: t'))
    | false => fl2 i t k
def pick : List Nat → Lv → (Lv → Prop) → Prop
  | [], _, k => k []
  | i :: is, lv, k => lk lv i (fun v => pick is lv (fun t => k ((i, v) :: t)))
def popN : Nat → List Value → List Value → (List Value → List Value → Prop) → Prop
  | 0, st, acc, k => k acc st
  | _ + 1, [], _, _ => False
  | n + 1, v :: st, acc, k => popN n st (v :: acc) k
def csum : List Value → Nat
  | [] => 0
  | v :: t => v.category + csum t
def okst (r : List Value) (P : Prop) : Prop := match Nat.ble (csum r) 8 with
  | true => P
  | false => False
def lvOf : List (Nat × List Nat) → Nat → List Nat
  | [], _ => []
  | q :: t, i => match Nat.beq q.1 i with
    | true => q.2
    | false => lvOf t i
def tI (st : List Value) (k : Int32 → List Value → Prop) : Prop := match st with
  | .int x :: r => k x r
  | _ => False
def tL (st : List Value) (k : Int64 → List Value → Prop) : Prop := match st with
  | .long x :: r => k x r
  | _ => False
def tF (st : List Value) (k : UInt32 → List Value → Prop) : Prop := match st with
  | .float x :: r => k x r
  | _ => False
def tD (st : List Value) (k : UInt64 → List Value → Prop) : Prop := match st with
  | .double x :: r => k x r
  | _ => False
def tR (st : List Value) (k : Nat → List Value → Prop) : Prop := match st with
  | .ref x :: r => k x r
  | _ => False
def t2I (st : List Value) (k : Int32 → Int32 → List Value → Prop) : Prop := match st with
  | .int y :: .int x :: r => k x y r
  | _ => False
def t2L (st : List Value) (k : Int64 → Int64 → List Value → Prop) : Prop := match st with
  | .long y :: .long x :: r => k x y r
  | _ => False
def t2F (st : List Value) (k : UInt32 → UInt32 → List Value → Prop) : Prop := match st with
  | .float y :: .float x :: r => k x y r
  | _ => False
def t2D (st : List Value) (k : UInt64 → UInt64 → List Value → Prop) : Prop := match st with
  | .double y :: .double x :: r => k x y r
  | _ => False
def isI (w : Value) (P : Prop) : Prop := match w with
  | .int _ => P
  | _ => False
def isL (w : Value) (P : Prop) : Prop := match w with
  | .long _ => P
  | _ => False
def isF (w : Value) (P : Prop) : Prop := match w with
  | .float _ => P
  | _ => False
def isD (w : Value) (P : Prop) : Prop := match w with
  | .double _ => P
  | _ => False
def isR (w : Value) (P : Prop) : Prop := match w with
  | .ref _ => P
  | _ => False
/-- an object of kind ci at k -/
def atO (SH : List Sh) (k ci : Nat) (P : List (Nat ⊕ Bool) → Prop) : Prop := match nth SH k with
  | some (.inl q) => match Nat.beq q.1 ci with
    | true => P q.2
    | false => False
  | _ => False
/-- a row of kind t at k -/
def atA (SH : List Sh) (k t : Nat) (P : Nat → Prop) : Prop := match nth SH k with
  | some (.inr q) => match Nat.beq q.1 t with
    | true => P q.2
    | false => False
  | _ => False
/-- an index within -/
def inn (i : Int32) (n : Nat) : Prop := 0 ≤ i.toInt ∧ i.toInt < n
def xget (SH : List Sh) (a b : Nat) (st : List Value) (I : MI) (D : MD) (k : List Value → Prop) : Prop :=
  tR st (fun q r => atO SH q a (fun fks => match nth fks b with
    | some (.inl t) => k (.ref t :: r)
    | some (.inr false) => k (.int (I q b) :: r)
    | some (.inr true) => k (.double (D q b) :: r)
    | none => False))
/-- a field of a boolean takes 0 and 1 alone: v is then .ref 1; of a double: .ref 2 -/
def xput (SH : List Sh) (a b : Nat) (v : Value) (st : List Value) (I : MI) (D : MD) (k : List Value → MI → MD → Prop) : Prop := match st with
  | .int x :: .ref q :: r => atO SH q a (fun fks => match nth fks b with
    | some (.inr false) => (match v with
      | .ref 1 => (x = 0 ∨ x = 1) ∧ k r (up2 I q b x) D
      | .null => k r (up2 I q b x) D
      | _ => False)
    | _ => False)
  | .double x :: .ref q :: r => atO SH q a (fun fks => match nth fks b with
    | some (.inr true) => (match v with
      | .ref 2 => k r I (up2 D q b x)
      | _ => False)
    | _ => False)
  | _ => False
def xald (SH : List Sh) (t : Nat) (st : List Value) (I : MI) (k : List Value → Prop) : Prop := match st with
  | .int i :: .ref q :: r => atA SH q t (fun n => inn i n ∧ k (.int (I q i.toNatClampNeg) :: r))
  | _ => False
def xdld (SH : List Sh) (st : List Value) (D : MD) (k : List Value → Prop) : Prop := match st with
  | .int i :: .ref q :: r => atA SH q 3 (fun n => inn i n ∧ k (.double (D q i.toNatClampNeg) :: r))
  | _ => False
/-- a load of the script (no cell of ours: its name is .ref 999), or of a row of ints -/
def xild (SH : List Sh) (SC : Option (Nat × (Nat → Int32))) (st : List Value) (I : MI) (k : List Value → Prop) : Prop := match SC with
  | none => xald SH 0 st I k
  | some c => (match st with
    | .int i :: .ref 999 :: r => inn i c.1 ∧ k (.int (c.2 i.toNatClampNeg) :: r)
    | _ => False)
def xast (SH : List Sh) (t : Nat) (nar : Int32 → Int32) (st : List Value) (I : MI) (k : List Value → MI → Prop) : Prop := match st with
  | .int x :: .int i :: .ref q :: r => atA SH q t (fun n => inn i n ∧ k r (up2 I q i.toNatClampNeg (nar x)))
  | _ => False
def xdst (SH : List Sh) (st : List Value) (D : MD) (k : List Value → MD → Prop) : Prop := match st with
  | .double x :: .int i :: .ref q :: r => atA SH q 3 (fun n => inn i n ∧ k r (up2 D q i.toNatClampNeg x))
  | _ => False
def xlen (SC : Option (Nat × (Nat → Int32))) (st : List Value) (k : List Value → Prop) : Prop := match SC, st with
  | some c, .ref 999 :: r => k (.int (Int32.ofNat c.1) :: r)
  | _, _ => False
def xif (c : ClassFile.Cond) (x : Int32) (A B : Prop) : Prop := match c with
  | .eq => (x = 0 → A) ∧ (¬ x = 0 → B)
  | .ne => (¬ x = 0 → A) ∧ (x = 0 → B)
  | .lt => (x < 0 → A) ∧ (¬ x < 0 → B)
  | .ge => (0 ≤ x → A) ∧ (¬ 0 ≤ x → B)
  | .gt => (0 < x → A) ∧ (¬ 0 < x → B)
  | .le => (x ≤ 0 → A) ∧ (¬ x ≤ 0 → B)
def xic (c : ClassFile.Cond) (x y : Int32) (A B : Prop) : Prop := match c with
  | .eq => (x = y → A) ∧ (¬ x = y → B)
  | .ne => (¬ x = y → A) ∧ (x = y → B)
  | .lt => (x < y → A) ∧ (¬ x < y → B)
  | .ge => (y ≤ x → A) ∧ (¬ y ≤ x → B)
  | .gt => (y < x → A) ∧ (¬ y < x → B)
  | .le => (x ≤ y → A) ∧ (¬ x ≤ y → B)
def tgt (pc : Nat) (o : Int) : Nat := ((pc : Int) + o).toNat
def swt (x : Int32) (jp : Int → Prop) (P : Prop) : Int → List Int → Prop
  | _, [] => P
  | n, o :: os => (x.toInt = n → jp o) ∧ swt x jp P (n + 1) os
def swl (x : Int32) (jp : Int → Prop) : List (Int × Int) → Prop → Prop
  | [], P => P
  | q :: qs, P => (x.toInt = q.1 → jp q.2) ∧ swl x jp qs (x.toInt ≠ q.1 → P)
def dup1 (st : List Value) (k : Value → List Value → Prop) : Prop := match st with
  | v :: r => (match Nat.beq v.category 1 with
    | true => k v r
    | false => False)
  | _ => False
def dup11 (st : List Value) (k : Value → Value → List Value → Prop) : Prop := match st with
  | v :: w :: r => (match Nat.beq v.category 1, Nat.beq w.category 1 with
    | true, true => k v w r
    | _, _ => False)
  | _ => False
def xcallS (Ca : Ck) (a b : Nat) (v : Value) (st : List Value) (I : MI) (D : MD) (k : List Value → MI → MD → Prop) : Prop := match v with
  | .ref 0 => popN b st [] (fun As r => okst r (Ca a As I D (fun o I' D' => k (o.toList ++ r) I' D')))
  | .ref 1 => tI st (fun x r => okst r (vn_sni2f x = false ∧ k (.float x.toUInt32 :: r) I D))
  | .ref 2 => tD st (fun x r => okst r (k (.long x.toInt64 :: r) I D))
  | _ => False
def xcallV (SH : List Sh) (Ca : Ck) (a b : Nat) (v : Value) (st : List Value) (I : MI) (D : MD) (k : List Value → MI → MD → Prop) : Prop := match v with
  | .ref ci => popN b st [] (fun As r => tR r (fun q r => atO SH q ci (fun _ => okst r (Ca a (.ref q :: As) I D (fun o I' D' => k (o.toList ++ r) I' D')))))
  | _ => False
def xinc (a : Nat) (v : Value) (lv : Lv) (k : Lv → Prop) : Prop := lk lv a (fun w => match w, v with
  | .int x, .int c => fl1 a lv (fun t => k ((a, .int (x + c)) :: t))
  | _, _ => False)
def ex (SH : List Sh) (SC : Option (Nat × (Nat → Int32))) (Rt : Rk) (Ca : Ck) (pc : Nat) (i : Instr) (a b : Nat) (v : Value) (lv : Lv) (st : List Value) (I : MI) (D : MD) (nx : Nt) (jp : Kt) : Prop := match i with
  | .iconst _ => nx lv (v :: st) I D
  | .bipush _ => nx lv (v :: st) I D
  | .sipush _ => nx lv (v :: st) I D
  | .ldc _ => nx lv (v :: st) I D
  | .ldc_w _ => nx lv (v :: st) I D
  | .ldc2_w _ => nx lv (v :: st) I D
  | .lconst _ => nx lv (v :: st) I D
  | .dconst _ => nx lv (v :: st) I D
  | .fconst _ => nx lv (v :: st) I D
  | .iload _ => lk lv a (fun w => isI w (nx lv (w :: st) I D))
  | .iload_n _ => lk lv a (fun w => isI w (nx lv (w :: st) I D))
  | .lload _ => lk lv a (fun w => isL w (nx lv (w :: st) I D))
  | .lload_n _ => lk lv a (fun w => isL w (nx lv (w :: st) I D))
  | .fload _ => lk lv a (fun w => isF w (nx lv (w :: st) I D))
  | .dload _ => lk lv a (fun w => isD w (nx lv (w :: st) I D))
  | .dload_n _ => lk lv a (fun w => isD w (nx lv (w :: st) I D))
  | .aload _ => lk lv a (fun w => isR w (nx lv (w :: st) I D))
  | .aload_n _ => lk lv a (fun w => isR w (nx lv (w :: st) I D))
  | .istore _ => tI st (fun x r => fl1 a lv (fun t => nx ((a, .int x) :: t) r I D))
  | .istore_n _ => tI st (fun x r => fl1 a lv (fun t => nx ((a, .int x) :: t) r I D))
  | .lstore _ => tL st (fun x r => fl2 a lv (fun t => nx ((a, .long x) :: t) r I D))
  | .fstore _ => tF st (fun x r => fl1 a lv (fun t => nx ((a, .float x) :: t) r I D))
  | .dstore _ => tD st (fun x r => fl2 a lv (fun t => nx ((a, .double x) :: t) r I D))
  | .dstore_n _ => tD st (fun x r => fl2 a lv (fun t => nx ((a, .double x) :: t) r I D))
  | .iinc _ _ => xinc a v lv (fun t => nx t st I D)
  | .iadd => t2I st (fun x y r => nx lv (.int (x + y) :: r) I D)
  | .isub => t2I st (fun x y r => nx lv (.int (x - y) :: r) I D)
  | .imul => t2I st (fun x y r => nx lv (.int (x * y) :: r) I D)
  | .iand => t2I st (fun x y r => nx lv (.int (x &&& y) :: r) I D)
  | .ixor => t2I st (fun x y r => nx lv (.int (x ^^^ y) :: r) I D)
  | .idiv => t2I st (fun x y r => ¬ y = 0 ∧ nx lv (.int (x / y) :: r) I D)
  | .irem => t2I st (fun x y r => ¬ y = 0 ∧ nx lv (.int (x - x / y * y) :: r) I D)
  | .ineg => tI st (fun x r => nx lv (.int (-x) :: r) I D)
  | .i2l => tI st (fun x r => nx lv (.long x.toInt64 :: r) I D)
  | .i2d => tI st (fun x r => nx lv (.double (FP.i2d x) :: r) I D)
  | .i2s => tI st (fun x r => nx lv (.int x.toInt16.toInt32 :: r) I D)
  | .l2i => tL st (fun x r => nx lv (.int x.toInt32 :: r) I D)
  | .ladd => t2L st (fun x y r => nx lv (.long (x + y) :: r) I D)
  | .lsub => t2L st (fun x y r => nx lv (.long (x - y) :: r) I D)
  | .lmul => t2L st (fun x y r => nx lv (.long (x * y) :: r) I D)
  | .land => t2L st (fun x y r => nx lv (.long (x &&& y) :: r) I D)
  | .lor => t2L st (fun x y r => nx lv (.long (x ||| y) :: r) I D)
  | .ldiv => t2L st (fun x y r => ¬ y = 0 ∧ nx lv (.long (x / y) :: r) I D)
  | .lshl => tI st (fun y r => tL r (fun x r => nx lv (.long (x <<< (y.toInt64 &&& 63)) :: r) I D))
  | .lcmp => t2L st (fun x y r => nx lv (.int (lg_cmp x y) :: r) I D)
  | .dadd => t2D st (fun x y r => vf_n64 (FP.dadd x y) ∧ nx lv (.double (FP.dadd x y) :: r) I D)
  | .dsub => t2D st (fun x y r => vf_n64 (FP.dsub x y) ∧ nx lv (.double (FP.dsub x y) :: r) I D)
  | .dmul => t2D st (fun x y r => vf_n64 (FP.dmul x y) ∧ nx lv (.double (FP.dmul x y) :: r) I D)
  | .ddiv => t2D st (fun x y r => vf_n64 (FP.ddiv x y) ∧ nx lv (.double (FP.ddiv x y) :: r) I D)
  | .dneg => tD st (fun x r => nx lv (.double (FP.dneg x) :: r) I D)
  | .fneg => tF st (fun x r => nx lv (.float (FP.fneg x) :: r) I D)
  | .d2l => tD st (fun x r => nx lv (.long (FP.d2l x) :: r) I D)
  | .dcmp o => t2D st (fun x y r => nx lv (.int (Op.cmpValue (FP.dcmp x y) o) :: r) I D)
  | .fcmp o => t2F st (fun x y r => nx lv (.int (Op.cmpValue (FP.fcmp x y) o) :: r) I D)
  | .dup => dup1 st (fun v r => nx lv (v :: v :: r) I D)
  | .pop => dup1 st (fun _ r => nx lv r I D)
  | .dup2 => dup11 st (fun v w r => nx lv (v :: w :: v :: w :: r) I D)
  | .getfield _ => xget SH a b st I D (fun r => nx lv r I D)
  | .putfield _ => xput SH a b v st I D (fun r I D => nx lv r I D)
  | .iaload => xild SH SC st I (fun r => nx lv r I D)
  | .baload => xald SH 1 st I (fun r => nx lv r I D)
  | .saload => xald SH 2 st I (fun r => nx lv r I D)
  | .daload => xdld SH st D (fun r => nx lv r I D)
  | .iastore => xast SH 0 (fun x => x) st I (fun r I => nx lv r I D)
  | .bastore => xast SH 1 (vp_nar .boolean) st I (fun r I => nx lv r I D)
  | .sastore => xast SH 2 (vp_nar .short) st I (fun r I => nx lv r I D)
  | .dastore => xdst SH st D (fun r D => nx lv r I D)
  | .arraylength => xlen SC st (fun r => nx lv r I D)
  | .goto _ => jp a lv st I D
  | .ifCond c _ => tI st (fun x r => xif c x (jp a lv r I D) (nx lv r I D))
  | .if_icmp c _ => t2I st (fun x y r => xic c x y (jp a lv r I D) (nx lv r I D))
  | .tableswitch d lo hi offs => tI st (fun x r => swt x (fun o => jp (tgt pc o) lv r I D) ((x.toInt < lo ∨ hi < x.toInt) → jp (tgt pc d) lv r I D) lo offs.toList)
  | .lookupswitch d ps => tI st (fun x r => swl x (fun o => jp (tgt pc o) lv r I D) ps.toList (jp (tgt pc d) lv r I D))
  | .invokestatic _ => xcallS Ca a b v st I D (fun r I D => nx lv r I D)
  | .invokevirtual _ => xcallV SH Ca a b v st I D (fun r I D => nx lv r I D)
  | .ireturn => Rt i a st I D
  | .lreturn => Rt i a st I D
  | .dreturn => Rt i a st I D
  | .return_ => Rt i a st I D
  | _ => False
/-- a stretch of code, run from its first place (none) or from a place within it; what leaves it goes by K, with the locals that live there -/
def wp (SH : List Sh) (SC : Option (Nat × (Nat → Int32))) (Rt : Rk) (Ca : Ck) (LV : List (Nat × List Nat)) (K : Kt) (e : Nat) : List Op → Option Nat → Nt
  | [], none, lv, st, I, D => pick (lvOf LV e) lv (fun lv' => K e lv' st I D)
  | [], some t, lv, st, I, D => pick (lvOf LV t) lv (fun lv' => K t lv' st I D)
  | q :: r, none, lv, st, I, D => ex SH SC Rt Ca q.1 q.2.1 q.2.2.1 q.2.2.2.1 q.2.2.2.2 lv st I D (fun lv st I D => wp SH SC Rt Ca LV K e r none lv st I D) (fun t lv st I D => wp SH SC Rt Ca LV K e r (some t) lv st I D)
  | q :: r, some t, lv, st, I, D => match Nat.beq q.1 t with
    | true => ex SH SC Rt Ca q.1 q.2.1 q.2.2.1 q.2.2.2.1 q.2.2.2.2 lv st I D (fun lv st I D => wp SH SC Rt Ca LV K e r none lv st I D) (fun t lv st I D => wp SH SC Rt Ca LV K e r (some t) lv st I D)
    | false => wp SH SC Rt Ca LV K e r (some t) lv st I D
end
section
/-! WHAT THE FUNCTION 'wp' SAYS IS WHAT THE MACHINE DOES: a row an instruction, then a stretch, then a method. -/
abbrev Gp : Type := Launch × (Nat → Nat) × (Nat → ClassId) × va_G × (Nat → Prop)
def cv (ad : Nat → Nat) : Value → Value
  | .ref k => .ref (ad k)
  | v => v
def cq (ad : Nat → Nat) (q : Nat × Value) : Nat × Value := (q.1, cv ad q.2)
theorem cv_cat (ad : Nat → Nat) (v : Value) : (cv ad v).category = v.category := by cases v <;> rfl
def fv (ad : Nat → Nat) (I : MI) (D : MD) (k j : Nat) : (Nat ⊕ Bool) → Value
  | .inl t => .ref (ad t)
  | .inr false => .int (I k j)
  | .inr true => .double (D k j)
def fvs (ad : Nat → Nat) (I : MI) (D : MD) (k : Nat) : Nat → List (Nat ⊕ Bool) → List Value
  | _, [] => []
  | j, f :: t => fv ad I D k j f :: fvs ad I D k (j + 1) t
def ent (ad : Nat → Nat) (dA : Nat → ClassId) (I : MI) (D : MD) (k : Nat) : Sh → va_E
  | .inl q => .inr (q.1, fvs ad I D k 0 q.2)
  | .inr q => .inl (dA q.1, q.2, if q.1 = 3 then .inr (.inr (.inr (.inl (D k)))) else .inl (I k))
def wld (ad : Nat → Nat) (dA : Nat → ClassId) (I : MI) (D : MD) : Nat → List Sh → va_W
  | _, [] => []
  | k, s :: t => (ad k, ent ad dA I D k s) :: wld ad dA I D (k + 1) t
theorem nth_eq {α : Type} : ∀ (l : List α) (i : Nat), nth l i = l[i]?
  | [], i => by simp [nth]
  | a :: l, 0 => by simp [nth]
  | a :: l, i + 1 => by simp [nth, nth_eq l i]
theorem fvs_get (ad : Nat → Nat) (I : MI) (D : MD) (k : Nat) : ∀ (l : List (Nat ⊕ Bool)) (j i : Nat), (fvs ad I D k j l)[i]? = l[i]?.map (fv ad I D k (j + i))
  | [], j, i => by simp [fvs]
  | f :: t, j, 0 => by simp [fvs]
  | f :: t, j, i + 1 => by
    have h := fvs_get ad I D k t (j + 1) i
    simp only [fvs, List.getElem?_cons_succ, h]
    rw [show j + 1 + i = j + (i + 1) by omega]
theorem fvs_len (ad : Nat → Nat) (I : MI) (D : MD) (k : Nat) : ∀ (l : List (Nat ⊕ Bool)) (j : Nat), (fvs ad I D k j l).length = l.length
  | [], j => rfl
  | f :: t, j => by simp [fvs, fvs_len ad I D k t (j + 1)]
theorem wld_get (ad : Nat → Nat) (dA : Nat → ClassId) (I : MI) (D : MD) : ∀ (l : List Sh) (k i : Nat), (wld ad dA I D k l)[i]? = l[i]?.map (fun s => (ad (k + i), ent ad dA I D (k + i) s))
  | [], k, i => by simp [wld]
  | f :: t, k, 0 => by simp [wld]
  | f :: t, k, i + 1 => by
    have h := wld_get ad dA I D t (k + 1) i
    simp only [wld, List.getElem?_cons_succ, h]
    rw [show k + 1 + i = k + (i + 1) by omega]
theorem wld_len (ad : Nat → Nat) (dA : Nat → ClassId) (I : MI) (D : MD) : ∀ (l : List Sh) (k : Nat), (wld ad dA I D k l).length = l.length
  | [], k => rfl
  | f :: t, k => by simp [wld, wld_len ad dA I D t (k + 1)]
theorem wld_at {ad : Nat → Nat} {dA : Nat → ClassId} {I : MI} {D : MD} {SH : List Sh} {q : Nat} {s : Sh} (h : nth SH q = some s) : (wld ad dA I D 0 SH)[q]? = some (ad q, ent ad dA I D q s) := by
  rw [wld_get, ← nth_eq, h]
  simp
theorem up2_ne {α : Type} {f : Nat → Nat → α} {k j : Nat} {v : α} {i : Nat} (h : i ≠ k) : up2 f k j v i = f i := by
  unfold up2
  split
  next hb => exact absurd (Nat.eq_of_beq_eq_true hb) h
  next => rfl
theorem up2_self {α : Type} {f : Nat → Nat → α} {k j : Nat} {v : α} : up2 f k j v k = fun b => if b = j then v else f k b := by
  unfold up2
  split
  next => rfl
  next hb => exact absurd rfl (Nat.ne_of_beq_eq_false hb)
theorem up2_row {f : MI} {k j : Nat} {v : Int32} : up2 f k j v k = upd (f k) j v := up2_self
theorem up2_rowD {f : MD} {k j : Nat} {v : UInt64} : up2 f k j v k = vf_upd (f k) j v := up2_self
theorem up2_at {α : Type} {f : Nat → Nat → α} {k j : Nat} {v : α} : up2 f k j v k j = v := by rw [up2_self]; simp
theorem up2_off {α : Type} {f : Nat → Nat → α} {k j b : Nat} {v : α} (h : b ≠ j) : up2 f k j v k b = f k b := by rw [up2_self]; simp [h]
theorem up2_at2 {α : Type} (f : Nat → Nat → α) (k j a b : Nat) (v : α) : up2 f k j v a b = if a = k ∧ b = j then v else f a b := by
  by_cases h : a = k
  · subst h
    rw [up2_self]
    simp
  · rw [up2_ne h]
    simp [h]
theorem fvs_same {ad : Nat → Nat} {I I' : MI} {D D' : MD} {k : Nat} (h : I' k = I k) (h2 : D' k = D k) : ∀ (l : List (Nat ⊕ Bool)) (j : Nat), fvs ad I' D' k j l = fvs ad I D k j l
  | [], j => rfl
  | f :: t, j => by
    have h3 := fvs_same (ad := ad) h h2 t (j + 1)
    simp only [fvs, h3]
    congr 1
    rcases f with t | b
    · rfl
    · cases b <;> simp [fv, h, h2]
theorem ent_same {ad : Nat → Nat} {dA : Nat → ClassId} {I I' : MI} {D D' : MD} {k : Nat} (h : I' k = I k) (h2 : D' k = D k) (s : Sh) : ent ad dA I' D' k s = ent ad dA I D k s := by
  rcases s with q | q
  · simp only [ent, fvs_same h h2]
  · simp only [ent, h, h2]
/-- one cell changes -/
theorem wld_set {ad : Nat → Nat} {dA : Nat → ClassId} {I I' : MI} {D D' : MD} {SH : List Sh} {q : Nat} {s : Sh} (hq : nth SH q = some s) (hI : ∀ i, i ≠ q → I' i = I i) (hD : ∀ i, i ≠ q → D' i = D i) {en : va_E} (he : en = ent ad dA I' D' q s) : (wld ad dA I D 0 SH).set q (ad q, en) = wld ad dA I' D' 0 SH := by
  apply List.ext_getElem?
  intro i
  rw [List.getElem?_set, wld_get, wld_get, wld_len]
  have hl : q < SH.length := by
    rw [nth_eq] at hq
    exact (List.getElem?_eq_some_iff.mp hq).1
  by_cases h : q = i
  · subst h
    rw [if_pos rfl, if_pos hl, ← nth_eq, hq, he]
    simp
  · rw [if_neg h]
    cases hs : SH[i]? with
    | none => rfl
    | some z =>
      simp only [Option.map_some, Nat.zero_add]
      rw [ent_same (hI i (fun x => h x.symm)) (hD i (fun x => h x.symm))]
theorem fvs_setI {ad : Nat → Nat} {I : MI} {D : MD} {k b : Nat} {fks : List (Nat ⊕ Bool)} (hb : nth fks b = some (.inr false)) (x : Int32) : (fvs ad I D k 0 fks).set b (.int x) = fvs ad (up2 I k b x) D k 0 fks := by
  apply List.ext_getElem?
  intro i
  rw [List.getElem?_set, fvs_get, fvs_get, fvs_len]
  have hl : b < fks.length := by
    rw [nth_eq] at hb
    exact (List.getElem?_eq_some_iff.mp hb).1
  by_cases h : b = i
  · subst h
    rw [if_pos rfl, if_pos hl, ← nth_eq, hb]
    simp [fv, up2_at]
  · rw [if_neg h]
    cases hs : fks[i]? with
    | none => rfl
    | some z =>
      simp only [Option.map_some, Nat.zero_add]
      rcases z with t | c
      · rfl
      · cases c
        · simp [fv, up2_off (Ne.symm h)]
        · simp [fv]
theorem fvs_setD {ad : Nat → Nat} {I : MI} {D : MD} {k b : Nat} {fks : List (Nat ⊕ Bool)} (hb : nth fks b = some (.inr true)) (x : UInt64) : (fvs ad I D k 0 fks).set b (.double x) = fvs ad I (up2 D k b x) k 0 fks := by
  apply List.ext_getElem?
  intro i
  rw [List.getElem?_set, fvs_get, fvs_get, fvs_len]
  have hl : b < fks.length := by
    rw [nth_eq] at hb
    exact (List.getElem?_eq_some_iff.mp hb).1
  by_cases h : b = i
  · subst h
    rw [if_pos rfl, if_pos hl, ← nth_eq, hb]
    simp [fv, up2_at]
  · rw [if_neg h]
    cases hs : fks[i]? with
    | none => rfl
    | some z =>
      simp only [Option.map_some, Nat.zero_add]
      rcases z with t | c
      · rfl
      · cases c
        · simp [fv]
        · simp [fv, up2_off (Ne.symm h)]
-- what the small words say
theorem lk_e : ∀ {lv : Lv} {i : Nat} {k : Value → Prop}, lk lv i k → ∃ w, (i, w) ∈ lv ∧ k w
  | [], i, k, h => h.elim
  | q :: t, i, k, h => by
    unfold lk at h
    split at h
    next hb =>
      have := Nat.eq_of_beq_eq_true hb
      subst this
      exact ⟨q.2, List.mem_cons_self, h⟩
    next hb =>
      obtain ⟨w, h1, h2⟩ := lk_e h
      exact ⟨w, List.mem_cons_of_mem _ h1, h2⟩
theorem beq_same (a b : Nat) : Nat.beq a b = (a == b) := by
  cases h : Nat.beq a b with
  | true => rw [Nat.eq_of_beq_eq_true h]; simp
  | false =>
    have := Nat.ne_of_beq_eq_false h
    simp [this]
theorem fl1_e : ∀ {lv : Lv} {i : Nat} {k : Lv → Prop}, fl1 i lv k → k (lv.filter (fun q => !(q.1 == i) && !(q.1 + 1 == i && q.2.category == 2)))
  | [], i, k, h => h
  | q :: t, i, k, h => by
    unfold fl1 at h
    rw [List.filter_cons]
    split at h
    next hb =>
      simp only [beq_same] at hb
      rw [if_pos hb]
      exact fl1_e h
    next hb =>
      simp only [beq_same] at hb
      rw [if_neg (by rw [hb]; decide)]
      exact fl1_e h
theorem fl2_e : ∀ {lv : Lv} {i : Nat} {k : Lv → Prop}, fl2 i lv k → k (lv.filter (fun q => !(q.1 == i) && (!(q.1 == i + 1) && !(q.1 + 1 == i && q.2.category == 2))))
  | [], i, k, h => h
  | q :: t, i, k, h => by
    unfold fl2 at h
    rw [List.filter_cons]
    split at h
    next hb =>
      simp only [beq_same] at hb
      rw [if_pos hb]
      exact fl2_e h
    next hb =>
      simp only [beq_same] at hb
      rw [if_neg (by rw [hb]; decide)]
      exact fl2_e h
theorem pick_e : ∀ {is : List Nat} {lv : Lv} {k : Lv → Prop}, pick is lv k → ∃ lv', k lv' ∧ ∀ q ∈ lv', q ∈ lv
  | [], lv, k, h => ⟨[], h, fun q hq => by cases hq⟩
  | i :: is, lv, k, h => by
    unfold pick at h
    obtain ⟨w, h1, h2⟩ := lk_e h
    obtain ⟨t, h3, h4⟩ := pick_e h2
    refine ⟨_, h3, fun q hq => ?_⟩
    rcases List.mem_cons.mp hq with rfl | hq
    · exact h1
    · exact h4 q hq
theorem popN_e : ∀ {n : Nat} {st acc : List Value} {k : List Value → List Value → Prop}, popN n st acc k → ∃ vs r, vs.length = n ∧ st = vs ++ r ∧ k (vs.reverse ++ acc) r
  | 0, st, acc, k, h => ⟨[], st, rfl, rfl, h⟩
  | n + 1, [], acc, k, h => h.elim
  | n + 1, v :: st, acc, k, h => by
    obtain ⟨vs, r, h1, h2, h3⟩ := popN_e (n := n) (st := st) (acc := v :: acc) h
    refine ⟨v :: vs, r, by simp [h1], by simp [h2], ?_⟩
    simpa using h3
theorem csum_e : ∀ (r : List Value), csum r = (r.map fun v => v.category).sum
  | [] => rfl
  | v :: t => by simp [csum, csum_e t]
theorem okst_e {r : List Value} {P : Prop} (h : okst r P) : csum r ≤ 8 ∧ P := by
  unfold okst at h
  split at h
  next hb => exact ⟨Nat.le_of_ble_eq_true hb, h⟩
  next => exact h.elim
theorem tI_e {st : List Value} {k : Int32 → List Value → Prop} (h : tI st k) : ∃ x r, st = .int x :: r ∧ k x r := by
  unfold tI at h; split at h
  next => exact ⟨_, _, rfl, h⟩
  next => exact h.elim
theorem tL_e {st : List Value} {k : Int64 → List Value → Prop} (h : tL st k) : ∃ x r, st = .long x :: r ∧ k x r := by
  unfold tL at h; split at h
  next => exact ⟨_, _, rfl, h⟩
  next => exact h.elim
theorem tF_e {st : List Value} {k : UInt32 → List Value → Prop} (h : tF st k) : ∃ x r, st = .float x :: r ∧ k x r := by
  unfold tF at h; split at h
  next => exact ⟨_, _, rfl, h⟩
  next => exact h.elim
theorem tD_e {st : List Value} {k : UInt64 → List Value → Prop} (h : tD st k) : ∃ x r, st = .double x :: r ∧ k x r := by
  unfold tD at h; split at h
  next => exact ⟨_, _, rfl, h⟩
  next => exact h.elim
theorem tR_e {st : List Value} {k : Nat → List Value → Prop} (h : tR st k) : ∃ x r, st = .ref x :: r ∧ k x r := by
  unfold tR at h; split at h
  next => exact ⟨_, _, rfl, h⟩
  next => exact h.elim
theorem t2I_e {st : List Value} {k : Int32 → Int32 → List Value → Prop} (h : t2I st k) : ∃ x y r, st = .int y :: .int x :: r ∧ k x y r := by
  unfold t2I at h; split at h
  next => exact ⟨_, _, _, rfl, h⟩
  next => exact h.elim
theorem t2L_e {st : List Value} {k : Int64 → Int64 → List Value → Prop} (h : t2L st k) : ∃ x y r, st = .long y :: .long x :: r ∧ k x y r := by
  unfold t2L at h; split at h
  next => exact ⟨_, _, _, rfl, h⟩
  next => exact h.elim
theorem t2F_e {st : List Value} {k : UInt32 → UInt32 → List Value → Prop} (h : t2F st k) : ∃ x y r, st = .float y :: .float x :: r ∧ k x y r := by
  unfold t2F at h; split at h
  next => exact ⟨_, _, _, rfl, h⟩
  next => exact h.elim
theorem t2D_e {st : List Value} {k : UInt64 → UInt64 → List Value → Prop} (h : t2D st k) : ∃ x y r, st = .double y :: .double x :: r ∧ k x y r := by
  unfold t2D at h; split at h
  next => exact ⟨_, _, _, rfl, h⟩
  next => exact h.elim
theorem isI_e {w : Value} {P : Prop} (h : isI w P) : ∃ x, w = .int x ∧ P := by
  unfold isI at h; split at h
  next => exact ⟨_, rfl, h⟩
  next => exact h.elim
theorem isL_e {w : Value} {P : Prop} (h : isL w P) : ∃ x, w = .long x ∧ P := by
  unfold isL at h; split at h
  next => exact ⟨_, rfl, h⟩
  next => exact h.elim
theorem isF_e {w : Value} {P : Prop} (h : isF w P) : ∃ x, w = .float x ∧ P := by
  unfold isF at h; split at h
  next => exact ⟨_, rfl, h⟩
  next => exact h.elim
theorem isD_e {w : Value} {P : Prop} (h : isD w P) : ∃ x, w = .double x ∧ P := by
  unfold isD at h; split at h
  next => exact ⟨_, rfl, h⟩
  next => exact h.elim
theorem isR_e {w : Value} {P : Prop} (h : isR w P) : ∃ x, w = .ref x ∧ P := by
  unfold isR at h; split at h
  next => exact ⟨_, rfl, h⟩
  next => exact h.elim
theorem atO_e {SH : List Sh} {k ci : Nat} {P : List (Nat ⊕ Bool) → Prop} (h : atO SH k ci P) : ∃ fks, nth SH k = some (.inl (ci, fks)) ∧ P fks := by
  unfold atO at h
  split at h
  next q hq =>
    split at h
    next hb =>
      obtain ⟨c, fks⟩ := q
      have := Nat.eq_of_beq_eq_true hb
      dsimp only at this
      subst this
      exact ⟨fks, hq, h⟩
    next => exact h.elim
  next => exact h.elim
theorem atA_e {SH : List Sh} {k t : Nat} {P : Nat → Prop} (h : atA SH k t P) : ∃ n, nth SH k = some (.inr (t, n)) ∧ P n := by
  unfold atA at h
  split at h
  next q hq =>
    split at h
    next hb =>
      obtain ⟨c, fks⟩ := q
      have := Nat.eq_of_beq_eq_true hb
      dsimp only at this
      subst this
      exact ⟨fks, hq, h⟩
    next => exact h.elim
  next => exact h.elim
theorem inn_vp {i : Int32} {n : Nat} (h : inn i n) : vp_in i n := vp_in_iff.mpr h
theorem dup1_e {st : List Value} {k : Value → List Value → Prop} (h : dup1 st k) : ∃ v r, st = v :: r ∧ v.category = 1 ∧ k v r := by
  unfold dup1 at h; split at h
  next =>
    split at h
    next hb => exact ⟨_, _, rfl, Nat.eq_of_beq_eq_true hb, h⟩
    next => exact h.elim
  next => exact h.elim
theorem dup11_e {st : List Value} {k : Value → Value → List Value → Prop} (h : dup11 st k) : ∃ v w r, st = v :: w :: r ∧ v.category = 1 ∧ w.category = 1 ∧ k v w r := by
  unfold dup11 at h; split at h
  next =>
    split at h
    next hb hc => exact ⟨_, _, _, rfl, Nat.eq_of_beq_eq_true hb, Nat.eq_of_beq_eq_true hc, h⟩
    next => exact h.elim
  next => exact h.elim
end
section
/-! the program: its cells, its methods, what its constant pools name; all by program out of the Statement -/
def tb : Nat → List Cond := fun t => match t with
  | 0 => k2_sels lw_privs
  | 1 => tables_1_1
  | 2 => tables_1_2
  | 3 => tables_1_3
  | 4 => tables_1_4
  | 5 => tables_1_5
  | 6 => tables_1_6
  | 7 => tables_1_7
  | _ => tables_1_8
theorem tb_in : ∀ (t : Nat) (w : Cond), w ∈ tb t → w ∈ lw_tbl := by
  intro t w h
  unfold lw_tbl tables_1
  unfold tb at h
  split at h <;> simp only [List.mem_append] <;> simp only [h, true_or, or_true]
def gt : List Cond := lw_tbl.filter goodWord
theorem gt_in {t o : Nat} {w : Cond} (h : nth (tb t) o = some w) (hg : goodWord w = true) : w ∈ gt := List.mem_filter.mpr ⟨tb_in t w (by rw [nth_eq] at h; exact List.mem_of_getElem? h), hg⟩
def SHc : List Sh := [.inl (11, [.inl 1, .inl 2, .inl 3, .inl 4, .inl 5, .inl 6, .inl 9, .inl 7, .inl 8, .inl 10, .inl 11, .inr false, .inr false, .inr false]), .inl (0, [.inr false, .inr false]), .inl (7, [.inl 13, .inl 14, .inl 15, .inl 16, .inl 17, .inl 18, .inl 19, .inl 20, .inl 21, .inr false]), .inl (2, [.inl 2, .inl 22, .inl 23, .inl 24, .inl 25, .inl 26, .inl 27, .inl 28, .inl 29, .inr false, .inr false, .inr false, .inr false, .inr false, .inr false]), .inl (6, [.inl 2, .inl 3, .inl 30, .inl 31, .inl 32, .inl 33, .inl 34, .inl 35, .inr false, .inr false]), .inl (9, [.inl 2, .inl 36, .inl 37, .inl 38, .inl 39, .inl 40, .inl 41, .inr false]), .inl (5, [.inl 42, .inl 43, .inl 44, .inl 45, .inl 46, .inl 47, .inl 48, .inl 49, .inr false, .inr false, .inr false]), .inl (4, [.inl 50, .inl 51, .inl 52, .inl 53]), .inl (8, [.inl 1, .inl 6, .inl 7, .inl 4, .inl 5, .inl 54, .inr false, .inr false, .inr false, .inr false, .inr false]), .inl (1, [.inl 6, .inl 55, .inl 56, .inl 57, .inl 58, .inl 59]), .inl (10, [.inl 60, .inl 61, .inr false, .inr false, .inr false, .inr false]), .inl (3, [.inl 1, .inl 6, .inl 7, .inl 4, .inl 8, .inl 62, .inl 63, .inl 64, .inl 65, .inl 66, .inl 67, .inl 68, .inl 69, .inr false, .inr false, .inr false, .inr false]), .inl (12, [.inr false, .inr false, .inr false, .inl 70, .inl 71, .inl 72, .inl 73, .inl 74, .inr false, .inl 75, .inl 76, .inl 77, .inl 78, .inl 79, .inl 80, .inl 81, .inl 82, .inr true, .inr false, .inl 83, .inl 84, .inl 85, .inl 86, .inl 87, .inl 88, .inl 89, .inr false, .inr false, .inr false, .inr false, .inl 90, .inr true, .inr false, .inr false, .inl 91, .inl 92, .inr false, .inr false, .inl 93, .inl 94, .inl 95, .inl 96, .inl 97, .inl 98, .inl 99, .inl 100, .inl 101, .inl 102, .inr false, .inr false, .inl 103, .inl 104, .inl 105, .inl 106, .inl 107, .inl 108, .inr false, .inr false, .inl 109, .inl 110, .inl 111, .inl 112, .inr false, .inl 113, .inl 114, .inl 115, .inl 116, .inl 117, .inl 118, .inl 119, .inl 120, .inr false, .inr false, .inr false, .inl 121, .inl 122, .inr false, .inr false, .inr false, .inl 123, .inl 124, .inl 125, .inl 126, .inl 127, .inl 128, .inl 129, .inl 130, .inr false, .inr false, .inr false, .inl 131]), .inr (0, 12), .inr (0, 12), .inr (0, 288), .inr (0, 60), .inr (0, 60), .inr (0, 60), .inr (0, 60), .inr (0, 60), .inr (0, 1440), .inr (0, 10), .inr (0, 10), .inr (0, 10), .inr (1, 10), .inr (0, 10), .inr (2, 1200), .inr (0, 1200), .inr (3, 9), .inr (0, 16), .inr (0, 16), .inr (0, 76), .inr (0, 76), .inr (0, 76), .inr (0, 76), .inr (0, 12), .inr (0, 480), .inr (1, 480), .inr (3, 480), .inr (3, 200), .inr (0, 156), .inr (0, 40), .inr (0, 40), .inr (0, 40), .inr (0, 40), .inr (0, 40), .inr (0, 40), .inr (0, 40), .inr (0, 100), .inr (0, 6), .inr (0, 24), .inr (0, 24), .inr (0, 24), .inr (0, 4), .inr (1, 4), .inr (0, 4), .inr (0, 4), .inr (0, 32), .inr (0, 8), .inr (0, 20), .inr (0, 20), .inr (0, 40), .inr (0, 40), .inr (0, 40), .inr (0, 40), .inr (0, 40), .inr (1, 40), .inr (0, 160), .inr (1, 16), .inr (0, 12), .inr (0, 12), .inr (0, 96), .inr (0, 96), .inr (0, 96), .inr (0, 60), .inr (0, 60), .inr (0, 60), .inr (0, 60), .inr (0, 60), .inr (0, 480), .inr (0, 480), .inr (0, 480), .inr (0, 10), .inr (0, 10), .inr (0, 10), .inr (1, 10), .inr (0, 10), .inr (0, 1200), .inr (0, 1200), .inr (3, 9), .inr (0, 16), .inr (0, 16), .inr (0, 76), .inr (0, 76), .inr (0, 76), .inr (0, 76), .inr (0, 12), .inr (0, 480), .inr (1, 480), .inr (3, 480), .inr (0, 156), .inr (3, 200), .inr (0, 40), .inr (0, 40), .inr (0, 40), .inr (0, 40), .inr (0, 80), .inr (0, 40), .inr (0, 100), .inr (0, 4), .inr (0, 4), .inr (0, 32), .inr (0, 6), .inr (1, 6), .inr (0, 6), .inr (0, 8), .inr (0, 6), .inr (0, 24), .inr (0, 24), .inr (0, 24), .inr (0, 20), .inr (0, 20), .inr (0, 40), .inr (0, 40), .inr (0, 40), .inr (1, 40), .inr (0, 40), .inr (0, 40), .inr (0, 40), .inr (0, 4), .inr (1, 16)]
/-- a method: its name, code, locals, answer, arguments, whether static, the kind of its object; where its words stand -/
abbrev Me : Type := MethodName × ByteArray × Nat × Option FieldType × Nat × Bool × Nat × List (Nat × Nat)
def MT0 : List Me := [(⟨"TideDesk", "clock", "(I)I"⟩, prog_1_method_2_code, 2, (some .int), 1, false, 11, [(3, 25), (1, 1), (3, 23), (3, 24)]), (⟨"TideDesk", "isMoment", "(I)Z"⟩, prog_1_method_57_code, 1, (some .boolean), 1, true, 11, [(3, 28), (1, 1), (3, 27), (3, 27)]), (⟨"TideDesk", "mean", "(II)I"⟩, prog_1_method_3_code, 3, (some .int), 2, false, 11, [(3, 33), (1, 1), (3, 31), (3, 32)]), (⟨"TideDesk", "isStation", "(I)Z"⟩, prog_1_method_61_code, 1, (some .boolean), 1, true, 11, [(3, 36), (1, 1), (3, 35), (3, 35)]), (⟨"TideDesk", "isWithin", "(III)Z"⟩, prog_1_method_56_code, 3, (some .boolean), 3, true, 11, [(3, 39), (1, 1), (3, 38), (3, 38)]), (⟨"TideDesk$Surveys", "changeMean", "(II)I"⟩, prog_9_method_2_code, 4, (some .int), 2, false, 7, [(3, 44), (1, 3), (3, 42), (3, 43)]), (⟨"TideDesk", "wave", "(IIII)I"⟩, prog_1_method_4_code, 5, (some .int), 4, false, 11, [(3, 48), (1, 1), (3, 46), (3, 47)]), (⟨"TideDesk$Surveys", "addWave", "(IIII)I"⟩, prog_9_method_3_code, 6, (some .int), 4, false, 7, [(3, 54), (1, 3), (3, 52), (3, 53)]), (⟨"TideDesk", "survey", "(II)I"⟩, prog_1_method_5_code, 3, (some .int), 2, false, 11, [(3, 58), (1, 1), (3, 56), (3, 57)]), (⟨"TideDesk", "isDay", "(I)Z"⟩, prog_1_method_59_code, 1, (some .boolean), 1, true, 11, [(3, 61), (1, 1), (3, 60), (3, 60)]), (⟨"TideDesk$Surveys", "takeDraft", "(III)I"⟩, prog_9_method_4_code, 5, (some .int), 3, false, 7, [(3, 65), (1, 3), (3, 63), (3, 64)]), (⟨"TideDesk", "cos", "(I)J"⟩, prog_1_method_6_code, 2, (some .long), 1, false, 11, [(3, 69), (1, 1), (3, 67), (3, 68)]), (⟨"TideDesk$Surveys", "cosine", "(J)D"⟩, prog_9_method_7_code, 11, (some .double), 1, true, 7, [(3, 72), (1, 3), (3, 71), (3, 71)]), (⟨"TideDesk", "bitsOf", "(D)J"⟩, prog_1_method_74_code, 10, (some .long), 1, true, 11, [(3, 83), (1, 1), (3, 82), (3, 82)]), (⟨"TideDesk", "height", "(III)J"⟩, prog_1_method_7_code, 4, (some .long), 3, false, 11, [(3, 92), (1, 1), (3, 90), (3, 91)]), (⟨"TideDesk", "isPast", "(I)Z"⟩, prog_1_method_58_code, 2, (some .boolean), 1, false, 11, [(3, 96), (1, 1), (3, 95), (0, 0)]), (⟨"TideDesk$Findings", "areSpent", "()Z"⟩, prog_2_method_2_code, 1, (some .boolean), 0, false, 0, [(3, 100), (1, 2), (3, 98), (3, 99)]), (⟨"TideDesk$Surveys", "inForce", "(III)I"⟩, prog_9_method_5_code, 7, (some .int), 3, false, 7, [(3, 105), (1, 3), (3, 103), (3, 104)]), (⟨"TideDesk$Findings", "tell", "(I)I"⟩, prog_2_method_3_code, 2, (some .int), 1, false, 0, [(3, 110), (1, 2), (3, 108), (3, 109)]), (⟨"TideDesk$Surveys", "heightAt", "(III)D"⟩, prog_9_method_6_code, 11, (some .double), 3, false, 7, [(3, 114), (1, 3), (3, 112), (3, 113)]), (⟨"TideDesk", "force", "(III)I"⟩, prog_1_method_8_code, 5, (some .int), 3, false, 11, [(3, 123), (1, 1), (3, 121), (3, 122)]), (⟨"TideDesk", "gauge", "(III)I"⟩, prog_1_method_9_code, 4, (some .int), 3, false, 11, [(3, 127), (1, 1), (3, 125), (3, 126)]), (⟨"TideDesk$Gauges", "add", "(III)I"⟩, prog_4_method_2_code, 4, (some .int), 3, false, 2, [(3, 131), (1, 4), (3, 129), (3, 130)]), (⟨"TideDesk", "reading", "(III)I"⟩, prog_1_method_10_code, 4, (some .int), 3, false, 11, [(3, 135), (1, 1), (3, 133), (3, 134)]), (⟨"TideDesk", "isGauge", "(I)Z"⟩, prog_1_method_62_code, 2, (some .boolean), 1, false, 11, [(3, 139), (1, 1), (3, 138), (0, 1)]), (⟨"TideDesk$Gauges", "momentOf", "(II)I"⟩, prog_4_method_3_code, 3, (some .int), 2, false, 2, [(3, 143), (1, 4), (3, 141), (3, 142)]), (⟨"TideDesk", "isNoFloat", "(I)Z"⟩, prog_1_method_70_code, 1, (some .boolean), 1, true, 11, [(3, 146), (1, 1), (3, 145), (3, 145)]), (⟨"TideDesk$Gauges", "addReading", "(III)I"⟩, prog_4_method_4_code, 5, (some .int), 3, false, 2, [(3, 153), (1, 4), (3, 151), (3, 152)]), (⟨"TideDesk", "out", "(IZ)I"⟩, prog_1_method_11_code, 3, (some .int), 2, false, 11, [(3, 157), (1, 1), (3, 155), (3, 156)]), (⟨"TideDesk", "at", "(II)I"⟩, prog_1_method_12_code, 4, (some .int), 2, false, 11, [(3, 161), (1, 1), (3, 159), (3, 160)]), (⟨"TideDesk$Gauges", "faultAt", "(II)I"⟩, prog_4_method_5_code, 3, (some .int), 2, false, 2, [(3, 165), (1, 4), (3, 163), (3, 164)]), (⟨"TideDesk", "air", "(II)I"⟩, prog_1_method_13_code, 4, (some .int), 2, false, 11, [(3, 169), (1, 1), (3, 167), (3, 168)])]
def MT1 : List Me := [(⟨"TideDesk", "compare", "(III)I"⟩, prog_1_method_14_code, 5, (some .int), 3, false, 11, [(3, 173), (1, 1), (3, 171), (3, 172)]), (⟨"TideDesk", "relationsOf", "(II)I"⟩, prog_1_method_72_code, 4, (some .int), 2, true, 11, [(3, 176), (1, 1), (3, 175), (3, 175)]), (⟨"TideDesk", "orderOf", "(I)I"⟩, prog_1_method_73_code, 1, (some .int), 1, true, 11, [(3, 179), (1, 1), (3, 178), (3, 178)]), (⟨"TideDesk", "rule", "(II)I"⟩, prog_1_method_15_code, 4, (some .int), 2, false, 11, [(3, 183), (1, 1), (3, 181), (3, 182)]), (⟨"TideDesk", "surge", "(II)J"⟩, prog_1_method_16_code, 4, (some .long), 2, false, 11, [(3, 187), (1, 1), (3, 185), (3, 186)]), (⟨"TideDesk$Gauges", "gather", "(III)I"⟩, prog_4_method_7_code, 8, (some .int), 3, false, 2, [(3, 191), (1, 4), (3, 189), (3, 190)]), (⟨"TideDesk$Gauges", "keepBySize", "(D)V"⟩, prog_4_method_8_code, 4, none, 1, false, 2, [(3, 199), (1, 4), (3, 198), (0, 2)]), (⟨"TideDesk$Gauges", "fadedMiddle", "(I)D"⟩, prog_4_method_9_code, 4, (some .double), 1, false, 2, [(3, 203), (1, 4), (3, 201), (3, 202)]), (⟨"TideDesk", "lacking", "()I"⟩, prog_1_method_17_code, 1, (some .int), 0, false, 11, [(3, 208), (1, 1), (3, 206), (3, 207)]), (⟨"TideDesk", "shoal", "(III)I"⟩, prog_1_method_18_code, 4, (some .int), 3, false, 11, [(3, 212), (1, 1), (3, 210), (3, 211)]), (⟨"TideDesk", "isBed", "(I)Z"⟩, prog_1_method_64_code, 1, (some .boolean), 1, true, 11, [(3, 215), (1, 1), (3, 214), (3, 214)]), (⟨"TideDesk$Shoals", "add", "(IIII)I"⟩, prog_8_method_2_code, 5, (some .int), 4, false, 6, [(3, 219), (1, 5), (3, 217), (3, 218)]), (⟨"TideDesk$Shoals", "addBed", "(IIII)V"⟩, prog_8_method_4_code, 6, none, 4, false, 6, [(3, 223), (1, 5), (3, 222), (0, 3)]), (⟨"TideDesk", "dredge", "(III)I"⟩, prog_1_method_19_code, 4, (some .int), 3, false, 11, [(3, 227), (1, 1), (3, 225), (3, 226)]), (⟨"TideDesk", "isShoal", "(I)Z"⟩, prog_1_method_63_code, 2, (some .boolean), 1, false, 11, [(3, 231), (1, 1), (3, 230), (0, 4)]), (⟨"TideDesk$Shoals", "addDredging", "(IIII)I"⟩, prog_8_method_3_code, 5, (some .int), 4, false, 6, [(3, 235), (1, 5), (3, 233), (3, 234)]), (⟨"TideDesk", "depth", "(III)J"⟩, prog_1_method_20_code, 4, (some .long), 3, false, 11, [(3, 239), (1, 1), (3, 237), (3, 238)]), (⟨"TideDesk$Shoals", "hasDepth", "(III)Z"⟩, prog_8_method_6_code, 4, (some .boolean), 3, false, 6, [(4, 3), (1, 5), (4, 1), (4, 2)]), (⟨"TideDesk$Shoals", "bedInForce", "(III)I"⟩, prog_8_method_5_code, 7, (some .int), 3, false, 6, [(4, 7), (1, 5), (4, 6), (0, 5)]), (⟨"TideDesk$Shoals", "depthAt", "(III)D"⟩, prog_8_method_7_code, 5, (some .double), 3, false, 6, [(4, 13), (1, 5), (4, 11), (4, 12)]), (⟨"TideDesk", "water", "(II)J"⟩, prog_1_method_21_code, 3, (some .long), 2, false, 11, [(4, 19), (1, 1), (4, 17), (4, 18)]), (⟨"TideDesk$Shoals", "waterAt", "(III)D"⟩, prog_8_method_8_code, 7, (some .double), 3, false, 6, [(4, 23), (1, 5), (4, 21), (4, 22)]), (⟨"TideDesk$Gauges", "firstOf", "(I)I"⟩, prog_4_method_6_code, 3, (some .int), 1, false, 2, [(4, 28), (1, 4), (4, 26), (4, 27)]), (⟨"TideDesk", "waters", "(III)I"⟩, prog_1_method_22_code, 4, (some .int), 3, false, 11, [(4, 34), (1, 1), (4, 32), (4, 33)]), (⟨"TideDesk$Waters", "measure", "(IIII)Z"⟩, prog_11_method_2_code, 7, (some .boolean), 4, false, 9, [(4, 38), (1, 6), (4, 36), (4, 37)]), (⟨"TideDesk$Waters", "find", "(IIII)I"⟩, prog_11_method_3_code, 14, (some .int), 4, false, 9, [(4, 44), (1, 6), (4, 42), (4, 43)]), (⟨"TideDesk$Waters", "halve", "(IIZI)I"⟩, prog_11_method_5_code, 13, (some .int), 4, false, 9, [(4, 48), (1, 6), (4, 47), (0, 6)]), (⟨"TideDesk$Waters", "keep", "(IIZI)V"⟩, prog_11_method_4_code, 6, none, 4, false, 9, [(4, 52), (1, 6), (4, 51), (0, 7)]), (⟨"TideDesk", "found", "(III)I"⟩, prog_1_method_23_code, 5, (some .int), 3, false, 11, [(4, 56), (1, 1), (4, 54), (4, 55)]), (⟨"TideDesk", "range", "(II)J"⟩, prog_1_method_24_code, 3, (some .long), 2, false, 11, [(4, 60), (1, 1), (4, 58), (4, 59)]), (⟨"TideDesk$Waters", "hasRange", "(II)Z"⟩, prog_11_method_6_code, 3, (some .boolean), 2, false, 9, [(4, 64), (1, 6), (4, 62), (4, 63)]), (⟨"TideDesk$Waters", "rangeOf", "(II)D"⟩, prog_11_method_7_code, 7, (some .double), 2, false, 9, [(4, 68), (1, 6), (4, 66), (4, 67)])]
def MT2 : List Me := [(⟨"TideDesk", "spring", "(IZ)I"⟩, prog_1_method_25_code, 3, (some .int), 2, false, 11, [(4, 72), (1, 1), (4, 70), (4, 71)]), (⟨"TideDesk$Waters", "furthestRange", "(IZ)I"⟩, prog_11_method_8_code, 9, (some .int), 2, false, 9, [(4, 76), (1, 6), (4, 74), (4, 75)]), (⟨"TideDesk", "tide", "(III)I"⟩, prog_1_method_26_code, 4, (some .int), 3, false, 11, [(4, 82), (1, 1), (4, 80), (4, 81)]), (⟨"TideDesk", "stream", "(II)I"⟩, prog_1_method_27_code, 4, (some .int), 2, false, 11, [(4, 87), (1, 1), (4, 85), (4, 86)]), (⟨"TideDesk$Waters", "streamPlace", "(II)I"⟩, prog_11_method_9_code, 5, (some .int), 2, false, 9, [(4, 91), (1, 6), (4, 89), (4, 90)]), (⟨"TideDesk$Waters", "nearestHigh", "(II)I"⟩, prog_11_method_10_code, 7, (some .int), 2, false, 9, [(4, 95), (1, 6), (4, 94), (0, 8)]), (⟨"java/lang/Math", "abs", "(I)I"⟩, prog_17_method_59_code, 1, (some .int), 1, true, 99, [(4, 99), (1, 16), (4, 98), (4, 98)]), (⟨"java/lang/Math", "floorDiv", "(II)I"⟩, prog_17_method_47_code, 3, (some .int), 2, true, 99, [(4, 102), (1, 16), (4, 101), (4, 101)]), (⟨"TideDesk", "ship", "(IIIIII)I"⟩, prog_1_method_28_code, 7, (some .int), 6, false, 11, [(4, 106), (1, 1), (4, 104), (4, 105)]), (⟨"TideDesk$Ships", "add", "(IIIIII)I"⟩, prog_7_method_2_code, 8, (some .int), 6, false, 5, [(4, 110), (1, 7), (4, 108), (4, 109)]), (⟨"TideDesk$Ships", "deepOf", "(I)I"⟩, prog_7_method_3_code, 2, (some .int), 1, false, 5, [(4, 114), (1, 7), (4, 113), (0, 9)]), (⟨"java/lang/Math", "max", "(II)I"⟩, prog_17_method_65_code, 2, (some .int), 2, true, 99, [(4, 117), (1, 16), (4, 116), (4, 116)]), (⟨"TideDesk", "isShipOrNothing", "(I)Z"⟩, prog_1_method_66_code, 2, (some .boolean), 1, false, 11, [(4, 121), (1, 1), (4, 120), (0, 10)]), (⟨"TideDesk", "ask", "(II)I"⟩, prog_1_method_29_code, 4, (some .int), 2, false, 11, [(4, 125), (1, 1), (4, 123), (4, 124)]), (⟨"TideDesk", "isShip", "(I)Z"⟩, prog_1_method_65_code, 2, (some .boolean), 1, false, 11, [(4, 129), (1, 1), (4, 128), (0, 11)]), (⟨"TideDesk$Ships", "askFor", "(III)I"⟩, prog_7_method_5_code, 4, (some .int), 3, false, 5, [(4, 133), (1, 7), (4, 131), (4, 132)]), (⟨"TideDesk$Ships", "pairAnswer", "(III)I"⟩, prog_7_method_6_code, 6, (some .int), 3, false, 5, [(4, 137), (1, 7), (4, 136), (0, 12)]), (⟨"TideDesk$Ships", "pairBody", "(I)I"⟩, prog_7_method_7_code, 1, (some .int), 1, true, 5, [(4, 140), (1, 7), (4, 139), (4, 139)]), (⟨"TideDesk$Ships", "begin", "(I)V"⟩, prog_7_method_12_code, 2, none, 1, false, 5, [(4, 144), (1, 7), (4, 143), (0, 13)]), (⟨"java/lang/Math", "min", "(II)I"⟩, prog_17_method_69_code, 2, (some .int), 2, true, 99, [(4, 148), (1, 16), (4, 147), (4, 147)]), (⟨"TideDesk$Ships", "needOf", "(I)I"⟩, prog_7_method_8_code, 4, (some .int), 1, false, 5, [(4, 152), (1, 7), (4, 151), (0, 14)]), (⟨"TideDesk$Ships", "isOf", "(II)Z"⟩, prog_7_method_4_code, 3, (some .boolean), 2, false, 5, [(4, 156), (1, 7), (4, 154), (4, 155)]), (⟨"TideDesk$Ships", "keelOf", "(I)I"⟩, prog_7_method_9_code, 2, (some .int), 1, false, 5, [(4, 160), (1, 7), (4, 159), (0, 15)]), (⟨"TideDesk$Ships", "paceOf", "(I)I"⟩, prog_7_method_10_code, 2, (some .int), 1, false, 5, [(4, 164), (1, 7), (4, 163), (0, 16)]), (⟨"TideDesk$Ships", "patienceOf", "(I)I"⟩, prog_7_method_11_code, 2, (some .int), 1, false, 5, [(4, 168), (1, 7), (4, 167), (0, 17)]), (⟨"TideDesk", "asked", "()I"⟩, prog_1_method_30_code, 1, (some .int), 0, false, 11, [(4, 172), (1, 1), (4, 170), (4, 171)]), (⟨"TideDesk", "trace", "(I)I"⟩, prog_1_method_31_code, 2, (some .int), 1, false, 11, [(4, 176), (1, 1), (4, 174), (4, 175)]), (⟨"TideDesk", "as", "(II)I"⟩, prog_1_method_32_code, 3, (some .int), 2, false, 11, [(4, 180), (1, 1), (4, 178), (4, 179)]), (⟨"TideDesk", "fleet", "(III)I"⟩, prog_1_method_33_code, 4, (some .int), 3, false, 11, [(4, 185), (1, 1), (4, 183), (4, 184)]), (⟨"TideDesk", "isFleet", "(I)Z"⟩, prog_1_method_67_code, 1, (some .boolean), 1, true, 11, [(4, 188), (1, 1), (4, 187), (4, 187)]), (⟨"TideDesk$Fleets", "make", "(III)V"⟩, prog_3_method_3_code, 5, none, 3, false, 1, [(4, 192), (1, 10), (4, 190), (4, 191)]), (⟨"TideDesk", "join", "(III)I"⟩, prog_1_method_34_code, 5, (some .int), 3, false, 11, [(4, 196), (1, 1), (4, 194), (4, 195)])]
def MT3 : List Me := [(⟨"TideDesk$Fleets", "faultAt", "(II)I"⟩, prog_3_method_4_code, 3, (some .int), 2, false, 1, [(4, 200), (1, 10), (4, 198), (4, 199)]), (⟨"TideDesk$Fleets", "takes", "(II)Z"⟩, prog_3_method_5_code, 3, (some .boolean), 2, false, 1, [(4, 204), (1, 10), (4, 202), (4, 203)]), (⟨"TideDesk", "member", "(II)I"⟩, prog_1_method_35_code, 4, (some .int), 2, false, 11, [(4, 209), (1, 1), (4, 207), (4, 208)]), (⟨"TideDesk", "move", "(IIIII)I"⟩, prog_1_method_36_code, 6, (some .int), 5, false, 11, [(4, 213), (1, 1), (4, 211), (4, 212)]), (⟨"TideDesk$Fleets", "isNothing", "(I)Z"⟩, prog_3_method_2_code, 2, (some .boolean), 1, false, 1, [(4, 217), (1, 10), (4, 215), (4, 216)]), (⟨"TideDesk$Fleets", "hasSpan", "(III)Z"⟩, prog_3_method_6_code, 4, (some .boolean), 3, false, 1, [(4, 221), (1, 10), (4, 219), (4, 220)]), (⟨"TideDesk$Fleets", "copy", "(IIII)Z"⟩, prog_3_method_7_code, 6, (some .boolean), 4, false, 1, [(4, 225), (1, 10), (4, 223), (4, 224)]), (⟨"TideDesk", "shared", "(II)I"⟩, prog_1_method_37_code, 4, (some .int), 2, false, 11, [(4, 230), (1, 1), (4, 228), (4, 229)]), (⟨"TideDesk$Fleets", "standing", "(I)I"⟩, prog_3_method_8_code, 4, (some .int), 1, false, 1, [(4, 235), (1, 10), (4, 233), (4, 234)]), (⟨"TideDesk", "leg", "(IIII)I"⟩, prog_1_method_38_code, 5, (some .int), 4, false, 11, [(4, 239), (1, 1), (4, 237), (4, 238)]), (⟨"TideDesk", "isRoute", "(I)Z"⟩, prog_1_method_68_code, 1, (some .boolean), 1, true, 11, [(5, 2), (1, 1), (5, 1), (5, 1)]), (⟨"TideDesk", "isMark", "(I)Z"⟩, prog_1_method_71_code, 1, (some .boolean), 1, true, 11, [(5, 5), (1, 1), (5, 4), (5, 4)]), (⟨"TideDesk$Routes", "lastDistance", "(I)I"⟩, prog_6_method_2_code, 2, (some .int), 1, false, 4, [(5, 9), (1, 8), (5, 7), (5, 8)]), (⟨"TideDesk$Passages", "useRoute", "(I)Z"⟩, prog_5_method_4_code, 3, (some .boolean), 1, false, 3, [(5, 14), (1, 12), (5, 12), (5, 13)]), (⟨"TideDesk$Routes", "add", "(IIII)I"⟩, prog_6_method_3_code, 6, (some .int), 4, false, 4, [(5, 18), (1, 8), (5, 16), (5, 17)]), (⟨"TideDesk", "clear", "(I)I"⟩, prog_1_method_39_code, 3, (some .int), 1, false, 11, [(5, 22), (1, 1), (5, 20), (5, 21)]), (⟨"TideDesk", "sun", "(II)I"⟩, prog_1_method_40_code, 3, (some .int), 2, false, 11, [(5, 26), (1, 1), (5, 24), (5, 25)]), (⟨"TideDesk", "comes", "(IIII)I"⟩, prog_1_method_41_code, 6, (some .int), 4, false, 11, [(5, 31), (1, 1), (5, 29), (5, 30)]), (⟨"TideDesk$Routes", "comingAt", "(III)I"⟩, prog_6_method_4_code, 5, (some .int), 3, false, 4, [(5, 35), (1, 8), (5, 33), (5, 34)]), (⟨"TideDesk", "holds", "(III)I"⟩, prog_1_method_42_code, 4, (some .int), 3, false, 11, [(5, 40), (1, 1), (5, 38), (5, 39)]), (⟨"TideDesk", "isMinute", "(I)Z"⟩, prog_1_method_60_code, 1, (some .boolean), 1, true, 11, [(5, 43), (1, 1), (5, 42), (5, 42)]), (⟨"TideDesk$Voyages", "tryMinute", "(IIII)I"⟩, prog_10_method_2_code, 8, (some .int), 4, false, 8, [(5, 48), (1, 9), (5, 46), (5, 47)]), (⟨"TideDesk$Voyages", "tryLeg", "(III)I"⟩, prog_10_method_3_code, 6, (some .int), 3, false, 8, [(5, 55), (1, 9), (5, 54), (0, 18)]), (⟨"TideDesk", "windows", "(IIII)I"⟩, prog_1_method_43_code, 6, (some .int), 4, false, 11, [(5, 66), (1, 1), (5, 64), (5, 65)]), (⟨"TideDesk$Windows", "begin", "()V"⟩, prog_12_method_2_code, 1, none, 0, false, 10, [(5, 70), (1, 11), (5, 68), (5, 69)]), (⟨"TideDesk$Windows", "take", "(II)V"⟩, prog_12_method_3_code, 3, none, 2, false, 10, [(5, 74), (1, 11), (5, 72), (5, 73)]), (⟨"TideDesk", "window", "(IZ)I"⟩, prog_1_method_44_code, 3, (some .int), 2, false, 11, [(5, 78), (1, 1), (5, 76), (5, 77)]), (⟨"TideDesk", "wrong", "(I)I"⟩, prog_1_method_45_code, 2, (some .int), 1, false, 11, [(5, 82), (1, 1), (5, 80), (5, 81)]), (⟨"TideDesk", "passage", "(III)I"⟩, prog_1_method_46_code, 4, (some .int), 3, false, 11, [(5, 86), (1, 1), (5, 84), (5, 85)]), (⟨"TideDesk$Passages", "add", "(IIII)I"⟩, prog_5_method_2_code, 5, (some .int), 4, false, 3, [(5, 90), (1, 12), (5, 88), (5, 89)]), (⟨"TideDesk$Passages", "letWait", "(II)V"⟩, prog_5_method_3_code, 3, none, 2, false, 3, [(5, 94), (1, 12), (5, 92), (5, 93)]), (⟨"TideDesk", "plan", "()I"⟩, prog_1_method_47_code, 4, (some .int), 0, false, 11, [(5, 98), (1, 1), (5, 96), (5, 97)])]
def MT4 : List Me := [(⟨"TideDesk$Passages", "longestWaiting", "()I"⟩, prog_5_method_5_code, 3, (some .int), 0, false, 3, [(5, 102), (1, 12), (5, 100), (5, 101)]), (⟨"TideDesk$Passages", "settle", "(II)Z"⟩, prog_5_method_6_code, 7, (some .boolean), 2, false, 3, [(5, 106), (1, 12), (5, 104), (5, 105)]), (⟨"TideDesk$Passages", "meetsAny", "(I)Z"⟩, prog_5_method_8_code, 3, (some .boolean), 1, false, 3, [(5, 115), (1, 12), (5, 114), (0, 19)]), (⟨"TideDesk$Passages", "meets", "(II)Z"⟩, prog_5_method_9_code, 5, (some .boolean), 2, false, 3, [(5, 119), (1, 12), (5, 118), (0, 20)]), (⟨"TideDesk$Passages", "meetInLock", "(IIII)Z"⟩, prog_5_method_10_code, 9, (some .boolean), 4, false, 3, [(5, 123), (1, 12), (5, 122), (0, 21)]), (⟨"TideDesk$Passages", "meetInReach", "(IIII)Z"⟩, prog_5_method_11_code, 10, (some .boolean), 4, false, 3, [(5, 127), (1, 12), (5, 126), (0, 22)]), (⟨"TideDesk$Passages", "keepComing", "(I)V"⟩, prog_5_method_7_code, 3, none, 1, false, 3, [(5, 131), (1, 12), (5, 130), (0, 23)]), (⟨"TideDesk", "planned", "(II)I"⟩, prog_1_method_48_code, 3, (some .int), 2, false, 11, [(5, 135), (1, 1), (5, 133), (5, 134)]), (⟨"TideDesk", "isPassage", "(I)Z"⟩, prog_1_method_69_code, 2, (some .boolean), 1, false, 11, [(5, 139), (1, 1), (5, 138), (0, 24)]), (⟨"TideDesk", "again", "(I)I"⟩, prog_1_method_49_code, 2, (some .int), 1, false, 11, [(5, 143), (1, 1), (5, 141), (5, 142)]), (⟨"TideDesk", "pass", "(I)I"⟩, prog_1_method_50_code, 3, (some .int), 1, false, 11, [(5, 148), (1, 1), (5, 146), (5, 147)]), (⟨"TideDesk$Passages", "goThrough", "(I)I"⟩, prog_5_method_12_code, 3, (some .int), 1, false, 3, [(5, 152), (1, 12), (5, 150), (5, 151)]), (⟨"TideDesk$Passages", "holdLocks", "(I)Z"⟩, prog_5_method_13_code, 4, (some .boolean), 1, false, 3, [(5, 156), (1, 12), (5, 155), (0, 25)]), (⟨"TideDesk$Passages", "askAtLast", "(I)I"⟩, prog_5_method_14_code, 2, (some .int), 1, false, 3, [(5, 160), (1, 12), (5, 159), (0, 26)]), (⟨"TideDesk$Passages", "freeAll", "()V"⟩, prog_5_method_15_code, 2, none, 0, false, 3, [(5, 164), (1, 12), (5, 163), (0, 27)]), (⟨"TideDesk", "tries", "()I"⟩, prog_1_method_51_code, 1, (some .int), 0, false, 11, [(5, 168), (1, 1), (5, 166), (5, 167)]), (⟨"TideDesk", "held", "(I)I"⟩, prog_1_method_52_code, 2, (some .int), 1, false, 11, [(5, 172), (1, 1), (5, 170), (5, 171)]), (⟨"TideDesk", "count", "(I)I"⟩, prog_1_method_53_code, 2, (some .int), 1, false, 11, [(5, 176), (1, 1), (5, 174), (5, 175)]), (⟨"TideDesk", "finding", "()I"⟩, prog_1_method_54_code, 1, (some .int), 0, false, 11, [(5, 180), (1, 1), (5, 178), (5, 179)]), (⟨"TideDesk", "digest", "()I"⟩, prog_1_method_55_code, 3, (some .int), 0, false, 11, [(5, 184), (1, 1), (5, 182), (5, 183)]), (⟨"TideDeskModel", "clock", "(I)I"⟩, prog_14_method_6_code, 2, (some .int), 1, false, 12, [(6, 229), (1, 13), (6, 227), (6, 228)]), (⟨"TideDeskModel", "isMoment", "(I)Z"⟩, prog_14_method_3_code, 1, (some .boolean), 1, true, 12, [(6, 232), (1, 13), (6, 231), (6, 231)]), (⟨"TideDeskModel", "in", "(III)Z"⟩, prog_14_method_2_code, 3, (some .boolean), 3, true, 12, [(6, 236), (1, 13), (6, 235), (6, 235)]), (⟨"TideDeskModel", "mean", "(II)I"⟩, prog_14_method_8_code, 4, (some .int), 2, false, 12, [(7, 0), (1, 13), (6, 238), (6, 239)]), (⟨"TideDeskModel", "isStation", "(I)Z"⟩, prog_14_method_7_code, 1, (some .boolean), 1, true, 12, [(7, 3), (1, 13), (7, 2), (7, 2)]), (⟨"TideDeskModel", "wave", "(IIII)I"⟩, prog_14_method_9_code, 6, (some .int), 4, false, 12, [(7, 8), (1, 13), (7, 6), (7, 7)]), (⟨"TideDeskModel", "survey", "(II)I"⟩, prog_14_method_10_code, 4, (some .int), 2, false, 12, [(7, 14), (1, 13), (7, 12), (7, 13)]), (⟨"TideDeskModel", "cos", "(I)J"⟩, prog_14_method_12_code, 2, (some .long), 1, false, 12, [(7, 18), (1, 13), (7, 16), (7, 17)]), (⟨"TideDeskModel", "cosine", "(I)D"⟩, prog_14_method_11_code, 10, (some .double), 1, true, 12, [(7, 21), (1, 13), (7, 20), (7, 20)]), (⟨"java/lang/Double", "doubleToLongBits", "(D)J"⟩, prog_15_method_23_code, 2, (some .long), 1, true, 99, [(7, 31), (1, 14), (7, 30), (7, 30)]), (⟨"java/lang/Double", "isNaN", "(D)Z"⟩, prog_15_method_6_code, 2, (some .boolean), 1, true, 99, [(7, 34), (1, 14), (7, 33), (7, 33)]), (⟨"TideDeskModel", "height", "(III)J"⟩, prog_14_method_16_code, 4, (some .long), 3, false, 12, [(7, 42), (1, 13), (7, 40), (7, 41)])]
def MT5 : List Me := [(⟨"TideDeskModel", "isKnowing", "(II)Z"⟩, prog_14_method_15_code, 3, (some .boolean), 2, false, 12, [(7, 46), (1, 13), (7, 45), (0, 28)]), (⟨"TideDeskModel", "isFull", "()Z"⟩, prog_14_method_4_code, 1, (some .boolean), 0, false, 12, [(7, 50), (1, 13), (7, 49), (0, 29)]), (⟨"TideDeskModel", "rises", "(III)Z"⟩, prog_14_method_14_code, 9, (some .boolean), 3, false, 12, [(7, 55), (1, 13), (7, 54), (0, 30)]), (⟨"TideDeskModel", "inForce", "(III)I"⟩, prog_14_method_13_code, 7, (some .int), 3, false, 12, [(7, 59), (1, 13), (7, 58), (0, 31)]), (⟨"TideDeskModel", "fails", "(I)I"⟩, prog_14_method_5_code, 2, (some .int), 1, false, 12, [(7, 67), (1, 13), (7, 66), (0, 32)]), (⟨"TideDeskModel", "force", "(III)I"⟩, prog_14_method_17_code, 5, (some .int), 3, false, 12, [(7, 71), (1, 13), (7, 69), (7, 70)]), (⟨"TideDeskModel", "gauge", "(III)I"⟩, prog_14_method_20_code, 4, (some .int), 3, false, 12, [(7, 75), (1, 13), (7, 73), (7, 74)]), (⟨"TideDeskModel", "reading", "(III)I"⟩, prog_14_method_22_code, 5, (some .int), 3, false, 12, [(7, 79), (1, 13), (7, 77), (7, 78)]), (⟨"TideDeskModel", "isGauge", "(I)Z"⟩, prog_14_method_18_code, 2, (some .boolean), 1, false, 12, [(7, 83), (1, 13), (7, 82), (0, 33)]), (⟨"TideDeskModel", "momentOf", "(II)I"⟩, prog_14_method_19_code, 3, (some .int), 2, false, 12, [(7, 87), (1, 13), (7, 86), (0, 34)]), (⟨"TideDeskModel", "isNoFloat", "(I)Z"⟩, prog_14_method_21_code, 1, (some .boolean), 1, true, 12, [(7, 90), (1, 13), (7, 89), (7, 89)]), (⟨"TideDeskModel", "out", "(IZ)I"⟩, prog_14_method_23_code, 4, (some .int), 2, false, 12, [(7, 97), (1, 13), (7, 95), (7, 96)]), (⟨"TideDeskModel", "at", "(II)I"⟩, prog_14_method_25_code, 4, (some .int), 2, false, 12, [(7, 101), (1, 13), (7, 99), (7, 100)]), (⟨"TideDeskModel", "reads", "(II)I"⟩, prog_14_method_24_code, 3, (some .int), 2, false, 12, [(7, 105), (1, 13), (7, 104), (0, 35)]), (⟨"TideDeskModel", "air", "(II)I"⟩, prog_14_method_26_code, 4, (some .int), 2, false, 12, [(7, 109), (1, 13), (7, 107), (7, 108)]), (⟨"TideDeskModel", "compare", "(III)I"⟩, prog_14_method_27_code, 8, (some .int), 3, false, 12, [(7, 113), (1, 13), (7, 111), (7, 112)]), (⟨"TideDeskModel", "rule", "(II)I"⟩, prog_14_method_28_code, 4, (some .int), 2, false, 12, [(7, 120), (1, 13), (7, 118), (7, 119)]), (⟨"TideDeskModel", "surge", "(II)J"⟩, prog_14_method_30_code, 4, (some .long), 2, false, 12, [(7, 124), (1, 13), (7, 122), (7, 123)]), (⟨"TideDeskModel", "surges", "(II)I"⟩, prog_14_method_29_code, 11, (some .int), 2, false, 12, [(7, 128), (1, 13), (7, 127), (0, 36)]), (⟨"TideDeskModel", "lacking", "()I"⟩, prog_14_method_31_code, 1, (some .int), 0, false, 12, [(7, 133), (1, 13), (7, 131), (7, 132)]), (⟨"TideDeskModel", "shoal", "(III)I"⟩, prog_14_method_34_code, 4, (some .int), 3, false, 12, [(7, 137), (1, 13), (7, 135), (7, 136)]), (⟨"TideDeskModel", "lay", "(III)V"⟩, prog_14_method_33_code, 4, none, 3, false, 12, [(7, 141), (1, 13), (7, 140), (0, 37)]), (⟨"TideDeskModel", "dredge", "(III)I"⟩, prog_14_method_35_code, 4, (some .int), 3, false, 12, [(7, 145), (1, 13), (7, 143), (7, 144)]), (⟨"TideDeskModel", "isShoal", "(I)Z"⟩, prog_14_method_32_code, 2, (some .boolean), 1, false, 12, [(7, 149), (1, 13), (7, 148), (0, 38)]), (⟨"TideDeskModel", "depth", "(III)J"⟩, prog_14_method_38_code, 4, (some .long), 3, false, 12, [(7, 153), (1, 13), (7, 151), (7, 152)]), (⟨"TideDeskModel", "goesDown", "(III)Z"⟩, prog_14_method_36_code, 7, (some .boolean), 3, false, 12, [(7, 157), (1, 13), (7, 156), (0, 39)]), (⟨"TideDeskModel", "water", "(II)J"⟩, prog_14_method_39_code, 3, (some .long), 2, false, 12, [(7, 161), (1, 13), (7, 159), (7, 160)]), (⟨"TideDeskModel", "flows", "(II)Z"⟩, prog_14_method_37_code, 6, (some .boolean), 2, false, 12, [(7, 165), (1, 13), (7, 164), (0, 40)]), (⟨"TideDeskModel", "waters", "(III)I"⟩, prog_14_method_42_code, 9, (some .int), 3, false, 12, [(7, 169), (1, 13), (7, 167), (7, 168)]), (⟨"TideDeskModel", "heightAt", "(II)D"⟩, prog_14_method_40_code, 4, (some .double), 2, false, 12, [(7, 173), (1, 13), (7, 172), (0, 41)]), (⟨"TideDeskModel", "halved", "(IIIZ)I"⟩, prog_14_method_41_code, 12, (some .int), 4, false, 12, [(7, 177), (1, 13), (7, 176), (0, 42)]), (⟨"TideDeskModel", "found", "(III)I"⟩, prog_14_method_43_code, 5, (some .int), 3, false, 12, [(7, 181), (1, 13), (7, 179), (7, 180)])]
def MT6 : List Me := [(⟨"TideDeskModel", "range", "(II)J"⟩, prog_14_method_46_code, 3, (some .long), 2, false, 12, [(7, 185), (1, 13), (7, 183), (7, 184)]), (⟨"TideDeskModel", "isRange", "(II)Z"⟩, prog_14_method_44_code, 3, (some .boolean), 2, false, 12, [(7, 189), (1, 13), (7, 188), (0, 43)]), (⟨"TideDeskModel", "rangeOf", "(II)D"⟩, prog_14_method_45_code, 7, (some .double), 2, false, 12, [(7, 193), (1, 13), (7, 192), (0, 44)]), (⟨"TideDeskModel", "spring", "(IZ)I"⟩, prog_14_method_47_code, 9, (some .int), 2, false, 12, [(7, 197), (1, 13), (7, 195), (7, 196)]), (⟨"TideDeskModel", "tide", "(III)I"⟩, prog_14_method_48_code, 5, (some .int), 3, false, 12, [(7, 201), (1, 13), (7, 199), (7, 200)]), (⟨"TideDeskModel", "stream", "(II)I"⟩, prog_14_method_50_code, 4, (some .int), 2, false, 12, [(7, 207), (1, 13), (7, 205), (7, 206)]), (⟨"TideDeskModel", "streams", "(II)I"⟩, prog_14_method_49_code, 7, (some .int), 2, false, 12, [(7, 211), (1, 13), (7, 210), (0, 45)]), (⟨"TideDeskModel", "ship", "(IIIIII)I"⟩, prog_14_method_53_code, 10, (some .int), 6, false, 12, [(7, 215), (1, 13), (7, 213), (7, 214)]), (⟨"TideDeskModel", "isPart", "(I)Z"⟩, prog_14_method_52_code, 2, (some .boolean), 1, false, 12, [(7, 219), (1, 13), (7, 218), (0, 46)]), (⟨"TideDeskModel", "isShip", "(I)Z"⟩, prog_14_method_51_code, 2, (some .boolean), 1, false, 12, [(7, 223), (1, 13), (7, 222), (0, 47)]), (⟨"TideDeskModel", "ask", "(II)I"⟩, prog_14_method_62_code, 4, (some .int), 2, false, 12, [(7, 227), (1, 13), (7, 225), (7, 226)]), (⟨"TideDeskModel", "asks", "(II)I"⟩, prog_14_method_61_code, 7, (some .int), 2, false, 12, [(7, 231), (1, 13), (7, 230), (0, 48)]), (⟨"TideDeskModel", "joined", "(III)I"⟩, prog_14_method_60_code, 3, (some .int), 3, true, 12, [(7, 234), (1, 13), (7, 233), (7, 233)]), (⟨"TideDeskModel", "begins", "(I)V"⟩, prog_14_method_54_code, 2, none, 1, false, 12, [(7, 238), (1, 13), (7, 237), (0, 49)]), (⟨"TideDeskModel", "asksOne", "(II)I"⟩, prog_14_method_59_code, 3, (some .int), 2, false, 12, [(8, 2), (1, 13), (8, 1), (0, 50)]), (⟨"TideDeskModel", "needOf", "(I)V"⟩, prog_14_method_56_code, 3, none, 1, false, 12, [(8, 6), (1, 13), (8, 5), (0, 51)]), (⟨"TideDeskModel", "keelOf", "(I)V"⟩, prog_14_method_55_code, 3, none, 1, false, 12, [(8, 10), (1, 13), (8, 9), (0, 52)]), (⟨"TideDeskModel", "paceOf", "(I)I"⟩, prog_14_method_57_code, 2, (some .int), 1, false, 12, [(8, 14), (1, 13), (8, 13), (0, 53)]), (⟨"TideDeskModel", "patienceOf", "(I)V"⟩, prog_14_method_58_code, 2, none, 1, false, 12, [(8, 18), (1, 13), (8, 17), (0, 54)]), (⟨"TideDeskModel", "asked", "()I"⟩, prog_14_method_63_code, 1, (some .int), 0, false, 12, [(8, 22), (1, 13), (8, 20), (8, 21)]), (⟨"TideDeskModel", "trace", "(I)I"⟩, prog_14_method_64_code, 2, (some .int), 1, false, 12, [(8, 26), (1, 13), (8, 24), (8, 25)]), (⟨"TideDeskModel", "as", "(II)I"⟩, prog_14_method_66_code, 3, (some .int), 2, false, 12, [(8, 30), (1, 13), (8, 28), (8, 29)]), (⟨"TideDeskModel", "isOf", "(II)Z"⟩, prog_14_method_65_code, 4, (some .boolean), 2, false, 12, [(8, 34), (1, 13), (8, 33), (0, 55)]), (⟨"TideDeskModel", "fleet", "(III)I"⟩, prog_14_method_68_code, 5, (some .int), 3, false, 12, [(8, 38), (1, 13), (8, 36), (8, 37)]), (⟨"TideDeskModel", "isFleet", "(I)Z"⟩, prog_14_method_67_code, 1, (some .boolean), 1, true, 12, [(8, 41), (1, 13), (8, 40), (8, 40)]), (⟨"TideDeskModel", "join", "(III)I"⟩, prog_14_method_71_code, 5, (some .int), 3, false, 12, [(8, 45), (1, 13), (8, 43), (8, 44)]), (⟨"TideDeskModel", "stands", "(II)I"⟩, prog_14_method_69_code, 3, (some .int), 2, false, 12, [(8, 49), (1, 13), (8, 48), (0, 56)]), (⟨"TideDeskModel", "takes", "(II)Z"⟩, prog_14_method_70_code, 3, (some .boolean), 2, false, 12, [(8, 53), (1, 13), (8, 52), (0, 57)]), (⟨"TideDeskModel", "member", "(II)I"⟩, prog_14_method_72_code, 4, (some .int), 2, false, 12, [(8, 57), (1, 13), (8, 55), (8, 56)]), (⟨"TideDeskModel", "move", "(IIIII)I"⟩, prog_14_method_73_code, 7, (some .int), 5, false, 12, [(8, 61), (1, 13), (8, 59), (8, 60)]), (⟨"TideDeskModel", "shared", "(II)I"⟩, prog_14_method_74_code, 5, (some .int), 2, false, 12, [(8, 65), (1, 13), (8, 63), (8, 64)]), (⟨"TideDeskModel", "leg", "(IIII)I"⟩, prog_14_method_77_code, 7, (some .int), 4, false, 12, [(8, 70), (1, 13), (8, 68), (8, 69)])]
def MT7 : List Me := [(⟨"TideDeskModel", "isRoute", "(I)Z"⟩, prog_14_method_75_code, 1, (some .boolean), 1, true, 12, [(8, 73), (1, 13), (8, 72), (8, 72)]), (⟨"TideDeskModel", "isStarted", "(I)Z"⟩, prog_14_method_76_code, 4, (some .boolean), 1, false, 12, [(8, 78), (1, 13), (8, 77), (0, 58)]), (⟨"TideDeskModel", "clear", "(I)I"⟩, prog_14_method_78_code, 3, (some .int), 1, false, 12, [(8, 82), (1, 13), (8, 80), (8, 81)]), (⟨"TideDeskModel", "sun", "(II)I"⟩, prog_14_method_79_code, 3, (some .int), 2, false, 12, [(8, 86), (1, 13), (8, 84), (8, 85)]), (⟨"TideDeskModel", "comes", "(IIII)I"⟩, prog_14_method_81_code, 7, (some .int), 4, false, 12, [(8, 90), (1, 13), (8, 88), (8, 89)]), (⟨"TideDeskModel", "comesAt", "(III)I"⟩, prog_14_method_80_code, 3, (some .int), 3, true, 12, [(8, 93), (1, 13), (8, 92), (8, 92)]), (⟨"TideDeskModel", "holds", "(III)I"⟩, prog_14_method_85_code, 5, (some .int), 3, false, 12, [(8, 97), (1, 13), (8, 95), (8, 96)]), (⟨"TideDeskModel", "isMinute", "(I)Z"⟩, prog_14_method_84_code, 1, (some .boolean), 1, true, 12, [(8, 100), (1, 13), (8, 99), (8, 99)]), (⟨"TideDeskModel", "looks", "(III)I"⟩, prog_14_method_83_code, 10, (some .int), 3, false, 12, [(8, 105), (1, 13), (8, 104), (0, 59)]), (⟨"TideDeskModel", "passes", "(IIIZ)I"⟩, prog_14_method_82_code, 7, (some .int), 4, false, 12, [(8, 109), (1, 13), (8, 108), (0, 60)]), (⟨"TideDeskModel", "windows", "(IIII)I"⟩, prog_14_method_86_code, 8, (some .int), 4, false, 12, [(8, 113), (1, 13), (8, 111), (8, 112)]), (⟨"TideDeskModel", "window", "(IZ)I"⟩, prog_14_method_87_code, 3, (some .int), 2, false, 12, [(8, 118), (1, 13), (8, 116), (8, 117)]), (⟨"TideDeskModel", "wrong", "(I)I"⟩, prog_14_method_88_code, 2, (some .int), 1, false, 12, [(8, 122), (1, 13), (8, 120), (8, 121)]), (⟨"TideDeskModel", "passage", "(III)I"⟩, prog_14_method_89_code, 4, (some .int), 3, false, 12, [(8, 126), (1, 13), (8, 124), (8, 125)]), (⟨"TideDeskModel", "plan", "()I"⟩, prog_14_method_95_code, 5, (some .int), 0, false, 12, [(8, 130), (1, 13), (8, 128), (8, 129)]), (⟨"TideDeskModel", "plans", "(I)V"⟩, prog_14_method_94_code, 7, none, 1, false, 12, [(8, 134), (1, 13), (8, 133), (0, 61)]), (⟨"TideDeskModel", "isFree", "(I)Z"⟩, prog_14_method_93_code, 4, (some .boolean), 1, false, 12, [(8, 138), (1, 13), (8, 137), (0, 62)]), (⟨"TideDeskModel", "isWith", "(II)Z"⟩, prog_14_method_92_code, 13, (some .boolean), 2, false, 12, [(8, 142), (1, 13), (8, 141), (0, 63)]), (⟨"TideDeskModel", "comesTo", "(II)I"⟩, prog_14_method_91_code, 3, (some .int), 2, false, 12, [(8, 146), (1, 13), (8, 145), (0, 64)]), (⟨"TideDeskModel", "meet", "(IIII)Z"⟩, prog_14_method_90_code, 4, (some .boolean), 4, true, 12, [(8, 149), (1, 13), (8, 148), (8, 148)]), (⟨"TideDeskModel", "planned", "(II)I"⟩, prog_14_method_97_code, 3, (some .int), 2, false, 12, [(8, 153), (1, 13), (8, 151), (8, 152)]), (⟨"TideDeskModel", "isPassage", "(I)Z"⟩, prog_14_method_96_code, 2, (some .boolean), 1, false, 12, [(8, 157), (1, 13), (8, 156), (0, 65)]), (⟨"TideDeskModel", "again", "(I)I"⟩, prog_14_method_98_code, 2, (some .int), 1, false, 12, [(8, 161), (1, 13), (8, 159), (8, 160)]), (⟨"TideDeskModel", "pass", "(I)I"⟩, prog_14_method_100_code, 4, (some .int), 1, false, 12, [(8, 165), (1, 13), (8, 163), (8, 164)]), (⟨"TideDeskModel", "goes", "(II)I"⟩, prog_14_method_99_code, 7, (some .int), 2, false, 12, [(8, 169), (1, 13), (8, 168), (0, 66)]), (⟨"TideDeskModel", "tries", "()I"⟩, prog_14_method_101_code, 1, (some .int), 0, false, 12, [(8, 173), (1, 13), (8, 171), (8, 172)]), (⟨"TideDeskModel", "held", "(I)I"⟩, prog_14_method_102_code, 2, (some .int), 1, false, 12, [(8, 177), (1, 13), (8, 175), (8, 176)]), (⟨"TideDeskModel", "count", "(I)I"⟩, prog_14_method_103_code, 2, (some .int), 1, false, 12, [(8, 181), (1, 13), (8, 179), (8, 180)]), (⟨"TideDeskModel", "finding", "()I"⟩, prog_14_method_104_code, 1, (some .int), 0, false, 12, [(8, 185), (1, 13), (8, 183), (8, 184)]), (⟨"TideDeskModel", "digest", "()I"⟩, prog_14_method_105_code, 3, (some .int), 0, false, 12, [(8, 189), (1, 13), (8, 187), (8, 188)])]
def MT : List Me := MT0 ++ MT1 ++ MT2 ++ MT3 ++ MT4 ++ MT5 ++ MT6 ++ MT7
def plc (q : Me) (i : Nat) : Option Cond := match nth q.2.2.2.2.2.2.2 i with
  | some z => nth (tb z.1) z.2
  | none => none
def mw (q : Me) : List (Option Cond) := [plc q 0, plc q 1, plc q 2, plc q 3]
def mw' (q : Me) : List (Option Cond) := match q.2.2.2.2.2.1 with
  | true => [some (Cond.code q.1 q.2.1 q.2.2.1 q.2.2.2.1), some (Cond.initialized q.1.cls), some (Cond.static q.1), some (Cond.static q.1)]
  | false => [some (Cond.code q.1 q.2.1 q.2.2.1 q.2.2.2.1), some (Cond.initialized q.1.cls), some (Cond.instanceMethod q.1), some (Cond.selects q.1.cls q.1 q.1)]
def okM (q : Me) : Bool := decide (q.1.cls ≠ "java/lang/invoke/MethodHandle") && decide (q.1.cls ≠ "java/lang/invoke/VarHandle") && decide ((parseMethodDescriptor q.1.desc).map (fun d => d.parameters.length) = some q.2.2.2.2.1) && Nat.ble q.2.2.1 40 && plainFor q.1 && (match q.2.2.2.2.2.1 with
  | true => true
  | false => decide ((vwCl[q.2.2.2.2.2.2.1]?).map (fun z => z.1) = some q.1.cls))
set_option maxRecDepth 100000 in
theorem MT0_w : MT0.map mw = MT0.map mw' := rfl
theorem MT0_ok : MT0.all okM = true := by decide +kernel
set_option maxRecDepth 100000 in
theorem MT1_w : MT1.map mw = MT1.map mw' := rfl
theorem MT1_ok : MT1.all okM = true := by decide +kernel
set_option maxRecDepth 100000 in
theorem MT2_w : MT2.map mw = MT2.map mw' := rfl
theorem MT2_ok : MT2.all okM = true := by decide +kernel
set_option maxRecDepth 100000 in
theorem MT3_w : MT3.map mw = MT3.map mw' := rfl
theorem MT3_ok : MT3.all okM = true := by decide +kernel
set_option maxRecDepth 100000 in
theorem MT4_w : MT4.map mw = MT4.map mw' := rfl
theorem MT4_ok : MT4.all okM = true := by decide +kernel
set_option maxRecDepth 100000 in
theorem MT5_w : MT5.map mw = MT5.map mw' := rfl
theorem MT5_ok : MT5.all okM = true := by decide +kernel
set_option maxRecDepth 100000 in
theorem MT6_w : MT6.map mw = MT6.map mw' := rfl
theorem MT6_ok : MT6.all okM = true := by decide +kernel
set_option maxRecDepth 100000 in
theorem MT7_w : MT7.map mw = MT7.map mw' := rfl
theorem MT7_ok : MT7.all okM = true := by decide +kernel
theorem MT_ok : MT.all okM = true := by simp only [MT, List.all_append, MT0_ok, MT1_ok, MT2_ok, MT3_ok, MT4_ok, MT5_ok, MT6_ok, MT7_ok]; rfl
theorem MT_w : MT.map mw = MT.map mw' := by simp only [MT, List.map_append, MT0_w, MT1_w, MT2_w, MT3_w, MT4_w, MT5_w, MT6_w, MT7_w]
def cT (ci : Nat) : vw_C := match nth vwCl ci with
  | some z => z
  | none => (RX0, TX0, 0)
/-- a field that a pool names: place in the pool, kind, number, whether by the nest, where its word stands -/
abbrev Pf : Type := Nat × Nat × Nat × Bool × Nat × Nat
def wF (own : String) (q : Pf) : Cond := match q.2.2.2.1 with
  | true => .fieldLinkNest own q.1 ((cT q.2.1).2.1 q.2.2.1).1 ((cT q.2.1).2.1 q.2.2.1).2.1 ((cT q.2.1).2.1 q.2.2.1).2.2.1 "TideDesk"
  | false => .fieldLink own q.1 ((cT q.2.1).2.1 q.2.2.1).1 ((cT q.2.1).2.1 q.2.2.1).2.1 ((cT q.2.1).2.1 q.2.2.1).2.2.1
abbrev Pc : Type := Nat × Value × Nat × Nat
def wC (own : String) (q : Pc) : Cond := match q.2.1 with
  | .int x => .constant own q.1 x
  | .long x => .constantLong own q.1 x
  | .float x => .constantFloat own q.1 x
  | .double x => .constantDouble own q.1 x
  | _ => .initialized own
abbrev Pm : Type := Nat × Nat × Nat × Nat
def wM (own : String) (q : Pm) : Cond := match nth MT q.2.1 with
  | some z => .methodLink own q.1 z.1
  | none => .initialized own
def yN (t : Nat) : MethodName := match t with
  | 1 => ⟨"java/lang/Float", "intBitsToFloat", "(I)F"⟩
  | _ => ⟨"java/lang/Double", "doubleToRawLongBits", "(D)J"⟩
def wN (own : String) (q : Pm) : Cond := .methodLink own q.1 (yN q.2.1)
/-- a class's pool: fields, constants, methods, natives -/
abbrev Pl : Type := String × List Pf × List Pc × List Pm × List Pm
def PlOk (P : Pl) : Prop := P.2.1.map (fun q => nth (tb q.2.2.2.2.1) q.2.2.2.2.2) = P.2.1.map (fun q => some (wF P.1 q)) ∧ P.2.2.1.map (fun q => nth (tb q.2.2.1) q.2.2.2) = P.2.2.1.map (fun q => some (wC P.1 q)) ∧ P.2.2.2.1.map (fun q => nth (tb q.2.2.1) q.2.2.2) = P.2.2.2.1.map (fun q => some (wM P.1 q)) ∧ P.2.2.2.2.map (fun q => nth (tb q.2.2.1) q.2.2.2) = P.2.2.2.2.map (fun q => some (wN P.1 q))
set_option maxRecDepth 100000 in
theorem nat_ok : (Cond.native (yN 1) ∈ gt ∧ Cond.static (yN 1) ∈ gt ∧ Cond.initialized "java/lang/Float" ∈ gt) ∧ Cond.native (yN 2) ∈ gt ∧ Cond.static (yN 2) ∈ gt ∧ Cond.initialized "java/lang/Double" ∈ gt := ⟨⟨gt_in (t := 7) (o := 116) rfl rfl, gt_in (t := 7) (o := 115) rfl rfl, gt_in (t := 1) (o := 15) rfl rfl⟩, gt_in (t := 7) (o := 37) rfl rfl, gt_in (t := 7) (o := 36) rfl rfl, gt_in (t := 1) (o := 14) rfl rfl⟩
def P_X : Pl := ("TideDesk", [(39, 11, 0, false, 2, 219), (43, 11, 1, false, 2, 220), (47, 11, 2, false, 2, 221), (51, 11, 3, false, 2, 222), (55, 11, 4, false, 2, 223), (59, 11, 5, false, 2, 224), (68, 11, 6, false, 2, 225), (72, 11, 7, false, 2, 226), (76, 11, 8, false, 2, 227), (83, 11, 9, false, 2, 228), (92, 11, 10, false, 2, 229), (100, 11, 11, false, 2, 230), (157, 7, 4, true, 1, 51), (167, 2, 5, true, 1, 94), (173, 2, 4, true, 1, 92), (187, 2, 6, true, 1, 96), (191, 2, 7, true, 1, 98), (197, 2, 10, true, 1, 103), (200, 2, 11, true, 1, 105), (203, 9, 7, true, 1, 204), (209, 2, 13, true, 1, 108), (212, 11, 13, false, 2, 232), (246, 9, 1, true, 1, 193), (247, 9, 2, true, 1, 195), (250, 9, 3, true, 1, 197), (267, 9, 6, true, 1, 202), (282, 5, 8, true, 1, 239), (288, 5, 10, true, 2, 5), (291, 11, 12, false, 2, 231), (294, 5, 7, true, 1, 237), (300, 5, 3, true, 1, 232), (314, 1, 4, true, 2, 109), (344, 4, 0, true, 2, 38), (348, 8, 6, true, 2, 69), (351, 8, 7, true, 2, 71), (369, 10, 2, true, 2, 135), (371, 10, 1, true, 2, 133), (374, 10, 0, true, 2, 131), (377, 10, 3, true, 2, 137), (380, 10, 4, true, 2, 139), (394, 3, 10, true, 2, 173), (397, 3, 9, true, 2, 171), (400, 3, 8, true, 2, 169), (409, 3, 14, true, 2, 179), (412, 3, 15, true, 2, 181), (415, 3, 16, true, 2, 183), (418, 7, 9, true, 1, 57), (421, 2, 9, true, 1, 101), (422, 6, 8, true, 1, 161), (423, 6, 9, true, 1, 163), (426, 5, 9, true, 2, 1), (427, 3, 13, true, 2, 177), (428, 0, 0, true, 1, 32), (431, 0, 1, true, 1, 34)], [(111, .int (-100000), 3, 40), (116, .int 60000, 3, 49), (117, .int 65535, 3, 50), (144, .long 9221120237041090560, 3, 101), (180, .int 2143289344, 3, 149), (265, .int 2147483647, 3, 147), (266, .int 1101004800, 4, 83), (326, .int 1000000, 4, 231), (339, .int 50000, 5, 10), (347, .int 86400, 5, 27), (434, .int 2592000, 3, 29), (435, .int 43200, 5, 44), (436, .int 2139095040, 3, 148), (440, .long 1023, 3, 84), (442, .double 4611686018427387904, 3, 85), (444, .double 4602678819172646912, 3, 86), (446, .double 4841369599423283200, 3, 87), (448, .long (-9223372036854775808), 3, 88)], [(96, 1, 3, 26), (104, 3, 3, 34), (107, 4, 3, 37), (112, 5, 3, 41), (118, 7, 3, 51), (122, 9, 3, 59), (125, 10, 3, 62), (129, 12, 3, 70), (133, 13, 3, 81), (137, 15, 3, 93), (140, 16, 3, 97), (146, 17, 3, 102), (149, 18, 3, 107), (153, 19, 3, 111), (161, 22, 3, 128), (164, 24, 3, 136), (170, 25, 3, 140), (177, 26, 3, 144), (181, 27, 3, 150), (184, 30, 3, 162), (194, 33, 3, 174), (206, 37, 3, 188), (215, 39, 3, 200), (219, 42, 3, 213), (222, 43, 3, 216), (224, 46, 3, 228), (227, 47, 3, 232), (230, 49, 4, 0), (233, 51, 4, 10), (236, 53, 4, 20), (239, 56, 4, 35), (243, 57, 4, 41), (253, 62, 4, 61), (257, 63, 4, 65), (261, 65, 4, 73), (270, 68, 4, 88), (273, 73, 4, 107), (276, 76, 4, 118), (279, 78, 4, 126), (285, 79, 4, 130), (297, 85, 4, 181), (303, 93, 4, 186), (306, 94, 4, 189), (310, 96, 4, 197), (311, 97, 4, 201), (317, 100, 4, 214), (320, 101, 4, 218), (323, 102, 4, 222), (327, 104, 4, 232), (330, 106, 5, 0), (333, 107, 5, 3), (336, 108, 5, 6), (340, 109, 5, 11), (343, 110, 5, 15), (354, 114, 5, 32), (357, 116, 5, 41), (360, 117, 5, 45), (363, 120, 5, 67), (366, 121, 5, 71), (383, 125, 5, 87), (384, 128, 5, 99), (388, 129, 5, 103), (391, 136, 5, 136), (403, 126, 5, 144), (406, 139, 5, 149), (437, 34, 3, 177)], [])
set_option maxRecDepth 100000 in
theorem P_X_ok : PlOk P_X := ⟨rfl, rfl, rfl, rfl⟩
def P_Findings : Pl := ("TideDesk$Findings", [(9, 0, 0, false, 1, 31), (15, 0, 1, false, 1, 33)], [], [], [])
set_option maxRecDepth 100000 in
theorem P_Findings_ok : PlOk P_Findings := ⟨rfl, rfl, rfl, rfl⟩
def P_Fleets : Pl := ("TideDesk$Fleets", [(9, 1, 1, false, 2, 105), (15, 1, 2, false, 2, 106), (19, 1, 3, false, 2, 107), (22, 1, 4, false, 2, 108), (25, 1, 5, false, 2, 110), (28, 1, 0, false, 2, 104)], [], [(32, 85, 4, 205), (38, 97, 4, 226)], [])
set_option maxRecDepth 100000 in
theorem P_Fleets_ok : PlOk P_Fleets := ⟨rfl, rfl, rfl, rfl⟩
def P_Gauges : Pl := ("TideDesk$Gauges", [(9, 2, 1, false, 1, 87), (15, 2, 2, false, 1, 88), (18, 2, 3, false, 1, 89), (21, 2, 4, false, 1, 90), (25, 2, 5, false, 1, 93), (28, 2, 6, false, 1, 95), (32, 2, 7, false, 1, 97), (35, 2, 8, false, 1, 99), (39, 2, 10, false, 1, 102), (43, 2, 11, false, 1, 104), (46, 2, 0, false, 1, 86), (50, 2, 9, false, 1, 100), (57, 2, 12, false, 1, 106), (60, 2, 13, false, 1, 107), (79, 2, 14, false, 1, 109)], [(69, .double 4636737291354636288, 3, 194), (82, .double 4660134898793709568, 3, 204)], [(53, 25, 3, 192), (63, 17, 3, 193), (71, 19, 3, 195), (75, 38, 3, 196)], [])
set_option maxRecDepth 100000 in
theorem P_Gauges_ok : PlOk P_Gauges := ⟨rfl, rfl, rfl, rfl⟩
def P_Passages : Pl := ("TideDesk$Passages", [(9, 3, 5, false, 2, 165), (15, 3, 6, false, 2, 166), (18, 3, 7, false, 2, 167), (21, 3, 8, false, 2, 168), (24, 3, 9, false, 2, 170), (27, 3, 10, false, 2, 172), (31, 3, 11, false, 2, 174), (34, 3, 12, false, 2, 175), (37, 3, 0, false, 2, 160), (41, 3, 1, false, 2, 161), (45, 3, 2, false, 2, 162), (49, 3, 3, false, 2, 163), (53, 3, 4, false, 2, 164), (57, 3, 13, false, 2, 176), (71, 5, 10, true, 2, 4), (101, 8, 5, true, 2, 67), (106, 4, 0, true, 2, 37), (118, 4, 1, true, 2, 41), (121, 6, 3, true, 1, 155), (126, 3, 14, false, 2, 178), (129, 3, 16, false, 2, 182), (141, 3, 15, false, 2, 180)], [(80, .int 43200, 5, 109)], [(61, 126, 5, 91), (65, 79, 5, 107), (74, 18, 5, 108), (81, 83, 5, 110), (87, 117, 5, 111), (93, 130, 5, 112), (97, 134, 5, 128), (102, 131, 5, 116), (111, 132, 5, 120), (115, 133, 5, 124), (132, 140, 5, 153), (135, 141, 5, 157), (138, 142, 5, 161)], [])
set_option maxRecDepth 100000 in
theorem P_Passages_ok : PlOk P_Passages := ⟨rfl, rfl, rfl, rfl⟩
def P_Routes : Pl := ("TideDesk$Routes", [(9, 4, 0, false, 2, 35), (15, 4, 1, false, 2, 39), (18, 4, 2, false, 2, 42), (21, 4, 3, false, 2, 43)], [(24, .int 2592000, 5, 36)], [], [])
set_option maxRecDepth 100000 in
theorem P_Routes_ok : PlOk P_Routes := ⟨rfl, rfl, rfl, rfl⟩
def P_Ships : Pl := ("TideDesk$Ships", [(9, 5, 0, false, 1, 228), (15, 5, 1, false, 1, 229), (18, 5, 2, false, 1, 230), (21, 5, 3, false, 1, 231), (24, 5, 4, false, 1, 233), (27, 5, 5, false, 1, 234), (30, 5, 6, false, 1, 235), (33, 5, 7, false, 1, 236), (46, 5, 9, false, 2, 0), (50, 5, 10, false, 2, 3), (86, 5, 8, false, 1, 238)], [], [(36, 74, 4, 111), (40, 75, 4, 115), (53, 80, 4, 134), (57, 84, 4, 149), (60, 86, 4, 157), (63, 87, 4, 161), (66, 88, 4, 165), (69, 82, 4, 141), (73, 81, 4, 138), (76, 79, 4, 145), (79, 83, 4, 146), (82, 85, 4, 153)], [])
set_option maxRecDepth 100000 in
theorem P_Ships_ok : PlOk P_Ships := ⟨rfl, rfl, rfl, rfl⟩
def P_Shoals : Pl := ("TideDesk$Shoals", [(9, 6, 2, false, 1, 152), (15, 6, 3, false, 1, 154), (18, 6, 4, false, 1, 156), (21, 6, 5, false, 1, 157), (24, 6, 6, false, 1, 158), (27, 6, 7, false, 1, 159), (30, 6, 0, false, 1, 150), (34, 6, 1, false, 1, 151), (38, 6, 8, false, 1, 160), (46, 6, 9, false, 1, 162), (74, 2, 4, true, 1, 91)], [(49, .int 86400, 4, 8), (59, .double 4636737291354636288, 4, 14)], [(42, 44, 3, 220), (50, 50, 4, 4), (54, 17, 4, 9), (61, 19, 4, 15), (65, 51, 4, 24), (68, 54, 4, 25), (78, 37, 4, 29), (81, 39, 4, 30)], [])
set_option maxRecDepth 100000 in
theorem P_Shoals_ok : PlOk P_Shoals := ⟨rfl, rfl, rfl, rfl⟩
def P_Surveys : Pl := ("TideDesk$Surveys", [(9, 7, 0, false, 1, 46), (15, 7, 1, false, 1, 47), (18, 7, 2, false, 1, 48), (21, 7, 3, false, 1, 49), (24, 7, 4, false, 1, 50), (27, 7, 5, false, 1, 52), (30, 7, 6, false, 1, 53), (33, 7, 7, false, 1, 54), (36, 7, 8, false, 1, 55), (39, 7, 9, false, 1, 56)], [(43, .int 86400, 3, 106), (48, .double 4636737291354636288, 3, 116), (50, .long 1000, 3, 117), (52, .double 4652007308841189376, 3, 118), (58, .long 65535, 3, 73), (60, .int 32768, 3, 74), (61, .int 65536, 3, 75), (62, .double 4670232813583204352, 3, 76), (64, .double 4608234912510526942, 3, 77), (66, .double 4598241323522939587, 3, 78), (68, .double 4581670710316679173, 3, 79), (70, .double 4561617902785116854, 3, 80)], [(44, 17, 3, 115), (54, 12, 3, 119)], [])
set_option maxRecDepth 100000 in
theorem P_Surveys_ok : PlOk P_Surveys := ⟨rfl, rfl, rfl, rfl⟩
def P_Voyages : Pl := ("TideDesk$Voyages", [(9, 8, 5, false, 2, 66), (15, 8, 6, false, 2, 68), (20, 8, 7, false, 2, 70), (23, 8, 0, false, 2, 61), (27, 8, 1, false, 2, 62), (31, 8, 2, false, 2, 63), (35, 8, 3, false, 2, 64), (39, 8, 4, false, 2, 65), (49, 8, 8, false, 2, 72), (52, 5, 10, true, 2, 2), (55, 8, 9, false, 2, 73), (58, 8, 10, false, 2, 74), (68, 4, 0, true, 2, 36), (80, 4, 1, true, 2, 40), (95, 4, 3, true, 2, 44), (99, 6, 2, true, 1, 153), (108, 9, 6, true, 1, 201)], [(79, .int 86400, 5, 56), (93, .double 4636737291354636288, 5, 59), (98, .int 2143289344, 5, 60), (111, .int 2147483647, 5, 62)], [(43, 79, 5, 49), (62, 18, 5, 50), (73, 114, 5, 51), (76, 118, 5, 52), (83, 49, 5, 57), (89, 53, 5, 58), (102, 68, 5, 61)], [])
set_option maxRecDepth 100000 in
theorem P_Voyages_ok : PlOk P_Voyages := ⟨rfl, rfl, rfl, rfl⟩
def P_Waters : Pl := ("TideDesk$Waters", [(9, 9, 1, false, 1, 192), (15, 9, 2, false, 1, 194), (18, 9, 3, false, 1, 196), (22, 9, 4, false, 1, 198), (26, 9, 5, false, 1, 199), (32, 9, 7, false, 1, 203), (36, 9, 0, false, 1, 191)], [(75, .int 2592000, 4, 96)], [(40, 17, 4, 39), (46, 19, 4, 40), (50, 58, 4, 45), (54, 59, 4, 49), (58, 62, 4, 77), (62, 63, 4, 78), (66, 69, 4, 92), (70, 71, 4, 100), (76, 70, 4, 97)], [])
set_option maxRecDepth 100000 in
theorem P_Waters_ok : PlOk P_Waters := ⟨rfl, rfl, rfl, rfl⟩
def P_Windows : Pl := ("TideDesk$Windows", [(9, 10, 0, false, 2, 130), (15, 10, 1, false, 2, 132), (18, 10, 2, false, 2, 134), (22, 10, 3, false, 2, 136), (25, 10, 4, false, 2, 138), (28, 10, 5, false, 2, 140)], [], [], [])
set_option maxRecDepth 100000 in
theorem P_Windows_ok : PlOk P_Windows := ⟨rfl, rfl, rfl, rfl⟩
def P_M : Pl := ("TideDeskModel", [(7, 12, 3, false, 5, 195), (13, 12, 4, false, 5, 196), (16, 12, 5, false, 5, 197), (19, 12, 6, false, 5, 198), (22, 12, 7, false, 5, 199), (25, 12, 9, false, 5, 201), (28, 12, 10, false, 5, 202), (31, 12, 11, false, 5, 203), (34, 12, 12, false, 5, 204), (37, 12, 13, false, 5, 205), (40, 12, 14, false, 5, 206), (43, 12, 15, false, 5, 207), (46, 12, 16, false, 5, 208), (49, 12, 19, false, 5, 211), (52, 12, 20, false, 5, 212), (55, 12, 21, false, 5, 213), (58, 12, 22, false, 5, 214), (62, 12, 23, false, 5, 215), (65, 12, 24, false, 5, 216), (68, 12, 25, false, 5, 217), (71, 12, 26, false, 5, 218), (75, 12, 27, false, 5, 219), (78, 12, 28, false, 5, 220), (81, 12, 30, false, 5, 222), (85, 12, 34, false, 5, 226), (88, 12, 35, false, 5, 227), (91, 12, 38, false, 5, 230), (94, 12, 39, false, 5, 231), (97, 12, 40, false, 5, 232), (100, 12, 41, false, 5, 233), (103, 12, 42, false, 5, 234), (106, 12, 43, false, 5, 235), (109, 12, 44, false, 5, 236), (112, 12, 45, false, 5, 237), (115, 12, 46, false, 5, 238), (118, 12, 47, false, 5, 239), (121, 12, 50, false, 6, 2), (124, 12, 51, false, 6, 3), (127, 12, 52, false, 6, 4), (130, 12, 53, false, 6, 5), (133, 12, 54, false, 6, 6), (136, 12, 55, false, 6, 7), (139, 12, 58, false, 6, 10), (142, 12, 59, false, 6, 11), (145, 12, 60, false, 6, 12), (148, 12, 61, false, 6, 13), (151, 12, 63, false, 6, 15), (154, 12, 64, false, 6, 16), (157, 12, 65, false, 6, 17), (160, 12, 66, false, 6, 18), (163, 12, 67, false, 6, 19), (166, 12, 68, false, 6, 20), (169, 12, 69, false, 6, 21), (172, 12, 70, false, 6, 22), (175, 12, 71, false, 6, 23), (179, 12, 72, false, 6, 24), (182, 12, 74, false, 6, 26), (185, 12, 75, false, 6, 27), (188, 12, 79, false, 6, 31), (191, 12, 80, false, 6, 32), (194, 12, 81, false, 6, 33), (197, 12, 82, false, 6, 34), (200, 12, 83, false, 6, 35), (203, 12, 84, false, 6, 36), (206, 12, 85, false, 6, 37), (209, 12, 86, false, 6, 38), (212, 12, 90, false, 6, 42), (220, 12, 2, false, 5, 194), (223, 12, 1, false, 5, 193), (230, 12, 0, false, 5, 192), (239, 12, 8, false, 5, 200), (275, 12, 17, false, 5, 209), (296, 12, 18, false, 5, 210), (321, 12, 32, false, 5, 224), (326, 12, 31, false, 5, 223), (332, 12, 29, false, 5, 221), (335, 12, 33, false, 5, 225), (338, 12, 37, false, 5, 229), (348, 12, 36, false, 5, 228), (373, 12, 48, false, 6, 0), (378, 12, 49, false, 6, 1), (387, 12, 57, false, 6, 9), (394, 12, 62, false, 6, 14), (418, 12, 56, false, 6, 8), (434, 12, 78, false, 6, 30), (447, 12, 87, false, 6, 39), (461, 12, 73, false, 6, 25), (464, 12, 76, false, 6, 28), (467, 12, 77, false, 6, 29), (489, 12, 89, false, 6, 41), (492, 12, 88, false, 6, 40)], [(215, .int 2591999, 6, 233), (236, .int (-100000), 7, 4), (237, .int 60000, 7, 9), (238, .int 65535, 7, 10), (242, .int 65536, 7, 22), (243, .int 32768, 7, 23), (244, .double 4670232813583204352, 7, 24), (246, .double 4608234912510526942, 7, 25), (248, .double 4598241323522939587, 7, 26), (250, .double 4581670710316679173, 7, 27), (252, .double 4561617902785116854, 7, 28), (264, .int 86400, 7, 60), (269, .double 4636737291354636288, 7, 61), (271, .long 1000, 7, 62), (273, .double 4652007308841189376, 7, 63), (287, .long 9221120237041090560, 7, 51), (299, .int 2147483647, 7, 91), (300, .int 2139095040, 7, 92), (311, .int 2143289344, 7, 93), (324, .double 4660134898793709568, 7, 129), (371, .float 3248488448, 7, 202), (372, .float 1101004800, 7, 203), (433, .int 1000000, 8, 66), (440, .int 50000, 8, 74), (453, .int 43199, 8, 101), (460, .int 43200, 8, 114)], [(216, 150, 6, 234), (226, 149, 6, 230), (233, 152, 7, 1), (254, 156, 7, 19), (258, 157, 7, 29), (265, 163, 7, 56), (279, 160, 7, 43), (283, 161, 7, 47), (289, 162, 7, 52), (292, 164, 7, 64), (301, 168, 7, 80), (304, 169, 7, 84), (308, 170, 7, 88), (312, 173, 7, 102), (329, 178, 7, 125), (341, 181, 7, 138), (345, 183, 7, 146), (351, 185, 7, 154), (354, 187, 7, 162), (357, 189, 7, 170), (361, 190, 7, 174), (365, 193, 7, 186), (368, 194, 7, 190), (376, 198, 7, 208), (381, 201, 7, 220), (384, 200, 7, 216), (390, 205, 7, 235), (397, 208, 8, 7), (400, 207, 8, 3), (403, 209, 8, 11), (406, 210, 8, 15), (409, 204, 7, 232), (412, 206, 7, 239), (415, 203, 7, 228), (421, 214, 8, 31), (424, 216, 8, 39), (427, 218, 8, 46), (430, 219, 8, 50), (437, 224, 8, 71), (441, 225, 8, 75), (444, 229, 8, 91), (450, 233, 8, 106), (454, 231, 8, 98), (457, 232, 8, 102), (470, 242, 8, 143), (473, 243, 8, 147), (477, 241, 8, 139), (480, 240, 8, 135), (483, 239, 8, 131), (486, 245, 8, 154), (495, 248, 8, 166)], [(315, 1, 7, 114)])
set_option maxRecDepth 100000 in
theorem P_M_ok : PlOk P_M := ⟨rfl, rfl, rfl, rfl⟩
def P_Double : Pl := ("java/lang/Double", [], [(137, .long 9221120237041090560, 7, 38)], [(122, 158, 7, 32)], [(134, 2, 7, 35)])
set_option maxRecDepth 100000 in
theorem P_Double_ok : PlOk P_Double := ⟨rfl, rfl, rfl, rfl⟩
def P_Math : Pl := ("java/lang/Math", [], [], [], [])
set_option maxRecDepth 100000 in
theorem P_Math_ok : PlOk P_Math := ⟨rfl, rfl, rfl, rfl⟩
def P_L : Pl := ("TideDeskLaw", [], [], [(13, 0, 3, 22), (17, 148, 6, 226), (18, 2, 3, 30), (22, 151, 6, 237), (23, 6, 3, 45), (27, 153, 7, 5), (28, 8, 3, 55), (31, 154, 7, 11), (32, 11, 3, 66), (36, 155, 7, 15), (37, 14, 3, 89), (41, 159, 7, 39), (42, 20, 3, 120), (46, 165, 7, 68), (47, 21, 3, 124), (50, 166, 7, 72), (51, 23, 3, 132), (54, 167, 7, 76), (55, 28, 3, 154), (59, 171, 7, 94), (60, 29, 3, 158), (63, 172, 7, 98), (64, 31, 3, 166), (67, 174, 7, 106), (68, 32, 3, 170), (71, 175, 7, 110), (72, 35, 3, 180), (75, 176, 7, 117), (76, 36, 3, 184), (80, 177, 7, 121), (81, 40, 3, 205), (85, 179, 7, 130), (86, 41, 3, 209), (89, 180, 7, 134), (90, 45, 3, 224), (93, 182, 7, 142), (94, 48, 3, 236), (97, 184, 7, 150), (98, 52, 4, 16), (101, 186, 7, 158), (102, 55, 4, 31), (105, 188, 7, 166), (106, 60, 4, 53), (109, 191, 7, 178), (110, 61, 4, 57), (113, 192, 7, 182), (114, 64, 4, 69), (117, 195, 7, 194), (118, 66, 4, 79), (121, 196, 7, 198), (122, 67, 4, 84), (125, 197, 7, 204), (126, 72, 4, 103), (130, 199, 7, 212), (131, 77, 4, 122), (134, 202, 7, 224), (135, 89, 4, 169), (138, 211, 8, 19), (139, 90, 4, 173), (142, 212, 8, 23), (143, 91, 4, 177), (146, 213, 8, 27), (147, 92, 4, 182), (150, 215, 8, 35), (151, 95, 4, 193), (154, 217, 8, 42), (155, 98, 4, 206), (158, 220, 8, 54), (159, 99, 4, 210), (163, 221, 8, 58), (164, 103, 4, 227), (167, 222, 8, 62), (168, 105, 4, 236), (171, 223, 8, 67), (172, 111, 5, 19), (175, 226, 8, 79), (176, 112, 5, 23), (179, 227, 8, 83), (180, 113, 5, 28), (183, 228, 8, 87), (184, 115, 5, 37), (187, 230, 8, 94), (188, 119, 5, 63), (191, 234, 8, 110), (192, 122, 5, 75), (195, 235, 8, 115), (196, 123, 5, 79), (199, 236, 8, 119), (200, 124, 5, 83), (203, 237, 8, 123), (204, 127, 5, 95), (207, 238, 8, 127), (208, 135, 5, 132), (211, 244, 8, 150), (212, 137, 5, 140), (215, 246, 8, 158), (216, 138, 5, 145), (219, 247, 8, 162), (220, 143, 5, 165), (223, 249, 8, 170), (224, 144, 5, 169), (227, 250, 8, 174), (228, 145, 5, 173), (231, 251, 8, 178), (232, 146, 5, 177), (235, 252, 8, 182), (236, 147, 5, 181), (239, 253, 8, 186)], [])
set_option maxRecDepth 100000 in
theorem P_L_ok : PlOk P_L := ⟨rfl, rfl, rfl, rfl⟩
def clOk (q : vw_C) : Prop := (∀ w ∈ u_ws q.1 q.2.1 q.2.2, w ∈ gt) ∧ (∃ ty0 : Nat → FieldType, ∀ k, k < q.2.2 → parseFieldDescriptor (q.2.1 k).2.2.1 = some (ty0 k)) ∧ (∀ a, a < q.2.2 → ∀ b, b < q.2.2 → a ≠ b → (q.2.1 a).2.1 ≠ (q.2.1 b).2.1)
theorem lays_in (C : String) (T : u_T) (N : Nat) (ps : List (Nat × Nat)) (h : ps.map (fun q => nth (tb q.1) q.2) = (u_ws C T N).map some) : ∀ w ∈ u_ws C T N, w ∈ gt := by
  intro w hw
  have h1 : some w ∈ ps.map (fun q => nth (tb q.1) q.2) := by rw [h]; exact List.mem_map.mpr ⟨w, hw, rfl⟩
  obtain ⟨q, -, hq⟩ := List.mem_map.mp h1
  refine gt_in hq ?_
  unfold u_ws at hw
  obtain ⟨k, -, rfl⟩ := List.mem_map.mp hw
  unfold u_lay
  split <;> rfl
set_option maxRecDepth 100000 in
theorem clOk_0 : clOk (RX0, TX0, 2) := ⟨lays_in _ _ _ [(1, 35), (1, 37)] rfl, ⟨tyX0, tyX0_ok⟩, nmX0⟩
set_option maxRecDepth 100000 in
theorem clOk_1 : clOk (RX1, TX1, 6) := ⟨lays_in _ _ _ [(2, 111), (2, 113), (2, 115), (2, 117), (2, 119), (2, 121)] rfl, ⟨tyX1, tyX1_ok⟩, nmX1⟩
set_option maxRecDepth 100000 in
theorem clOk_2 : clOk (RX2, TX2, 15) := ⟨lays_in _ _ _ [(1, 110), (1, 112), (1, 114), (1, 116), (1, 118), (1, 120), (1, 122), (1, 124), (1, 126), (1, 128), (1, 130), (1, 132), (1, 134), (1, 136), (1, 138)] rfl, ⟨tyX2, tyX2_ok⟩, nmX2⟩
set_option maxRecDepth 100000 in
theorem clOk_3 : clOk (RX3, TX3, 17) := ⟨lays_in _ _ _ [(2, 184), (2, 186), (2, 188), (2, 190), (2, 192), (2, 194), (2, 196), (2, 198), (2, 200), (2, 202), (2, 204), (2, 206), (2, 208), (2, 210), (2, 212), (2, 214), (2, 216)] rfl, ⟨tyX3, tyX3_ok⟩, nmX3⟩
set_option maxRecDepth 100000 in
theorem clOk_4 : clOk (RX4, TX4, 4) := ⟨lays_in _ _ _ [(2, 45), (2, 47), (2, 49), (2, 51)] rfl, ⟨tyX4, tyX4_ok⟩, nmX4⟩
set_option maxRecDepth 100000 in
theorem clOk_5 : clOk (RX5, TX5, 11) := ⟨lays_in _ _ _ [(2, 6), (2, 8), (2, 10), (2, 12), (2, 14), (2, 16), (2, 18), (2, 20), (2, 22), (2, 24), (2, 26)] rfl, ⟨tyX5, tyX5_ok⟩, nmX5⟩
set_option maxRecDepth 100000 in
theorem clOk_6 : clOk (RX6, TX6, 10) := ⟨lays_in _ _ _ [(1, 164), (1, 166), (1, 168), (1, 170), (1, 172), (1, 174), (1, 176), (1, 178), (1, 180), (1, 182)] rfl, ⟨tyX6, tyX6_ok⟩, nmX6⟩
set_option maxRecDepth 100000 in
theorem clOk_7 : clOk (RX7, TX7, 10) := ⟨lays_in _ _ _ [(1, 58), (1, 60), (1, 62), (1, 64), (1, 66), (1, 68), (1, 70), (1, 72), (1, 74), (1, 76)] rfl, ⟨tyX7, tyX7_ok⟩, nmX7⟩
set_option maxRecDepth 100000 in
theorem clOk_8 : clOk (RX8, TX8, 11) := ⟨lays_in _ _ _ [(2, 75), (2, 77), (2, 79), (2, 81), (2, 83), (2, 85), (2, 87), (2, 89), (2, 91), (2, 93), (2, 95)] rfl, ⟨tyX8, tyX8_ok⟩, nmX8⟩
set_option maxRecDepth 100000 in
theorem clOk_9 : clOk (RX9, TX9, 8) := ⟨lays_in _ _ _ [(1, 205), (1, 207), (1, 209), (1, 211), (1, 213), (1, 215), (1, 217), (1, 219)] rfl, ⟨tyX9, tyX9_ok⟩, nmX9⟩
set_option maxRecDepth 100000 in
theorem clOk_10 : clOk (RX10, TX10, 6) := ⟨lays_in _ _ _ [(2, 141), (2, 143), (2, 145), (2, 147), (2, 149), (2, 151)] rfl, ⟨tyX10, tyX10_ok⟩, nmX10⟩
set_option maxRecDepth 100000 in
theorem clOk_11 : clOk (RX11, TX11, 14) := ⟨lays_in _ _ _ [(2, 233), (2, 235), (2, 237), (2, 239), (3, 1), (3, 3), (3, 5), (3, 7), (3, 9), (3, 11), (3, 13), (3, 15), (3, 17), (3, 19)] rfl, ⟨tyX11, tyX11_ok⟩, nmX11⟩
set_option maxRecDepth 100000 in
theorem clOk_12 : clOk (RX12, TX12, 91) := ⟨lays_in _ _ _ [(6, 43), (6, 45), (6, 47), (6, 49), (6, 51), (6, 53), (6, 55), (6, 57), (6, 59), (6, 61), (6, 63), (6, 65), (6, 67), (6, 69), (6, 71), (6, 73), (6, 75), (6, 77), (6, 79), (6, 81), (6, 83), (6, 85), (6, 87), (6, 89), (6, 91), (6, 93), (6, 95), (6, 97), (6, 99), (6, 101), (6, 103), (6, 105), (6, 107), (6, 109), (6, 111), (6, 113), (6, 115), (6, 117), (6, 119), (6, 121), (6, 123), (6, 125), (6, 127), (6, 129), (6, 131), (6, 133), (6, 135), (6, 137), (6, 139), (6, 141), (6, 143), (6, 145), (6, 147), (6, 149), (6, 151), (6, 153), (6, 155), (6, 157), (6, 159), (6, 161), (6, 163), (6, 165), (6, 167), (6, 169), (6, 171), (6, 173), (6, 175), (6, 177), (6, 179), (6, 181), (6, 183), (6, 185), (6, 187), (6, 189), (6, 191), (6, 193), (6, 195), (6, 197), (6, 199), (6, 201), (6, 203), (6, 205), (6, 207), (6, 209), (6, 211), (6, 213), (6, 215), (6, 217), (6, 219), (6, 221), (6, 223)] rfl, ⟨tyX12, tyX12_ok⟩, nmX12⟩
theorem vw_ok : ∀ q ∈ vwCl, clOk q := by
  intro q hq
  simp only [vwCl, List.mem_cons, List.not_mem_nil, or_false] at hq
  rcases hq with rfl | rfl | rfl | rfl | rfl | rfl | rfl | rfl | rfl | rfl | rfl | rfl | rfl
  · exact clOk_0
  · exact clOk_1
  · exact clOk_2
  · exact clOk_3
  · exact clOk_4
  · exact clOk_5
  · exact clOk_6
  · exact clOk_7
  · exact clOk_8
  · exact clOk_9
  · exact clOk_10
  · exact clOk_11
  · exact clOk_12
end
section
/-- the kinds of rows that the cells have -/
def tysOf (dA : Nat → ClassId) : List (ClassId × FieldType) := [(dA 0, .int), (dA 1, .boolean), (dA 2, .short), (dA 3, .double)]
/-- links to fields of nest mates -/
def NwOk (U : State) : Prop := ∀ (a : String) (i : Nat) (b n d h : String), Cond.fieldLinkNest a i b n d h ∈ lw_tbl → va_Nw (.fieldLinkNest a i b n d h) U
theorem NwOk.warm {s U : State} (hW : s.WarmedH U.vm) (h : NwOk s) : NwOk U := fun a i b n d x hm => va_Nw.warmF hW (h a i b n d x hm)
theorem NwOk.same {s U : State} (hW : s.vm = U.vm) (h : NwOk s) : NwOk U := fun a i b n d x hm => va_Nw.same rfl hW (h a i b n d x hm)
section RW
variable {p : Program} {l : Launch} {e : Env} {R : Room} {s : State} {m : MethodId} {args : Array Value} {below : List Frame} {meth : Method} {c : Code} {cells slots : Nat} {Q : State → Prop}
variable {ad : Nat → Nat} {dA : Nat → ClassId} {G : va_G} {A : Nat → Prop} {SH : List Sh} {H0 : Heap} {nL : Nat} {cc : ByteArray} {own : String} {d : Nat} {SC : Option (Nat × (Nat → Int32))}
/-- the machine at a place of the method, over any heap that holds the cells' contents -/
def AtM (p : Program) (l : Launch) (e : Env) (R : Room) (s : State) (m : MethodId) (args : Array Value) (below : List Frame) (meth : Method) (c : Code) (cells slots : Nat) (Q : State → Prop) (ad : Nat → Nat) (dA : Nat → ClassId) (G : va_G) (A : Nat → Prop) (SH : List Sh) (H0 : Heap) (nL : Nat) : Kt := fun pc lv st I D =>
  ∀ (H : Heap) (locs : List Loc) (ls : Array Slot), lv_has ls nL (lv.map (cq ad)) → va_P G vwCl (wld ad dA I D 0 SH) H → va_S A H0 H locs → W p l e R s m args below meth c H locs cells slots Q (F0 m pc ls (st.map (cv ad)))
/-- what holds all through a method -/
def Bd (p : Program) (R : Room) (s : State) (m : MethodId) (args : Array Value) (c : Code) (cells slots : Nat) (ad : Nat → Nat) (dA : Nat → ClassId) (G : va_G) (A : Nat → Prop) (SH : List Sh) (H0 : Heap) (nL : Nat) (cc : ByteArray) (own : String) (d : Nat) (SC : Option (Nat × (Nat → Int32))) : Prop :=
  p.tables.exec = Jvm.exec ∧ c.code = cc ∧ c.maxLocals = nL ∧ s.vm.findClass own = some m.cls ∧ (∀ w ∈ gt, w.before args s = true) ∧ va_K G vwCl (tysOf dA) s ∧ (∀ I D, va_D A (wld ad dA I D 0 SH)) ∧
  (∀ q, SC = some q → va_X (ad 999) q.1 q.2 s H0 ∧ ad 999 < H0.size ∧ ¬ A (ad 999)) ∧ (d + 1 ≤ R.frames ∧ 64 * (d + 1) ≤ R.locals ∧ cells ≤ R.cells ∧ slots ≤ R.slots) ∧ NwOk s
abbrev BdX (p : Program) (R : Room) (s : State) (m : MethodId) (args : Array Value) (c : Code) (cells slots : Nat) (ad : Nat → Nat) (dA : Nat → ClassId) (G : va_G) (A : Nat → Prop) (SH : List Sh) (H0 : Heap) (nL : Nat) (cc : ByteArray) (own : String) (d : Nat) (SC : Option (Nat × (Nat → Int32))) : Prop := Bd p R s m args c cells slots ad dA G A SH H0 nL cc own d SC
theorem lv_in {ls : Array Slot} {lv : Lv} {i : Nat} {w : Value} (hl : lv_has ls nL (lv.map (cq ad))) (h : (i, w) ∈ lv) : ls[i]? = some (.val (cv ad w)) :=
  hl.2.2 (i, cv ad w) (List.mem_map.mpr ⟨(i, w), h, rfl⟩)
theorem fl1_map (i : Nat) (lv : Lv) : (lv.map (cq ad)).filter (fun q => !(q.1 == i) && !(q.1 + 1 == i && q.2.category == 2)) = (lv.filter (fun q => !(q.1 == i) && !(q.1 + 1 == i && q.2.category == 2))).map (cq ad) := by
  rw [List.filter_map]
  congr 1
  apply List.filter_congr
  intro q _
  simp [cq, cv_cat]
theorem fl2_map (i : Nat) (lv : Lv) : (lv.map (cq ad)).filter (fun q => !(q.1 == i) && (!(q.1 == i + 1) && !(q.1 + 1 == i && q.2.category == 2))) = (lv.filter (fun q => !(q.1 == i) && (!(q.1 == i + 1) && !(q.1 + 1 == i && q.2.category == 2)))).map (cq ad) := by
  rw [List.filter_map]
  congr 1
  apply List.filter_congr
  intro q _
  simp [cq, cv_cat]
theorem AtM.pick {K : Kt} {is : List Nat} {pc : Nat} {lv : Lv} {st : List Value} {I : MI} {D : MD} (hK : ∀ pc lv st I D, K pc lv st I D → AtM p l e R s m args below meth c cells slots Q ad dA G A SH H0 nL pc lv st I D)
    (h : pick is lv (fun lv' => K pc lv' st I D)) : AtM p l e R s m args below meth c cells slots Q ad dA G A SH H0 nL pc lv st I D := by
  obtain ⟨lv', h1, h2⟩ := pick_e h
  intro H locs ls hl hP hS
  refine hK _ _ _ _ _ h1 H locs ls ⟨hl.1, hl.2.1, fun q hq => ?_⟩ hP hS
  obtain ⟨z, hz, rfl⟩ := List.mem_map.mp hq
  exact hl.2.2 _ (List.mem_map.mpr ⟨z, h2 z hz, rfl⟩)
variable {pc : Nat} {lv : Lv} {st : List Value} {I : MI} {D : MD} {k : Nt} {a b : Nat} {v : Value}
-- constants
theorem x_iconst {n : Int} {x : Int32} (B : BdX p R s m args c cells slots ad dA G A SH H0 nL cc own d SC) (hd : decode cc pc = .ok (.iconst n, 1)) (hv : Int32.ofInt n = x) (h : AtM p l e R s m args below meth c cells slots Q ad dA G A SH H0 nL (pc + 1) lv (.int x :: st) I D) : AtM p l e R s m args below meth c cells slots Q ad dA G A SH H0 nL pc lv st I D :=
  fun H locs ls hl hP hS => lv_iconst B.1 B.2.1 hd hv (h H locs ls hl hP hS)
theorem x_bipush {n : Int} {x : Int32} (B : BdX p R s m args c cells slots ad dA G A SH H0 nL cc own d SC) (hd : decode cc pc = .ok (.bipush n, 2)) (hv : (Int8.ofInt n).toInt32 = x) (h : AtM p l e R s m args below meth c cells slots Q ad dA G A SH H0 nL (pc + 2) lv (.int x :: st) I D) : AtM p l e R s m args below meth c cells slots Q ad dA G A SH H0 nL pc lv st I D :=
  fun H locs ls hl hP hS => lv_bipush B.1 B.2.1 hd hv (h H locs ls hl hP hS)
theorem x_sipush {n : Int} {x : Int32} (B : BdX p R s m args c cells slots ad dA G A SH H0 nL cc own d SC) (hd : decode cc pc = .ok (.sipush n, 3)) (hv : (Int16.ofInt n).toInt32 = x) (h : AtM p l e R s m args below meth c cells slots Q ad dA G A SH H0 nL (pc + 3) lv (.int x :: st) I D) : AtM p l e R s m args below meth c cells slots Q ad dA G A SH H0 nL pc lv st I D :=
  fun H locs ls hl hP hS => lv_sipush B.1 B.2.1 hd hv (h H locs ls hl hP hS)
theorem x_lconst {n : Fin 2} {x : Int64} (B : BdX p R s m args c cells slots ad dA G A SH H0 nL cc own d SC) (hd : decode cc pc = .ok (.lconst n, 1)) (hv : Int64.ofNat (n : Nat) = x) (h : AtM p l e R s m args below meth c cells slots Q ad dA G A SH H0 nL (pc + 1) lv (.long x :: st) I D) : AtM p l e R s m args below meth c cells slots Q ad dA G A SH H0 nL pc lv st I D :=
  fun H locs ls hl hP hS => lv_lconst B.1 B.2.1 hd hv (h H locs ls hl hP hS)
theorem x_dconst {n : Fin 2} {x : UInt64} (B : BdX p R s m args c cells slots ad dA G A SH H0 nL cc own d SC) (hd : decode cc pc = .ok (.dconst n, 1)) (hv : (if n = 0 then FP.dconst0 else FP.dconst1) = x) (h : AtM p l e R s m args below meth c cells slots Q ad dA G A SH H0 nL (pc + 1) lv (.double x :: st) I D) : AtM p l e R s m args below meth c cells slots Q ad dA G A SH H0 nL pc lv st I D := by
  intro H locs ls hl hP hS
  subst hv
  rcases (show n = 0 ∨ n = 1 by omega) with rfl | rfl
  · exact lv_dconst0 B.1 B.2.1 hd (h H locs ls hl hP hS)
  · exact lv_dconst1 B.1 B.2.1 hd (h H locs ls hl hP hS)
theorem x_fconst {x : UInt32} (B : BdX p R s m args c cells slots ad dA G A SH H0 nL cc own d SC) (hd : decode cc pc = .ok (.fconst 0, 1)) (hv : FP.fconst0 = x) (h : AtM p l e R s m args below meth c cells slots Q ad dA G A SH H0 nL (pc + 1) lv (.float x :: st) I D) : AtM p l e R s m args below meth c cells slots Q ad dA G A SH H0 nL pc lv st I D := by
  subst hv
  exact fun H locs ls hl hP hS => lv_fconst0 B.1 B.2.1 hd (h H locs ls hl hP hS)
theorem x_ldc {n : Nat} {x : Int32} (B : BdX p R s m args c cells slots ad dA G A SH H0 nL cc own d SC) (hd : decode cc pc = .ok (.ldc n, 2)) (hv : Cond.constant own n x ∈ gt) (h : AtM p l e R s m args below meth c cells slots Q ad dA G A SH H0 nL (pc + 2) lv (.int x :: st) I D) : AtM p l e R s m args below meth c cells slots Q ad dA G A SH H0 nL pc lv st I D :=
  fun H locs ls hl hP hS => lv_ldc B.1 B.2.1 B.2.2.2.1 (B.2.2.2.2.1 _ hv) hd (h H locs ls hl hP hS)
theorem x_ldcw {n : Nat} {x : Int32} (B : BdX p R s m args c cells slots ad dA G A SH H0 nL cc own d SC) (hd : decode cc pc = .ok (.ldc_w n, 3)) (hv : Cond.constant own n x ∈ gt) (h : AtM p l e R s m args below meth c cells slots Q ad dA G A SH H0 nL (pc + 3) lv (.int x :: st) I D) : AtM p l e R s m args below meth c cells slots Q ad dA G A SH H0 nL pc lv st I D :=
  fun H locs ls hl hP hS => lv_ldcw B.1 B.2.1 B.2.2.2.1 (B.2.2.2.2.1 _ hv) hd (h H locs ls hl hP hS)
theorem lv_ldcwf {H : Heap} {locs : List Loc} {ls : Array Slot} {rest : List Value} (hexec : p.tables.exec = Jvm.exec) (hb : c.code = cc) {own : String} {index : Nat} {v : UInt32} (hown : s.vm.findClass own = some m.cls) (hconst : (Jvm.Cond.constantFloat own index v).before args s = true) (hdg : decode cc pc = .ok (.ldc_w index, 3)) (k : W p l e R s m args below meth c H locs cells slots Q (F0 m (pc + 3) ls (.float v :: rest))) : W p l e R s m args below meth c H locs cells slots Q (F0 m pc ls rest) := by
  intro T hT X
  obtain ⟨t, a, b⟩ := k T hT X
  refine ⟨t, ?_, b⟩
  subst hb
  obtain ⟨k0, cf, hk, hcf, hcp⟩ := Cond.constantFloat_spec hown hconst
  obtain ⟨k', hk', he⟩ := X.warmed.alike.2.2 _ _ hk
  have hrest := a
  jvm_step X.here [hexec, hdg, ldc_w.wp_float (s := T) (f := F0 m pc ls rest) X.here.top hk' (by rw [he]; exact hcf) hcp]
  exact hrest
theorem x_ldcf {n : Nat} {x : UInt32} (B : BdX p R s m args c cells slots ad dA G A SH H0 nL cc own d SC) (hd : decode cc pc = .ok (.ldc n, 2)) (hv : Cond.constantFloat own n x ∈ gt) (h : AtM p l e R s m args below meth c cells slots Q ad dA G A SH H0 nL (pc + 2) lv (.float x :: st) I D) : AtM p l e R s m args below meth c cells slots Q ad dA G A SH H0 nL pc lv st I D :=
  fun H locs ls hl hP hS => lv_ldcf B.1 B.2.1 B.2.2.2.1 (B.2.2.2.2.1 _ hv) hd (h H locs ls hl hP hS)
theorem x_ldcwf {n : Nat} {x : UInt32} (B : BdX p R s m args c cells slots ad dA G A SH H0 nL cc own d SC) (hd : decode cc pc = .ok (.ldc_w n, 3)) (hv : Cond.constantFloat own n x ∈ gt) (h : AtM p l e R s m args below meth c cells slots Q ad dA G A SH H0 nL (pc + 3) lv (.float x :: st) I D) : AtM p l e R s m args below meth c cells slots Q ad dA G A SH H0 nL pc lv st I D :=
  fun H locs ls hl hP hS => lv_ldcwf B.1 B.2.1 B.2.2.2.1 (B.2.2.2.2.1 _ hv) hd (h H locs ls hl hP hS)
theorem x_ldc2 {n : Nat} {x : Int64} (B : BdX p R s m args c cells slots ad dA G A SH H0 nL cc own d SC) (hd : decode cc pc = .ok (.ldc2_w n, 3)) (hv : Cond.constantLong own n x ∈ gt) (h : AtM p l e R s m args below meth c cells slots Q ad dA G A SH H0 nL (pc + 3) lv (.long x :: st) I D) : AtM p l e R s m args below meth c cells slots Q ad dA G A SH H0 nL pc lv st I D :=
  fun H locs ls hl hP hS => lv_ldc2 B.1 B.2.1 B.2.2.2.1 (B.2.2.2.2.1 _ hv) hd (h H locs ls hl hP hS)
theorem x_ldc2d {n : Nat} {x : UInt64} (B : BdX p R s m args c cells slots ad dA G A SH H0 nL cc own d SC) (hd : decode cc pc = .ok (.ldc2_w n, 3)) (hv : Cond.constantDouble own n x ∈ gt) (h : AtM p l e R s m args below meth c cells slots Q ad dA G A SH H0 nL (pc + 3) lv (.double x :: st) I D) : AtM p l e R s m args below meth c cells slots Q ad dA G A SH H0 nL pc lv st I D :=
  fun H locs ls hl hP hS => lv_ldc2d B.1 B.2.1 B.2.2.2.1 (B.2.2.2.2.1 _ hv) hd (h H locs ls hl hP hS)
theorem x_iload {i : Nat} (B : BdX p R s m args c cells slots ad dA G A SH H0 nL cc own d SC) (hd : decode cc pc = .ok (.iload i, 2)) (hi : i = a) (h : lk lv a (fun w => isI w (k lv (w :: st) I D))) (hk : ∀ lv st I D, k lv st I D → AtM p l e R s m args below meth c cells slots Q ad dA G A SH H0 nL (pc + 2) lv st I D) : AtM p l e R s m args below meth c cells slots Q ad dA G A SH H0 nL pc lv st I D := by
  obtain ⟨w, h1, h2⟩ := lk_e h
  obtain ⟨x, rfl, h3⟩ := isI_e h2
  intro H locs ls hl hP hS
  exact lv_iload B.1 B.2.1 hd (by rw [hi]; exact lv_in hl h1) (hk _ _ _ _ h3 H locs ls hl hP hS)
theorem x_iload_n {i : Fin 4} (B : BdX p R s m args c cells slots ad dA G A SH H0 nL cc own d SC) (hd : decode cc pc = .ok (.iload_n i, 1)) (hi : (i : Nat) = a) (h : lk lv a (fun w => isI w (k lv (w :: st) I D))) (hk : ∀ lv st I D, k lv st I D → AtM p l e R s m args below meth c cells slots Q ad dA G A SH H0 nL (pc + 1) lv st I D) : AtM p l e R s m args below meth c cells slots Q ad dA G A SH H0 nL pc lv st I D := by
  obtain ⟨w, h1, h2⟩ := lk_e h
  obtain ⟨x, rfl, h3⟩ := isI_e h2
  intro H locs ls hl hP hS
  exact lv_iload_n B.1 B.2.1 hd hi (lv_in hl h1) (hk _ _ _ _ h3 H locs ls hl hP hS)
theorem x_lload {i : Nat} (B : BdX p R s m args c cells slots ad dA G A SH H0 nL cc own d SC) (hd : decode cc pc = .ok (.lload i, 2)) (hi : i = a) (h : lk lv a (fun w => isL w (k lv (w :: st) I D))) (hk : ∀ lv st I D, k lv st I D → AtM p l e R s m args below meth c cells slots Q ad dA G A SH H0 nL (pc + 2) lv st I D) : AtM p l e R s m args below meth c cells slots Q ad dA G A SH H0 nL pc lv st I D := by
  obtain ⟨w, h1, h2⟩ := lk_e h
  obtain ⟨x, rfl, h3⟩ := isL_e h2
  intro H locs ls hl hP hS
  exact lv_lload B.1 B.2.1 hd (by rw [hi]; exact lv_in hl h1) (hk _ _ _ _ h3 H locs ls hl hP hS)
theorem x_lload_n {i : Fin 4} (B : BdX p R s m args c cells slots ad dA G A SH H0 nL cc own d SC) (hd : decode cc pc = .ok (.lload_n i, 1)) (hi : (i : Nat) = a) (h : lk lv a (fun w => isL w (k lv (w :: st) I D))) (hk : ∀ lv st I D, k lv st I D → AtM p l e R s m args below meth c cells slots Q ad dA G A SH H0 nL (pc + 1) lv st I D) : AtM p l e R s m args below meth c cells slots Q ad dA G A SH H0 nL pc lv st I D := by
  obtain ⟨w, h1, h2⟩ := lk_e h
  obtain ⟨x, rfl, h3⟩ := isL_e h2
  intro H locs ls hl hP hS
  exact lv_lload_n B.1 B.2.1 hd hi (lv_in hl h1) (hk _ _ _ _ h3 H locs ls hl hP hS)
theorem x_fload {i : Nat} (B : BdX p R s m args c cells slots ad dA G A SH H0 nL cc own d SC) (hd : decode cc pc = .ok (.fload i, 2)) (hi : i = a) (h : lk lv a (fun w => isF w (k lv (w :: st) I D))) (hk : ∀ lv st I D, k lv st I D → AtM p l e R s m args below meth c cells slots Q ad dA G A SH H0 nL (pc + 2) lv st I D) : AtM p l e R s m args below meth c cells slots Q ad dA G A SH H0 nL pc lv st I D := by
  obtain ⟨w, h1, h2⟩ := lk_e h
  obtain ⟨x, rfl, h3⟩ := isF_e h2
  intro H locs ls hl hP hS
  exact lv_fload B.1 B.2.1 hd (by rw [hi]; exact lv_in hl h1) (hk _ _ _ _ h3 H locs ls hl hP hS)
theorem x_dload {i : Nat} (B : BdX p R s m args c cells slots ad dA G A SH H0 nL cc own d SC) (hd : decode cc pc = .ok (.dload i, 2)) (hi : i = a) (h : lk lv a (fun w => isD w (k lv (w :: st) I D))) (hk : ∀ lv st I D, k lv st I D → AtM p l e R s m args below meth c cells slots Q ad dA G A SH H0 nL (pc + 2) lv st I D) : AtM p l e R s m args below meth c cells slots Q ad dA G A SH H0 nL pc lv st I D := by
  obtain ⟨w, h1, h2⟩ := lk_e h
  obtain ⟨x, rfl, h3⟩ := isD_e h2
  intro H locs ls hl hP hS
  exact lv_dload B.1 B.2.1 hd (by rw [hi]; exact lv_in hl h1) (hk _ _ _ _ h3 H locs ls hl hP hS)
theorem x_dload_n {i : Fin 4} (B : BdX p R s m args c cells slots ad dA G A SH H0 nL cc own d SC) (hd : decode cc pc = .ok (.dload_n i, 1)) (hi : (i : Nat) = a) (h : lk lv a (fun w => isD w (k lv (w :: st) I D))) (hk : ∀ lv st I D, k lv st I D → AtM p l e R s m args below meth c cells slots Q ad dA G A SH H0 nL (pc + 1) lv st I D) : AtM p l e R s m args below meth c cells slots Q ad dA G A SH H0 nL pc lv st I D := by
  obtain ⟨w, h1, h2⟩ := lk_e h
  obtain ⟨x, rfl, h3⟩ := isD_e h2
  intro H locs ls hl hP hS
  exact lv_dload_n B.1 B.2.1 hd hi (lv_in hl h1) (hk _ _ _ _ h3 H locs ls hl hP hS)
theorem x_aload {i : Nat} (B : BdX p R s m args c cells slots ad dA G A SH H0 nL cc own d SC) (hd : decode cc pc = .ok (.aload i, 2)) (hi : i = a) (h : lk lv a (fun w => isR w (k lv (w :: st) I D))) (hk : ∀ lv st I D, k lv st I D → AtM p l e R s m args below meth c cells slots Q ad dA G A SH H0 nL (pc + 2) lv st I D) : AtM p l e R s m args below meth c cells slots Q ad dA G A SH H0 nL pc lv st I D := by
  obtain ⟨w, h1, h2⟩ := lk_e h
  obtain ⟨x, rfl, h3⟩ := isR_e h2
  intro H locs ls hl hP hS
  exact lv_aload B.1 B.2.1 hd (by rw [hi]; exact lv_in hl h1) (hk _ _ _ _ h3 H locs ls hl hP hS)
theorem x_aload_n {i : Fin 4} (B : BdX p R s m args c cells slots ad dA G A SH H0 nL cc own d SC) (hd : decode cc pc = .ok (.aload_n i, 1)) (hi : (i : Nat) = a) (h : lk lv a (fun w => isR w (k lv (w :: st) I D))) (hk : ∀ lv st I D, k lv st I D → AtM p l e R s m args below meth c cells slots Q ad dA G A SH H0 nL (pc + 1) lv st I D) : AtM p l e R s m args below meth c cells slots Q ad dA G A SH H0 nL pc lv st I D := by
  obtain ⟨w, h1, h2⟩ := lk_e h
  obtain ⟨x, rfl, h3⟩ := isR_e h2
  intro H locs ls hl hP hS
  exact lv_aload_n B.1 B.2.1 hd hi (lv_in hl h1) (hk _ _ _ _ h3 H locs ls hl hP hS)
theorem x_istore {i : Nat} (B : BdX p R s m args c cells slots ad dA G A SH H0 nL cc own d SC) (hd : decode cc pc = .ok (.istore i, 2)) (hi : i = a) (hn : a < nL) (h : tI st (fun x r => fl1 a lv (fun t => k ((a, .int x) :: t) r I D))) (hk : ∀ lv st I D, k lv st I D → AtM p l e R s m args below meth c cells slots Q ad dA G A SH H0 nL (pc + 2) lv st I D) : AtM p l e R s m args below meth c cells slots Q ad dA G A SH H0 nL pc lv st I D := by
  obtain ⟨x, r, rfl, h1⟩ := tI_e h
  have h2 := fl1_e h1
  intro H locs ls hl hP hS
  exact (by subst hi; exact lv_istore B.1 B.2.1 hd hl hn (by rw [fl1_map]; rfl) (fun ls hl => hk _ _ _ _ h2 H locs ls hl hP hS))
theorem x_istore_n {i : Fin 4} (B : BdX p R s m args c cells slots ad dA G A SH H0 nL cc own d SC) (hd : decode cc pc = .ok (.istore_n i, 1)) (hi : (i : Nat) = a) (hn : a < nL) (h : tI st (fun x r => fl1 a lv (fun t => k ((a, .int x) :: t) r I D))) (hk : ∀ lv st I D, k lv st I D → AtM p l e R s m args below meth c cells slots Q ad dA G A SH H0 nL (pc + 1) lv st I D) : AtM p l e R s m args below meth c cells slots Q ad dA G A SH H0 nL pc lv st I D := by
  obtain ⟨x, r, rfl, h1⟩ := tI_e h
  have h2 := fl1_e h1
  intro H locs ls hl hP hS
  exact lv_istore_n B.1 B.2.1 hd hi hl hn (by rw [fl1_map]; rfl) (fun ls hl => hk _ _ _ _ h2 H locs ls hl hP hS)
theorem x_lstore {i : Nat} (B : BdX p R s m args c cells slots ad dA G A SH H0 nL cc own d SC) (hd : decode cc pc = .ok (.lstore i, 2)) (hi : i = a) (hn : a + 1 < nL) (h : tL st (fun x r => fl2 a lv (fun t => k ((a, .long x) :: t) r I D))) (hk : ∀ lv st I D, k lv st I D → AtM p l e R s m args below meth c cells slots Q ad dA G A SH H0 nL (pc + 2) lv st I D) : AtM p l e R s m args below meth c cells slots Q ad dA G A SH H0 nL pc lv st I D := by
  obtain ⟨x, r, rfl, h1⟩ := tL_e h
  have h2 := fl2_e h1
  intro H locs ls hl hP hS
  exact (by subst hi; exact lv_lstore B.1 B.2.1 hd hl hn (by rw [fl2_map]; rfl) (fun ls hl => hk _ _ _ _ h2 H locs ls hl hP hS))
theorem x_fstore {i : Nat} (B : BdX p R s m args c cells slots ad dA G A SH H0 nL cc own d SC) (hd : decode cc pc = .ok (.fstore i, 2)) (hi : i = a) (hn : a < nL) (h : tF st (fun x r => fl1 a lv (fun t => k ((a, .float x) :: t) r I D))) (hk : ∀ lv st I D, k lv st I D → AtM p l e R s m args below meth c cells slots Q ad dA G A SH H0 nL (pc + 2) lv st I D) : AtM p l e R s m args below meth c cells slots Q ad dA G A SH H0 nL pc lv st I D := by
  obtain ⟨x, r, rfl, h1⟩ := tF_e h
  have h2 := fl1_e h1
  intro H locs ls hl hP hS
  exact (by subst hi; exact lv_fstore B.1 B.2.1 hd hl hn (by rw [fl1_map]; rfl) (fun ls hl => hk _ _ _ _ h2 H locs ls hl hP hS))
theorem x_dstore {i : Nat} (B : BdX p R s m args c cells slots ad dA G A SH H0 nL cc own d SC) (hd : decode cc pc = .ok (.dstore i, 2)) (hi : i = a) (hn : a + 1 < nL) (h : tD st (fun x r => fl2 a lv (fun t => k ((a, .double x) :: t) r I D))) (hk : ∀ lv st I D, k lv st I D → AtM p l e R s m args below meth c cells slots Q ad dA G A SH H0 nL (pc + 2) lv st I D) : AtM p l e R s m args below meth c cells slots Q ad dA G A SH H0 nL pc lv st I D := by
  obtain ⟨x, r, rfl, h1⟩ := tD_e h
  have h2 := fl2_e h1
  intro H locs ls hl hP hS
  exact (by subst hi; exact lv_dstore B.1 B.2.1 hd hl hn (by rw [fl2_map]; rfl) (fun ls hl => hk _ _ _ _ h2 H locs ls hl hP hS))
theorem x_dstore_n {i : Fin 4} (B : BdX p R s m args c cells slots ad dA G A SH H0 nL cc own d SC) (hd : decode cc pc = .ok (.dstore_n i, 1)) (hi : (i : Nat) = a) (hn : a + 1 < nL) (h : tD st (fun x r => fl2 a lv (fun t => k ((a, .double x) :: t) r I D))) (hk : ∀ lv st I D, k lv st I D → AtM p l e R s m args below meth c cells slots Q ad dA G A SH H0 nL (pc + 1) lv st I D) : AtM p l e R s m args below meth c cells slots Q ad dA G A SH H0 nL pc lv st I D := by
  obtain ⟨x, r, rfl, h1⟩ := tD_e h
  have h2 := fl2_e h1
  intro H locs ls hl hP hS
  exact lv_dstore_n B.1 B.2.1 hd hi hl hn (by rw [fl2_map]; rfl) (fun ls hl => hk _ _ _ _ h2 H locs ls hl hP hS)
theorem x_iadd (B : BdX p R s m args c cells slots ad dA G A SH H0 nL cc own d SC) (hd : decode cc pc = .ok (.iadd, 1)) (h : t2I st (fun x y r => k lv (.int (x + y) :: r) I D)) (hk : ∀ lv st I D, k lv st I D → AtM p l e R s m args below meth c cells slots Q ad dA G A SH H0 nL (pc + 1) lv st I D) : AtM p l e R s m args below meth c cells slots Q ad dA G A SH H0 nL pc lv st I D := by
  obtain ⟨x, y, r, rfl, h1⟩ := t2I_e h
  exact fun H locs ls hl hP hS => lv_iadd B.1 B.2.1 hd (hk _ _ _ _ h1 H locs ls hl hP hS)
theorem x_isub (B : BdX p R s m args c cells slots ad dA G A SH H0 nL cc own d SC) (hd : decode cc pc = .ok (.isub, 1)) (h : t2I st (fun x y r => k lv (.int (x - y) :: r) I D)) (hk : ∀ lv st I D, k lv st I D → AtM p l e R s m args below meth c cells slots Q ad dA G A SH H0 nL (pc + 1) lv st I D) : AtM p l e R s m args below meth c cells slots Q ad dA G A SH H0 nL pc lv st I D := by
  obtain ⟨x, y, r, rfl, h1⟩ := t2I_e h
  exact fun H locs ls hl hP hS => lv_isub B.1 B.2.1 hd (hk _ _ _ _ h1 H locs ls hl hP hS)
theorem x_imul (B : BdX p R s m args c cells slots ad dA G A SH H0 nL cc own d SC) (hd : decode cc pc = .ok (.imul, 1)) (h : t2I st (fun x y r => k lv (.int (x * y) :: r) I D)) (hk : ∀ lv st I D, k lv st I D → AtM p l e R s m args below meth c cells slots Q ad dA G A SH H0 nL (pc + 1) lv st I D) : AtM p l e R s m args below meth c cells slots Q ad dA G A SH H0 nL pc lv st I D := by
  obtain ⟨x, y, r, rfl, h1⟩ := t2I_e h
  exact fun H locs ls hl hP hS => lv_imul B.1 B.2.1 hd (hk _ _ _ _ h1 H locs ls hl hP hS)
theorem x_iand (B : BdX p R s m args c cells slots ad dA G A SH H0 nL cc own d SC) (hd : decode cc pc = .ok (.iand, 1)) (h : t2I st (fun x y r => k lv (.int (x &&& y) :: r) I D)) (hk : ∀ lv st I D, k lv st I D → AtM p l e R s m args below meth c cells slots Q ad dA G A SH H0 nL (pc + 1) lv st I D) : AtM p l e R s m args below meth c cells slots Q ad dA G A SH H0 nL pc lv st I D := by
  obtain ⟨x, y, r, rfl, h1⟩ := t2I_e h
  exact fun H locs ls hl hP hS => lv_iand B.1 B.2.1 hd (hk _ _ _ _ h1 H locs ls hl hP hS)
theorem x_ixor (B : BdX p R s m args c cells slots ad dA G A SH H0 nL cc own d SC) (hd : decode cc pc = .ok (.ixor, 1)) (h : t2I st (fun x y r => k lv (.int (x ^^^ y) :: r) I D)) (hk : ∀ lv st I D, k lv st I D → AtM p l e R s m args below meth c cells slots Q ad dA G A SH H0 nL (pc + 1) lv st I D) : AtM p l e R s m args below meth c cells slots Q ad dA G A SH H0 nL pc lv st I D := by
  obtain ⟨x, y, r, rfl, h1⟩ := t2I_e h
  exact fun H locs ls hl hP hS => lv_ixor B.1 B.2.1 hd (hk _ _ _ _ h1 H locs ls hl hP hS)
theorem x_idiv (B : BdX p R s m args c cells slots ad dA G A SH H0 nL cc own d SC) (hd : decode cc pc = .ok (.idiv, 1)) (h : t2I st (fun x y r => ¬ y = 0 ∧ k lv (.int (x / y) :: r) I D)) (hk : ∀ lv st I D, k lv st I D → AtM p l e R s m args below meth c cells slots Q ad dA G A SH H0 nL (pc + 1) lv st I D) : AtM p l e R s m args below meth c cells slots Q ad dA G A SH H0 nL pc lv st I D := by
  obtain ⟨x, y, r, rfl, h0, h1⟩ := t2I_e h
  exact fun H locs ls hl hP hS => lv_idiv B.1 B.2.1 hd h0 (hk _ _ _ _ h1 H locs ls hl hP hS)
theorem x_irem (B : BdX p R s m args c cells slots ad dA G A SH H0 nL cc own d SC) (hd : decode cc pc = .ok (.irem, 1)) (h : t2I st (fun x y r => ¬ y = 0 ∧ k lv (.int (x - x / y * y) :: r) I D)) (hk : ∀ lv st I D, k lv st I D → AtM p l e R s m args below meth c cells slots Q ad dA G A SH H0 nL (pc + 1) lv st I D) : AtM p l e R s m args below meth c cells slots Q ad dA G A SH H0 nL pc lv st I D := by
  obtain ⟨x, y, r, rfl, h0, h1⟩ := t2I_e h
  exact fun H locs ls hl hP hS => lv_irem B.1 B.2.1 hd h0 (hk _ _ _ _ h1 H locs ls hl hP hS)
theorem x_ladd (B : BdX p R s m args c cells slots ad dA G A SH H0 nL cc own d SC) (hd : decode cc pc = .ok (.ladd, 1)) (h : t2L st (fun x y r => k lv (.long (x + y) :: r) I D)) (hk : ∀ lv st I D, k lv st I D → AtM p l e R s m args below meth c cells slots Q ad dA G A SH H0 nL (pc + 1) lv st I D) : AtM p l e R s m args below meth c cells slots Q ad dA G A SH H0 nL pc lv st I D := by
  obtain ⟨x, y, r, rfl, h1⟩ := t2L_e h
  exact fun H locs ls hl hP hS => lv_ladd B.1 B.2.1 hd (hk _ _ _ _ h1 H locs ls hl hP hS)
theorem x_lsub (B : BdX p R s m args c cells slots ad dA G A SH H0 nL cc own d SC) (hd : decode cc pc = .ok (.lsub, 1)) (h : t2L st (fun x y r => k lv (.long (x - y) :: r) I D)) (hk : ∀ lv st I D, k lv st I D → AtM p l e R s m args below meth c cells slots Q ad dA G A SH H0 nL (pc + 1) lv st I D) : AtM p l e R s m args below meth c cells slots Q ad dA G A SH H0 nL pc lv st I D := by
  obtain ⟨x, y, r, rfl, h1⟩ := t2L_e h
  exact fun H locs ls hl hP hS => lv_lsub B.1 B.2.1 hd (hk _ _ _ _ h1 H locs ls hl hP hS)
theorem x_lmul (B : BdX p R s m args c cells slots ad dA G A SH H0 nL cc own d SC) (hd : decode cc pc = .ok (.lmul, 1)) (h : t2L st (fun x y r => k lv (.long (x * y) :: r) I D)) (hk : ∀ lv st I D, k lv st I D → AtM p l e R s m args below meth c cells slots Q ad dA G A SH H0 nL (pc + 1) lv st I D) : AtM p l e R s m args below meth c cells slots Q ad dA G A SH H0 nL pc lv st I D := by
  obtain ⟨x, y, r, rfl, h1⟩ := t2L_e h
  exact fun H locs ls hl hP hS => lv_lmul B.1 B.2.1 hd (hk _ _ _ _ h1 H locs ls hl hP hS)
theorem x_land (B : BdX p R s m args c cells slots ad dA G A SH H0 nL cc own d SC) (hd : decode cc pc = .ok (.land, 1)) (h : t2L st (fun x y r => k lv (.long (x &&& y) :: r) I D)) (hk : ∀ lv st I D, k lv st I D → AtM p l e R s m args below meth c cells slots Q ad dA G A SH H0 nL (pc + 1) lv st I D) : AtM p l e R s m args below meth c cells slots Q ad dA G A SH H0 nL pc lv st I D := by
  obtain ⟨x, y, r, rfl, h1⟩ := t2L_e h
  exact fun H locs ls hl hP hS => lv_land B.1 B.2.1 hd (hk _ _ _ _ h1 H locs ls hl hP hS)
theorem x_lor (B : BdX p R s m args c cells slots ad dA G A SH H0 nL cc own d SC) (hd : decode cc pc = .ok (.lor, 1)) (h : t2L st (fun x y r => k lv (.long (x ||| y) :: r) I D)) (hk : ∀ lv st I D, k lv st I D → AtM p l e R s m args below meth c cells slots Q ad dA G A SH H0 nL (pc + 1) lv st I D) : AtM p l e R s m args below meth c cells slots Q ad dA G A SH H0 nL pc lv st I D := by
  obtain ⟨x, y, r, rfl, h1⟩ := t2L_e h
  exact fun H locs ls hl hP hS => lv_lor B.1 B.2.1 hd (hk _ _ _ _ h1 H locs ls hl hP hS)
theorem x_ldiv (B : BdX p R s m args c cells slots ad dA G A SH H0 nL cc own d SC) (hd : decode cc pc = .ok (.ldiv, 1)) (h : t2L st (fun x y r => ¬ y = 0 ∧ k lv (.long (x / y) :: r) I D)) (hk : ∀ lv st I D, k lv st I D → AtM p l e R s m args below meth c cells slots Q ad dA G A SH H0 nL (pc + 1) lv st I D) : AtM p l e R s m args below meth c cells slots Q ad dA G A SH H0 nL pc lv st I D := by
  obtain ⟨x, y, r, rfl, h0, h1⟩ := t2L_e h
  exact fun H locs ls hl hP hS => lv_ldiv B.1 B.2.1 hd h0 (hk _ _ _ _ h1 H locs ls hl hP hS)
theorem x_lcmp (B : BdX p R s m args c cells slots ad dA G A SH H0 nL cc own d SC) (hd : decode cc pc = .ok (.lcmp, 1)) (h : t2L st (fun x y r => k lv (.int (lg_cmp x y) :: r) I D)) (hk : ∀ lv st I D, k lv st I D → AtM p l e R s m args below meth c cells slots Q ad dA G A SH H0 nL (pc + 1) lv st I D) : AtM p l e R s m args below meth c cells slots Q ad dA G A SH H0 nL pc lv st I D := by
  obtain ⟨x, y, r, rfl, h1⟩ := t2L_e h
  exact fun H locs ls hl hP hS => W.lcmp B.1 B.2.1 hd (hk _ _ _ _ h1 H locs ls hl hP hS)
theorem x_dadd (B : BdX p R s m args c cells slots ad dA G A SH H0 nL cc own d SC) (hd : decode cc pc = .ok (.dadd, 1)) (h : t2D st (fun x y r => vf_n64 (FP.dadd x y) ∧ k lv (.double (FP.dadd x y) :: r) I D)) (hk : ∀ lv st I D, k lv st I D → AtM p l e R s m args below meth c cells slots Q ad dA G A SH H0 nL (pc + 1) lv st I D) : AtM p l e R s m args below meth c cells slots Q ad dA G A SH H0 nL pc lv st I D := by
  obtain ⟨x, y, r, rfl, h0, h1⟩ := t2D_e h
  exact fun H locs ls hl hP hS => lv_dadd B.1 B.2.1 hd h0 (hk _ _ _ _ h1 H locs ls hl hP hS)
theorem x_dsub (B : BdX p R s m args c cells slots ad dA G A SH H0 nL cc own d SC) (hd : decode cc pc = .ok (.dsub, 1)) (h : t2D st (fun x y r => vf_n64 (FP.dsub x y) ∧ k lv (.double (FP.dsub x y) :: r) I D)) (hk : ∀ lv st I D, k lv st I D → AtM p l e R s m args below meth c cells slots Q ad dA G A SH H0 nL (pc + 1) lv st I D) : AtM p l e R s m args below meth c cells slots Q ad dA G A SH H0 nL pc lv st I D := by
  obtain ⟨x, y, r, rfl, h0, h1⟩ := t2D_e h
  exact fun H locs ls hl hP hS => lv_dsub B.1 B.2.1 hd h0 (hk _ _ _ _ h1 H locs ls hl hP hS)
theorem x_dmul (B : BdX p R s m args c cells slots ad dA G A SH H0 nL cc own d SC) (hd : decode cc pc = .ok (.dmul, 1)) (h : t2D st (fun x y r => vf_n64 (FP.dmul x y) ∧ k lv (.double (FP.dmul x y) :: r) I D)) (hk : ∀ lv st I D, k lv st I D → AtM p l e R s m args below meth c cells slots Q ad dA G A SH H0 nL (pc + 1) lv st I D) : AtM p l e R s m args below meth c cells slots Q ad dA G A SH H0 nL pc lv st I D := by
  obtain ⟨x, y, r, rfl, h0, h1⟩ := t2D_e h
  exact fun H locs ls hl hP hS => lv_dmul B.1 B.2.1 hd h0 (hk _ _ _ _ h1 H locs ls hl hP hS)
theorem x_ddiv (B : BdX p R s m args c cells slots ad dA G A SH H0 nL cc own d SC) (hd : decode cc pc = .ok (.ddiv, 1)) (h : t2D st (fun x y r => vf_n64 (FP.ddiv x y) ∧ k lv (.double (FP.ddiv x y) :: r) I D)) (hk : ∀ lv st I D, k lv st I D → AtM p l e R s m args below meth c cells slots Q ad dA G A SH H0 nL (pc + 1) lv st I D) : AtM p l e R s m args below meth c cells slots Q ad dA G A SH H0 nL pc lv st I D := by
  obtain ⟨x, y, r, rfl, h0, h1⟩ := t2D_e h
  exact fun H locs ls hl hP hS => lv_ddiv B.1 B.2.1 hd h0 (hk _ _ _ _ h1 H locs ls hl hP hS)
theorem x_ineg (B : BdX p R s m args c cells slots ad dA G A SH H0 nL cc own d SC) (hd : decode cc pc = .ok (.ineg, 1)) (h : tI st (fun x r => k lv (.int (-x) :: r) I D)) (hk : ∀ lv st I D, k lv st I D → AtM p l e R s m args below meth c cells slots Q ad dA G A SH H0 nL (pc + 1) lv st I D) : AtM p l e R s m args below meth c cells slots Q ad dA G A SH H0 nL pc lv st I D := by
  obtain ⟨x, r, rfl, h1⟩ := tI_e h
  exact fun H locs ls hl hP hS => lv_ineg B.1 B.2.1 hd (hk _ _ _ _ h1 H locs ls hl hP hS)
theorem x_i2l (B : BdX p R s m args c cells slots ad dA G A SH H0 nL cc own d SC) (hd : decode cc pc = .ok (.i2l, 1)) (h : tI st (fun x r => k lv (.long (x.toInt64) :: r) I D)) (hk : ∀ lv st I D, k lv st I D → AtM p l e R s m args below meth c cells slots Q ad dA G A SH H0 nL (pc + 1) lv st I D) : AtM p l e R s m args below meth c cells slots Q ad dA G A SH H0 nL pc lv st I D := by
  obtain ⟨x, r, rfl, h1⟩ := tI_e h
  exact fun H locs ls hl hP hS => lv_i2l B.1 B.2.1 hd rfl (hk _ _ _ _ h1 H locs ls hl hP hS)
theorem x_i2d (B : BdX p R s m args c cells slots ad dA G A SH H0 nL cc own d SC) (hd : decode cc pc = .ok (.i2d, 1)) (h : tI st (fun x r => k lv (.double (FP.i2d x) :: r) I D)) (hk : ∀ lv st I D, k lv st I D → AtM p l e R s m args below meth c cells slots Q ad dA G A SH H0 nL (pc + 1) lv st I D) : AtM p l e R s m args below meth c cells slots Q ad dA G A SH H0 nL pc lv st I D := by
  obtain ⟨x, r, rfl, h1⟩ := tI_e h
  exact fun H locs ls hl hP hS => lv_i2d B.1 B.2.1 hd (hk _ _ _ _ h1 H locs ls hl hP hS)
theorem x_i2s (B : BdX p R s m args c cells slots ad dA G A SH H0 nL cc own d SC) (hd : decode cc pc = .ok (.i2s, 1)) (h : tI st (fun x r => k lv (.int (x.toInt16.toInt32) :: r) I D)) (hk : ∀ lv st I D, k lv st I D → AtM p l e R s m args below meth c cells slots Q ad dA G A SH H0 nL (pc + 1) lv st I D) : AtM p l e R s m args below meth c cells slots Q ad dA G A SH H0 nL pc lv st I D := by
  obtain ⟨x, r, rfl, h1⟩ := tI_e h
  exact fun H locs ls hl hP hS => lv_i2s B.1 B.2.1 hd rfl (hk _ _ _ _ h1 H locs ls hl hP hS)
theorem x_l2i (B : BdX p R s m args c cells slots ad dA G A SH H0 nL cc own d SC) (hd : decode cc pc = .ok (.l2i, 1)) (h : tL st (fun x r => k lv (.int (x.toInt32) :: r) I D)) (hk : ∀ lv st I D, k lv st I D → AtM p l e R s m args below meth c cells slots Q ad dA G A SH H0 nL (pc + 1) lv st I D) : AtM p l e R s m args below meth c cells slots Q ad dA G A SH H0 nL pc lv st I D := by
  obtain ⟨x, r, rfl, h1⟩ := tL_e h
  exact fun H locs ls hl hP hS => lv_l2i B.1 B.2.1 hd rfl (hk _ _ _ _ h1 H locs ls hl hP hS)
theorem x_dneg (B : BdX p R s m args c cells slots ad dA G A SH H0 nL cc own d SC) (hd : decode cc pc = .ok (.dneg, 1)) (h : tD st (fun x r => k lv (.double (FP.dneg x) :: r) I D)) (hk : ∀ lv st I D, k lv st I D → AtM p l e R s m args below meth c cells slots Q ad dA G A SH H0 nL (pc + 1) lv st I D) : AtM p l e R s m args below meth c cells slots Q ad dA G A SH H0 nL pc lv st I D := by
  obtain ⟨x, r, rfl, h1⟩ := tD_e h
  exact fun H locs ls hl hP hS => lv_dneg B.1 B.2.1 hd (hk _ _ _ _ h1 H locs ls hl hP hS)
theorem x_fneg (B : BdX p R s m args c cells slots ad dA G A SH H0 nL cc own d SC) (hd : decode cc pc = .ok (.fneg, 1)) (h : tF st (fun x r => k lv (.float (FP.fneg x) :: r) I D)) (hk : ∀ lv st I D, k lv st I D → AtM p l e R s m args below meth c cells slots Q ad dA G A SH H0 nL (pc + 1) lv st I D) : AtM p l e R s m args below meth c cells slots Q ad dA G A SH H0 nL pc lv st I D := by
  obtain ⟨x, r, rfl, h1⟩ := tF_e h
  exact fun H locs ls hl hP hS => lv_fneg B.1 B.2.1 hd (hk _ _ _ _ h1 H locs ls hl hP hS)
theorem x_d2l (B : BdX p R s m args c cells slots ad dA G A SH H0 nL cc own d SC) (hd : decode cc pc = .ok (.d2l, 1)) (h : tD st (fun x r => k lv (.long (FP.d2l x) :: r) I D)) (hk : ∀ lv st I D, k lv st I D → AtM p l e R s m args below meth c cells slots Q ad dA G A SH H0 nL (pc + 1) lv st I D) : AtM p l e R s m args below meth c cells slots Q ad dA G A SH H0 nL pc lv st I D := by
  obtain ⟨x, r, rfl, h1⟩ := tD_e h
  exact fun H locs ls hl hP hS => lv_d2l B.1 B.2.1 hd (hk _ _ _ _ h1 H locs ls hl hP hS)
theorem x_dcmp {o : CmpOp} (B : BdX p R s m args c cells slots ad dA G A SH H0 nL cc own d SC) (hd : decode cc pc = .ok (.dcmp o, 1)) (h : t2D st (fun x y r => k lv (.int (Op.cmpValue (FP.dcmp x y) o) :: r) I D)) (hk : ∀ lv st I D, k lv st I D → AtM p l e R s m args below meth c cells slots Q ad dA G A SH H0 nL (pc + 1) lv st I D) : AtM p l e R s m args below meth c cells slots Q ad dA G A SH H0 nL pc lv st I D := by
  obtain ⟨x, y, r, rfl, h1⟩ := t2D_e h
  exact fun H locs ls hl hP hS => lv_dcmp B.1 B.2.1 hd (hk _ _ _ _ h1 H locs ls hl hP hS)
theorem x_fcmp {o : CmpOp} (B : BdX p R s m args c cells slots ad dA G A SH H0 nL cc own d SC) (hd : decode cc pc = .ok (.fcmp o, 1)) (h : t2F st (fun x y r => k lv (.int (Op.cmpValue (FP.fcmp x y) o) :: r) I D)) (hk : ∀ lv st I D, k lv st I D → AtM p l e R s m args below meth c cells slots Q ad dA G A SH H0 nL (pc + 1) lv st I D) : AtM p l e R s m args below meth c cells slots Q ad dA G A SH H0 nL pc lv st I D := by
  obtain ⟨x, y, r, rfl, h1⟩ := t2F_e h
  exact fun H locs ls hl hP hS => lv_fcmp B.1 B.2.1 hd (hk _ _ _ _ h1 H locs ls hl hP hS)
theorem x_lshl (B : BdX p R s m args c cells slots ad dA G A SH H0 nL cc own d SC) (hd : decode cc pc = .ok (.lshl, 1)) (h : tI st (fun y r => tL r (fun x r => k lv (.long (x <<< (y.toInt64 &&& 63)) :: r) I D))) (hk : ∀ lv st I D, k lv st I D → AtM p l e R s m args below meth c cells slots Q ad dA G A SH H0 nL (pc + 1) lv st I D) : AtM p l e R s m args below meth c cells slots Q ad dA G A SH H0 nL pc lv st I D := by
  obtain ⟨y, r, rfl, h1⟩ := tI_e h
  obtain ⟨x, r, rfl, h1⟩ := tL_e h1
  exact fun H locs ls hl hP hS => lv_lshl B.1 B.2.1 hd rfl (hk _ _ _ _ h1 H locs ls hl hP hS)
theorem x_dup (B : BdX p R s m args c cells slots ad dA G A SH H0 nL cc own d SC) (hd : decode cc pc = .ok (.dup, 1)) (h : dup1 st (fun v r => k lv (v :: v :: r) I D)) (hk : ∀ lv st I D, k lv st I D → AtM p l e R s m args below meth c cells slots Q ad dA G A SH H0 nL (pc + 1) lv st I D) : AtM p l e R s m args below meth c cells slots Q ad dA G A SH H0 nL pc lv st I D := by
  obtain ⟨v, r, rfl, hc, h1⟩ := dup1_e h
  exact fun H locs ls hl hP hS => lv_dup B.1 B.2.1 hd (by rw [cv_cat]; exact hc) (hk _ _ _ _ h1 H locs ls hl hP hS)
theorem x_pop (B : BdX p R s m args c cells slots ad dA G A SH H0 nL cc own d SC) (hd : decode cc pc = .ok (.pop, 1)) (h : dup1 st (fun _ r => k lv r I D)) (hk : ∀ lv st I D, k lv st I D → AtM p l e R s m args below meth c cells slots Q ad dA G A SH H0 nL (pc + 1) lv st I D) : AtM p l e R s m args below meth c cells slots Q ad dA G A SH H0 nL pc lv st I D := by
  obtain ⟨v, r, rfl, hc, h1⟩ := dup1_e h
  exact fun H locs ls hl hP hS => lv_pop B.1 B.2.1 hd (by rw [cv_cat]; exact hc) (hk _ _ _ _ h1 H locs ls hl hP hS)
theorem x_dup2 (B : BdX p R s m args c cells slots ad dA G A SH H0 nL cc own d SC) (hd : decode cc pc = .ok (.dup2, 1)) (h : dup11 st (fun v w r => k lv (v :: w :: v :: w :: r) I D)) (hk : ∀ lv st I D, k lv st I D → AtM p l e R s m args below meth c cells slots Q ad dA G A SH H0 nL (pc + 1) lv st I D) : AtM p l e R s m args below meth c cells slots Q ad dA G A SH H0 nL pc lv st I D := by
  obtain ⟨v, w, r, rfl, hc, hc2, h1⟩ := dup11_e h
  exact fun H locs ls hl hP hS => lv_dup2_11 B.1 B.2.1 hd (by rw [cv_cat]; exact hc) (by rw [cv_cat]; exact hc2) (hk _ _ _ _ h1 H locs ls hl hP hS)
theorem x_goto {o : Int} (B : BdX p R s m args c cells slots ad dA G A SH H0 nL cc own d SC) (hd : decode cc pc = .ok (.goto o, 3)) (ht : (pc : Int) + o = (a : Int)) (h : AtM p l e R s m args below meth c cells slots Q ad dA G A SH H0 nL a lv st I D) : AtM p l e R s m args below meth c cells slots Q ad dA G A SH H0 nL pc lv st I D :=
  fun H locs ls hl hP hS => lv_goto B.1 B.2.1 hd ht (h H locs ls hl hP hS)
theorem x_if {cd : ClassFile.Cond} {o : Int} {jp : Kt} (B : BdX p R s m args c cells slots ad dA G A SH H0 nL cc own d SC) (hd : decode cc pc = .ok (.ifCond cd o, 3)) (ht : (pc : Int) + o = (a : Int)) (h : tI st (fun x r => xif cd x (jp a lv r I D) (k lv r I D))) (hj : ∀ t lv st I D, jp t lv st I D → AtM p l e R s m args below meth c cells slots Q ad dA G A SH H0 nL t lv st I D) (hk : ∀ lv st I D, k lv st I D → AtM p l e R s m args below meth c cells slots Q ad dA G A SH H0 nL (pc + 3) lv st I D) : AtM p l e R s m args below meth c cells slots Q ad dA G A SH H0 nL pc lv st I D := by
  obtain ⟨x, r, rfl, h1⟩ := tI_e h
  intro H locs ls hl hP hS
  cases cd
  · exact lv_if_eq B.1 B.2.1 hd ht (fun q => hj _ _ _ _ _ (h1.1 q) H locs ls hl hP hS) (fun q => hk _ _ _ _ (h1.2 q) H locs ls hl hP hS)
  · exact lv_if_ne B.1 B.2.1 hd ht (fun q => hj _ _ _ _ _ (h1.1 q) H locs ls hl hP hS) (fun q => hk _ _ _ _ (h1.2 q) H locs ls hl hP hS)
  · exact lv_if_lt B.1 B.2.1 hd ht (fun q => hj _ _ _ _ _ (h1.1 q) H locs ls hl hP hS) (fun q => hk _ _ _ _ (h1.2 q) H locs ls hl hP hS)
  · exact lv_if_ge B.1 B.2.1 hd ht (fun q => hj _ _ _ _ _ (h1.1 q) H locs ls hl hP hS) (fun q => hk _ _ _ _ (h1.2 q) H locs ls hl hP hS)
  · exact lv_if_gt B.1 B.2.1 hd ht (fun q => hj _ _ _ _ _ (h1.1 q) H locs ls hl hP hS) (fun q => hk _ _ _ _ (h1.2 q) H locs ls hl hP hS)
  · exact lv_if_le B.1 B.2.1 hd ht (fun q => hj _ _ _ _ _ (h1.1 q) H locs ls hl hP hS) (fun q => hk _ _ _ _ (h1.2 q) H locs ls hl hP hS)
theorem x_icmp {cd : ClassFile.Cond} {o : Int} {jp : Kt} (B : BdX p R s m args c cells slots ad dA G A SH H0 nL cc own d SC) (hd : decode cc pc = .ok (.if_icmp cd o, 3)) (ht : (pc : Int) + o = (a : Int)) (h : t2I st (fun x y r => xic cd x y (jp a lv r I D) (k lv r I D))) (hj : ∀ t lv st I D, jp t lv st I D → AtM p l e R s m args below meth c cells slots Q ad dA G A SH H0 nL t lv st I D) (hk : ∀ lv st I D, k lv st I D → AtM p l e R s m args below meth c cells slots Q ad dA G A SH H0 nL (pc + 3) lv st I D) : AtM p l e R s m args below meth c cells slots Q ad dA G A SH H0 nL pc lv st I D := by
  obtain ⟨x, y, r, rfl, h1⟩ := t2I_e h
  intro H locs ls hl hP hS
  cases cd
  · exact lv_icmp_eq B.1 B.2.1 hd ht (fun q => hj _ _ _ _ _ (h1.1 q) H locs ls hl hP hS) (fun q => hk _ _ _ _ (h1.2 q) H locs ls hl hP hS)
  · exact lv_icmp_ne B.1 B.2.1 hd ht (fun q => hj _ _ _ _ _ (h1.1 q) H locs ls hl hP hS) (fun q => hk _ _ _ _ (h1.2 q) H locs ls hl hP hS)
  · exact lv_icmp_lt B.1 B.2.1 hd ht (fun q => hj _ _ _ _ _ (h1.1 q) H locs ls hl hP hS) (fun q => hk _ _ _ _ (h1.2 q) H locs ls hl hP hS)
  · exact lv_icmp_ge B.1 B.2.1 hd ht (fun q => hj _ _ _ _ _ (h1.1 q) H locs ls hl hP hS) (fun q => hk _ _ _ _ (h1.2 q) H locs ls hl hP hS)
  · exact lv_icmp_gt B.1 B.2.1 hd ht (fun q => hj _ _ _ _ _ (h1.1 q) H locs ls hl hP hS) (fun q => hk _ _ _ _ (h1.2 q) H locs ls hl hP hS)
  · exact lv_icmp_le B.1 B.2.1 hd ht (fun q => hj _ _ _ _ _ (h1.1 q) H locs ls hl hP hS) (fun q => hk _ _ _ _ (h1.2 q) H locs ls hl hP hS)
theorem x_iinc {i : Nat} {n : Int} {cst : Int32} (B : BdX p R s m args c cells slots ad dA G A SH H0 nL cc own d SC) (hd : decode cc pc = .ok (.iinc i n, 3)) (hi : i = a) (hv : Int32.ofInt n = cst) (hn : a < nL) (h : xinc a (.int cst) lv (fun t => k t st I D)) (hk : ∀ lv st I D, k lv st I D → AtM p l e R s m args below meth c cells slots Q ad dA G A SH H0 nL (pc + 3) lv st I D) : AtM p l e R s m args below meth c cells slots Q ad dA G A SH H0 nL pc lv st I D := by
  obtain ⟨w, h1, h2⟩ := lk_e h
  subst hi
  cases w with
  | int x =>
    have h3 := fl1_e h2
    intro H locs ls hl hP hS
    have hm : (i, Value.int x) ∈ lv.map (cq ad) := List.mem_map.mpr ⟨_, h1, rfl⟩
    obtain ⟨j, hj⟩ := List.getElem?_of_mem hm
    exact lv_iinc (k := j) B.1 B.2.1 hd hl hj (by rw [hv]) hn (by rw [fl1_map]; rfl) (fun ls hl => hk _ _ _ _ h3 H locs ls hl hP hS)
  | _ => exact h2.elim
end RW
end
section
/-! cells: fields, rows, the script; calls -/
theorem pl_f {P : Pl} (hP : PlOk P) {q : Pf} (hq : q ∈ P.2.1) : wF P.1 q ∈ lw_tbl := by
  have h := List.map_inj_left.mp hP.1 q hq
  rw [nth_eq] at h
  exact tb_in _ _ (List.mem_of_getElem? h)
theorem pl_c {P : Pl} (hP : PlOk P) {q : Pc} (hq : q ∈ P.2.2.1) : wC P.1 q ∈ gt := by
  have h := List.map_inj_left.mp hP.2.1 q hq
  refine gt_in h ?_
  unfold wC
  split <;> rfl
theorem pl_m {P : Pl} (hP : PlOk P) {q : Pm} (hq : q ∈ P.2.2.2.1) : wM P.1 q ∈ gt := by
  have h := List.map_inj_left.mp hP.2.2.1 q hq
  refine gt_in h ?_
  unfold wM
  split <;> rfl
theorem pl_n {P : Pl} (hP : PlOk P) {q : Pm} (hq : q ∈ P.2.2.2.2) : wN P.1 q ∈ gt := by
  have h := List.map_inj_left.mp hP.2.2.2 q hq
  exact gt_in h rfl
theorem cT_at {a : Nat} (h : a < 13) : vwCl[a]? = some (cT a) := by
  have h1 : a < vwCl.length := h
  unfold cT
  rw [nth_eq, List.getElem?_eq_getElem h1]
theorem cT_ok {a : Nat} (h : a < 13) : clOk (cT a) := vw_ok _ (List.mem_of_getElem? (cT_at h))
theorem mt_good {mid : Nat} {q : Me} (h : nth MT mid = some q) : okM q = true := List.all_eq_true.mp MT_ok q (by rw [nth_eq] at h; exact List.mem_of_getElem? h)
theorem plc_in {q : Me} {i : Nat} {w : Cond} (h : plc q i = some w) (hg : goodWord w = true) : w ∈ gt := by
  unfold plc at h
  split at h
  next z _ => exact gt_in h hg
  next => cases h
theorem mt_words {mid : Nat} {q : Me} (h : nth MT mid = some q) : Cond.code q.1 q.2.1 q.2.2.1 q.2.2.2.1 ∈ gt ∧ Cond.initialized q.1.cls ∈ gt ∧ (q.2.2.2.2.2.1 = true → Cond.static q.1 ∈ gt) ∧ (q.2.2.2.2.2.1 = false → Cond.instanceMethod q.1 ∈ gt ∧ Cond.selects q.1.cls q.1 q.1 ∈ gt) := by
  have h1 := List.map_inj_left.mp MT_w q (by rw [nth_eq] at h; exact List.mem_of_getElem? h)
  unfold mw mw' at h1
  cases hs : q.2.2.2.2.2.1 with
  | true =>
    rw [hs] at h1
    simp only [List.cons.injEq, and_true] at h1
    exact ⟨plc_in h1.1 rfl, plc_in h1.2.1 rfl, ⟨fun _ => plc_in h1.2.2.1 rfl, nofun⟩⟩
  | false =>
    rw [hs] at h1
    simp only [List.cons.injEq, and_true] at h1
    exact ⟨plc_in h1.1 rfl, plc_in h1.2.1 rfl, ⟨nofun, fun _ => ⟨plc_in h1.2.2.1 rfl, plc_in h1.2.2.2 rfl⟩⟩⟩
section RH
variable {p : Program} {l : Launch} {e : Env} {R : Room} {s : State} {m : MethodId} {args : Array Value} {below : List Frame} {meth : Method} {c : Code} {cells slots : Nat} {Q : State → Prop}
variable {ad : Nat → Nat} {dA : Nat → ClassId} {G : va_G} {A : Nat → Prop} {SH : List Sh} {H0 : Heap} {nL : Nat} {cc : ByteArray} {own : String} {d : Nat} {SC : Option (Nat × (Nat → Int32))}
variable {pc : Nat} {lv : Lv} {st : List Value} {I : MI} {D : MD} {k : Nt} {a b : Nat} {v : Value}
theorem x_get {n : Nat} {z : Bool} {t o : Nat} (B : BdX p R s m args c cells slots ad dA G A SH H0 nL cc own d SC) (hd : decode cc pc = .ok (.getfield n, 3)) (ha : a < 13) (hn : b < (cT a).2.2) (hw : wF own (n, a, b, z, t, o) ∈ lw_tbl) (h : xget SH a b st I D (fun r => k lv r I D)) (hk : ∀ lv st I D, k lv st I D → AtM p l e R s m args below meth c cells slots Q ad dA G A SH H0 nL (pc + 3) lv st I D) : AtM p l e R s m args below meth c cells slots Q ad dA G A SH H0 nL pc lv st I D := by
  obtain ⟨q, r, rfl, h1⟩ := tR_e h
  obtain ⟨fks, hs, h2⟩ := atO_e h1
  intro H locs ls hl hP hS
  have key : ∀ f : Nat ⊕ Bool, nth fks b = some f → W p l e R s m args below meth c H locs cells slots Q (F0 m (pc + 3) ls (fv ad I D q b f :: r.map (cv ad))) → W p l e R s m args below meth c H locs cells slots Q (F0 m pc ls ((Value.ref q :: r).map (cv ad))) := by
    intro f hf kk
    have hv : (fvs ad I D q 0 fks)[b]? = some (fv ad I D q b f) := by rw [fvs_get, ← nth_eq, hf]; simp
    cases z with
    | false => exact va_get (D := G) (ci := a) (C := (cT a).1) (T := (cT a).2.1) (N := (cT a).2.2) B.1 B.2.1 B.2.2.2.2.1 (cT_ok ha).1 B.2.2.2.1 B.2.2.2.2.2.1 hP q (wld_at hs) (cT_at ha) b hn (B.2.2.2.2.1 _ (List.mem_filter.mpr ⟨hw, rfl⟩)) (fun _ h9 => h9) hv hd kk
    | true => exact va_getN (D := G) (ci := a) (C := (cT a).1) (T := (cT a).2.1) (N := (cT a).2.2) B.1 B.2.1 B.2.2.2.2.1 (cT_ok ha).1 B.2.2.2.1 B.2.2.2.2.2.1 hP q (wld_at hs) (cT_at ha) b hn (va_Nw.use rfl (B.2.2.2.2.2.2.2.2.2 _ _ _ _ _ _ hw)) (fun _ h9 => h9) hv hd kk
  cases hf : nth fks b with
  | none => rw [hf] at h2; exact h2.elim
  | some f =>
    rw [hf] at h2
    refine key f hf ?_
    rcases f with t | (_ | _)
    · exact hk _ _ _ _ h2 H locs ls hl hP hS
    · exact hk _ _ _ _ h2 H locs ls hl hP hS
    · exact hk _ _ _ _ h2 H locs ls hl hP hS
/-- a field is written: its type is int, boolean (then 0 or 1) or double -/
theorem x_put {n : Nat} {z : Bool} {t o : Nat} {ty : FieldType} (B : BdX p R s m args c cells slots ad dA G A SH H0 nL cc own d SC) (hd : decode cc pc = .ok (.putfield n, 3)) (ha : a < 13) (hn : b < (cT a).2.2) (hw : wF own (n, a, b, z, t, o) ∈ lw_tbl) (hfin : ((cT a).2.1 b).2.2.2 = false) (hty : parseFieldDescriptor ((cT a).2.1 b).2.2.1 = some ty)
    (hok : (ty = .int ∧ v = .null) ∨ (ty = .boolean ∧ v = .ref 1) ∨ (ty = .double ∧ v = .ref 2)) (h : xput SH a b v st I D (fun r I D => k lv r I D)) (hk : ∀ lv st I D, k lv st I D → AtM p l e R s m args below meth c cells slots Q ad dA G A SH H0 nL (pc + 3) lv st I D) : AtM p l e R s m args below meth c cells slots Q ad dA G A SH H0 nL pc lv st I D := by
  intro H locs ls hl hP hS
  obtain ⟨hin, ⟨ty0, hty0⟩, hnm⟩ := cT_ok ha
  have key : ∀ (w : Value) (q : Nat) (r : List Value) (fks : List (Nat ⊕ Bool)) (I' : MI) (D' : MD), nth SH q = some (.inl (a, fks)) → b < fks.length → narrow ty w = w → fits ty w = true → ((wld ad dA I D 0 SH).set q (ad q, .inr (a, (fvs ad I D q 0 fks).set b w)) = wld ad dA I' D' 0 SH) → AtM p l e R s m args below meth c cells slots Q ad dA G A SH H0 nL (pc + 3) lv r I' D' → W p l e R s m args below meth c H locs cells slots Q (F0 m pc ls (w :: .ref (ad q) :: r.map (cv ad))) := by
    intro w q r fks I' D' hs hb hnar hfit hset hK
    have hlen : b < (fvs ad I D q 0 fks).length := by rw [fvs_len]; exact hb
    cases z with
    | false =>
      refine va_put (D := G) (ci := a) (C := (cT a).1) (T := (cT a).2.1) (N := (cT a).2.2) B.1 B.2.1 B.2.2.2.2.1 hin ty0 hty0 hnm B.2.2.2.1 B.2.2.2.2.2.1 hP (B.2.2.2.2.2.2.1 I D) hS q (wld_at hs) (cT_at ha) b hn (B.2.2.2.2.1 _ (List.mem_filter.mpr ⟨hw, rfl⟩)) (fun _ h9 => h9) hfin hty hnar hfit hlen hd (fun H1 locs1 hP1 _ hS1 => ?_)
      rw [hset] at hP1
      exact hK H1 locs1 ls hl hP1 hS1
    | true =>
      refine va_putN (D := G) (ci := a) (C := (cT a).1) (T := (cT a).2.1) (N := (cT a).2.2) B.1 B.2.1 B.2.2.2.2.1 hin ty0 hty0 hnm B.2.2.2.1 B.2.2.2.2.2.1 hP (B.2.2.2.2.2.2.1 I D) hS q (wld_at hs) (cT_at ha) b hn (va_Nw.use rfl (B.2.2.2.2.2.2.2.2.2 _ _ _ _ _ _ hw)) (fun _ h9 => h9) hfin hty hnar hfit hlen hd (fun H1 locs1 hP1 _ hS1 => ?_)
      rw [hset] at hP1
      exact hK H1 locs1 ls hl hP1 hS1
  have lenOf : ∀ {fks : List (Nat ⊕ Bool)} {f : Nat ⊕ Bool}, nth fks b = some f → b < fks.length := by
    intro fks f hf
    rw [nth_eq] at hf
    exact (List.getElem?_eq_some_iff.mp hf).1
  unfold xput at h
  split at h
  next x q r =>
    obtain ⟨fks, hs, h2⟩ := atO_e h
    split at h2
    next hf =>
      have hset : (wld ad dA I D 0 SH).set q (ad q, .inr (a, (fvs ad I D q 0 fks).set b (.int x))) = wld ad dA (up2 I q b x) D 0 SH :=
        wld_set hs (fun i hi => up2_ne hi) (fun _ _ => rfl) (by rw [fvs_setI hf]; rfl)
      rcases hok with ⟨rfl, rfl⟩ | ⟨rfl, rfl⟩ | ⟨rfl, rfl⟩
      · exact key (.int x) q r fks _ _ hs (lenOf hf) rfl rfl hset (hk _ _ _ _ h2)
      · refine key (.int x) q r fks _ _ hs (lenOf hf) ?_ ?_ hset (hk _ _ _ _ h2.2)
        · rcases h2.1 with rfl | rfl <;> rfl
        · rcases h2.1 with rfl | rfl <;> rfl
      · exact h2.elim
    next => exact h2.elim
  next x q r =>
    obtain ⟨fks, hs, h2⟩ := atO_e h
    split at h2
    next hf =>
      have hset : (wld ad dA I D 0 SH).set q (ad q, .inr (a, (fvs ad I D q 0 fks).set b (.double x))) = wld ad dA I (up2 D q b x) 0 SH :=
        wld_set hs (fun _ _ => rfl) (fun i hi => up2_ne hi) (by rw [fvs_setD hf]; rfl)
      rcases hok with ⟨rfl, rfl⟩ | ⟨rfl, rfl⟩ | ⟨rfl, rfl⟩
      · exact h2.elim
      · exact h2.elim
      · exact key (.double x) q r fks _ _ hs (lenOf hf) rfl rfl hset (hk _ _ _ _ h2)
    next => exact h2.elim
  next => exact h.elim
theorem x_iald (B : BdX p R s m args c cells slots ad dA G A SH H0 nL cc own d SC) (hd : decode cc pc = .ok (.iaload, 1)) (h : xald SH 0 st I (fun r => k lv r I D)) (hk : ∀ lv st I D, k lv st I D → AtM p l e R s m args below meth c cells slots Q ad dA G A SH H0 nL (pc + 1) lv st I D) : AtM p l e R s m args below meth c cells slots Q ad dA G A SH H0 nL pc lv st I D := by
  intro H locs ls hl hP hS
  unfold xald at h
  split at h
  next i q r =>
    obtain ⟨n, hs, hi, h2⟩ := atA_e h
    exact va_iald B.1 B.2.1 B.2.2.2.2.2.1 hP q 0 (wld_at hs) rfl (inn_vp hi) hd (hk _ _ _ _ h2 H locs ls hl hP hS)
  next => exact h.elim
theorem x_zald (B : BdX p R s m args c cells slots ad dA G A SH H0 nL cc own d SC) (hd : decode cc pc = .ok (.baload, 1)) (h : xald SH 1 st I (fun r => k lv r I D)) (hk : ∀ lv st I D, k lv st I D → AtM p l e R s m args below meth c cells slots Q ad dA G A SH H0 nL (pc + 1) lv st I D) : AtM p l e R s m args below meth c cells slots Q ad dA G A SH H0 nL pc lv st I D := by
  intro H locs ls hl hP hS
  unfold xald at h
  split at h
  next i q r =>
    obtain ⟨n, hs, hi, h2⟩ := atA_e h
    exact va_zald B.1 B.2.1 B.2.2.2.2.2.1 hP q 1 (wld_at hs) rfl (inn_vp hi) hd (hk _ _ _ _ h2 H locs ls hl hP hS)
  next => exact h.elim
theorem x_sald (B : BdX p R s m args c cells slots ad dA G A SH H0 nL cc own d SC) (hd : decode cc pc = .ok (.saload, 1)) (h : xald SH 2 st I (fun r => k lv r I D)) (hk : ∀ lv st I D, k lv st I D → AtM p l e R s m args below meth c cells slots Q ad dA G A SH H0 nL (pc + 1) lv st I D) : AtM p l e R s m args below meth c cells slots Q ad dA G A SH H0 nL pc lv st I D := by
  intro H locs ls hl hP hS
  unfold xald at h
  split at h
  next i q r =>
    obtain ⟨n, hs, hi, h2⟩ := atA_e h
    exact va_sald B.1 B.2.1 B.2.2.2.2.2.1 hP q 2 (wld_at hs) rfl (inn_vp hi) hd (hk _ _ _ _ h2 H locs ls hl hP hS)
  next => exact h.elim
theorem x_ild (B : BdX p R s m args c cells slots ad dA G A SH H0 nL cc own d SC) (hd : decode cc pc = .ok (.iaload, 1)) (h : xild SH SC st I (fun r => k lv r I D)) (hk : ∀ lv st I D, k lv st I D → AtM p l e R s m args below meth c cells slots Q ad dA G A SH H0 nL (pc + 1) lv st I D) : AtM p l e R s m args below meth c cells slots Q ad dA G A SH H0 nL pc lv st I D := by
  unfold xild at h
  split at h
  next => exact x_iald B hd h hk
  next z =>
    intro H locs ls hl hP hS
    split at h
    next i r =>
      obtain ⟨h1, h2, h3⟩ := B.2.2.2.2.2.2.2.1 z rfl
      exact va_sld B.1 B.2.1 h1 h2 h3 hS (inn_vp h.1) hd (hk _ _ _ _ h.2 H locs ls hl hP hS)
    next => exact h.elim
theorem x_len (B : BdX p R s m args c cells slots ad dA G A SH H0 nL cc own d SC) (hd : decode cc pc = .ok (.arraylength, 1)) (h : xlen SC st (fun r => k lv r I D)) (hk : ∀ lv st I D, k lv st I D → AtM p l e R s m args below meth c cells slots Q ad dA G A SH H0 nL (pc + 1) lv st I D) : AtM p l e R s m args below meth c cells slots Q ad dA G A SH H0 nL pc lv st I D := by
  intro H locs ls hl hP hS
  unfold xlen at h
  split at h
  next z r =>
    obtain ⟨h1, h2, h3⟩ := B.2.2.2.2.2.2.2.1 z rfl
    exact va_slen B.1 B.2.1 h1 h2 h3 hS hd (hk _ _ _ _ h H locs ls hl hP hS)
  next => exact h.elim
theorem x_dald (B : BdX p R s m args c cells slots ad dA G A SH H0 nL cc own d SC) (hd : decode cc pc = .ok (.daload, 1)) (h : xdld SH st D (fun r => k lv r I D)) (hk : ∀ lv st I D, k lv st I D → AtM p l e R s m args below meth c cells slots Q ad dA G A SH H0 nL (pc + 1) lv st I D) : AtM p l e R s m args below meth c cells slots Q ad dA G A SH H0 nL pc lv st I D := by
  intro H locs ls hl hP hS
  unfold xdld at h
  split at h
  next i q r =>
    obtain ⟨n, hs, hi, h2⟩ := atA_e h
    exact va_dald B.1 B.2.1 B.2.2.2.2.2.1 hP q 3 (wld_at hs) rfl (inn_vp hi) hd (hk _ _ _ _ h2 H locs ls hl hP hS)
  next => exact h.elim
theorem x_iast (B : BdX p R s m args c cells slots ad dA G A SH H0 nL cc own d SC) (hd : decode cc pc = .ok (.iastore, 1)) (h : xast SH 0 (fun x => x) st I (fun r I => k lv r I D)) (hk : ∀ lv st I D, k lv st I D → AtM p l e R s m args below meth c cells slots Q ad dA G A SH H0 nL (pc + 1) lv st I D) : AtM p l e R s m args below meth c cells slots Q ad dA G A SH H0 nL pc lv st I D := by
  intro H locs ls hl hP hS
  unfold xast at h
  split at h
  next x i q r =>
    obtain ⟨n, hs, hi, h2⟩ := atA_e h
    refine va_iast B.1 B.2.1 B.2.2.2.2.2.1 hP (B.2.2.2.2.2.2.1 I D) hS q 0 (wld_at hs) rfl (inn_vp hi) hd (fun H1 locs1 hP1 _ hS1 => ?_)
    rw [wld_set (I' := up2 I q i.toNatClampNeg ((fun x => x) x)) (D' := D) hs (fun i hi => up2_ne hi) (fun _ _ => rfl) (by simp only [ent, up2_row]; rfl)] at hP1
    exact hk _ _ _ _ h2 H1 locs1 ls hl hP1 hS1
  next => exact h.elim
theorem x_zast (B : BdX p R s m args c cells slots ad dA G A SH H0 nL cc own d SC) (hd : decode cc pc = .ok (.bastore, 1)) (h : xast SH 1 (vp_nar .boolean) st I (fun r I => k lv r I D)) (hk : ∀ lv st I D, k lv st I D → AtM p l e R s m args below meth c cells slots Q ad dA G A SH H0 nL (pc + 1) lv st I D) : AtM p l e R s m args below meth c cells slots Q ad dA G A SH H0 nL pc lv st I D := by
  intro H locs ls hl hP hS
  unfold xast at h
  split at h
  next x i q r =>
    obtain ⟨n, hs, hi, h2⟩ := atA_e h
    refine va_zast B.1 B.2.1 B.2.2.2.2.2.1 hP (B.2.2.2.2.2.2.1 I D) hS q 1 (wld_at hs) rfl (inn_vp hi) hd (fun H1 locs1 hP1 _ hS1 => ?_)
    rw [wld_set (I' := up2 I q i.toNatClampNeg ((vp_nar .boolean) x)) (D' := D) hs (fun i hi => up2_ne hi) (fun _ _ => rfl) (by simp only [ent, up2_row]; rfl)] at hP1
    exact hk _ _ _ _ h2 H1 locs1 ls hl hP1 hS1
  next => exact h.elim
theorem x_sast (B : BdX p R s m args c cells slots ad dA G A SH H0 nL cc own d SC) (hd : decode cc pc = .ok (.sastore, 1)) (h : xast SH 2 (vp_nar .short) st I (fun r I => k lv r I D)) (hk : ∀ lv st I D, k lv st I D → AtM p l e R s m args below meth c cells slots Q ad dA G A SH H0 nL (pc + 1) lv st I D) : AtM p l e R s m args below meth c cells slots Q ad dA G A SH H0 nL pc lv st I D := by
  intro H locs ls hl hP hS
  unfold xast at h
  split at h
  next x i q r =>
    obtain ⟨n, hs, hi, h2⟩ := atA_e h
    refine va_sast B.1 B.2.1 B.2.2.2.2.2.1 hP (B.2.2.2.2.2.2.1 I D) hS q 2 (wld_at hs) rfl (inn_vp hi) hd (fun H1 locs1 hP1 _ hS1 => ?_)
    rw [wld_set (I' := up2 I q i.toNatClampNeg ((vp_nar .short) x)) (D' := D) hs (fun i hi => up2_ne hi) (fun _ _ => rfl) (by simp only [ent, up2_row]; rfl)] at hP1
    exact hk _ _ _ _ h2 H1 locs1 ls hl hP1 hS1
  next => exact h.elim
theorem x_dast (B : BdX p R s m args c cells slots ad dA G A SH H0 nL cc own d SC) (hd : decode cc pc = .ok (.dastore, 1)) (h : xdst SH st D (fun r D => k lv r I D)) (hk : ∀ lv st I D, k lv st I D → AtM p l e R s m args below meth c cells slots Q ad dA G A SH H0 nL (pc + 1) lv st I D) : AtM p l e R s m args below meth c cells slots Q ad dA G A SH H0 nL pc lv st I D := by
  intro H locs ls hl hP hS
  unfold xdst at h
  split at h
  next x i q r =>
    obtain ⟨n, hs, hi, h2⟩ := atA_e h
    refine va_dast B.1 B.2.1 B.2.2.2.2.2.1 hP (B.2.2.2.2.2.2.1 I D) hS q 3 (wld_at hs) rfl (inn_vp hi) hd (fun H1 locs1 hP1 _ hS1 => ?_)
    rw [wld_set (I' := I) (D' := up2 D q i.toNatClampNeg x) hs (fun _ _ => rfl) (fun i hi => up2_ne hi) (by simp only [ent, up2_rowD]; rfl)] at hP1
    exact hk _ _ _ _ h2 H1 locs1 ls hl hP1 hS1
  next => exact h.elim
end RH
end
section
/-! a method's contract, and calls by it -/
def rmd (d : Nat) : Room := { frames := d + 1, cells := 0, slots := 0, locals := 64 * (d + 1) }
def AdOk (ad : Nat → Nat) (A : Nat → Prop) (n : Nat) : Prop := (∀ i j, i < n → j < n → ad i = ad j → i = j) ∧ ∀ i, i < n → A (ad i)
def PcM (g : Gp) (SH : List Sh) (As : List Value) (I : MI) (D : MD) : Array Value → State → Prop := va_Pc (As.map (cv g.2.1)) (fun U => AdOk g.2.1 g.2.2.2.2 SH.length ∧ va_K g.2.2.2.1 vwCl (tysOf g.2.2.1) U ∧ NwOk U ∧ va_P g.2.2.2.1 vwCl (wld g.2.1 g.2.2.1 I D 0 SH) U.heap)
def QcM (g : Gp) (SH : List Sh) (Post : Po) : Array Value → State → Outcome → State → Prop := fun _ st oc t => (∃ r I D, oc = .returned (r.map (cv g.2.1)) ∧ Post r I D ∧ va_P g.2.2.2.1 vwCl (wld g.2.1 g.2.2.1 I D 0 SH) t.heap) ∧ va_F g.2.2.2.2 st t
/-- method mid, called with As over the contents I, D, with room for d calls one in the other, answers and leaves contents as Post says -/
def Con (g : Gp) (SH : List Sh) (d mid : Nat) (As : List Value) (I : MI) (D : MD) (Post : Po) : Prop :=
  ∀ q : Me, nth MT mid = some q → Met g.1 q.1 (Cond.code q.1 q.2.1 q.2.2.1 q.2.2.2.1 :: gt) (rmd d) (PcM g SH As I D) (QcM g SH Post) 0 0 g.2.2.2.2
def CaD (g : Gp) (SH : List Sh) : Nat → Ck
  | 0 => fun _ _ _ _ _ => False
  | d + 1 => fun mid As I D k => ∃ Post, Con g SH d mid As I D Post ∧ ∀ o I' D', Post o I' D' → k o I' D'
theorem wld_D {ad : Nat → Nat} {dA : Nat → ClassId} {A : Nat → Prop} {SH : List Sh} (h : AdOk ad A SH.length) (I : MI) (D : MD) : va_D A (wld ad dA I D 0 SH) := by
  have e : ∀ (k : Nat) (q : Nat × va_E), (wld ad dA I D 0 SH)[k]? = some q → k < SH.length ∧ q.1 = ad k := by
    intro k q hq
    have hl : k < (wld ad dA I D 0 SH).length := (List.getElem?_eq_some_iff.mp hq).1
    rw [wld_len] at hl
    rw [wld_get, List.getElem?_eq_getElem hl] at hq
    simp only [Option.map_some, Option.some.injEq, Nat.zero_add] at hq
    exact ⟨hl, by rw [← hq]⟩
  refine ⟨fun i j x y hi hj hxy => ?_, fun k q hq => ?_⟩
  · obtain ⟨h1, h2⟩ := e i x hi
    obtain ⟨h3, h4⟩ := e j y hj
    exact h.1 i j h1 h3 (by rw [← h2, ← h4]; exact hxy)
  · obtain ⟨h1, h2⟩ := e k q hq
    rw [h2]
    exact h.2 k h1
theorem PcM_blind (g : Gp) (SH : List Sh) (As : List Value) (I : MI) (D : MD) : FrameBlind (PcM g SH As I D) := by
  intro a U gf mk q
  obtain ⟨q0, q1, qK, qN, qP⟩ := q
  exact ⟨q0, q1, va_K.moved (u := U) (U := U.calling gf mk a) (Vm.Alike.refl U.vm) qK, NwOk.same (s := U) rfl qN, qP⟩
theorem gt_goodIn {w : Cond} (hw : w ∈ gt) : GoodIn gt (w :: gt) := by
  intro x hx
  have hm : x ∈ gt := (List.mem_cons.mp hx).elim (fun e => by rw [e]; exact hw) (fun h => h)
  exact ⟨hm, good_of_word (List.mem_filter.mp hm).2⟩
section RC
variable {p : Program} {l : Launch} {e : Env} {R : Room} {s : State} {m : MethodId} {args : Array Value} {below : List Frame} {meth : Method} {c : Code} {cells slots : Nat} {Q : State → Prop}
variable {ad : Nat → Nat} {dA : Nat → ClassId} {G : va_G} {A : Nat → Prop} {SH : List Sh} {H0 : Heap} {nL : Nat} {cc : ByteArray} {own : String} {d : Nat} {SC : Option (Nat × (Nat → Int32))}
variable {pc : Nat} {lv : Lv} {st : List Value} {I : MI} {D : MD} {k : Nt} {a b : Nat} {v : Value}
theorem cl_go {H : Heap} {locs : List Loc} {ls : Array Slot} {st0 rest : List Value} {Post : Po} {av : Array Value} (hr : va_Run p l e R s m args below meth c H locs cells slots 0 0 (F0 m pc ls st0) rest (QcM (l, ad, dA, G, A) SH Post av) A) (hS : va_S A H0 H locs)
    (kk : ∀ r I' D' H1 locs1, Post r I' D' → va_P G vwCl (wld ad dA I' D' 0 SH) H1 → va_S A H0 H1 locs1 → W p l e R s m args below meth c H1 locs1 cells slots Q (F0 m (pc + 3) ls ((r.map (cv ad)).toList ++ rest))) : W p l e R s m args below meth c H locs cells slots Q (F0 m pc ls st0) := by
  intro T hT X
  obtain ⟨v, st₀, t, T', L, h0, X', hL, e1, e2, ⟨⟨r, I', D', hv, hp, hb⟩, hz, hk⟩, st⟩ := hr T hT X
  cases hv
  rw [h0] at hz hk
  obtain ⟨t2, a1, b1⟩ := kk r I' D' T'.heap (locs ++ L) hp (by rw [e1]; exact hb)
    ⟨Nat.le_trans hS.1 (by rw [e1]; exact hz), fun q h1 h2 => by rw [e1, hk q (Nat.lt_of_lt_of_le h1 hS.1) h2]; exact hS.2.1 q h1 h2, fun q hq => by
      rcases List.mem_append.mp hq with h | h
      · exact hS.2.2 q h
      · exact hL q h⟩ T' rfl X'
  exact ⟨t2, st t2 a1, b1⟩
theorem okM_e {q : Me} (h : okM q = true) : q.1.cls ≠ "java/lang/invoke/MethodHandle" ∧ q.1.cls ≠ "java/lang/invoke/VarHandle" ∧ (parseMethodDescriptor q.1.desc).map (fun d => d.parameters.length) = some q.2.2.2.2.1 ∧ q.2.2.1 ≤ 40 ∧ plainFor q.1 = true ∧ (q.2.2.2.2.2.1 = false → (vwCl[q.2.2.2.2.2.2.1]?).map (fun z => z.1) = some q.1.cls) := by
  unfold okM at h
  simp only [Bool.and_eq_true, decide_eq_true_eq] at h
  obtain ⟨⟨⟨⟨⟨h1, h2⟩, h3⟩, h4⟩, h5⟩, h6⟩ := h
  refine ⟨h1, h2, h3, Nat.le_of_ble_eq_true h4, h5, fun hs => ?_⟩
  rw [hs] at h6
  simpa using h6
theorem map_cv_cat (r : List Value) : ((r.map (cv ad)).map fun v => v.category).sum = csum r := by
  rw [csum_e, List.map_map]
  congr 1
  apply List.map_congr_left
  intro x _
  exact cv_cat ad x
theorem opt_map (r : Option Value) (rest : List Value) : (r.map (cv ad)).toList ++ rest.map (cv ad) = (r.toList ++ rest).map (cv ad) := by
  cases r <;> simp
theorem x_callS {n : Nat} {q : Me} (B : BdX p R s m args c cells slots ad dA G A SH H0 nL cc own d SC) (hAd : AdOk ad A SH.length) (hd : decode cc pc = .ok (.invokestatic n, 3)) (hq : nth MT a = some q) (hst : q.2.2.2.2.2.1 = true) (hb : q.2.2.2.2.1 = b) (hw : Cond.methodLink own n q.1 ∈ gt)
    (h : popN b st [] (fun As r => okst r (CaD (l, ad, dA, G, A) SH d a As I D (fun o I' D' => k lv (o.toList ++ r) I' D')))) (hk : ∀ lv st I D, k lv st I D → AtM p l e R s m args below meth c cells slots Q ad dA G A SH H0 nL (pc + 3) lv st I D) : AtM p l e R s m args below meth c cells slots Q ad dA G A SH H0 nL pc lv st I D := by
  obtain ⟨vs, r, hn, rfl, h1⟩ := popN_e h
  rw [List.append_nil] at h1
  obtain ⟨hcs, h2⟩ := okst_e h1
  cases d with
  | zero => exact h2.elim
  | succ d =>
    obtain ⟨Post, hC, hkon⟩ := h2
    intro H locs ls hl hP hS
    obtain ⟨o1, o2, o3, o4, o5, -⟩ := okM_e (mt_good hq)
    obtain ⟨w1, w2, w3, -⟩ := mt_words hq
    obtain ⟨hx, hbb, hml, hown, hts, hK, -, -, ⟨r1, r2, r3, r4⟩, hN⟩ := id B
    have hM := hC q hq
    refine cl_go (hr := va_runS (As := (vs.reverse).map (cv ad)) (rest := r.map (cv ad)) ⟨hx, hbb, hml, hown, hts⟩ hM ⟨callB_of b hts (gt_goodIn w1) rfl rfl rfl (hts _ w2) (hts _ hw) ⟨o1, o2, by rw [← hb]; exact o3⟩ ⟨?_, ?_⟩, hts _ (w3 hst)⟩ ⟨PcM_blind _ _ _ _ _, fun U hU hW => ⟨rfl, hAd, va_K.moved hW.alike hK, NwOk.warm hW hN, by rw [hU]; exact hP⟩⟩ rfl ?_ hl.1 ?_ ?_ hd ⟨r3, r4⟩) hS (fun r I' D' H1 locs1 hp hP1 hS1 => ?_)
    · show d + 1 + 1 ≤ R.frames
      omega
    · show 8 + (q.2.2.1 + 11) + 64 * (d + 1) ≤ R.locals
      omega
    · simp [hn]
    · simp
    · refine lv_room ?_
      rw [map_cv_cat]
      exact hcs
    · have h5 := hk _ _ _ _ (hkon r I' D' hp) H1 locs1 ls hl hP1 hS1
      rw [← opt_map] at h5
      exact h5
theorem x_callV {n ci : Nat} {q : Me} (B : BdX p R s m args c cells slots ad dA G A SH H0 nL cc own d SC) (hAd : AdOk ad A SH.length) (hd : decode cc pc = .ok (.invokevirtual n, 3)) (hq : nth MT a = some q) (hst : q.2.2.2.2.2.1 = false) (hb : q.2.2.2.2.1 = b) (hci : q.2.2.2.2.2.2.1 = ci) (hw : Cond.methodLink own n q.1 ∈ gt)
    (h : popN b st [] (fun As r => tR r (fun t r => atO SH t ci (fun _ => okst r (CaD (l, ad, dA, G, A) SH d a (.ref t :: As) I D (fun o I' D' => k lv (o.toList ++ r) I' D')))))) (hk : ∀ lv st I D, k lv st I D → AtM p l e R s m args below meth c cells slots Q ad dA G A SH H0 nL (pc + 3) lv st I D) : AtM p l e R s m args below meth c cells slots Q ad dA G A SH H0 nL pc lv st I D := by
  obtain ⟨vs, r, hn, rfl, h1⟩ := popN_e h
  rw [List.append_nil] at h1
  obtain ⟨t, r, rfl, h3⟩ := tR_e h1
  obtain ⟨fks, hs, h4⟩ := atO_e h3
  obtain ⟨hcs, h2⟩ := okst_e h4
  cases d with
  | zero => exact h2.elim
  | succ d =>
    obtain ⟨Post, hC, hkon⟩ := h2
    intro H locs ls hl hP hS
    obtain ⟨o1, o2, o3, o4, o5, o6⟩ := okM_e (mt_good hq)
    obtain ⟨w1, w2, -, w3⟩ := mt_words hq
    obtain ⟨hx, hbb, hml, hown, hts, hK, -, -, ⟨r1, r2, r3, r4⟩, hN⟩ := id B
    have hM := hC q hq
    have hrecv : ∃ cellB : Cell, H[ad t]? = some cellB ∧ cellB.vm.isStatics = false ∧ s.vm.findClass q.1.cls = some cellB.cls := by
      have h6 := o6 hst
      rw [hci] at h6
      cases hz : vwCl[ci]? with
      | none => rw [hz] at h6; cases h6
      | some z =>
        rw [hz] at h6
        have h7 : z.1 = q.1.cls := by simpa using h6
        obtain ⟨cell, g1, g2, g3⟩ := va_recv hK hP hz (wld_at hs)
        exact ⟨cell, g1, g2, by rw [← h7]; exact g3⟩
    refine cl_go (hr := va_runV (C := q.1.cls) (b := ad t) (As := (vs.reverse).map (cv ad)) (rest := r.map (cv ad)) ⟨hx, hbb, hml, hown, hts⟩ hM ⟨callB_of b hts (gt_goodIn w1) rfl rfl rfl (hts _ w2) (hts _ hw) ⟨o1, o2, by rw [← hb]; exact o3⟩ ⟨?_, ?_⟩, hts _ (w3 hst).1, hts _ (w3 hst).2⟩ ⟨PcM_blind _ _ _ _ _, hrecv, fun U hU hW => ⟨rfl, hAd, va_K.moved hW.alike hK, NwOk.warm hW hN, by rw [hU]; exact hP⟩⟩ rfl ?_ hl.1 ?_ ?_ hd ⟨r3, r4⟩) hS (fun r I' D' H1 locs1 hp hP1 hS1 => ?_)
    · show d + 1 + 1 ≤ R.frames
      omega
    · show 8 + (q.2.2.1 + 11) + 64 * (d + 1) ≤ R.locals
      omega
    · simp [hn]
    · simp [cv]
    · refine lv_room ?_
      rw [map_cv_cat]
      exact hcs
    · have h5 := hk _ _ _ _ (hkon r I' D' hp) H1 locs1 ls hl hP1 hS1
      rw [← opt_map] at h5
      exact h5
theorem x_nat1 {n : Nat} (B : BdX p R s m args c cells slots ad dA G A SH H0 nL cc own d SC) (hd : decode cc pc = .ok (.invokestatic n, 3)) (hw : Cond.methodLink own n (yN 1) ∈ gt) (h : tI st (fun x r => okst r (vn_sni2f x = false ∧ k lv (.float x.toUInt32 :: r) I D))) (hk : ∀ lv st I D, k lv st I D → AtM p l e R s m args below meth c cells slots Q ad dA G A SH H0 nL (pc + 3) lv st I D) : AtM p l e R s m args below meth c cells slots Q ad dA G A SH H0 nL pc lv st I D := by
  obtain ⟨x, r, rfl, h1⟩ := tI_e h
  obtain ⟨hcs, h2, h3⟩ := okst_e h1
  intro H locs ls hl hP hS
  obtain ⟨hx, hbb, hml, hown, hts, hK, -, -, ⟨r1, r2, r3, r4⟩, hN⟩ := id B
  exact vn_i2f hx hbb (by rw [hml, hl.1]) hown (hts _ hw) (hts _ nat_ok.1.1) (hts _ nat_ok.1.2.1) (hts _ nat_ok.1.2.2) h2 (by omega) (by rw [map_cv_cat]; omega) hd (hk _ _ _ _ h3 H locs ls hl hP hS)
theorem x_nat2 {n : Nat} (B : BdX p R s m args c cells slots ad dA G A SH H0 nL cc own d SC) (hd : decode cc pc = .ok (.invokestatic n, 3)) (hw : Cond.methodLink own n (yN 2) ∈ gt) (h : tD st (fun x r => okst r (k lv (.long x.toInt64 :: r) I D))) (hk : ∀ lv st I D, k lv st I D → AtM p l e R s m args below meth c cells slots Q ad dA G A SH H0 nL (pc + 3) lv st I D) : AtM p l e R s m args below meth c cells slots Q ad dA G A SH H0 nL pc lv st I D := by
  obtain ⟨x, r, rfl, h1⟩ := tD_e h
  obtain ⟨hcs, h3⟩ := okst_e h1
  intro H locs ls hl hP hS
  obtain ⟨hx, hbb, hml, hown, hts, hK, -, -, ⟨r1, r2, r3, r4⟩, hN⟩ := id B
  exact vn_d2l hx hbb (by rw [hml, hl.1]) hown (hts _ hw) (hts _ nat_ok.2.1) (hts _ nat_ok.2.2.1) (hts _ nat_ok.2.2.2) (by omega) (by rw [map_cv_cat]; omega) hd (hk _ _ _ _ h3 H locs ls hl hP hS)
theorem swt_e {x : Int32} {jp : Int → Prop} {P : Prop} : ∀ {os : List Int} {n : Int}, swt x jp P n os → (∀ (i : Nat) (o : Int), os[i]? = some o → x.toInt = n + i → jp o) ∧ P
  | [], n, h => ⟨fun i o hi => by simp at hi, h⟩
  | o :: os, n, h => by
    obtain ⟨h1, h2⟩ := h
    obtain ⟨h3, h4⟩ := swt_e h2
    refine ⟨fun i o' hi hx => ?_, h4⟩
    cases i with
    | zero =>
      simp only [List.getElem?_cons_zero, Option.some.injEq] at hi
      subst hi
      exact h1 (by simpa using hx)
    | succ i =>
      simp only [List.getElem?_cons_succ] at hi
      exact h3 i o' hi (by rw [hx]; push_cast; omega)
theorem tgt_e {pc : Nat} {o : Int} (h : 0 ≤ (pc : Int) + o) : (pc : Int) + o = (tgt pc o : Int) := by
  unfold tgt
  omega
theorem x_tsw {dflt lo hi : Int} {offs : Array Int} {len : Nat} {jp : Kt} (B : BdX p R s m args c cells slots ad dA G A SH H0 nL cc own d SC) (hd : decode cc pc = .ok (.tableswitch dflt lo hi offs, len)) (hsz : (offs.toList.length : Int) = hi - lo + 1) (ht : ∀ o ∈ dflt :: offs.toList, 0 ≤ (pc : Int) + o)
    (h : tI st (fun x r => swt x (fun o => jp (tgt pc o) lv r I D) ((x.toInt < lo ∨ hi < x.toInt) → jp (tgt pc dflt) lv r I D) lo offs.toList)) (hj : ∀ t lv st I D, jp t lv st I D → AtM p l e R s m args below meth c cells slots Q ad dA G A SH H0 nL t lv st I D) : AtM p l e R s m args below meth c cells slots Q ad dA G A SH H0 nL pc lv st I D := by
  obtain ⟨x, r, rfl, h1⟩ := tI_e h
  obtain ⟨h2, h3⟩ := swt_e h1
  intro H locs ls hl hP hS
  by_cases hx : x.toInt < lo ∨ hi < x.toInt
  · exact lv_tableOut B.1 B.2.1 hd hx (tgt_e (ht _ List.mem_cons_self)) (hj _ _ _ _ _ (h3 hx) H locs ls hl hP hS)
  · have hx1 : ¬ x.toInt < lo := fun q => hx (Or.inl q)
    have hx2 : ¬ hi < x.toInt := fun q => hx (Or.inr q)
    have hlt : (x.toInt - lo).toNat < offs.toList.length := by omega
    have ho : offs.toList[(x.toInt - lo).toNat]? = some offs.toList[(x.toInt - lo).toNat] := List.getElem?_eq_getElem hlt
    exact lv_tableIn B.1 B.2.1 hd hx1 hx2 (by rw [← Array.getElem?_toList]; exact ho) (tgt_e (ht _ (List.mem_cons_of_mem _ (List.getElem_mem hlt)))) (hj _ _ _ _ _ (h2 _ _ ho (by omega)) H locs ls hl hP hS)
theorem swl_e {x : Int32} {jp : Int → Prop} {dflt : Int} : ∀ {ps : List (Int × Int)} {P : Prop}, (P → jp dflt) → swl x jp ps P → jp (Op.lookupswitch.offset ps dflt x.toInt)
  | [], P, hP, h => by
    have e : Op.lookupswitch.offset [] dflt x.toInt = dflt := by rfl
    rw [e]
    exact hP h
  | q :: qs, P, hP, h => by
    obtain ⟨h1, h2⟩ := h
    rw [Op.lookupswitch.offset_cons]
    split
    next he => exact h1 he.symm
    next he => exact swl_e (fun h => hP (h (fun z => he z.symm))) h2
theorem x_lsw {dflt : Int} {ps : Array (Int × Int)} {len : Nat} {jp : Kt} (B : BdX p R s m args c cells slots ad dA G A SH H0 nL cc own d SC) (hd : decode cc pc = .ok (.lookupswitch dflt ps, len)) (hp : (ps.toList.zip (ps.toList.drop 1)).all (fun (a, next) => a.1 < next.1) = true) (ht : ∀ o ∈ dflt :: ps.toList.map (fun q => q.2), 0 ≤ (pc : Int) + o)
    (h : tI st (fun x r => swl x (fun o => jp (tgt pc o) lv r I D) ps.toList (jp (tgt pc dflt) lv r I D))) (hj : ∀ t lv st I D, jp t lv st I D → AtM p l e R s m args below meth c cells slots Q ad dA G A SH H0 nL t lv st I D) : AtM p l e R s m args below meth c cells slots Q ad dA G A SH H0 nL pc lv st I D := by
  obtain ⟨x, r, rfl, h1⟩ := tI_e h
  have h2 := swl_e (dflt := dflt) (fun q => q) h1
  intro H locs ls hl hP hS
  refine lv_lookup B.1 B.2.1 hd hp rfl (tgt_e ?_) (hj _ _ _ _ _ h2 H locs ls hl hP hS)
  have : ∀ (qs : List (Int × Int)), (∀ o ∈ dflt :: qs.map (fun q => q.2), 0 ≤ (pc : Int) + o) → 0 ≤ (pc : Int) + Op.lookupswitch.offset qs dflt x.toInt := by
    intro qs
    induction qs with
    | nil => intro hh; exact hh _ List.mem_cons_self
    | cons q qs ih =>
      intro hh
      rw [Op.lookupswitch.offset_cons]
      split
      next => exact hh _ (List.mem_cons_of_mem _ (by simp))
      next => exact ih (fun o ho => hh o ((List.mem_cons.mp ho).elim (fun e => by rw [e]; exact List.mem_cons_self) (fun h => List.mem_cons_of_mem _ (by simp only [List.map_cons]; exact List.mem_cons_of_mem _ h))))
  exact this _ ht
end RC
end
section
/-! the check of a resolved instruction against the bytes, and the walk of a stretch -/
def okv (own : String) (P : Pl) (n : Nat) (v : Value) : Bool := P.2.2.1.any (fun q => Nat.beq q.1 n && decide (q.2.1 = v))
def isIF (v : Value) : Bool := match v with
  | .int _ => true
  | .float _ => true
  | _ => false
def isLD (v : Value) : Bool := match v with
  | .long _ => true
  | .double _ => true
  | _ => false
def okf (P : Pl) (n a b : Nat) : Bool := Nat.blt a 13 && Nat.blt b (cT a).2.2 && P.2.1.any (fun q => Nat.beq q.1 n && Nat.beq q.2.1 a && Nat.beq q.2.2.1 b)
def okc (P : Pl) (n a b : Nat) (st : Bool) (ci : Nat) : Bool := match nth MT a with
  | some q => Nat.beq q.2.2.2.2.1 b && (q.2.2.2.2.2.1 == st) && Nat.beq q.2.2.2.2.2.2.1 ci && P.2.2.2.1.any (fun z => Nat.beq z.1 n && Nat.beq z.2.1 a)
  | none => false
def okn (P : Pl) (n t : Nat) : Bool := P.2.2.2.2.any (fun z => Nat.beq z.1 n && Nat.beq z.2.1 t)
/-- pc: the place; nx: the place behind it -/
def okI (P : Pl) (rt : Option FieldType) (nL pc nx : Nat) (i : Instr) (a b : Nat) (v : Value) : Bool := match i with
  | .iconst n => Nat.beq nx (pc + 1) && decide (v = .int (Int32.ofInt n))
  | .bipush n => Nat.beq nx (pc + 2) && decide (v = .int (Int8.ofInt n).toInt32)
  | .sipush n => Nat.beq nx (pc + 3) && decide (v = .int (Int16.ofInt n).toInt32)
  | .lconst n => Nat.beq nx (pc + 1) && decide (v = .long (Int64.ofNat n.val))
  | .dconst n => Nat.beq nx (pc + 1) && decide (v = .double (if n = 0 then FP.dconst0 else FP.dconst1))
  | .fconst n => Nat.beq nx (pc + 1) && decide (n = 0) && decide (v = .float FP.fconst0)
  | .ldc n => Nat.beq nx (pc + 2) && okv P.1 P n v && isIF v
  | .ldc_w n => Nat.beq nx (pc + 3) && okv P.1 P n v && isIF v
  | .ldc2_w n => Nat.beq nx (pc + 3) && okv P.1 P n v && isLD v
  | .iload n => Nat.beq nx (pc + 2) && Nat.beq n a
  | .iload_n n => Nat.beq nx (pc + 1) && Nat.beq n.val a
  | .lload n => Nat.beq nx (pc + 2) && Nat.beq n a
  | .lload_n n => Nat.beq nx (pc + 1) && Nat.beq n.val a
  | .fload n => Nat.beq nx (pc + 2) && Nat.beq n a
  | .dload n => Nat.beq nx (pc + 2) && Nat.beq n a
  | .dload_n n => Nat.beq nx (pc + 1) && Nat.beq n.val a
  | .aload n => Nat.beq nx (pc + 2) && Nat.beq n a
  | .aload_n n => Nat.beq nx (pc + 1) && Nat.beq n.val a
  | .istore n => Nat.beq nx (pc + 2) && Nat.beq n a && Nat.blt a nL
  | .istore_n n => Nat.beq nx (pc + 1) && Nat.beq n.val a && Nat.blt a nL
  | .lstore n => Nat.beq nx (pc + 2) && Nat.beq n a && Nat.blt (a + 1) nL
  | .fstore n => Nat.beq nx (pc + 2) && Nat.beq n a && Nat.blt a nL
  | .dstore n => Nat.beq nx (pc + 2) && Nat.beq n a && Nat.blt (a + 1) nL
  | .dstore_n n => Nat.beq nx (pc + 1) && Nat.beq n.val a && Nat.blt (a + 1) nL
  | .iinc n c => Nat.beq nx (pc + 3) && Nat.beq n a && Nat.blt a nL && decide (v = .int (Int32.ofInt c))
  | .getfield n => Nat.beq nx (pc + 3) && okf P n a b
  | .putfield n => Nat.beq nx (pc + 3) && okf P n a b && !((cT a).2.1 b).2.2.2 && (match v with
    | .null => decide (parseFieldDescriptor ((cT a).2.1 b).2.2.1 = some .int)
    | .ref 1 => decide (parseFieldDescriptor ((cT a).2.1 b).2.2.1 = some .boolean)
    | .ref 2 => decide (parseFieldDescriptor ((cT a).2.1 b).2.2.1 = some .double)
    | _ => false)
  | .goto o => Nat.beq nx (pc + 3) && decide ((pc : Int) + o = (a : Int))
  | .ifCond _ o => Nat.beq nx (pc + 3) && decide ((pc : Int) + o = (a : Int))
  | .if_icmp _ o => Nat.beq nx (pc + 3) && decide ((pc : Int) + o = (a : Int))
  | .tableswitch d lo hi offs => decide ((offs.toList.length : Int) = hi - lo + 1) && (d :: offs.toList).all (fun o => decide (0 ≤ (pc : Int) + o))
  | .lookupswitch d ps => (ps.toList.zip (ps.toList.drop 1)).all (fun (a, next) => a.1 < next.1) && (d :: ps.toList.map (fun q => q.2)).all (fun o => decide (0 ≤ (pc : Int) + o))
  | .invokestatic n => Nat.beq nx (pc + 3) && (match v with
    | .ref 0 => okc P n a b true 99 || okc P n a b true (match nth MT a with
      | some q => q.2.2.2.2.2.2.1
      | none => 0)
    | .ref 1 => okn P n 1
    | .ref 2 => okn P n 2
    | _ => false)
  | .invokevirtual n => Nat.beq nx (pc + 3) && (match v with
    | .ref ci => okc P n a b false ci
    | _ => false)
  | .ireturn => Nat.beq nx (pc + 1) && (match a with
    | 1 => decide (rt = some .boolean)
    | _ => decide (rt = some .int))
  | .lreturn => Nat.beq nx (pc + 1) && decide (rt = some .long)
  | .dreturn => Nat.beq nx (pc + 1) && decide (rt = some .double)
  | .return_ => Nat.beq nx (pc + 1) && decide (rt = none)
  | _ => Nat.beq nx (pc + 1)
def hdp (e : Nat) : List Op → Nat
  | [] => e
  | q :: _ => q.1
def okS (P : Pl) (rt : Option FieldType) (nL : Nat) (cc : ByteArray) (e : Nat) : List Op → Bool
  | [] => true
  | q :: r => decide (decode cc q.1 = .ok (q.2.1, hdp e r - q.1)) && okI P rt nL q.1 (hdp e r) q.2.1 q.2.2.1 q.2.2.2.1 q.2.2.2.2 && okS P rt nL cc e r
theorem okv_e {P : Pl} (hP : PlOk P) {n : Nat} {v : Value} (h : okv P.1 P n v = true) : ∃ t o, wC P.1 (n, v, t, o) ∈ gt := by
  unfold okv at h
  obtain ⟨q, hq, h1⟩ := List.any_eq_true.mp h
  simp only [Bool.and_eq_true, decide_eq_true_eq] at h1
  have e1 := Nat.eq_of_beq_eq_true h1.1
  obtain ⟨n', v', t, o⟩ := q
  dsimp only at e1 h1
  obtain ⟨-, rfl⟩ := h1
  subst e1
  exact ⟨t, o, pl_c hP hq⟩
theorem okf_e {P : Pl} (hP : PlOk P) {n a b : Nat} (h : okf P n a b = true) : a < 13 ∧ b < (cT a).2.2 ∧ ∃ z t o, wF P.1 (n, a, b, z, t, o) ∈ lw_tbl := by
  unfold okf at h
  simp only [Bool.and_eq_true] at h
  obtain ⟨⟨h1, h2⟩, h3⟩ := h
  refine ⟨by simpa [Nat.blt_eq] using h1, by simpa [Nat.blt_eq] using h2, ?_⟩
  obtain ⟨q, hq, h4⟩ := List.any_eq_true.mp h3
  simp only [Bool.and_eq_true] at h4
  obtain ⟨⟨h5, h6⟩, h7⟩ := h4
  obtain ⟨n', a', b', z, t, o⟩ := q
  have e1 := Nat.eq_of_beq_eq_true h5
  have e2 := Nat.eq_of_beq_eq_true h6
  have e3 := Nat.eq_of_beq_eq_true h7
  dsimp only at e1 e2 e3
  subst e1; subst e2; subst e3
  exact ⟨z, t, o, pl_f hP hq⟩
theorem okc_e {P : Pl} (hP : PlOk P) {n a b ci : Nat} {st : Bool} (h : okc P n a b st ci = true) : ∃ q, nth MT a = some q ∧ q.2.2.2.2.1 = b ∧ q.2.2.2.2.2.1 = st ∧ q.2.2.2.2.2.2.1 = ci ∧ Cond.methodLink P.1 n q.1 ∈ gt := by
  unfold okc at h
  cases hq : nth MT a with
  | none => rw [hq] at h; cases h
  | some q =>
    rw [hq] at h
    simp only [Bool.and_eq_true, beq_iff_eq] at h
    obtain ⟨⟨⟨h1, h2⟩, h3⟩, h4⟩ := h
    obtain ⟨z, hz, h5⟩ := List.any_eq_true.mp h4
    simp only [Bool.and_eq_true] at h5
    obtain ⟨n', a', t, o⟩ := z
    have e1 := Nat.eq_of_beq_eq_true h5.1
    have e2 := Nat.eq_of_beq_eq_true h5.2
    dsimp only at e1 e2
    subst e1; subst e2
    have h6 := pl_m hP hz
    unfold wM at h6
    dsimp only at h6
    rw [hq] at h6
    exact ⟨q, rfl, Nat.eq_of_beq_eq_true h1, h2, Nat.eq_of_beq_eq_true h3, h6⟩
theorem okn_e {P : Pl} (hP : PlOk P) {n t : Nat} (h : okn P n t = true) : Cond.methodLink P.1 n (yN t) ∈ gt := by
  unfold okn at h
  obtain ⟨z, hz, h5⟩ := List.any_eq_true.mp h
  simp only [Bool.and_eq_true] at h5
  obtain ⟨n', a', t', o⟩ := z
  have e1 := Nat.eq_of_beq_eq_true h5.1
  have e2 := Nat.eq_of_beq_eq_true h5.2
  dsimp only at e1 e2
  subst e1; subst e2
  exact pl_n hP hz
theorem dec_at {cc : ByteArray} {pc nx n : Nat} {i : Instr} (hd : decode cc pc = .ok (i, nx - pc)) (h : nx = pc + n) : decode cc pc = .ok (i, n) := by
  rw [hd, h, Nat.add_sub_cancel_left]
section RX
variable {p : Program} {l : Launch} {e : Env} {R : Room} {s : State} {m : MethodId} {args : Array Value} {below : List Frame} {meth : Method} {c : Code} {cells slots : Nat} {Q : State → Prop}
variable {ad : Nat → Nat} {dA : Nat → ClassId} {G : va_G} {A : Nat → Prop} {SH : List Sh} {H0 : Heap} {nL : Nat} {cc : ByteArray} {d : Nat} {SC : Option (Nat × (Nat → Int32))} {P : Pl} {rt : Option FieldType}
set_option maxHeartbeats 4000000 in
theorem ex_sound {Rt : Rk} {pc nx : Nat} {i : Instr} {a b : Nat} {v : Value} {lv : Lv} {st : List Value} {I : MI} {D : MD} {nk : Nt} {jk : Kt} (hP : PlOk P) (B : BdX p R s m args c cells slots ad dA G A SH H0 nL cc P.1 d SC) (hAd : AdOk ad A SH.length)
    (hd : decode cc pc = .ok (i, nx - pc)) (hok : okI P rt nL pc nx i a b v = true)
    (h : ex SH SC Rt (CaD (l, ad, dA, G, A) SH d) pc i a b v lv st I D nk jk) (hn : ∀ lv st I D, nk lv st I D → AtM p l e R s m args below meth c cells slots Q ad dA G A SH H0 nL nx lv st I D) (hj : ∀ t lv st I D, jk t lv st I D → AtM p l e R s m args below meth c cells slots Q ad dA G A SH H0 nL t lv st I D)
    (hR : ∀ pc i a lv st I D, (i = .ireturn ∨ i = .lreturn ∨ i = .dreturn ∨ i = .return_) → decode cc pc = .ok (i, 1) → okI P rt nL pc (pc + 1) i a 0 .null = true → Rt i a st I D → AtM p l e R s m args below meth c cells slots Q ad dA G A SH H0 nL pc lv st I D) : AtM p l e R s m args below meth c cells slots Q ad dA G A SH H0 nL pc lv st I D := by
  cases i
  case iconst n =>
    simp only [okI, Bool.and_eq_true, decide_eq_true_eq] at hok
    have e1 := Nat.eq_of_beq_eq_true hok.1
    rw [hok.2] at h
    exact x_iconst B (dec_at hd e1) rfl (e1 ▸ hn _ _ _ _ h)
  case bipush n =>
    simp only [okI, Bool.and_eq_true, decide_eq_true_eq] at hok
    have e1 := Nat.eq_of_beq_eq_true hok.1
    rw [hok.2] at h
    exact x_bipush B (dec_at hd e1) rfl (e1 ▸ hn _ _ _ _ h)
  case sipush n =>
    simp only [okI, Bool.and_eq_true, decide_eq_true_eq] at hok
    have e1 := Nat.eq_of_beq_eq_true hok.1
    rw [hok.2] at h
    exact x_sipush B (dec_at hd e1) rfl (e1 ▸ hn _ _ _ _ h)
  case lconst n =>
    simp only [okI, Bool.and_eq_true, decide_eq_true_eq] at hok
    have e1 := Nat.eq_of_beq_eq_true hok.1
    rw [hok.2] at h
    exact x_lconst B (dec_at hd e1) rfl (e1 ▸ hn _ _ _ _ h)
  case dconst n =>
    simp only [okI, Bool.and_eq_true, decide_eq_true_eq] at hok
    have e1 := Nat.eq_of_beq_eq_true hok.1
    rw [hok.2] at h
    exact x_dconst B (dec_at hd e1) rfl (e1 ▸ hn _ _ _ _ h)
  case fconst n =>
    simp only [okI, Bool.and_eq_true, decide_eq_true_eq] at hok
    obtain ⟨⟨h1, rfl⟩, h3⟩ := hok
    have e1 := Nat.eq_of_beq_eq_true h1
    rw [h3] at h
    exact x_fconst B (dec_at hd e1) rfl (e1 ▸ hn _ _ _ _ h)
  case ldc n =>
    simp only [okI, Bool.and_eq_true] at hok
    have e1 := Nat.eq_of_beq_eq_true hok.1.1
    obtain ⟨t, o, hw⟩ := okv_e hP hok.1.2
    cases v with
    | int x => exact x_ldc B (dec_at hd e1) hw (e1 ▸ hn _ _ _ _ h)
    | float x => exact x_ldcf B (dec_at hd e1) hw (e1 ▸ hn _ _ _ _ h)
    | _ => cases hok.2
  case ldc_w n =>
    simp only [okI, Bool.and_eq_true] at hok
    have e1 := Nat.eq_of_beq_eq_true hok.1.1
    obtain ⟨t, o, hw⟩ := okv_e hP hok.1.2
    cases v with
    | int x => exact x_ldcw B (dec_at hd e1) hw (e1 ▸ hn _ _ _ _ h)
    | float x => exact x_ldcwf B (dec_at hd e1) hw (e1 ▸ hn _ _ _ _ h)
    | _ => cases hok.2
  case ldc2_w n =>
    simp only [okI, Bool.and_eq_true] at hok
    have e1 := Nat.eq_of_beq_eq_true hok.1.1
    obtain ⟨t, o, hw⟩ := okv_e hP hok.1.2
    cases v with
    | long x => exact x_ldc2 B (dec_at hd e1) hw (e1 ▸ hn _ _ _ _ h)
    | double x => exact x_ldc2d B (dec_at hd e1) hw (e1 ▸ hn _ _ _ _ h)
    | _ => cases hok.2
  case iload n =>
    simp only [okI, Bool.and_eq_true] at hok
    have e1 := Nat.eq_of_beq_eq_true hok.1
    exact x_iload B (dec_at hd e1) (Nat.eq_of_beq_eq_true hok.2) h (fun _ _ _ _ q => e1 ▸ hn _ _ _ _ q)
  case iload_n n =>
    simp only [okI, Bool.and_eq_true] at hok
    have e1 := Nat.eq_of_beq_eq_true hok.1
    exact x_iload_n B (dec_at hd e1) (Nat.eq_of_beq_eq_true hok.2) h (fun _ _ _ _ q => e1 ▸ hn _ _ _ _ q)
  case lload n =>
    simp only [okI, Bool.and_eq_true] at hok
    have e1 := Nat.eq_of_beq_eq_true hok.1
    exact x_lload B (dec_at hd e1) (Nat.eq_of_beq_eq_true hok.2) h (fun _ _ _ _ q => e1 ▸ hn _ _ _ _ q)
  case lload_n n =>
    simp only [okI, Bool.and_eq_true] at hok
    have e1 := Nat.eq_of_beq_eq_true hok.1
    exact x_lload_n B (dec_at hd e1) (Nat.eq_of_beq_eq_true hok.2) h (fun _ _ _ _ q => e1 ▸ hn _ _ _ _ q)
  case fload n =>
    simp only [okI, Bool.and_eq_true] at hok
    have e1 := Nat.eq_of_beq_eq_true hok.1
    exact x_fload B (dec_at hd e1) (Nat.eq_of_beq_eq_true hok.2) h (fun _ _ _ _ q => e1 ▸ hn _ _ _ _ q)
  case dload n =>
    simp only [okI, Bool.and_eq_true] at hok
    have e1 := Nat.eq_of_beq_eq_true hok.1
    exact x_dload B (dec_at hd e1) (Nat.eq_of_beq_eq_true hok.2) h (fun _ _ _ _ q => e1 ▸ hn _ _ _ _ q)
  case dload_n n =>
    simp only [okI, Bool.and_eq_true] at hok
    have e1 := Nat.eq_of_beq_eq_true hok.1
    exact x_dload_n B (dec_at hd e1) (Nat.eq_of_beq_eq_true hok.2) h (fun _ _ _ _ q => e1 ▸ hn _ _ _ _ q)
  case aload n =>
    simp only [okI, Bool.and_eq_true] at hok
    have e1 := Nat.eq_of_beq_eq_true hok.1
    exact x_aload B (dec_at hd e1) (Nat.eq_of_beq_eq_true hok.2) h (fun _ _ _ _ q => e1 ▸ hn _ _ _ _ q)
  case aload_n n =>
    simp only [okI, Bool.and_eq_true] at hok
    have e1 := Nat.eq_of_beq_eq_true hok.1
    exact x_aload_n B (dec_at hd e1) (Nat.eq_of_beq_eq_true hok.2) h (fun _ _ _ _ q => e1 ▸ hn _ _ _ _ q)
  case istore n =>
    simp only [okI, Bool.and_eq_true] at hok
    have e1 := Nat.eq_of_beq_eq_true hok.1.1
    exact x_istore B (dec_at hd e1) (Nat.eq_of_beq_eq_true hok.1.2) (by simpa [Nat.blt_eq] using hok.2) h (fun _ _ _ _ q => e1 ▸ hn _ _ _ _ q)
  case istore_n n =>
    simp only [okI, Bool.and_eq_true] at hok
    have e1 := Nat.eq_of_beq_eq_true hok.1.1
    exact x_istore_n B (dec_at hd e1) (Nat.eq_of_beq_eq_true hok.1.2) (by simpa [Nat.blt_eq] using hok.2) h (fun _ _ _ _ q => e1 ▸ hn _ _ _ _ q)
  case lstore n =>
    simp only [okI, Bool.and_eq_true] at hok
    have e1 := Nat.eq_of_beq_eq_true hok.1.1
    exact x_lstore B (dec_at hd e1) (Nat.eq_of_beq_eq_true hok.1.2) (by simpa [Nat.blt_eq] using hok.2) h (fun _ _ _ _ q => e1 ▸ hn _ _ _ _ q)
  case fstore n =>
    simp only [okI, Bool.and_eq_true] at hok
    have e1 := Nat.eq_of_beq_eq_true hok.1.1
    exact x_fstore B (dec_at hd e1) (Nat.eq_of_beq_eq_true hok.1.2) (by simpa [Nat.blt_eq] using hok.2) h (fun _ _ _ _ q => e1 ▸ hn _ _ _ _ q)
  case dstore n =>
    simp only [okI, Bool.and_eq_true] at hok
    have e1 := Nat.eq_of_beq_eq_true hok.1.1
    exact x_dstore B (dec_at hd e1) (Nat.eq_of_beq_eq_true hok.1.2) (by simpa [Nat.blt_eq] using hok.2) h (fun _ _ _ _ q => e1 ▸ hn _ _ _ _ q)
  case dstore_n n =>
    simp only [okI, Bool.and_eq_true] at hok
    have e1 := Nat.eq_of_beq_eq_true hok.1.1
    exact x_dstore_n B (dec_at hd e1) (Nat.eq_of_beq_eq_true hok.1.2) (by simpa [Nat.blt_eq] using hok.2) h (fun _ _ _ _ q => e1 ▸ hn _ _ _ _ q)
  case iinc n z =>
    simp only [okI, Bool.and_eq_true, decide_eq_true_eq] at hok
    have e1 := Nat.eq_of_beq_eq_true hok.1.1.1
    rw [hok.2] at h
    exact x_iinc B (dec_at hd e1) (Nat.eq_of_beq_eq_true hok.1.1.2) rfl (by simpa [Nat.blt_eq] using hok.1.2) h (fun _ _ _ _ q => e1 ▸ hn _ _ _ _ q)
  case iadd =>
    have e1 := Nat.eq_of_beq_eq_true hok
    exact x_iadd B (dec_at hd e1) h (fun _ _ _ _ q => e1 ▸ hn _ _ _ _ q)
  case isub =>
    have e1 := Nat.eq_of_beq_eq_true hok
    exact x_isub B (dec_at hd e1) h (fun _ _ _ _ q => e1 ▸ hn _ _ _ _ q)
  case imul =>
    have e1 := Nat.eq_of_beq_eq_true hok
    exact x_imul B (dec_at hd e1) h (fun _ _ _ _ q => e1 ▸ hn _ _ _ _ q)
  case iand =>
    have e1 := Nat.eq_of_beq_eq_true hok
    exact x_iand B (dec_at hd e1) h (fun _ _ _ _ q => e1 ▸ hn _ _ _ _ q)
  case ixor =>
    have e1 := Nat.eq_of_beq_eq_true hok
    exact x_ixor B (dec_at hd e1) h (fun _ _ _ _ q => e1 ▸ hn _ _ _ _ q)
  case idiv =>
    have e1 := Nat.eq_of_beq_eq_true hok
    exact x_idiv B (dec_at hd e1) h (fun _ _ _ _ q => e1 ▸ hn _ _ _ _ q)
  case irem =>
    have e1 := Nat.eq_of_beq_eq_true hok
    exact x_irem B (dec_at hd e1) h (fun _ _ _ _ q => e1 ▸ hn _ _ _ _ q)
  case ineg =>
    have e1 := Nat.eq_of_beq_eq_true hok
    exact x_ineg B (dec_at hd e1) h (fun _ _ _ _ q => e1 ▸ hn _ _ _ _ q)
  case i2l =>
    have e1 := Nat.eq_of_beq_eq_true hok
    exact x_i2l B (dec_at hd e1) h (fun _ _ _ _ q => e1 ▸ hn _ _ _ _ q)
  case i2d =>
    have e1 := Nat.eq_of_beq_eq_true hok
    exact x_i2d B (dec_at hd e1) h (fun _ _ _ _ q => e1 ▸ hn _ _ _ _ q)
  case i2s =>
    have e1 := Nat.eq_of_beq_eq_true hok
    exact x_i2s B (dec_at hd e1) h (fun _ _ _ _ q => e1 ▸ hn _ _ _ _ q)
  case l2i =>
    have e1 := Nat.eq_of_beq_eq_true hok
    exact x_l2i B (dec_at hd e1) h (fun _ _ _ _ q => e1 ▸ hn _ _ _ _ q)
  case ladd =>
    have e1 := Nat.eq_of_beq_eq_true hok
    exact x_ladd B (dec_at hd e1) h (fun _ _ _ _ q => e1 ▸ hn _ _ _ _ q)
  case lsub =>
    have e1 := Nat.eq_of_beq_eq_true hok
    exact x_lsub B (dec_at hd e1) h (fun _ _ _ _ q => e1 ▸ hn _ _ _ _ q)
  case lmul =>
    have e1 := Nat.eq_of_beq_eq_true hok
    exact x_lmul B (dec_at hd e1) h (fun _ _ _ _ q => e1 ▸ hn _ _ _ _ q)
  case land =>
    have e1 := Nat.eq_of_beq_eq_true hok
    exact x_land B (dec_at hd e1) h (fun _ _ _ _ q => e1 ▸ hn _ _ _ _ q)
  case lor =>
    have e1 := Nat.eq_of_beq_eq_true hok
    exact x_lor B (dec_at hd e1) h (fun _ _ _ _ q => e1 ▸ hn _ _ _ _ q)
  case ldiv =>
    have e1 := Nat.eq_of_beq_eq_true hok
    exact x_ldiv B (dec_at hd e1) h (fun _ _ _ _ q => e1 ▸ hn _ _ _ _ q)
  case lshl =>
    have e1 := Nat.eq_of_beq_eq_true hok
    exact x_lshl B (dec_at hd e1) h (fun _ _ _ _ q => e1 ▸ hn _ _ _ _ q)
  case lcmp =>
    have e1 := Nat.eq_of_beq_eq_true hok
    exact x_lcmp B (dec_at hd e1) h (fun _ _ _ _ q => e1 ▸ hn _ _ _ _ q)
  case dadd =>
    have e1 := Nat.eq_of_beq_eq_true hok
    exact x_dadd B (dec_at hd e1) h (fun _ _ _ _ q => e1 ▸ hn _ _ _ _ q)
  case dsub =>
    have e1 := Nat.eq_of_beq_eq_true hok
    exact x_dsub B (dec_at hd e1) h (fun _ _ _ _ q => e1 ▸ hn _ _ _ _ q)
  case dmul =>
    have e1 := Nat.eq_of_beq_eq_true hok
    exact x_dmul B (dec_at hd e1) h (fun _ _ _ _ q => e1 ▸ hn _ _ _ _ q)
  case ddiv =>
    have e1 := Nat.eq_of_beq_eq_true hok
    exact x_ddiv B (dec_at hd e1) h (fun _ _ _ _ q => e1 ▸ hn _ _ _ _ q)
  case dneg =>
    have e1 := Nat.eq_of_beq_eq_true hok
    exact x_dneg B (dec_at hd e1) h (fun _ _ _ _ q => e1 ▸ hn _ _ _ _ q)
  case fneg =>
    have e1 := Nat.eq_of_beq_eq_true hok
    exact x_fneg B (dec_at hd e1) h (fun _ _ _ _ q => e1 ▸ hn _ _ _ _ q)
  case d2l =>
    have e1 := Nat.eq_of_beq_eq_true hok
    exact x_d2l B (dec_at hd e1) h (fun _ _ _ _ q => e1 ▸ hn _ _ _ _ q)
  case dup =>
    have e1 := Nat.eq_of_beq_eq_true hok
    exact x_dup B (dec_at hd e1) h (fun _ _ _ _ q => e1 ▸ hn _ _ _ _ q)
  case pop =>
    have e1 := Nat.eq_of_beq_eq_true hok
    exact x_pop B (dec_at hd e1) h (fun _ _ _ _ q => e1 ▸ hn _ _ _ _ q)
  case dup2 =>
    have e1 := Nat.eq_of_beq_eq_true hok
    exact x_dup2 B (dec_at hd e1) h (fun _ _ _ _ q => e1 ▸ hn _ _ _ _ q)
  case iaload =>
    have e1 := Nat.eq_of_beq_eq_true hok
    exact x_ild B (dec_at hd e1) h (fun _ _ _ _ q => e1 ▸ hn _ _ _ _ q)
  case baload =>
    have e1 := Nat.eq_of_beq_eq_true hok
    exact x_zald B (dec_at hd e1) h (fun _ _ _ _ q => e1 ▸ hn _ _ _ _ q)
  case saload =>
    have e1 := Nat.eq_of_beq_eq_true hok
    exact x_sald B (dec_at hd e1) h (fun _ _ _ _ q => e1 ▸ hn _ _ _ _ q)
  case daload =>
    have e1 := Nat.eq_of_beq_eq_true hok
    exact x_dald B (dec_at hd e1) h (fun _ _ _ _ q => e1 ▸ hn _ _ _ _ q)
  case iastore =>
    have e1 := Nat.eq_of_beq_eq_true hok
    exact x_iast B (dec_at hd e1) h (fun _ _ _ _ q => e1 ▸ hn _ _ _ _ q)
  case bastore =>
    have e1 := Nat.eq_of_beq_eq_true hok
    exact x_zast B (dec_at hd e1) h (fun _ _ _ _ q => e1 ▸ hn _ _ _ _ q)
  case sastore =>
    have e1 := Nat.eq_of_beq_eq_true hok
    exact x_sast B (dec_at hd e1) h (fun _ _ _ _ q => e1 ▸ hn _ _ _ _ q)
  case dastore =>
    have e1 := Nat.eq_of_beq_eq_true hok
    exact x_dast B (dec_at hd e1) h (fun _ _ _ _ q => e1 ▸ hn _ _ _ _ q)
  case arraylength =>
    have e1 := Nat.eq_of_beq_eq_true hok
    exact x_len B (dec_at hd e1) h (fun _ _ _ _ q => e1 ▸ hn _ _ _ _ q)
  case dcmp o =>
    have e1 := Nat.eq_of_beq_eq_true hok
    exact x_dcmp B (dec_at hd e1) h (fun _ _ _ _ q => e1 ▸ hn _ _ _ _ q)
  case fcmp o =>
    have e1 := Nat.eq_of_beq_eq_true hok
    exact x_fcmp B (dec_at hd e1) h (fun _ _ _ _ q => e1 ▸ hn _ _ _ _ q)
  case getfield n =>
    simp only [okI, Bool.and_eq_true] at hok
    have e1 := Nat.eq_of_beq_eq_true hok.1
    obtain ⟨h1, h2, z, t, o, h3⟩ := okf_e hP hok.2
    exact x_get B (dec_at hd e1) h1 h2 h3 h (fun _ _ _ _ q => e1 ▸ hn _ _ _ _ q)
  case putfield n =>
    simp only [okI, Bool.and_eq_true] at hok
    have e1 := Nat.eq_of_beq_eq_true hok.1.1.1
    obtain ⟨h1, h2, z, t, o, h3⟩ := okf_e hP hok.1.1.2
    have h4 : ((cT a).2.1 b).2.2.2 = false := by simpa using hok.1.2
    have h5 := hok.2
    split at h5
    next => exact x_put B (dec_at hd e1) h1 h2 h3 h4 (of_decide_eq_true h5) (Or.inl ⟨rfl, rfl⟩) h (fun _ _ _ _ q => e1 ▸ hn _ _ _ _ q)
    next => exact x_put B (dec_at hd e1) h1 h2 h3 h4 (of_decide_eq_true h5) (Or.inr (Or.inl ⟨rfl, rfl⟩)) h (fun _ _ _ _ q => e1 ▸ hn _ _ _ _ q)
    next => exact x_put B (dec_at hd e1) h1 h2 h3 h4 (of_decide_eq_true h5) (Or.inr (Or.inr ⟨rfl, rfl⟩)) h (fun _ _ _ _ q => e1 ▸ hn _ _ _ _ q)
    next => cases h5
  case goto o =>
    simp only [okI, Bool.and_eq_true, decide_eq_true_eq] at hok
    exact x_goto B (dec_at hd (Nat.eq_of_beq_eq_true hok.1)) hok.2 (hj _ _ _ _ _ h)
  case ifCond cd o =>
    simp only [okI, Bool.and_eq_true, decide_eq_true_eq] at hok
    have e1 := Nat.eq_of_beq_eq_true hok.1
    exact x_if B (dec_at hd e1) hok.2 h hj (fun _ _ _ _ q => e1 ▸ hn _ _ _ _ q)
  case if_icmp cd o =>
    simp only [okI, Bool.and_eq_true, decide_eq_true_eq] at hok
    have e1 := Nat.eq_of_beq_eq_true hok.1
    exact x_icmp B (dec_at hd e1) hok.2 h hj (fun _ _ _ _ q => e1 ▸ hn _ _ _ _ q)
  case tableswitch dflt lo hi offs =>
    simp only [okI, Bool.and_eq_true, decide_eq_true_eq, List.all_eq_true] at hok
    exact x_tsw B hd hok.1 hok.2 h hj
  case lookupswitch dflt ps =>
    simp only [okI, Bool.and_eq_true] at hok
    exact x_lsw B hd hok.1 (fun o ho => of_decide_eq_true (List.all_eq_true.mp hok.2 o ho)) h hj
  case invokestatic n =>
    simp only [okI, Bool.and_eq_true] at hok
    have e1 := Nat.eq_of_beq_eq_true hok.1
    have h5 := hok.2
    split at h5
    next =>
      have h6 : ∃ q, nth MT a = some q ∧ q.2.2.2.2.1 = b ∧ q.2.2.2.2.2.1 = true ∧ Cond.methodLink P.1 n q.1 ∈ gt := by
        rcases Bool.or_eq_true_iff.mp h5 with h6 | h6
        · obtain ⟨q, w1, w2, w3, -, w4⟩ := okc_e hP h6
          exact ⟨q, w1, w2, w3, w4⟩
        · obtain ⟨q, w1, w2, w3, -, w4⟩ := okc_e hP h6
          exact ⟨q, w1, w2, w3, w4⟩
      obtain ⟨q, w1, w2, w3, w4⟩ := h6
      exact x_callS B hAd (dec_at hd e1) w1 w3 w2 w4 h (fun _ _ _ _ q => e1 ▸ hn _ _ _ _ q)
    next => exact x_nat1 B (dec_at hd e1) (okn_e hP h5) h (fun _ _ _ _ q => e1 ▸ hn _ _ _ _ q)
    next => exact x_nat2 B (dec_at hd e1) (okn_e hP h5) h (fun _ _ _ _ q => e1 ▸ hn _ _ _ _ q)
    next => cases h5
  case invokevirtual n =>
    simp only [okI, Bool.and_eq_true] at hok
    have e1 := Nat.eq_of_beq_eq_true hok.1
    have h5 := hok.2
    split at h5
    next ci =>
      obtain ⟨q, w1, w2, w3, w5, w4⟩ := okc_e hP h5
      exact x_callV B hAd (dec_at hd e1) w1 w3 w2 w5 w4 h (fun _ _ _ _ q => e1 ▸ hn _ _ _ _ q)
    next => cases h5
  case ireturn =>
    have h0 := hok
    simp only [okI, Bool.and_eq_true] at hok
    have e1 := Nat.eq_of_beq_eq_true hok.1
    subst e1
    exact hR pc .ireturn a lv st I D (Or.inl rfl) (dec_at hd rfl) h0 h
  case lreturn =>
    have h0 := hok
    simp only [okI, Bool.and_eq_true] at hok
    have e1 := Nat.eq_of_beq_eq_true hok.1
    subst e1
    exact hR pc .lreturn a lv st I D (Or.inr (Or.inl rfl)) (dec_at hd rfl) h0 h
  case dreturn =>
    have h0 := hok
    simp only [okI, Bool.and_eq_true] at hok
    have e1 := Nat.eq_of_beq_eq_true hok.1
    subst e1
    exact hR pc .dreturn a lv st I D (Or.inr (Or.inr (Or.inl rfl))) (dec_at hd rfl) h0 h
  case return_ =>
    have h0 := hok
    simp only [okI, Bool.and_eq_true] at hok
    have e1 := Nat.eq_of_beq_eq_true hok.1
    subst e1
    exact hR pc .return_ a lv st I D (Or.inr (Or.inr (Or.inr rfl))) (dec_at hd rfl) h0 h
  all_goals exact h.elim
end RX
end
section
/-! a stretch, then a method -/
section RS
variable {p : Program} {l : Launch} {e : Env} {R : Room} {s : State} {m : MethodId} {args : Array Value} {below : List Frame} {meth : Method} {c : Code} {cells slots : Nat} {Q : State → Prop}
variable {ad : Nat → Nat} {dA : Nat → ClassId} {G : va_G} {A : Nat → Prop} {SH : List Sh} {H0 : Heap} {nL : Nat} {cc : ByteArray} {d : Nat} {SC : Option (Nat × (Nat → Int32))} {P : Pl} {rt : Option FieldType}
theorem wp_sound {Rt : Rk} {LV : List (Nat × List Nat)} {K : Kt} {en : Nat} (hP : PlOk P) (B : BdX p R s m args c cells slots ad dA G A SH H0 nL cc P.1 d SC) (hAd : AdOk ad A SH.length)
    (hK : ∀ t lv st I D, K t lv st I D → AtM p l e R s m args below meth c cells slots Q ad dA G A SH H0 nL t lv st I D)
    (hR : ∀ pc i a lv st I D, (i = .ireturn ∨ i = .lreturn ∨ i = .dreturn ∨ i = .return_) → decode cc pc = .ok (i, 1) → okI P rt nL pc (pc + 1) i a 0 .null = true → Rt i a st I D → AtM p l e R s m args below meth c cells slots Q ad dA G A SH H0 nL pc lv st I D) :
    ∀ (ops : List Op), okS P rt nL cc en ops = true → ∀ (lv : Lv) (st : List Value) (I : MI) (D : MD),
      (wp SH SC Rt (CaD (l, ad, dA, G, A) SH d) LV K en ops none lv st I D → AtM p l e R s m args below meth c cells slots Q ad dA G A SH H0 nL (hdp en ops) lv st I D) ∧
      (∀ t, wp SH SC Rt (CaD (l, ad, dA, G, A) SH d) LV K en ops (some t) lv st I D → AtM p l e R s m args below meth c cells slots Q ad dA G A SH H0 nL t lv st I D) := by
  intro ops
  induction ops with
  | nil =>
    intro _ lv st I D
    exact ⟨fun h => AtM.pick hK h, fun t h => AtM.pick hK h⟩
  | cons q r ih =>
    intro hok lv st I D
    simp only [okS, Bool.and_eq_true, decide_eq_true_eq] at hok
    obtain ⟨⟨h1, h2⟩, h3⟩ := hok
    have ih' := ih h3
    have go : ∀ lv st I D, ex SH SC Rt (CaD (l, ad, dA, G, A) SH d) q.1 q.2.1 q.2.2.1 q.2.2.2.1 q.2.2.2.2 lv st I D (fun lv st I D => wp SH SC Rt (CaD (l, ad, dA, G, A) SH d) LV K en r none lv st I D) (fun t lv st I D => wp SH SC Rt (CaD (l, ad, dA, G, A) SH d) LV K en r (some t) lv st I D) → AtM p l e R s m args below meth c cells slots Q ad dA G A SH H0 nL q.1 lv st I D :=
      fun lv st I D h => ex_sound hP B hAd h1 h2 h (fun lv st I D h => (ih' lv st I D).1 h) (fun t lv st I D h => (ih' lv st I D).2 t h) hR
    refine ⟨fun h => go lv st I D h, fun t h => ?_⟩
    unfold wp at h
    split at h
    next hb =>
      have := Nat.eq_of_beq_eq_true hb
      subst this
      exact go lv st I D h
    next => exact (ih' lv st I D).2 t h
end RS
/-- a method's answer -/
def retP (Post : Po) : Rk := fun i a st I D => match i, st with
  | .ireturn, [.int x] => (match a with
    | 1 => (x = 0 ∨ x = 1) ∧ Post (some (.int x)) I D
    | _ => Post (some (.int x)) I D)
  | .lreturn, [.long x] => Post (some (.long x)) I D
  | .dreturn, [.double x] => Post (some (.double x)) I D
  | .return_, [] => Post none I D
  | _, _ => False
theorem Met.ofWF {l : Launch} {y : MethodName} {ws ws' : List Cond} {rm : Room} {Pc : Array Value → State → Prop} {Qc : Array Value → State → Outcome → State → Prop} {mc ms : Nat} {free : Addr → Prop} {cc : ByteArray} {maxL : Nat} {ret : Option FieldType}
    (hy : plainFor y = true) (hw : ws = Cond.code y cc maxL ret :: ws')
    (body : ∀ p e s m args below meth c s₁, BodyLoose p l y (headSpec ws rm) cc maxL ret e s m args below meth c s₁ → c.maxLocals = maxL → Pc args s →
      W p l e (headSpec ws rm).room s m args below meth c s.heap [] 0 0 (MQ below Qc args s mc ms free) (entryFrame m args maxL)) : Met l y ws rm Pc Qc mc ms free := by
  refine MetFree.of_bodySF (code := cc) (maxLocals := maxL) (ret := ret) hy ?_ ?_
  · intro args s m h hn
    obtain ⟨meth, c, h1, h2, h3, h4, h5, h6, -, -⟩ := Cond.code_spec hn (atoms_spec (ws := ws) h _ (by rw [hw]; exact List.mem_cons_self))
    exact ⟨meth, c, h1, h2, h3, h4, h5, h6⟩
  · intro p e s m args below meth c s₁ B hml hP _
    have hh0 : s₁.heap = s.heap := by rw [B.state]; rfl
    obtain ⟨t, a1, o, b1, b2, b3⟩ := body p e s m args below meth c s₁ B hml hP s₁ hh0 (Stand.of_body B)
    exact ⟨t, o, a1, b1, b2, ⟨b3.1, b3.2⟩⟩
theorem lv_args_map (ad : Nat → Nat) : ∀ (vs : List Value) (i : Nat), (lv_args i vs).map (cq ad) = lv_args i (vs.map (cv ad))
  | [], i => rfl
  | v :: vs, i => by
    simp only [lv_args, List.map_cons, cv_cat]
    rw [lv_args_map ad vs]
    rfl
/-- the stretches of a method: their first places, their ends, their instructions -/
abbrev Sg : Type := List (Nat × Nat × List Op)
def slen : List Value → Nat
  | [] => 0
  | v :: t => v.category + slen t
theorem slen_e : ∀ (vs : List Value), (lg_sl vs).length = slen vs
  | [] => rfl
  | v :: t => by
    have h := slen_e t
    unfold lg_sl at h ⊢
    simp only [List.flatMap_cons, List.length_append, h, slen]
    rcases lv_cat v with hc | hc <;> simp [hc]
theorem slen_map (ad : Nat → Nat) : ∀ (vs : List Value), slen (vs.map (cv ad)) = slen vs
  | [] => rfl
  | v :: t => by simp [slen, cv_cat, slen_map ad t]
def okG (P : Pl) (rt : Option FieldType) (nL : Nat) (cc : ByteArray) (S : Sg) : Bool := S.all (fun q => okS P rt nL cc q.2.1 q.2.2 && Nat.beq (hdp q.2.1 q.2.2) q.1)
/-- all that a method's bytes were checked for -/
def MOk (P : Pl) (S : Sg) (mid nL : Nat) : Prop := PlOk P ∧ ∃ q : Me, nth MT mid = some q ∧ P.1 = q.1.cls ∧ q.2.2.1 = nL ∧ okG P q.2.2.2.1 q.2.2.1 q.2.1 S = true
set_option maxHeartbeats 1000000 in
/-- THE CONTRACT OF A METHOD OUT OF ITS STRETCHES: K is the machine at a place; each stretch gives K at its first place -/
theorem Con.mk {g : Gp} {SH : List Sh} {d mid nL : Nat} {As : List Value} {I : MI} {D : MD} {Post : Po} {P : Pl} {S : Sg} {LV : List (Nat × List Nat)} (hM : MOk P S mid nL) (hsl : slen As ≤ nL)
    (h : ∀ K : Kt, (∀ q ∈ S, ∀ lv st I D, wp SH none (retP Post) (CaD g SH d) LV K q.2.1 q.2.2 none lv st I D → K q.1 lv st I D) → K 0 (lv_args 0 As) [] I D) : Con g SH d mid As I D Post := by
  obtain ⟨l, ad, dA, G, A⟩ := g
  intro q hq
  obtain ⟨hPl, q', hq', hown0, hnl, hG⟩ := hM
  cases hq.symm.trans hq'
  obtain ⟨o1, o2, o3, o4, o5, -⟩ := okM_e (mt_good hq)
  refine Met.ofWF (cc := q.2.1) (maxL := q.2.2.1) (ret := q.2.2.2.1) o5 rfl ?_
  intro p e s m args below meth c s₁ B hml hv
  obtain ⟨rfl, hAd, hK, hN, hP⟩ := hv
  have hts := atoms_spec (ws := Cond.code q.1 q.2.1 q.2.2.1 q.2.2.2.1 :: gt) B.pre
  have hown : s.vm.findClass P.1 = some m.cls := by rw [hown0]; exact findClass_of_methodNamed B.named
  have hlocks := B.notSynchronized
  have hr := B.returns
  have Bd0 : BdX p (rmd d) s m (As.map (cv ad)).toArray c 0 0 ad dA G A SH s.heap q.2.2.1 q.2.1 P.1 d none :=
    ⟨B.exec, B.bytes, hml, hown, fun w hw => hts w (List.mem_cons_of_mem _ hw), hK, wld_D hAd, (fun z hz => nomatch hz), ⟨Nat.le_refl _, Nat.le_refl _, Nat.le_refl _, Nat.le_refl _⟩, hN⟩
  have hent : ∀ K : Kt, (∀ t lv st I D, K t lv st I D → AtM p l e (rmd d) s m (As.map (cv ad)).toArray below meth c 0 0 (MQ below (QcM (l, ad, dA, G, A) SH Post) (As.map (cv ad)).toArray s 0 0 A) ad dA G A SH s.heap q.2.2.1 t lv st I D) → K 0 (lv_args 0 As) [] I D → W p l e (rmd d) s m (As.map (cv ad)).toArray below meth c s.heap [] 0 0 (MQ below (QcM (l, ad, dA, G, A) SH Post) (As.map (cv ad)).toArray s 0 0 A) (entryFrame m (As.map (cv ad)).toArray q.2.2.1) := by
    intro K hK0 hK1
    have hl := lv_entry (As.map (cv ad)) (n := q.2.2.1) (by rw [slen_e, slen_map]; rw [hnl]; exact hsl)
    rw [lg_entry_eq]
    exact hK0 _ _ _ _ _ hK1 s.heap [] _ (by rw [lv_args_map]; exact hl) hP va_S.rf
  refine hent _ (fun t lv st I D h => h) (h _ ?_)
  intro z hz lv st I' D' hwp
  have hzok := List.all_eq_true.mp hG z hz
  simp only [Bool.and_eq_true] at hzok
  have e1 := Nat.eq_of_beq_eq_true hzok.2
  have := (wp_sound (rt := q.2.2.2.1) hPl Bd0 hAd (fun t lv st I D h => h) ?_ z.2.2 hzok.1 lv st I' D').1 hwp
  · rw [e1] at this
    exact this
  · intro pc i a lv st I D hi hdec hok hret H locs ls hl hP hS
    have fin : ∀ (r : Option Value), Post r I D → ∀ t : State, t.heap = H → s.WarmedH t.vm → QcM (l, ad, dA, G, A) SH Post (As.map (cv ad)).toArray s (.returned (r.map (cv ad))) t :=
      fun r hp t ht _ => ⟨⟨r, I, D, rfl, hp, by rw [ht]; exact hP⟩, hS.F ht⟩
    unfold retP at hret
    split at hret
    next x =>
      simp only [okI, Bool.and_eq_true] at hok
      split at hret
      next =>
        have hrt : meth.sig.returnType = some .boolean := by rw [hr]; exact of_decide_eq_true hok.2
        refine W.zret (ty := .boolean) B.exec B.bytes hrt ?_ (fin _ hret.2) hS.2.2 hdec
        rcases hret.1 with rfl | rfl <;> rfl
      next hne =>
        have hrt : meth.sig.returnType = some .int := by
          rw [hr]
          have h5 := hok.2
          split at h5
          next => exact absurd rfl hne
          next => exact of_decide_eq_true h5
        exact W.iret B.exec B.bytes hrt (fin _ hret) hS.2.2 hdec
    next x =>
      simp only [okI, Bool.and_eq_true] at hok
      have hrt : meth.sig.returnType = some .long := by rw [hr]; exact of_decide_eq_true hok.2
      exact W.lret B.exec B.bytes hrt (fin _ hret) hS.2.2 hdec
    next x =>
      simp only [okI, Bool.and_eq_true] at hok
      have hrt : meth.sig.returnType = some .double := by rw [hr]; exact of_decide_eq_true hok.2
      exact W.dret B.exec B.bytes hrt (fin _ hret) hS.2.2 hdec
    next =>
      simp only [okI, Bool.and_eq_true] at hok
      have hrt : meth.sig.returnType = none := by rw [hr]; exact of_decide_eq_true hok.2
      exact W.vret B.exec B.bytes hrt (fin _ hret) hS.2.2 hdec
    next => exact hret.elim
end
section
def o_X_clock_0 : List Op := [(0, .iload_n 1, 1, 0, .null), (1, .invokestatic 96, 1, 1, .ref 0), (4, .ifCond .eq 11, 15, 0, .null), (7, .iload_n 1, 1, 0, .null), (8, .aload_n 0, 0, 0, .null), (9, .getfield 100, 11, 11, .null), (12, .if_icmp .ge 6, 18, 0, .null), (15, .bipush (-2), 0, 0, .int (-2)), (17, .ireturn, 0, 0, .null), (18, .aload_n 0, 0, 0, .null), (19, .iload_n 1, 1, 0, .null), (20, .putfield 100, 11, 11, .null), (23, .iconst 1, 0, 0, .int 1), (24, .ireturn, 0, 0, .null)]
def v_X_clock : List (Nat × List Nat) := [(0, [0, 1])]
def s_X_clock : List (Nat × Nat × List Op) := [(0, 25, o_X_clock_0)]
set_option maxRecDepth 100000 in
theorem k_X_clock : MOk P_X s_X_clock 0 2 := ⟨P_X_ok, _, rfl, rfl, rfl, by decide +kernel⟩
def o_X_isMoment_0 : List Op := [(0, .iload_n 0, 0, 0, .null), (1, .ifCond .lt 14, 15, 0, .null), (4, .iload_n 0, 0, 0, .null), (5, .ldc_w 434, 0, 0, .int 2592000), (8, .if_icmp .ge 7, 15, 0, .null), (11, .iconst 1, 0, 0, .int 1), (12, .goto 4, 16, 0, .null), (15, .iconst 0, 0, 0, .int 0), (16, .ireturn, 1, 0, .null)]
def v_X_isMoment : List (Nat × List Nat) := [(0, [0])]
def s_X_isMoment : List (Nat × Nat × List Op) := [(0, 17, o_X_isMoment_0)]
set_option maxRecDepth 100000 in
theorem k_X_isMoment : MOk P_X s_X_isMoment 1 1 := ⟨P_X_ok, _, rfl, rfl, rfl, by decide +kernel⟩
def o_X_mean_0 : List Op := [(0, .iload_n 1, 1, 0, .null), (1, .invokestatic 104, 3, 1, .ref 0), (4, .ifCond .eq 16, 20, 0, .null), (7, .iload_n 2, 2, 0, .null), (8, .sipush (-2000), 0, 0, .int (-2000)), (11, .sipush 2000, 0, 0, .int 2000), (14, .invokestatic 107, 4, 3, .ref 0), (17, .ifCond .ne 6, 23, 0, .null), (20, .ldc 111, 0, 0, .int (-100000)), (22, .ireturn, 0, 0, .null), (23, .aload_n 0, 0, 0, .null), (24, .getfield 43, 11, 1, .null), (27, .iload_n 1, 1, 0, .null), (28, .iload_n 2, 2, 0, .null), (29, .invokevirtual 112, 5, 2, .ref 7), (32, .ireturn, 0, 0, .null)]
def v_X_mean : List (Nat × List Nat) := [(0, [0, 1, 2])]
def s_X_mean : List (Nat × Nat × List Op) := [(0, 33, o_X_mean_0)]
set_option maxRecDepth 100000 in
theorem k_X_mean : MOk P_X s_X_mean 2 3 := ⟨P_X_ok, _, rfl, rfl, rfl, by decide +kernel⟩
def o_X_isStation_0 : List Op := [(0, .iload_n 0, 0, 0, .null), (1, .ifCond .lt 13, 14, 0, .null), (4, .iload_n 0, 0, 0, .null), (5, .bipush 12, 0, 0, .int 12), (7, .if_icmp .ge 7, 14, 0, .null), (10, .iconst 1, 0, 0, .int 1), (11, .goto 4, 15, 0, .null), (14, .iconst 0, 0, 0, .int 0), (15, .ireturn, 1, 0, .null)]
def v_X_isStation : List (Nat × List Nat) := [(0, [0])]
def s_X_isStation : List (Nat × Nat × List Op) := [(0, 16, o_X_isStation_0)]
set_option maxRecDepth 100000 in
theorem k_X_isStation : MOk P_X s_X_isStation 3 1 := ⟨P_X_ok, _, rfl, rfl, rfl, by decide +kernel⟩
def o_X_isWithin_0 : List Op := [(0, .iload_n 0, 0, 0, .null), (1, .iload_n 1, 1, 0, .null), (2, .if_icmp .lt 12, 14, 0, .null), (5, .iload_n 0, 0, 0, .null), (6, .iload_n 2, 2, 0, .null), (7, .if_icmp .gt 7, 14, 0, .null), (10, .iconst 1, 0, 0, .int 1), (11, .goto 4, 15, 0, .null), (14, .iconst 0, 0, 0, .int 0), (15, .ireturn, 1, 0, .null)]
def v_X_isWithin : List (Nat × List Nat) := [(0, [0, 1, 2])]
def s_X_isWithin : List (Nat × Nat × List Op) := [(0, 16, o_X_isWithin_0)]
set_option maxRecDepth 100000 in
theorem k_X_isWithin : MOk P_X s_X_isWithin 4 3 := ⟨P_X_ok, _, rfl, rfl, rfl, by decide +kernel⟩
def o_Surveys_changeMean_0 : List Op := [(0, .aload_n 0, 0, 0, .null), (1, .getfield 9, 7, 0, .null), (4, .iload_n 1, 1, 0, .null), (5, .iaload, 0, 0, .null), (6, .istore_n 3, 3, 0, .null), (7, .aload_n 0, 0, 0, .null), (8, .getfield 9, 7, 0, .null), (11, .iload_n 1, 1, 0, .null), (12, .iload_n 2, 2, 0, .null), (13, .iastore, 0, 0, .null), (14, .iload_n 3, 3, 0, .null), (15, .ireturn, 0, 0, .null)]
def v_Surveys_changeMean : List (Nat × List Nat) := [(0, [0, 1, 2])]
def s_Surveys_changeMean : List (Nat × Nat × List Op) := [(0, 16, o_Surveys_changeMean_0)]
set_option maxRecDepth 100000 in
theorem k_Surveys_changeMean : MOk P_Surveys s_Surveys_changeMean 5 4 := ⟨P_Surveys_ok, _, rfl, rfl, rfl, by decide +kernel⟩
def o_X_wave_0 : List Op := [(0, .iload_n 1, 1, 0, .null), (1, .invokestatic 104, 3, 1, .ref 0), (4, .ifCond .eq 35, 39, 0, .null), (7, .iload_n 2, 2, 0, .null), (8, .iconst 0, 0, 0, .int 0), (9, .sipush 9999, 0, 0, .int 9999), (12, .invokestatic 107, 4, 3, .ref 0), (15, .ifCond .eq 24, 39, 0, .null), (18, .iload_n 3, 3, 0, .null), (19, .iconst 0, 0, 0, .int 0), (20, .ldc 116, 0, 0, .int 60000), (22, .invokestatic 107, 4, 3, .ref 0), (25, .ifCond .eq 14, 39, 0, .null), (28, .iload 4, 4, 0, .null), (30, .iconst 0, 0, 0, .int 0), (31, .ldc 117, 0, 0, .int 65535), (33, .invokestatic 107, 4, 3, .ref 0), (36, .ifCond .ne 6, 42, 0, .null), (39, .bipush (-2), 0, 0, .int (-2)), (41, .ireturn, 0, 0, .null), (42, .aload_n 0, 0, 0, .null), (43, .getfield 43, 11, 1, .null), (46, .iload_n 1, 1, 0, .null), (47, .iload_n 2, 2, 0, .null), (48, .iload_n 3, 3, 0, .null), (49, .iload 4, 4, 0, .null), (51, .invokevirtual 118, 7, 4, .ref 7), (54, .ireturn, 0, 0, .null)]
def v_X_wave : List (Nat × List Nat) := [(0, [0, 1, 2, 3, 4])]
def s_X_wave : List (Nat × Nat × List Op) := [(0, 55, o_X_wave_0)]
set_option maxRecDepth 100000 in
theorem k_X_wave : MOk P_X s_X_wave 6 5 := ⟨P_X_ok, _, rfl, rfl, rfl, by decide +kernel⟩
def o_Surveys_addWave_0 : List Op := [(0, .aload_n 0, 0, 0, .null), (1, .getfield 15, 7, 1, .null), (4, .iload_n 1, 1, 0, .null), (5, .iaload, 0, 0, .null), (6, .bipush 8, 0, 0, .int 8), (8, .if_icmp .lt 6, 14, 0, .null), (11, .bipush (-4), 0, 0, .int (-4)), (13, .ireturn, 0, 0, .null), (14, .iload_n 1, 1, 0, .null), (15, .bipush 24, 0, 0, .int 24), (17, .imul, 0, 0, .null), (18, .aload_n 0, 0, 0, .null), (19, .getfield 15, 7, 1, .null), (22, .iload_n 1, 1, 0, .null), (23, .iaload, 0, 0, .null), (24, .iconst 3, 0, 0, .int 3), (25, .imul, 0, 0, .null), (26, .iadd, 0, 0, .null), (27, .istore 5, 5, 0, .null), (29, .aload_n 0, 0, 0, .null), (30, .getfield 18, 7, 2, .null), (33, .iload 5, 5, 0, .null), (35, .iload_n 2, 2, 0, .null), (36, .iastore, 0, 0, .null), (37, .aload_n 0, 0, 0, .null), (38, .getfield 18, 7, 2, .null), (41, .iload 5, 5, 0, .null), (43, .iconst 1, 0, 0, .int 1), (44, .iadd, 0, 0, .null), (45, .iload_n 3, 3, 0, .null), (46, .iastore, 0, 0, .null), (47, .aload_n 0, 0, 0, .null), (48, .getfield 18, 7, 2, .null), (51, .iload 5, 5, 0, .null), (53, .iconst 2, 0, 0, .int 2), (54, .iadd, 0, 0, .null), (55, .iload 4, 4, 0, .null), (57, .iastore, 0, 0, .null), (58, .aload_n 0, 0, 0, .null), (59, .getfield 15, 7, 1, .null), (62, .iload_n 1, 1, 0, .null), (63, .dup2, 0, 0, .null), (64, .iaload, 0, 0, .null), (65, .iconst 1, 0, 0, .int 1), (66, .iadd, 0, 0, .null), (67, .iastore, 0, 0, .null), (68, .aload_n 0, 0, 0, .null), (69, .getfield 15, 7, 1, .null), (72, .iload_n 1, 1, 0, .null), (73, .iaload, 0, 0, .null), (74, .ireturn, 0, 0, .null)]
def v_Surveys_addWave : List (Nat × List Nat) := [(0, [0, 1, 2, 3, 4])]
def s_Surveys_addWave : List (Nat × Nat × List Op) := [(0, 75, o_Surveys_addWave_0)]
set_option maxRecDepth 100000 in
theorem k_Surveys_addWave : MOk P_Surveys s_Surveys_addWave 7 6 := ⟨P_Surveys_ok, _, rfl, rfl, rfl, by decide +kernel⟩
def o_X_survey_0 : List Op := [(0, .iload_n 1, 1, 0, .null), (1, .invokestatic 104, 3, 1, .ref 0), (4, .ifCond .eq 10, 14, 0, .null), (7, .iload_n 2, 2, 0, .null), (8, .invokestatic 122, 9, 1, .ref 0), (11, .ifCond .ne 6, 17, 0, .null), (14, .bipush (-2), 0, 0, .int (-2)), (16, .ireturn, 0, 0, .null), (17, .aload_n 0, 0, 0, .null), (18, .getfield 43, 11, 1, .null), (21, .iload_n 1, 1, 0, .null), (22, .iload_n 2, 2, 0, .null), (23, .aload_n 0, 0, 0, .null), (24, .getfield 100, 11, 11, .null), (27, .invokevirtual 125, 10, 3, .ref 7), (30, .ireturn, 0, 0, .null)]
def v_X_survey : List (Nat × List Nat) := [(0, [0, 1, 2])]
def s_X_survey : List (Nat × Nat × List Op) := [(0, 31, o_X_survey_0)]
set_option maxRecDepth 100000 in
theorem k_X_survey : MOk P_X s_X_survey 8 3 := ⟨P_X_ok, _, rfl, rfl, rfl, by decide +kernel⟩
def o_X_isDay_0 : List Op := [(0, .iload_n 0, 0, 0, .null), (1, .ifCond .lt 13, 14, 0, .null), (4, .iload_n 0, 0, 0, .null), (5, .bipush 30, 0, 0, .int 30), (7, .if_icmp .ge 7, 14, 0, .null), (10, .iconst 1, 0, 0, .int 1), (11, .goto 4, 15, 0, .null), (14, .iconst 0, 0, 0, .int 0), (15, .ireturn, 1, 0, .null)]
def v_X_isDay : List (Nat × List Nat) := [(0, [0])]
def s_X_isDay : List (Nat × Nat × List Op) := [(0, 16, o_X_isDay_0)]
set_option maxRecDepth 100000 in
theorem k_X_isDay : MOk P_X s_X_isDay 9 1 := ⟨P_X_ok, _, rfl, rfl, rfl, by decide +kernel⟩
def o_Surveys_takeDraft_0 : List Op := [(0, .aload_n 0, 0, 0, .null), (1, .getfield 39, 7, 9, .null), (4, .bipush 60, 0, 0, .int 60), (6, .if_icmp .lt 6, 12, 0, .null), (9, .bipush (-4), 0, 0, .int (-4)), (11, .ireturn, 0, 0, .null), (12, .aload_n 0, 0, 0, .null), (13, .getfield 21, 7, 3, .null), (16, .aload_n 0, 0, 0, .null), (17, .getfield 39, 7, 9, .null), (20, .iload_n 1, 1, 0, .null), (21, .iastore, 0, 0, .null), (22, .aload_n 0, 0, 0, .null), (23, .getfield 24, 7, 4, .null), (26, .aload_n 0, 0, 0, .null), (27, .getfield 39, 7, 9, .null), (30, .iload_n 2, 2, 0, .null), (31, .iastore, 0, 0, .null), (32, .aload_n 0, 0, 0, .null), (33, .getfield 27, 7, 5, .null), (36, .aload_n 0, 0, 0, .null), (37, .getfield 39, 7, 9, .null), (40, .iload_n 3, 3, 0, .null), (41, .iastore, 0, 0, .null), (42, .aload_n 0, 0, 0, .null), (43, .getfield 30, 7, 6, .null), (46, .aload_n 0, 0, 0, .null), (47, .getfield 39, 7, 9, .null), (50, .aload_n 0, 0, 0, .null), (51, .getfield 9, 7, 0, .null), (54, .iload_n 1, 1, 0, .null), (55, .iaload, 0, 0, .null), (56, .iastore, 0, 0, .null), (57, .aload_n 0, 0, 0, .null), (58, .getfield 33, 7, 7, .null), (61, .aload_n 0, 0, 0, .null), (62, .getfield 39, 7, 9, .null), (65, .aload_n 0, 0, 0, .null), (66, .getfield 15, 7, 1, .null), (69, .iload_n 1, 1, 0, .null), (70, .iaload, 0, 0, .null), (71, .iastore, 0, 0, .null), (72, .iconst 0, 0, 0, .int 0), (73, .istore 4, 4, 0, .null)]
def o_Surveys_takeDraft_1 : List Op := [(75, .iload 4, 4, 0, .null), (77, .bipush 24, 0, 0, .int 24), (79, .if_icmp .ge 36, 115, 0, .null), (82, .aload_n 0, 0, 0, .null), (83, .getfield 36, 7, 8, .null), (86, .aload_n 0, 0, 0, .null), (87, .getfield 39, 7, 9, .null), (90, .bipush 24, 0, 0, .int 24), (92, .imul, 0, 0, .null), (93, .iload 4, 4, 0, .null), (95, .iadd, 0, 0, .null), (96, .aload_n 0, 0, 0, .null), (97, .getfield 18, 7, 2, .null), (100, .iload_n 1, 1, 0, .null), (101, .bipush 24, 0, 0, .int 24), (103, .imul, 0, 0, .null), (104, .iload 4, 4, 0, .null), (106, .iadd, 0, 0, .null), (107, .iaload, 0, 0, .null), (108, .iastore, 0, 0, .null), (109, .iinc 4 1, 4, 0, .int 1), (112, .goto (-37), 75, 0, .null), (115, .aload_n 0, 0, 0, .null), (116, .getfield 9, 7, 0, .null), (119, .iload_n 1, 1, 0, .null), (120, .iconst 0, 0, 0, .int 0), (121, .iastore, 0, 0, .null), (122, .aload_n 0, 0, 0, .null), (123, .getfield 15, 7, 1, .null), (126, .iload_n 1, 1, 0, .null), (127, .iconst 0, 0, 0, .int 0), (128, .iastore, 0, 0, .null), (129, .aload_n 0, 0, 0, .null), (130, .dup, 0, 0, .null), (131, .getfield 39, 7, 9, .null), (134, .iconst 1, 0, 0, .int 1), (135, .iadd, 0, 0, .null), (136, .putfield 39, 7, 9, .null), (139, .aload_n 0, 0, 0, .null), (140, .getfield 39, 7, 9, .null), (143, .ireturn, 0, 0, .null)]
def v_Surveys_takeDraft : List (Nat × List Nat) := [(0, [0, 1, 2, 3]), (75, [0, 1, 4])]
def s_Surveys_takeDraft : List (Nat × Nat × List Op) := [(0, 75, o_Surveys_takeDraft_0), (75, 144, o_Surveys_takeDraft_1)]
set_option maxRecDepth 100000 in
theorem k_Surveys_takeDraft : MOk P_Surveys s_Surveys_takeDraft 10 5 := ⟨P_Surveys_ok, _, rfl, rfl, rfl, by decide +kernel⟩
def o_X_cos_0 : List Op := [(0, .iload_n 1, 1, 0, .null), (1, .i2l, 0, 0, .null), (2, .invokestatic 129, 12, 1, .ref 0), (5, .invokestatic 133, 13, 1, .ref 0), (8, .lreturn, 0, 0, .null)]
def v_X_cos : List (Nat × List Nat) := [(0, [1])]
def s_X_cos : List (Nat × Nat × List Op) := [(0, 9, o_X_cos_0)]
set_option maxRecDepth 100000 in
theorem k_X_cos : MOk P_X s_X_cos 11 2 := ⟨P_X_ok, _, rfl, rfl, rfl, by decide +kernel⟩
def o_Surveys_cosine_0 : List Op := [(0, .lload_n 0, 0, 0, .null), (1, .ldc2_w 58, 0, 0, .long 65535), (4, .land, 0, 0, .null), (5, .l2i, 0, 0, .null), (6, .istore_n 2, 2, 0, .null), (7, .iload_n 2, 2, 0, .null), (8, .ldc 60, 0, 0, .int 32768), (10, .if_icmp .le 10, 20, 0, .null), (13, .ldc 61, 0, 0, .int 65536), (15, .iload_n 2, 2, 0, .null), (16, .isub, 0, 0, .null), (17, .goto 4, 21, 0, .null), (20, .iload_n 2, 2, 0, .null), (21, .istore_n 3, 3, 0, .null), (22, .iload_n 3, 3, 0, .null), (23, .sipush 16384, 0, 0, .int 16384), (26, .if_icmp .le 10, 36, 0, .null), (29, .ldc 60, 0, 0, .int 32768), (31, .iload_n 3, 3, 0, .null), (32, .isub, 0, 0, .null), (33, .goto 4, 37, 0, .null), (36, .iload_n 3, 3, 0, .null), (37, .istore 4, 4, 0, .null), (39, .iload 4, 4, 0, .null), (41, .i2d, 0, 0, .null), (42, .ldc2_w 62, 0, 0, .double 4670232813583204352), (45, .ddiv, 0, 0, .null), (46, .dstore 5, 5, 0, .null), (48, .dload 5, 5, 0, .null), (50, .dload 5, 5, 0, .null), (52, .dmul, 0, 0, .null), (53, .dstore 7, 7, 0, .null), (55, .dconst 1, 0, 0, .double 4607182418800017408), (56, .dload 7, 7, 0, .null), (58, .ldc2_w 64, 0, 0, .double 4608234912510526942), (61, .dload 7, 7, 0, .null), (63, .ldc2_w 66, 0, 0, .double 4598241323522939587), (66, .dload 7, 7, 0, .null), (68, .ldc2_w 68, 0, 0, .double 4581670710316679173), (71, .dload 7, 7, 0, .null), (73, .ldc2_w 70, 0, 0, .double 4561617902785116854), (76, .dmul, 0, 0, .null), (77, .dsub, 0, 0, .null), (78, .dmul, 0, 0, .null), (79, .dsub, 0, 0, .null), (80, .dmul, 0, 0, .null), (81, .dsub, 0, 0, .null), (82, .dmul, 0, 0, .null), (83, .dsub, 0, 0, .null), (84, .dstore 9, 9, 0, .null), (86, .iload_n 3, 3, 0, .null), (87, .sipush 16384, 0, 0, .int 16384), (90, .if_icmp .le 9, 99, 0, .null), (93, .dload 9, 9, 0, .null), (95, .dneg, 0, 0, .null), (96, .goto 5, 101, 0, .null), (99, .dload 9, 9, 0, .null), (101, .dreturn, 0, 0, .null)]
def v_Surveys_cosine : List (Nat × List Nat) := [(0, [0])]
def s_Surveys_cosine : List (Nat × Nat × List Op) := [(0, 102, o_Surveys_cosine_0)]
set_option maxRecDepth 100000 in
theorem k_Surveys_cosine : MOk P_Surveys s_Surveys_cosine 12 11 := ⟨P_Surveys_ok, _, rfl, rfl, rfl, by decide +kernel⟩
def o_X_bitsOf_0 : List Op := [(0, .dload_n 0, 0, 0, .null), (1, .dconst 0, 0, 0, .double 0), (2, .dcmp .l, 0, 0, .null), (3, .ifCond .ne 5, 8, 0, .null), (6, .lconst 0, 0, 0, .long 0), (7, .lreturn, 0, 0, .null), (8, .dload_n 0, 0, 0, .null), (9, .dconst 0, 0, 0, .double 0), (10, .dcmp .g, 0, 0, .null), (11, .ifCond .ge 8, 19, 0, .null), (14, .dload_n 0, 0, 0, .null), (15, .dneg, 0, 0, .null), (16, .goto 4, 20, 0, .null), (19, .dload_n 0, 0, 0, .null), (20, .dstore_n 2, 2, 0, .null), (21, .ldc2_w 440, 0, 0, .long 1023), (24, .lstore 4, 4, 0, .null), (26, .iconst 0, 0, 0, .int 0), (27, .istore 6, 6, 0, .null)]
def o_X_bitsOf_1 : List Op := [(29, .iload 6, 6, 0, .null), (31, .sipush 1023, 0, 0, .int 1023), (34, .if_icmp .ge 29, 63, 0, .null), (37, .dload_n 2, 2, 0, .null), (38, .ldc2_w 442, 0, 0, .double 4611686018427387904), (41, .dcmp .l, 0, 0, .null), (42, .ifCond .lt 21, 63, 0, .null), (45, .dload_n 2, 2, 0, .null), (46, .ldc2_w 444, 0, 0, .double 4602678819172646912), (49, .dmul, 0, 0, .null), (50, .dstore_n 2, 2, 0, .null), (51, .lload 4, 4, 0, .null), (53, .lconst 1, 0, 0, .long 1), (54, .ladd, 0, 0, .null), (55, .lstore 4, 4, 0, .null), (57, .iinc 6 1, 6, 0, .int 1), (60, .goto (-31), 29, 0, .null), (63, .iconst 0, 0, 0, .int 0), (64, .istore 6, 6, 0, .null)]
def o_X_bitsOf_2 : List Op := [(66, .iload 6, 6, 0, .null), (68, .sipush 1022, 0, 0, .int 1022), (71, .if_icmp .ge 27, 98, 0, .null), (74, .dload_n 2, 2, 0, .null), (75, .dconst 1, 0, 0, .double 4607182418800017408), (76, .dcmp .g, 0, 0, .null), (77, .ifCond .ge 21, 98, 0, .null), (80, .dload_n 2, 2, 0, .null), (81, .ldc2_w 442, 0, 0, .double 4611686018427387904), (84, .dmul, 0, 0, .null), (85, .dstore_n 2, 2, 0, .null), (86, .lload 4, 4, 0, .null), (88, .lconst 1, 0, 0, .long 1), (89, .lsub, 0, 0, .null), (90, .lstore 4, 4, 0, .null), (92, .iinc 6 1, 6, 0, .int 1), (95, .goto (-29), 66, 0, .null), (98, .dload_n 2, 2, 0, .null), (99, .dconst 1, 0, 0, .double 4607182418800017408), (100, .dsub, 0, 0, .null), (101, .ldc2_w 446, 0, 0, .double 4841369599423283200), (104, .dmul, 0, 0, .null), (105, .d2l, 0, 0, .null), (106, .lstore 6, 6, 0, .null), (108, .lload 4, 4, 0, .null), (110, .bipush 52, 0, 0, .int 52), (112, .lshl, 0, 0, .null), (113, .lload 6, 6, 0, .null), (115, .ladd, 0, 0, .null), (116, .lstore 8, 8, 0, .null), (118, .dload_n 0, 0, 0, .null), (119, .dconst 0, 0, 0, .double 0), (120, .dcmp .g, 0, 0, .null), (121, .ifCond .ge 12, 133, 0, .null), (124, .lload 8, 8, 0, .null), (126, .ldc2_w 448, 0, 0, .long (-9223372036854775808)), (129, .lor, 0, 0, .null), (130, .goto 5, 135, 0, .null), (133, .lload 8, 8, 0, .null), (135, .lreturn, 0, 0, .null)]
def v_X_bitsOf : List (Nat × List Nat) := [(0, [0]), (29, [0, 2, 4, 6]), (66, [0, 2, 4, 6])]
def s_X_bitsOf : List (Nat × Nat × List Op) := [(0, 29, o_X_bitsOf_0), (29, 66, o_X_bitsOf_1), (66, 136, o_X_bitsOf_2)]
set_option maxRecDepth 100000 in
theorem k_X_bitsOf : MOk P_X s_X_bitsOf 13 10 := ⟨P_X_ok, _, rfl, rfl, rfl, by decide +kernel⟩
def o_X_height_0 : List Op := [(0, .iload_n 1, 1, 0, .null), (1, .invokestatic 104, 3, 1, .ref 0), (4, .ifCond .eq 28, 32, 0, .null), (7, .iload_n 2, 2, 0, .null), (8, .invokestatic 96, 1, 1, .ref 0), (11, .ifCond .eq 21, 32, 0, .null), (14, .aload_n 0, 0, 0, .null), (15, .iload_n 3, 3, 0, .null), (16, .invokevirtual 137, 15, 1, .ref 11), (19, .ifCond .eq 13, 32, 0, .null), (22, .aload_n 0, 0, 0, .null), (23, .getfield 39, 11, 0, .null), (26, .invokevirtual 140, 16, 0, .ref 0), (29, .ifCond .eq 7, 36, 0, .null), (32, .ldc2_w 144, 0, 0, .long 9221120237041090560), (35, .lreturn, 0, 0, .null), (36, .aload_n 0, 0, 0, .null), (37, .getfield 43, 11, 1, .null), (40, .iload_n 1, 1, 0, .null), (41, .iload_n 2, 2, 0, .null), (42, .iload_n 3, 3, 0, .null), (43, .invokevirtual 146, 17, 3, .ref 7), (46, .iconst (-1), 0, 0, .int (-1)), (47, .if_icmp .ne 16, 63, 0, .null), (50, .aload_n 0, 0, 0, .null), (51, .getfield 39, 11, 0, .null), (54, .iconst 1, 0, 0, .int 1), (55, .invokevirtual 149, 18, 1, .ref 0), (58, .pop, 0, 0, .null), (59, .ldc2_w 144, 0, 0, .long 9221120237041090560), (62, .lreturn, 0, 0, .null), (63, .aload_n 0, 0, 0, .null), (64, .getfield 43, 11, 1, .null), (67, .iload_n 1, 1, 0, .null), (68, .iload_n 2, 2, 0, .null), (69, .iload_n 3, 3, 0, .null), (70, .invokevirtual 153, 19, 3, .ref 7), (73, .invokestatic 133, 13, 1, .ref 0), (76, .lreturn, 0, 0, .null)]
def v_X_height : List (Nat × List Nat) := [(0, [0, 1, 2, 3])]
def s_X_height : List (Nat × Nat × List Op) := [(0, 77, o_X_height_0)]
set_option maxRecDepth 100000 in
theorem k_X_height : MOk P_X s_X_height 14 4 := ⟨P_X_ok, _, rfl, rfl, rfl, by decide +kernel⟩
def o_X_isPast_0 : List Op := [(0, .iload_n 1, 1, 0, .null), (1, .ifCond .lt 15, 16, 0, .null), (4, .iload_n 1, 1, 0, .null), (5, .aload_n 0, 0, 0, .null), (6, .getfield 100, 11, 11, .null), (9, .if_icmp .gt 7, 16, 0, .null), (12, .iconst 1, 0, 0, .int 1), (13, .goto 4, 17, 0, .null), (16, .iconst 0, 0, 0, .int 0), (17, .ireturn, 1, 0, .null)]
def v_X_isPast : List (Nat × List Nat) := [(0, [0, 1])]
def s_X_isPast : List (Nat × Nat × List Op) := [(0, 18, o_X_isPast_0)]
set_option maxRecDepth 100000 in
theorem k_X_isPast : MOk P_X s_X_isPast 15 2 := ⟨P_X_ok, _, rfl, rfl, rfl, by decide +kernel⟩
def o_Findings_areSpent_0 : List Op := [(0, .aload_n 0, 0, 0, .null), (1, .getfield 9, 0, 0, .null), (4, .sipush 3000, 0, 0, .int 3000), (7, .if_icmp .lt 7, 14, 0, .null), (10, .iconst 1, 0, 0, .int 1), (11, .goto 4, 15, 0, .null), (14, .iconst 0, 0, 0, .int 0), (15, .ireturn, 1, 0, .null)]
def v_Findings_areSpent : List (Nat × List Nat) := [(0, [0])]
def s_Findings_areSpent : List (Nat × Nat × List Op) := [(0, 16, o_Findings_areSpent_0)]
set_option maxRecDepth 100000 in
theorem k_Findings_areSpent : MOk P_Findings s_Findings_areSpent 16 1 := ⟨P_Findings_ok, _, rfl, rfl, rfl, by decide +kernel⟩
def o_Surveys_inForce_0 : List Op := [(0, .iconst (-1), 0, 0, .int (-1)), (1, .istore 4, 4, 0, .null), (3, .iconst 0, 0, 0, .int 0), (4, .istore 5, 5, 0, .null)]
def o_Surveys_inForce_1 : List Op := [(6, .iload 5, 5, 0, .null), (8, .aload_n 0, 0, 0, .null), (9, .getfield 39, 7, 9, .null), (12, .if_icmp .ge 84, 96, 0, .null), (15, .aload_n 0, 0, 0, .null), (16, .getfield 21, 7, 3, .null), (19, .iload 5, 5, 0, .null), (21, .iaload, 0, 0, .null), (22, .iload_n 1, 1, 0, .null), (23, .if_icmp .ne 32, 55, 0, .null), (26, .aload_n 0, 0, 0, .null), (27, .getfield 27, 7, 5, .null), (30, .iload 5, 5, 0, .null), (32, .iaload, 0, 0, .null), (33, .iload_n 3, 3, 0, .null), (34, .if_icmp .gt 21, 55, 0, .null), (37, .aload_n 0, 0, 0, .null), (38, .getfield 24, 7, 4, .null), (41, .iload 5, 5, 0, .null), (43, .iaload, 0, 0, .null), (44, .iload_n 2, 2, 0, .null), (45, .ldc 43, 0, 0, .int 86400), (47, .idiv, 0, 0, .null), (48, .if_icmp .gt 7, 55, 0, .null), (51, .iconst 1, 0, 0, .int 1), (52, .goto 4, 56, 0, .null), (55, .iconst 0, 0, 0, .int 0), (56, .istore 6, 6, 0, .null), (58, .iload 6, 6, 0, .null), (60, .ifCond .eq 30, 90, 0, .null), (63, .iload 4, 4, 0, .null), (65, .iconst (-1), 0, 0, .int (-1)), (66, .if_icmp .eq 20, 86, 0, .null), (69, .aload_n 0, 0, 0, .null), (70, .getfield 24, 7, 4, .null), (73, .iload 5, 5, 0, .null), (75, .iaload, 0, 0, .null), (76, .aload_n 0, 0, 0, .null), (77, .getfield 24, 7, 4, .null), (80, .iload 4, 4, 0, .null), (82, .iaload, 0, 0, .null), (83, .if_icmp .lt 7, 90, 0, .null), (86, .iload 5, 5, 0, .null), (88, .istore 4, 4, 0, .null), (90, .iinc 5 1, 5, 0, .int 1), (93, .goto (-87), 6, 0, .null), (96, .iload 4, 4, 0, .null), (98, .ireturn, 0, 0, .null)]
def v_Surveys_inForce : List (Nat × List Nat) := [(0, [0, 1, 2, 3]), (6, [0, 1, 2, 3, 4, 5])]
def s_Surveys_inForce : List (Nat × Nat × List Op) := [(0, 6, o_Surveys_inForce_0), (6, 99, o_Surveys_inForce_1)]
set_option maxRecDepth 100000 in
theorem k_Surveys_inForce : MOk P_Surveys s_Surveys_inForce 17 7 := ⟨P_Surveys_ok, _, rfl, rfl, rfl, by decide +kernel⟩
def o_Findings_tell_0 : List Op := [(0, .aload_n 0, 0, 0, .null), (1, .dup, 0, 0, .null), (2, .getfield 9, 0, 0, .null), (5, .iconst 1, 0, 0, .int 1), (6, .iadd, 0, 0, .null), (7, .putfield 9, 0, 0, .null), (10, .aload_n 0, 0, 0, .null), (11, .iload_n 1, 1, 0, .null), (12, .putfield 15, 0, 1, .null), (15, .bipush (-10), 0, 0, .int (-10)), (17, .iload_n 1, 1, 0, .null), (18, .isub, 0, 0, .null), (19, .ireturn, 0, 0, .null)]
def v_Findings_tell : List (Nat × List Nat) := [(0, [0, 1])]
def s_Findings_tell : List (Nat × Nat × List Op) := [(0, 20, o_Findings_tell_0)]
set_option maxRecDepth 100000 in
theorem k_Findings_tell : MOk P_Findings s_Findings_tell 18 2 := ⟨P_Findings_ok, _, rfl, rfl, rfl, by decide +kernel⟩
def o_Surveys_heightAt_0 : List Op := [(0, .aload_n 0, 0, 0, .null), (1, .iload_n 1, 1, 0, .null), (2, .iload_n 2, 2, 0, .null), (3, .iload_n 3, 3, 0, .null), (4, .invokevirtual 44, 17, 3, .ref 7), (7, .istore 4, 4, 0, .null), (9, .iload 4, 4, 0, .null), (11, .iconst (-1), 0, 0, .int (-1)), (12, .if_icmp .ne 5, 17, 0, .null), (15, .dconst 0, 0, 0, .double 0), (16, .dreturn, 0, 0, .null), (17, .aload_n 0, 0, 0, .null), (18, .getfield 30, 7, 6, .null), (21, .iload 4, 4, 0, .null), (23, .iaload, 0, 0, .null), (24, .i2d, 0, 0, .null), (25, .ldc2_w 48, 0, 0, .double 4636737291354636288), (28, .ddiv, 0, 0, .null), (29, .dstore 5, 5, 0, .null), (31, .iconst 0, 0, 0, .int 0), (32, .istore 7, 7, 0, .null)]
def o_Surveys_heightAt_1 : List Op := [(34, .iload 7, 7, 0, .null), (36, .aload_n 0, 0, 0, .null), (37, .getfield 33, 7, 7, .null), (40, .iload 4, 4, 0, .null), (42, .iaload, 0, 0, .null), (43, .if_icmp .ge 74, 117, 0, .null), (46, .iload 4, 4, 0, .null), (48, .bipush 24, 0, 0, .int 24), (50, .imul, 0, 0, .null), (51, .iload 7, 7, 0, .null), (53, .iconst 3, 0, 0, .int 3), (54, .imul, 0, 0, .null), (55, .iadd, 0, 0, .null), (56, .istore 8, 8, 0, .null), (58, .aload_n 0, 0, 0, .null), (59, .getfield 36, 7, 8, .null), (62, .iload 8, 8, 0, .null), (64, .iconst 2, 0, 0, .int 2), (65, .iadd, 0, 0, .null), (66, .iaload, 0, 0, .null), (67, .i2l, 0, 0, .null), (68, .aload_n 0, 0, 0, .null), (69, .getfield 36, 7, 8, .null), (72, .iload 8, 8, 0, .null), (74, .iconst 1, 0, 0, .int 1), (75, .iadd, 0, 0, .null), (76, .iaload, 0, 0, .null), (77, .i2l, 0, 0, .null), (78, .iload_n 2, 2, 0, .null), (79, .i2l, 0, 0, .null), (80, .lmul, 0, 0, .null), (81, .ldc2_w 50, 0, 0, .long 1000), (84, .ldiv, 0, 0, .null), (85, .ladd, 0, 0, .null), (86, .lstore 9, 9, 0, .null), (88, .dload 5, 5, 0, .null), (90, .aload_n 0, 0, 0, .null), (91, .getfield 36, 7, 8, .null), (94, .iload 8, 8, 0, .null), (96, .iaload, 0, 0, .null), (97, .i2d, 0, 0, .null), (98, .ldc2_w 52, 0, 0, .double 4652007308841189376), (101, .ddiv, 0, 0, .null), (102, .lload 9, 9, 0, .null), (104, .invokestatic 54, 12, 1, .ref 0), (107, .dmul, 0, 0, .null), (108, .dadd, 0, 0, .null), (109, .dstore 5, 5, 0, .null), (111, .iinc 7 1, 7, 0, .int 1), (114, .goto (-80), 34, 0, .null), (117, .dload 5, 5, 0, .null), (119, .dreturn, 0, 0, .null)]
def v_Surveys_heightAt : List (Nat × List Nat) := [(0, [0, 1, 2, 3]), (34, [0, 2, 4, 5, 7])]
def s_Surveys_heightAt : List (Nat × Nat × List Op) := [(0, 34, o_Surveys_heightAt_0), (34, 120, o_Surveys_heightAt_1)]
set_option maxRecDepth 100000 in
theorem k_Surveys_heightAt : MOk P_Surveys s_Surveys_heightAt 19 11 := ⟨P_Surveys_ok, _, rfl, rfl, rfl, by decide +kernel⟩
def o_X_force_0 : List Op := [(0, .iload_n 1, 1, 0, .null), (1, .invokestatic 104, 3, 1, .ref 0), (4, .ifCond .eq 18, 22, 0, .null), (7, .iload_n 2, 2, 0, .null), (8, .invokestatic 96, 1, 1, .ref 0), (11, .ifCond .eq 11, 22, 0, .null), (14, .aload_n 0, 0, 0, .null), (15, .iload_n 3, 3, 0, .null), (16, .invokevirtual 137, 15, 1, .ref 11), (19, .ifCond .ne 6, 25, 0, .null), (22, .bipush (-2), 0, 0, .int (-2)), (24, .ireturn, 0, 0, .null), (25, .aload_n 0, 0, 0, .null), (26, .getfield 39, 11, 0, .null), (29, .invokevirtual 140, 16, 0, .ref 0), (32, .ifCond .eq 6, 38, 0, .null), (35, .bipush (-4), 0, 0, .int (-4)), (37, .ireturn, 0, 0, .null), (38, .aload_n 0, 0, 0, .null), (39, .getfield 43, 11, 1, .null), (42, .iload_n 1, 1, 0, .null), (43, .iload_n 2, 2, 0, .null), (44, .iload_n 3, 3, 0, .null), (45, .invokevirtual 146, 17, 3, .ref 7), (48, .istore 4, 4, 0, .null), (50, .iload 4, 4, 0, .null), (52, .iconst (-1), 0, 0, .int (-1)), (53, .if_icmp .ne 14, 67, 0, .null), (56, .aload_n 0, 0, 0, .null), (57, .getfield 39, 11, 0, .null), (60, .iconst 1, 0, 0, .int 1), (61, .invokevirtual 149, 18, 1, .ref 0), (64, .goto 13, 77, 0, .null), (67, .aload_n 0, 0, 0, .null), (68, .getfield 43, 11, 1, .null), (71, .getfield 157, 7, 4, .null), (74, .iload 4, 4, 0, .null), (76, .iaload, 0, 0, .null), (77, .ireturn, 0, 0, .null)]
def v_X_force : List (Nat × List Nat) := [(0, [0, 1, 2, 3])]
def s_X_force : List (Nat × Nat × List Op) := [(0, 78, o_X_force_0)]
set_option maxRecDepth 100000 in
theorem k_X_force : MOk P_X s_X_force 20 5 := ⟨P_X_ok, _, rfl, rfl, rfl, by decide +kernel⟩
def o_X_gauge_0 : List Op := [(0, .iload_n 1, 1, 0, .null), (1, .invokestatic 104, 3, 1, .ref 0), (4, .ifCond .eq 22, 26, 0, .null), (7, .iload_n 2, 2, 0, .null), (8, .invokestatic 96, 1, 1, .ref 0), (11, .ifCond .eq 15, 26, 0, .null), (14, .iload_n 3, 3, 0, .null), (15, .bipush 60, 0, 0, .int 60), (17, .sipush 7200, 0, 0, .int 7200), (20, .invokestatic 107, 4, 3, .ref 0), (23, .ifCond .ne 6, 29, 0, .null), (26, .bipush (-2), 0, 0, .int (-2)), (28, .ireturn, 0, 0, .null), (29, .aload_n 0, 0, 0, .null), (30, .getfield 47, 11, 2, .null), (33, .iload_n 1, 1, 0, .null), (34, .iload_n 2, 2, 0, .null), (35, .iload_n 3, 3, 0, .null), (36, .invokevirtual 161, 22, 3, .ref 2), (39, .ireturn, 0, 0, .null)]
def v_X_gauge : List (Nat × List Nat) := [(0, [0, 1, 2, 3])]
def s_X_gauge : List (Nat × Nat × List Op) := [(0, 40, o_X_gauge_0)]
set_option maxRecDepth 100000 in
theorem k_X_gauge : MOk P_X s_X_gauge 21 4 := ⟨P_X_ok, _, rfl, rfl, rfl, by decide +kernel⟩
def o_Gauges_add_0 : List Op := [(0, .aload_n 0, 0, 0, .null), (1, .getfield 50, 2, 9, .null), (4, .bipush 10, 0, 0, .int 10), (6, .if_icmp .lt 6, 12, 0, .null), (9, .bipush (-4), 0, 0, .int (-4)), (11, .ireturn, 0, 0, .null), (12, .aload_n 0, 0, 0, .null), (13, .getfield 9, 2, 1, .null), (16, .aload_n 0, 0, 0, .null), (17, .getfield 50, 2, 9, .null), (20, .iload_n 1, 1, 0, .null), (21, .iastore, 0, 0, .null), (22, .aload_n 0, 0, 0, .null), (23, .getfield 15, 2, 2, .null), (26, .aload_n 0, 0, 0, .null), (27, .getfield 50, 2, 9, .null), (30, .iload_n 2, 2, 0, .null), (31, .iastore, 0, 0, .null), (32, .aload_n 0, 0, 0, .null), (33, .getfield 18, 2, 3, .null), (36, .aload_n 0, 0, 0, .null), (37, .getfield 50, 2, 9, .null), (40, .iload_n 3, 3, 0, .null), (41, .iastore, 0, 0, .null), (42, .aload_n 0, 0, 0, .null), (43, .dup, 0, 0, .null), (44, .getfield 50, 2, 9, .null), (47, .iconst 1, 0, 0, .int 1), (48, .iadd, 0, 0, .null), (49, .putfield 50, 2, 9, .null), (52, .aload_n 0, 0, 0, .null), (53, .getfield 50, 2, 9, .null), (56, .iconst 1, 0, 0, .int 1), (57, .isub, 0, 0, .null), (58, .ireturn, 0, 0, .null)]
def v_Gauges_add : List (Nat × List Nat) := [(0, [0, 1, 2, 3])]
def s_Gauges_add : List (Nat × Nat × List Op) := [(0, 59, o_Gauges_add_0)]
set_option maxRecDepth 100000 in
theorem k_Gauges_add : MOk P_Gauges s_Gauges_add 22 4 := ⟨P_Gauges_ok, _, rfl, rfl, rfl, by decide +kernel⟩
def o_X_reading_0 : List Op := [(0, .aload_n 0, 0, 0, .null), (1, .iload_n 1, 1, 0, .null), (2, .invokevirtual 164, 24, 1, .ref 11), (5, .ifCond .eq 16, 21, 0, .null), (8, .iload_n 2, 2, 0, .null), (9, .sipush (-32768), 0, 0, .int (-32768)), (12, .sipush 32767, 0, 0, .int 32767), (15, .invokestatic 107, 4, 3, .ref 0), (18, .ifCond .ne 6, 24, 0, .null), (21, .bipush (-2), 0, 0, .int (-2)), (23, .ireturn, 0, 0, .null), (24, .aload_n 0, 0, 0, .null), (25, .getfield 47, 11, 2, .null), (28, .iload_n 1, 1, 0, .null), (29, .aload_n 0, 0, 0, .null), (30, .getfield 47, 11, 2, .null), (33, .getfield 167, 2, 5, .null), (36, .iload_n 1, 1, 0, .null), (37, .iaload, 0, 0, .null), (38, .invokevirtual 170, 25, 2, .ref 2), (41, .aload_n 0, 0, 0, .null), (42, .getfield 100, 11, 11, .null), (45, .if_icmp .le 6, 51, 0, .null), (48, .bipush (-3), 0, 0, .int (-3)), (50, .ireturn, 0, 0, .null), (51, .aload_n 0, 0, 0, .null), (52, .getfield 47, 11, 2, .null), (55, .getfield 167, 2, 5, .null), (58, .iload_n 1, 1, 0, .null), (59, .iaload, 0, 0, .null), (60, .bipush 120, 0, 0, .int 120), (62, .if_icmp .ge 13, 75, 0, .null), (65, .aload_n 0, 0, 0, .null), (66, .getfield 39, 11, 0, .null), (69, .invokevirtual 140, 16, 0, .ref 0), (72, .ifCond .eq 6, 78, 0, .null), (75, .bipush (-4), 0, 0, .int (-4)), (77, .ireturn, 0, 0, .null), (78, .aload_n 0, 0, 0, .null), (79, .getfield 47, 11, 2, .null), (82, .getfield 173, 2, 4, .null), (85, .iload_n 1, 1, 0, .null), (86, .baload, 0, 0, .null), (87, .ifCond .eq 12, 99, 0, .null), (90, .aload_n 0, 0, 0, .null), (91, .getfield 39, 11, 0, .null), (94, .iconst 1, 0, 0, .int 1), (95, .invokevirtual 149, 18, 1, .ref 0), (98, .ireturn, 0, 0, .null), (99, .aload_n 0, 0, 0, .null), (100, .getfield 47, 11, 2, .null), (103, .iload_n 1, 1, 0, .null), (104, .iload_n 2, 2, 0, .null), (105, .iload_n 3, 3, 0, .null), (106, .invokestatic 177, 26, 1, .ref 0), (109, .ifCond .eq 8, 117, 0, .null), (112, .ldc 180, 0, 0, .int 2143289344), (114, .goto 4, 118, 0, .null), (117, .iload_n 3, 3, 0, .null), (118, .invokevirtual 181, 27, 3, .ref 2), (121, .ireturn, 0, 0, .null)]
def v_X_reading : List (Nat × List Nat) := [(0, [0, 1, 2, 3])]
def s_X_reading : List (Nat × Nat × List Op) := [(0, 122, o_X_reading_0)]
set_option maxRecDepth 100000 in
theorem k_X_reading : MOk P_X s_X_reading 23 4 := ⟨P_X_ok, _, rfl, rfl, rfl, by decide +kernel⟩
def o_X_isGauge_0 : List Op := [(0, .iload_n 1, 1, 0, .null), (1, .ifCond .lt 18, 19, 0, .null), (4, .iload_n 1, 1, 0, .null), (5, .aload_n 0, 0, 0, .null), (6, .getfield 47, 11, 2, .null), (9, .getfield 421, 2, 9, .null), (12, .if_icmp .ge 7, 19, 0, .null), (15, .iconst 1, 0, 0, .int 1), (16, .goto 4, 20, 0, .null), (19, .iconst 0, 0, 0, .int 0), (20, .ireturn, 1, 0, .null)]
def v_X_isGauge : List (Nat × List Nat) := [(0, [0, 1])]
def s_X_isGauge : List (Nat × Nat × List Op) := [(0, 21, o_X_isGauge_0)]
set_option maxRecDepth 100000 in
theorem k_X_isGauge : MOk P_X s_X_isGauge 24 2 := ⟨P_X_ok, _, rfl, rfl, rfl, by decide +kernel⟩
def o_Gauges_momentOf_0 : List Op := [(0, .aload_n 0, 0, 0, .null), (1, .getfield 15, 2, 2, .null), (4, .iload_n 1, 1, 0, .null), (5, .iaload, 0, 0, .null), (6, .iload_n 2, 2, 0, .null), (7, .aload_n 0, 0, 0, .null), (8, .getfield 18, 2, 3, .null), (11, .iload_n 1, 1, 0, .null), (12, .iaload, 0, 0, .null), (13, .imul, 0, 0, .null), (14, .iadd, 0, 0, .null), (15, .ireturn, 0, 0, .null)]
def v_Gauges_momentOf : List (Nat × List Nat) := [(0, [0, 1, 2])]
def s_Gauges_momentOf : List (Nat × Nat × List Op) := [(0, 16, o_Gauges_momentOf_0)]
set_option maxRecDepth 100000 in
theorem k_Gauges_momentOf : MOk P_Gauges s_Gauges_momentOf 25 3 := ⟨P_Gauges_ok, _, rfl, rfl, rfl, by decide +kernel⟩
def o_X_isNoFloat_0 : List Op := [(0, .iload_n 0, 0, 0, .null), (1, .ldc_w 265, 0, 0, .int 2147483647), (4, .iand, 0, 0, .null), (5, .ldc_w 436, 0, 0, .int 2139095040), (8, .if_icmp .le 7, 15, 0, .null), (11, .iconst 1, 0, 0, .int 1), (12, .goto 4, 16, 0, .null), (15, .iconst 0, 0, 0, .int 0), (16, .ireturn, 1, 0, .null)]
def v_X_isNoFloat : List (Nat × List Nat) := [(0, [0])]
def s_X_isNoFloat : List (Nat × Nat × List Op) := [(0, 17, o_X_isNoFloat_0)]
set_option maxRecDepth 100000 in
theorem k_X_isNoFloat : MOk P_X s_X_isNoFloat 26 1 := ⟨P_X_ok, _, rfl, rfl, rfl, by decide +kernel⟩
def o_Gauges_addReading_0 : List Op := [(0, .iload_n 1, 1, 0, .null), (1, .bipush 120, 0, 0, .int 120), (3, .imul, 0, 0, .null), (4, .aload_n 0, 0, 0, .null), (5, .getfield 25, 2, 5, .null), (8, .iload_n 1, 1, 0, .null), (9, .iaload, 0, 0, .null), (10, .iadd, 0, 0, .null), (11, .istore 4, 4, 0, .null), (13, .aload_n 0, 0, 0, .null), (14, .getfield 28, 2, 6, .null), (17, .iload 4, 4, 0, .null), (19, .iload_n 2, 2, 0, .null), (20, .i2s, 0, 0, .null), (21, .sastore, 0, 0, .null), (22, .aload_n 0, 0, 0, .null), (23, .getfield 32, 2, 7, .null), (26, .iload 4, 4, 0, .null), (28, .iload_n 3, 3, 0, .null), (29, .iastore, 0, 0, .null), (30, .aload_n 0, 0, 0, .null), (31, .getfield 25, 2, 5, .null), (34, .iload_n 1, 1, 0, .null), (35, .dup2, 0, 0, .null), (36, .iaload, 0, 0, .null), (37, .iconst 1, 0, 0, .int 1), (38, .iadd, 0, 0, .null), (39, .iastore, 0, 0, .null), (40, .aload_n 0, 0, 0, .null), (41, .getfield 25, 2, 5, .null), (44, .iload_n 1, 1, 0, .null), (45, .iaload, 0, 0, .null), (46, .ireturn, 0, 0, .null)]
def v_Gauges_addReading : List (Nat × List Nat) := [(0, [0, 1, 2, 3])]
def s_Gauges_addReading : List (Nat × Nat × List Op) := [(0, 47, o_Gauges_addReading_0)]
set_option maxRecDepth 100000 in
theorem k_Gauges_addReading : MOk P_Gauges s_Gauges_addReading 27 5 := ⟨P_Gauges_ok, _, rfl, rfl, rfl, by decide +kernel⟩
def o_X_out_0 : List Op := [(0, .aload_n 0, 0, 0, .null), (1, .iload_n 1, 1, 0, .null), (2, .invokevirtual 164, 24, 1, .ref 11), (5, .ifCond .ne 6, 11, 0, .null), (8, .bipush (-2), 0, 0, .int (-2)), (10, .ireturn, 0, 0, .null), (11, .aload_n 0, 0, 0, .null), (12, .getfield 47, 11, 2, .null), (15, .getfield 173, 2, 4, .null), (18, .iload_n 1, 1, 0, .null), (19, .baload, 0, 0, .null), (20, .iload_n 2, 2, 0, .null), (21, .if_icmp .ne 5, 26, 0, .null), (24, .iconst 0, 0, 0, .int 0), (25, .ireturn, 0, 0, .null), (26, .aload_n 0, 0, 0, .null), (27, .getfield 47, 11, 2, .null), (30, .getfield 173, 2, 4, .null), (33, .iload_n 1, 1, 0, .null), (34, .iload_n 2, 2, 0, .null), (35, .bastore, 0, 0, .null), (36, .iconst 1, 0, 0, .int 1), (37, .ireturn, 0, 0, .null)]
def v_X_out : List (Nat × List Nat) := [(0, [0, 1, 2])]
def s_X_out : List (Nat × Nat × List Op) := [(0, 38, o_X_out_0)]
set_option maxRecDepth 100000 in
theorem k_X_out : MOk P_X s_X_out 28 3 := ⟨P_X_ok, _, rfl, rfl, rfl, by decide +kernel⟩
def o_X_at_0 : List Op := [(0, .aload_n 0, 0, 0, .null), (1, .iload_n 1, 1, 0, .null), (2, .invokevirtual 164, 24, 1, .ref 11), (5, .ifCond .eq 13, 18, 0, .null), (8, .aload_n 0, 0, 0, .null), (9, .getfield 39, 11, 0, .null), (12, .invokevirtual 140, 16, 0, .ref 0), (15, .ifCond .eq 6, 21, 0, .null), (18, .ldc 111, 0, 0, .int (-100000)), (20, .ireturn, 0, 0, .null), (21, .aload_n 0, 0, 0, .null), (22, .getfield 47, 11, 2, .null), (25, .iload_n 1, 1, 0, .null), (26, .iload_n 2, 2, 0, .null), (27, .invokevirtual 184, 30, 2, .ref 2), (30, .istore_n 3, 3, 0, .null), (31, .iload_n 3, 3, 0, .null), (32, .ifCond .eq 17, 49, 0, .null), (35, .aload_n 0, 0, 0, .null), (36, .getfield 39, 11, 0, .null), (39, .iload_n 3, 3, 0, .null), (40, .invokevirtual 149, 18, 1, .ref 0), (43, .pop, 0, 0, .null), (44, .ldc 111, 0, 0, .int (-100000)), (46, .iload_n 3, 3, 0, .null), (47, .isub, 0, 0, .null), (48, .ireturn, 0, 0, .null), (49, .aload_n 0, 0, 0, .null), (50, .getfield 47, 11, 2, .null), (53, .getfield 187, 2, 6, .null), (56, .iload_n 1, 1, 0, .null), (57, .bipush 120, 0, 0, .int 120), (59, .imul, 0, 0, .null), (60, .iload_n 2, 2, 0, .null), (61, .iadd, 0, 0, .null), (62, .saload, 0, 0, .null), (63, .ireturn, 0, 0, .null)]
def v_X_at : List (Nat × List Nat) := [(0, [0, 1, 2])]
def s_X_at : List (Nat × Nat × List Op) := [(0, 64, o_X_at_0)]
set_option maxRecDepth 100000 in
theorem k_X_at : MOk P_X s_X_at 29 4 := ⟨P_X_ok, _, rfl, rfl, rfl, by decide +kernel⟩
def o_Gauges_faultAt_0 : List Op := [(0, .aload_n 0, 0, 0, .null), (1, .getfield 21, 2, 4, .null), (4, .iload_n 1, 1, 0, .null), (5, .baload, 0, 0, .null), (6, .ifCond .eq 5, 11, 0, .null), (9, .iconst 1, 0, 0, .int 1), (10, .ireturn, 0, 0, .null), (11, .iload_n 2, 2, 0, .null), (12, .ifCond .lt 13, 25, 0, .null), (15, .iload_n 2, 2, 0, .null), (16, .aload_n 0, 0, 0, .null), (17, .getfield 25, 2, 5, .null), (20, .iload_n 1, 1, 0, .null), (21, .iaload, 0, 0, .null), (22, .if_icmp .lt 7, 29, 0, .null), (25, .iconst 2, 0, 0, .int 2), (26, .goto 4, 30, 0, .null), (29, .iconst 0, 0, 0, .int 0), (30, .ireturn, 0, 0, .null)]
def v_Gauges_faultAt : List (Nat × List Nat) := [(0, [0, 1, 2])]
def s_Gauges_faultAt : List (Nat × Nat × List Op) := [(0, 31, o_Gauges_faultAt_0)]
set_option maxRecDepth 100000 in
theorem k_Gauges_faultAt : MOk P_Gauges s_Gauges_faultAt 30 3 := ⟨P_Gauges_ok, _, rfl, rfl, rfl, by decide +kernel⟩
def o_X_air_0 : List Op := [(0, .aload_n 0, 0, 0, .null), (1, .iload_n 1, 1, 0, .null), (2, .invokevirtual 164, 24, 1, .ref 11), (5, .ifCond .eq 13, 18, 0, .null), (8, .aload_n 0, 0, 0, .null), (9, .getfield 39, 11, 0, .null), (12, .invokevirtual 140, 16, 0, .ref 0), (15, .ifCond .eq 6, 21, 0, .null), (18, .ldc 180, 0, 0, .int 2143289344), (20, .ireturn, 0, 0, .null), (21, .aload_n 0, 0, 0, .null), (22, .getfield 47, 11, 2, .null), (25, .iload_n 1, 1, 0, .null), (26, .iload_n 2, 2, 0, .null), (27, .invokevirtual 184, 30, 2, .ref 2), (30, .istore_n 3, 3, 0, .null), (31, .iload_n 3, 3, 0, .null), (32, .ifCond .eq 15, 47, 0, .null), (35, .aload_n 0, 0, 0, .null), (36, .getfield 39, 11, 0, .null), (39, .iload_n 3, 3, 0, .null), (40, .invokevirtual 149, 18, 1, .ref 0), (43, .pop, 0, 0, .null), (44, .ldc 180, 0, 0, .int 2143289344), (46, .ireturn, 0, 0, .null), (47, .aload_n 0, 0, 0, .null), (48, .getfield 47, 11, 2, .null), (51, .getfield 191, 2, 7, .null), (54, .iload_n 1, 1, 0, .null), (55, .bipush 120, 0, 0, .int 120), (57, .imul, 0, 0, .null), (58, .iload_n 2, 2, 0, .null), (59, .iadd, 0, 0, .null), (60, .iaload, 0, 0, .null), (61, .ireturn, 0, 0, .null)]
def v_X_air : List (Nat × List Nat) := [(0, [0, 1, 2])]
def s_X_air : List (Nat × Nat × List Op) := [(0, 62, o_X_air_0)]
set_option maxRecDepth 100000 in
theorem k_X_air : MOk P_X s_X_air 31 4 := ⟨P_X_ok, _, rfl, rfl, rfl, by decide +kernel⟩
def o_X_compare_0 : List Op := [(0, .aload_n 0, 0, 0, .null), (1, .iload_n 1, 1, 0, .null), (2, .invokevirtual 164, 24, 1, .ref 11), (5, .ifCond .ne 6, 11, 0, .null), (8, .bipush (-2), 0, 0, .int (-2)), (10, .ireturn, 0, 0, .null), (11, .aload_n 0, 0, 0, .null), (12, .getfield 39, 11, 0, .null), (15, .invokevirtual 140, 16, 0, .ref 0), (18, .ifCond .eq 6, 24, 0, .null), (21, .bipush (-4), 0, 0, .int (-4)), (23, .ireturn, 0, 0, .null), (24, .aload_n 0, 0, 0, .null), (25, .getfield 47, 11, 2, .null), (28, .iload_n 1, 1, 0, .null), (29, .iload_n 2, 2, 0, .null), (30, .invokevirtual 184, 30, 2, .ref 2), (33, .istore 4, 4, 0, .null), (35, .iload 4, 4, 0, .null), (37, .ifCond .ne 14, 51, 0, .null), (40, .aload_n 0, 0, 0, .null), (41, .getfield 47, 11, 2, .null), (44, .iload_n 1, 1, 0, .null), (45, .iload_n 3, 3, 0, .null), (46, .invokevirtual 184, 30, 2, .ref 2), (49, .istore 4, 4, 0, .null), (51, .iload 4, 4, 0, .null), (53, .ifCond .eq 13, 66, 0, .null), (56, .aload_n 0, 0, 0, .null), (57, .getfield 39, 11, 0, .null), (60, .iload 4, 4, 0, .null), (62, .invokevirtual 149, 18, 1, .ref 0), (65, .ireturn, 0, 0, .null), (66, .aload_n 0, 0, 0, .null), (67, .getfield 47, 11, 2, .null), (70, .getfield 191, 2, 7, .null), (73, .iload_n 1, 1, 0, .null), (74, .bipush 120, 0, 0, .int 120), (76, .imul, 0, 0, .null), (77, .iload_n 2, 2, 0, .null), (78, .iadd, 0, 0, .null), (79, .iaload, 0, 0, .null), (80, .aload_n 0, 0, 0, .null), (81, .getfield 47, 11, 2, .null), (84, .getfield 191, 2, 7, .null), (87, .iload_n 1, 1, 0, .null), (88, .bipush 120, 0, 0, .int 120), (90, .imul, 0, 0, .null), (91, .iload_n 3, 3, 0, .null), (92, .iadd, 0, 0, .null), (93, .iaload, 0, 0, .null), (94, .invokestatic 194, 33, 2, .ref 0), (97, .ireturn, 0, 0, .null)]
def v_X_compare : List (Nat × List Nat) := [(0, [0, 1, 2, 3])]
def s_X_compare : List (Nat × Nat × List Op) := [(0, 98, o_X_compare_0)]
set_option maxRecDepth 100000 in
theorem k_X_compare : MOk P_X s_X_compare 32 5 := ⟨P_X_ok, _, rfl, rfl, rfl, by decide +kernel⟩
def o_X_relationsOf_0 : List Op := [(0, .iload_n 0, 0, 0, .null), (1, .invokestatic 177, 26, 1, .ref 0), (4, .ifCond .ne 10, 14, 0, .null), (7, .iload_n 1, 1, 0, .null), (8, .invokestatic 177, 26, 1, .ref 0), (11, .ifCond .eq 6, 17, 0, .null), (14, .bipush 32, 0, 0, .int 32), (16, .ireturn, 0, 0, .null), (17, .iload_n 0, 0, 0, .null), (18, .invokestatic 437, 34, 1, .ref 0), (21, .istore_n 2, 2, 0, .null), (22, .iload_n 1, 1, 0, .null), (23, .invokestatic 437, 34, 1, .ref 0), (26, .istore_n 3, 3, 0, .null), (27, .iload_n 2, 2, 0, .null), (28, .iload_n 3, 3, 0, .null), (29, .if_icmp .ge 6, 35, 0, .null), (32, .bipush 35, 0, 0, .int 35), (34, .ireturn, 0, 0, .null), (35, .iload_n 2, 2, 0, .null), (36, .iload_n 3, 3, 0, .null), (37, .if_icmp .le 8, 45, 0, .null), (40, .bipush 44, 0, 0, .int 44), (42, .goto 5, 47, 0, .null), (45, .bipush 26, 0, 0, .int 26), (47, .ireturn, 0, 0, .null)]
def v_X_relationsOf : List (Nat × List Nat) := [(0, [0, 1])]
def s_X_relationsOf : List (Nat × Nat × List Op) := [(0, 48, o_X_relationsOf_0)]
set_option maxRecDepth 100000 in
theorem k_X_relationsOf : MOk P_X s_X_relationsOf 33 4 := ⟨P_X_ok, _, rfl, rfl, rfl, by decide +kernel⟩
def o_X_orderOf_0 : List Op := [(0, .iload_n 0, 0, 0, .null), (1, .ifCond .lt 7, 8, 0, .null), (4, .iload_n 0, 0, 0, .null), (5, .goto 9, 14, 0, .null), (8, .iload_n 0, 0, 0, .null), (9, .ldc_w 265, 0, 0, .int 2147483647), (12, .iand, 0, 0, .null), (13, .ineg, 0, 0, .null), (14, .ireturn, 0, 0, .null)]
def v_X_orderOf : List (Nat × List Nat) := [(0, [0])]
def s_X_orderOf : List (Nat × Nat × List Op) := [(0, 15, o_X_orderOf_0)]
set_option maxRecDepth 100000 in
theorem k_X_orderOf : MOk P_X s_X_orderOf 34 1 := ⟨P_X_ok, _, rfl, rfl, rfl, by decide +kernel⟩
def o_X_rule_0 : List Op := [(0, .bipush (-2), 0, 0, .int (-2)), (2, .istore_n 3, 3, 0, .null), (3, .iload_n 1, 1, 0, .null), (4, .ifCond .ne 32, 36, 0, .null), (7, .iload_n 2, 2, 0, .null), (8, .iconst 1, 0, 0, .int 1), (9, .bipush 9, 0, 0, .int 9), (11, .invokestatic 107, 4, 3, .ref 0), (14, .ifCond .eq 22, 36, 0, .null), (17, .aload_n 0, 0, 0, .null), (18, .getfield 47, 11, 2, .null), (21, .getfield 197, 2, 10, .null), (24, .istore_n 3, 3, 0, .null), (25, .aload_n 0, 0, 0, .null), (26, .getfield 47, 11, 2, .null), (29, .iload_n 2, 2, 0, .null), (30, .putfield 197, 2, 10, .null), (33, .goto 68, 101, 0, .null), (36, .iload_n 1, 1, 0, .null), (37, .iconst 1, 0, 0, .int 1), (38, .if_icmp .ne 32, 70, 0, .null), (41, .iload_n 2, 2, 0, .null), (42, .iconst 1, 0, 0, .int 1), (43, .bipush 48, 0, 0, .int 48), (45, .invokestatic 107, 4, 3, .ref 0), (48, .ifCond .eq 22, 70, 0, .null), (51, .aload_n 0, 0, 0, .null), (52, .getfield 47, 11, 2, .null), (55, .getfield 200, 2, 11, .null), (58, .istore_n 3, 3, 0, .null), (59, .aload_n 0, 0, 0, .null), (60, .getfield 47, 11, 2, .null), (63, .iload_n 2, 2, 0, .null), (64, .putfield 200, 2, 11, .null), (67, .goto 34, 101, 0, .null), (70, .iload_n 1, 1, 0, .null), (71, .iconst 2, 0, 0, .int 2), (72, .if_icmp .ne 29, 101, 0, .null), (75, .iload_n 2, 2, 0, .null), (76, .iconst 1, 0, 0, .int 1), (77, .bipush 60, 0, 0, .int 60), (79, .invokestatic 107, 4, 3, .ref 0), (82, .ifCond .eq 19, 101, 0, .null), (85, .aload_n 0, 0, 0, .null), (86, .getfield 55, 11, 4, .null), (89, .getfield 203, 9, 7, .null), (92, .istore_n 3, 3, 0, .null), (93, .aload_n 0, 0, 0, .null), (94, .getfield 55, 11, 4, .null), (97, .iload_n 2, 2, 0, .null), (98, .putfield 203, 9, 7, .null), (101, .iload_n 3, 3, 0, .null), (102, .ireturn, 0, 0, .null)]
def v_X_rule : List (Nat × List Nat) := [(0, [0, 1, 2])]
def s_X_rule : List (Nat × Nat × List Op) := [(0, 103, o_X_rule_0)]
set_option maxRecDepth 100000 in
theorem k_X_rule : MOk P_X s_X_rule 35 4 := ⟨P_X_ok, _, rfl, rfl, rfl, by decide +kernel⟩
def o_X_surge_0 : List Op := [(0, .aload_n 0, 0, 0, .null), (1, .iload_n 1, 1, 0, .null), (2, .invokevirtual 164, 24, 1, .ref 11), (5, .ifCond .eq 20, 25, 0, .null), (8, .iload_n 2, 2, 0, .null), (9, .invokestatic 96, 1, 1, .ref 0), (12, .ifCond .eq 13, 25, 0, .null), (15, .aload_n 0, 0, 0, .null), (16, .getfield 39, 11, 0, .null), (19, .invokevirtual 140, 16, 0, .ref 0), (22, .ifCond .eq 7, 29, 0, .null), (25, .ldc2_w 144, 0, 0, .long 9221120237041090560), (28, .lreturn, 0, 0, .null), (29, .aload_n 0, 0, 0, .null), (30, .getfield 47, 11, 2, .null), (33, .getfield 173, 2, 4, .null), (36, .iload_n 1, 1, 0, .null), (37, .baload, 0, 0, .null), (38, .ifCond .eq 16, 54, 0, .null), (41, .aload_n 0, 0, 0, .null), (42, .getfield 39, 11, 0, .null), (45, .iconst 1, 0, 0, .int 1), (46, .invokevirtual 149, 18, 1, .ref 0), (49, .pop, 0, 0, .null), (50, .ldc2_w 144, 0, 0, .long 9221120237041090560), (53, .lreturn, 0, 0, .null), (54, .aload_n 0, 0, 0, .null), (55, .getfield 47, 11, 2, .null), (58, .iload_n 1, 1, 0, .null), (59, .iload_n 2, 2, 0, .null), (60, .aload_n 0, 0, 0, .null), (61, .getfield 100, 11, 11, .null), (64, .invokevirtual 206, 37, 3, .ref 2), (67, .istore_n 3, 3, 0, .null), (68, .aload_n 0, 0, 0, .null), (69, .aload_n 0, 0, 0, .null), (70, .getfield 47, 11, 2, .null), (73, .getfield 209, 2, 13, .null), (76, .putfield 212, 11, 13, .null), (79, .iload_n 3, 3, 0, .null), (80, .ifCond .ne 17, 97, 0, .null), (83, .aload_n 0, 0, 0, .null), (84, .getfield 39, 11, 0, .null), (87, .bipush 7, 0, 0, .int 7), (89, .invokevirtual 149, 18, 1, .ref 0), (92, .pop, 0, 0, .null), (93, .ldc2_w 144, 0, 0, .long 9221120237041090560), (96, .lreturn, 0, 0, .null), (97, .aload_n 0, 0, 0, .null), (98, .getfield 47, 11, 2, .null), (101, .iload_n 2, 2, 0, .null), (102, .invokevirtual 215, 39, 1, .ref 2), (105, .invokestatic 133, 13, 1, .ref 0), (108, .lreturn, 0, 0, .null)]
def v_X_surge : List (Nat × List Nat) := [(0, [0, 1, 2])]
def s_X_surge : List (Nat × Nat × List Op) := [(0, 109, o_X_surge_0)]
set_option maxRecDepth 100000 in
theorem k_X_surge : MOk P_X s_X_surge 36 4 := ⟨P_X_ok, _, rfl, rfl, rfl, by decide +kernel⟩
def o_Gauges_gather_0 : List Op := [(0, .iconst 0, 0, 0, .int 0), (1, .istore 4, 4, 0, .null)]
def o_Gauges_gather_1 : List Op := [(3, .iload 4, 4, 0, .null), (5, .aload_n 0, 0, 0, .null), (6, .getfield 25, 2, 5, .null), (9, .iload_n 1, 1, 0, .null), (10, .iaload, 0, 0, .null), (11, .if_icmp .ge 20, 31, 0, .null), (14, .aload_n 0, 0, 0, .null), (15, .iload_n 1, 1, 0, .null), (16, .iload 4, 4, 0, .null), (18, .invokevirtual 53, 25, 2, .ref 2), (21, .iload_n 2, 2, 0, .null), (22, .if_icmp .gt 9, 31, 0, .null), (25, .iinc 4 1, 4, 0, .int 1), (28, .goto (-25), 3, 0, .null), (31, .aload_n 0, 0, 0, .null), (32, .iconst 0, 0, 0, .int 0), (33, .putfield 57, 2, 12, .null), (36, .aload_n 0, 0, 0, .null), (37, .iconst 0, 0, 0, .int 0), (38, .putfield 60, 2, 13, .null), (41, .iload 4, 4, 0, .null), (43, .aload_n 0, 0, 0, .null), (44, .getfield 39, 2, 10, .null), (47, .if_icmp .le 13, 60, 0, .null), (50, .iload 4, 4, 0, .null), (52, .aload_n 0, 0, 0, .null), (53, .getfield 39, 2, 10, .null), (56, .isub, 0, 0, .null), (57, .goto 4, 61, 0, .null), (60, .iconst 0, 0, 0, .int 0), (61, .istore 5, 5, 0, .null)]
def o_Gauges_gather_2 : List Op := [(63, .iload 5, 5, 0, .null), (65, .iload 4, 4, 0, .null), (67, .if_icmp .ge 107, 174, 0, .null), (70, .aload_n 0, 0, 0, .null), (71, .iload_n 1, 1, 0, .null), (72, .iload 5, 5, 0, .null), (74, .invokevirtual 53, 25, 2, .ref 2), (77, .istore 6, 6, 0, .null), (79, .aload_n 0, 0, 0, .null), (80, .getfield 28, 2, 6, .null), (83, .iload_n 1, 1, 0, .null), (84, .bipush 120, 0, 0, .int 120), (86, .imul, 0, 0, .null), (87, .iload 5, 5, 0, .null), (89, .iadd, 0, 0, .null), (90, .saload, 0, 0, .null), (91, .istore 7, 7, 0, .null), (93, .iload 7, 7, 0, .null), (95, .sipush (-32768), 0, 0, .int (-32768)), (98, .if_icmp .eq 23, 121, 0, .null), (101, .aload_n 0, 0, 0, .null), (102, .getfield 46, 2, 0, .null), (105, .aload_n 0, 0, 0, .null), (106, .getfield 9, 2, 1, .null), (109, .iload_n 1, 1, 0, .null), (110, .iaload, 0, 0, .null), (111, .iload 6, 6, 0, .null), (113, .iload_n 3, 3, 0, .null), (114, .invokevirtual 63, 17, 3, .ref 7), (117, .iconst (-1), 0, 0, .int (-1)), (118, .if_icmp .ne 16, 134, 0, .null), (121, .aload_n 0, 0, 0, .null), (122, .dup, 0, 0, .null), (123, .getfield 60, 2, 13, .null), (126, .iconst 1, 0, 0, .int 1), (127, .iadd, 0, 0, .null), (128, .putfield 60, 2, 13, .null), (131, .goto 37, 168, 0, .null), (134, .aload_n 0, 0, 0, .null), (135, .iload 7, 7, 0, .null), (137, .i2d, 0, 0, .null), (138, .ldc2_w 69, 0, 0, .double 4636737291354636288), (141, .ddiv, 0, 0, .null), (142, .aload_n 0, 0, 0, .null), (143, .getfield 46, 2, 0, .null), (146, .aload_n 0, 0, 0, .null), (147, .getfield 9, 2, 1, .null), (150, .iload_n 1, 1, 0, .null), (151, .iaload, 0, 0, .null), (152, .iload 6, 6, 0, .null), (154, .iload_n 3, 3, 0, .null), (155, .invokevirtual 71, 19, 3, .ref 7), (158, .dsub, 0, 0, .null), (159, .invokevirtual 75, 38, 1, .ref 2), (162, .aload_n 0, 0, 0, .null), (163, .iload 6, 6, 0, .null), (165, .putfield 79, 2, 14, .null), (168, .iinc 5 1, 5, 0, .int 1), (171, .goto (-108), 63, 0, .null), (174, .aload_n 0, 0, 0, .null), (175, .getfield 57, 2, 12, .null), (178, .ireturn, 0, 0, .null)]
def v_Gauges_gather : List (Nat × List Nat) := [(0, [0, 1, 2, 3]), (3, [0, 1, 2, 3, 4]), (63, [0, 1, 3, 4, 5])]
def s_Gauges_gather : List (Nat × Nat × List Op) := [(0, 3, o_Gauges_gather_0), (3, 63, o_Gauges_gather_1), (63, 179, o_Gauges_gather_2)]
set_option maxRecDepth 100000 in
theorem k_Gauges_gather : MOk P_Gauges s_Gauges_gather 37 8 := ⟨P_Gauges_ok, _, rfl, rfl, rfl, by decide +kernel⟩
def o_Gauges_keepBySize_0 : List Op := [(0, .aload_n 0, 0, 0, .null), (1, .getfield 57, 2, 12, .null), (4, .istore_n 3, 3, 0, .null)]
def o_Gauges_keepBySize_1 : List Op := [(5, .iload_n 3, 3, 0, .null), (6, .ifCond .le 36, 42, 0, .null), (9, .aload_n 0, 0, 0, .null), (10, .getfield 35, 2, 8, .null), (13, .iload_n 3, 3, 0, .null), (14, .iconst 1, 0, 0, .int 1), (15, .isub, 0, 0, .null), (16, .daload, 0, 0, .null), (17, .dload_n 1, 1, 0, .null), (18, .dcmp .l, 0, 0, .null), (19, .ifCond .le 23, 42, 0, .null), (22, .aload_n 0, 0, 0, .null), (23, .getfield 35, 2, 8, .null), (26, .iload_n 3, 3, 0, .null), (27, .aload_n 0, 0, 0, .null), (28, .getfield 35, 2, 8, .null), (31, .iload_n 3, 3, 0, .null), (32, .iconst 1, 0, 0, .int 1), (33, .isub, 0, 0, .null), (34, .daload, 0, 0, .null), (35, .dastore, 0, 0, .null), (36, .iinc 3 (-1), 3, 0, .int (-1)), (39, .goto (-34), 5, 0, .null), (42, .aload_n 0, 0, 0, .null), (43, .getfield 35, 2, 8, .null), (46, .iload_n 3, 3, 0, .null), (47, .dload_n 1, 1, 0, .null), (48, .dastore, 0, 0, .null), (49, .aload_n 0, 0, 0, .null), (50, .dup, 0, 0, .null), (51, .getfield 57, 2, 12, .null), (54, .iconst 1, 0, 0, .int 1), (55, .iadd, 0, 0, .null), (56, .putfield 57, 2, 12, .null), (59, .return_, 0, 0, .null)]
def v_Gauges_keepBySize : List (Nat × List Nat) := [(0, [0, 1]), (5, [0, 1, 3])]
def s_Gauges_keepBySize : List (Nat × Nat × List Op) := [(0, 5, o_Gauges_keepBySize_0), (5, 60, o_Gauges_keepBySize_1)]
set_option maxRecDepth 100000 in
theorem k_Gauges_keepBySize : MOk P_Gauges s_Gauges_keepBySize 38 4 := ⟨P_Gauges_ok, _, rfl, rfl, rfl, by decide +kernel⟩
def o_Gauges_fadedMiddle_0 : List Op := [(0, .iload_n 1, 1, 0, .null), (1, .aload_n 0, 0, 0, .null), (2, .getfield 79, 2, 14, .null), (5, .isub, 0, 0, .null), (6, .istore_n 2, 2, 0, .null), (7, .aload_n 0, 0, 0, .null), (8, .getfield 43, 2, 11, .null), (11, .sipush 3600, 0, 0, .int 3600), (14, .imul, 0, 0, .null), (15, .istore_n 3, 3, 0, .null), (16, .aload_n 0, 0, 0, .null), (17, .getfield 57, 2, 12, .null), (20, .iconst 1, 0, 0, .int 1), (21, .if_icmp .lt 8, 29, 0, .null), (24, .iload_n 2, 2, 0, .null), (25, .iload_n 3, 3, 0, .null), (26, .if_icmp .lt 5, 31, 0, .null), (29, .dconst 0, 0, 0, .double 0), (30, .dreturn, 0, 0, .null), (31, .aload_n 0, 0, 0, .null), (32, .getfield 35, 2, 8, .null), (35, .aload_n 0, 0, 0, .null), (36, .getfield 57, 2, 12, .null), (39, .iconst 1, 0, 0, .int 1), (40, .isub, 0, 0, .null), (41, .iconst 2, 0, 0, .int 2), (42, .idiv, 0, 0, .null), (43, .daload, 0, 0, .null), (44, .iload_n 3, 3, 0, .null), (45, .iload_n 2, 2, 0, .null), (46, .isub, 0, 0, .null), (47, .i2d, 0, 0, .null), (48, .aload_n 0, 0, 0, .null), (49, .getfield 43, 2, 11, .null), (52, .i2d, 0, 0, .null), (53, .ldc2_w 82, 0, 0, .double 4660134898793709568), (56, .dmul, 0, 0, .null), (57, .ddiv, 0, 0, .null), (58, .dmul, 0, 0, .null), (59, .dreturn, 0, 0, .null)]
def v_Gauges_fadedMiddle : List (Nat × List Nat) := [(0, [0, 1])]
def s_Gauges_fadedMiddle : List (Nat × Nat × List Op) := [(0, 60, o_Gauges_fadedMiddle_0)]
set_option maxRecDepth 100000 in
theorem k_Gauges_fadedMiddle : MOk P_Gauges s_Gauges_fadedMiddle 39 4 := ⟨P_Gauges_ok, _, rfl, rfl, rfl, by decide +kernel⟩
def o_X_lacking_0 : List Op := [(0, .aload_n 0, 0, 0, .null), (1, .getfield 212, 11, 13, .null), (4, .ireturn, 0, 0, .null)]
def v_X_lacking : List (Nat × List Nat) := [(0, [0])]
def s_X_lacking : List (Nat × Nat × List Op) := [(0, 5, o_X_lacking_0)]
set_option maxRecDepth 100000 in
theorem k_X_lacking : MOk P_X s_X_lacking 40 1 := ⟨P_X_ok, _, rfl, rfl, rfl, by decide +kernel⟩
def o_X_shoal_0 : List Op := [(0, .iload_n 1, 1, 0, .null), (1, .invokestatic 104, 3, 1, .ref 0), (4, .ifCond .eq 21, 25, 0, .null), (7, .iload_n 2, 2, 0, .null), (8, .invokestatic 219, 42, 1, .ref 0), (11, .ifCond .eq 14, 25, 0, .null), (14, .iload_n 3, 3, 0, .null), (15, .iconst 0, 0, 0, .int 0), (16, .sipush 7200, 0, 0, .int 7200), (19, .invokestatic 107, 4, 3, .ref 0), (22, .ifCond .ne 6, 28, 0, .null), (25, .bipush (-2), 0, 0, .int (-2)), (27, .ireturn, 0, 0, .null), (28, .aload_n 0, 0, 0, .null), (29, .getfield 51, 11, 3, .null), (32, .iload_n 1, 1, 0, .null), (33, .iload_n 2, 2, 0, .null), (34, .iload_n 3, 3, 0, .null), (35, .aload_n 0, 0, 0, .null), (36, .getfield 100, 11, 11, .null), (39, .invokevirtual 222, 43, 4, .ref 6), (42, .ireturn, 0, 0, .null)]
def v_X_shoal : List (Nat × List Nat) := [(0, [0, 1, 2, 3])]
def s_X_shoal : List (Nat × Nat × List Op) := [(0, 43, o_X_shoal_0)]
set_option maxRecDepth 100000 in
theorem k_X_shoal : MOk P_X s_X_shoal 41 4 := ⟨P_X_ok, _, rfl, rfl, rfl, by decide +kernel⟩
def o_X_isBed_0 : List Op := [(0, .iload_n 0, 0, 0, .null), (1, .sipush (-1000), 0, 0, .int (-1000)), (4, .if_icmp .lt 14, 18, 0, .null), (7, .iload_n 0, 0, 0, .null), (8, .sipush 5000, 0, 0, .int 5000), (11, .if_icmp .gt 7, 18, 0, .null), (14, .iconst 1, 0, 0, .int 1), (15, .goto 4, 19, 0, .null), (18, .iconst 0, 0, 0, .int 0), (19, .ireturn, 1, 0, .null)]
def v_X_isBed : List (Nat × List Nat) := [(0, [0])]
def s_X_isBed : List (Nat × Nat × List Op) := [(0, 20, o_X_isBed_0)]
set_option maxRecDepth 100000 in
theorem k_X_isBed : MOk P_X s_X_isBed 42 1 := ⟨P_X_ok, _, rfl, rfl, rfl, by decide +kernel⟩
def o_Shoals_add_0 : List Op := [(0, .aload_n 0, 0, 0, .null), (1, .getfield 38, 6, 8, .null), (4, .bipush 16, 0, 0, .int 16), (6, .if_icmp .lt 6, 12, 0, .null), (9, .bipush (-4), 0, 0, .int (-4)), (11, .ireturn, 0, 0, .null), (12, .aload_n 0, 0, 0, .null), (13, .getfield 9, 6, 2, .null), (16, .aload_n 0, 0, 0, .null), (17, .getfield 38, 6, 8, .null), (20, .iload_n 1, 1, 0, .null), (21, .iastore, 0, 0, .null), (22, .aload_n 0, 0, 0, .null), (23, .getfield 15, 6, 3, .null), (26, .aload_n 0, 0, 0, .null), (27, .getfield 38, 6, 8, .null), (30, .iload_n 3, 3, 0, .null), (31, .iastore, 0, 0, .null), (32, .aload_n 0, 0, 0, .null), (33, .aload_n 0, 0, 0, .null), (34, .getfield 38, 6, 8, .null), (37, .iconst 0, 0, 0, .int 0), (38, .iload_n 2, 2, 0, .null), (39, .iload 4, 4, 0, .null), (41, .invokevirtual 42, 44, 4, .ref 6), (44, .aload_n 0, 0, 0, .null), (45, .dup, 0, 0, .null), (46, .getfield 38, 6, 8, .null), (49, .iconst 1, 0, 0, .int 1), (50, .iadd, 0, 0, .null), (51, .putfield 38, 6, 8, .null), (54, .aload_n 0, 0, 0, .null), (55, .getfield 38, 6, 8, .null), (58, .iconst 1, 0, 0, .int 1), (59, .isub, 0, 0, .null), (60, .ireturn, 0, 0, .null)]
def v_Shoals_add : List (Nat × List Nat) := [(0, [0, 1, 2, 3, 4])]
def s_Shoals_add : List (Nat × Nat × List Op) := [(0, 61, o_Shoals_add_0)]
set_option maxRecDepth 100000 in
theorem k_Shoals_add : MOk P_Shoals s_Shoals_add 43 5 := ⟨P_Shoals_ok, _, rfl, rfl, rfl, by decide +kernel⟩
def o_Shoals_addBed_0 : List Op := [(0, .aload_n 0, 0, 0, .null), (1, .getfield 38, 6, 8, .null), (4, .aload_n 0, 0, 0, .null), (5, .getfield 46, 6, 9, .null), (8, .iadd, 0, 0, .null), (9, .istore 5, 5, 0, .null), (11, .aload_n 0, 0, 0, .null), (12, .getfield 18, 6, 4, .null), (15, .iload 5, 5, 0, .null), (17, .iload_n 1, 1, 0, .null), (18, .iastore, 0, 0, .null), (19, .aload_n 0, 0, 0, .null), (20, .getfield 21, 6, 5, .null), (23, .iload 5, 5, 0, .null), (25, .iload_n 2, 2, 0, .null), (26, .iastore, 0, 0, .null), (27, .aload_n 0, 0, 0, .null), (28, .getfield 24, 6, 6, .null), (31, .iload 5, 5, 0, .null), (33, .iload 4, 4, 0, .null), (35, .iastore, 0, 0, .null), (36, .aload_n 0, 0, 0, .null), (37, .getfield 27, 6, 7, .null), (40, .iload 5, 5, 0, .null), (42, .iload_n 3, 3, 0, .null), (43, .iastore, 0, 0, .null), (44, .return_, 0, 0, .null)]
def v_Shoals_addBed : List (Nat × List Nat) := [(0, [0, 1, 2, 3, 4])]
def s_Shoals_addBed : List (Nat × Nat × List Op) := [(0, 45, o_Shoals_addBed_0)]
set_option maxRecDepth 100000 in
theorem k_Shoals_addBed : MOk P_Shoals s_Shoals_addBed 44 6 := ⟨P_Shoals_ok, _, rfl, rfl, rfl, by decide +kernel⟩
def o_X_dredge_0 : List Op := [(0, .aload_n 0, 0, 0, .null), (1, .iload_n 1, 1, 0, .null), (2, .invokevirtual 224, 46, 1, .ref 11), (5, .ifCond .eq 17, 22, 0, .null), (8, .iload_n 2, 2, 0, .null), (9, .invokestatic 122, 9, 1, .ref 0), (12, .ifCond .eq 10, 22, 0, .null), (15, .iload_n 3, 3, 0, .null), (16, .invokestatic 219, 42, 1, .ref 0), (19, .ifCond .ne 6, 25, 0, .null), (22, .bipush (-2), 0, 0, .int (-2)), (24, .ireturn, 0, 0, .null), (25, .aload_n 0, 0, 0, .null), (26, .getfield 51, 11, 3, .null), (29, .iload_n 1, 1, 0, .null), (30, .iload_n 2, 2, 0, .null), (31, .iload_n 3, 3, 0, .null), (32, .aload_n 0, 0, 0, .null), (33, .getfield 100, 11, 11, .null), (36, .invokevirtual 227, 47, 4, .ref 6), (39, .ireturn, 0, 0, .null)]
def v_X_dredge : List (Nat × List Nat) := [(0, [0, 1, 2, 3])]
def s_X_dredge : List (Nat × Nat × List Op) := [(0, 40, o_X_dredge_0)]
set_option maxRecDepth 100000 in
theorem k_X_dredge : MOk P_X s_X_dredge 45 4 := ⟨P_X_ok, _, rfl, rfl, rfl, by decide +kernel⟩
def o_X_isShoal_0 : List Op := [(0, .iload_n 1, 1, 0, .null), (1, .ifCond .lt 18, 19, 0, .null), (4, .iload_n 1, 1, 0, .null), (5, .aload_n 0, 0, 0, .null), (6, .getfield 51, 11, 3, .null), (9, .getfield 422, 6, 8, .null), (12, .if_icmp .ge 7, 19, 0, .null), (15, .iconst 1, 0, 0, .int 1), (16, .goto 4, 20, 0, .null), (19, .iconst 0, 0, 0, .int 0), (20, .ireturn, 1, 0, .null)]
def v_X_isShoal : List (Nat × List Nat) := [(0, [0, 1])]
def s_X_isShoal : List (Nat × Nat × List Op) := [(0, 21, o_X_isShoal_0)]
set_option maxRecDepth 100000 in
theorem k_X_isShoal : MOk P_X s_X_isShoal 46 2 := ⟨P_X_ok, _, rfl, rfl, rfl, by decide +kernel⟩
def o_Shoals_addDredging_0 : List Op := [(0, .aload_n 0, 0, 0, .null), (1, .getfield 46, 6, 9, .null), (4, .bipush 60, 0, 0, .int 60), (6, .if_icmp .lt 6, 12, 0, .null), (9, .bipush (-4), 0, 0, .int (-4)), (11, .ireturn, 0, 0, .null), (12, .aload_n 0, 0, 0, .null), (13, .iload_n 1, 1, 0, .null), (14, .iload_n 2, 2, 0, .null), (15, .iload_n 3, 3, 0, .null), (16, .iload 4, 4, 0, .null), (18, .invokevirtual 42, 44, 4, .ref 6), (21, .aload_n 0, 0, 0, .null), (22, .dup, 0, 0, .null), (23, .getfield 46, 6, 9, .null), (26, .iconst 1, 0, 0, .int 1), (27, .iadd, 0, 0, .null), (28, .putfield 46, 6, 9, .null), (31, .aload_n 0, 0, 0, .null), (32, .getfield 46, 6, 9, .null), (35, .ireturn, 0, 0, .null)]
def v_Shoals_addDredging : List (Nat × List Nat) := [(0, [0, 1, 2, 3, 4])]
def s_Shoals_addDredging : List (Nat × Nat × List Op) := [(0, 36, o_Shoals_addDredging_0)]
set_option maxRecDepth 100000 in
theorem k_Shoals_addDredging : MOk P_Shoals s_Shoals_addDredging 47 5 := ⟨P_Shoals_ok, _, rfl, rfl, rfl, by decide +kernel⟩
end
section
def o_X_depth_0 : List Op := [(0, .aload_n 0, 0, 0, .null), (1, .iload_n 1, 1, 0, .null), (2, .invokevirtual 224, 46, 1, .ref 11), (5, .ifCond .eq 28, 33, 0, .null), (8, .iload_n 2, 2, 0, .null), (9, .invokestatic 96, 1, 1, .ref 0), (12, .ifCond .eq 21, 33, 0, .null), (15, .aload_n 0, 0, 0, .null), (16, .iload_n 3, 3, 0, .null), (17, .invokevirtual 137, 15, 1, .ref 11), (20, .ifCond .eq 13, 33, 0, .null), (23, .aload_n 0, 0, 0, .null), (24, .getfield 39, 11, 0, .null), (27, .invokevirtual 140, 16, 0, .ref 0), (30, .ifCond .eq 7, 37, 0, .null), (33, .ldc2_w 144, 0, 0, .long 9221120237041090560), (36, .lreturn, 0, 0, .null), (37, .aload_n 0, 0, 0, .null), (38, .getfield 51, 11, 3, .null), (41, .iload_n 1, 1, 0, .null), (42, .iload_n 2, 2, 0, .null), (43, .iload_n 3, 3, 0, .null), (44, .invokevirtual 230, 49, 3, .ref 6), (47, .ifCond .ne 16, 63, 0, .null), (50, .aload_n 0, 0, 0, .null), (51, .getfield 39, 11, 0, .null), (54, .iconst 1, 0, 0, .int 1), (55, .invokevirtual 149, 18, 1, .ref 0), (58, .pop, 0, 0, .null), (59, .ldc2_w 144, 0, 0, .long 9221120237041090560), (62, .lreturn, 0, 0, .null), (63, .aload_n 0, 0, 0, .null), (64, .getfield 51, 11, 3, .null), (67, .iload_n 1, 1, 0, .null), (68, .iload_n 2, 2, 0, .null), (69, .iload_n 3, 3, 0, .null), (70, .invokevirtual 233, 51, 3, .ref 6), (73, .invokestatic 133, 13, 1, .ref 0), (76, .lreturn, 0, 0, .null)]
def v_X_depth : List (Nat × List Nat) := [(0, [0, 1, 2, 3])]
def s_X_depth : List (Nat × Nat × List Op) := [(0, 77, o_X_depth_0)]
set_option maxRecDepth 100000 in
theorem k_X_depth : MOk P_X s_X_depth 48 4 := ⟨P_X_ok, _, rfl, rfl, rfl, by decide +kernel⟩
def o_Shoals_hasDepth_0 : List Op := [(0, .aload_n 0, 0, 0, .null), (1, .iload_n 1, 1, 0, .null), (2, .iload_n 2, 2, 0, .null), (3, .iload_n 3, 3, 0, .null), (4, .invokevirtual 50, 50, 3, .ref 6), (7, .iconst (-1), 0, 0, .int (-1)), (8, .if_icmp .eq 26, 34, 0, .null), (11, .aload_n 0, 0, 0, .null), (12, .getfield 30, 6, 0, .null), (15, .aload_n 0, 0, 0, .null), (16, .getfield 9, 6, 2, .null), (19, .iload_n 1, 1, 0, .null), (20, .iaload, 0, 0, .null), (21, .iload_n 2, 2, 0, .null), (22, .iload_n 3, 3, 0, .null), (23, .invokevirtual 54, 17, 3, .ref 7), (26, .iconst (-1), 0, 0, .int (-1)), (27, .if_icmp .eq 7, 34, 0, .null), (30, .iconst 1, 0, 0, .int 1), (31, .goto 4, 35, 0, .null), (34, .iconst 0, 0, 0, .int 0), (35, .ireturn, 1, 0, .null)]
def v_Shoals_hasDepth : List (Nat × List Nat) := [(0, [0, 1, 2, 3])]
def s_Shoals_hasDepth : List (Nat × Nat × List Op) := [(0, 36, o_Shoals_hasDepth_0)]
set_option maxRecDepth 100000 in
theorem k_Shoals_hasDepth : MOk P_Shoals s_Shoals_hasDepth 49 4 := ⟨P_Shoals_ok, _, rfl, rfl, rfl, by decide +kernel⟩
def o_Shoals_bedInForce_0 : List Op := [(0, .iconst (-1), 0, 0, .int (-1)), (1, .istore 4, 4, 0, .null), (3, .iconst 0, 0, 0, .int 0), (4, .istore 5, 5, 0, .null)]
def o_Shoals_bedInForce_1 : List Op := [(6, .iload 5, 5, 0, .null), (8, .aload_n 0, 0, 0, .null), (9, .getfield 38, 6, 8, .null), (12, .aload_n 0, 0, 0, .null), (13, .getfield 46, 6, 9, .null), (16, .iadd, 0, 0, .null), (17, .if_icmp .ge 84, 101, 0, .null), (20, .aload_n 0, 0, 0, .null), (21, .getfield 18, 6, 4, .null), (24, .iload 5, 5, 0, .null), (26, .iaload, 0, 0, .null), (27, .iload_n 1, 1, 0, .null), (28, .if_icmp .ne 32, 60, 0, .null), (31, .aload_n 0, 0, 0, .null), (32, .getfield 24, 6, 6, .null), (35, .iload 5, 5, 0, .null), (37, .iaload, 0, 0, .null), (38, .iload_n 3, 3, 0, .null), (39, .if_icmp .gt 21, 60, 0, .null), (42, .aload_n 0, 0, 0, .null), (43, .getfield 21, 6, 5, .null), (46, .iload 5, 5, 0, .null), (48, .iaload, 0, 0, .null), (49, .iload_n 2, 2, 0, .null), (50, .ldc 49, 0, 0, .int 86400), (52, .idiv, 0, 0, .null), (53, .if_icmp .gt 7, 60, 0, .null), (56, .iconst 1, 0, 0, .int 1), (57, .goto 4, 61, 0, .null), (60, .iconst 0, 0, 0, .int 0), (61, .istore 6, 6, 0, .null), (63, .iload 6, 6, 0, .null), (65, .ifCond .eq 30, 95, 0, .null), (68, .iload 4, 4, 0, .null), (70, .iconst (-1), 0, 0, .int (-1)), (71, .if_icmp .eq 20, 91, 0, .null), (74, .aload_n 0, 0, 0, .null), (75, .getfield 21, 6, 5, .null), (78, .iload 5, 5, 0, .null), (80, .iaload, 0, 0, .null), (81, .aload_n 0, 0, 0, .null), (82, .getfield 21, 6, 5, .null), (85, .iload 4, 4, 0, .null), (87, .iaload, 0, 0, .null), (88, .if_icmp .lt 7, 95, 0, .null), (91, .iload 5, 5, 0, .null), (93, .istore 4, 4, 0, .null), (95, .iinc 5 1, 5, 0, .int 1), (98, .goto (-92), 6, 0, .null), (101, .iload 4, 4, 0, .null), (103, .ireturn, 0, 0, .null)]
def v_Shoals_bedInForce : List (Nat × List Nat) := [(0, [0, 1, 2, 3]), (6, [0, 1, 2, 3, 4, 5])]
def s_Shoals_bedInForce : List (Nat × Nat × List Op) := [(0, 6, o_Shoals_bedInForce_0), (6, 104, o_Shoals_bedInForce_1)]
set_option maxRecDepth 100000 in
theorem k_Shoals_bedInForce : MOk P_Shoals s_Shoals_bedInForce 50 7 := ⟨P_Shoals_ok, _, rfl, rfl, rfl, by decide +kernel⟩
def o_Shoals_depthAt_0 : List Op := [(0, .aload_n 0, 0, 0, .null), (1, .iload_n 1, 1, 0, .null), (2, .iload_n 2, 2, 0, .null), (3, .iload_n 3, 3, 0, .null), (4, .invokevirtual 50, 50, 3, .ref 6), (7, .istore 4, 4, 0, .null), (9, .iload 4, 4, 0, .null), (11, .iconst (-1), 0, 0, .int (-1)), (12, .if_icmp .ne 5, 17, 0, .null), (15, .dconst 0, 0, 0, .double 0), (16, .dreturn, 0, 0, .null), (17, .aload_n 0, 0, 0, .null), (18, .getfield 27, 6, 7, .null), (21, .iload 4, 4, 0, .null), (23, .iaload, 0, 0, .null), (24, .i2d, 0, 0, .null), (25, .ldc2_w 59, 0, 0, .double 4636737291354636288), (28, .ddiv, 0, 0, .null), (29, .aload_n 0, 0, 0, .null), (30, .getfield 30, 6, 0, .null), (33, .aload_n 0, 0, 0, .null), (34, .getfield 9, 6, 2, .null), (37, .iload_n 1, 1, 0, .null), (38, .iaload, 0, 0, .null), (39, .iload_n 2, 2, 0, .null), (40, .iload_n 3, 3, 0, .null), (41, .invokevirtual 61, 19, 3, .ref 7), (44, .dadd, 0, 0, .null), (45, .dreturn, 0, 0, .null)]
def v_Shoals_depthAt : List (Nat × List Nat) := [(0, [0, 1, 2, 3])]
def s_Shoals_depthAt : List (Nat × Nat × List Op) := [(0, 46, o_Shoals_depthAt_0)]
set_option maxRecDepth 100000 in
theorem k_Shoals_depthAt : MOk P_Shoals s_Shoals_depthAt 51 5 := ⟨P_Shoals_ok, _, rfl, rfl, rfl, by decide +kernel⟩
def o_X_water_0 : List Op := [(0, .aload_n 0, 0, 0, .null), (1, .iload_n 1, 1, 0, .null), (2, .invokevirtual 224, 46, 1, .ref 11), (5, .ifCond .eq 20, 25, 0, .null), (8, .iload_n 2, 2, 0, .null), (9, .invokestatic 96, 1, 1, .ref 0), (12, .ifCond .eq 13, 25, 0, .null), (15, .aload_n 0, 0, 0, .null), (16, .getfield 39, 11, 0, .null), (19, .invokevirtual 140, 16, 0, .ref 0), (22, .ifCond .eq 7, 29, 0, .null), (25, .ldc2_w 144, 0, 0, .long 9221120237041090560), (28, .lreturn, 0, 0, .null), (29, .aload_n 0, 0, 0, .null), (30, .getfield 51, 11, 3, .null), (33, .iload_n 1, 1, 0, .null), (34, .iload_n 2, 2, 0, .null), (35, .aload_n 0, 0, 0, .null), (36, .getfield 100, 11, 11, .null), (39, .invokevirtual 230, 49, 3, .ref 6), (42, .ifCond .ne 16, 58, 0, .null), (45, .aload_n 0, 0, 0, .null), (46, .getfield 39, 11, 0, .null), (49, .iconst 1, 0, 0, .int 1), (50, .invokevirtual 149, 18, 1, .ref 0), (53, .pop, 0, 0, .null), (54, .ldc2_w 144, 0, 0, .long 9221120237041090560), (57, .lreturn, 0, 0, .null), (58, .aload_n 0, 0, 0, .null), (59, .getfield 51, 11, 3, .null), (62, .iload_n 1, 1, 0, .null), (63, .iload_n 2, 2, 0, .null), (64, .aload_n 0, 0, 0, .null), (65, .getfield 100, 11, 11, .null), (68, .invokevirtual 236, 53, 3, .ref 6), (71, .invokestatic 133, 13, 1, .ref 0), (74, .lreturn, 0, 0, .null)]
def v_X_water : List (Nat × List Nat) := [(0, [0, 1, 2])]
def s_X_water : List (Nat × Nat × List Op) := [(0, 75, o_X_water_0)]
set_option maxRecDepth 100000 in
theorem k_X_water : MOk P_X s_X_water 52 3 := ⟨P_X_ok, _, rfl, rfl, rfl, by decide +kernel⟩
def o_Shoals_waterAt_0 : List Op := [(0, .aload_n 0, 0, 0, .null), (1, .iload_n 1, 1, 0, .null), (2, .iload_n 2, 2, 0, .null), (3, .iload_n 3, 3, 0, .null), (4, .invokevirtual 65, 51, 3, .ref 6), (7, .dstore 4, 4, 0, .null), (9, .aload_n 0, 0, 0, .null), (10, .getfield 34, 6, 1, .null), (13, .aload_n 0, 0, 0, .null), (14, .getfield 9, 6, 2, .null), (17, .iload_n 1, 1, 0, .null), (18, .iaload, 0, 0, .null), (19, .invokevirtual 68, 54, 1, .ref 2), (22, .istore 6, 6, 0, .null), (24, .iload 6, 6, 0, .null), (26, .iconst (-1), 0, 0, .int (-1)), (27, .if_icmp .eq 43, 70, 0, .null), (30, .aload_n 0, 0, 0, .null), (31, .getfield 34, 6, 1, .null), (34, .getfield 74, 2, 4, .null), (37, .iload 6, 6, 0, .null), (39, .baload, 0, 0, .null), (40, .ifCond .ne 30, 70, 0, .null), (43, .aload_n 0, 0, 0, .null), (44, .getfield 34, 6, 1, .null), (47, .iload 6, 6, 0, .null), (49, .iload_n 2, 2, 0, .null), (50, .iload_n 3, 3, 0, .null), (51, .invokevirtual 78, 37, 3, .ref 2), (54, .ifCond .le 16, 70, 0, .null), (57, .dload 4, 4, 0, .null), (59, .aload_n 0, 0, 0, .null), (60, .getfield 34, 6, 1, .null), (63, .iload_n 2, 2, 0, .null), (64, .invokevirtual 81, 39, 1, .ref 2), (67, .dadd, 0, 0, .null), (68, .dstore 4, 4, 0, .null), (70, .dload 4, 4, 0, .null), (72, .dreturn, 0, 0, .null)]
def v_Shoals_waterAt : List (Nat × List Nat) := [(0, [0, 1, 2, 3])]
def s_Shoals_waterAt : List (Nat × Nat × List Op) := [(0, 73, o_Shoals_waterAt_0)]
set_option maxRecDepth 100000 in
theorem k_Shoals_waterAt : MOk P_Shoals s_Shoals_waterAt 53 7 := ⟨P_Shoals_ok, _, rfl, rfl, rfl, by decide +kernel⟩
def o_Gauges_firstOf_0 : List Op := [(0, .iconst 0, 0, 0, .int 0), (1, .istore_n 2, 2, 0, .null)]
def o_Gauges_firstOf_1 : List Op := [(2, .iload_n 2, 2, 0, .null), (3, .aload_n 0, 0, 0, .null), (4, .getfield 50, 2, 9, .null), (7, .if_icmp .ge 21, 28, 0, .null), (10, .aload_n 0, 0, 0, .null), (11, .getfield 9, 2, 1, .null), (14, .iload_n 2, 2, 0, .null), (15, .iaload, 0, 0, .null), (16, .iload_n 1, 1, 0, .null), (17, .if_icmp .ne 5, 22, 0, .null), (20, .iload_n 2, 2, 0, .null), (21, .ireturn, 0, 0, .null), (22, .iinc 2 1, 2, 0, .int 1), (25, .goto (-23), 2, 0, .null), (28, .iconst (-1), 0, 0, .int (-1)), (29, .ireturn, 0, 0, .null)]
def v_Gauges_firstOf : List (Nat × List Nat) := [(0, [0, 1]), (2, [0, 1, 2])]
def s_Gauges_firstOf : List (Nat × Nat × List Op) := [(0, 2, o_Gauges_firstOf_0), (2, 30, o_Gauges_firstOf_1)]
set_option maxRecDepth 100000 in
theorem k_Gauges_firstOf : MOk P_Gauges s_Gauges_firstOf 54 3 := ⟨P_Gauges_ok, _, rfl, rfl, rfl, by decide +kernel⟩
def o_X_waters_0 : List Op := [(0, .iload_n 1, 1, 0, .null), (1, .invokestatic 104, 3, 1, .ref 0), (4, .ifCond .eq 43, 47, 0, .null), (7, .iload_n 3, 3, 0, .null), (8, .iconst 3, 0, 0, .int 3), (9, .sipush 200, 0, 0, .int 200), (12, .invokestatic 107, 4, 3, .ref 0), (15, .ifCond .eq 32, 47, 0, .null), (18, .iload_n 2, 2, 0, .null), (19, .invokestatic 96, 1, 1, .ref 0), (22, .ifCond .eq 25, 47, 0, .null), (25, .iload_n 2, 2, 0, .null), (26, .iload_n 3, 3, 0, .null), (27, .iconst 1, 0, 0, .int 1), (28, .isub, 0, 0, .null), (29, .bipush 60, 0, 0, .int 60), (31, .imul, 0, 0, .null), (32, .aload_n 0, 0, 0, .null), (33, .getfield 55, 11, 4, .null), (36, .getfield 203, 9, 7, .null), (39, .imul, 0, 0, .null), (40, .iadd, 0, 0, .null), (41, .invokestatic 96, 1, 1, .ref 0), (44, .ifCond .ne 6, 50, 0, .null), (47, .bipush (-2), 0, 0, .int (-2)), (49, .ireturn, 0, 0, .null), (50, .aload_n 0, 0, 0, .null), (51, .getfield 39, 11, 0, .null), (54, .invokevirtual 140, 16, 0, .ref 0), (57, .ifCond .eq 6, 63, 0, .null), (60, .bipush (-4), 0, 0, .int (-4)), (62, .ireturn, 0, 0, .null), (63, .aload_n 0, 0, 0, .null), (64, .getfield 55, 11, 4, .null), (67, .iload_n 1, 1, 0, .null), (68, .iload_n 2, 2, 0, .null), (69, .iload_n 3, 3, 0, .null), (70, .aload_n 0, 0, 0, .null), (71, .getfield 100, 11, 11, .null), (74, .invokevirtual 239, 56, 4, .ref 9), (77, .ifCond .ne 12, 89, 0, .null), (80, .aload_n 0, 0, 0, .null), (81, .getfield 39, 11, 0, .null), (84, .iconst 1, 0, 0, .int 1), (85, .invokevirtual 149, 18, 1, .ref 0), (88, .ireturn, 0, 0, .null), (89, .aload_n 0, 0, 0, .null), (90, .getfield 55, 11, 4, .null), (93, .iload_n 1, 1, 0, .null), (94, .iload_n 2, 2, 0, .null), (95, .iload_n 3, 3, 0, .null), (96, .aload_n 0, 0, 0, .null), (97, .getfield 100, 11, 11, .null), (100, .invokevirtual 243, 57, 4, .ref 9), (103, .ireturn, 0, 0, .null)]
def v_X_waters : List (Nat × List Nat) := [(0, [0, 1, 2, 3])]
def s_X_waters : List (Nat × Nat × List Op) := [(0, 104, o_X_waters_0)]
set_option maxRecDepth 100000 in
theorem k_X_waters : MOk P_X s_X_waters 55 4 := ⟨P_X_ok, _, rfl, rfl, rfl, by decide +kernel⟩
def o_Waters_measure_0 : List Op := [(0, .iconst 0, 0, 0, .int 0), (1, .istore 5, 5, 0, .null)]
def o_Waters_measure_1 : List Op := [(3, .iload 5, 5, 0, .null), (5, .iload_n 3, 3, 0, .null), (6, .if_icmp .ge 60, 66, 0, .null), (9, .iload_n 2, 2, 0, .null), (10, .iload 5, 5, 0, .null), (12, .bipush 60, 0, 0, .int 60), (14, .imul, 0, 0, .null), (15, .aload_n 0, 0, 0, .null), (16, .getfield 32, 9, 7, .null), (19, .imul, 0, 0, .null), (20, .iadd, 0, 0, .null), (21, .istore 6, 6, 0, .null), (23, .aload_n 0, 0, 0, .null), (24, .getfield 36, 9, 0, .null), (27, .iload_n 1, 1, 0, .null), (28, .iload 6, 6, 0, .null), (30, .iload 4, 4, 0, .null), (32, .invokevirtual 40, 17, 3, .ref 7), (35, .iconst (-1), 0, 0, .int (-1)), (36, .if_icmp .ne 5, 41, 0, .null), (39, .iconst 0, 0, 0, .int 0), (40, .ireturn, 1, 0, .null), (41, .aload_n 0, 0, 0, .null), (42, .getfield 26, 9, 5, .null), (45, .iload 5, 5, 0, .null), (47, .aload_n 0, 0, 0, .null), (48, .getfield 36, 9, 0, .null), (51, .iload_n 1, 1, 0, .null), (52, .iload 6, 6, 0, .null), (54, .iload 4, 4, 0, .null), (56, .invokevirtual 46, 19, 3, .ref 7), (59, .dastore, 0, 0, .null), (60, .iinc 5 1, 5, 0, .int 1), (63, .goto (-60), 3, 0, .null), (66, .iconst 1, 0, 0, .int 1), (67, .ireturn, 1, 0, .null)]
def v_Waters_measure : List (Nat × List Nat) := [(0, [0, 1, 2, 3, 4]), (3, [0, 1, 2, 3, 4, 5])]
def s_Waters_measure : List (Nat × Nat × List Op) := [(0, 3, o_Waters_measure_0), (3, 68, o_Waters_measure_1)]
set_option maxRecDepth 100000 in
theorem k_Waters_measure : MOk P_Waters s_Waters_measure 56 7 := ⟨P_Waters_ok, _, rfl, rfl, rfl, by decide +kernel⟩
def o_Waters_find_0 : List Op := [(0, .aload_n 0, 0, 0, .null), (1, .getfield 9, 9, 1, .null), (4, .iload_n 1, 1, 0, .null), (5, .iconst 0, 0, 0, .int 0), (6, .iastore, 0, 0, .null), (7, .iconst 1, 0, 0, .int 1), (8, .istore 5, 5, 0, .null)]
def o_Waters_find_1 : List Op := [(10, .iload 5, 5, 0, .null), (12, .iload_n 3, 3, 0, .null), (13, .iconst 1, 0, 0, .int 1), (14, .isub, 0, 0, .null), (15, .if_icmp .ge 139, 154, 0, .null), (18, .aload_n 0, 0, 0, .null), (19, .getfield 9, 9, 1, .null), (22, .iload_n 1, 1, 0, .null), (23, .iaload, 0, 0, .null), (24, .bipush 40, 0, 0, .int 40), (26, .if_icmp .ge 128, 154, 0, .null), (29, .aload_n 0, 0, 0, .null), (30, .getfield 26, 9, 5, .null), (33, .iload 5, 5, 0, .null), (35, .iconst 1, 0, 0, .int 1), (36, .isub, 0, 0, .null), (37, .daload, 0, 0, .null), (38, .dstore 6, 6, 0, .null), (40, .aload_n 0, 0, 0, .null), (41, .getfield 26, 9, 5, .null), (44, .iload 5, 5, 0, .null), (46, .daload, 0, 0, .null), (47, .dstore 8, 8, 0, .null), (49, .aload_n 0, 0, 0, .null), (50, .getfield 26, 9, 5, .null), (53, .iload 5, 5, 0, .null), (55, .iconst 1, 0, 0, .int 1), (56, .iadd, 0, 0, .null), (57, .daload, 0, 0, .null), (58, .dstore 10, 10, 0, .null), (60, .dload 8, 8, 0, .null), (62, .dload 6, 6, 0, .null), (64, .dcmp .l, 0, 0, .null), (65, .ifCond .le 15, 80, 0, .null), (68, .dload 8, 8, 0, .null), (70, .dload 10, 10, 0, .null), (72, .dcmp .l, 0, 0, .null), (73, .ifCond .lt 7, 80, 0, .null), (76, .iconst 1, 0, 0, .int 1), (77, .goto 4, 81, 0, .null), (80, .iconst 0, 0, 0, .int 0), (81, .istore 12, 12, 0, .null), (83, .dload 8, 8, 0, .null), (85, .dload 6, 6, 0, .null), (87, .dcmp .g, 0, 0, .null), (88, .ifCond .ge 15, 103, 0, .null), (91, .dload 8, 8, 0, .null), (93, .dload 10, 10, 0, .null), (95, .dcmp .g, 0, 0, .null), (96, .ifCond .gt 7, 103, 0, .null), (99, .iconst 1, 0, 0, .int 1), (100, .goto 4, 104, 0, .null), (103, .iconst 0, 0, 0, .int 0), (104, .istore 13, 13, 0, .null), (106, .iload 12, 12, 0, .null), (108, .ifCond .ne 8, 116, 0, .null), (111, .iload 13, 13, 0, .null), (113, .ifCond .eq 35, 148, 0, .null), (116, .aload_n 0, 0, 0, .null), (117, .iload_n 1, 1, 0, .null), (118, .aload_n 0, 0, 0, .null), (119, .iload_n 1, 1, 0, .null), (120, .iload_n 2, 2, 0, .null), (121, .iload 5, 5, 0, .null), (123, .iconst 1, 0, 0, .int 1), (124, .isub, 0, 0, .null), (125, .bipush 60, 0, 0, .int 60), (127, .imul, 0, 0, .null), (128, .aload_n 0, 0, 0, .null), (129, .getfield 32, 9, 7, .null), (132, .imul, 0, 0, .null), (133, .iadd, 0, 0, .null), (134, .iload 12, 12, 0, .null), (136, .iload 4, 4, 0, .null), (138, .invokevirtual 50, 58, 4, .ref 9), (141, .iload 12, 12, 0, .null), (143, .iload 4, 4, 0, .null), (145, .invokevirtual 54, 59, 4, .ref 9), (148, .iinc 5 1, 5, 0, .int 1), (151, .goto (-141), 10, 0, .null), (154, .aload_n 0, 0, 0, .null), (155, .getfield 9, 9, 1, .null), (158, .iload_n 1, 1, 0, .null), (159, .iaload, 0, 0, .null), (160, .ireturn, 0, 0, .null)]
def v_Waters_find : List (Nat × List Nat) := [(0, [0, 1, 2, 3, 4]), (10, [0, 1, 2, 3, 4, 5])]
def s_Waters_find : List (Nat × Nat × List Op) := [(0, 10, o_Waters_find_0), (10, 161, o_Waters_find_1)]
set_option maxRecDepth 100000 in
theorem k_Waters_find : MOk P_Waters s_Waters_find 57 14 := ⟨P_Waters_ok, _, rfl, rfl, rfl, by decide +kernel⟩
def o_Waters_halve_0 : List Op := [(0, .iload_n 2, 2, 0, .null), (1, .istore 5, 5, 0, .null), (3, .iload_n 2, 2, 0, .null), (4, .bipush 120, 0, 0, .int 120), (6, .aload_n 0, 0, 0, .null), (7, .getfield 32, 9, 7, .null), (10, .imul, 0, 0, .null), (11, .iadd, 0, 0, .null), (12, .istore 6, 6, 0, .null), (14, .iconst 0, 0, 0, .int 0), (15, .istore 7, 7, 0, .null)]
def o_Waters_halve_1 : List Op := [(17, .iload 7, 7, 0, .null), (19, .bipush 32, 0, 0, .int 32), (21, .if_icmp .ge 91, 112, 0, .null), (24, .iload 6, 6, 0, .null), (26, .iload 5, 5, 0, .null), (28, .isub, 0, 0, .null), (29, .iconst 1, 0, 0, .int 1), (30, .if_icmp .le 82, 112, 0, .null), (33, .iload 5, 5, 0, .null), (35, .iload 6, 6, 0, .null), (37, .iadd, 0, 0, .null), (38, .iconst 2, 0, 0, .int 2), (39, .idiv, 0, 0, .null), (40, .istore 8, 8, 0, .null), (42, .aload_n 0, 0, 0, .null), (43, .getfield 36, 9, 0, .null), (46, .iload_n 1, 1, 0, .null), (47, .iload 8, 8, 0, .null), (49, .iload 4, 4, 0, .null), (51, .invokevirtual 46, 19, 3, .ref 7), (54, .dstore 9, 9, 0, .null), (56, .aload_n 0, 0, 0, .null), (57, .getfield 36, 9, 0, .null), (60, .iload_n 1, 1, 0, .null), (61, .iload 8, 8, 0, .null), (63, .iconst 1, 0, 0, .int 1), (64, .iadd, 0, 0, .null), (65, .iload 4, 4, 0, .null), (67, .invokevirtual 46, 19, 3, .ref 7), (70, .dstore 11, 11, 0, .null), (72, .iload_n 3, 3, 0, .null), (73, .ifCond .eq 14, 87, 0, .null), (76, .dload 11, 11, 0, .null), (78, .dload 9, 9, 0, .null), (80, .dcmp .l, 0, 0, .null), (81, .ifCond .le 21, 102, 0, .null), (84, .goto 11, 95, 0, .null), (87, .dload 11, 11, 0, .null), (89, .dload 9, 9, 0, .null), (91, .dcmp .g, 0, 0, .null), (92, .ifCond .ge 10, 102, 0, .null), (95, .iload 8, 8, 0, .null), (97, .istore 5, 5, 0, .null), (99, .goto 7, 106, 0, .null), (102, .iload 8, 8, 0, .null), (104, .istore 6, 6, 0, .null), (106, .iinc 7 1, 7, 0, .int 1), (109, .goto (-92), 17, 0, .null), (112, .iload 6, 6, 0, .null), (114, .ireturn, 0, 0, .null)]
def v_Waters_halve : List (Nat × List Nat) := [(0, [0, 1, 2, 3, 4]), (17, [0, 1, 3, 4, 5, 6, 7])]
def s_Waters_halve : List (Nat × Nat × List Op) := [(0, 17, o_Waters_halve_0), (17, 115, o_Waters_halve_1)]
set_option maxRecDepth 100000 in
theorem k_Waters_halve : MOk P_Waters s_Waters_halve 58 13 := ⟨P_Waters_ok, _, rfl, rfl, rfl, by decide +kernel⟩
def o_Waters_keep_0 : List Op := [(0, .iload_n 1, 1, 0, .null), (1, .bipush 40, 0, 0, .int 40), (3, .imul, 0, 0, .null), (4, .aload_n 0, 0, 0, .null), (5, .getfield 9, 9, 1, .null), (8, .iload_n 1, 1, 0, .null), (9, .iaload, 0, 0, .null), (10, .iadd, 0, 0, .null), (11, .istore 5, 5, 0, .null), (13, .aload_n 0, 0, 0, .null), (14, .getfield 15, 9, 2, .null), (17, .iload 5, 5, 0, .null), (19, .iload_n 2, 2, 0, .null), (20, .iastore, 0, 0, .null), (21, .aload_n 0, 0, 0, .null), (22, .getfield 18, 9, 3, .null), (25, .iload 5, 5, 0, .null), (27, .iload_n 3, 3, 0, .null), (28, .bastore, 0, 0, .null), (29, .aload_n 0, 0, 0, .null), (30, .getfield 22, 9, 4, .null), (33, .iload 5, 5, 0, .null), (35, .aload_n 0, 0, 0, .null), (36, .getfield 36, 9, 0, .null), (39, .iload_n 1, 1, 0, .null), (40, .iload_n 2, 2, 0, .null), (41, .iload 4, 4, 0, .null), (43, .invokevirtual 46, 19, 3, .ref 7), (46, .dastore, 0, 0, .null), (47, .aload_n 0, 0, 0, .null), (48, .getfield 9, 9, 1, .null), (51, .iload_n 1, 1, 0, .null), (52, .dup2, 0, 0, .null), (53, .iaload, 0, 0, .null), (54, .iconst 1, 0, 0, .int 1), (55, .iadd, 0, 0, .null), (56, .iastore, 0, 0, .null), (57, .return_, 0, 0, .null)]
def v_Waters_keep : List (Nat × List Nat) := [(0, [0, 1, 2, 3, 4])]
def s_Waters_keep : List (Nat × Nat × List Op) := [(0, 58, o_Waters_keep_0)]
set_option maxRecDepth 100000 in
theorem k_Waters_keep : MOk P_Waters s_Waters_keep 59 6 := ⟨P_Waters_ok, _, rfl, rfl, rfl, by decide +kernel⟩
def o_X_found_0 : List Op := [(0, .iload_n 1, 1, 0, .null), (1, .invokestatic 104, 3, 1, .ref 0), (4, .ifCond .eq 12, 16, 0, .null), (7, .iload_n 3, 3, 0, .null), (8, .iconst 0, 0, 0, .int 0), (9, .iconst 1, 0, 0, .int 1), (10, .invokestatic 107, 4, 3, .ref 0), (13, .ifCond .ne 6, 19, 0, .null), (16, .bipush (-2), 0, 0, .int (-2)), (18, .ireturn, 0, 0, .null), (19, .iload_n 2, 2, 0, .null), (20, .iconst 0, 0, 0, .int 0), (21, .aload_n 0, 0, 0, .null), (22, .getfield 55, 11, 4, .null), (25, .getfield 246, 9, 1, .null), (28, .iload_n 1, 1, 0, .null), (29, .iaload, 0, 0, .null), (30, .iconst 1, 0, 0, .int 1), (31, .isub, 0, 0, .null), (32, .invokestatic 107, 4, 3, .ref 0), (35, .ifCond .ne 5, 40, 0, .null), (38, .iconst (-1), 0, 0, .int (-1)), (39, .ireturn, 0, 0, .null), (40, .iload_n 1, 1, 0, .null), (41, .bipush 40, 0, 0, .int 40), (43, .imul, 0, 0, .null), (44, .iload_n 2, 2, 0, .null), (45, .iadd, 0, 0, .null), (46, .istore 4, 4, 0, .null), (48, .iload_n 3, 3, 0, .null), (49, .ifCond .ne 14, 63, 0, .null), (52, .aload_n 0, 0, 0, .null), (53, .getfield 55, 11, 4, .null), (56, .getfield 247, 9, 2, .null), (59, .iload 4, 4, 0, .null), (61, .iaload, 0, 0, .null), (62, .ireturn, 0, 0, .null), (63, .aload_n 0, 0, 0, .null), (64, .getfield 55, 11, 4, .null), (67, .getfield 250, 9, 3, .null), (70, .iload 4, 4, 0, .null), (72, .baload, 0, 0, .null), (73, .ifCond .eq 7, 80, 0, .null), (76, .iconst 1, 0, 0, .int 1), (77, .goto 4, 81, 0, .null), (80, .iconst 0, 0, 0, .int 0), (81, .ireturn, 0, 0, .null)]
def v_X_found : List (Nat × List Nat) := [(0, [0, 1, 2, 3])]
def s_X_found : List (Nat × Nat × List Op) := [(0, 82, o_X_found_0)]
set_option maxRecDepth 100000 in
theorem k_X_found : MOk P_X s_X_found 60 5 := ⟨P_X_ok, _, rfl, rfl, rfl, by decide +kernel⟩
def o_X_range_0 : List Op := [(0, .iload_n 1, 1, 0, .null), (1, .invokestatic 104, 3, 1, .ref 0), (4, .ifCond .eq 32, 36, 0, .null), (7, .iload_n 2, 2, 0, .null), (8, .iconst 0, 0, 0, .int 0), (9, .aload_n 0, 0, 0, .null), (10, .getfield 55, 11, 4, .null), (13, .getfield 246, 9, 1, .null), (16, .iload_n 1, 1, 0, .null), (17, .iaload, 0, 0, .null), (18, .iconst 2, 0, 0, .int 2), (19, .isub, 0, 0, .null), (20, .invokestatic 107, 4, 3, .ref 0), (23, .ifCond .eq 13, 36, 0, .null), (26, .aload_n 0, 0, 0, .null), (27, .getfield 39, 11, 0, .null), (30, .invokevirtual 140, 16, 0, .ref 0), (33, .ifCond .eq 7, 40, 0, .null), (36, .ldc2_w 144, 0, 0, .long 9221120237041090560), (39, .lreturn, 0, 0, .null), (40, .aload_n 0, 0, 0, .null), (41, .getfield 55, 11, 4, .null), (44, .iload_n 1, 1, 0, .null), (45, .iload_n 2, 2, 0, .null), (46, .invokevirtual 253, 62, 2, .ref 9), (49, .ifCond .ne 17, 66, 0, .null), (52, .aload_n 0, 0, 0, .null), (53, .getfield 39, 11, 0, .null), (56, .bipush 7, 0, 0, .int 7), (58, .invokevirtual 149, 18, 1, .ref 0), (61, .pop, 0, 0, .null), (62, .ldc2_w 144, 0, 0, .long 9221120237041090560), (65, .lreturn, 0, 0, .null), (66, .aload_n 0, 0, 0, .null), (67, .getfield 55, 11, 4, .null), (70, .iload_n 1, 1, 0, .null), (71, .iload_n 2, 2, 0, .null), (72, .invokevirtual 257, 63, 2, .ref 9), (75, .invokestatic 133, 13, 1, .ref 0), (78, .lreturn, 0, 0, .null)]
def v_X_range : List (Nat × List Nat) := [(0, [0, 1, 2])]
def s_X_range : List (Nat × Nat × List Op) := [(0, 79, o_X_range_0)]
set_option maxRecDepth 100000 in
theorem k_X_range : MOk P_X s_X_range 61 3 := ⟨P_X_ok, _, rfl, rfl, rfl, by decide +kernel⟩
def o_Waters_hasRange_0 : List Op := [(0, .aload_n 0, 0, 0, .null), (1, .getfield 18, 9, 3, .null), (4, .iload_n 1, 1, 0, .null), (5, .bipush 40, 0, 0, .int 40), (7, .imul, 0, 0, .null), (8, .iload_n 2, 2, 0, .null), (9, .iadd, 0, 0, .null), (10, .baload, 0, 0, .null), (11, .aload_n 0, 0, 0, .null), (12, .getfield 18, 9, 3, .null), (15, .iload_n 1, 1, 0, .null), (16, .bipush 40, 0, 0, .int 40), (18, .imul, 0, 0, .null), (19, .iload_n 2, 2, 0, .null), (20, .iadd, 0, 0, .null), (21, .iconst 1, 0, 0, .int 1), (22, .iadd, 0, 0, .null), (23, .baload, 0, 0, .null), (24, .if_icmp .eq 7, 31, 0, .null), (27, .iconst 1, 0, 0, .int 1), (28, .goto 4, 32, 0, .null), (31, .iconst 0, 0, 0, .int 0), (32, .ireturn, 1, 0, .null)]
def v_Waters_hasRange : List (Nat × List Nat) := [(0, [0, 1, 2])]
def s_Waters_hasRange : List (Nat × Nat × List Op) := [(0, 33, o_Waters_hasRange_0)]
set_option maxRecDepth 100000 in
theorem k_Waters_hasRange : MOk P_Waters s_Waters_hasRange 62 3 := ⟨P_Waters_ok, _, rfl, rfl, rfl, by decide +kernel⟩
def o_Waters_rangeOf_0 : List Op := [(0, .aload_n 0, 0, 0, .null), (1, .getfield 22, 9, 4, .null), (4, .iload_n 1, 1, 0, .null), (5, .bipush 40, 0, 0, .int 40), (7, .imul, 0, 0, .null), (8, .iload_n 2, 2, 0, .null), (9, .iadd, 0, 0, .null), (10, .daload, 0, 0, .null), (11, .dstore_n 3, 3, 0, .null), (12, .aload_n 0, 0, 0, .null), (13, .getfield 22, 9, 4, .null), (16, .iload_n 1, 1, 0, .null), (17, .bipush 40, 0, 0, .int 40), (19, .imul, 0, 0, .null), (20, .iload_n 2, 2, 0, .null), (21, .iadd, 0, 0, .null), (22, .iconst 1, 0, 0, .int 1), (23, .iadd, 0, 0, .null), (24, .daload, 0, 0, .null), (25, .dstore 5, 5, 0, .null), (27, .dload_n 3, 3, 0, .null), (28, .dload 5, 5, 0, .null), (30, .dcmp .l, 0, 0, .null), (31, .ifCond .lt 10, 41, 0, .null), (34, .dload_n 3, 3, 0, .null), (35, .dload 5, 5, 0, .null), (37, .dsub, 0, 0, .null), (38, .goto 7, 45, 0, .null), (41, .dload 5, 5, 0, .null), (43, .dload_n 3, 3, 0, .null), (44, .dsub, 0, 0, .null), (45, .dreturn, 0, 0, .null)]
def v_Waters_rangeOf : List (Nat × List Nat) := [(0, [0, 1, 2])]
def s_Waters_rangeOf : List (Nat × Nat × List Op) := [(0, 46, o_Waters_rangeOf_0)]
set_option maxRecDepth 100000 in
theorem k_Waters_rangeOf : MOk P_Waters s_Waters_rangeOf 63 7 := ⟨P_Waters_ok, _, rfl, rfl, rfl, by decide +kernel⟩
def o_X_spring_0 : List Op := [(0, .iload_n 1, 1, 0, .null), (1, .invokestatic 104, 3, 1, .ref 0), (4, .ifCond .eq 15, 19, 0, .null), (7, .aload_n 0, 0, 0, .null), (8, .getfield 55, 11, 4, .null), (11, .iload_n 1, 1, 0, .null), (12, .iload_n 2, 2, 0, .null), (13, .invokevirtual 261, 65, 2, .ref 9), (16, .goto 5, 21, 0, .null), (19, .bipush (-2), 0, 0, .int (-2)), (21, .ireturn, 0, 0, .null)]
def v_X_spring : List (Nat × List Nat) := [(0, [0, 1, 2])]
def s_X_spring : List (Nat × Nat × List Op) := [(0, 22, o_X_spring_0)]
set_option maxRecDepth 100000 in
theorem k_X_spring : MOk P_X s_X_spring 64 3 := ⟨P_X_ok, _, rfl, rfl, rfl, by decide +kernel⟩
def o_Waters_furthestRange_0 : List Op := [(0, .iconst (-1), 0, 0, .int (-1)), (1, .istore_n 3, 3, 0, .null), (2, .dconst 0, 0, 0, .double 0), (3, .dstore 4, 4, 0, .null), (5, .iconst 0, 0, 0, .int 0), (6, .istore 6, 6, 0, .null)]
def o_Waters_furthestRange_1 : List Op := [(8, .iload 6, 6, 0, .null), (10, .aload_n 0, 0, 0, .null), (11, .getfield 9, 9, 1, .null), (14, .iload_n 1, 1, 0, .null), (15, .iaload, 0, 0, .null), (16, .iconst 1, 0, 0, .int 1), (17, .isub, 0, 0, .null), (18, .if_icmp .ge 63, 81, 0, .null), (21, .aload_n 0, 0, 0, .null), (22, .iload_n 1, 1, 0, .null), (23, .iload 6, 6, 0, .null), (25, .invokevirtual 58, 62, 2, .ref 9), (28, .ifCond .eq 47, 75, 0, .null), (31, .aload_n 0, 0, 0, .null), (32, .iload_n 1, 1, 0, .null), (33, .iload 6, 6, 0, .null), (35, .invokevirtual 62, 63, 2, .ref 9), (38, .dstore 7, 7, 0, .null), (40, .iload_n 3, 3, 0, .null), (41, .iconst (-1), 0, 0, .int (-1)), (42, .if_icmp .eq 26, 68, 0, .null), (45, .iload_n 2, 2, 0, .null), (46, .ifCond .eq 14, 60, 0, .null), (49, .dload 7, 7, 0, .null), (51, .dload 4, 4, 0, .null), (53, .dcmp .l, 0, 0, .null), (54, .ifCond .le 21, 75, 0, .null), (57, .goto 11, 68, 0, .null), (60, .dload 7, 7, 0, .null), (62, .dload 4, 4, 0, .null), (64, .dcmp .g, 0, 0, .null), (65, .ifCond .ge 10, 75, 0, .null), (68, .iload 6, 6, 0, .null), (70, .istore_n 3, 3, 0, .null), (71, .dload 7, 7, 0, .null), (73, .dstore 4, 4, 0, .null), (75, .iinc 6 1, 6, 0, .int 1), (78, .goto (-70), 8, 0, .null), (81, .iload_n 3, 3, 0, .null), (82, .ireturn, 0, 0, .null)]
def v_Waters_furthestRange : List (Nat × List Nat) := [(0, [0, 1, 2]), (8, [0, 1, 2, 3, 4, 6])]
def s_Waters_furthestRange : List (Nat × Nat × List Op) := [(0, 8, o_Waters_furthestRange_0), (8, 83, o_Waters_furthestRange_1)]
set_option maxRecDepth 100000 in
theorem k_Waters_furthestRange : MOk P_Waters s_Waters_furthestRange 65 9 := ⟨P_Waters_ok, _, rfl, rfl, rfl, by decide +kernel⟩
def o_X_tide_0 : List Op := [(0, .iload_n 1, 1, 0, .null), (1, .invokestatic 104, 3, 1, .ref 0), (4, .ifCond .eq 25, 29, 0, .null), (7, .iload_n 2, 2, 0, .null), (8, .bipush (-6), 0, 0, .int (-6)), (10, .bipush 6, 0, 0, .int 6), (12, .invokestatic 107, 4, 3, .ref 0), (15, .ifCond .eq 14, 29, 0, .null), (18, .iload_n 3, 3, 0, .null), (19, .ldc_w 265, 0, 0, .int 2147483647), (22, .iand, 0, 0, .null), (23, .ldc_w 266, 0, 0, .int 1101004800), (26, .if_icmp .le 6, 32, 0, .null), (29, .bipush (-2), 0, 0, .int (-2)), (31, .ireturn, 0, 0, .null), (32, .aload_n 0, 0, 0, .null), (33, .getfield 55, 11, 4, .null), (36, .getfield 267, 9, 6, .null), (39, .iload_n 1, 1, 0, .null), (40, .bipush 13, 0, 0, .int 13), (42, .imul, 0, 0, .null), (43, .iload_n 2, 2, 0, .null), (44, .iadd, 0, 0, .null), (45, .bipush 6, 0, 0, .int 6), (47, .iadd, 0, 0, .null), (48, .iload_n 3, 3, 0, .null), (49, .iastore, 0, 0, .null), (50, .iconst 1, 0, 0, .int 1), (51, .ireturn, 0, 0, .null)]
def v_X_tide : List (Nat × List Nat) := [(0, [0, 1, 2, 3])]
def s_X_tide : List (Nat × Nat × List Op) := [(0, 52, o_X_tide_0)]
set_option maxRecDepth 100000 in
theorem k_X_tide : MOk P_X s_X_tide 66 4 := ⟨P_X_ok, _, rfl, rfl, rfl, by decide +kernel⟩
def o_X_stream_0 : List Op := [(0, .iload_n 1, 1, 0, .null), (1, .invokestatic 104, 3, 1, .ref 0), (4, .ifCond .eq 20, 24, 0, .null), (7, .iload_n 2, 2, 0, .null), (8, .invokestatic 96, 1, 1, .ref 0), (11, .ifCond .eq 13, 24, 0, .null), (14, .aload_n 0, 0, 0, .null), (15, .getfield 39, 11, 0, .null), (18, .invokevirtual 140, 16, 0, .ref 0), (21, .ifCond .eq 6, 27, 0, .null), (24, .ldc 180, 0, 0, .int 2143289344), (26, .ireturn, 0, 0, .null), (27, .aload_n 0, 0, 0, .null), (28, .getfield 55, 11, 4, .null), (31, .iload_n 1, 1, 0, .null), (32, .iload_n 2, 2, 0, .null), (33, .invokevirtual 270, 68, 2, .ref 9), (36, .istore_n 3, 3, 0, .null), (37, .iload_n 3, 3, 0, .null), (38, .ifCond .ge 16, 54, 0, .null), (41, .aload_n 0, 0, 0, .null), (42, .getfield 39, 11, 0, .null), (45, .iload_n 3, 3, 0, .null), (46, .ineg, 0, 0, .null), (47, .invokevirtual 149, 18, 1, .ref 0), (50, .pop, 0, 0, .null), (51, .ldc 180, 0, 0, .int 2143289344), (53, .ireturn, 0, 0, .null), (54, .aload_n 0, 0, 0, .null), (55, .getfield 55, 11, 4, .null), (58, .getfield 267, 9, 6, .null), (61, .iload_n 3, 3, 0, .null), (62, .iaload, 0, 0, .null), (63, .ireturn, 0, 0, .null)]
def v_X_stream : List (Nat × List Nat) := [(0, [0, 1, 2])]
def s_X_stream : List (Nat × Nat × List Op) := [(0, 64, o_X_stream_0)]
set_option maxRecDepth 100000 in
theorem k_X_stream : MOk P_X s_X_stream 67 4 := ⟨P_X_ok, _, rfl, rfl, rfl, by decide +kernel⟩
def o_Waters_streamPlace_0 : List Op := [(0, .aload_n 0, 0, 0, .null), (1, .iload_n 1, 1, 0, .null), (2, .iload_n 2, 2, 0, .null), (3, .invokevirtual 66, 69, 2, .ref 9), (6, .istore_n 3, 3, 0, .null), (7, .iload_n 3, 3, 0, .null), (8, .iconst (-1), 0, 0, .int (-1)), (9, .if_icmp .ne 6, 15, 0, .null), (12, .bipush (-7), 0, 0, .int (-7)), (14, .ireturn, 0, 0, .null), (15, .iload_n 2, 2, 0, .null), (16, .aload_n 0, 0, 0, .null), (17, .getfield 15, 9, 2, .null), (20, .iload_n 3, 3, 0, .null), (21, .iaload, 0, 0, .null), (22, .isub, 0, 0, .null), (23, .sipush 1800, 0, 0, .int 1800), (26, .iadd, 0, 0, .null), (27, .sipush 3600, 0, 0, .int 3600), (30, .invokestatic 70, 71, 2, .ref 0), (33, .istore 4, 4, 0, .null), (35, .iload 4, 4, 0, .null), (37, .bipush (-6), 0, 0, .int (-6)), (39, .if_icmp .lt 10, 49, 0, .null), (42, .iload 4, 4, 0, .null), (44, .bipush 6, 0, 0, .int 6), (46, .if_icmp .le 6, 52, 0, .null), (49, .bipush (-2), 0, 0, .int (-2)), (51, .ireturn, 0, 0, .null), (52, .iload_n 1, 1, 0, .null), (53, .bipush 13, 0, 0, .int 13), (55, .imul, 0, 0, .null), (56, .iload 4, 4, 0, .null), (58, .iadd, 0, 0, .null), (59, .bipush 6, 0, 0, .int 6), (61, .iadd, 0, 0, .null), (62, .ireturn, 0, 0, .null)]
def v_Waters_streamPlace : List (Nat × List Nat) := [(0, [0, 1, 2])]
def s_Waters_streamPlace : List (Nat × Nat × List Op) := [(0, 63, o_Waters_streamPlace_0)]
set_option maxRecDepth 100000 in
theorem k_Waters_streamPlace : MOk P_Waters s_Waters_streamPlace 68 5 := ⟨P_Waters_ok, _, rfl, rfl, rfl, by decide +kernel⟩
def o_Waters_nearestHigh_0 : List Op := [(0, .iconst (-1), 0, 0, .int (-1)), (1, .istore_n 3, 3, 0, .null), (2, .ldc 75, 0, 0, .int 2592000), (4, .istore 4, 4, 0, .null), (6, .iload_n 1, 1, 0, .null), (7, .bipush 40, 0, 0, .int 40), (9, .imul, 0, 0, .null), (10, .istore 5, 5, 0, .null)]
def o_Waters_nearestHigh_1 : List Op := [(12, .iload 5, 5, 0, .null), (14, .iload_n 1, 1, 0, .null), (15, .bipush 40, 0, 0, .int 40), (17, .imul, 0, 0, .null), (18, .aload_n 0, 0, 0, .null), (19, .getfield 9, 9, 1, .null), (22, .iload_n 1, 1, 0, .null), (23, .iaload, 0, 0, .null), (24, .iadd, 0, 0, .null), (25, .if_icmp .ge 47, 72, 0, .null), (28, .iload_n 2, 2, 0, .null), (29, .aload_n 0, 0, 0, .null), (30, .getfield 15, 9, 2, .null), (33, .iload 5, 5, 0, .null), (35, .iaload, 0, 0, .null), (36, .isub, 0, 0, .null), (37, .invokestatic 76, 70, 1, .ref 0), (40, .istore 6, 6, 0, .null), (42, .aload_n 0, 0, 0, .null), (43, .getfield 18, 9, 3, .null), (46, .iload 5, 5, 0, .null), (48, .baload, 0, 0, .null), (49, .ifCond .eq 17, 66, 0, .null), (52, .iload 6, 6, 0, .null), (54, .iload 4, 4, 0, .null), (56, .if_icmp .ge 10, 66, 0, .null), (59, .iload 5, 5, 0, .null), (61, .istore_n 3, 3, 0, .null), (62, .iload 6, 6, 0, .null), (64, .istore 4, 4, 0, .null), (66, .iinc 5 1, 5, 0, .int 1), (69, .goto (-57), 12, 0, .null), (72, .iload_n 3, 3, 0, .null), (73, .ireturn, 0, 0, .null)]
def v_Waters_nearestHigh : List (Nat × List Nat) := [(0, [0, 1, 2]), (12, [0, 1, 2, 3, 4, 5])]
def s_Waters_nearestHigh : List (Nat × Nat × List Op) := [(0, 12, o_Waters_nearestHigh_0), (12, 74, o_Waters_nearestHigh_1)]
set_option maxRecDepth 100000 in
theorem k_Waters_nearestHigh : MOk P_Waters s_Waters_nearestHigh 69 7 := ⟨P_Waters_ok, _, rfl, rfl, rfl, by decide +kernel⟩
def o_Math_abs_0 : List Op := [(0, .iload_n 0, 0, 0, .null), (1, .ifCond .ge 8, 9, 0, .null), (4, .iload_n 0, 0, 0, .null), (5, .ineg, 0, 0, .null), (6, .goto 4, 10, 0, .null), (9, .iload_n 0, 0, 0, .null), (10, .ireturn, 0, 0, .null)]
def v_Math_abs : List (Nat × List Nat) := [(0, [0])]
def s_Math_abs : List (Nat × Nat × List Op) := [(0, 11, o_Math_abs_0)]
set_option maxRecDepth 100000 in
theorem k_Math_abs : MOk P_Math s_Math_abs 70 1 := ⟨P_Math_ok, _, rfl, rfl, rfl, by decide +kernel⟩
def o_Math_floorDiv_0 : List Op := [(0, .iload_n 0, 0, 0, .null), (1, .iload_n 1, 1, 0, .null), (2, .idiv, 0, 0, .null), (3, .istore_n 2, 2, 0, .null), (4, .iload_n 0, 0, 0, .null), (5, .iload_n 1, 1, 0, .null), (6, .ixor, 0, 0, .null), (7, .ifCond .ge 14, 21, 0, .null), (10, .iload_n 2, 2, 0, .null), (11, .iload_n 1, 1, 0, .null), (12, .imul, 0, 0, .null), (13, .iload_n 0, 0, 0, .null), (14, .if_icmp .eq 7, 21, 0, .null), (17, .iload_n 2, 2, 0, .null), (18, .iconst 1, 0, 0, .int 1), (19, .isub, 0, 0, .null), (20, .ireturn, 0, 0, .null), (21, .iload_n 2, 2, 0, .null), (22, .ireturn, 0, 0, .null)]
def v_Math_floorDiv : List (Nat × List Nat) := [(0, [0, 1])]
def s_Math_floorDiv : List (Nat × Nat × List Op) := [(0, 23, o_Math_floorDiv_0)]
set_option maxRecDepth 100000 in
theorem k_Math_floorDiv : MOk P_Math s_Math_floorDiv 71 3 := ⟨P_Math_ok, _, rfl, rfl, rfl, by decide +kernel⟩
def o_X_ship_0 : List Op := [(0, .iload_n 1, 1, 0, .null), (1, .iconst 0, 0, 0, .int 0), (2, .iconst 4, 0, 0, .int 4), (3, .invokestatic 107, 4, 3, .ref 0), (6, .ifCond .eq 39, 45, 0, .null), (9, .iload_n 2, 2, 0, .null), (10, .iconst 0, 0, 0, .int 0), (11, .sipush 3000, 0, 0, .int 3000), (14, .invokestatic 107, 4, 3, .ref 0), (17, .ifCond .eq 28, 45, 0, .null), (20, .iload_n 3, 3, 0, .null), (21, .iconst 0, 0, 0, .int 0), (22, .sipush 3000, 0, 0, .int 3000), (25, .invokestatic 107, 4, 3, .ref 0), (28, .ifCond .eq 17, 45, 0, .null), (31, .iload 4, 4, 0, .null), (33, .sipush (-1000), 0, 0, .int (-1000)), (36, .sipush 1000, 0, 0, .int 1000), (39, .invokestatic 107, 4, 3, .ref 0), (42, .ifCond .ne 6, 48, 0, .null), (45, .bipush (-2), 0, 0, .int (-2)), (47, .ireturn, 0, 0, .null), (48, .iload_n 1, 1, 0, .null), (49, .iconst 4, 0, 0, .int 4), (50, .if_icmp .eq 18, 68, 0, .null), (53, .aload_n 0, 0, 0, .null), (54, .getfield 59, 11, 5, .null), (57, .iload_n 1, 1, 0, .null), (58, .iload_n 2, 2, 0, .null), (59, .iload_n 3, 3, 0, .null), (60, .iload 4, 4, 0, .null), (62, .iconst (-1), 0, 0, .int (-1)), (63, .iconst (-1), 0, 0, .int (-1)), (64, .invokevirtual 273, 73, 6, .ref 5), (67, .ireturn, 0, 0, .null), (68, .aload_n 0, 0, 0, .null), (69, .iload 5, 5, 0, .null), (71, .invokevirtual 276, 76, 1, .ref 11), (74, .ifCond .eq 12, 86, 0, .null), (77, .aload_n 0, 0, 0, .null), (78, .iload 6, 6, 0, .null), (80, .invokevirtual 276, 76, 1, .ref 11), (83, .ifCond .ne 6, 89, 0, .null), (86, .bipush (-2), 0, 0, .int (-2)), (88, .ireturn, 0, 0, .null), (89, .aload_n 0, 0, 0, .null), (90, .getfield 59, 11, 5, .null), (93, .iload_n 1, 1, 0, .null), (94, .iload_n 2, 2, 0, .null), (95, .iload_n 3, 3, 0, .null), (96, .iload 4, 4, 0, .null), (98, .iload 5, 5, 0, .null), (100, .iload 6, 6, 0, .null), (102, .invokevirtual 273, 73, 6, .ref 5), (105, .ireturn, 0, 0, .null)]
def v_X_ship : List (Nat × List Nat) := [(0, [0, 1, 2, 3, 4, 5, 6])]
def s_X_ship : List (Nat × Nat × List Op) := [(0, 106, o_X_ship_0)]
set_option maxRecDepth 100000 in
theorem k_X_ship : MOk P_X s_X_ship 72 7 := ⟨P_X_ok, _, rfl, rfl, rfl, by decide +kernel⟩
def o_Ships_add_0 : List Op := [(0, .iload_n 1, 1, 0, .null), (1, .iconst 4, 0, 0, .int 4), (2, .if_icmp .ne 23, 25, 0, .null), (5, .iconst 1, 0, 0, .int 1), (6, .aload_n 0, 0, 0, .null), (7, .iload 5, 5, 0, .null), (9, .invokevirtual 36, 74, 1, .ref 5), (12, .aload_n 0, 0, 0, .null), (13, .iload 6, 6, 0, .null), (15, .invokevirtual 36, 74, 1, .ref 5), (18, .invokestatic 40, 75, 2, .ref 0), (21, .iadd, 0, 0, .null), (22, .goto 4, 26, 0, .null), (25, .iconst 0, 0, 0, .int 0), (26, .istore 7, 7, 0, .null), (28, .iload 7, 7, 0, .null), (30, .iconst 4, 0, 0, .int 4), (31, .if_icmp .le 6, 37, 0, .null), (34, .bipush (-3), 0, 0, .int (-3)), (36, .ireturn, 0, 0, .null), (37, .aload_n 0, 0, 0, .null), (38, .getfield 46, 5, 9, .null), (41, .bipush 40, 0, 0, .int 40), (43, .if_icmp .lt 6, 49, 0, .null), (46, .bipush (-4), 0, 0, .int (-4)), (48, .ireturn, 0, 0, .null), (49, .aload_n 0, 0, 0, .null), (50, .getfield 9, 5, 0, .null), (53, .aload_n 0, 0, 0, .null), (54, .getfield 46, 5, 9, .null), (57, .iload_n 1, 1, 0, .null), (58, .iastore, 0, 0, .null), (59, .aload_n 0, 0, 0, .null), (60, .getfield 15, 5, 1, .null), (63, .aload_n 0, 0, 0, .null), (64, .getfield 46, 5, 9, .null), (67, .iload_n 2, 2, 0, .null), (68, .iastore, 0, 0, .null), (69, .aload_n 0, 0, 0, .null), (70, .getfield 18, 5, 2, .null), (73, .aload_n 0, 0, 0, .null), (74, .getfield 46, 5, 9, .null), (77, .iload_n 3, 3, 0, .null), (78, .iastore, 0, 0, .null), (79, .aload_n 0, 0, 0, .null), (80, .getfield 21, 5, 3, .null), (83, .aload_n 0, 0, 0, .null), (84, .getfield 46, 5, 9, .null), (87, .iload 4, 4, 0, .null), (89, .iastore, 0, 0, .null), (90, .aload_n 0, 0, 0, .null), (91, .getfield 24, 5, 4, .null), (94, .aload_n 0, 0, 0, .null), (95, .getfield 46, 5, 9, .null), (98, .iload 5, 5, 0, .null), (100, .iastore, 0, 0, .null), (101, .aload_n 0, 0, 0, .null), (102, .getfield 27, 5, 5, .null), (105, .aload_n 0, 0, 0, .null), (106, .getfield 46, 5, 9, .null), (109, .iload 6, 6, 0, .null), (111, .iastore, 0, 0, .null), (112, .aload_n 0, 0, 0, .null), (113, .getfield 30, 5, 6, .null), (116, .aload_n 0, 0, 0, .null), (117, .getfield 46, 5, 9, .null), (120, .iload 7, 7, 0, .null), (122, .iastore, 0, 0, .null), (123, .aload_n 0, 0, 0, .null), (124, .dup, 0, 0, .null), (125, .getfield 46, 5, 9, .null), (128, .iconst 1, 0, 0, .int 1), (129, .iadd, 0, 0, .null), (130, .putfield 46, 5, 9, .null), (133, .aload_n 0, 0, 0, .null), (134, .getfield 46, 5, 9, .null), (137, .iconst 1, 0, 0, .int 1), (138, .isub, 0, 0, .null), (139, .ireturn, 0, 0, .null)]
def v_Ships_add : List (Nat × List Nat) := [(0, [0, 1, 2, 3, 4, 5, 6])]
def s_Ships_add : List (Nat × Nat × List Op) := [(0, 140, o_Ships_add_0)]
set_option maxRecDepth 100000 in
theorem k_Ships_add : MOk P_Ships s_Ships_add 73 8 := ⟨P_Ships_ok, _, rfl, rfl, rfl, by decide +kernel⟩
def o_Ships_deepOf_0 : List Op := [(0, .iload_n 1, 1, 0, .null), (1, .iconst (-1), 0, 0, .int (-1)), (2, .if_icmp .ne 7, 9, 0, .null), (5, .iconst 0, 0, 0, .int 0), (6, .goto 9, 15, 0, .null), (9, .aload_n 0, 0, 0, .null), (10, .getfield 30, 5, 6, .null), (13, .iload_n 1, 1, 0, .null), (14, .iaload, 0, 0, .null), (15, .ireturn, 0, 0, .null)]
def v_Ships_deepOf : List (Nat × List Nat) := [(0, [0, 1])]
def s_Ships_deepOf : List (Nat × Nat × List Op) := [(0, 16, o_Ships_deepOf_0)]
set_option maxRecDepth 100000 in
theorem k_Ships_deepOf : MOk P_Ships s_Ships_deepOf 74 2 := ⟨P_Ships_ok, _, rfl, rfl, rfl, by decide +kernel⟩
def o_Math_max_0 : List Op := [(0, .iload_n 0, 0, 0, .null), (1, .iload_n 1, 1, 0, .null), (2, .if_icmp .lt 7, 9, 0, .null), (5, .iload_n 0, 0, 0, .null), (6, .goto 4, 10, 0, .null), (9, .iload_n 1, 1, 0, .null), (10, .ireturn, 0, 0, .null)]
def v_Math_max : List (Nat × List Nat) := [(0, [0, 1])]
def s_Math_max : List (Nat × Nat × List Op) := [(0, 11, o_Math_max_0)]
set_option maxRecDepth 100000 in
theorem k_Math_max : MOk P_Math s_Math_max 75 2 := ⟨P_Math_ok, _, rfl, rfl, rfl, by decide +kernel⟩
def o_X_isShipOrNothing_0 : List Op := [(0, .iload_n 1, 1, 0, .null), (1, .iconst (-1), 0, 0, .int (-1)), (2, .if_icmp .lt 18, 20, 0, .null), (5, .iload_n 1, 1, 0, .null), (6, .aload_n 0, 0, 0, .null), (7, .getfield 59, 11, 5, .null), (10, .getfield 426, 5, 9, .null), (13, .if_icmp .ge 7, 20, 0, .null), (16, .iconst 1, 0, 0, .int 1), (17, .goto 4, 21, 0, .null), (20, .iconst 0, 0, 0, .int 0), (21, .ireturn, 1, 0, .null)]
def v_X_isShipOrNothing : List (Nat × List Nat) := [(0, [0, 1])]
def s_X_isShipOrNothing : List (Nat × Nat × List Op) := [(0, 22, o_X_isShipOrNothing_0)]
set_option maxRecDepth 100000 in
theorem k_X_isShipOrNothing : MOk P_X s_X_isShipOrNothing 76 2 := ⟨P_X_ok, _, rfl, rfl, rfl, by decide +kernel⟩
def o_X_ask_0 : List Op := [(0, .aload_n 0, 0, 0, .null), (1, .iload_n 1, 1, 0, .null), (2, .invokevirtual 279, 78, 1, .ref 11), (5, .ifCond .eq 12, 17, 0, .null), (8, .iload_n 2, 2, 0, .null), (9, .iconst 0, 0, 0, .int 0), (10, .iconst 4, 0, 0, .int 4), (11, .invokestatic 107, 4, 3, .ref 0), (14, .ifCond .ne 6, 20, 0, .null), (17, .bipush (-2), 0, 0, .int (-2)), (19, .ireturn, 0, 0, .null), (20, .aload_n 0, 0, 0, .null), (21, .getfield 39, 11, 0, .null), (24, .invokevirtual 140, 16, 0, .ref 0), (27, .ifCond .eq 6, 33, 0, .null), (30, .bipush (-4), 0, 0, .int (-4)), (32, .ireturn, 0, 0, .null), (33, .aload_n 0, 0, 0, .null), (34, .getfield 59, 11, 5, .null), (37, .iconst 0, 0, 0, .int 0), (38, .putfield 282, 5, 8, .null), (41, .aload_n 0, 0, 0, .null), (42, .getfield 59, 11, 5, .null), (45, .iload_n 1, 1, 0, .null), (46, .iload_n 2, 2, 0, .null), (47, .iconst 0, 0, 0, .int 0), (48, .invokevirtual 285, 79, 3, .ref 5), (51, .istore_n 3, 3, 0, .null), (52, .aload_n 0, 0, 0, .null), (53, .getfield 59, 11, 5, .null), (56, .getfield 288, 5, 10, .null), (59, .ifCond .eq 18, 77, 0, .null), (62, .aload_n 0, 0, 0, .null), (63, .getfield 39, 11, 0, .null), (66, .aload_n 0, 0, 0, .null), (67, .getfield 59, 11, 5, .null), (70, .getfield 288, 5, 10, .null), (73, .invokevirtual 149, 18, 1, .ref 0), (76, .ireturn, 0, 0, .null), (77, .aload_n 0, 0, 0, .null), (78, .iload_n 3, 3, 0, .null), (79, .putfield 291, 11, 12, .null), (82, .iconst 1, 0, 0, .int 1), (83, .ireturn, 0, 0, .null)]
def v_X_ask : List (Nat × List Nat) := [(0, [0, 1, 2])]
def s_X_ask : List (Nat × Nat × List Op) := [(0, 84, o_X_ask_0)]
set_option maxRecDepth 100000 in
theorem k_X_ask : MOk P_X s_X_ask 77 4 := ⟨P_X_ok, _, rfl, rfl, rfl, by decide +kernel⟩
def o_X_isShip_0 : List Op := [(0, .iload_n 1, 1, 0, .null), (1, .ifCond .lt 18, 19, 0, .null), (4, .iload_n 1, 1, 0, .null), (5, .aload_n 0, 0, 0, .null), (6, .getfield 59, 11, 5, .null), (9, .getfield 426, 5, 9, .null), (12, .if_icmp .ge 7, 19, 0, .null), (15, .iconst 1, 0, 0, .int 1), (16, .goto 4, 20, 0, .null), (19, .iconst 0, 0, 0, .int 0), (20, .ireturn, 1, 0, .null)]
def v_X_isShip : List (Nat × List Nat) := [(0, [0, 1])]
def s_X_isShip : List (Nat × Nat × List Op) := [(0, 21, o_X_isShip_0)]
set_option maxRecDepth 100000 in
theorem k_X_isShip : MOk P_X s_X_isShip 78 2 := ⟨P_X_ok, _, rfl, rfl, rfl, by decide +kernel⟩
def o_Ships_askFor_0 : List Op := [(0, .iload_n 3, 3, 0, .null), (1, .ifCond .ne 8, 9, 0, .null), (4, .aload_n 0, 0, 0, .null), (5, .iconst 0, 0, 0, .int 0), (6, .putfield 50, 5, 10, .null), (9, .iload_n 1, 1, 0, .null), (10, .iconst (-1), 0, 0, .int (-1)), (11, .if_icmp .eq 8, 19, 0, .null), (14, .iload_n 3, 3, 0, .null), (15, .iconst 4, 0, 0, .int 4), (16, .if_icmp .le 10, 26, 0, .null), (19, .aload_n 0, 0, 0, .null), (20, .iconst 1, 0, 0, .int 1), (21, .putfield 50, 5, 10, .null), (24, .iconst 0, 0, 0, .int 0), (25, .ireturn, 0, 0, .null), (26, .aload_n 0, 0, 0, .null), (27, .getfield 9, 5, 0, .null), (30, .iload_n 1, 1, 0, .null), (31, .iaload, 0, 0, .null), (32, .iconst 4, 0, 0, .int 4), (33, .if_icmp .ne 16, 49, 0, .null), (36, .iload_n 2, 2, 0, .null), (37, .iconst 1, 0, 0, .int 1), (38, .if_icmp .eq 11, 49, 0, .null), (41, .aload_n 0, 0, 0, .null), (42, .iload_n 1, 1, 0, .null), (43, .iload_n 2, 2, 0, .null), (44, .iload_n 3, 3, 0, .null), (45, .invokevirtual 53, 80, 3, .ref 5), (48, .ireturn, 0, 0, .null), (49, .iload_n 2, 2, 0, .null), (50, .tableswitch 54 0 3 #[30, 36, 42, 48], 0, 0, .null), (80, .aload_n 0, 0, 0, .null), (81, .iload_n 1, 1, 0, .null), (82, .invokevirtual 57, 84, 1, .ref 5), (85, .ireturn, 0, 0, .null), (86, .aload_n 0, 0, 0, .null), (87, .iload_n 1, 1, 0, .null), (88, .invokevirtual 60, 86, 1, .ref 5), (91, .ireturn, 0, 0, .null), (92, .aload_n 0, 0, 0, .null), (93, .iload_n 1, 1, 0, .null), (94, .invokevirtual 63, 87, 1, .ref 5), (97, .ireturn, 0, 0, .null), (98, .aload_n 0, 0, 0, .null), (99, .iload_n 1, 1, 0, .null), (100, .invokevirtual 66, 88, 1, .ref 5), (103, .ireturn, 0, 0, .null), (104, .aload_n 0, 0, 0, .null), (105, .aload_n 0, 0, 0, .null), (106, .getfield 9, 5, 0, .null), (109, .iload_n 1, 1, 0, .null), (110, .iaload, 0, 0, .null), (111, .iconst 2, 0, 0, .int 2), (112, .if_icmp .ne 8, 120, 0, .null), (115, .bipush 51, 0, 0, .int 51), (117, .goto 5, 122, 0, .null), (120, .bipush 50, 0, 0, .int 50), (122, .invokevirtual 69, 82, 1, .ref 5), (125, .aload_n 0, 0, 0, .null), (126, .getfield 9, 5, 0, .null), (129, .iload_n 1, 1, 0, .null), (130, .iaload, 0, 0, .null), (131, .iconst 2, 0, 0, .int 2), (132, .if_icmp .ne 7, 139, 0, .null), (135, .iconst 1, 0, 0, .int 1), (136, .goto 4, 140, 0, .null), (139, .iconst 0, 0, 0, .int 0), (140, .ireturn, 0, 0, .null)]
def v_Ships_askFor : List (Nat × List Nat) := [(0, [0, 1, 2, 3])]
def s_Ships_askFor : List (Nat × Nat × List Op) := [(0, 141, o_Ships_askFor_0)]
set_option maxRecDepth 100000 in
theorem k_Ships_askFor : MOk P_Ships s_Ships_askFor 79 4 := ⟨P_Ships_ok, _, rfl, rfl, rfl, by decide +kernel⟩
def o_Ships_pairAnswer_0 : List Op := [(0, .aload_n 0, 0, 0, .null), (1, .iload_n 2, 2, 0, .null), (2, .invokestatic 73, 81, 1, .ref 0), (5, .invokevirtual 69, 82, 1, .ref 5), (8, .aload_n 0, 0, 0, .null), (9, .aload_n 0, 0, 0, .null), (10, .getfield 24, 5, 4, .null), (13, .iload_n 1, 1, 0, .null), (14, .iaload, 0, 0, .null), (15, .iload_n 2, 2, 0, .null), (16, .iload_n 3, 3, 0, .null), (17, .iconst 1, 0, 0, .int 1), (18, .iadd, 0, 0, .null), (19, .invokevirtual 76, 79, 3, .ref 5), (22, .istore 4, 4, 0, .null), (24, .aload_n 0, 0, 0, .null), (25, .getfield 50, 5, 10, .null), (28, .ifCond .ne 14, 42, 0, .null), (31, .iload_n 2, 2, 0, .null), (32, .iconst 4, 0, 0, .int 4), (33, .if_icmp .ne 12, 45, 0, .null), (36, .iload 4, 4, 0, .null), (38, .iconst 1, 0, 0, .int 1), (39, .if_icmp .ne 6, 45, 0, .null), (42, .iload 4, 4, 0, .null), (44, .ireturn, 0, 0, .null), (45, .aload_n 0, 0, 0, .null), (46, .aload_n 0, 0, 0, .null), (47, .getfield 27, 5, 5, .null), (50, .iload_n 1, 1, 0, .null), (51, .iaload, 0, 0, .null), (52, .iload_n 2, 2, 0, .null), (53, .iload_n 3, 3, 0, .null), (54, .iconst 1, 0, 0, .int 1), (55, .iadd, 0, 0, .null), (56, .invokevirtual 76, 79, 3, .ref 5), (59, .istore 5, 5, 0, .null), (61, .iload_n 2, 2, 0, .null), (62, .tableswitch 54 0 3 #[30, 54, 38, 46], 0, 0, .null), (92, .iload 4, 4, 0, .null), (94, .iload 5, 5, 0, .null), (96, .invokestatic 40, 75, 2, .ref 0), (99, .ireturn, 0, 0, .null), (100, .iload 4, 4, 0, .null), (102, .iload 5, 5, 0, .null), (104, .invokestatic 79, 83, 2, .ref 0), (107, .ireturn, 0, 0, .null), (108, .iload 4, 4, 0, .null), (110, .iload 5, 5, 0, .null), (112, .iadd, 0, 0, .null), (113, .iconst 2, 0, 0, .int 2), (114, .idiv, 0, 0, .null), (115, .ireturn, 0, 0, .null), (116, .iload 5, 5, 0, .null), (118, .ireturn, 0, 0, .null)]
def v_Ships_pairAnswer : List (Nat × List Nat) := [(0, [0, 1, 2, 3])]
def s_Ships_pairAnswer : List (Nat × Nat × List Op) := [(0, 119, o_Ships_pairAnswer_0)]
set_option maxRecDepth 100000 in
theorem k_Ships_pairAnswer : MOk P_Ships s_Ships_pairAnswer 80 6 := ⟨P_Ships_ok, _, rfl, rfl, rfl, by decide +kernel⟩
def o_Ships_pairBody_0 : List Op := [(0, .iload_n 0, 0, 0, .null), (1, .tableswitch 40 0 3 #[31, 40, 34, 37], 0, 0, .null), (32, .bipush 12, 0, 0, .int 12), (34, .ireturn, 0, 0, .null), (35, .bipush 32, 0, 0, .int 32), (37, .ireturn, 0, 0, .null), (38, .bipush 43, 0, 0, .int 43), (40, .ireturn, 0, 0, .null), (41, .bipush 52, 0, 0, .int 52), (43, .ireturn, 0, 0, .null)]
def v_Ships_pairBody : List (Nat × List Nat) := [(0, [0])]
def s_Ships_pairBody : List (Nat × Nat × List Op) := [(0, 44, o_Ships_pairBody_0)]
set_option maxRecDepth 100000 in
theorem k_Ships_pairBody : MOk P_Ships s_Ships_pairBody 81 1 := ⟨P_Ships_ok, _, rfl, rfl, rfl, by decide +kernel⟩
def o_Ships_begin_0 : List Op := [(0, .aload_n 0, 0, 0, .null), (1, .getfield 86, 5, 8, .null), (4, .bipush 100, 0, 0, .int 100), (6, .if_icmp .ge 23, 29, 0, .null), (9, .aload_n 0, 0, 0, .null), (10, .getfield 33, 5, 7, .null), (13, .aload_n 0, 0, 0, .null), (14, .getfield 86, 5, 8, .null), (17, .iload_n 1, 1, 0, .null), (18, .iastore, 0, 0, .null), (19, .aload_n 0, 0, 0, .null), (20, .dup, 0, 0, .null), (21, .getfield 86, 5, 8, .null), (24, .iconst 1, 0, 0, .int 1), (25, .iadd, 0, 0, .null), (26, .putfield 86, 5, 8, .null), (29, .return_, 0, 0, .null)]
def v_Ships_begin : List (Nat × List Nat) := [(0, [0, 1])]
def s_Ships_begin : List (Nat × Nat × List Op) := [(0, 30, o_Ships_begin_0)]
set_option maxRecDepth 100000 in
theorem k_Ships_begin : MOk P_Ships s_Ships_begin 82 2 := ⟨P_Ships_ok, _, rfl, rfl, rfl, by decide +kernel⟩
def o_Math_min_0 : List Op := [(0, .iload_n 0, 0, 0, .null), (1, .iload_n 1, 1, 0, .null), (2, .if_icmp .gt 7, 9, 0, .null), (5, .iload_n 0, 0, 0, .null), (6, .goto 4, 10, 0, .null), (9, .iload_n 1, 1, 0, .null), (10, .ireturn, 0, 0, .null)]
def v_Math_min : List (Nat × List Nat) := [(0, [0, 1])]
def s_Math_min : List (Nat × Nat × List Op) := [(0, 11, o_Math_min_0)]
set_option maxRecDepth 100000 in
theorem k_Math_min : MOk P_Math s_Math_min 83 2 := ⟨P_Math_ok, _, rfl, rfl, rfl, by decide +kernel⟩
def o_Ships_needOf_0 : List Op := [(0, .aload_n 0, 0, 0, .null), (1, .iload_n 1, 1, 0, .null), (2, .iconst 0, 0, 0, .int 0), (3, .invokevirtual 82, 85, 2, .ref 5), (6, .istore_n 2, 2, 0, .null), (7, .iload_n 2, 2, 0, .null), (8, .ifCond .eq 9, 17, 0, .null), (11, .aload_n 0, 0, 0, .null), (12, .bipush 11, 0, 0, .int 11), (14, .invokevirtual 69, 82, 1, .ref 5), (17, .aload_n 0, 0, 0, .null), (18, .bipush 10, 0, 0, .int 10), (20, .invokevirtual 69, 82, 1, .ref 5), (23, .aload_n 0, 0, 0, .null), (24, .getfield 15, 5, 1, .null), (27, .iload_n 1, 1, 0, .null), (28, .iaload, 0, 0, .null), (29, .aload_n 0, 0, 0, .null), (30, .iload_n 1, 1, 0, .null), (31, .invokevirtual 60, 86, 1, .ref 5), (34, .iadd, 0, 0, .null), (35, .istore_n 3, 3, 0, .null), (36, .iload_n 2, 2, 0, .null), (37, .ifCond .eq 17, 54, 0, .null), (40, .iload_n 3, 3, 0, .null), (41, .aload_n 0, 0, 0, .null), (42, .getfield 15, 5, 1, .null), (45, .iload_n 1, 1, 0, .null), (46, .iaload, 0, 0, .null), (47, .bipush 10, 0, 0, .int 10), (49, .idiv, 0, 0, .null), (50, .iadd, 0, 0, .null), (51, .goto 4, 55, 0, .null), (54, .iload_n 3, 3, 0, .null), (55, .ireturn, 0, 0, .null)]
def v_Ships_needOf : List (Nat × List Nat) := [(0, [0, 1])]
def s_Ships_needOf : List (Nat × Nat × List Op) := [(0, 56, o_Ships_needOf_0)]
set_option maxRecDepth 100000 in
theorem k_Ships_needOf : MOk P_Ships s_Ships_needOf 84 4 := ⟨P_Ships_ok, _, rfl, rfl, rfl, by decide +kernel⟩
def o_Ships_isOf_0 : List Op := [(0, .aload_n 0, 0, 0, .null), (1, .getfield 9, 5, 0, .null), (4, .iload_n 1, 1, 0, .null), (5, .iaload, 0, 0, .null), (6, .iload_n 2, 2, 0, .null), (7, .if_icmp .eq 32, 39, 0, .null), (10, .aload_n 0, 0, 0, .null), (11, .getfield 9, 5, 0, .null), (14, .iload_n 1, 1, 0, .null), (15, .iaload, 0, 0, .null), (16, .iconst 2, 0, 0, .int 2), (17, .if_icmp .ne 7, 24, 0, .null), (20, .iload_n 2, 2, 0, .null), (21, .ifCond .eq 18, 39, 0, .null), (24, .aload_n 0, 0, 0, .null), (25, .getfield 9, 5, 0, .null), (28, .iload_n 1, 1, 0, .null), (29, .iaload, 0, 0, .null), (30, .iconst 3, 0, 0, .int 3), (31, .if_icmp .ne 12, 43, 0, .null), (34, .iload_n 2, 2, 0, .null), (35, .iconst 1, 0, 0, .int 1), (36, .if_icmp .ne 7, 43, 0, .null), (39, .iconst 1, 0, 0, .int 1), (40, .goto 4, 44, 0, .null), (43, .iconst 0, 0, 0, .int 0), (44, .ireturn, 1, 0, .null)]
def v_Ships_isOf : List (Nat × List Nat) := [(0, [0, 1, 2])]
def s_Ships_isOf : List (Nat × Nat × List Op) := [(0, 45, o_Ships_isOf_0)]
set_option maxRecDepth 100000 in
theorem k_Ships_isOf : MOk P_Ships s_Ships_isOf 85 3 := ⟨P_Ships_ok, _, rfl, rfl, rfl, by decide +kernel⟩
def o_Ships_keelOf_0 : List Op := [(0, .aload_n 0, 0, 0, .null), (1, .getfield 9, 5, 0, .null), (4, .iload_n 1, 1, 0, .null), (5, .iaload, 0, 0, .null), (6, .tableswitch 76 0 3 #[30, 76, 39, 61], 0, 0, .null), (36, .aload_n 0, 0, 0, .null), (37, .bipush 21, 0, 0, .int 21), (39, .invokevirtual 69, 82, 1, .ref 5), (42, .bipush 100, 0, 0, .int 100), (44, .ireturn, 0, 0, .null), (45, .aload_n 0, 0, 0, .null), (46, .bipush 22, 0, 0, .int 22), (48, .invokevirtual 69, 82, 1, .ref 5), (51, .aload_n 0, 0, 0, .null), (52, .bipush 21, 0, 0, .int 21), (54, .invokevirtual 69, 82, 1, .ref 5), (57, .bipush 100, 0, 0, .int 100), (59, .aload_n 0, 0, 0, .null), (60, .getfield 21, 5, 3, .null), (63, .iload_n 1, 1, 0, .null), (64, .iaload, 0, 0, .null), (65, .iadd, 0, 0, .null), (66, .ireturn, 0, 0, .null), (67, .aload_n 0, 0, 0, .null), (68, .bipush 23, 0, 0, .int 23), (70, .invokevirtual 69, 82, 1, .ref 5), (73, .aload_n 0, 0, 0, .null), (74, .bipush 20, 0, 0, .int 20), (76, .invokevirtual 69, 82, 1, .ref 5), (79, .bipush 60, 0, 0, .int 60), (81, .ireturn, 0, 0, .null), (82, .aload_n 0, 0, 0, .null), (83, .bipush 20, 0, 0, .int 20), (85, .invokevirtual 69, 82, 1, .ref 5), (88, .bipush 30, 0, 0, .int 30), (90, .ireturn, 0, 0, .null)]
def v_Ships_keelOf : List (Nat × List Nat) := [(0, [0, 1])]
def s_Ships_keelOf : List (Nat × Nat × List Op) := [(0, 91, o_Ships_keelOf_0)]
set_option maxRecDepth 100000 in
theorem k_Ships_keelOf : MOk P_Ships s_Ships_keelOf 86 2 := ⟨P_Ships_ok, _, rfl, rfl, rfl, by decide +kernel⟩
def o_Ships_paceOf_0 : List Op := [(0, .aload_n 0, 0, 0, .null), (1, .getfield 9, 5, 0, .null), (4, .iload_n 1, 1, 0, .null), (5, .iaload, 0, 0, .null), (6, .iconst 2, 0, 0, .int 2), (7, .if_icmp .eq 16, 23, 0, .null), (10, .aload_n 0, 0, 0, .null), (11, .bipush 30, 0, 0, .int 30), (13, .invokevirtual 69, 82, 1, .ref 5), (16, .aload_n 0, 0, 0, .null), (17, .getfield 18, 5, 2, .null), (20, .iload_n 1, 1, 0, .null), (21, .iaload, 0, 0, .null), (22, .ireturn, 0, 0, .null), (23, .aload_n 0, 0, 0, .null), (24, .bipush 31, 0, 0, .int 31), (26, .invokevirtual 69, 82, 1, .ref 5), (29, .aload_n 0, 0, 0, .null), (30, .bipush 30, 0, 0, .int 30), (32, .invokevirtual 69, 82, 1, .ref 5), (35, .aload_n 0, 0, 0, .null), (36, .getfield 21, 5, 3, .null), (39, .iload_n 1, 1, 0, .null), (40, .iaload, 0, 0, .null), (41, .ifCond .ne 10, 51, 0, .null), (44, .aload_n 0, 0, 0, .null), (45, .iconst 4, 0, 0, .int 4), (46, .putfield 50, 5, 10, .null), (49, .iconst 0, 0, 0, .int 0), (50, .ireturn, 0, 0, .null), (51, .aload_n 0, 0, 0, .null), (52, .getfield 18, 5, 2, .null), (55, .iload_n 1, 1, 0, .null), (56, .iaload, 0, 0, .null), (57, .aload_n 0, 0, 0, .null), (58, .getfield 21, 5, 3, .null), (61, .iload_n 1, 1, 0, .null), (62, .iaload, 0, 0, .null), (63, .idiv, 0, 0, .null), (64, .ireturn, 0, 0, .null)]
def v_Ships_paceOf : List (Nat × List Nat) := [(0, [0, 1])]
def s_Ships_paceOf : List (Nat × Nat × List Op) := [(0, 65, o_Ships_paceOf_0)]
set_option maxRecDepth 100000 in
theorem k_Ships_paceOf : MOk P_Ships s_Ships_paceOf 87 2 := ⟨P_Ships_ok, _, rfl, rfl, rfl, by decide +kernel⟩
end
section
def o_Ships_patienceOf_0 : List Op := [(0, .aload_n 0, 0, 0, .null), (1, .getfield 9, 5, 0, .null), (4, .iload_n 1, 1, 0, .null), (5, .iaload, 0, 0, .null), (6, .lookupswitch 57 #[(1, 26), (3, 35)], 0, 0, .null), (32, .aload_n 0, 0, 0, .null), (33, .bipush 41, 0, 0, .int 41), (35, .invokevirtual 69, 82, 1, .ref 5), (38, .bipush 30, 0, 0, .int 30), (40, .ireturn, 0, 0, .null), (41, .aload_n 0, 0, 0, .null), (42, .bipush 42, 0, 0, .int 42), (44, .invokevirtual 69, 82, 1, .ref 5), (47, .aload_n 0, 0, 0, .null), (48, .bipush 41, 0, 0, .int 41), (50, .invokevirtual 69, 82, 1, .ref 5), (53, .bipush 30, 0, 0, .int 30), (55, .aload_n 0, 0, 0, .null), (56, .getfield 21, 5, 3, .null), (59, .iload_n 1, 1, 0, .null), (60, .iaload, 0, 0, .null), (61, .isub, 0, 0, .null), (62, .ireturn, 0, 0, .null), (63, .aload_n 0, 0, 0, .null), (64, .bipush 40, 0, 0, .int 40), (66, .invokevirtual 69, 82, 1, .ref 5), (69, .bipush 60, 0, 0, .int 60), (71, .ireturn, 0, 0, .null)]
def v_Ships_patienceOf : List (Nat × List Nat) := [(0, [0, 1])]
def s_Ships_patienceOf : List (Nat × Nat × List Op) := [(0, 72, o_Ships_patienceOf_0)]
set_option maxRecDepth 100000 in
theorem k_Ships_patienceOf : MOk P_Ships s_Ships_patienceOf 88 2 := ⟨P_Ships_ok, _, rfl, rfl, rfl, by decide +kernel⟩
def o_X_asked_0 : List Op := [(0, .aload_n 0, 0, 0, .null), (1, .getfield 291, 11, 12, .null), (4, .ireturn, 0, 0, .null)]
def v_X_asked : List (Nat × List Nat) := [(0, [0])]
def s_X_asked : List (Nat × Nat × List Op) := [(0, 5, o_X_asked_0)]
set_option maxRecDepth 100000 in
theorem k_X_asked : MOk P_X s_X_asked 89 1 := ⟨P_X_ok, _, rfl, rfl, rfl, by decide +kernel⟩
def o_X_trace_0 : List Op := [(0, .iload_n 1, 1, 0, .null), (1, .iconst 0, 0, 0, .int 0), (2, .aload_n 0, 0, 0, .null), (3, .getfield 59, 11, 5, .null), (6, .getfield 282, 5, 8, .null), (9, .iconst 1, 0, 0, .int 1), (10, .isub, 0, 0, .null), (11, .invokestatic 107, 4, 3, .ref 0), (14, .ifCond .eq 15, 29, 0, .null), (17, .aload_n 0, 0, 0, .null), (18, .getfield 59, 11, 5, .null), (21, .getfield 294, 5, 7, .null), (24, .iload_n 1, 1, 0, .null), (25, .iaload, 0, 0, .null), (26, .goto 4, 30, 0, .null), (29, .iconst (-1), 0, 0, .int (-1)), (30, .ireturn, 0, 0, .null)]
def v_X_trace : List (Nat × List Nat) := [(0, [0, 1])]
def s_X_trace : List (Nat × Nat × List Op) := [(0, 31, o_X_trace_0)]
set_option maxRecDepth 100000 in
theorem k_X_trace : MOk P_X s_X_trace 90 2 := ⟨P_X_ok, _, rfl, rfl, rfl, by decide +kernel⟩
def o_X_as_0 : List Op := [(0, .aload_n 0, 0, 0, .null), (1, .iload_n 1, 1, 0, .null), (2, .invokevirtual 276, 76, 1, .ref 11), (5, .ifCond .eq 12, 17, 0, .null), (8, .iload_n 2, 2, 0, .null), (9, .iconst 0, 0, 0, .int 0), (10, .iconst 4, 0, 0, .int 4), (11, .invokestatic 107, 4, 3, .ref 0), (14, .ifCond .ne 6, 20, 0, .null), (17, .bipush (-2), 0, 0, .int (-2)), (19, .ireturn, 0, 0, .null), (20, .aload_n 0, 0, 0, .null), (21, .getfield 39, 11, 0, .null), (24, .invokevirtual 140, 16, 0, .ref 0), (27, .ifCond .eq 6, 33, 0, .null), (30, .bipush (-4), 0, 0, .int (-4)), (32, .ireturn, 0, 0, .null), (33, .iload_n 1, 1, 0, .null), (34, .iconst (-1), 0, 0, .int (-1)), (35, .if_icmp .ne 12, 47, 0, .null), (38, .aload_n 0, 0, 0, .null), (39, .getfield 39, 11, 0, .null), (42, .iconst 1, 0, 0, .int 1), (43, .invokevirtual 149, 18, 1, .ref 0), (46, .ireturn, 0, 0, .null), (47, .aload_n 0, 0, 0, .null), (48, .getfield 59, 11, 5, .null), (51, .iload_n 1, 1, 0, .null), (52, .iload_n 2, 2, 0, .null), (53, .invokevirtual 297, 85, 2, .ref 5), (56, .ifCond .ne 12, 68, 0, .null), (59, .aload_n 0, 0, 0, .null), (60, .getfield 39, 11, 0, .null), (63, .iconst 3, 0, 0, .int 3), (64, .invokevirtual 149, 18, 1, .ref 0), (67, .ireturn, 0, 0, .null), (68, .aload_n 0, 0, 0, .null), (69, .aload_n 0, 0, 0, .null), (70, .getfield 59, 11, 5, .null), (73, .getfield 300, 5, 3, .null), (76, .iload_n 1, 1, 0, .null), (77, .iaload, 0, 0, .null), (78, .putfield 291, 11, 12, .null), (81, .iconst 1, 0, 0, .int 1), (82, .ireturn, 0, 0, .null)]
def v_X_as : List (Nat × List Nat) := [(0, [0, 1, 2])]
def s_X_as : List (Nat × Nat × List Op) := [(0, 83, o_X_as_0)]
set_option maxRecDepth 100000 in
theorem k_X_as : MOk P_X s_X_as 91 3 := ⟨P_X_ok, _, rfl, rfl, rfl, by decide +kernel⟩
def o_X_fleet_0 : List Op := [(0, .iload_n 1, 1, 0, .null), (1, .invokestatic 303, 93, 1, .ref 0), (4, .ifCond .eq 18, 22, 0, .null), (7, .iload_n 2, 2, 0, .null), (8, .iconst 0, 0, 0, .int 0), (9, .iconst 5, 0, 0, .int 5), (10, .invokestatic 107, 4, 3, .ref 0), (13, .ifCond .eq 9, 22, 0, .null), (16, .iload_n 3, 3, 0, .null), (17, .bipush 8, 0, 0, .int 8), (19, .if_icmp .le 6, 25, 0, .null), (22, .bipush (-2), 0, 0, .int (-2)), (24, .ireturn, 0, 0, .null), (25, .aload_n 0, 0, 0, .null), (26, .getfield 39, 11, 0, .null), (29, .invokevirtual 140, 16, 0, .ref 0), (32, .ifCond .eq 6, 38, 0, .null), (35, .bipush (-4), 0, 0, .int (-4)), (37, .ireturn, 0, 0, .null), (38, .iload_n 3, 3, 0, .null), (39, .ifCond .ge 12, 51, 0, .null), (42, .aload_n 0, 0, 0, .null), (43, .getfield 39, 11, 0, .null), (46, .iconst 5, 0, 0, .int 5), (47, .invokevirtual 149, 18, 1, .ref 0), (50, .ireturn, 0, 0, .null), (51, .aload_n 0, 0, 0, .null), (52, .getfield 68, 11, 6, .null), (55, .iload_n 1, 1, 0, .null), (56, .iload_n 2, 2, 0, .null), (57, .iload_n 3, 3, 0, .null), (58, .invokevirtual 306, 94, 3, .ref 1), (61, .iconst 1, 0, 0, .int 1), (62, .ireturn, 0, 0, .null)]
def v_X_fleet : List (Nat × List Nat) := [(0, [0, 1, 2, 3])]
def s_X_fleet : List (Nat × Nat × List Op) := [(0, 63, o_X_fleet_0)]
set_option maxRecDepth 100000 in
theorem k_X_fleet : MOk P_X s_X_fleet 92 4 := ⟨P_X_ok, _, rfl, rfl, rfl, by decide +kernel⟩
def o_X_isFleet_0 : List Op := [(0, .iload_n 0, 0, 0, .null), (1, .ifCond .lt 12, 13, 0, .null), (4, .iload_n 0, 0, 0, .null), (5, .iconst 4, 0, 0, .int 4), (6, .if_icmp .ge 7, 13, 0, .null), (9, .iconst 1, 0, 0, .int 1), (10, .goto 4, 14, 0, .null), (13, .iconst 0, 0, 0, .int 0), (14, .ireturn, 1, 0, .null)]
def v_X_isFleet : List (Nat × List Nat) := [(0, [0])]
def s_X_isFleet : List (Nat × Nat × List Op) := [(0, 15, o_X_isFleet_0)]
set_option maxRecDepth 100000 in
theorem k_X_isFleet : MOk P_X s_X_isFleet 93 1 := ⟨P_X_ok, _, rfl, rfl, rfl, by decide +kernel⟩
def o_Fleets_make_0 : List Op := [(0, .aload_n 0, 0, 0, .null), (1, .getfield 9, 1, 1, .null), (4, .iload_n 1, 1, 0, .null), (5, .iconst 1, 0, 0, .int 1), (6, .bastore, 0, 0, .null), (7, .aload_n 0, 0, 0, .null), (8, .getfield 15, 1, 2, .null), (11, .iload_n 1, 1, 0, .null), (12, .iload_n 2, 2, 0, .null), (13, .iastore, 0, 0, .null), (14, .aload_n 0, 0, 0, .null), (15, .getfield 19, 1, 3, .null), (18, .iload_n 1, 1, 0, .null), (19, .iload_n 3, 3, 0, .null), (20, .iastore, 0, 0, .null), (21, .iconst 0, 0, 0, .int 0), (22, .istore 4, 4, 0, .null)]
def o_Fleets_make_1 : List Op := [(24, .iload 4, 4, 0, .null), (26, .iload_n 3, 3, 0, .null), (27, .if_icmp .ge 22, 49, 0, .null), (30, .aload_n 0, 0, 0, .null), (31, .getfield 22, 1, 4, .null), (34, .iload_n 1, 1, 0, .null), (35, .bipush 8, 0, 0, .int 8), (37, .imul, 0, 0, .null), (38, .iload 4, 4, 0, .null), (40, .iadd, 0, 0, .null), (41, .iconst (-1), 0, 0, .int (-1)), (42, .iastore, 0, 0, .null), (43, .iinc 4 1, 4, 0, .int 1), (46, .goto (-22), 24, 0, .null), (49, .return_, 0, 0, .null)]
def v_Fleets_make : List (Nat × List Nat) := [(0, [0, 1, 2, 3]), (24, [0, 1, 3, 4])]
def s_Fleets_make : List (Nat × Nat × List Op) := [(0, 24, o_Fleets_make_0), (24, 50, o_Fleets_make_1)]
set_option maxRecDepth 100000 in
theorem k_Fleets_make : MOk P_Fleets s_Fleets_make 94 5 := ⟨P_Fleets_ok, _, rfl, rfl, rfl, by decide +kernel⟩
def o_X_join_0 : List Op := [(0, .iload_n 1, 1, 0, .null), (1, .invokestatic 303, 93, 1, .ref 0), (4, .ifCond .eq 11, 15, 0, .null), (7, .aload_n 0, 0, 0, .null), (8, .iload_n 3, 3, 0, .null), (9, .invokevirtual 276, 76, 1, .ref 11), (12, .ifCond .ne 6, 18, 0, .null), (15, .bipush (-2), 0, 0, .int (-2)), (17, .ireturn, 0, 0, .null), (18, .aload_n 0, 0, 0, .null), (19, .getfield 39, 11, 0, .null), (22, .invokevirtual 140, 16, 0, .ref 0), (25, .ifCond .eq 6, 31, 0, .null), (28, .bipush (-4), 0, 0, .int (-4)), (30, .ireturn, 0, 0, .null), (31, .aload_n 0, 0, 0, .null), (32, .getfield 68, 11, 6, .null), (35, .iload_n 1, 1, 0, .null), (36, .iload_n 2, 2, 0, .null), (37, .invokevirtual 310, 96, 2, .ref 1), (40, .istore 4, 4, 0, .null), (42, .iload 4, 4, 0, .null), (44, .ifCond .ne 19, 63, 0, .null), (47, .aload_n 0, 0, 0, .null), (48, .getfield 68, 11, 6, .null), (51, .iload_n 1, 1, 0, .null), (52, .iload_n 3, 3, 0, .null), (53, .invokevirtual 311, 97, 2, .ref 1), (56, .ifCond .ne 7, 63, 0, .null), (59, .bipush 6, 0, 0, .int 6), (61, .istore 4, 4, 0, .null), (63, .iload 4, 4, 0, .null), (65, .ifCond .eq 13, 78, 0, .null), (68, .aload_n 0, 0, 0, .null), (69, .getfield 39, 11, 0, .null), (72, .iload 4, 4, 0, .null), (74, .invokevirtual 149, 18, 1, .ref 0), (77, .ireturn, 0, 0, .null), (78, .aload_n 0, 0, 0, .null), (79, .getfield 68, 11, 6, .null), (82, .getfield 314, 1, 4, .null), (85, .iload_n 1, 1, 0, .null), (86, .bipush 8, 0, 0, .int 8), (88, .imul, 0, 0, .null), (89, .iload_n 2, 2, 0, .null), (90, .iadd, 0, 0, .null), (91, .iload_n 3, 3, 0, .null), (92, .iastore, 0, 0, .null), (93, .iconst 1, 0, 0, .int 1), (94, .ireturn, 0, 0, .null)]
def v_X_join : List (Nat × List Nat) := [(0, [0, 1, 2, 3])]
def s_X_join : List (Nat × Nat × List Op) := [(0, 95, o_X_join_0)]
set_option maxRecDepth 100000 in
theorem k_X_join : MOk P_X s_X_join 95 5 := ⟨P_X_ok, _, rfl, rfl, rfl, by decide +kernel⟩
def o_Fleets_faultAt_0 : List Op := [(0, .aload_n 0, 0, 0, .null), (1, .getfield 9, 1, 1, .null), (4, .iload_n 1, 1, 0, .null), (5, .baload, 0, 0, .null), (6, .ifCond .ne 5, 11, 0, .null), (9, .iconst 1, 0, 0, .int 1), (10, .ireturn, 0, 0, .null), (11, .iload_n 2, 2, 0, .null), (12, .ifCond .lt 13, 25, 0, .null), (15, .iload_n 2, 2, 0, .null), (16, .aload_n 0, 0, 0, .null), (17, .getfield 19, 1, 3, .null), (20, .iload_n 1, 1, 0, .null), (21, .iaload, 0, 0, .null), (22, .if_icmp .lt 7, 29, 0, .null), (25, .iconst 2, 0, 0, .int 2), (26, .goto 4, 30, 0, .null), (29, .iconst 0, 0, 0, .int 0), (30, .ireturn, 0, 0, .null)]
def v_Fleets_faultAt : List (Nat × List Nat) := [(0, [0, 1, 2])]
def s_Fleets_faultAt : List (Nat × Nat × List Op) := [(0, 31, o_Fleets_faultAt_0)]
set_option maxRecDepth 100000 in
theorem k_Fleets_faultAt : MOk P_Fleets s_Fleets_faultAt 96 3 := ⟨P_Fleets_ok, _, rfl, rfl, rfl, by decide +kernel⟩
def o_Fleets_takes_0 : List Op := [(0, .iload_n 2, 2, 0, .null), (1, .iconst (-1), 0, 0, .int (-1)), (2, .if_icmp .eq 30, 32, 0, .null), (5, .aload_n 0, 0, 0, .null), (6, .getfield 15, 1, 2, .null), (9, .iload_n 1, 1, 0, .null), (10, .iaload, 0, 0, .null), (11, .iconst 5, 0, 0, .int 5), (12, .if_icmp .eq 20, 32, 0, .null), (15, .aload_n 0, 0, 0, .null), (16, .getfield 28, 1, 0, .null), (19, .iload_n 2, 2, 0, .null), (20, .aload_n 0, 0, 0, .null), (21, .getfield 15, 1, 2, .null), (24, .iload_n 1, 1, 0, .null), (25, .iaload, 0, 0, .null), (26, .invokevirtual 32, 85, 2, .ref 5), (29, .ifCond .eq 7, 36, 0, .null), (32, .iconst 1, 0, 0, .int 1), (33, .goto 4, 37, 0, .null), (36, .iconst 0, 0, 0, .int 0), (37, .ireturn, 1, 0, .null)]
def v_Fleets_takes : List (Nat × List Nat) := [(0, [0, 1, 2])]
def s_Fleets_takes : List (Nat × Nat × List Op) := [(0, 38, o_Fleets_takes_0)]
set_option maxRecDepth 100000 in
theorem k_Fleets_takes : MOk P_Fleets s_Fleets_takes 97 3 := ⟨P_Fleets_ok, _, rfl, rfl, rfl, by decide +kernel⟩
def o_X_member_0 : List Op := [(0, .iload_n 1, 1, 0, .null), (1, .invokestatic 303, 93, 1, .ref 0), (4, .ifCond .ne 6, 10, 0, .null), (7, .bipush (-2), 0, 0, .int (-2)), (9, .ireturn, 0, 0, .null), (10, .aload_n 0, 0, 0, .null), (11, .getfield 39, 11, 0, .null), (14, .invokevirtual 140, 16, 0, .ref 0), (17, .ifCond .eq 6, 23, 0, .null), (20, .bipush (-4), 0, 0, .int (-4)), (22, .ireturn, 0, 0, .null), (23, .aload_n 0, 0, 0, .null), (24, .getfield 68, 11, 6, .null), (27, .iload_n 1, 1, 0, .null), (28, .iload_n 2, 2, 0, .null), (29, .invokevirtual 310, 96, 2, .ref 1), (32, .istore_n 3, 3, 0, .null), (33, .iload_n 3, 3, 0, .null), (34, .ifCond .eq 14, 48, 0, .null), (37, .aload_n 0, 0, 0, .null), (38, .getfield 39, 11, 0, .null), (41, .iload_n 3, 3, 0, .null), (42, .invokevirtual 149, 18, 1, .ref 0), (45, .goto 17, 62, 0, .null), (48, .aload_n 0, 0, 0, .null), (49, .getfield 68, 11, 6, .null), (52, .getfield 314, 1, 4, .null), (55, .iload_n 1, 1, 0, .null), (56, .bipush 8, 0, 0, .int 8), (58, .imul, 0, 0, .null), (59, .iload_n 2, 2, 0, .null), (60, .iadd, 0, 0, .null), (61, .iaload, 0, 0, .null), (62, .ireturn, 0, 0, .null)]
def v_X_member : List (Nat × List Nat) := [(0, [0, 1, 2])]
def s_X_member : List (Nat × Nat × List Op) := [(0, 63, o_X_member_0)]
set_option maxRecDepth 100000 in
theorem k_X_member : MOk P_X s_X_member 98 4 := ⟨P_X_ok, _, rfl, rfl, rfl, by decide +kernel⟩
def o_X_move_0 : List Op := [(0, .iload_n 1, 1, 0, .null), (1, .invokestatic 303, 93, 1, .ref 0), (4, .ifCond .eq 10, 14, 0, .null), (7, .iload_n 3, 3, 0, .null), (8, .invokestatic 303, 93, 1, .ref 0), (11, .ifCond .ne 6, 17, 0, .null), (14, .bipush (-2), 0, 0, .int (-2)), (16, .ireturn, 0, 0, .null), (17, .aload_n 0, 0, 0, .null), (18, .getfield 39, 11, 0, .null), (21, .invokevirtual 140, 16, 0, .ref 0), (24, .ifCond .eq 6, 30, 0, .null), (27, .bipush (-4), 0, 0, .int (-4)), (29, .ireturn, 0, 0, .null), (30, .aload_n 0, 0, 0, .null), (31, .getfield 68, 11, 6, .null), (34, .iload_n 1, 1, 0, .null), (35, .invokevirtual 317, 100, 1, .ref 1), (38, .ifCond .ne 14, 52, 0, .null), (41, .aload_n 0, 0, 0, .null), (42, .getfield 68, 11, 6, .null), (45, .iload_n 3, 3, 0, .null), (46, .invokevirtual 317, 100, 1, .ref 1), (49, .ifCond .eq 12, 61, 0, .null), (52, .aload_n 0, 0, 0, .null), (53, .getfield 39, 11, 0, .null), (56, .iconst 1, 0, 0, .int 1), (57, .invokevirtual 149, 18, 1, .ref 0), (60, .ireturn, 0, 0, .null), (61, .aload_n 0, 0, 0, .null), (62, .getfield 68, 11, 6, .null), (65, .iload_n 1, 1, 0, .null), (66, .iload_n 2, 2, 0, .null), (67, .iload 5, 5, 0, .null), (69, .invokevirtual 320, 101, 3, .ref 1), (72, .ifCond .eq 18, 90, 0, .null), (75, .aload_n 0, 0, 0, .null), (76, .getfield 68, 11, 6, .null), (79, .iload_n 3, 3, 0, .null), (80, .iload 4, 4, 0, .null), (82, .iload 5, 5, 0, .null), (84, .invokevirtual 320, 101, 3, .ref 1), (87, .ifCond .ne 12, 99, 0, .null), (90, .aload_n 0, 0, 0, .null), (91, .getfield 39, 11, 0, .null), (94, .iconst 2, 0, 0, .int 2), (95, .invokevirtual 149, 18, 1, .ref 0), (98, .ireturn, 0, 0, .null), (99, .aload_n 0, 0, 0, .null), (100, .getfield 68, 11, 6, .null), (103, .iload_n 1, 1, 0, .null), (104, .bipush 8, 0, 0, .int 8), (106, .imul, 0, 0, .null), (107, .iload_n 2, 2, 0, .null), (108, .iadd, 0, 0, .null), (109, .iload_n 3, 3, 0, .null), (110, .iload 4, 4, 0, .null), (112, .iload 5, 5, 0, .null), (114, .invokevirtual 323, 102, 4, .ref 1), (117, .ifCond .eq 8, 125, 0, .null), (120, .iload 5, 5, 0, .null), (122, .goto 12, 134, 0, .null), (125, .aload_n 0, 0, 0, .null), (126, .getfield 39, 11, 0, .null), (129, .bipush 6, 0, 0, .int 6), (131, .invokevirtual 149, 18, 1, .ref 0), (134, .ireturn, 0, 0, .null)]
def v_X_move : List (Nat × List Nat) := [(0, [0, 1, 2, 3, 4, 5])]
def s_X_move : List (Nat × Nat × List Op) := [(0, 135, o_X_move_0)]
set_option maxRecDepth 100000 in
theorem k_X_move : MOk P_X s_X_move 99 6 := ⟨P_X_ok, _, rfl, rfl, rfl, by decide +kernel⟩
def o_Fleets_isNothing_0 : List Op := [(0, .aload_n 0, 0, 0, .null), (1, .getfield 9, 1, 1, .null), (4, .iload_n 1, 1, 0, .null), (5, .baload, 0, 0, .null), (6, .ifCond .ne 7, 13, 0, .null), (9, .iconst 1, 0, 0, .int 1), (10, .goto 4, 14, 0, .null), (13, .iconst 0, 0, 0, .int 0), (14, .ireturn, 1, 0, .null)]
def v_Fleets_isNothing : List (Nat × List Nat) := [(0, [0, 1])]
def s_Fleets_isNothing : List (Nat × Nat × List Op) := [(0, 15, o_Fleets_isNothing_0)]
set_option maxRecDepth 100000 in
theorem k_Fleets_isNothing : MOk P_Fleets s_Fleets_isNothing 100 2 := ⟨P_Fleets_ok, _, rfl, rfl, rfl, by decide +kernel⟩
def o_Fleets_hasSpan_0 : List Op := [(0, .iload_n 2, 2, 0, .null), (1, .ifCond .lt 33, 34, 0, .null), (4, .iload_n 3, 3, 0, .null), (5, .ifCond .lt 29, 34, 0, .null), (8, .iload_n 2, 2, 0, .null), (9, .aload_n 0, 0, 0, .null), (10, .getfield 19, 1, 3, .null), (13, .iload_n 1, 1, 0, .null), (14, .iaload, 0, 0, .null), (15, .if_icmp .gt 19, 34, 0, .null), (18, .iload_n 3, 3, 0, .null), (19, .aload_n 0, 0, 0, .null), (20, .getfield 19, 1, 3, .null), (23, .iload_n 1, 1, 0, .null), (24, .iaload, 0, 0, .null), (25, .iload_n 2, 2, 0, .null), (26, .isub, 0, 0, .null), (27, .if_icmp .gt 7, 34, 0, .null), (30, .iconst 1, 0, 0, .int 1), (31, .goto 4, 35, 0, .null), (34, .iconst 0, 0, 0, .int 0), (35, .ireturn, 1, 0, .null)]
def v_Fleets_hasSpan : List (Nat × List Nat) := [(0, [0, 1, 2, 3])]
def s_Fleets_hasSpan : List (Nat × Nat × List Op) := [(0, 36, o_Fleets_hasSpan_0)]
set_option maxRecDepth 100000 in
theorem k_Fleets_hasSpan : MOk P_Fleets s_Fleets_hasSpan 101 4 := ⟨P_Fleets_ok, _, rfl, rfl, rfl, by decide +kernel⟩
def o_Fleets_copy_0 : List Op := [(0, .iconst 0, 0, 0, .int 0), (1, .istore 5, 5, 0, .null)]
def o_Fleets_copy_1 : List Op := [(3, .iload 5, 5, 0, .null), (5, .iload 4, 4, 0, .null), (7, .if_icmp .ge 25, 32, 0, .null), (10, .aload_n 0, 0, 0, .null), (11, .getfield 25, 1, 5, .null), (14, .iload 5, 5, 0, .null), (16, .aload_n 0, 0, 0, .null), (17, .getfield 22, 1, 4, .null), (20, .iload_n 1, 1, 0, .null), (21, .iload 5, 5, 0, .null), (23, .iadd, 0, 0, .null), (24, .iaload, 0, 0, .null), (25, .iastore, 0, 0, .null), (26, .iinc 5 1, 5, 0, .int 1), (29, .goto (-26), 3, 0, .null), (32, .iconst 0, 0, 0, .int 0), (33, .istore 5, 5, 0, .null)]
def o_Fleets_copy_2 : List Op := [(35, .iload 5, 5, 0, .null), (37, .iload 4, 4, 0, .null), (39, .if_icmp .ge 47, 86, 0, .null), (42, .aload_n 0, 0, 0, .null), (43, .iload_n 2, 2, 0, .null), (44, .aload_n 0, 0, 0, .null), (45, .getfield 25, 1, 5, .null), (48, .iload 5, 5, 0, .null), (50, .iaload, 0, 0, .null), (51, .invokevirtual 38, 97, 2, .ref 1), (54, .ifCond .ne 5, 59, 0, .null), (57, .iconst 0, 0, 0, .int 0), (58, .ireturn, 1, 0, .null), (59, .aload_n 0, 0, 0, .null), (60, .getfield 22, 1, 4, .null), (63, .iload_n 2, 2, 0, .null), (64, .bipush 8, 0, 0, .int 8), (66, .imul, 0, 0, .null), (67, .iload_n 3, 3, 0, .null), (68, .iadd, 0, 0, .null), (69, .iload 5, 5, 0, .null), (71, .iadd, 0, 0, .null), (72, .aload_n 0, 0, 0, .null), (73, .getfield 25, 1, 5, .null), (76, .iload 5, 5, 0, .null), (78, .iaload, 0, 0, .null), (79, .iastore, 0, 0, .null), (80, .iinc 5 1, 5, 0, .int 1), (83, .goto (-48), 35, 0, .null), (86, .iconst 1, 0, 0, .int 1), (87, .ireturn, 1, 0, .null)]
def v_Fleets_copy : List (Nat × List Nat) := [(0, [0, 1, 2, 3, 4]), (3, [0, 1, 2, 3, 4, 5]), (35, [0, 2, 3, 4, 5])]
def s_Fleets_copy : List (Nat × Nat × List Op) := [(0, 3, o_Fleets_copy_0), (3, 35, o_Fleets_copy_1), (35, 88, o_Fleets_copy_2)]
set_option maxRecDepth 100000 in
theorem k_Fleets_copy : MOk P_Fleets s_Fleets_copy 102 6 := ⟨P_Fleets_ok, _, rfl, rfl, rfl, by decide +kernel⟩
def o_X_shared_0 : List Op := [(0, .iload_n 1, 1, 0, .null), (1, .invokestatic 303, 93, 1, .ref 0), (4, .ifCond .eq 14, 18, 0, .null), (7, .iload_n 2, 2, 0, .null), (8, .iconst 0, 0, 0, .int 0), (9, .ldc_w 326, 0, 0, .int 1000000), (12, .invokestatic 107, 4, 3, .ref 0), (15, .ifCond .ne 6, 21, 0, .null), (18, .bipush (-2), 0, 0, .int (-2)), (20, .ireturn, 0, 0, .null), (21, .aload_n 0, 0, 0, .null), (22, .getfield 39, 11, 0, .null), (25, .invokevirtual 140, 16, 0, .ref 0), (28, .ifCond .eq 6, 34, 0, .null), (31, .bipush (-4), 0, 0, .int (-4)), (33, .ireturn, 0, 0, .null), (34, .aload_n 0, 0, 0, .null), (35, .getfield 68, 11, 6, .null), (38, .iload_n 1, 1, 0, .null), (39, .invokevirtual 317, 100, 1, .ref 1), (42, .ifCond .eq 12, 54, 0, .null), (45, .aload_n 0, 0, 0, .null), (46, .getfield 39, 11, 0, .null), (49, .iconst 1, 0, 0, .int 1), (50, .invokevirtual 149, 18, 1, .ref 0), (53, .ireturn, 0, 0, .null), (54, .aload_n 0, 0, 0, .null), (55, .getfield 68, 11, 6, .null), (58, .iload_n 1, 1, 0, .null), (59, .invokevirtual 327, 104, 1, .ref 1), (62, .istore_n 3, 3, 0, .null), (63, .iload_n 3, 3, 0, .null), (64, .ifCond .ne 12, 76, 0, .null), (67, .aload_n 0, 0, 0, .null), (68, .getfield 39, 11, 0, .null), (71, .iconst 4, 0, 0, .int 4), (72, .invokevirtual 149, 18, 1, .ref 0), (75, .ireturn, 0, 0, .null), (76, .aload_n 0, 0, 0, .null), (77, .iload_n 2, 2, 0, .null), (78, .iload_n 3, 3, 0, .null), (79, .idiv, 0, 0, .null), (80, .putfield 291, 11, 12, .null), (83, .iconst 1, 0, 0, .int 1), (84, .ireturn, 0, 0, .null)]
def v_X_shared : List (Nat × List Nat) := [(0, [0, 1, 2])]
def s_X_shared : List (Nat × Nat × List Op) := [(0, 85, o_X_shared_0)]
set_option maxRecDepth 100000 in
theorem k_X_shared : MOk P_X s_X_shared 103 4 := ⟨P_X_ok, _, rfl, rfl, rfl, by decide +kernel⟩
def o_Fleets_standing_0 : List Op := [(0, .iconst 0, 0, 0, .int 0), (1, .istore_n 2, 2, 0, .null), (2, .iconst 0, 0, 0, .int 0), (3, .istore_n 3, 3, 0, .null)]
def o_Fleets_standing_1 : List Op := [(4, .iload_n 3, 3, 0, .null), (5, .aload_n 0, 0, 0, .null), (6, .getfield 19, 1, 3, .null), (9, .iload_n 1, 1, 0, .null), (10, .iaload, 0, 0, .null), (11, .if_icmp .ge 27, 38, 0, .null), (14, .aload_n 0, 0, 0, .null), (15, .getfield 22, 1, 4, .null), (18, .iload_n 1, 1, 0, .null), (19, .bipush 8, 0, 0, .int 8), (21, .imul, 0, 0, .null), (22, .iload_n 3, 3, 0, .null), (23, .iadd, 0, 0, .null), (24, .iaload, 0, 0, .null), (25, .iconst (-1), 0, 0, .int (-1)), (26, .if_icmp .eq 6, 32, 0, .null), (29, .iinc 2 1, 2, 0, .int 1), (32, .iinc 3 1, 3, 0, .int 1), (35, .goto (-31), 4, 0, .null), (38, .iload_n 2, 2, 0, .null), (39, .ireturn, 0, 0, .null)]
def v_Fleets_standing : List (Nat × List Nat) := [(0, [0, 1]), (4, [0, 1, 2, 3])]
def s_Fleets_standing : List (Nat × Nat × List Op) := [(0, 4, o_Fleets_standing_0), (4, 40, o_Fleets_standing_1)]
set_option maxRecDepth 100000 in
theorem k_Fleets_standing : MOk P_Fleets s_Fleets_standing 104 4 := ⟨P_Fleets_ok, _, rfl, rfl, rfl, by decide +kernel⟩
def o_X_leg_0 : List Op := [(0, .iload_n 1, 1, 0, .null), (1, .invokestatic 330, 106, 1, .ref 0), (4, .ifCond .eq 37, 41, 0, .null), (7, .aload_n 0, 0, 0, .null), (8, .iload_n 2, 2, 0, .null), (9, .invokevirtual 224, 46, 1, .ref 11), (12, .ifCond .eq 29, 41, 0, .null), (15, .iload 4, 4, 0, .null), (17, .invokestatic 333, 107, 1, .ref 0), (20, .ifCond .eq 21, 41, 0, .null), (23, .iload_n 3, 3, 0, .null), (24, .aload_n 0, 0, 0, .null), (25, .getfield 72, 11, 7, .null), (28, .iload_n 1, 1, 0, .null), (29, .invokevirtual 336, 108, 1, .ref 4), (32, .ldc_w 339, 0, 0, .int 50000), (35, .invokestatic 107, 4, 3, .ref 0), (38, .ifCond .ne 6, 44, 0, .null), (41, .bipush (-2), 0, 0, .int (-2)), (43, .ireturn, 0, 0, .null), (44, .aload_n 0, 0, 0, .null), (45, .getfield 92, 11, 10, .null), (48, .iload_n 1, 1, 0, .null), (49, .invokevirtual 340, 109, 1, .ref 3), (52, .ifCond .eq 6, 58, 0, .null), (55, .bipush (-3), 0, 0, .int (-3)), (57, .ireturn, 0, 0, .null), (58, .aload_n 0, 0, 0, .null), (59, .getfield 72, 11, 7, .null), (62, .iload_n 1, 1, 0, .null), (63, .iload_n 2, 2, 0, .null), (64, .iload_n 3, 3, 0, .null), (65, .iload 4, 4, 0, .null), (67, .invokestatic 177, 26, 1, .ref 0), (70, .ifCond .eq 8, 78, 0, .null), (73, .ldc 180, 0, 0, .int 2143289344), (75, .goto 5, 80, 0, .null), (78, .iload 4, 4, 0, .null), (80, .invokevirtual 343, 110, 4, .ref 4), (83, .ireturn, 0, 0, .null)]
def v_X_leg : List (Nat × List Nat) := [(0, [0, 1, 2, 3, 4])]
def s_X_leg : List (Nat × Nat × List Op) := [(0, 84, o_X_leg_0)]
set_option maxRecDepth 100000 in
theorem k_X_leg : MOk P_X s_X_leg 105 5 := ⟨P_X_ok, _, rfl, rfl, rfl, by decide +kernel⟩
def o_X_isRoute_0 : List Op := [(0, .iload_n 0, 0, 0, .null), (1, .ifCond .lt 13, 14, 0, .null), (4, .iload_n 0, 0, 0, .null), (5, .bipush 6, 0, 0, .int 6), (7, .if_icmp .ge 7, 14, 0, .null), (10, .iconst 1, 0, 0, .int 1), (11, .goto 4, 15, 0, .null), (14, .iconst 0, 0, 0, .int 0), (15, .ireturn, 1, 0, .null)]
def v_X_isRoute : List (Nat × List Nat) := [(0, [0])]
def s_X_isRoute : List (Nat × Nat × List Op) := [(0, 16, o_X_isRoute_0)]
set_option maxRecDepth 100000 in
theorem k_X_isRoute : MOk P_X s_X_isRoute 106 1 := ⟨P_X_ok, _, rfl, rfl, rfl, by decide +kernel⟩
def o_X_isMark_0 : List Op := [(0, .iload_n 0, 0, 0, .null), (1, .ifCond .ge 18, 19, 0, .null), (4, .iload_n 0, 0, 0, .null), (5, .invokestatic 177, 26, 1, .ref 0), (8, .ifCond .ne 11, 19, 0, .null), (11, .iload_n 0, 0, 0, .null), (12, .ldc_w 265, 0, 0, .int 2147483647), (15, .iand, 0, 0, .null), (16, .ifCond .ne 7, 23, 0, .null), (19, .iconst 1, 0, 0, .int 1), (20, .goto 4, 24, 0, .null), (23, .iconst 0, 0, 0, .int 0), (24, .ireturn, 1, 0, .null)]
def v_X_isMark : List (Nat × List Nat) := [(0, [0])]
def s_X_isMark : List (Nat × Nat × List Op) := [(0, 25, o_X_isMark_0)]
set_option maxRecDepth 100000 in
theorem k_X_isMark : MOk P_X s_X_isMark 107 1 := ⟨P_X_ok, _, rfl, rfl, rfl, by decide +kernel⟩
def o_Routes_lastDistance_0 : List Op := [(0, .aload_n 0, 0, 0, .null), (1, .getfield 9, 4, 0, .null), (4, .iload_n 1, 1, 0, .null), (5, .iaload, 0, 0, .null), (6, .ifCond .ne 7, 13, 0, .null), (9, .iconst 0, 0, 0, .int 0), (10, .goto 20, 30, 0, .null), (13, .aload_n 0, 0, 0, .null), (14, .getfield 18, 4, 2, .null), (17, .iload_n 1, 1, 0, .null), (18, .iconst 4, 0, 0, .int 4), (19, .imul, 0, 0, .null), (20, .aload_n 0, 0, 0, .null), (21, .getfield 9, 4, 0, .null), (24, .iload_n 1, 1, 0, .null), (25, .iaload, 0, 0, .null), (26, .iadd, 0, 0, .null), (27, .iconst 1, 0, 0, .int 1), (28, .isub, 0, 0, .null), (29, .iaload, 0, 0, .null), (30, .ireturn, 0, 0, .null)]
def v_Routes_lastDistance : List (Nat × List Nat) := [(0, [0, 1])]
def s_Routes_lastDistance : List (Nat × Nat × List Op) := [(0, 31, o_Routes_lastDistance_0)]
set_option maxRecDepth 100000 in
theorem k_Routes_lastDistance : MOk P_Routes s_Routes_lastDistance 108 2 := ⟨P_Routes_ok, _, rfl, rfl, rfl, by decide +kernel⟩
def o_Passages_useRoute_0 : List Op := [(0, .iconst 0, 0, 0, .int 0), (1, .istore_n 2, 2, 0, .null)]
def o_Passages_useRoute_1 : List Op := [(2, .iload_n 2, 2, 0, .null), (3, .aload_n 0, 0, 0, .null), (4, .getfield 57, 3, 13, .null), (7, .if_icmp .ge 31, 38, 0, .null), (10, .aload_n 0, 0, 0, .null), (11, .getfield 15, 3, 6, .null), (14, .iload_n 2, 2, 0, .null), (15, .iaload, 0, 0, .null), (16, .iload_n 1, 1, 0, .null), (17, .if_icmp .ne 15, 32, 0, .null), (20, .aload_n 0, 0, 0, .null), (21, .getfield 24, 3, 9, .null), (24, .iload_n 2, 2, 0, .null), (25, .iaload, 0, 0, .null), (26, .iconst (-1), 0, 0, .int (-1)), (27, .if_icmp .eq 5, 32, 0, .null), (30, .iconst 1, 0, 0, .int 1), (31, .ireturn, 1, 0, .null), (32, .iinc 2 1, 2, 0, .int 1), (35, .goto (-33), 2, 0, .null), (38, .iconst 0, 0, 0, .int 0), (39, .ireturn, 1, 0, .null)]
def v_Passages_useRoute : List (Nat × List Nat) := [(0, [0, 1]), (2, [0, 1, 2])]
def s_Passages_useRoute : List (Nat × Nat × List Op) := [(0, 2, o_Passages_useRoute_0), (2, 40, o_Passages_useRoute_1)]
set_option maxRecDepth 100000 in
theorem k_Passages_useRoute : MOk P_Passages s_Passages_useRoute 109 3 := ⟨P_Passages_ok, _, rfl, rfl, rfl, by decide +kernel⟩
def o_Routes_add_0 : List Op := [(0, .aload_n 0, 0, 0, .null), (1, .getfield 9, 4, 0, .null), (4, .iload_n 1, 1, 0, .null), (5, .iaload, 0, 0, .null), (6, .iconst 4, 0, 0, .int 4), (7, .if_icmp .lt 6, 13, 0, .null), (10, .bipush (-4), 0, 0, .int (-4)), (12, .ireturn, 0, 0, .null), (13, .iload_n 1, 1, 0, .null), (14, .iconst 4, 0, 0, .int 4), (15, .imul, 0, 0, .null), (16, .aload_n 0, 0, 0, .null), (17, .getfield 9, 4, 0, .null), (20, .iload_n 1, 1, 0, .null), (21, .iaload, 0, 0, .null), (22, .iadd, 0, 0, .null), (23, .istore 5, 5, 0, .null), (25, .aload_n 0, 0, 0, .null), (26, .getfield 15, 4, 1, .null), (29, .iload 5, 5, 0, .null), (31, .iload_n 2, 2, 0, .null), (32, .iastore, 0, 0, .null), (33, .aload_n 0, 0, 0, .null), (34, .getfield 18, 4, 2, .null), (37, .iload 5, 5, 0, .null), (39, .iload_n 3, 3, 0, .null), (40, .iastore, 0, 0, .null), (41, .aload_n 0, 0, 0, .null), (42, .getfield 21, 4, 3, .null), (45, .iload 5, 5, 0, .null), (47, .iload 4, 4, 0, .null), (49, .iastore, 0, 0, .null), (50, .aload_n 0, 0, 0, .null), (51, .getfield 9, 4, 0, .null), (54, .iload_n 1, 1, 0, .null), (55, .dup2, 0, 0, .null), (56, .iaload, 0, 0, .null), (57, .iconst 1, 0, 0, .int 1), (58, .iadd, 0, 0, .null), (59, .iastore, 0, 0, .null), (60, .aload_n 0, 0, 0, .null), (61, .getfield 9, 4, 0, .null), (64, .iload_n 1, 1, 0, .null), (65, .iaload, 0, 0, .null), (66, .ireturn, 0, 0, .null)]
def v_Routes_add : List (Nat × List Nat) := [(0, [0, 1, 2, 3, 4])]
def s_Routes_add : List (Nat × Nat × List Op) := [(0, 67, o_Routes_add_0)]
set_option maxRecDepth 100000 in
theorem k_Routes_add : MOk P_Routes s_Routes_add 110 6 := ⟨P_Routes_ok, _, rfl, rfl, rfl, by decide +kernel⟩
def o_X_clear_0 : List Op := [(0, .iload_n 1, 1, 0, .null), (1, .invokestatic 330, 106, 1, .ref 0), (4, .ifCond .ne 6, 10, 0, .null), (7, .bipush (-2), 0, 0, .int (-2)), (9, .ireturn, 0, 0, .null), (10, .aload_n 0, 0, 0, .null), (11, .getfield 92, 11, 10, .null), (14, .iload_n 1, 1, 0, .null), (15, .invokevirtual 340, 109, 1, .ref 3), (18, .ifCond .eq 6, 24, 0, .null), (21, .bipush (-3), 0, 0, .int (-3)), (23, .ireturn, 0, 0, .null), (24, .aload_n 0, 0, 0, .null), (25, .getfield 72, 11, 7, .null), (28, .getfield 344, 4, 0, .null), (31, .iload_n 1, 1, 0, .null), (32, .iaload, 0, 0, .null), (33, .istore_n 2, 2, 0, .null), (34, .aload_n 0, 0, 0, .null), (35, .getfield 72, 11, 7, .null), (38, .getfield 344, 4, 0, .null), (41, .iload_n 1, 1, 0, .null), (42, .iconst 0, 0, 0, .int 0), (43, .iastore, 0, 0, .null), (44, .iload_n 2, 2, 0, .null), (45, .ireturn, 0, 0, .null)]
def v_X_clear : List (Nat × List Nat) := [(0, [0, 1])]
def s_X_clear : List (Nat × Nat × List Op) := [(0, 46, o_X_clear_0)]
set_option maxRecDepth 100000 in
theorem k_X_clear : MOk P_X s_X_clear 111 3 := ⟨P_X_ok, _, rfl, rfl, rfl, by decide +kernel⟩
def o_X_sun_0 : List Op := [(0, .iload_n 1, 1, 0, .null), (1, .iconst 0, 0, 0, .int 0), (2, .ldc_w 347, 0, 0, .int 86400), (5, .invokestatic 107, 4, 3, .ref 0), (8, .ifCond .eq 14, 22, 0, .null), (11, .iload_n 2, 2, 0, .null), (12, .iconst 0, 0, 0, .int 0), (13, .ldc_w 347, 0, 0, .int 86400), (16, .invokestatic 107, 4, 3, .ref 0), (19, .ifCond .ne 6, 25, 0, .null), (22, .bipush (-2), 0, 0, .int (-2)), (24, .ireturn, 0, 0, .null), (25, .aload_n 0, 0, 0, .null), (26, .getfield 76, 11, 8, .null), (29, .iload_n 1, 1, 0, .null), (30, .putfield 348, 8, 6, .null), (33, .aload_n 0, 0, 0, .null), (34, .getfield 76, 11, 8, .null), (37, .iload_n 2, 2, 0, .null), (38, .putfield 351, 8, 7, .null), (41, .iconst 1, 0, 0, .int 1), (42, .ireturn, 0, 0, .null)]
def v_X_sun : List (Nat × List Nat) := [(0, [0, 1, 2])]
def s_X_sun : List (Nat × Nat × List Op) := [(0, 43, o_X_sun_0)]
set_option maxRecDepth 100000 in
theorem k_X_sun : MOk P_X s_X_sun 112 3 := ⟨P_X_ok, _, rfl, rfl, rfl, by decide +kernel⟩
def o_X_comes_0 : List Op := [(0, .aload_n 0, 0, 0, .null), (1, .iload_n 1, 1, 0, .null), (2, .invokevirtual 279, 78, 1, .ref 11), (5, .ifCond .eq 37, 42, 0, .null), (8, .iload_n 2, 2, 0, .null), (9, .invokestatic 330, 106, 1, .ref 0), (12, .ifCond .eq 30, 42, 0, .null), (15, .iload_n 3, 3, 0, .null), (16, .iconst 0, 0, 0, .int 0), (17, .aload_n 0, 0, 0, .null), (18, .getfield 72, 11, 7, .null), (21, .getfield 344, 4, 0, .null), (24, .iload_n 2, 2, 0, .null), (25, .iaload, 0, 0, .null), (26, .iconst 1, 0, 0, .int 1), (27, .isub, 0, 0, .null), (28, .invokestatic 107, 4, 3, .ref 0), (31, .ifCond .eq 11, 42, 0, .null), (34, .iload 4, 4, 0, .null), (36, .invokestatic 96, 1, 1, .ref 0), (39, .ifCond .ne 6, 45, 0, .null), (42, .bipush (-2), 0, 0, .int (-2)), (44, .ireturn, 0, 0, .null), (45, .aload_n 0, 0, 0, .null), (46, .getfield 39, 11, 0, .null), (49, .invokevirtual 140, 16, 0, .ref 0), (52, .ifCond .eq 6, 58, 0, .null), (55, .bipush (-4), 0, 0, .int (-4)), (57, .ireturn, 0, 0, .null), (58, .aload_n 0, 0, 0, .null), (59, .getfield 59, 11, 5, .null), (62, .iconst 0, 0, 0, .int 0), (63, .putfield 282, 5, 8, .null), (66, .aload_n 0, 0, 0, .null), (67, .getfield 59, 11, 5, .null), (70, .iload_n 1, 1, 0, .null), (71, .iconst 2, 0, 0, .int 2), (72, .iconst 0, 0, 0, .int 0), (73, .invokevirtual 285, 79, 3, .ref 5), (76, .istore 5, 5, 0, .null), (78, .aload_n 0, 0, 0, .null), (79, .getfield 59, 11, 5, .null), (82, .getfield 288, 5, 10, .null), (85, .ifCond .eq 18, 103, 0, .null), (88, .aload_n 0, 0, 0, .null), (89, .getfield 39, 11, 0, .null), (92, .aload_n 0, 0, 0, .null), (93, .getfield 59, 11, 5, .null), (96, .getfield 288, 5, 10, .null), (99, .invokevirtual 149, 18, 1, .ref 0), (102, .ireturn, 0, 0, .null), (103, .aload_n 0, 0, 0, .null), (104, .getfield 72, 11, 7, .null), (107, .iload_n 2, 2, 0, .null), (108, .iconst 4, 0, 0, .int 4), (109, .imul, 0, 0, .null), (110, .iload_n 3, 3, 0, .null), (111, .iadd, 0, 0, .null), (112, .iload 4, 4, 0, .null), (114, .iload 5, 5, 0, .null), (116, .invokevirtual 354, 114, 3, .ref 4), (119, .ireturn, 0, 0, .null)]
def v_X_comes : List (Nat × List Nat) := [(0, [0, 1, 2, 3, 4])]
def s_X_comes : List (Nat × Nat × List Op) := [(0, 120, o_X_comes_0)]
set_option maxRecDepth 100000 in
theorem k_X_comes : MOk P_X s_X_comes 113 6 := ⟨P_X_ok, _, rfl, rfl, rfl, by decide +kernel⟩
def o_Routes_comingAt_0 : List Op := [(0, .iload_n 3, 3, 0, .null), (1, .iconst 1, 0, 0, .int 1), (2, .if_icmp .ge 6, 8, 0, .null), (5, .bipush (-3), 0, 0, .int (-3)), (7, .ireturn, 0, 0, .null), (8, .iload_n 2, 2, 0, .null), (9, .aload_n 0, 0, 0, .null), (10, .getfield 18, 4, 2, .null), (13, .iload_n 1, 1, 0, .null), (14, .iaload, 0, 0, .null), (15, .bipush 100, 0, 0, .int 100), (17, .imul, 0, 0, .null), (18, .iload_n 3, 3, 0, .null), (19, .idiv, 0, 0, .null), (20, .iadd, 0, 0, .null), (21, .istore 4, 4, 0, .null), (23, .iload 4, 4, 0, .null), (25, .ldc 24, 0, 0, .int 2592000), (27, .if_icmp .ge 8, 35, 0, .null), (30, .iload 4, 4, 0, .null), (32, .goto 5, 37, 0, .null), (35, .bipush (-3), 0, 0, .int (-3)), (37, .ireturn, 0, 0, .null)]
def v_Routes_comingAt : List (Nat × List Nat) := [(0, [0, 1, 2, 3])]
def s_Routes_comingAt : List (Nat × Nat × List Op) := [(0, 38, o_Routes_comingAt_0)]
set_option maxRecDepth 100000 in
theorem k_Routes_comingAt : MOk P_Routes s_Routes_comingAt 114 5 := ⟨P_Routes_ok, _, rfl, rfl, rfl, by decide +kernel⟩
def o_X_holds_0 : List Op := [(0, .aload_n 0, 0, 0, .null), (1, .iload_n 1, 1, 0, .null), (2, .invokevirtual 279, 78, 1, .ref 11), (5, .ifCond .eq 17, 22, 0, .null), (8, .iload_n 2, 2, 0, .null), (9, .invokestatic 330, 106, 1, .ref 0), (12, .ifCond .eq 10, 22, 0, .null), (15, .iload_n 3, 3, 0, .null), (16, .invokestatic 357, 116, 1, .ref 0), (19, .ifCond .ne 6, 25, 0, .null), (22, .bipush (-2), 0, 0, .int (-2)), (24, .ireturn, 0, 0, .null), (25, .aload_n 0, 0, 0, .null), (26, .getfield 39, 11, 0, .null), (29, .invokevirtual 140, 16, 0, .ref 0), (32, .ifCond .eq 6, 38, 0, .null), (35, .bipush (-4), 0, 0, .int (-4)), (37, .ireturn, 0, 0, .null), (38, .aload_n 0, 0, 0, .null), (39, .getfield 59, 11, 5, .null), (42, .iconst 0, 0, 0, .int 0), (43, .putfield 282, 5, 8, .null), (46, .aload_n 0, 0, 0, .null), (47, .getfield 76, 11, 8, .null), (50, .iload_n 1, 1, 0, .null), (51, .iload_n 2, 2, 0, .null), (52, .iload_n 3, 3, 0, .null), (53, .aload_n 0, 0, 0, .null), (54, .getfield 100, 11, 11, .null), (57, .invokevirtual 360, 117, 4, .ref 8), (60, .ireturn, 0, 0, .null)]
def v_X_holds : List (Nat × List Nat) := [(0, [0, 1, 2, 3])]
def s_X_holds : List (Nat × Nat × List Op) := [(0, 61, o_X_holds_0)]
set_option maxRecDepth 100000 in
theorem k_X_holds : MOk P_X s_X_holds 115 4 := ⟨P_X_ok, _, rfl, rfl, rfl, by decide +kernel⟩
def o_X_isMinute_0 : List Op := [(0, .iload_n 0, 0, 0, .null), (1, .ifCond .lt 14, 15, 0, .null), (4, .iload_n 0, 0, 0, .null), (5, .ldc_w 435, 0, 0, .int 43200), (8, .if_icmp .ge 7, 15, 0, .null), (11, .iconst 1, 0, 0, .int 1), (12, .goto 4, 16, 0, .null), (15, .iconst 0, 0, 0, .int 0), (16, .ireturn, 1, 0, .null)]
def v_X_isMinute : List (Nat × List Nat) := [(0, [0])]
def s_X_isMinute : List (Nat × Nat × List Op) := [(0, 17, o_X_isMinute_0)]
set_option maxRecDepth 100000 in
theorem k_X_isMinute : MOk P_X s_X_isMinute 116 1 := ⟨P_X_ok, _, rfl, rfl, rfl, by decide +kernel⟩
def o_Voyages_tryMinute_0 : List Op := [(0, .aload_n 0, 0, 0, .null), (1, .aload_n 0, 0, 0, .null), (2, .getfield 27, 8, 1, .null), (5, .iload_n 1, 1, 0, .null), (6, .iconst 0, 0, 0, .int 0), (7, .iconst 0, 0, 0, .int 0), (8, .invokevirtual 43, 79, 3, .ref 5), (11, .putfield 49, 8, 8, .null), (14, .aload_n 0, 0, 0, .null), (15, .getfield 27, 8, 1, .null), (18, .getfield 52, 5, 10, .null), (21, .ifCond .ne 17, 38, 0, .null), (24, .aload_n 0, 0, 0, .null), (25, .aload_n 0, 0, 0, .null), (26, .getfield 27, 8, 1, .null), (29, .iload_n 1, 1, 0, .null), (30, .iconst 2, 0, 0, .int 2), (31, .iconst 0, 0, 0, .int 0), (32, .invokevirtual 43, 79, 3, .ref 5), (35, .putfield 55, 8, 9, .null), (38, .aload_n 0, 0, 0, .null), (39, .getfield 27, 8, 1, .null), (42, .getfield 52, 5, 10, .null), (45, .ifCond .ne 26, 71, 0, .null), (48, .aload_n 0, 0, 0, .null), (49, .aload_n 0, 0, 0, .null), (50, .getfield 27, 8, 1, .null), (53, .iload_n 1, 1, 0, .null), (54, .iconst 4, 0, 0, .int 4), (55, .iconst 0, 0, 0, .int 0), (56, .invokevirtual 43, 79, 3, .ref 5), (59, .iconst 1, 0, 0, .int 1), (60, .if_icmp .ne 7, 67, 0, .null), (63, .iconst 1, 0, 0, .int 1), (64, .goto 4, 68, 0, .null), (67, .iconst 0, 0, 0, .int 0), (68, .putfield 58, 8, 10, .ref 1), (71, .aload_n 0, 0, 0, .null), (72, .getfield 27, 8, 1, .null), (75, .getfield 52, 5, 10, .null), (78, .ifCond .eq 18, 96, 0, .null), (81, .aload_n 0, 0, 0, .null), (82, .getfield 23, 8, 0, .null), (85, .aload_n 0, 0, 0, .null), (86, .getfield 27, 8, 1, .null), (89, .getfield 52, 5, 10, .null), (92, .invokevirtual 62, 18, 1, .ref 0), (95, .ireturn, 0, 0, .null), (96, .aload_n 0, 0, 0, .null), (97, .getfield 55, 8, 9, .null), (100, .iconst 1, 0, 0, .int 1), (101, .if_icmp .ge 6, 107, 0, .null), (104, .bipush (-3), 0, 0, .int (-3)), (106, .ireturn, 0, 0, .null), (107, .iconst 0, 0, 0, .int 0), (108, .istore 5, 5, 0, .null)]
def o_Voyages_tryMinute_1 : List Op := [(110, .iload 5, 5, 0, .null), (112, .aload_n 0, 0, 0, .null), (113, .getfield 31, 8, 2, .null), (116, .getfield 68, 4, 0, .null), (119, .iload_n 2, 2, 0, .null), (120, .iaload, 0, 0, .null), (121, .if_icmp .ge 76, 197, 0, .null), (124, .aload_n 0, 0, 0, .null), (125, .getfield 31, 8, 2, .null), (128, .iload_n 2, 2, 0, .null), (129, .iconst 4, 0, 0, .int 4), (130, .imul, 0, 0, .null), (131, .iload 5, 5, 0, .null), (133, .iadd, 0, 0, .null), (134, .bipush 60, 0, 0, .int 60), (136, .iload_n 3, 3, 0, .null), (137, .imul, 0, 0, .null), (138, .aload_n 0, 0, 0, .null), (139, .getfield 55, 8, 9, .null), (142, .invokevirtual 73, 114, 3, .ref 4), (145, .istore 6, 6, 0, .null), (147, .iload 6, 6, 0, .null), (149, .bipush (-3), 0, 0, .int (-3)), (151, .if_icmp .ne 6, 157, 0, .null), (154, .bipush (-3), 0, 0, .int (-3)), (156, .ireturn, 0, 0, .null), (157, .aload_n 0, 0, 0, .null), (158, .getfield 9, 8, 5, .null), (161, .iload 5, 5, 0, .null), (163, .iload 6, 6, 0, .null), (165, .iastore, 0, 0, .null), (166, .aload_n 0, 0, 0, .null), (167, .iload_n 2, 2, 0, .null), (168, .iconst 4, 0, 0, .int 4), (169, .imul, 0, 0, .null), (170, .iload 5, 5, 0, .null), (172, .iadd, 0, 0, .null), (173, .iload 6, 6, 0, .null), (175, .iload 4, 4, 0, .null), (177, .invokevirtual 76, 118, 3, .ref 8), (180, .istore 7, 7, 0, .null), (182, .iload 7, 7, 0, .null), (184, .iconst 1, 0, 0, .int 1), (185, .if_icmp .eq 6, 191, 0, .null), (188, .iload 7, 7, 0, .null), (190, .ireturn, 0, 0, .null), (191, .iinc 5 1, 5, 0, .int 1), (194, .goto (-84), 110, 0, .null), (197, .iconst 1, 0, 0, .int 1), (198, .ireturn, 0, 0, .null)]
def v_Voyages_tryMinute : List (Nat × List Nat) := [(0, [0, 1, 2, 3, 4]), (110, [0, 2, 3, 4, 5])]
def s_Voyages_tryMinute : List (Nat × Nat × List Op) := [(0, 110, o_Voyages_tryMinute_0), (110, 199, o_Voyages_tryMinute_1)]
set_option maxRecDepth 100000 in
theorem k_Voyages_tryMinute : MOk P_Voyages s_Voyages_tryMinute 117 8 := ⟨P_Voyages_ok, _, rfl, rfl, rfl, by decide +kernel⟩
def o_Voyages_tryLeg_0 : List Op := [(0, .aload_n 0, 0, 0, .null), (1, .getfield 58, 8, 10, .null), (4, .ifCond .eq 27, 31, 0, .null), (7, .iload_n 2, 2, 0, .null), (8, .ldc 79, 0, 0, .int 86400), (10, .irem, 0, 0, .null), (11, .aload_n 0, 0, 0, .null), (12, .getfield 15, 8, 6, .null), (15, .if_icmp .lt 14, 29, 0, .null), (18, .iload_n 2, 2, 0, .null), (19, .ldc 79, 0, 0, .int 86400), (21, .irem, 0, 0, .null), (22, .aload_n 0, 0, 0, .null), (23, .getfield 20, 8, 7, .null), (26, .if_icmp .lt 5, 31, 0, .null), (29, .iconst 0, 0, 0, .int 0), (30, .ireturn, 0, 0, .null), (31, .aload_n 0, 0, 0, .null), (32, .getfield 31, 8, 2, .null), (35, .getfield 80, 4, 1, .null), (38, .iload_n 1, 1, 0, .null), (39, .iaload, 0, 0, .null), (40, .istore 4, 4, 0, .null), (42, .aload_n 0, 0, 0, .null), (43, .getfield 35, 8, 3, .null), (46, .iload 4, 4, 0, .null), (48, .iload_n 2, 2, 0, .null), (49, .iload_n 3, 3, 0, .null), (50, .invokevirtual 83, 49, 3, .ref 6), (53, .ifCond .ne 12, 65, 0, .null), (56, .aload_n 0, 0, 0, .null), (57, .getfield 23, 8, 0, .null), (60, .iconst 1, 0, 0, .int 1), (61, .invokevirtual 62, 18, 1, .ref 0), (64, .ireturn, 0, 0, .null), (65, .aload_n 0, 0, 0, .null), (66, .getfield 35, 8, 3, .null), (69, .iload 4, 4, 0, .null), (71, .iload_n 2, 2, 0, .null), (72, .iload_n 3, 3, 0, .null), (73, .invokevirtual 89, 53, 3, .ref 6), (76, .aload_n 0, 0, 0, .null), (77, .getfield 49, 8, 8, .null), (80, .i2d, 0, 0, .null), (81, .ldc2_w 93, 0, 0, .double 4636737291354636288), (84, .ddiv, 0, 0, .null), (85, .dcmp .g, 0, 0, .null), (86, .ifCond .ge 5, 91, 0, .null), (89, .iconst 0, 0, 0, .int 0), (90, .ireturn, 0, 0, .null), (91, .aload_n 0, 0, 0, .null), (92, .getfield 31, 8, 2, .null), (95, .getfield 95, 4, 3, .null), (98, .iload_n 1, 1, 0, .null), (99, .iaload, 0, 0, .null), (100, .ldc 98, 0, 0, .int 2143289344), (102, .if_icmp .ne 5, 107, 0, .null), (105, .iconst 1, 0, 0, .int 1), (106, .ireturn, 0, 0, .null), (107, .aload_n 0, 0, 0, .null), (108, .getfield 39, 8, 4, .null), (111, .aload_n 0, 0, 0, .null), (112, .getfield 35, 8, 3, .null), (115, .getfield 99, 6, 2, .null), (118, .iload 4, 4, 0, .null), (120, .iaload, 0, 0, .null), (121, .iload_n 2, 2, 0, .null), (122, .invokevirtual 102, 68, 2, .ref 9), (125, .istore 5, 5, 0, .null), (127, .iload 5, 5, 0, .null), (129, .ifCond .ge 14, 143, 0, .null), (132, .aload_n 0, 0, 0, .null), (133, .getfield 23, 8, 0, .null), (136, .iload 5, 5, 0, .null), (138, .ineg, 0, 0, .null), (139, .invokevirtual 62, 18, 1, .ref 0), (142, .ireturn, 0, 0, .null), (143, .aload_n 0, 0, 0, .null), (144, .getfield 39, 8, 4, .null), (147, .getfield 108, 9, 6, .null), (150, .iload 5, 5, 0, .null), (152, .iaload, 0, 0, .null), (153, .ldc 111, 0, 0, .int 2147483647), (155, .iand, 0, 0, .null), (156, .aload_n 0, 0, 0, .null), (157, .getfield 31, 8, 2, .null), (160, .getfield 95, 4, 3, .null), (163, .iload_n 1, 1, 0, .null), (164, .iaload, 0, 0, .null), (165, .ldc 111, 0, 0, .int 2147483647), (167, .iand, 0, 0, .null), (168, .if_icmp .ge 7, 175, 0, .null), (171, .iconst 1, 0, 0, .int 1), (172, .goto 4, 176, 0, .null), (175, .iconst 0, 0, 0, .int 0), (176, .ireturn, 0, 0, .null)]
def v_Voyages_tryLeg : List (Nat × List Nat) := [(0, [0, 1, 2, 3])]
def s_Voyages_tryLeg : List (Nat × Nat × List Op) := [(0, 177, o_Voyages_tryLeg_0)]
set_option maxRecDepth 100000 in
theorem k_Voyages_tryLeg : MOk P_Voyages s_Voyages_tryLeg 118 6 := ⟨P_Voyages_ok, _, rfl, rfl, rfl, by decide +kernel⟩
def o_X_windows_0 : List Op := [(0, .aload_n 0, 0, 0, .null), (1, .iload_n 1, 1, 0, .null), (2, .invokevirtual 279, 78, 1, .ref 11), (5, .ifCond .eq 40, 45, 0, .null), (8, .iload_n 2, 2, 0, .null), (9, .invokestatic 330, 106, 1, .ref 0), (12, .ifCond .eq 33, 45, 0, .null), (15, .iload 4, 4, 0, .null), (17, .iconst 1, 0, 0, .int 1), (18, .bipush 120, 0, 0, .int 120), (20, .invokestatic 107, 4, 3, .ref 0), (23, .ifCond .eq 22, 45, 0, .null), (26, .iload_n 3, 3, 0, .null), (27, .invokestatic 357, 116, 1, .ref 0), (30, .ifCond .eq 15, 45, 0, .null), (33, .iload_n 3, 3, 0, .null), (34, .iload 4, 4, 0, .null), (36, .iadd, 0, 0, .null), (37, .iconst 1, 0, 0, .int 1), (38, .isub, 0, 0, .null), (39, .invokestatic 357, 116, 1, .ref 0), (42, .ifCond .ne 6, 48, 0, .null), (45, .bipush (-2), 0, 0, .int (-2)), (47, .ireturn, 0, 0, .null), (48, .aload_n 0, 0, 0, .null), (49, .getfield 39, 11, 0, .null), (52, .invokevirtual 140, 16, 0, .ref 0), (55, .ifCond .eq 6, 61, 0, .null), (58, .bipush (-4), 0, 0, .int (-4)), (60, .ireturn, 0, 0, .null), (61, .aload_n 0, 0, 0, .null), (62, .getfield 59, 11, 5, .null), (65, .iconst 0, 0, 0, .int 0), (66, .putfield 282, 5, 8, .null), (69, .aload_n 0, 0, 0, .null), (70, .getfield 83, 11, 9, .null), (73, .invokevirtual 363, 120, 0, .ref 10), (76, .iload_n 3, 3, 0, .null), (77, .istore 5, 5, 0, .null)]
def o_X_windows_1 : List Op := [(79, .iload 5, 5, 0, .null), (81, .iload_n 3, 3, 0, .null), (82, .iload 4, 4, 0, .null), (84, .iadd, 0, 0, .null), (85, .if_icmp .ge 33, 118, 0, .null), (88, .aload_n 0, 0, 0, .null), (89, .getfield 83, 11, 9, .null), (92, .iload 5, 5, 0, .null), (94, .aload_n 0, 0, 0, .null), (95, .getfield 76, 11, 8, .null), (98, .iload_n 1, 1, 0, .null), (99, .iload_n 2, 2, 0, .null), (100, .iload 5, 5, 0, .null), (102, .aload_n 0, 0, 0, .null), (103, .getfield 100, 11, 11, .null), (106, .invokevirtual 360, 117, 4, .ref 8), (109, .invokevirtual 366, 121, 2, .ref 10), (112, .iinc 5 1, 5, 0, .int 1), (115, .goto (-36), 79, 0, .null), (118, .aload_n 0, 0, 0, .null), (119, .getfield 83, 11, 9, .null), (122, .getfield 369, 10, 2, .null), (125, .ireturn, 0, 0, .null)]
def v_X_windows : List (Nat × List Nat) := [(0, [0, 1, 2, 3, 4]), (79, [0, 1, 2, 3, 4, 5])]
def s_X_windows : List (Nat × Nat × List Op) := [(0, 79, o_X_windows_0), (79, 126, o_X_windows_1)]
set_option maxRecDepth 100000 in
theorem k_X_windows : MOk P_X s_X_windows 119 6 := ⟨P_X_ok, _, rfl, rfl, rfl, by decide +kernel⟩
def o_Windows_begin_0 : List Op := [(0, .aload_n 0, 0, 0, .null), (1, .iconst 0, 0, 0, .int 0), (2, .putfield 18, 10, 2, .null), (5, .aload_n 0, 0, 0, .null), (6, .iconst 0, 0, 0, .int 0), (7, .putfield 22, 10, 3, .null), (10, .aload_n 0, 0, 0, .null), (11, .iconst 0, 0, 0, .int 0), (12, .putfield 25, 10, 4, .null), (15, .aload_n 0, 0, 0, .null), (16, .iconst 0, 0, 0, .int 0), (17, .putfield 28, 10, 5, .ref 1), (20, .return_, 0, 0, .null)]
def v_Windows_begin : List (Nat × List Nat) := [(0, [0])]
def s_Windows_begin : List (Nat × Nat × List Op) := [(0, 21, o_Windows_begin_0)]
set_option maxRecDepth 100000 in
theorem k_Windows_begin : MOk P_Windows s_Windows_begin 120 1 := ⟨P_Windows_ok, _, rfl, rfl, rfl, by decide +kernel⟩
def o_Windows_take_0 : List Op := [(0, .iload_n 2, 2, 0, .null), (1, .bipush (-10), 0, 0, .int (-10)), (3, .if_icmp .ge 21, 24, 0, .null), (6, .aload_n 0, 0, 0, .null), (7, .dup, 0, 0, .null), (8, .getfield 22, 10, 3, .null), (11, .iconst 1, 0, 0, .int 1), (12, .iadd, 0, 0, .null), (13, .putfield 22, 10, 3, .null), (16, .aload_n 0, 0, 0, .null), (17, .bipush (-10), 0, 0, .int (-10)), (19, .iload_n 2, 2, 0, .null), (20, .isub, 0, 0, .null), (21, .putfield 25, 10, 4, .null), (24, .iload_n 2, 2, 0, .null), (25, .iconst 1, 0, 0, .int 1), (26, .if_icmp .eq 11, 37, 0, .null), (29, .aload_n 0, 0, 0, .null), (30, .iconst 0, 0, 0, .int 0), (31, .putfield 28, 10, 5, .ref 1), (34, .goto 69, 103, 0, .null), (37, .aload_n 0, 0, 0, .null), (38, .getfield 28, 10, 5, .null), (41, .ifCond .eq 18, 59, 0, .null), (44, .aload_n 0, 0, 0, .null), (45, .getfield 15, 10, 1, .null), (48, .aload_n 0, 0, 0, .null), (49, .getfield 18, 10, 2, .null), (52, .iconst 1, 0, 0, .int 1), (53, .isub, 0, 0, .null), (54, .iload_n 1, 1, 0, .null), (55, .iastore, 0, 0, .null), (56, .goto 47, 103, 0, .null), (59, .aload_n 0, 0, 0, .null), (60, .getfield 18, 10, 2, .null), (63, .bipush 20, 0, 0, .int 20), (65, .if_icmp .ge 38, 103, 0, .null), (68, .aload_n 0, 0, 0, .null), (69, .getfield 9, 10, 0, .null), (72, .aload_n 0, 0, 0, .null), (73, .getfield 18, 10, 2, .null), (76, .iload_n 1, 1, 0, .null), (77, .iastore, 0, 0, .null), (78, .aload_n 0, 0, 0, .null), (79, .getfield 15, 10, 1, .null), (82, .aload_n 0, 0, 0, .null), (83, .getfield 18, 10, 2, .null), (86, .iload_n 1, 1, 0, .null), (87, .iastore, 0, 0, .null), (88, .aload_n 0, 0, 0, .null), (89, .dup, 0, 0, .null), (90, .getfield 18, 10, 2, .null), (93, .iconst 1, 0, 0, .int 1), (94, .iadd, 0, 0, .null), (95, .putfield 18, 10, 2, .null), (98, .aload_n 0, 0, 0, .null), (99, .iconst 1, 0, 0, .int 1), (100, .putfield 28, 10, 5, .ref 1), (103, .return_, 0, 0, .null)]
def v_Windows_take : List (Nat × List Nat) := [(0, [0, 1, 2])]
def s_Windows_take : List (Nat × Nat × List Op) := [(0, 104, o_Windows_take_0)]
set_option maxRecDepth 100000 in
theorem k_Windows_take : MOk P_Windows s_Windows_take 121 3 := ⟨P_Windows_ok, _, rfl, rfl, rfl, by decide +kernel⟩
def o_X_window_0 : List Op := [(0, .iload_n 1, 1, 0, .null), (1, .iconst 0, 0, 0, .int 0), (2, .aload_n 0, 0, 0, .null), (3, .getfield 83, 11, 9, .null), (6, .getfield 369, 10, 2, .null), (9, .iconst 1, 0, 0, .int 1), (10, .isub, 0, 0, .null), (11, .invokestatic 107, 4, 3, .ref 0), (14, .ifCond .ne 5, 19, 0, .null), (17, .iconst (-1), 0, 0, .int (-1)), (18, .ireturn, 0, 0, .null), (19, .iload_n 2, 2, 0, .null), (20, .ifCond .eq 15, 35, 0, .null), (23, .aload_n 0, 0, 0, .null), (24, .getfield 83, 11, 9, .null), (27, .getfield 371, 10, 1, .null), (30, .iload_n 1, 1, 0, .null), (31, .iaload, 0, 0, .null), (32, .goto 12, 44, 0, .null), (35, .aload_n 0, 0, 0, .null), (36, .getfield 83, 11, 9, .null), (39, .getfield 374, 10, 0, .null), (42, .iload_n 1, 1, 0, .null), (43, .iaload, 0, 0, .null), (44, .ireturn, 0, 0, .null)]
def v_X_window : List (Nat × List Nat) := [(0, [0, 1, 2])]
def s_X_window : List (Nat × Nat × List Op) := [(0, 45, o_X_window_0)]
set_option maxRecDepth 100000 in
theorem k_X_window : MOk P_X s_X_window 122 3 := ⟨P_X_ok, _, rfl, rfl, rfl, by decide +kernel⟩
def o_X_wrong_0 : List Op := [(0, .iload_n 1, 1, 0, .null), (1, .iconst 0, 0, 0, .int 0), (2, .iconst 1, 0, 0, .int 1), (3, .invokestatic 107, 4, 3, .ref 0), (6, .ifCond .ne 6, 12, 0, .null), (9, .bipush (-2), 0, 0, .int (-2)), (11, .ireturn, 0, 0, .null), (12, .iload_n 1, 1, 0, .null), (13, .ifCond .ne 13, 26, 0, .null), (16, .aload_n 0, 0, 0, .null), (17, .getfield 83, 11, 9, .null), (20, .getfield 377, 10, 3, .null), (23, .goto 10, 33, 0, .null), (26, .aload_n 0, 0, 0, .null), (27, .getfield 83, 11, 9, .null), (30, .getfield 380, 10, 4, .null), (33, .ireturn, 0, 0, .null)]
def v_X_wrong : List (Nat × List Nat) := [(0, [0, 1])]
def s_X_wrong : List (Nat × Nat × List Op) := [(0, 34, o_X_wrong_0)]
set_option maxRecDepth 100000 in
theorem k_X_wrong : MOk P_X s_X_wrong 123 2 := ⟨P_X_ok, _, rfl, rfl, rfl, by decide +kernel⟩
def o_X_passage_0 : List Op := [(0, .aload_n 0, 0, 0, .null), (1, .iload_n 1, 1, 0, .null), (2, .invokevirtual 279, 78, 1, .ref 11), (5, .ifCond .eq 17, 22, 0, .null), (8, .iload_n 2, 2, 0, .null), (9, .invokestatic 330, 106, 1, .ref 0), (12, .ifCond .eq 10, 22, 0, .null), (15, .iload_n 3, 3, 0, .null), (16, .invokestatic 357, 116, 1, .ref 0), (19, .ifCond .ne 6, 25, 0, .null), (22, .bipush (-2), 0, 0, .int (-2)), (24, .ireturn, 0, 0, .null), (25, .aload_n 0, 0, 0, .null), (26, .getfield 92, 11, 10, .null), (29, .iload_n 1, 1, 0, .null), (30, .iload_n 2, 2, 0, .null), (31, .iload_n 3, 3, 0, .null), (32, .aload_n 0, 0, 0, .null), (33, .getfield 100, 11, 11, .null), (36, .invokevirtual 383, 125, 4, .ref 3), (39, .ireturn, 0, 0, .null)]
def v_X_passage : List (Nat × List Nat) := [(0, [0, 1, 2, 3])]
def s_X_passage : List (Nat × Nat × List Op) := [(0, 40, o_X_passage_0)]
set_option maxRecDepth 100000 in
theorem k_X_passage : MOk P_X s_X_passage 124 4 := ⟨P_X_ok, _, rfl, rfl, rfl, by decide +kernel⟩
def o_Passages_add_0 : List Op := [(0, .aload_n 0, 0, 0, .null), (1, .getfield 57, 3, 13, .null), (4, .bipush 40, 0, 0, .int 40), (6, .if_icmp .lt 6, 12, 0, .null), (9, .bipush (-4), 0, 0, .int (-4)), (11, .ireturn, 0, 0, .null), (12, .aload_n 0, 0, 0, .null), (13, .getfield 9, 3, 5, .null), (16, .aload_n 0, 0, 0, .null), (17, .getfield 57, 3, 13, .null), (20, .iload_n 1, 1, 0, .null), (21, .iastore, 0, 0, .null), (22, .aload_n 0, 0, 0, .null), (23, .getfield 15, 3, 6, .null), (26, .aload_n 0, 0, 0, .null), (27, .getfield 57, 3, 13, .null), (30, .iload_n 2, 2, 0, .null), (31, .iastore, 0, 0, .null), (32, .aload_n 0, 0, 0, .null), (33, .getfield 18, 3, 7, .null), (36, .aload_n 0, 0, 0, .null), (37, .getfield 57, 3, 13, .null), (40, .iload_n 3, 3, 0, .null), (41, .iastore, 0, 0, .null), (42, .aload_n 0, 0, 0, .null), (43, .aload_n 0, 0, 0, .null), (44, .getfield 57, 3, 13, .null), (47, .iload 4, 4, 0, .null), (49, .invokevirtual 61, 126, 2, .ref 3), (52, .aload_n 0, 0, 0, .null), (53, .dup, 0, 0, .null), (54, .getfield 57, 3, 13, .null), (57, .iconst 1, 0, 0, .int 1), (58, .iadd, 0, 0, .null), (59, .putfield 57, 3, 13, .null), (62, .aload_n 0, 0, 0, .null), (63, .getfield 57, 3, 13, .null), (66, .iconst 1, 0, 0, .int 1), (67, .isub, 0, 0, .null), (68, .ireturn, 0, 0, .null)]
def v_Passages_add : List (Nat × List Nat) := [(0, [0, 1, 2, 3, 4])]
def s_Passages_add : List (Nat × Nat × List Op) := [(0, 69, o_Passages_add_0)]
set_option maxRecDepth 100000 in
theorem k_Passages_add : MOk P_Passages s_Passages_add 125 5 := ⟨P_Passages_ok, _, rfl, rfl, rfl, by decide +kernel⟩
def o_Passages_letWait_0 : List Op := [(0, .aload_n 0, 0, 0, .null), (1, .getfield 27, 3, 10, .null), (4, .iload_n 1, 1, 0, .null), (5, .iconst 1, 0, 0, .int 1), (6, .bastore, 0, 0, .null), (7, .aload_n 0, 0, 0, .null), (8, .getfield 21, 3, 8, .null), (11, .iload_n 1, 1, 0, .null), (12, .iload_n 2, 2, 0, .null), (13, .iastore, 0, 0, .null), (14, .aload_n 0, 0, 0, .null), (15, .getfield 24, 3, 9, .null), (18, .iload_n 1, 1, 0, .null), (19, .iconst (-1), 0, 0, .int (-1)), (20, .iastore, 0, 0, .null), (21, .return_, 0, 0, .null)]
def v_Passages_letWait : List (Nat × List Nat) := [(0, [0, 1, 2])]
def s_Passages_letWait : List (Nat × Nat × List Op) := [(0, 22, o_Passages_letWait_0)]
set_option maxRecDepth 100000 in
theorem k_Passages_letWait : MOk P_Passages s_Passages_letWait 126 3 := ⟨P_Passages_ok, _, rfl, rfl, rfl, by decide +kernel⟩
def o_X_plan_0 : List Op := [(0, .aload_n 0, 0, 0, .null), (1, .getfield 39, 11, 0, .null), (4, .invokevirtual 140, 16, 0, .ref 0), (7, .ifCond .eq 6, 13, 0, .null), (10, .bipush (-4), 0, 0, .int (-4)), (12, .ireturn, 0, 0, .null), (13, .aload_n 0, 0, 0, .null), (14, .getfield 59, 11, 5, .null), (17, .iconst 0, 0, 0, .int 0), (18, .putfield 282, 5, 8, .null), (21, .iconst 0, 0, 0, .int 0), (22, .istore_n 1, 1, 0, .null), (23, .iconst 0, 0, 0, .int 0), (24, .istore_n 2, 2, 0, .null)]
def o_X_plan_1 : List Op := [(25, .iload_n 2, 2, 0, .null), (26, .bipush 40, 0, 0, .int 40), (28, .if_icmp .ge 40, 68, 0, .null), (31, .aload_n 0, 0, 0, .null), (32, .getfield 92, 11, 10, .null), (35, .invokevirtual 384, 128, 0, .ref 3), (38, .istore_n 3, 3, 0, .null), (39, .iload_n 3, 3, 0, .null), (40, .iconst (-1), 0, 0, .int (-1)), (41, .if_icmp .eq 21, 62, 0, .null), (44, .aload_n 0, 0, 0, .null), (45, .getfield 92, 11, 10, .null), (48, .iload_n 3, 3, 0, .null), (49, .aload_n 0, 0, 0, .null), (50, .getfield 100, 11, 11, .null), (53, .invokevirtual 388, 129, 2, .ref 3), (56, .ifCond .eq 6, 62, 0, .null), (59, .iinc 1 1, 1, 0, .int 1), (62, .iinc 2 1, 2, 0, .int 1), (65, .goto (-40), 25, 0, .null), (68, .iload_n 1, 1, 0, .null), (69, .ireturn, 0, 0, .null)]
def v_X_plan : List (Nat × List Nat) := [(0, [0]), (25, [0, 1, 2])]
def s_X_plan : List (Nat × Nat × List Op) := [(0, 25, o_X_plan_0), (25, 70, o_X_plan_1)]
set_option maxRecDepth 100000 in
theorem k_X_plan : MOk P_X s_X_plan 127 4 := ⟨P_X_ok, _, rfl, rfl, rfl, by decide +kernel⟩
def o_Passages_longestWaiting_0 : List Op := [(0, .iconst (-1), 0, 0, .int (-1)), (1, .istore_n 1, 1, 0, .null), (2, .iconst 0, 0, 0, .int 0), (3, .istore_n 2, 2, 0, .null)]
def o_Passages_longestWaiting_1 : List Op := [(4, .iload_n 2, 2, 0, .null), (5, .aload_n 0, 0, 0, .null), (6, .getfield 57, 3, 13, .null), (9, .if_icmp .ge 40, 49, 0, .null), (12, .aload_n 0, 0, 0, .null), (13, .getfield 27, 3, 10, .null), (16, .iload_n 2, 2, 0, .null), (17, .baload, 0, 0, .null), (18, .ifCond .eq 25, 43, 0, .null), (21, .iload_n 1, 1, 0, .null), (22, .iconst (-1), 0, 0, .int (-1)), (23, .if_icmp .eq 18, 41, 0, .null), (26, .aload_n 0, 0, 0, .null), (27, .getfield 21, 3, 8, .null), (30, .iload_n 2, 2, 0, .null), (31, .iaload, 0, 0, .null), (32, .aload_n 0, 0, 0, .null), (33, .getfield 21, 3, 8, .null), (36, .iload_n 1, 1, 0, .null), (37, .iaload, 0, 0, .null), (38, .if_icmp .ge 5, 43, 0, .null), (41, .iload_n 2, 2, 0, .null), (42, .istore_n 1, 1, 0, .null), (43, .iinc 2 1, 2, 0, .int 1), (46, .goto (-42), 4, 0, .null), (49, .iload_n 1, 1, 0, .null), (50, .ireturn, 0, 0, .null)]
def v_Passages_longestWaiting : List (Nat × List Nat) := [(0, [0]), (4, [0, 1, 2])]
def s_Passages_longestWaiting : List (Nat × Nat × List Op) := [(0, 4, o_Passages_longestWaiting_0), (4, 51, o_Passages_longestWaiting_1)]
set_option maxRecDepth 100000 in
theorem k_Passages_longestWaiting : MOk P_Passages s_Passages_longestWaiting 128 3 := ⟨P_Passages_ok, _, rfl, rfl, rfl, by decide +kernel⟩
end
section
def o_Passages_settle_0 : List Op := [(0, .aload_n 0, 0, 0, .null), (1, .getfield 27, 3, 10, .null), (4, .iload_n 1, 1, 0, .null), (5, .iconst 0, 0, 0, .int 0), (6, .bastore, 0, 0, .null), (7, .aload_n 0, 0, 0, .null), (8, .getfield 41, 3, 1, .null), (11, .aload_n 0, 0, 0, .null), (12, .getfield 9, 3, 5, .null), (15, .iload_n 1, 1, 0, .null), (16, .iaload, 0, 0, .null), (17, .iconst 3, 0, 0, .int 3), (18, .iconst 0, 0, 0, .int 0), (19, .invokevirtual 65, 79, 3, .ref 5), (22, .istore_n 3, 3, 0, .null), (23, .aload_n 0, 0, 0, .null), (24, .getfield 41, 3, 1, .null), (27, .getfield 71, 5, 10, .null), (30, .ifCond .eq 20, 50, 0, .null), (33, .aload_n 0, 0, 0, .null), (34, .getfield 37, 3, 0, .null), (37, .aload_n 0, 0, 0, .null), (38, .getfield 41, 3, 1, .null), (41, .getfield 71, 5, 10, .null), (44, .invokevirtual 74, 18, 1, .ref 0), (47, .pop, 0, 0, .null), (48, .iconst 0, 0, 0, .int 0), (49, .ireturn, 1, 0, .null), (50, .ldc 80, 0, 0, .int 43200), (52, .aload_n 0, 0, 0, .null), (53, .getfield 18, 3, 7, .null), (56, .iload_n 1, 1, 0, .null), (57, .iaload, 0, 0, .null), (58, .bipush 120, 0, 0, .int 120), (60, .iload_n 3, 3, 0, .null), (61, .invokestatic 81, 83, 2, .ref 0), (64, .iadd, 0, 0, .null), (65, .invokestatic 81, 83, 2, .ref 0), (68, .istore 4, 4, 0, .null), (70, .aload_n 0, 0, 0, .null), (71, .getfield 18, 3, 7, .null), (74, .iload_n 1, 1, 0, .null), (75, .iaload, 0, 0, .null), (76, .istore 5, 5, 0, .null)]
def o_Passages_settle_1 : List Op := [(78, .iload 5, 5, 0, .null), (80, .iload 4, 4, 0, .null), (82, .if_icmp .ge 76, 158, 0, .null), (85, .aload_n 0, 0, 0, .null), (86, .getfield 53, 3, 4, .null), (89, .aload_n 0, 0, 0, .null), (90, .getfield 9, 3, 5, .null), (93, .iload_n 1, 1, 0, .null), (94, .iaload, 0, 0, .null), (95, .aload_n 0, 0, 0, .null), (96, .getfield 15, 3, 6, .null), (99, .iload_n 1, 1, 0, .null), (100, .iaload, 0, 0, .null), (101, .iload 5, 5, 0, .null), (103, .iload_n 2, 2, 0, .null), (104, .invokevirtual 87, 117, 4, .ref 8), (107, .istore 6, 6, 0, .null), (109, .iload 6, 6, 0, .null), (111, .bipush (-10), 0, 0, .int (-10)), (113, .if_icmp .ge 5, 118, 0, .null), (116, .iconst 0, 0, 0, .int 0), (117, .ireturn, 1, 0, .null), (118, .iload 6, 6, 0, .null), (120, .iconst 1, 0, 0, .int 1), (121, .if_icmp .ne 31, 152, 0, .null), (124, .aload_n 0, 0, 0, .null), (125, .aload_n 0, 0, 0, .null), (126, .getfield 15, 3, 6, .null), (129, .iload_n 1, 1, 0, .null), (130, .iaload, 0, 0, .null), (131, .invokevirtual 93, 130, 1, .ref 3), (134, .ifCond .ne 18, 152, 0, .null), (137, .aload_n 0, 0, 0, .null), (138, .getfield 24, 3, 9, .null), (141, .iload_n 1, 1, 0, .null), (142, .iload 5, 5, 0, .null), (144, .iastore, 0, 0, .null), (145, .aload_n 0, 0, 0, .null), (146, .iload_n 1, 1, 0, .null), (147, .invokevirtual 97, 134, 1, .ref 3), (150, .iconst 1, 0, 0, .int 1), (151, .ireturn, 1, 0, .null), (152, .iinc 5 1, 5, 0, .int 1), (155, .goto (-77), 78, 0, .null), (158, .iconst 0, 0, 0, .int 0), (159, .ireturn, 1, 0, .null)]
def v_Passages_settle : List (Nat × List Nat) := [(0, [0, 1, 2]), (78, [0, 1, 2, 4, 5])]
def s_Passages_settle : List (Nat × Nat × List Op) := [(0, 78, o_Passages_settle_0), (78, 160, o_Passages_settle_1)]
set_option maxRecDepth 100000 in
theorem k_Passages_settle : MOk P_Passages s_Passages_settle 129 7 := ⟨P_Passages_ok, _, rfl, rfl, rfl, by decide +kernel⟩
def o_Passages_meetsAny_0 : List Op := [(0, .iconst 0, 0, 0, .int 0), (1, .istore_n 2, 2, 0, .null)]
def o_Passages_meetsAny_1 : List Op := [(2, .iload_n 2, 2, 0, .null), (3, .aload_n 0, 0, 0, .null), (4, .getfield 57, 3, 13, .null), (7, .if_icmp .ge 30, 37, 0, .null), (10, .aload_n 0, 0, 0, .null), (11, .getfield 24, 3, 9, .null), (14, .iload_n 2, 2, 0, .null), (15, .iaload, 0, 0, .null), (16, .iconst (-1), 0, 0, .int (-1)), (17, .if_icmp .eq 14, 31, 0, .null), (20, .aload_n 0, 0, 0, .null), (21, .iload_n 1, 1, 0, .null), (22, .iload_n 2, 2, 0, .null), (23, .invokevirtual 102, 131, 2, .ref 3), (26, .ifCond .eq 5, 31, 0, .null), (29, .iconst 1, 0, 0, .int 1), (30, .ireturn, 1, 0, .null), (31, .iinc 2 1, 2, 0, .int 1), (34, .goto (-32), 2, 0, .null), (37, .iconst 0, 0, 0, .int 0), (38, .ireturn, 1, 0, .null)]
def v_Passages_meetsAny : List (Nat × List Nat) := [(0, [0, 1]), (2, [0, 1, 2])]
def s_Passages_meetsAny : List (Nat × Nat × List Op) := [(0, 2, o_Passages_meetsAny_0), (2, 39, o_Passages_meetsAny_1)]
set_option maxRecDepth 100000 in
theorem k_Passages_meetsAny : MOk P_Passages s_Passages_meetsAny 130 3 := ⟨P_Passages_ok, _, rfl, rfl, rfl, by decide +kernel⟩
def o_Passages_meets_0 : List Op := [(0, .iconst 0, 0, 0, .int 0), (1, .istore_n 3, 3, 0, .null)]
def o_Passages_meets_1 : List Op := [(2, .iload_n 3, 3, 0, .null), (3, .aload_n 0, 0, 0, .null), (4, .getfield 45, 3, 2, .null), (7, .getfield 106, 4, 0, .null), (10, .iload_n 1, 1, 0, .null), (11, .iaload, 0, 0, .null), (12, .if_icmp .ge 101, 113, 0, .null), (15, .iconst 0, 0, 0, .int 0), (16, .istore 4, 4, 0, .null)]
def o_Passages_meets_2 : List Op := [(18, .iload 4, 4, 0, .null), (20, .aload_n 0, 0, 0, .null), (21, .getfield 45, 3, 2, .null), (24, .getfield 106, 4, 0, .null), (27, .aload_n 0, 0, 0, .null), (28, .getfield 15, 3, 6, .null), (31, .iload_n 2, 2, 0, .null), (32, .iaload, 0, 0, .null), (33, .iaload, 0, 0, .null), (34, .if_icmp .ge 73, 107, 0, .null), (37, .aload_n 0, 0, 0, .null), (38, .iload_n 1, 1, 0, .null), (39, .iload_n 3, 3, 0, .null), (40, .iload_n 2, 2, 0, .null), (41, .iload 4, 4, 0, .null), (43, .invokevirtual 111, 132, 4, .ref 3), (46, .ifCond .eq 5, 51, 0, .null), (49, .iconst 1, 0, 0, .int 1), (50, .ireturn, 1, 0, .null), (51, .iload_n 3, 3, 0, .null), (52, .iconst 1, 0, 0, .int 1), (53, .iadd, 0, 0, .null), (54, .aload_n 0, 0, 0, .null), (55, .getfield 45, 3, 2, .null), (58, .getfield 106, 4, 0, .null), (61, .iload_n 1, 1, 0, .null), (62, .iaload, 0, 0, .null), (63, .if_icmp .ge 38, 101, 0, .null), (66, .iload 4, 4, 0, .null), (68, .iconst 1, 0, 0, .int 1), (69, .iadd, 0, 0, .null), (70, .aload_n 0, 0, 0, .null), (71, .getfield 45, 3, 2, .null), (74, .getfield 106, 4, 0, .null), (77, .aload_n 0, 0, 0, .null), (78, .getfield 15, 3, 6, .null), (81, .iload_n 2, 2, 0, .null), (82, .iaload, 0, 0, .null), (83, .iaload, 0, 0, .null), (84, .if_icmp .ge 17, 101, 0, .null), (87, .aload_n 0, 0, 0, .null), (88, .iload_n 1, 1, 0, .null), (89, .iload_n 3, 3, 0, .null), (90, .iload_n 2, 2, 0, .null), (91, .iload 4, 4, 0, .null), (93, .invokevirtual 115, 133, 4, .ref 3), (96, .ifCond .eq 5, 101, 0, .null), (99, .iconst 1, 0, 0, .int 1), (100, .ireturn, 1, 0, .null), (101, .iinc 4 1, 4, 0, .int 1), (104, .goto (-86), 18, 0, .null), (107, .iinc 3 1, 3, 0, .int 1), (110, .goto (-108), 2, 0, .null)]
def o_Passages_meets_3 : List Op := [(113, .iconst 0, 0, 0, .int 0), (114, .ireturn, 1, 0, .null)]
def v_Passages_meets : List (Nat × List Nat) := [(0, [0, 1, 2]), (2, [0, 1, 2, 3]), (18, [0, 1, 2, 3, 4]), (113, [])]
def s_Passages_meets : List (Nat × Nat × List Op) := [(0, 2, o_Passages_meets_0), (2, 18, o_Passages_meets_1), (18, 113, o_Passages_meets_2), (113, 115, o_Passages_meets_3)]
set_option maxRecDepth 100000 in
theorem k_Passages_meets : MOk P_Passages s_Passages_meets 131 5 := ⟨P_Passages_ok, _, rfl, rfl, rfl, by decide +kernel⟩
def o_Passages_meetInLock_0 : List Op := [(0, .aload_n 0, 0, 0, .null), (1, .getfield 45, 3, 2, .null), (4, .getfield 118, 4, 1, .null), (7, .iload_n 1, 1, 0, .null), (8, .iconst 4, 0, 0, .int 4), (9, .imul, 0, 0, .null), (10, .iload_n 2, 2, 0, .null), (11, .iadd, 0, 0, .null), (12, .iaload, 0, 0, .null), (13, .istore 5, 5, 0, .null), (15, .aload_n 0, 0, 0, .null), (16, .getfield 49, 3, 3, .null), (19, .getfield 121, 6, 3, .null), (22, .iload 5, 5, 0, .null), (24, .iaload, 0, 0, .null), (25, .istore 6, 6, 0, .null), (27, .iload 6, 6, 0, .null), (29, .ifCond .eq 27, 56, 0, .null), (32, .iload 5, 5, 0, .null), (34, .aload_n 0, 0, 0, .null), (35, .getfield 45, 3, 2, .null), (38, .getfield 118, 4, 1, .null), (41, .aload_n 0, 0, 0, .null), (42, .getfield 15, 3, 6, .null), (45, .iload_n 3, 3, 0, .null), (46, .iaload, 0, 0, .null), (47, .iconst 4, 0, 0, .int 4), (48, .imul, 0, 0, .null), (49, .iload 4, 4, 0, .null), (51, .iadd, 0, 0, .null), (52, .iaload, 0, 0, .null), (53, .if_icmp .eq 5, 58, 0, .null), (56, .iconst 0, 0, 0, .int 0), (57, .ireturn, 1, 0, .null), (58, .aload_n 0, 0, 0, .null), (59, .getfield 53, 3, 4, .null), (62, .getfield 101, 8, 5, .null), (65, .iload_n 2, 2, 0, .null), (66, .iaload, 0, 0, .null), (67, .istore 7, 7, 0, .null), (69, .aload_n 0, 0, 0, .null), (70, .getfield 31, 3, 11, .null), (73, .iload_n 3, 3, 0, .null), (74, .iconst 4, 0, 0, .int 4), (75, .imul, 0, 0, .null), (76, .iload 4, 4, 0, .null), (78, .iadd, 0, 0, .null), (79, .iaload, 0, 0, .null), (80, .istore 8, 8, 0, .null), (82, .iload 7, 7, 0, .null), (84, .iload 8, 8, 0, .null), (86, .iload 6, 6, 0, .null), (88, .iadd, 0, 0, .null), (89, .if_icmp .ge 17, 106, 0, .null), (92, .iload 8, 8, 0, .null), (94, .iload 7, 7, 0, .null), (96, .iload 6, 6, 0, .null), (98, .iadd, 0, 0, .null), (99, .if_icmp .ge 7, 106, 0, .null), (102, .iconst 1, 0, 0, .int 1), (103, .goto 4, 107, 0, .null), (106, .iconst 0, 0, 0, .int 0), (107, .ireturn, 1, 0, .null)]
def v_Passages_meetInLock : List (Nat × List Nat) := [(0, [0, 1, 2, 3, 4])]
def s_Passages_meetInLock : List (Nat × Nat × List Op) := [(0, 108, o_Passages_meetInLock_0)]
set_option maxRecDepth 100000 in
theorem k_Passages_meetInLock : MOk P_Passages s_Passages_meetInLock 132 9 := ⟨P_Passages_ok, _, rfl, rfl, rfl, by decide +kernel⟩
def o_Passages_meetInReach_0 : List Op := [(0, .aload_n 0, 0, 0, .null), (1, .getfield 45, 3, 2, .null), (4, .getfield 118, 4, 1, .null), (7, .iload_n 1, 1, 0, .null), (8, .iconst 4, 0, 0, .int 4), (9, .imul, 0, 0, .null), (10, .iload_n 2, 2, 0, .null), (11, .iadd, 0, 0, .null), (12, .iaload, 0, 0, .null), (13, .istore 5, 5, 0, .null), (15, .aload_n 0, 0, 0, .null), (16, .getfield 45, 3, 2, .null), (19, .getfield 118, 4, 1, .null), (22, .iload_n 1, 1, 0, .null), (23, .iconst 4, 0, 0, .int 4), (24, .imul, 0, 0, .null), (25, .iload_n 2, 2, 0, .null), (26, .iadd, 0, 0, .null), (27, .iconst 1, 0, 0, .int 1), (28, .iadd, 0, 0, .null), (29, .iaload, 0, 0, .null), (30, .istore 6, 6, 0, .null), (32, .aload_n 0, 0, 0, .null), (33, .getfield 45, 3, 2, .null), (36, .getfield 118, 4, 1, .null), (39, .aload_n 0, 0, 0, .null), (40, .getfield 15, 3, 6, .null), (43, .iload_n 3, 3, 0, .null), (44, .iaload, 0, 0, .null), (45, .iconst 4, 0, 0, .int 4), (46, .imul, 0, 0, .null), (47, .iload 4, 4, 0, .null), (49, .iadd, 0, 0, .null), (50, .iaload, 0, 0, .null), (51, .istore 7, 7, 0, .null), (53, .aload_n 0, 0, 0, .null), (54, .getfield 45, 3, 2, .null), (57, .getfield 118, 4, 1, .null), (60, .aload_n 0, 0, 0, .null), (61, .getfield 15, 3, 6, .null), (64, .iload_n 3, 3, 0, .null), (65, .iaload, 0, 0, .null), (66, .iconst 4, 0, 0, .int 4), (67, .imul, 0, 0, .null), (68, .iload 4, 4, 0, .null), (70, .iadd, 0, 0, .null), (71, .iconst 1, 0, 0, .int 1), (72, .iadd, 0, 0, .null), (73, .iaload, 0, 0, .null), (74, .istore 8, 8, 0, .null), (76, .iload 5, 5, 0, .null), (78, .iload 7, 7, 0, .null), (80, .if_icmp .ne 10, 90, 0, .null), (83, .iload 6, 6, 0, .null), (85, .iload 8, 8, 0, .null), (87, .if_icmp .eq 17, 104, 0, .null), (90, .iload 5, 5, 0, .null), (92, .iload 8, 8, 0, .null), (94, .if_icmp .ne 14, 108, 0, .null), (97, .iload 6, 6, 0, .null), (99, .iload 7, 7, 0, .null), (101, .if_icmp .ne 7, 108, 0, .null), (104, .iconst 1, 0, 0, .int 1), (105, .goto 4, 109, 0, .null), (108, .iconst 0, 0, 0, .int 0), (109, .istore 9, 9, 0, .null), (111, .iload 9, 9, 0, .null), (113, .ifCond .eq 57, 170, 0, .null), (116, .aload_n 0, 0, 0, .null), (117, .getfield 53, 3, 4, .null), (120, .getfield 101, 8, 5, .null), (123, .iload_n 2, 2, 0, .null), (124, .iaload, 0, 0, .null), (125, .aload_n 0, 0, 0, .null), (126, .getfield 31, 3, 11, .null), (129, .iload_n 3, 3, 0, .null), (130, .iconst 4, 0, 0, .int 4), (131, .imul, 0, 0, .null), (132, .iload 4, 4, 0, .null), (134, .iadd, 0, 0, .null), (135, .iconst 1, 0, 0, .int 1), (136, .iadd, 0, 0, .null), (137, .iaload, 0, 0, .null), (138, .if_icmp .ge 32, 170, 0, .null), (141, .aload_n 0, 0, 0, .null), (142, .getfield 31, 3, 11, .null), (145, .iload_n 3, 3, 0, .null), (146, .iconst 4, 0, 0, .int 4), (147, .imul, 0, 0, .null), (148, .iload 4, 4, 0, .null), (150, .iadd, 0, 0, .null), (151, .iaload, 0, 0, .null), (152, .aload_n 0, 0, 0, .null), (153, .getfield 53, 3, 4, .null), (156, .getfield 101, 8, 5, .null), (159, .iload_n 2, 2, 0, .null), (160, .iconst 1, 0, 0, .int 1), (161, .iadd, 0, 0, .null), (162, .iaload, 0, 0, .null), (163, .if_icmp .ge 7, 170, 0, .null), (166, .iconst 1, 0, 0, .int 1), (167, .goto 4, 171, 0, .null), (170, .iconst 0, 0, 0, .int 0), (171, .ireturn, 1, 0, .null)]
def v_Passages_meetInReach : List (Nat × List Nat) := [(0, [0, 1, 2, 3, 4])]
def s_Passages_meetInReach : List (Nat × Nat × List Op) := [(0, 172, o_Passages_meetInReach_0)]
set_option maxRecDepth 100000 in
theorem k_Passages_meetInReach : MOk P_Passages s_Passages_meetInReach 133 10 := ⟨P_Passages_ok, _, rfl, rfl, rfl, by decide +kernel⟩
def o_Passages_keepComing_0 : List Op := [(0, .iconst 0, 0, 0, .int 0), (1, .istore_n 2, 2, 0, .null)]
def o_Passages_keepComing_1 : List Op := [(2, .iload_n 2, 2, 0, .null), (3, .iconst 4, 0, 0, .int 4), (4, .if_icmp .ge 28, 32, 0, .null), (7, .aload_n 0, 0, 0, .null), (8, .getfield 31, 3, 11, .null), (11, .iload_n 1, 1, 0, .null), (12, .iconst 4, 0, 0, .int 4), (13, .imul, 0, 0, .null), (14, .iload_n 2, 2, 0, .null), (15, .iadd, 0, 0, .null), (16, .aload_n 0, 0, 0, .null), (17, .getfield 53, 3, 4, .null), (20, .getfield 101, 8, 5, .null), (23, .iload_n 2, 2, 0, .null), (24, .iaload, 0, 0, .null), (25, .iastore, 0, 0, .null), (26, .iinc 2 1, 2, 0, .int 1), (29, .goto (-27), 2, 0, .null), (32, .return_, 0, 0, .null)]
def v_Passages_keepComing : List (Nat × List Nat) := [(0, [0, 1]), (2, [0, 1, 2])]
def s_Passages_keepComing : List (Nat × Nat × List Op) := [(0, 2, o_Passages_keepComing_0), (2, 33, o_Passages_keepComing_1)]
set_option maxRecDepth 100000 in
theorem k_Passages_keepComing : MOk P_Passages s_Passages_keepComing 134 3 := ⟨P_Passages_ok, _, rfl, rfl, rfl, by decide +kernel⟩
def o_X_planned_0 : List Op := [(0, .aload_n 0, 0, 0, .null), (1, .iload_n 1, 1, 0, .null), (2, .invokevirtual 391, 136, 1, .ref 11), (5, .ifCond .eq 12, 17, 0, .null), (8, .iload_n 2, 2, 0, .null), (9, .iconst 0, 0, 0, .int 0), (10, .iconst 2, 0, 0, .int 2), (11, .invokestatic 107, 4, 3, .ref 0), (14, .ifCond .ne 6, 20, 0, .null), (17, .bipush (-2), 0, 0, .int (-2)), (19, .ireturn, 0, 0, .null), (20, .iload_n 2, 2, 0, .null), (21, .ifCond .ne 21, 42, 0, .null), (24, .aload_n 0, 0, 0, .null), (25, .getfield 92, 11, 10, .null), (28, .getfield 394, 3, 10, .null), (31, .iload_n 1, 1, 0, .null), (32, .baload, 0, 0, .null), (33, .ifCond .eq 7, 40, 0, .null), (36, .iconst 1, 0, 0, .int 1), (37, .goto 4, 41, 0, .null), (40, .iconst 0, 0, 0, .int 0), (41, .ireturn, 0, 0, .null), (42, .iload_n 2, 2, 0, .null), (43, .iconst 1, 0, 0, .int 1), (44, .if_icmp .ne 15, 59, 0, .null), (47, .aload_n 0, 0, 0, .null), (48, .getfield 92, 11, 10, .null), (51, .getfield 397, 3, 9, .null), (54, .iload_n 1, 1, 0, .null), (55, .iaload, 0, 0, .null), (56, .goto 12, 68, 0, .null), (59, .aload_n 0, 0, 0, .null), (60, .getfield 92, 11, 10, .null), (63, .getfield 400, 3, 8, .null), (66, .iload_n 1, 1, 0, .null), (67, .iaload, 0, 0, .null), (68, .ireturn, 0, 0, .null)]
def v_X_planned : List (Nat × List Nat) := [(0, [0, 1, 2])]
def s_X_planned : List (Nat × Nat × List Op) := [(0, 69, o_X_planned_0)]
set_option maxRecDepth 100000 in
theorem k_X_planned : MOk P_X s_X_planned 135 3 := ⟨P_X_ok, _, rfl, rfl, rfl, by decide +kernel⟩
def o_X_isPassage_0 : List Op := [(0, .iload_n 1, 1, 0, .null), (1, .ifCond .lt 18, 19, 0, .null), (4, .iload_n 1, 1, 0, .null), (5, .aload_n 0, 0, 0, .null), (6, .getfield 92, 11, 10, .null), (9, .getfield 427, 3, 13, .null), (12, .if_icmp .ge 7, 19, 0, .null), (15, .iconst 1, 0, 0, .int 1), (16, .goto 4, 20, 0, .null), (19, .iconst 0, 0, 0, .int 0), (20, .ireturn, 1, 0, .null)]
def v_X_isPassage : List (Nat × List Nat) := [(0, [0, 1])]
def s_X_isPassage : List (Nat × Nat × List Op) := [(0, 21, o_X_isPassage_0)]
set_option maxRecDepth 100000 in
theorem k_X_isPassage : MOk P_X s_X_isPassage 136 2 := ⟨P_X_ok, _, rfl, rfl, rfl, by decide +kernel⟩
def o_X_again_0 : List Op := [(0, .aload_n 0, 0, 0, .null), (1, .iload_n 1, 1, 0, .null), (2, .invokevirtual 391, 136, 1, .ref 11), (5, .ifCond .ne 6, 11, 0, .null), (8, .bipush (-2), 0, 0, .int (-2)), (10, .ireturn, 0, 0, .null), (11, .aload_n 0, 0, 0, .null), (12, .getfield 92, 11, 10, .null), (15, .getfield 394, 3, 10, .null), (18, .iload_n 1, 1, 0, .null), (19, .baload, 0, 0, .null), (20, .ifCond .eq 6, 26, 0, .null), (23, .bipush (-3), 0, 0, .int (-3)), (25, .ireturn, 0, 0, .null), (26, .aload_n 0, 0, 0, .null), (27, .getfield 92, 11, 10, .null), (30, .iload_n 1, 1, 0, .null), (31, .aload_n 0, 0, 0, .null), (32, .getfield 100, 11, 11, .null), (35, .invokevirtual 403, 126, 2, .ref 3), (38, .iconst 1, 0, 0, .int 1), (39, .ireturn, 0, 0, .null)]
def v_X_again : List (Nat × List Nat) := [(0, [0, 1])]
def s_X_again : List (Nat × Nat × List Op) := [(0, 40, o_X_again_0)]
set_option maxRecDepth 100000 in
theorem k_X_again : MOk P_X s_X_again 137 2 := ⟨P_X_ok, _, rfl, rfl, rfl, by decide +kernel⟩
def o_X_pass_0 : List Op := [(0, .aload_n 0, 0, 0, .null), (1, .iload_n 1, 1, 0, .null), (2, .invokevirtual 391, 136, 1, .ref 11), (5, .ifCond .ne 6, 11, 0, .null), (8, .bipush (-2), 0, 0, .int (-2)), (10, .ireturn, 0, 0, .null), (11, .aload_n 0, 0, 0, .null), (12, .getfield 39, 11, 0, .null), (15, .invokevirtual 140, 16, 0, .ref 0), (18, .ifCond .eq 6, 24, 0, .null), (21, .bipush (-4), 0, 0, .int (-4)), (23, .ireturn, 0, 0, .null), (24, .aload_n 0, 0, 0, .null), (25, .getfield 59, 11, 5, .null), (28, .iconst 0, 0, 0, .int 0), (29, .putfield 282, 5, 8, .null), (32, .aload_n 0, 0, 0, .null), (33, .getfield 92, 11, 10, .null), (36, .iload_n 1, 1, 0, .null), (37, .invokevirtual 406, 139, 1, .ref 3), (40, .istore_n 2, 2, 0, .null), (41, .iload_n 2, 2, 0, .null), (42, .ifCond .eq 14, 56, 0, .null), (45, .aload_n 0, 0, 0, .null), (46, .getfield 39, 11, 0, .null), (49, .iload_n 2, 2, 0, .null), (50, .invokevirtual 149, 18, 1, .ref 0), (53, .goto 4, 57, 0, .null), (56, .iconst 1, 0, 0, .int 1), (57, .ireturn, 0, 0, .null)]
def v_X_pass : List (Nat × List Nat) := [(0, [0, 1])]
def s_X_pass : List (Nat × Nat × List Op) := [(0, 58, o_X_pass_0)]
set_option maxRecDepth 100000 in
theorem k_X_pass : MOk P_X s_X_pass 138 3 := ⟨P_X_ok, _, rfl, rfl, rfl, by decide +kernel⟩
def o_Passages_goThrough_0 : List Op := [(0, .aload_n 0, 0, 0, .null), (1, .dup, 0, 0, .null), (2, .getfield 126, 3, 14, .null), (5, .iconst 1, 0, 0, .int 1), (6, .iadd, 0, 0, .null), (7, .putfield 126, 3, 14, .null), (10, .aload_n 0, 0, 0, .null), (11, .iconst 0, 0, 0, .int 0), (12, .putfield 129, 3, 16, .null), (15, .aload_n 0, 0, 0, .null), (16, .getfield 41, 3, 1, .null), (19, .aload_n 0, 0, 0, .null), (20, .getfield 9, 3, 5, .null), (23, .iload_n 1, 1, 0, .null), (24, .iaload, 0, 0, .null), (25, .iconst 0, 0, 0, .int 0), (26, .iconst 0, 0, 0, .int 0), (27, .invokevirtual 65, 79, 3, .ref 5), (30, .pop, 0, 0, .null), (31, .aload_n 0, 0, 0, .null), (32, .getfield 41, 3, 1, .null), (35, .getfield 71, 5, 10, .null), (38, .ifCond .eq 11, 49, 0, .null), (41, .aload_n 0, 0, 0, .null), (42, .getfield 41, 3, 1, .null), (45, .getfield 71, 5, 10, .null), (48, .ireturn, 0, 0, .null), (49, .aload_n 0, 0, 0, .null), (50, .aload_n 0, 0, 0, .null), (51, .getfield 15, 3, 6, .null), (54, .iload_n 1, 1, 0, .null), (55, .iaload, 0, 0, .null), (56, .invokevirtual 132, 140, 1, .ref 3), (59, .ifCond .eq 16, 75, 0, .null), (62, .aload_n 0, 0, 0, .null), (63, .aload_n 0, 0, 0, .null), (64, .getfield 9, 3, 5, .null), (67, .iload_n 1, 1, 0, .null), (68, .iaload, 0, 0, .null), (69, .invokevirtual 135, 141, 1, .ref 3), (72, .goto 5, 77, 0, .null), (75, .bipush 8, 0, 0, .int 8), (77, .istore_n 2, 2, 0, .null), (78, .aload_n 0, 0, 0, .null), (79, .invokevirtual 138, 142, 0, .ref 3), (82, .iload_n 2, 2, 0, .null), (83, .ireturn, 0, 0, .null)]
def v_Passages_goThrough : List (Nat × List Nat) := [(0, [0, 1])]
def s_Passages_goThrough : List (Nat × Nat × List Op) := [(0, 84, o_Passages_goThrough_0)]
set_option maxRecDepth 100000 in
theorem k_Passages_goThrough : MOk P_Passages s_Passages_goThrough 139 3 := ⟨P_Passages_ok, _, rfl, rfl, rfl, by decide +kernel⟩
def o_Passages_holdLocks_0 : List Op := [(0, .iconst 0, 0, 0, .int 0), (1, .istore_n 2, 2, 0, .null)]
def o_Passages_holdLocks_1 : List Op := [(2, .iload_n 2, 2, 0, .null), (3, .aload_n 0, 0, 0, .null), (4, .getfield 45, 3, 2, .null), (7, .getfield 106, 4, 0, .null), (10, .iload_n 1, 1, 0, .null), (11, .iaload, 0, 0, .null), (12, .if_icmp .ge 71, 83, 0, .null), (15, .aload_n 0, 0, 0, .null), (16, .getfield 45, 3, 2, .null), (19, .getfield 118, 4, 1, .null), (22, .iload_n 1, 1, 0, .null), (23, .iconst 4, 0, 0, .int 4), (24, .imul, 0, 0, .null), (25, .iload_n 2, 2, 0, .null), (26, .iadd, 0, 0, .null), (27, .iaload, 0, 0, .null), (28, .istore_n 3, 3, 0, .null), (29, .aload_n 0, 0, 0, .null), (30, .getfield 49, 3, 3, .null), (33, .getfield 121, 6, 3, .null), (36, .iload_n 3, 3, 0, .null), (37, .iaload, 0, 0, .null), (38, .ifCond .eq 39, 77, 0, .null), (41, .aload_n 0, 0, 0, .null), (42, .getfield 34, 3, 12, .null), (45, .iload_n 3, 3, 0, .null), (46, .baload, 0, 0, .null), (47, .ifCond .eq 5, 52, 0, .null), (50, .iconst 0, 0, 0, .int 0), (51, .ireturn, 1, 0, .null), (52, .aload_n 0, 0, 0, .null), (53, .getfield 34, 3, 12, .null), (56, .iload_n 3, 3, 0, .null), (57, .iconst 1, 0, 0, .int 1), (58, .bastore, 0, 0, .null), (59, .aload_n 0, 0, 0, .null), (60, .dup, 0, 0, .null), (61, .getfield 141, 3, 15, .null), (64, .iconst 1, 0, 0, .int 1), (65, .iadd, 0, 0, .null), (66, .putfield 141, 3, 15, .null), (69, .aload_n 0, 0, 0, .null), (70, .aload_n 0, 0, 0, .null), (71, .getfield 141, 3, 15, .null), (74, .putfield 129, 3, 16, .null), (77, .iinc 2 1, 2, 0, .int 1), (80, .goto (-78), 2, 0, .null), (83, .iconst 1, 0, 0, .int 1), (84, .ireturn, 1, 0, .null)]
def v_Passages_holdLocks : List (Nat × List Nat) := [(0, [0, 1]), (2, [0, 1, 2])]
def s_Passages_holdLocks : List (Nat × Nat × List Op) := [(0, 2, o_Passages_holdLocks_0), (2, 85, o_Passages_holdLocks_1)]
set_option maxRecDepth 100000 in
theorem k_Passages_holdLocks : MOk P_Passages s_Passages_holdLocks 140 4 := ⟨P_Passages_ok, _, rfl, rfl, rfl, by decide +kernel⟩
def o_Passages_askAtLast_0 : List Op := [(0, .aload_n 0, 0, 0, .null), (1, .getfield 41, 3, 1, .null), (4, .iload_n 1, 1, 0, .null), (5, .iconst 2, 0, 0, .int 2), (6, .iconst 0, 0, 0, .int 0), (7, .invokevirtual 65, 79, 3, .ref 5), (10, .pop, 0, 0, .null), (11, .aload_n 0, 0, 0, .null), (12, .getfield 41, 3, 1, .null), (15, .getfield 71, 5, 10, .null), (18, .ifCond .ne 14, 32, 0, .null), (21, .aload_n 0, 0, 0, .null), (22, .getfield 41, 3, 1, .null), (25, .iload_n 1, 1, 0, .null), (26, .iconst 3, 0, 0, .int 3), (27, .iconst 0, 0, 0, .int 0), (28, .invokevirtual 65, 79, 3, .ref 5), (31, .pop, 0, 0, .null), (32, .aload_n 0, 0, 0, .null), (33, .getfield 41, 3, 1, .null), (36, .getfield 71, 5, 10, .null), (39, .ireturn, 0, 0, .null)]
def v_Passages_askAtLast : List (Nat × List Nat) := [(0, [0, 1])]
def s_Passages_askAtLast : List (Nat × Nat × List Op) := [(0, 40, o_Passages_askAtLast_0)]
set_option maxRecDepth 100000 in
theorem k_Passages_askAtLast : MOk P_Passages s_Passages_askAtLast 141 2 := ⟨P_Passages_ok, _, rfl, rfl, rfl, by decide +kernel⟩
def o_Passages_freeAll_0 : List Op := [(0, .iconst 0, 0, 0, .int 0), (1, .istore_n 1, 1, 0, .null)]
def o_Passages_freeAll_1 : List Op := [(2, .iload_n 1, 1, 0, .null), (3, .bipush 16, 0, 0, .int 16), (5, .if_icmp .ge 16, 21, 0, .null), (8, .aload_n 0, 0, 0, .null), (9, .getfield 34, 3, 12, .null), (12, .iload_n 1, 1, 0, .null), (13, .iconst 0, 0, 0, .int 0), (14, .bastore, 0, 0, .null), (15, .iinc 1 1, 1, 0, .int 1), (18, .goto (-16), 2, 0, .null), (21, .aload_n 0, 0, 0, .null), (22, .iconst 0, 0, 0, .int 0), (23, .putfield 141, 3, 15, .null), (26, .return_, 0, 0, .null)]
def v_Passages_freeAll : List (Nat × List Nat) := [(0, [0]), (2, [0, 1])]
def s_Passages_freeAll : List (Nat × Nat × List Op) := [(0, 2, o_Passages_freeAll_0), (2, 27, o_Passages_freeAll_1)]
set_option maxRecDepth 100000 in
theorem k_Passages_freeAll : MOk P_Passages s_Passages_freeAll 142 2 := ⟨P_Passages_ok, _, rfl, rfl, rfl, by decide +kernel⟩
def o_X_tries_0 : List Op := [(0, .aload_n 0, 0, 0, .null), (1, .getfield 92, 11, 10, .null), (4, .getfield 409, 3, 14, .null), (7, .ireturn, 0, 0, .null)]
def v_X_tries : List (Nat × List Nat) := [(0, [0])]
def s_X_tries : List (Nat × Nat × List Op) := [(0, 8, o_X_tries_0)]
set_option maxRecDepth 100000 in
theorem k_X_tries : MOk P_X s_X_tries 143 1 := ⟨P_X_ok, _, rfl, rfl, rfl, by decide +kernel⟩
def o_X_held_0 : List Op := [(0, .iload_n 1, 1, 0, .null), (1, .iconst 0, 0, 0, .int 0), (2, .iconst 1, 0, 0, .int 1), (3, .invokestatic 107, 4, 3, .ref 0), (6, .ifCond .ne 6, 12, 0, .null), (9, .bipush (-2), 0, 0, .int (-2)), (11, .ireturn, 0, 0, .null), (12, .iload_n 1, 1, 0, .null), (13, .ifCond .ne 13, 26, 0, .null), (16, .aload_n 0, 0, 0, .null), (17, .getfield 92, 11, 10, .null), (20, .getfield 412, 3, 15, .null), (23, .goto 10, 33, 0, .null), (26, .aload_n 0, 0, 0, .null), (27, .getfield 92, 11, 10, .null), (30, .getfield 415, 3, 16, .null), (33, .ireturn, 0, 0, .null)]
def v_X_held : List (Nat × List Nat) := [(0, [0, 1])]
def s_X_held : List (Nat × Nat × List Op) := [(0, 34, o_X_held_0)]
set_option maxRecDepth 100000 in
theorem k_X_held : MOk P_X s_X_held 144 2 := ⟨P_X_ok, _, rfl, rfl, rfl, by decide +kernel⟩
def o_X_count_0 : List Op := [(0, .iload_n 1, 1, 0, .null), (1, .tableswitch 120 0 8 #[51, 56, 64, 72, 80, 88, 96, 104, 112], 0, 0, .null), (52, .aload_n 0, 0, 0, .null), (53, .getfield 100, 11, 11, .null), (56, .ireturn, 0, 0, .null), (57, .aload_n 0, 0, 0, .null), (58, .getfield 43, 11, 1, .null), (61, .getfield 418, 7, 9, .null), (64, .ireturn, 0, 0, .null), (65, .aload_n 0, 0, 0, .null), (66, .getfield 47, 11, 2, .null), (69, .getfield 421, 2, 9, .null), (72, .ireturn, 0, 0, .null), (73, .aload_n 0, 0, 0, .null), (74, .getfield 51, 11, 3, .null), (77, .getfield 422, 6, 8, .null), (80, .ireturn, 0, 0, .null), (81, .aload_n 0, 0, 0, .null), (82, .getfield 51, 11, 3, .null), (85, .getfield 423, 6, 9, .null), (88, .ireturn, 0, 0, .null), (89, .aload_n 0, 0, 0, .null), (90, .getfield 59, 11, 5, .null), (93, .getfield 426, 5, 9, .null), (96, .ireturn, 0, 0, .null), (97, .aload_n 0, 0, 0, .null), (98, .getfield 92, 11, 10, .null), (101, .getfield 427, 3, 13, .null), (104, .ireturn, 0, 0, .null), (105, .aload_n 0, 0, 0, .null), (106, .getfield 83, 11, 9, .null), (109, .getfield 369, 10, 2, .null), (112, .ireturn, 0, 0, .null), (113, .aload_n 0, 0, 0, .null), (114, .getfield 39, 11, 0, .null), (117, .getfield 428, 0, 0, .null), (120, .ireturn, 0, 0, .null), (121, .bipush (-2), 0, 0, .int (-2)), (123, .ireturn, 0, 0, .null)]
def v_X_count : List (Nat × List Nat) := [(0, [0, 1])]
def s_X_count : List (Nat × Nat × List Op) := [(0, 124, o_X_count_0)]
set_option maxRecDepth 100000 in
theorem k_X_count : MOk P_X s_X_count 145 2 := ⟨P_X_ok, _, rfl, rfl, rfl, by decide +kernel⟩
def o_X_finding_0 : List Op := [(0, .aload_n 0, 0, 0, .null), (1, .getfield 39, 11, 0, .null), (4, .getfield 431, 0, 1, .null), (7, .ireturn, 0, 0, .null)]
def v_X_finding : List (Nat × List Nat) := [(0, [0])]
def s_X_finding : List (Nat × Nat × List Op) := [(0, 8, o_X_finding_0)]
set_option maxRecDepth 100000 in
theorem k_X_finding : MOk P_X s_X_finding 146 1 := ⟨P_X_ok, _, rfl, rfl, rfl, by decide +kernel⟩
def o_X_digest_0 : List Op := [(0, .bipush 7, 0, 0, .int 7), (2, .istore_n 1, 1, 0, .null), (3, .iconst 0, 0, 0, .int 0), (4, .istore_n 2, 2, 0, .null)]
def o_X_digest_1 : List Op := [(5, .iload_n 2, 2, 0, .null), (6, .aload_n 0, 0, 0, .null), (7, .getfield 92, 11, 10, .null), (10, .getfield 427, 3, 13, .null), (13, .if_icmp .ge 24, 37, 0, .null), (16, .bipush 31, 0, 0, .int 31), (18, .iload_n 1, 1, 0, .null), (19, .imul, 0, 0, .null), (20, .aload_n 0, 0, 0, .null), (21, .getfield 92, 11, 10, .null), (24, .getfield 397, 3, 9, .null), (27, .iload_n 2, 2, 0, .null), (28, .iaload, 0, 0, .null), (29, .iadd, 0, 0, .null), (30, .istore_n 1, 1, 0, .null), (31, .iinc 2 1, 2, 0, .int 1), (34, .goto (-29), 5, 0, .null), (37, .iload_n 1, 1, 0, .null), (38, .ireturn, 0, 0, .null)]
def v_X_digest : List (Nat × List Nat) := [(0, [0]), (5, [0, 1, 2])]
def s_X_digest : List (Nat × Nat × List Op) := [(0, 5, o_X_digest_0), (5, 39, o_X_digest_1)]
set_option maxRecDepth 100000 in
theorem k_X_digest : MOk P_X s_X_digest 147 3 := ⟨P_X_ok, _, rfl, rfl, rfl, by decide +kernel⟩
def o_Double_doubleToLongBits_0 : List Op := [(0, .dload_n 0, 0, 0, .null), (1, .invokestatic 122, 158, 1, .ref 0), (4, .ifCond .ne 8, 12, 0, .null), (7, .dload_n 0, 0, 0, .null), (8, .invokestatic 134, 0, 0, .ref 2), (11, .lreturn, 0, 0, .null), (12, .ldc2_w 137, 0, 0, .long 9221120237041090560), (15, .lreturn, 0, 0, .null)]
def v_Double_doubleToLongBits : List (Nat × List Nat) := [(0, [0])]
def s_Double_doubleToLongBits : List (Nat × Nat × List Op) := [(0, 16, o_Double_doubleToLongBits_0)]
set_option maxRecDepth 100000 in
theorem k_Double_doubleToLongBits : MOk P_Double s_Double_doubleToLongBits 157 2 := ⟨P_Double_ok, _, rfl, rfl, rfl, by decide +kernel⟩
def o_Double_isNaN_0 : List Op := [(0, .dload_n 0, 0, 0, .null), (1, .dload_n 0, 0, 0, .null), (2, .dcmp .l, 0, 0, .null), (3, .ifCond .eq 7, 10, 0, .null), (6, .iconst 1, 0, 0, .int 1), (7, .goto 4, 11, 0, .null), (10, .iconst 0, 0, 0, .int 0), (11, .ireturn, 1, 0, .null)]
def v_Double_isNaN : List (Nat × List Nat) := [(0, [0])]
def s_Double_isNaN : List (Nat × Nat × List Op) := [(0, 12, o_Double_isNaN_0)]
set_option maxRecDepth 100000 in
theorem k_Double_isNaN : MOk P_Double s_Double_isNaN 158 2 := ⟨P_Double_ok, _, rfl, rfl, rfl, by decide +kernel⟩
end
section
def o_M_clock_0 : List Op := [(0, .iload_n 1, 1, 0, .null), (1, .invokestatic 226, 149, 1, .ref 0), (4, .ifCond .eq 11, 15, 0, .null), (7, .iload_n 1, 1, 0, .null), (8, .aload_n 0, 0, 0, .null), (9, .getfield 230, 12, 0, .null), (12, .if_icmp .ge 6, 18, 0, .null), (15, .bipush (-2), 0, 0, .int (-2)), (17, .ireturn, 0, 0, .null), (18, .aload_n 0, 0, 0, .null), (19, .iload_n 1, 1, 0, .null), (20, .putfield 230, 12, 0, .null), (23, .iconst 1, 0, 0, .int 1), (24, .ireturn, 0, 0, .null)]
def v_M_clock : List (Nat × List Nat) := [(0, [0, 1])]
def s_M_clock : List (Nat × Nat × List Op) := [(0, 25, o_M_clock_0)]
set_option maxRecDepth 100000 in
theorem k_M_clock : MOk P_M s_M_clock 148 2 := ⟨P_M_ok, _, rfl, rfl, rfl, by decide +kernel⟩
def o_M_isMoment_0 : List Op := [(0, .iload_n 0, 0, 0, .null), (1, .iconst 0, 0, 0, .int 0), (2, .ldc 215, 0, 0, .int 2591999), (4, .invokestatic 216, 150, 3, .ref 0), (7, .ireturn, 1, 0, .null)]
def v_M_isMoment : List (Nat × List Nat) := [(0, [0])]
def s_M_isMoment : List (Nat × Nat × List Op) := [(0, 8, o_M_isMoment_0)]
set_option maxRecDepth 100000 in
theorem k_M_isMoment : MOk P_M s_M_isMoment 149 1 := ⟨P_M_ok, _, rfl, rfl, rfl, by decide +kernel⟩
def o_M_in_0 : List Op := [(0, .iload_n 0, 0, 0, .null), (1, .iload_n 1, 1, 0, .null), (2, .if_icmp .lt 12, 14, 0, .null), (5, .iload_n 0, 0, 0, .null), (6, .iload_n 2, 2, 0, .null), (7, .if_icmp .gt 7, 14, 0, .null), (10, .iconst 1, 0, 0, .int 1), (11, .goto 4, 15, 0, .null), (14, .iconst 0, 0, 0, .int 0), (15, .ireturn, 1, 0, .null)]
def v_M_in : List (Nat × List Nat) := [(0, [0, 1, 2])]
def s_M_in : List (Nat × Nat × List Op) := [(0, 16, o_M_in_0)]
set_option maxRecDepth 100000 in
theorem k_M_in : MOk P_M s_M_in 150 3 := ⟨P_M_ok, _, rfl, rfl, rfl, by decide +kernel⟩
def o_M_mean_0 : List Op := [(0, .iload_n 1, 1, 0, .null), (1, .invokestatic 233, 152, 1, .ref 0), (4, .ifCond .eq 16, 20, 0, .null), (7, .iload_n 2, 2, 0, .null), (8, .sipush (-2000), 0, 0, .int (-2000)), (11, .sipush 2000, 0, 0, .int 2000), (14, .invokestatic 216, 150, 3, .ref 0), (17, .ifCond .ne 6, 23, 0, .null), (20, .ldc 236, 0, 0, .int (-100000)), (22, .ireturn, 0, 0, .null), (23, .aload_n 0, 0, 0, .null), (24, .getfield 7, 12, 3, .null), (27, .iload_n 1, 1, 0, .null), (28, .iaload, 0, 0, .null), (29, .istore_n 3, 3, 0, .null), (30, .aload_n 0, 0, 0, .null), (31, .getfield 7, 12, 3, .null), (34, .iload_n 1, 1, 0, .null), (35, .iload_n 2, 2, 0, .null), (36, .iastore, 0, 0, .null), (37, .iload_n 3, 3, 0, .null), (38, .ireturn, 0, 0, .null)]
def v_M_mean : List (Nat × List Nat) := [(0, [0, 1, 2])]
def s_M_mean : List (Nat × Nat × List Op) := [(0, 39, o_M_mean_0)]
set_option maxRecDepth 100000 in
theorem k_M_mean : MOk P_M s_M_mean 151 4 := ⟨P_M_ok, _, rfl, rfl, rfl, by decide +kernel⟩
def o_M_isStation_0 : List Op := [(0, .iload_n 0, 0, 0, .null), (1, .iconst 0, 0, 0, .int 0), (2, .bipush 11, 0, 0, .int 11), (4, .invokestatic 216, 150, 3, .ref 0), (7, .ireturn, 1, 0, .null)]
def v_M_isStation : List (Nat × List Nat) := [(0, [0])]
def s_M_isStation : List (Nat × Nat × List Op) := [(0, 8, o_M_isStation_0)]
set_option maxRecDepth 100000 in
theorem k_M_isStation : MOk P_M s_M_isStation 152 1 := ⟨P_M_ok, _, rfl, rfl, rfl, by decide +kernel⟩
def o_M_wave_0 : List Op := [(0, .iload_n 1, 1, 0, .null), (1, .invokestatic 233, 152, 1, .ref 0), (4, .ifCond .eq 35, 39, 0, .null), (7, .iload_n 2, 2, 0, .null), (8, .iconst 0, 0, 0, .int 0), (9, .sipush 9999, 0, 0, .int 9999), (12, .invokestatic 216, 150, 3, .ref 0), (15, .ifCond .eq 24, 39, 0, .null), (18, .iload_n 3, 3, 0, .null), (19, .iconst 0, 0, 0, .int 0), (20, .ldc 237, 0, 0, .int 60000), (22, .invokestatic 216, 150, 3, .ref 0), (25, .ifCond .eq 14, 39, 0, .null), (28, .iload 4, 4, 0, .null), (30, .iconst 0, 0, 0, .int 0), (31, .ldc 238, 0, 0, .int 65535), (33, .invokestatic 216, 150, 3, .ref 0), (36, .ifCond .ne 6, 42, 0, .null), (39, .bipush (-2), 0, 0, .int (-2)), (41, .ireturn, 0, 0, .null), (42, .aload_n 0, 0, 0, .null), (43, .getfield 13, 12, 4, .null), (46, .iload_n 1, 1, 0, .null), (47, .iaload, 0, 0, .null), (48, .bipush 8, 0, 0, .int 8), (50, .if_icmp .ne 6, 56, 0, .null), (53, .bipush (-4), 0, 0, .int (-4)), (55, .ireturn, 0, 0, .null), (56, .bipush 8, 0, 0, .int 8), (58, .iload_n 1, 1, 0, .null), (59, .imul, 0, 0, .null), (60, .aload_n 0, 0, 0, .null), (61, .getfield 13, 12, 4, .null), (64, .iload_n 1, 1, 0, .null), (65, .iaload, 0, 0, .null), (66, .iadd, 0, 0, .null), (67, .istore 5, 5, 0, .null), (69, .aload_n 0, 0, 0, .null), (70, .getfield 16, 12, 5, .null), (73, .iload 5, 5, 0, .null), (75, .iload_n 2, 2, 0, .null), (76, .iastore, 0, 0, .null), (77, .aload_n 0, 0, 0, .null), (78, .getfield 19, 12, 6, .null), (81, .iload 5, 5, 0, .null), (83, .iload_n 3, 3, 0, .null), (84, .iastore, 0, 0, .null), (85, .aload_n 0, 0, 0, .null), (86, .getfield 22, 12, 7, .null), (89, .iload 5, 5, 0, .null), (91, .iload 4, 4, 0, .null), (93, .iastore, 0, 0, .null), (94, .aload_n 0, 0, 0, .null), (95, .getfield 13, 12, 4, .null), (98, .iload_n 1, 1, 0, .null), (99, .dup2, 0, 0, .null), (100, .iaload, 0, 0, .null), (101, .iconst 1, 0, 0, .int 1), (102, .iadd, 0, 0, .null), (103, .iastore, 0, 0, .null), (104, .aload_n 0, 0, 0, .null), (105, .getfield 13, 12, 4, .null), (108, .iload_n 1, 1, 0, .null), (109, .iaload, 0, 0, .null), (110, .ireturn, 0, 0, .null)]
def v_M_wave : List (Nat × List Nat) := [(0, [0, 1, 2, 3, 4])]
def s_M_wave : List (Nat × Nat × List Op) := [(0, 111, o_M_wave_0)]
set_option maxRecDepth 100000 in
theorem k_M_wave : MOk P_M s_M_wave 153 6 := ⟨P_M_ok, _, rfl, rfl, rfl, by decide +kernel⟩
def o_M_survey_0 : List Op := [(0, .iload_n 1, 1, 0, .null), (1, .invokestatic 233, 152, 1, .ref 0), (4, .ifCond .eq 13, 17, 0, .null), (7, .iload_n 2, 2, 0, .null), (8, .iconst 0, 0, 0, .int 0), (9, .bipush 29, 0, 0, .int 29), (11, .invokestatic 216, 150, 3, .ref 0), (14, .ifCond .ne 6, 20, 0, .null), (17, .bipush (-2), 0, 0, .int (-2)), (19, .ireturn, 0, 0, .null), (20, .aload_n 0, 0, 0, .null), (21, .getfield 239, 12, 8, .null), (24, .bipush 60, 0, 0, .int 60), (26, .if_icmp .ne 6, 32, 0, .null), (29, .bipush (-4), 0, 0, .int (-4)), (31, .ireturn, 0, 0, .null), (32, .aload_n 0, 0, 0, .null), (33, .getfield 25, 12, 9, .null), (36, .aload_n 0, 0, 0, .null), (37, .getfield 239, 12, 8, .null), (40, .iload_n 1, 1, 0, .null), (41, .iastore, 0, 0, .null), (42, .aload_n 0, 0, 0, .null), (43, .getfield 28, 12, 10, .null), (46, .aload_n 0, 0, 0, .null), (47, .getfield 239, 12, 8, .null), (50, .iload_n 2, 2, 0, .null), (51, .iastore, 0, 0, .null), (52, .aload_n 0, 0, 0, .null), (53, .getfield 31, 12, 11, .null), (56, .aload_n 0, 0, 0, .null), (57, .getfield 239, 12, 8, .null), (60, .aload_n 0, 0, 0, .null), (61, .getfield 230, 12, 0, .null), (64, .iastore, 0, 0, .null), (65, .aload_n 0, 0, 0, .null), (66, .getfield 34, 12, 12, .null), (69, .aload_n 0, 0, 0, .null), (70, .getfield 239, 12, 8, .null), (73, .aload_n 0, 0, 0, .null), (74, .getfield 7, 12, 3, .null), (77, .iload_n 1, 1, 0, .null), (78, .iaload, 0, 0, .null), (79, .iastore, 0, 0, .null), (80, .aload_n 0, 0, 0, .null), (81, .getfield 37, 12, 13, .null), (84, .aload_n 0, 0, 0, .null), (85, .getfield 239, 12, 8, .null), (88, .aload_n 0, 0, 0, .null), (89, .getfield 13, 12, 4, .null), (92, .iload_n 1, 1, 0, .null), (93, .iaload, 0, 0, .null), (94, .iastore, 0, 0, .null), (95, .iconst 0, 0, 0, .int 0), (96, .istore_n 3, 3, 0, .null)]
def o_M_survey_1 : List Op := [(97, .iload_n 3, 3, 0, .null), (98, .aload_n 0, 0, 0, .null), (99, .getfield 13, 12, 4, .null), (102, .iload_n 1, 1, 0, .null), (103, .iaload, 0, 0, .null), (104, .if_icmp .ge 84, 188, 0, .null), (107, .aload_n 0, 0, 0, .null), (108, .getfield 40, 12, 14, .null), (111, .bipush 8, 0, 0, .int 8), (113, .aload_n 0, 0, 0, .null), (114, .getfield 239, 12, 8, .null), (117, .imul, 0, 0, .null), (118, .iload_n 3, 3, 0, .null), (119, .iadd, 0, 0, .null), (120, .aload_n 0, 0, 0, .null), (121, .getfield 16, 12, 5, .null), (124, .bipush 8, 0, 0, .int 8), (126, .iload_n 1, 1, 0, .null), (127, .imul, 0, 0, .null), (128, .iload_n 3, 3, 0, .null), (129, .iadd, 0, 0, .null), (130, .iaload, 0, 0, .null), (131, .iastore, 0, 0, .null), (132, .aload_n 0, 0, 0, .null), (133, .getfield 43, 12, 15, .null), (136, .bipush 8, 0, 0, .int 8), (138, .aload_n 0, 0, 0, .null), (139, .getfield 239, 12, 8, .null), (142, .imul, 0, 0, .null), (143, .iload_n 3, 3, 0, .null), (144, .iadd, 0, 0, .null), (145, .aload_n 0, 0, 0, .null), (146, .getfield 19, 12, 6, .null), (149, .bipush 8, 0, 0, .int 8), (151, .iload_n 1, 1, 0, .null), (152, .imul, 0, 0, .null), (153, .iload_n 3, 3, 0, .null), (154, .iadd, 0, 0, .null), (155, .iaload, 0, 0, .null), (156, .iastore, 0, 0, .null), (157, .aload_n 0, 0, 0, .null), (158, .getfield 46, 12, 16, .null), (161, .bipush 8, 0, 0, .int 8), (163, .aload_n 0, 0, 0, .null), (164, .getfield 239, 12, 8, .null), (167, .imul, 0, 0, .null), (168, .iload_n 3, 3, 0, .null), (169, .iadd, 0, 0, .null), (170, .aload_n 0, 0, 0, .null), (171, .getfield 22, 12, 7, .null), (174, .bipush 8, 0, 0, .int 8), (176, .iload_n 1, 1, 0, .null), (177, .imul, 0, 0, .null), (178, .iload_n 3, 3, 0, .null), (179, .iadd, 0, 0, .null), (180, .iaload, 0, 0, .null), (181, .iastore, 0, 0, .null), (182, .iinc 3 1, 3, 0, .int 1), (185, .goto (-88), 97, 0, .null), (188, .aload_n 0, 0, 0, .null), (189, .getfield 7, 12, 3, .null), (192, .iload_n 1, 1, 0, .null), (193, .iconst 0, 0, 0, .int 0), (194, .iastore, 0, 0, .null), (195, .aload_n 0, 0, 0, .null), (196, .getfield 13, 12, 4, .null), (199, .iload_n 1, 1, 0, .null), (200, .iconst 0, 0, 0, .int 0), (201, .iastore, 0, 0, .null), (202, .aload_n 0, 0, 0, .null), (203, .dup, 0, 0, .null), (204, .getfield 239, 12, 8, .null), (207, .iconst 1, 0, 0, .int 1), (208, .iadd, 0, 0, .null), (209, .putfield 239, 12, 8, .null), (212, .aload_n 0, 0, 0, .null), (213, .getfield 239, 12, 8, .null), (216, .ireturn, 0, 0, .null)]
def v_M_survey : List (Nat × List Nat) := [(0, [0, 1, 2]), (97, [0, 1, 3])]
def s_M_survey : List (Nat × Nat × List Op) := [(0, 97, o_M_survey_0), (97, 217, o_M_survey_1)]
set_option maxRecDepth 100000 in
theorem k_M_survey : MOk P_M s_M_survey 154 4 := ⟨P_M_ok, _, rfl, rfl, rfl, by decide +kernel⟩
def o_M_cos_0 : List Op := [(0, .iload_n 1, 1, 0, .null), (1, .invokestatic 254, 156, 1, .ref 0), (4, .invokestatic 258, 157, 1, .ref 0), (7, .lreturn, 0, 0, .null)]
def v_M_cos : List (Nat × List Nat) := [(0, [1])]
def s_M_cos : List (Nat × Nat × List Op) := [(0, 8, o_M_cos_0)]
set_option maxRecDepth 100000 in
theorem k_M_cos : MOk P_M s_M_cos 155 2 := ⟨P_M_ok, _, rfl, rfl, rfl, by decide +kernel⟩
def o_M_cosine_0 : List Op := [(0, .iload_n 0, 0, 0, .null), (1, .ldc 242, 0, 0, .int 65536), (3, .irem, 0, 0, .null), (4, .istore_n 1, 1, 0, .null), (5, .iload_n 1, 1, 0, .null), (6, .ifCond .ge 10, 16, 0, .null), (9, .iload_n 1, 1, 0, .null), (10, .ldc 242, 0, 0, .int 65536), (12, .iadd, 0, 0, .null), (13, .goto 4, 17, 0, .null), (16, .iload_n 1, 1, 0, .null), (17, .istore_n 1, 1, 0, .null), (18, .iload_n 1, 1, 0, .null), (19, .ldc 243, 0, 0, .int 32768), (21, .if_icmp .le 10, 31, 0, .null), (24, .ldc 242, 0, 0, .int 65536), (26, .iload_n 1, 1, 0, .null), (27, .isub, 0, 0, .null), (28, .goto 4, 32, 0, .null), (31, .iload_n 1, 1, 0, .null), (32, .istore_n 2, 2, 0, .null), (33, .iload_n 2, 2, 0, .null), (34, .sipush 16384, 0, 0, .int 16384), (37, .if_icmp .le 10, 47, 0, .null), (40, .ldc 243, 0, 0, .int 32768), (42, .iload_n 2, 2, 0, .null), (43, .isub, 0, 0, .null), (44, .goto 4, 48, 0, .null), (47, .iload_n 2, 2, 0, .null), (48, .istore_n 3, 3, 0, .null), (49, .iload_n 3, 3, 0, .null), (50, .i2d, 0, 0, .null), (51, .ldc2_w 244, 0, 0, .double 4670232813583204352), (54, .ddiv, 0, 0, .null), (55, .dstore 4, 4, 0, .null), (57, .dload 4, 4, 0, .null), (59, .dload 4, 4, 0, .null), (61, .dmul, 0, 0, .null), (62, .dstore 6, 6, 0, .null), (64, .dconst 1, 0, 0, .double 4607182418800017408), (65, .dload 6, 6, 0, .null), (67, .ldc2_w 246, 0, 0, .double 4608234912510526942), (70, .dload 6, 6, 0, .null), (72, .ldc2_w 248, 0, 0, .double 4598241323522939587), (75, .dload 6, 6, 0, .null), (77, .ldc2_w 250, 0, 0, .double 4581670710316679173), (80, .dload 6, 6, 0, .null), (82, .ldc2_w 252, 0, 0, .double 4561617902785116854), (85, .dmul, 0, 0, .null), (86, .dsub, 0, 0, .null), (87, .dmul, 0, 0, .null), (88, .dsub, 0, 0, .null), (89, .dmul, 0, 0, .null), (90, .dsub, 0, 0, .null), (91, .dmul, 0, 0, .null), (92, .dsub, 0, 0, .null), (93, .dstore 8, 8, 0, .null), (95, .iload_n 2, 2, 0, .null), (96, .sipush 16384, 0, 0, .int 16384), (99, .if_icmp .le 9, 108, 0, .null), (102, .dload 8, 8, 0, .null), (104, .dneg, 0, 0, .null), (105, .goto 5, 110, 0, .null), (108, .dload 8, 8, 0, .null), (110, .dreturn, 0, 0, .null)]
def v_M_cosine : List (Nat × List Nat) := [(0, [0])]
def s_M_cosine : List (Nat × Nat × List Op) := [(0, 111, o_M_cosine_0)]
set_option maxRecDepth 100000 in
theorem k_M_cosine : MOk P_M s_M_cosine 156 10 := ⟨P_M_ok, _, rfl, rfl, rfl, by decide +kernel⟩
def o_M_height_0 : List Op := [(0, .iload_n 1, 1, 0, .null), (1, .invokestatic 233, 152, 1, .ref 0), (4, .ifCond .eq 19, 23, 0, .null), (7, .aload_n 0, 0, 0, .null), (8, .iload_n 2, 2, 0, .null), (9, .iload_n 3, 3, 0, .null), (10, .invokevirtual 279, 160, 2, .ref 12), (13, .ifCond .eq 10, 23, 0, .null), (16, .aload_n 0, 0, 0, .null), (17, .invokevirtual 283, 161, 0, .ref 12), (20, .ifCond .eq 7, 27, 0, .null), (23, .ldc2_w 287, 0, 0, .long 9221120237041090560), (26, .lreturn, 0, 0, .null), (27, .aload_n 0, 0, 0, .null), (28, .iload_n 1, 1, 0, .null), (29, .iload_n 2, 2, 0, .null), (30, .iload_n 3, 3, 0, .null), (31, .invokevirtual 289, 162, 3, .ref 12), (34, .ifCond .ne 13, 47, 0, .null), (37, .aload_n 0, 0, 0, .null), (38, .iconst 1, 0, 0, .int 1), (39, .invokevirtual 292, 164, 1, .ref 12), (42, .pop, 0, 0, .null), (43, .ldc2_w 287, 0, 0, .long 9221120237041090560), (46, .lreturn, 0, 0, .null), (47, .aload_n 0, 0, 0, .null), (48, .getfield 275, 12, 17, .null), (51, .invokestatic 258, 157, 1, .ref 0), (54, .lreturn, 0, 0, .null)]
def v_M_height : List (Nat × List Nat) := [(0, [0, 1, 2, 3])]
def s_M_height : List (Nat × Nat × List Op) := [(0, 55, o_M_height_0)]
set_option maxRecDepth 100000 in
theorem k_M_height : MOk P_M s_M_height 159 4 := ⟨P_M_ok, _, rfl, rfl, rfl, by decide +kernel⟩
def o_M_isKnowing_0 : List Op := [(0, .iload_n 1, 1, 0, .null), (1, .invokestatic 226, 149, 1, .ref 0), (4, .ifCond .eq 19, 23, 0, .null), (7, .iload_n 2, 2, 0, .null), (8, .iconst 0, 0, 0, .int 0), (9, .aload_n 0, 0, 0, .null), (10, .getfield 230, 12, 0, .null), (13, .invokestatic 216, 150, 3, .ref 0), (16, .ifCond .eq 7, 23, 0, .null), (19, .iconst 1, 0, 0, .int 1), (20, .goto 4, 24, 0, .null), (23, .iconst 0, 0, 0, .int 0), (24, .ireturn, 1, 0, .null)]
def v_M_isKnowing : List (Nat × List Nat) := [(0, [0, 1, 2])]
def s_M_isKnowing : List (Nat × Nat × List Op) := [(0, 25, o_M_isKnowing_0)]
set_option maxRecDepth 100000 in
theorem k_M_isKnowing : MOk P_M s_M_isKnowing 160 3 := ⟨P_M_ok, _, rfl, rfl, rfl, by decide +kernel⟩
def o_M_isFull_0 : List Op := [(0, .aload_n 0, 0, 0, .null), (1, .getfield 220, 12, 2, .null), (4, .sipush 3000, 0, 0, .int 3000), (7, .if_icmp .lt 7, 14, 0, .null), (10, .iconst 1, 0, 0, .int 1), (11, .goto 4, 15, 0, .null), (14, .iconst 0, 0, 0, .int 0), (15, .ireturn, 1, 0, .null)]
def v_M_isFull : List (Nat × List Nat) := [(0, [0])]
def s_M_isFull : List (Nat × Nat × List Op) := [(0, 16, o_M_isFull_0)]
set_option maxRecDepth 100000 in
theorem k_M_isFull : MOk P_M s_M_isFull 161 1 := ⟨P_M_ok, _, rfl, rfl, rfl, by decide +kernel⟩
def o_M_rises_0 : List Op := [(0, .aload_n 0, 0, 0, .null), (1, .iload_n 1, 1, 0, .null), (2, .iload_n 2, 2, 0, .null), (3, .iload_n 3, 3, 0, .null), (4, .invokevirtual 265, 163, 3, .ref 12), (7, .istore 4, 4, 0, .null), (9, .iload 4, 4, 0, .null), (11, .iconst (-1), 0, 0, .int (-1)), (12, .if_icmp .ne 5, 17, 0, .null), (15, .iconst 0, 0, 0, .int 0), (16, .ireturn, 1, 0, .null), (17, .aload_n 0, 0, 0, .null), (18, .getfield 34, 12, 12, .null), (21, .iload 4, 4, 0, .null), (23, .iaload, 0, 0, .null), (24, .i2d, 0, 0, .null), (25, .ldc2_w 269, 0, 0, .double 4636737291354636288), (28, .ddiv, 0, 0, .null), (29, .dstore 5, 5, 0, .null), (31, .bipush 8, 0, 0, .int 8), (33, .iload 4, 4, 0, .null), (35, .imul, 0, 0, .null), (36, .istore 7, 7, 0, .null)]
def o_M_rises_1 : List Op := [(38, .iload 7, 7, 0, .null), (40, .bipush 8, 0, 0, .int 8), (42, .iload 4, 4, 0, .null), (44, .imul, 0, 0, .null), (45, .aload_n 0, 0, 0, .null), (46, .getfield 37, 12, 13, .null), (49, .iload 4, 4, 0, .null), (51, .iaload, 0, 0, .null), (52, .iadd, 0, 0, .null), (53, .if_icmp .ge 58, 111, 0, .null), (56, .aload_n 0, 0, 0, .null), (57, .getfield 43, 12, 15, .null), (60, .iload 7, 7, 0, .null), (62, .iaload, 0, 0, .null), (63, .i2l, 0, 0, .null), (64, .iload_n 2, 2, 0, .null), (65, .i2l, 0, 0, .null), (66, .lmul, 0, 0, .null), (67, .ldc2_w 271, 0, 0, .long 1000), (70, .ldiv, 0, 0, .null), (71, .l2i, 0, 0, .null), (72, .istore 8, 8, 0, .null), (74, .dload 5, 5, 0, .null), (76, .aload_n 0, 0, 0, .null), (77, .getfield 40, 12, 14, .null), (80, .iload 7, 7, 0, .null), (82, .iaload, 0, 0, .null), (83, .i2d, 0, 0, .null), (84, .ldc2_w 273, 0, 0, .double 4652007308841189376), (87, .ddiv, 0, 0, .null), (88, .aload_n 0, 0, 0, .null), (89, .getfield 46, 12, 16, .null), (92, .iload 7, 7, 0, .null), (94, .iaload, 0, 0, .null), (95, .iload 8, 8, 0, .null), (97, .iadd, 0, 0, .null), (98, .invokestatic 254, 156, 1, .ref 0), (101, .dmul, 0, 0, .null), (102, .dadd, 0, 0, .null), (103, .dstore 5, 5, 0, .null), (105, .iinc 7 1, 7, 0, .int 1), (108, .goto (-70), 38, 0, .null), (111, .aload_n 0, 0, 0, .null), (112, .dload 5, 5, 0, .null), (114, .putfield 275, 12, 17, .ref 2), (117, .iconst 1, 0, 0, .int 1), (118, .ireturn, 1, 0, .null)]
def v_M_rises : List (Nat × List Nat) := [(0, [0, 1, 2, 3]), (38, [0, 2, 4, 5, 7])]
def s_M_rises : List (Nat × Nat × List Op) := [(0, 38, o_M_rises_0), (38, 119, o_M_rises_1)]
set_option maxRecDepth 100000 in
theorem k_M_rises : MOk P_M s_M_rises 162 9 := ⟨P_M_ok, _, rfl, rfl, rfl, by decide +kernel⟩
def o_M_inForce_0 : List Op := [(0, .iconst (-1), 0, 0, .int (-1)), (1, .istore 4, 4, 0, .null), (3, .iconst 0, 0, 0, .int 0), (4, .istore 5, 5, 0, .null)]
def o_M_inForce_1 : List Op := [(6, .iload 5, 5, 0, .null), (8, .aload_n 0, 0, 0, .null), (9, .getfield 239, 12, 8, .null), (12, .if_icmp .ge 85, 97, 0, .null), (15, .aload_n 0, 0, 0, .null), (16, .getfield 25, 12, 9, .null), (19, .iload 5, 5, 0, .null), (21, .iaload, 0, 0, .null), (22, .iload_n 1, 1, 0, .null), (23, .if_icmp .ne 33, 56, 0, .null), (26, .aload_n 0, 0, 0, .null), (27, .getfield 31, 12, 11, .null), (30, .iload 5, 5, 0, .null), (32, .iaload, 0, 0, .null), (33, .iload_n 3, 3, 0, .null), (34, .if_icmp .gt 22, 56, 0, .null), (37, .aload_n 0, 0, 0, .null), (38, .getfield 28, 12, 10, .null), (41, .iload 5, 5, 0, .null), (43, .iaload, 0, 0, .null), (44, .iload_n 2, 2, 0, .null), (45, .ldc_w 264, 0, 0, .int 86400), (48, .idiv, 0, 0, .null), (49, .if_icmp .gt 7, 56, 0, .null), (52, .iconst 1, 0, 0, .int 1), (53, .goto 4, 57, 0, .null), (56, .iconst 0, 0, 0, .int 0), (57, .istore 6, 6, 0, .null), (59, .iload 6, 6, 0, .null), (61, .ifCond .eq 30, 91, 0, .null), (64, .iload 4, 4, 0, .null), (66, .iconst (-1), 0, 0, .int (-1)), (67, .if_icmp .eq 20, 87, 0, .null), (70, .aload_n 0, 0, 0, .null), (71, .getfield 28, 12, 10, .null), (74, .iload 5, 5, 0, .null), (76, .iaload, 0, 0, .null), (77, .aload_n 0, 0, 0, .null), (78, .getfield 28, 12, 10, .null), (81, .iload 4, 4, 0, .null), (83, .iaload, 0, 0, .null), (84, .if_icmp .lt 7, 91, 0, .null), (87, .iload 5, 5, 0, .null), (89, .istore 4, 4, 0, .null), (91, .iinc 5 1, 5, 0, .int 1), (94, .goto (-88), 6, 0, .null), (97, .iload 4, 4, 0, .null), (99, .ireturn, 0, 0, .null)]
def v_M_inForce : List (Nat × List Nat) := [(0, [0, 1, 2, 3]), (6, [0, 1, 2, 3, 4, 5])]
def s_M_inForce : List (Nat × Nat × List Op) := [(0, 6, o_M_inForce_0), (6, 100, o_M_inForce_1)]
set_option maxRecDepth 100000 in
theorem k_M_inForce : MOk P_M s_M_inForce 163 7 := ⟨P_M_ok, _, rfl, rfl, rfl, by decide +kernel⟩
def o_M_fails_0 : List Op := [(0, .aload_n 0, 0, 0, .null), (1, .iload_n 1, 1, 0, .null), (2, .putfield 223, 12, 1, .null), (5, .aload_n 0, 0, 0, .null), (6, .dup, 0, 0, .null), (7, .getfield 220, 12, 2, .null), (10, .iconst 1, 0, 0, .int 1), (11, .iadd, 0, 0, .null), (12, .putfield 220, 12, 2, .null), (15, .bipush (-10), 0, 0, .int (-10)), (17, .iload_n 1, 1, 0, .null), (18, .isub, 0, 0, .null), (19, .ireturn, 0, 0, .null)]
def v_M_fails : List (Nat × List Nat) := [(0, [0, 1])]
def s_M_fails : List (Nat × Nat × List Op) := [(0, 20, o_M_fails_0)]
set_option maxRecDepth 100000 in
theorem k_M_fails : MOk P_M s_M_fails 164 2 := ⟨P_M_ok, _, rfl, rfl, rfl, by decide +kernel⟩
def o_M_force_0 : List Op := [(0, .iload_n 1, 1, 0, .null), (1, .invokestatic 233, 152, 1, .ref 0), (4, .ifCond .eq 12, 16, 0, .null), (7, .aload_n 0, 0, 0, .null), (8, .iload_n 2, 2, 0, .null), (9, .iload_n 3, 3, 0, .null), (10, .invokevirtual 279, 160, 2, .ref 12), (13, .ifCond .ne 6, 19, 0, .null), (16, .bipush (-2), 0, 0, .int (-2)), (18, .ireturn, 0, 0, .null), (19, .aload_n 0, 0, 0, .null), (20, .invokevirtual 283, 161, 0, .ref 12), (23, .ifCond .eq 6, 29, 0, .null), (26, .bipush (-4), 0, 0, .int (-4)), (28, .ireturn, 0, 0, .null), (29, .aload_n 0, 0, 0, .null), (30, .iload_n 1, 1, 0, .null), (31, .iload_n 2, 2, 0, .null), (32, .iload_n 3, 3, 0, .null), (33, .invokevirtual 265, 163, 3, .ref 12), (36, .istore 4, 4, 0, .null), (38, .iload 4, 4, 0, .null), (40, .iconst (-1), 0, 0, .int (-1)), (41, .if_icmp .ne 11, 52, 0, .null), (44, .aload_n 0, 0, 0, .null), (45, .iconst 1, 0, 0, .int 1), (46, .invokevirtual 292, 164, 1, .ref 12), (49, .goto 10, 59, 0, .null), (52, .aload_n 0, 0, 0, .null), (53, .getfield 28, 12, 10, .null), (56, .iload 4, 4, 0, .null), (58, .iaload, 0, 0, .null), (59, .ireturn, 0, 0, .null)]
def v_M_force : List (Nat × List Nat) := [(0, [0, 1, 2, 3])]
def s_M_force : List (Nat × Nat × List Op) := [(0, 60, o_M_force_0)]
set_option maxRecDepth 100000 in
theorem k_M_force : MOk P_M s_M_force 165 5 := ⟨P_M_ok, _, rfl, rfl, rfl, by decide +kernel⟩
def o_M_gauge_0 : List Op := [(0, .iload_n 1, 1, 0, .null), (1, .invokestatic 233, 152, 1, .ref 0), (4, .ifCond .eq 22, 26, 0, .null), (7, .iload_n 2, 2, 0, .null), (8, .invokestatic 226, 149, 1, .ref 0), (11, .ifCond .eq 15, 26, 0, .null), (14, .iload_n 3, 3, 0, .null), (15, .bipush 60, 0, 0, .int 60), (17, .sipush 7200, 0, 0, .int 7200), (20, .invokestatic 216, 150, 3, .ref 0), (23, .ifCond .ne 6, 29, 0, .null), (26, .bipush (-2), 0, 0, .int (-2)), (28, .ireturn, 0, 0, .null), (29, .aload_n 0, 0, 0, .null), (30, .getfield 296, 12, 18, .null), (33, .bipush 10, 0, 0, .int 10), (35, .if_icmp .ne 6, 41, 0, .null), (38, .bipush (-4), 0, 0, .int (-4)), (40, .ireturn, 0, 0, .null), (41, .aload_n 0, 0, 0, .null), (42, .getfield 49, 12, 19, .null), (45, .aload_n 0, 0, 0, .null), (46, .getfield 296, 12, 18, .null), (49, .iload_n 1, 1, 0, .null), (50, .iastore, 0, 0, .null), (51, .aload_n 0, 0, 0, .null), (52, .getfield 52, 12, 20, .null), (55, .aload_n 0, 0, 0, .null), (56, .getfield 296, 12, 18, .null), (59, .iload_n 2, 2, 0, .null), (60, .iastore, 0, 0, .null), (61, .aload_n 0, 0, 0, .null), (62, .getfield 55, 12, 21, .null), (65, .aload_n 0, 0, 0, .null), (66, .getfield 296, 12, 18, .null), (69, .iload_n 3, 3, 0, .null), (70, .iastore, 0, 0, .null), (71, .aload_n 0, 0, 0, .null), (72, .dup, 0, 0, .null), (73, .getfield 296, 12, 18, .null), (76, .iconst 1, 0, 0, .int 1), (77, .iadd, 0, 0, .null), (78, .putfield 296, 12, 18, .null), (81, .aload_n 0, 0, 0, .null), (82, .getfield 296, 12, 18, .null), (85, .iconst 1, 0, 0, .int 1), (86, .isub, 0, 0, .null), (87, .ireturn, 0, 0, .null)]
def v_M_gauge : List (Nat × List Nat) := [(0, [0, 1, 2, 3])]
def s_M_gauge : List (Nat × Nat × List Op) := [(0, 88, o_M_gauge_0)]
set_option maxRecDepth 100000 in
theorem k_M_gauge : MOk P_M s_M_gauge 166 4 := ⟨P_M_ok, _, rfl, rfl, rfl, by decide +kernel⟩
def o_M_reading_0 : List Op := [(0, .aload_n 0, 0, 0, .null), (1, .iload_n 1, 1, 0, .null), (2, .invokevirtual 301, 168, 1, .ref 12), (5, .ifCond .eq 16, 21, 0, .null), (8, .iload_n 2, 2, 0, .null), (9, .sipush (-32768), 0, 0, .int (-32768)), (12, .sipush 32767, 0, 0, .int 32767), (15, .invokestatic 216, 150, 3, .ref 0), (18, .ifCond .ne 6, 24, 0, .null), (21, .bipush (-2), 0, 0, .int (-2)), (23, .ireturn, 0, 0, .null), (24, .aload_n 0, 0, 0, .null), (25, .iload_n 1, 1, 0, .null), (26, .aload_n 0, 0, 0, .null), (27, .getfield 62, 12, 23, .null), (30, .iload_n 1, 1, 0, .null), (31, .iaload, 0, 0, .null), (32, .invokevirtual 304, 169, 2, .ref 12), (35, .aload_n 0, 0, 0, .null), (36, .getfield 230, 12, 0, .null), (39, .if_icmp .le 6, 45, 0, .null), (42, .bipush (-3), 0, 0, .int (-3)), (44, .ireturn, 0, 0, .null), (45, .aload_n 0, 0, 0, .null), (46, .getfield 62, 12, 23, .null), (49, .iload_n 1, 1, 0, .null), (50, .iaload, 0, 0, .null), (51, .bipush 120, 0, 0, .int 120), (53, .if_icmp .eq 10, 63, 0, .null), (56, .aload_n 0, 0, 0, .null), (57, .invokevirtual 283, 161, 0, .ref 12), (60, .ifCond .eq 6, 66, 0, .null), (63, .bipush (-4), 0, 0, .int (-4)), (65, .ireturn, 0, 0, .null), (66, .aload_n 0, 0, 0, .null), (67, .getfield 58, 12, 22, .null), (70, .iload_n 1, 1, 0, .null), (71, .baload, 0, 0, .null), (72, .ifCond .eq 9, 81, 0, .null), (75, .aload_n 0, 0, 0, .null), (76, .iconst 1, 0, 0, .int 1), (77, .invokevirtual 292, 164, 1, .ref 12), (80, .ireturn, 0, 0, .null), (81, .bipush 120, 0, 0, .int 120), (83, .iload_n 1, 1, 0, .null), (84, .imul, 0, 0, .null), (85, .aload_n 0, 0, 0, .null), (86, .getfield 62, 12, 23, .null), (89, .iload_n 1, 1, 0, .null), (90, .iaload, 0, 0, .null), (91, .iadd, 0, 0, .null), (92, .istore 4, 4, 0, .null), (94, .aload_n 0, 0, 0, .null), (95, .getfield 65, 12, 24, .null), (98, .iload 4, 4, 0, .null), (100, .iload_n 2, 2, 0, .null), (101, .iastore, 0, 0, .null), (102, .aload_n 0, 0, 0, .null), (103, .getfield 68, 12, 25, .null), (106, .iload 4, 4, 0, .null), (108, .iload_n 3, 3, 0, .null), (109, .invokestatic 308, 170, 1, .ref 0), (112, .ifCond .eq 9, 121, 0, .null), (115, .ldc_w 311, 0, 0, .int 2143289344), (118, .goto 4, 122, 0, .null), (121, .iload_n 3, 3, 0, .null), (122, .iastore, 0, 0, .null), (123, .aload_n 0, 0, 0, .null), (124, .getfield 62, 12, 23, .null), (127, .iload_n 1, 1, 0, .null), (128, .dup2, 0, 0, .null), (129, .iaload, 0, 0, .null), (130, .iconst 1, 0, 0, .int 1), (131, .iadd, 0, 0, .null), (132, .iastore, 0, 0, .null), (133, .aload_n 0, 0, 0, .null), (134, .getfield 62, 12, 23, .null), (137, .iload_n 1, 1, 0, .null), (138, .iaload, 0, 0, .null), (139, .ireturn, 0, 0, .null)]
def v_M_reading : List (Nat × List Nat) := [(0, [0, 1, 2, 3])]
def s_M_reading : List (Nat × Nat × List Op) := [(0, 140, o_M_reading_0)]
set_option maxRecDepth 100000 in
theorem k_M_reading : MOk P_M s_M_reading 167 5 := ⟨P_M_ok, _, rfl, rfl, rfl, by decide +kernel⟩
def o_M_isGauge_0 : List Op := [(0, .iload_n 1, 1, 0, .null), (1, .iconst 0, 0, 0, .int 0), (2, .aload_n 0, 0, 0, .null), (3, .getfield 296, 12, 18, .null), (6, .iconst 1, 0, 0, .int 1), (7, .isub, 0, 0, .null), (8, .invokestatic 216, 150, 3, .ref 0), (11, .ireturn, 1, 0, .null)]
def v_M_isGauge : List (Nat × List Nat) := [(0, [0, 1])]
def s_M_isGauge : List (Nat × Nat × List Op) := [(0, 12, o_M_isGauge_0)]
set_option maxRecDepth 100000 in
theorem k_M_isGauge : MOk P_M s_M_isGauge 168 2 := ⟨P_M_ok, _, rfl, rfl, rfl, by decide +kernel⟩
def o_M_momentOf_0 : List Op := [(0, .aload_n 0, 0, 0, .null), (1, .getfield 52, 12, 20, .null), (4, .iload_n 1, 1, 0, .null), (5, .iaload, 0, 0, .null), (6, .iload_n 2, 2, 0, .null), (7, .aload_n 0, 0, 0, .null), (8, .getfield 55, 12, 21, .null), (11, .iload_n 1, 1, 0, .null), (12, .iaload, 0, 0, .null), (13, .imul, 0, 0, .null), (14, .iadd, 0, 0, .null), (15, .ireturn, 0, 0, .null)]
def v_M_momentOf : List (Nat × List Nat) := [(0, [0, 1, 2])]
def s_M_momentOf : List (Nat × Nat × List Op) := [(0, 16, o_M_momentOf_0)]
set_option maxRecDepth 100000 in
theorem k_M_momentOf : MOk P_M s_M_momentOf 169 3 := ⟨P_M_ok, _, rfl, rfl, rfl, by decide +kernel⟩
def o_M_isNoFloat_0 : List Op := [(0, .iload_n 0, 0, 0, .null), (1, .ldc_w 299, 0, 0, .int 2147483647), (4, .iand, 0, 0, .null), (5, .ldc_w 300, 0, 0, .int 2139095040), (8, .if_icmp .le 7, 15, 0, .null), (11, .iconst 1, 0, 0, .int 1), (12, .goto 4, 16, 0, .null), (15, .iconst 0, 0, 0, .int 0), (16, .ireturn, 1, 0, .null)]
def v_M_isNoFloat : List (Nat × List Nat) := [(0, [0])]
def s_M_isNoFloat : List (Nat × Nat × List Op) := [(0, 17, o_M_isNoFloat_0)]
set_option maxRecDepth 100000 in
theorem k_M_isNoFloat : MOk P_M s_M_isNoFloat 170 1 := ⟨P_M_ok, _, rfl, rfl, rfl, by decide +kernel⟩
def o_M_out_0 : List Op := [(0, .aload_n 0, 0, 0, .null), (1, .iload_n 1, 1, 0, .null), (2, .invokevirtual 301, 168, 1, .ref 12), (5, .ifCond .ne 6, 11, 0, .null), (8, .bipush (-2), 0, 0, .int (-2)), (10, .ireturn, 0, 0, .null), (11, .aload_n 0, 0, 0, .null), (12, .getfield 58, 12, 22, .null), (15, .iload_n 1, 1, 0, .null), (16, .baload, 0, 0, .null), (17, .istore_n 3, 3, 0, .null), (18, .aload_n 0, 0, 0, .null), (19, .getfield 58, 12, 22, .null), (22, .iload_n 1, 1, 0, .null), (23, .iload_n 2, 2, 0, .null), (24, .bastore, 0, 0, .null), (25, .iload_n 3, 3, 0, .null), (26, .iload_n 2, 2, 0, .null), (27, .if_icmp .ne 7, 34, 0, .null), (30, .iconst 0, 0, 0, .int 0), (31, .goto 4, 35, 0, .null), (34, .iconst 1, 0, 0, .int 1), (35, .ireturn, 0, 0, .null)]
def v_M_out : List (Nat × List Nat) := [(0, [0, 1, 2])]
def s_M_out : List (Nat × Nat × List Op) := [(0, 36, o_M_out_0)]
set_option maxRecDepth 100000 in
theorem k_M_out : MOk P_M s_M_out 171 4 := ⟨P_M_ok, _, rfl, rfl, rfl, by decide +kernel⟩
def o_M_at_0 : List Op := [(0, .aload_n 0, 0, 0, .null), (1, .iload_n 1, 1, 0, .null), (2, .invokevirtual 301, 168, 1, .ref 12), (5, .ifCond .eq 10, 15, 0, .null), (8, .aload_n 0, 0, 0, .null), (9, .invokevirtual 283, 161, 0, .ref 12), (12, .ifCond .eq 6, 18, 0, .null), (15, .ldc 236, 0, 0, .int (-100000)), (17, .ireturn, 0, 0, .null), (18, .aload_n 0, 0, 0, .null), (19, .iload_n 1, 1, 0, .null), (20, .iload_n 2, 2, 0, .null), (21, .invokevirtual 312, 173, 2, .ref 12), (24, .istore_n 3, 3, 0, .null), (25, .iload_n 3, 3, 0, .null), (26, .ifCond .eq 14, 40, 0, .null), (29, .aload_n 0, 0, 0, .null), (30, .iload_n 3, 3, 0, .null), (31, .invokevirtual 292, 164, 1, .ref 12), (34, .pop, 0, 0, .null), (35, .ldc 236, 0, 0, .int (-100000)), (37, .iload_n 3, 3, 0, .null), (38, .isub, 0, 0, .null), (39, .ireturn, 0, 0, .null), (40, .aload_n 0, 0, 0, .null), (41, .getfield 65, 12, 24, .null), (44, .bipush 120, 0, 0, .int 120), (46, .iload_n 1, 1, 0, .null), (47, .imul, 0, 0, .null), (48, .iload_n 2, 2, 0, .null), (49, .iadd, 0, 0, .null), (50, .iaload, 0, 0, .null), (51, .ireturn, 0, 0, .null)]
def v_M_at : List (Nat × List Nat) := [(0, [0, 1, 2])]
def s_M_at : List (Nat × Nat × List Op) := [(0, 52, o_M_at_0)]
set_option maxRecDepth 100000 in
theorem k_M_at : MOk P_M s_M_at 172 4 := ⟨P_M_ok, _, rfl, rfl, rfl, by decide +kernel⟩
def o_M_reads_0 : List Op := [(0, .aload_n 0, 0, 0, .null), (1, .getfield 58, 12, 22, .null), (4, .iload_n 1, 1, 0, .null), (5, .baload, 0, 0, .null), (6, .ifCond .eq 7, 13, 0, .null), (9, .iconst 1, 0, 0, .int 1), (10, .goto 24, 34, 0, .null), (13, .iload_n 2, 2, 0, .null), (14, .iconst 0, 0, 0, .int 0), (15, .aload_n 0, 0, 0, .null), (16, .getfield 62, 12, 23, .null), (19, .iload_n 1, 1, 0, .null), (20, .iaload, 0, 0, .null), (21, .iconst 1, 0, 0, .int 1), (22, .isub, 0, 0, .null), (23, .invokestatic 216, 150, 3, .ref 0), (26, .ifCond .ne 7, 33, 0, .null), (29, .iconst 2, 0, 0, .int 2), (30, .goto 4, 34, 0, .null), (33, .iconst 0, 0, 0, .int 0), (34, .ireturn, 0, 0, .null)]
def v_M_reads : List (Nat × List Nat) := [(0, [0, 1, 2])]
def s_M_reads : List (Nat × Nat × List Op) := [(0, 35, o_M_reads_0)]
set_option maxRecDepth 100000 in
theorem k_M_reads : MOk P_M s_M_reads 173 3 := ⟨P_M_ok, _, rfl, rfl, rfl, by decide +kernel⟩
def o_M_air_0 : List Op := [(0, .aload_n 0, 0, 0, .null), (1, .iload_n 1, 1, 0, .null), (2, .invokevirtual 301, 168, 1, .ref 12), (5, .ifCond .eq 10, 15, 0, .null), (8, .aload_n 0, 0, 0, .null), (9, .invokevirtual 283, 161, 0, .ref 12), (12, .ifCond .eq 7, 19, 0, .null), (15, .ldc_w 311, 0, 0, .int 2143289344), (18, .ireturn, 0, 0, .null), (19, .aload_n 0, 0, 0, .null), (20, .iload_n 1, 1, 0, .null), (21, .iload_n 2, 2, 0, .null), (22, .invokevirtual 312, 173, 2, .ref 12), (25, .istore_n 3, 3, 0, .null), (26, .iload_n 3, 3, 0, .null), (27, .ifCond .eq 13, 40, 0, .null), (30, .aload_n 0, 0, 0, .null), (31, .iload_n 3, 3, 0, .null), (32, .invokevirtual 292, 164, 1, .ref 12), (35, .pop, 0, 0, .null), (36, .ldc_w 311, 0, 0, .int 2143289344), (39, .ireturn, 0, 0, .null), (40, .aload_n 0, 0, 0, .null), (41, .getfield 68, 12, 25, .null), (44, .bipush 120, 0, 0, .int 120), (46, .iload_n 1, 1, 0, .null), (47, .imul, 0, 0, .null), (48, .iload_n 2, 2, 0, .null), (49, .iadd, 0, 0, .null), (50, .iaload, 0, 0, .null), (51, .ireturn, 0, 0, .null)]
def v_M_air : List (Nat × List Nat) := [(0, [0, 1, 2])]
def s_M_air : List (Nat × Nat × List Op) := [(0, 52, o_M_air_0)]
set_option maxRecDepth 100000 in
theorem k_M_air : MOk P_M s_M_air 174 4 := ⟨P_M_ok, _, rfl, rfl, rfl, by decide +kernel⟩
def o_M_compare_0 : List Op := [(0, .aload_n 0, 0, 0, .null), (1, .iload_n 1, 1, 0, .null), (2, .invokevirtual 301, 168, 1, .ref 12), (5, .ifCond .ne 6, 11, 0, .null), (8, .bipush (-2), 0, 0, .int (-2)), (10, .ireturn, 0, 0, .null), (11, .aload_n 0, 0, 0, .null), (12, .invokevirtual 283, 161, 0, .ref 12), (15, .ifCond .eq 6, 21, 0, .null), (18, .bipush (-4), 0, 0, .int (-4)), (20, .ireturn, 0, 0, .null), (21, .aload_n 0, 0, 0, .null), (22, .iload_n 1, 1, 0, .null), (23, .iload_n 2, 2, 0, .null), (24, .invokevirtual 312, 173, 2, .ref 12), (27, .istore 4, 4, 0, .null), (29, .iload 4, 4, 0, .null), (31, .ifCond .ne 12, 43, 0, .null), (34, .aload_n 0, 0, 0, .null), (35, .iload_n 1, 1, 0, .null), (36, .iload_n 3, 3, 0, .null), (37, .invokevirtual 312, 173, 2, .ref 12), (40, .goto 5, 45, 0, .null), (43, .iload 4, 4, 0, .null), (45, .istore 4, 4, 0, .null), (47, .iload 4, 4, 0, .null), (49, .ifCond .eq 10, 59, 0, .null), (52, .aload_n 0, 0, 0, .null), (53, .iload 4, 4, 0, .null), (55, .invokevirtual 292, 164, 1, .ref 12), (58, .ireturn, 0, 0, .null), (59, .aload_n 0, 0, 0, .null), (60, .getfield 68, 12, 25, .null), (63, .bipush 120, 0, 0, .int 120), (65, .iload_n 1, 1, 0, .null), (66, .imul, 0, 0, .null), (67, .iload_n 2, 2, 0, .null), (68, .iadd, 0, 0, .null), (69, .iaload, 0, 0, .null), (70, .invokestatic 315, 0, 0, .ref 1), (73, .fstore 5, 5, 0, .null), (75, .aload_n 0, 0, 0, .null), (76, .getfield 68, 12, 25, .null), (79, .bipush 120, 0, 0, .int 120), (81, .iload_n 1, 1, 0, .null), (82, .imul, 0, 0, .null), (83, .iload_n 3, 3, 0, .null), (84, .iadd, 0, 0, .null), (85, .iaload, 0, 0, .null), (86, .invokestatic 315, 0, 0, .ref 1), (89, .fstore 6, 6, 0, .null), (91, .fload 5, 5, 0, .null), (93, .fload 6, 6, 0, .null), (95, .fcmp .g, 0, 0, .null), (96, .ifCond .ge 7, 103, 0, .null), (99, .iconst 1, 0, 0, .int 1), (100, .goto 4, 104, 0, .null), (103, .iconst 0, 0, 0, .int 0), (104, .fload 5, 5, 0, .null), (106, .fload 6, 6, 0, .null), (108, .fcmp .g, 0, 0, .null), (109, .ifCond .gt 7, 116, 0, .null), (112, .iconst 2, 0, 0, .int 2), (113, .goto 4, 117, 0, .null), (116, .iconst 0, 0, 0, .int 0), (117, .iadd, 0, 0, .null), (118, .fload 5, 5, 0, .null), (120, .fload 6, 6, 0, .null), (122, .fcmp .l, 0, 0, .null), (123, .ifCond .le 7, 130, 0, .null), (126, .iconst 4, 0, 0, .int 4), (127, .goto 4, 131, 0, .null), (130, .iconst 0, 0, 0, .int 0), (131, .iadd, 0, 0, .null), (132, .fload 5, 5, 0, .null), (134, .fload 6, 6, 0, .null), (136, .fcmp .l, 0, 0, .null), (137, .ifCond .lt 8, 145, 0, .null), (140, .bipush 8, 0, 0, .int 8), (142, .goto 4, 146, 0, .null), (145, .iconst 0, 0, 0, .int 0), (146, .iadd, 0, 0, .null), (147, .istore 7, 7, 0, .null), (149, .iload 7, 7, 0, .null), (151, .fload 5, 5, 0, .null), (153, .fload 6, 6, 0, .null), (155, .fcmp .l, 0, 0, .null), (156, .ifCond .ne 8, 164, 0, .null), (159, .bipush 16, 0, 0, .int 16), (161, .goto 4, 165, 0, .null), (164, .iconst 0, 0, 0, .int 0), (165, .iadd, 0, 0, .null), (166, .fload 5, 5, 0, .null), (168, .fload 6, 6, 0, .null), (170, .fcmp .l, 0, 0, .null), (171, .ifCond .eq 8, 179, 0, .null), (174, .bipush 32, 0, 0, .int 32), (176, .goto 4, 180, 0, .null), (179, .iconst 0, 0, 0, .int 0), (180, .iadd, 0, 0, .null), (181, .ireturn, 0, 0, .null)]
def v_M_compare : List (Nat × List Nat) := [(0, [0, 1, 2, 3])]
def s_M_compare : List (Nat × Nat × List Op) := [(0, 182, o_M_compare_0)]
set_option maxRecDepth 100000 in
theorem k_M_compare : MOk P_M s_M_compare 175 8 := ⟨P_M_ok, _, rfl, rfl, rfl, by decide +kernel⟩
def o_M_rule_0 : List Op := [(0, .iload_n 1, 1, 0, .null), (1, .iconst 0, 0, 0, .int 0), (2, .iconst 2, 0, 0, .int 2), (3, .invokestatic 216, 150, 3, .ref 0), (6, .ifCond .eq 32, 38, 0, .null), (9, .iload_n 2, 2, 0, .null), (10, .iconst 1, 0, 0, .int 1), (11, .iload_n 1, 1, 0, .null), (12, .ifCond .ne 8, 20, 0, .null), (15, .bipush 9, 0, 0, .int 9), (17, .goto 15, 32, 0, .null), (20, .iload_n 1, 1, 0, .null), (21, .iconst 1, 0, 0, .int 1), (22, .if_icmp .ne 8, 30, 0, .null), (25, .bipush 48, 0, 0, .int 48), (27, .goto 5, 32, 0, .null), (30, .bipush 60, 0, 0, .int 60), (32, .invokestatic 216, 150, 3, .ref 0), (35, .ifCond .ne 6, 41, 0, .null), (38, .bipush (-2), 0, 0, .int (-2)), (40, .ireturn, 0, 0, .null), (41, .iload_n 1, 1, 0, .null), (42, .ifCond .ne 10, 52, 0, .null), (45, .aload_n 0, 0, 0, .null), (46, .getfield 71, 12, 26, .null), (49, .goto 19, 68, 0, .null), (52, .iload_n 1, 1, 0, .null), (53, .iconst 1, 0, 0, .int 1), (54, .if_icmp .ne 10, 64, 0, .null), (57, .aload_n 0, 0, 0, .null), (58, .getfield 75, 12, 27, .null), (61, .goto 7, 68, 0, .null), (64, .aload_n 0, 0, 0, .null), (65, .getfield 78, 12, 28, .null), (68, .istore_n 3, 3, 0, .null), (69, .iload_n 1, 1, 0, .null), (70, .ifCond .ne 11, 81, 0, .null), (73, .aload_n 0, 0, 0, .null), (74, .iload_n 2, 2, 0, .null), (75, .putfield 71, 12, 26, .null), (78, .goto 21, 99, 0, .null), (81, .iload_n 1, 1, 0, .null), (82, .iconst 1, 0, 0, .int 1), (83, .if_icmp .ne 11, 94, 0, .null), (86, .aload_n 0, 0, 0, .null), (87, .iload_n 2, 2, 0, .null), (88, .putfield 75, 12, 27, .null), (91, .goto 8, 99, 0, .null), (94, .aload_n 0, 0, 0, .null), (95, .iload_n 2, 2, 0, .null), (96, .putfield 78, 12, 28, .null), (99, .iload_n 3, 3, 0, .null), (100, .ireturn, 0, 0, .null)]
def v_M_rule : List (Nat × List Nat) := [(0, [0, 1, 2])]
def s_M_rule : List (Nat × Nat × List Op) := [(0, 101, o_M_rule_0)]
set_option maxRecDepth 100000 in
theorem k_M_rule : MOk P_M s_M_rule 176 4 := ⟨P_M_ok, _, rfl, rfl, rfl, by decide +kernel⟩
def o_M_surge_0 : List Op := [(0, .aload_n 0, 0, 0, .null), (1, .iload_n 1, 1, 0, .null), (2, .invokevirtual 301, 168, 1, .ref 12), (5, .ifCond .eq 17, 22, 0, .null), (8, .iload_n 2, 2, 0, .null), (9, .invokestatic 226, 149, 1, .ref 0), (12, .ifCond .eq 10, 22, 0, .null), (15, .aload_n 0, 0, 0, .null), (16, .invokevirtual 283, 161, 0, .ref 12), (19, .ifCond .eq 7, 26, 0, .null), (22, .ldc2_w 287, 0, 0, .long 9221120237041090560), (25, .lreturn, 0, 0, .null), (26, .aload_n 0, 0, 0, .null), (27, .getfield 58, 12, 22, .null), (30, .iload_n 1, 1, 0, .null), (31, .baload, 0, 0, .null), (32, .ifCond .eq 13, 45, 0, .null), (35, .aload_n 0, 0, 0, .null), (36, .iconst 1, 0, 0, .int 1), (37, .invokevirtual 292, 164, 1, .ref 12), (40, .pop, 0, 0, .null), (41, .ldc2_w 287, 0, 0, .long 9221120237041090560), (44, .lreturn, 0, 0, .null), (45, .aload_n 0, 0, 0, .null), (46, .iload_n 1, 1, 0, .null), (47, .iload_n 2, 2, 0, .null), (48, .invokevirtual 329, 178, 2, .ref 12), (51, .istore_n 3, 3, 0, .null), (52, .aload_n 0, 0, 0, .null), (53, .aload_n 0, 0, 0, .null), (54, .getfield 321, 12, 32, .null), (57, .putfield 332, 12, 29, .null), (60, .iload_n 3, 3, 0, .null), (61, .ifCond .eq 13, 74, 0, .null), (64, .aload_n 0, 0, 0, .null), (65, .iload_n 3, 3, 0, .null), (66, .invokevirtual 292, 164, 1, .ref 12), (69, .pop, 0, 0, .null), (70, .ldc2_w 287, 0, 0, .long 9221120237041090560), (73, .lreturn, 0, 0, .null), (74, .aload_n 0, 0, 0, .null), (75, .getfield 326, 12, 31, .null), (78, .invokestatic 258, 157, 1, .ref 0), (81, .lreturn, 0, 0, .null)]
def v_M_surge : List (Nat × List Nat) := [(0, [0, 1, 2])]
def s_M_surge : List (Nat × Nat × List Op) := [(0, 82, o_M_surge_0)]
set_option maxRecDepth 100000 in
theorem k_M_surge : MOk P_M s_M_surge 177 4 := ⟨P_M_ok, _, rfl, rfl, rfl, by decide +kernel⟩
def o_M_surges_0 : List Op := [(0, .iconst 0, 0, 0, .int 0), (1, .istore_n 3, 3, 0, .null)]
def o_M_surges_1 : List Op := [(2, .iload_n 3, 3, 0, .null), (3, .aload_n 0, 0, 0, .null), (4, .getfield 62, 12, 23, .null), (7, .iload_n 1, 1, 0, .null), (8, .iaload, 0, 0, .null), (9, .if_icmp .ge 19, 28, 0, .null), (12, .aload_n 0, 0, 0, .null), (13, .iload_n 1, 1, 0, .null), (14, .iload_n 3, 3, 0, .null), (15, .invokevirtual 304, 169, 2, .ref 12), (18, .iload_n 2, 2, 0, .null), (19, .if_icmp .gt 9, 28, 0, .null), (22, .iinc 3 1, 3, 0, .int 1), (25, .goto (-23), 2, 0, .null), (28, .aload_n 0, 0, 0, .null), (29, .iconst 0, 0, 0, .int 0), (30, .putfield 321, 12, 32, .null), (33, .iconst 0, 0, 0, .int 0), (34, .istore 4, 4, 0, .null), (36, .iconst 0, 0, 0, .int 0), (37, .istore 5, 5, 0, .null), (39, .iload_n 3, 3, 0, .null), (40, .aload_n 0, 0, 0, .null), (41, .getfield 71, 12, 26, .null), (44, .if_icmp .ge 7, 51, 0, .null), (47, .iconst 0, 0, 0, .int 0), (48, .goto 9, 57, 0, .null), (51, .iload_n 3, 3, 0, .null), (52, .aload_n 0, 0, 0, .null), (53, .getfield 71, 12, 26, .null), (56, .isub, 0, 0, .null), (57, .istore 6, 6, 0, .null)]
def o_M_surges_2 : List Op := [(59, .iload 6, 6, 0, .null), (61, .iload_n 3, 3, 0, .null), (62, .if_icmp .ge 151, 213, 0, .null), (65, .aload_n 0, 0, 0, .null), (66, .getfield 65, 12, 24, .null), (69, .bipush 120, 0, 0, .int 120), (71, .iload_n 1, 1, 0, .null), (72, .imul, 0, 0, .null), (73, .iload 6, 6, 0, .null), (75, .iadd, 0, 0, .null), (76, .iaload, 0, 0, .null), (77, .istore 7, 7, 0, .null), (79, .iload 7, 7, 0, .null), (81, .sipush (-32768), 0, 0, .int (-32768)), (84, .if_icmp .eq 27, 111, 0, .null), (87, .aload_n 0, 0, 0, .null), (88, .aload_n 0, 0, 0, .null), (89, .getfield 49, 12, 19, .null), (92, .iload_n 1, 1, 0, .null), (93, .iaload, 0, 0, .null), (94, .aload_n 0, 0, 0, .null), (95, .iload_n 1, 1, 0, .null), (96, .iload 6, 6, 0, .null), (98, .invokevirtual 304, 169, 2, .ref 12), (101, .aload_n 0, 0, 0, .null), (102, .getfield 230, 12, 0, .null), (105, .invokevirtual 289, 162, 3, .ref 12), (108, .ifCond .ne 16, 124, 0, .null), (111, .aload_n 0, 0, 0, .null), (112, .dup, 0, 0, .null), (113, .getfield 321, 12, 32, .null), (116, .iconst 1, 0, 0, .int 1), (117, .iadd, 0, 0, .null), (118, .putfield 321, 12, 32, .null), (121, .goto 86, 207, 0, .null), (124, .iload 7, 7, 0, .null), (126, .i2d, 0, 0, .null), (127, .ldc2_w 269, 0, 0, .double 4636737291354636288), (130, .ddiv, 0, 0, .null), (131, .aload_n 0, 0, 0, .null), (132, .getfield 275, 12, 17, .null), (135, .dsub, 0, 0, .null), (136, .dstore 8, 8, 0, .null), (138, .iload 4, 4, 0, .null), (140, .istore 10, 10, 0, .null)]
def o_M_surges_3 : List Op := [(142, .iload 10, 10, 0, .null), (144, .ifCond .le 40, 184, 0, .null), (147, .dload 8, 8, 0, .null), (149, .aload_n 0, 0, 0, .null), (150, .getfield 81, 12, 30, .null), (153, .iload 10, 10, 0, .null), (155, .iconst 1, 0, 0, .int 1), (156, .isub, 0, 0, .null), (157, .daload, 0, 0, .null), (158, .dcmp .g, 0, 0, .null), (159, .ifCond .ge 25, 184, 0, .null), (162, .aload_n 0, 0, 0, .null), (163, .getfield 81, 12, 30, .null), (166, .iload 10, 10, 0, .null), (168, .aload_n 0, 0, 0, .null), (169, .getfield 81, 12, 30, .null), (172, .iload 10, 10, 0, .null), (174, .iconst 1, 0, 0, .int 1), (175, .isub, 0, 0, .null), (176, .daload, 0, 0, .null), (177, .dastore, 0, 0, .null), (178, .iinc 10 (-1), 10, 0, .int (-1)), (181, .goto (-39), 142, 0, .null), (184, .aload_n 0, 0, 0, .null), (185, .getfield 81, 12, 30, .null), (188, .iload 10, 10, 0, .null), (190, .dload 8, 8, 0, .null), (192, .dastore, 0, 0, .null), (193, .iinc 4 1, 4, 0, .int 1), (196, .iload_n 2, 2, 0, .null), (197, .aload_n 0, 0, 0, .null), (198, .iload_n 1, 1, 0, .null), (199, .iload 6, 6, 0, .null), (201, .invokevirtual 304, 169, 2, .ref 12), (204, .isub, 0, 0, .null), (205, .istore 5, 5, 0, .null)]
def o_M_surges_4 : List Op := [(207, .iinc 6 1, 6, 0, .int 1), (210, .goto (-151), 59, 0, .null)]
def o_M_surges_5 : List Op := [(213, .iload 4, 4, 0, .null), (215, .ifCond .ne 6, 221, 0, .null), (218, .bipush 7, 0, 0, .int 7), (220, .ireturn, 0, 0, .null), (221, .aload_n 0, 0, 0, .null), (222, .getfield 75, 12, 27, .null), (225, .sipush 3600, 0, 0, .int 3600), (228, .imul, 0, 0, .null), (229, .istore 6, 6, 0, .null), (231, .aload_n 0, 0, 0, .null), (232, .iload 5, 5, 0, .null), (234, .iload 6, 6, 0, .null), (236, .if_icmp .lt 7, 243, 0, .null), (239, .dconst 0, 0, 0, .double 0), (240, .goto 31, 271, 0, .null), (243, .aload_n 0, 0, 0, .null), (244, .getfield 81, 12, 30, .null), (247, .iload 4, 4, 0, .null), (249, .iconst 1, 0, 0, .int 1), (250, .isub, 0, 0, .null), (251, .iconst 2, 0, 0, .int 2), (252, .idiv, 0, 0, .null), (253, .daload, 0, 0, .null), (254, .iload 6, 6, 0, .null), (256, .iload 5, 5, 0, .null), (258, .isub, 0, 0, .null), (259, .i2d, 0, 0, .null), (260, .aload_n 0, 0, 0, .null), (261, .getfield 75, 12, 27, .null), (264, .i2d, 0, 0, .null), (265, .ldc2_w 324, 0, 0, .double 4660134898793709568), (268, .dmul, 0, 0, .null), (269, .ddiv, 0, 0, .null), (270, .dmul, 0, 0, .null), (271, .putfield 326, 12, 31, .ref 2), (274, .iconst 0, 0, 0, .int 0), (275, .ireturn, 0, 0, .null)]
def v_M_surges : List (Nat × List Nat) := [(0, [0, 1, 2]), (2, [0, 1, 2, 3]), (59, [0, 1, 2, 3, 4, 5, 6]), (142, [0, 1, 2, 3, 4, 6, 8, 10]), (207, [0, 1, 2, 3, 4, 5, 6]), (213, [0, 4, 5])]
def s_M_surges : List (Nat × Nat × List Op) := [(0, 2, o_M_surges_0), (2, 59, o_M_surges_1), (59, 142, o_M_surges_2), (142, 207, o_M_surges_3), (207, 213, o_M_surges_4), (213, 276, o_M_surges_5)]
set_option maxRecDepth 100000 in
theorem k_M_surges : MOk P_M s_M_surges 178 11 := ⟨P_M_ok, _, rfl, rfl, rfl, by decide +kernel⟩
def o_M_lacking_0 : List Op := [(0, .aload_n 0, 0, 0, .null), (1, .getfield 332, 12, 29, .null), (4, .ireturn, 0, 0, .null)]
def v_M_lacking : List (Nat × List Nat) := [(0, [0])]
def s_M_lacking : List (Nat × Nat × List Op) := [(0, 5, o_M_lacking_0)]
set_option maxRecDepth 100000 in
theorem k_M_lacking : MOk P_M s_M_lacking 179 1 := ⟨P_M_ok, _, rfl, rfl, rfl, by decide +kernel⟩
def o_M_shoal_0 : List Op := [(0, .iload_n 1, 1, 0, .null), (1, .invokestatic 233, 152, 1, .ref 0), (4, .ifCond .eq 27, 31, 0, .null), (7, .iload_n 2, 2, 0, .null), (8, .sipush (-1000), 0, 0, .int (-1000)), (11, .sipush 5000, 0, 0, .int 5000), (14, .invokestatic 216, 150, 3, .ref 0), (17, .ifCond .eq 14, 31, 0, .null), (20, .iload_n 3, 3, 0, .null), (21, .iconst 0, 0, 0, .int 0), (22, .sipush 7200, 0, 0, .int 7200), (25, .invokestatic 216, 150, 3, .ref 0), (28, .ifCond .ne 6, 34, 0, .null), (31, .bipush (-2), 0, 0, .int (-2)), (33, .ireturn, 0, 0, .null), (34, .aload_n 0, 0, 0, .null), (35, .getfield 335, 12, 33, .null), (38, .bipush 16, 0, 0, .int 16), (40, .if_icmp .ne 6, 46, 0, .null), (43, .bipush (-4), 0, 0, .int (-4)), (45, .ireturn, 0, 0, .null), (46, .aload_n 0, 0, 0, .null), (47, .getfield 85, 12, 34, .null), (50, .aload_n 0, 0, 0, .null), (51, .getfield 335, 12, 33, .null), (54, .iload_n 1, 1, 0, .null), (55, .iastore, 0, 0, .null), (56, .aload_n 0, 0, 0, .null), (57, .getfield 88, 12, 35, .null), (60, .aload_n 0, 0, 0, .null), (61, .getfield 335, 12, 33, .null), (64, .iload_n 3, 3, 0, .null), (65, .iastore, 0, 0, .null), (66, .aload_n 0, 0, 0, .null), (67, .aload_n 0, 0, 0, .null), (68, .getfield 335, 12, 33, .null), (71, .iconst 0, 0, 0, .int 0), (72, .iload_n 2, 2, 0, .null), (73, .invokevirtual 341, 181, 3, .ref 12), (76, .aload_n 0, 0, 0, .null), (77, .dup, 0, 0, .null), (78, .getfield 335, 12, 33, .null), (81, .iconst 1, 0, 0, .int 1), (82, .iadd, 0, 0, .null), (83, .putfield 335, 12, 33, .null), (86, .aload_n 0, 0, 0, .null), (87, .getfield 335, 12, 33, .null), (90, .iconst 1, 0, 0, .int 1), (91, .isub, 0, 0, .null), (92, .ireturn, 0, 0, .null)]
def v_M_shoal : List (Nat × List Nat) := [(0, [0, 1, 2, 3])]
def s_M_shoal : List (Nat × Nat × List Op) := [(0, 93, o_M_shoal_0)]
set_option maxRecDepth 100000 in
theorem k_M_shoal : MOk P_M s_M_shoal 180 4 := ⟨P_M_ok, _, rfl, rfl, rfl, by decide +kernel⟩
def o_M_lay_0 : List Op := [(0, .aload_n 0, 0, 0, .null), (1, .getfield 91, 12, 38, .null), (4, .aload_n 0, 0, 0, .null), (5, .getfield 338, 12, 37, .null), (8, .iload_n 1, 1, 0, .null), (9, .iastore, 0, 0, .null), (10, .aload_n 0, 0, 0, .null), (11, .getfield 94, 12, 39, .null), (14, .aload_n 0, 0, 0, .null), (15, .getfield 338, 12, 37, .null), (18, .iload_n 2, 2, 0, .null), (19, .iastore, 0, 0, .null), (20, .aload_n 0, 0, 0, .null), (21, .getfield 97, 12, 40, .null), (24, .aload_n 0, 0, 0, .null), (25, .getfield 338, 12, 37, .null), (28, .aload_n 0, 0, 0, .null), (29, .getfield 230, 12, 0, .null), (32, .iastore, 0, 0, .null), (33, .aload_n 0, 0, 0, .null), (34, .getfield 100, 12, 41, .null), (37, .aload_n 0, 0, 0, .null), (38, .getfield 338, 12, 37, .null), (41, .iload_n 3, 3, 0, .null), (42, .iastore, 0, 0, .null), (43, .aload_n 0, 0, 0, .null), (44, .dup, 0, 0, .null), (45, .getfield 338, 12, 37, .null), (48, .iconst 1, 0, 0, .int 1), (49, .iadd, 0, 0, .null), (50, .putfield 338, 12, 37, .null), (53, .return_, 0, 0, .null)]
def v_M_lay : List (Nat × List Nat) := [(0, [0, 1, 2, 3])]
def s_M_lay : List (Nat × Nat × List Op) := [(0, 54, o_M_lay_0)]
set_option maxRecDepth 100000 in
theorem k_M_lay : MOk P_M s_M_lay 181 4 := ⟨P_M_ok, _, rfl, rfl, rfl, by decide +kernel⟩
def o_M_dredge_0 : List Op := [(0, .aload_n 0, 0, 0, .null), (1, .iload_n 1, 1, 0, .null), (2, .invokevirtual 345, 183, 1, .ref 12), (5, .ifCond .eq 26, 31, 0, .null), (8, .iload_n 2, 2, 0, .null), (9, .iconst 0, 0, 0, .int 0), (10, .bipush 29, 0, 0, .int 29), (12, .invokestatic 216, 150, 3, .ref 0), (15, .ifCond .eq 16, 31, 0, .null), (18, .iload_n 3, 3, 0, .null), (19, .sipush (-1000), 0, 0, .int (-1000)), (22, .sipush 5000, 0, 0, .int 5000), (25, .invokestatic 216, 150, 3, .ref 0), (28, .ifCond .ne 6, 34, 0, .null), (31, .bipush (-2), 0, 0, .int (-2)), (33, .ireturn, 0, 0, .null), (34, .aload_n 0, 0, 0, .null), (35, .getfield 348, 12, 36, .null), (38, .bipush 60, 0, 0, .int 60), (40, .if_icmp .ne 6, 46, 0, .null), (43, .bipush (-4), 0, 0, .int (-4)), (45, .ireturn, 0, 0, .null), (46, .aload_n 0, 0, 0, .null), (47, .iload_n 1, 1, 0, .null), (48, .iload_n 2, 2, 0, .null), (49, .iload_n 3, 3, 0, .null), (50, .invokevirtual 341, 181, 3, .ref 12), (53, .aload_n 0, 0, 0, .null), (54, .dup, 0, 0, .null), (55, .getfield 348, 12, 36, .null), (58, .iconst 1, 0, 0, .int 1), (59, .iadd, 0, 0, .null), (60, .putfield 348, 12, 36, .null), (63, .aload_n 0, 0, 0, .null), (64, .getfield 348, 12, 36, .null), (67, .ireturn, 0, 0, .null)]
def v_M_dredge : List (Nat × List Nat) := [(0, [0, 1, 2, 3])]
def s_M_dredge : List (Nat × Nat × List Op) := [(0, 68, o_M_dredge_0)]
set_option maxRecDepth 100000 in
theorem k_M_dredge : MOk P_M s_M_dredge 182 4 := ⟨P_M_ok, _, rfl, rfl, rfl, by decide +kernel⟩
def o_M_isShoal_0 : List Op := [(0, .iload_n 1, 1, 0, .null), (1, .iconst 0, 0, 0, .int 0), (2, .aload_n 0, 0, 0, .null), (3, .getfield 335, 12, 33, .null), (6, .iconst 1, 0, 0, .int 1), (7, .isub, 0, 0, .null), (8, .invokestatic 216, 150, 3, .ref 0), (11, .ireturn, 1, 0, .null)]
def v_M_isShoal : List (Nat × List Nat) := [(0, [0, 1])]
def s_M_isShoal : List (Nat × Nat × List Op) := [(0, 12, o_M_isShoal_0)]
set_option maxRecDepth 100000 in
theorem k_M_isShoal : MOk P_M s_M_isShoal 183 2 := ⟨P_M_ok, _, rfl, rfl, rfl, by decide +kernel⟩
def o_M_depth_0 : List Op := [(0, .aload_n 0, 0, 0, .null), (1, .iload_n 1, 1, 0, .null), (2, .invokevirtual 345, 183, 1, .ref 12), (5, .ifCond .eq 19, 24, 0, .null), (8, .aload_n 0, 0, 0, .null), (9, .iload_n 2, 2, 0, .null), (10, .iload_n 3, 3, 0, .null), (11, .invokevirtual 279, 160, 2, .ref 12), (14, .ifCond .eq 10, 24, 0, .null), (17, .aload_n 0, 0, 0, .null), (18, .invokevirtual 283, 161, 0, .ref 12), (21, .ifCond .eq 7, 28, 0, .null), (24, .ldc2_w 287, 0, 0, .long 9221120237041090560), (27, .lreturn, 0, 0, .null), (28, .aload_n 0, 0, 0, .null), (29, .iload_n 1, 1, 0, .null), (30, .iload_n 2, 2, 0, .null), (31, .iload_n 3, 3, 0, .null), (32, .invokevirtual 351, 185, 3, .ref 12), (35, .ifCond .ne 13, 48, 0, .null), (38, .aload_n 0, 0, 0, .null), (39, .iconst 1, 0, 0, .int 1), (40, .invokevirtual 292, 164, 1, .ref 12), (43, .pop, 0, 0, .null), (44, .ldc2_w 287, 0, 0, .long 9221120237041090560), (47, .lreturn, 0, 0, .null), (48, .aload_n 0, 0, 0, .null), (49, .getfield 275, 12, 17, .null), (52, .invokestatic 258, 157, 1, .ref 0), (55, .lreturn, 0, 0, .null)]
def v_M_depth : List (Nat × List Nat) := [(0, [0, 1, 2, 3])]
def s_M_depth : List (Nat × Nat × List Op) := [(0, 56, o_M_depth_0)]
set_option maxRecDepth 100000 in
theorem k_M_depth : MOk P_M s_M_depth 184 4 := ⟨P_M_ok, _, rfl, rfl, rfl, by decide +kernel⟩
def o_M_goesDown_0 : List Op := [(0, .iconst (-1), 0, 0, .int (-1)), (1, .istore 4, 4, 0, .null), (3, .iconst 0, 0, 0, .int 0), (4, .istore 5, 5, 0, .null)]
def o_M_goesDown_1 : List Op := [(6, .iload 5, 5, 0, .null), (8, .aload_n 0, 0, 0, .null), (9, .getfield 338, 12, 37, .null), (12, .if_icmp .ge 85, 97, 0, .null), (15, .aload_n 0, 0, 0, .null), (16, .getfield 91, 12, 38, .null), (19, .iload 5, 5, 0, .null), (21, .iaload, 0, 0, .null), (22, .iload_n 1, 1, 0, .null), (23, .if_icmp .ne 33, 56, 0, .null), (26, .aload_n 0, 0, 0, .null), (27, .getfield 97, 12, 40, .null), (30, .iload 5, 5, 0, .null), (32, .iaload, 0, 0, .null), (33, .iload_n 3, 3, 0, .null), (34, .if_icmp .gt 22, 56, 0, .null), (37, .aload_n 0, 0, 0, .null), (38, .getfield 94, 12, 39, .null), (41, .iload 5, 5, 0, .null), (43, .iaload, 0, 0, .null), (44, .iload_n 2, 2, 0, .null), (45, .ldc_w 264, 0, 0, .int 86400), (48, .idiv, 0, 0, .null), (49, .if_icmp .gt 7, 56, 0, .null), (52, .iconst 1, 0, 0, .int 1), (53, .goto 4, 57, 0, .null), (56, .iconst 0, 0, 0, .int 0), (57, .istore 6, 6, 0, .null), (59, .iload 6, 6, 0, .null), (61, .ifCond .eq 30, 91, 0, .null), (64, .iload 4, 4, 0, .null), (66, .iconst (-1), 0, 0, .int (-1)), (67, .if_icmp .eq 20, 87, 0, .null), (70, .aload_n 0, 0, 0, .null), (71, .getfield 94, 12, 39, .null), (74, .iload 5, 5, 0, .null), (76, .iaload, 0, 0, .null), (77, .aload_n 0, 0, 0, .null), (78, .getfield 94, 12, 39, .null), (81, .iload 4, 4, 0, .null), (83, .iaload, 0, 0, .null), (84, .if_icmp .lt 7, 91, 0, .null), (87, .iload 5, 5, 0, .null), (89, .istore 4, 4, 0, .null), (91, .iinc 5 1, 5, 0, .int 1), (94, .goto (-88), 6, 0, .null), (97, .iload 4, 4, 0, .null), (99, .iconst (-1), 0, 0, .int (-1)), (100, .if_icmp .eq 18, 118, 0, .null), (103, .aload_n 0, 0, 0, .null), (104, .aload_n 0, 0, 0, .null), (105, .getfield 85, 12, 34, .null), (108, .iload_n 1, 1, 0, .null), (109, .iaload, 0, 0, .null), (110, .iload_n 2, 2, 0, .null), (111, .iload_n 3, 3, 0, .null), (112, .invokevirtual 289, 162, 3, .ref 12), (115, .ifCond .ne 5, 120, 0, .null), (118, .iconst 0, 0, 0, .int 0), (119, .ireturn, 1, 0, .null), (120, .aload_n 0, 0, 0, .null), (121, .aload_n 0, 0, 0, .null), (122, .getfield 100, 12, 41, .null), (125, .iload 4, 4, 0, .null), (127, .iaload, 0, 0, .null), (128, .i2d, 0, 0, .null), (129, .ldc2_w 269, 0, 0, .double 4636737291354636288), (132, .ddiv, 0, 0, .null), (133, .aload_n 0, 0, 0, .null), (134, .getfield 275, 12, 17, .null), (137, .dadd, 0, 0, .null), (138, .putfield 275, 12, 17, .ref 2), (141, .iconst 1, 0, 0, .int 1), (142, .ireturn, 1, 0, .null)]
def v_M_goesDown : List (Nat × List Nat) := [(0, [0, 1, 2, 3]), (6, [0, 1, 2, 3, 4, 5])]
def s_M_goesDown : List (Nat × Nat × List Op) := [(0, 6, o_M_goesDown_0), (6, 143, o_M_goesDown_1)]
set_option maxRecDepth 100000 in
theorem k_M_goesDown : MOk P_M s_M_goesDown 185 7 := ⟨P_M_ok, _, rfl, rfl, rfl, by decide +kernel⟩
def o_M_water_0 : List Op := [(0, .aload_n 0, 0, 0, .null), (1, .iload_n 1, 1, 0, .null), (2, .invokevirtual 345, 183, 1, .ref 12), (5, .ifCond .eq 17, 22, 0, .null), (8, .iload_n 2, 2, 0, .null), (9, .invokestatic 226, 149, 1, .ref 0), (12, .ifCond .eq 10, 22, 0, .null), (15, .aload_n 0, 0, 0, .null), (16, .invokevirtual 283, 161, 0, .ref 12), (19, .ifCond .eq 7, 26, 0, .null), (22, .ldc2_w 287, 0, 0, .long 9221120237041090560), (25, .lreturn, 0, 0, .null), (26, .aload_n 0, 0, 0, .null), (27, .iload_n 1, 1, 0, .null), (28, .iload_n 2, 2, 0, .null), (29, .invokevirtual 354, 187, 2, .ref 12), (32, .ifCond .ne 13, 45, 0, .null), (35, .aload_n 0, 0, 0, .null), (36, .iconst 1, 0, 0, .int 1), (37, .invokevirtual 292, 164, 1, .ref 12), (40, .pop, 0, 0, .null), (41, .ldc2_w 287, 0, 0, .long 9221120237041090560), (44, .lreturn, 0, 0, .null), (45, .aload_n 0, 0, 0, .null), (46, .getfield 275, 12, 17, .null), (49, .invokestatic 258, 157, 1, .ref 0), (52, .lreturn, 0, 0, .null)]
def v_M_water : List (Nat × List Nat) := [(0, [0, 1, 2])]
def s_M_water : List (Nat × Nat × List Op) := [(0, 53, o_M_water_0)]
set_option maxRecDepth 100000 in
theorem k_M_water : MOk P_M s_M_water 186 3 := ⟨P_M_ok, _, rfl, rfl, rfl, by decide +kernel⟩
end
section
def o_M_flows_0 : List Op := [(0, .aload_n 0, 0, 0, .null), (1, .iload_n 1, 1, 0, .null), (2, .iload_n 2, 2, 0, .null), (3, .aload_n 0, 0, 0, .null), (4, .getfield 230, 12, 0, .null), (7, .invokevirtual 351, 185, 3, .ref 12), (10, .ifCond .ne 5, 15, 0, .null), (13, .iconst 0, 0, 0, .int 0), (14, .ireturn, 1, 0, .null), (15, .aload_n 0, 0, 0, .null), (16, .getfield 275, 12, 17, .null), (19, .dstore_n 3, 3, 0, .null), (20, .iconst 0, 0, 0, .int 0), (21, .istore 5, 5, 0, .null)]
def o_M_flows_1 : List Op := [(23, .iload 5, 5, 0, .null), (25, .aload_n 0, 0, 0, .null), (26, .getfield 296, 12, 18, .null), (29, .if_icmp .ge 25, 54, 0, .null), (32, .aload_n 0, 0, 0, .null), (33, .getfield 49, 12, 19, .null), (36, .iload 5, 5, 0, .null), (38, .iaload, 0, 0, .null), (39, .aload_n 0, 0, 0, .null), (40, .getfield 85, 12, 34, .null), (43, .iload_n 1, 1, 0, .null), (44, .iaload, 0, 0, .null), (45, .if_icmp .eq 9, 54, 0, .null), (48, .iinc 5 1, 5, 0, .int 1), (51, .goto (-28), 23, 0, .null), (54, .iload 5, 5, 0, .null), (56, .aload_n 0, 0, 0, .null), (57, .getfield 296, 12, 18, .null), (60, .if_icmp .ge 30, 90, 0, .null), (63, .aload_n 0, 0, 0, .null), (64, .getfield 58, 12, 22, .null), (67, .iload 5, 5, 0, .null), (69, .baload, 0, 0, .null), (70, .ifCond .ne 20, 90, 0, .null), (73, .aload_n 0, 0, 0, .null), (74, .iload 5, 5, 0, .null), (76, .iload_n 2, 2, 0, .null), (77, .invokevirtual 329, 178, 2, .ref 12), (80, .ifCond .ne 10, 90, 0, .null), (83, .dload_n 3, 3, 0, .null), (84, .aload_n 0, 0, 0, .null), (85, .getfield 326, 12, 31, .null), (88, .dadd, 0, 0, .null), (89, .dstore_n 3, 3, 0, .null), (90, .aload_n 0, 0, 0, .null), (91, .dload_n 3, 3, 0, .null), (92, .putfield 275, 12, 17, .ref 2), (95, .iconst 1, 0, 0, .int 1), (96, .ireturn, 1, 0, .null)]
def v_M_flows : List (Nat × List Nat) := [(0, [0, 1, 2]), (23, [0, 1, 2, 3, 5])]
def s_M_flows : List (Nat × Nat × List Op) := [(0, 23, o_M_flows_0), (23, 97, o_M_flows_1)]
set_option maxRecDepth 100000 in
theorem k_M_flows : MOk P_M s_M_flows 187 6 := ⟨P_M_ok, _, rfl, rfl, rfl, by decide +kernel⟩
def o_M_waters_0 : List Op := [(0, .bipush 60, 0, 0, .int 60), (2, .aload_n 0, 0, 0, .null), (3, .getfield 78, 12, 28, .null), (6, .imul, 0, 0, .null), (7, .istore 4, 4, 0, .null), (9, .iload_n 1, 1, 0, .null), (10, .invokestatic 233, 152, 1, .ref 0), (13, .ifCond .eq 34, 47, 0, .null), (16, .iload_n 3, 3, 0, .null), (17, .iconst 3, 0, 0, .int 3), (18, .sipush 200, 0, 0, .int 200), (21, .invokestatic 216, 150, 3, .ref 0), (24, .ifCond .eq 23, 47, 0, .null), (27, .iload_n 2, 2, 0, .null), (28, .invokestatic 226, 149, 1, .ref 0), (31, .ifCond .eq 16, 47, 0, .null), (34, .iload_n 2, 2, 0, .null), (35, .iload_n 3, 3, 0, .null), (36, .iconst 1, 0, 0, .int 1), (37, .isub, 0, 0, .null), (38, .iload 4, 4, 0, .null), (40, .imul, 0, 0, .null), (41, .iadd, 0, 0, .null), (42, .ldc 215, 0, 0, .int 2591999), (44, .if_icmp .le 6, 50, 0, .null), (47, .bipush (-2), 0, 0, .int (-2)), (49, .ireturn, 0, 0, .null), (50, .aload_n 0, 0, 0, .null), (51, .invokevirtual 283, 161, 0, .ref 12), (54, .ifCond .eq 6, 60, 0, .null), (57, .bipush (-4), 0, 0, .int (-4)), (59, .ireturn, 0, 0, .null), (60, .aload_n 0, 0, 0, .null), (61, .iload_n 1, 1, 0, .null), (62, .iload_n 2, 2, 0, .null), (63, .aload_n 0, 0, 0, .null), (64, .getfield 230, 12, 0, .null), (67, .invokevirtual 289, 162, 3, .ref 12), (70, .ifCond .ne 9, 79, 0, .null), (73, .aload_n 0, 0, 0, .null), (74, .iconst 1, 0, 0, .int 1), (75, .invokevirtual 292, 164, 1, .ref 12), (78, .ireturn, 0, 0, .null), (79, .iconst 0, 0, 0, .int 0), (80, .istore 5, 5, 0, .null)]
def o_M_waters_1 : List Op := [(82, .iload 5, 5, 0, .null), (84, .iload_n 3, 3, 0, .null), (85, .if_icmp .ge 28, 113, 0, .null), (88, .aload_n 0, 0, 0, .null), (89, .getfield 118, 12, 47, .null), (92, .iload 5, 5, 0, .null), (94, .aload_n 0, 0, 0, .null), (95, .iload_n 1, 1, 0, .null), (96, .iload_n 2, 2, 0, .null), (97, .iload 5, 5, 0, .null), (99, .iload 4, 4, 0, .null), (101, .imul, 0, 0, .null), (102, .iadd, 0, 0, .null), (103, .invokevirtual 357, 189, 2, .ref 12), (106, .dastore, 0, 0, .null), (107, .iinc 5 1, 5, 0, .int 1), (110, .goto (-28), 82, 0, .null), (113, .iconst 0, 0, 0, .int 0), (114, .istore 5, 5, 0, .null), (116, .iconst 1, 0, 0, .int 1), (117, .istore 6, 6, 0, .null)]
def o_M_waters_2 : List Op := [(119, .iload 6, 6, 0, .null), (121, .iload_n 3, 3, 0, .null), (122, .iconst 1, 0, 0, .int 1), (123, .isub, 0, 0, .null), (124, .if_icmp .ge 203, 327, 0, .null), (127, .iload 5, 5, 0, .null), (129, .bipush 40, 0, 0, .int 40), (131, .if_icmp .ge 196, 327, 0, .null), (134, .aload_n 0, 0, 0, .null), (135, .getfield 118, 12, 47, .null), (138, .iload 6, 6, 0, .null), (140, .daload, 0, 0, .null), (141, .aload_n 0, 0, 0, .null), (142, .getfield 118, 12, 47, .null), (145, .iload 6, 6, 0, .null), (147, .iconst 1, 0, 0, .int 1), (148, .isub, 0, 0, .null), (149, .daload, 0, 0, .null), (150, .dcmp .l, 0, 0, .null), (151, .ifCond .le 27, 178, 0, .null), (154, .aload_n 0, 0, 0, .null), (155, .getfield 118, 12, 47, .null), (158, .iload 6, 6, 0, .null), (160, .daload, 0, 0, .null), (161, .aload_n 0, 0, 0, .null), (162, .getfield 118, 12, 47, .null), (165, .iload 6, 6, 0, .null), (167, .iconst 1, 0, 0, .int 1), (168, .iadd, 0, 0, .null), (169, .daload, 0, 0, .null), (170, .dcmp .l, 0, 0, .null), (171, .ifCond .lt 7, 178, 0, .null), (174, .iconst 1, 0, 0, .int 1), (175, .goto 4, 179, 0, .null), (178, .iconst 0, 0, 0, .int 0), (179, .istore 7, 7, 0, .null), (181, .aload_n 0, 0, 0, .null), (182, .getfield 118, 12, 47, .null), (185, .iload 6, 6, 0, .null), (187, .daload, 0, 0, .null), (188, .aload_n 0, 0, 0, .null), (189, .getfield 118, 12, 47, .null), (192, .iload 6, 6, 0, .null), (194, .iconst 1, 0, 0, .int 1), (195, .isub, 0, 0, .null), (196, .daload, 0, 0, .null), (197, .dcmp .g, 0, 0, .null), (198, .ifCond .ge 27, 225, 0, .null), (201, .aload_n 0, 0, 0, .null), (202, .getfield 118, 12, 47, .null), (205, .iload 6, 6, 0, .null), (207, .daload, 0, 0, .null), (208, .aload_n 0, 0, 0, .null), (209, .getfield 118, 12, 47, .null), (212, .iload 6, 6, 0, .null), (214, .iconst 1, 0, 0, .int 1), (215, .iadd, 0, 0, .null), (216, .daload, 0, 0, .null), (217, .dcmp .g, 0, 0, .null), (218, .ifCond .gt 7, 225, 0, .null), (221, .iconst 1, 0, 0, .int 1), (222, .goto 4, 226, 0, .null), (225, .iconst 0, 0, 0, .int 0), (226, .istore 8, 8, 0, .null), (228, .iload 7, 7, 0, .null), (230, .ifCond .ne 8, 238, 0, .null), (233, .iload 8, 8, 0, .null), (235, .ifCond .eq 86, 321, 0, .null), (238, .aload_n 0, 0, 0, .null), (239, .getfield 106, 12, 43, .null), (242, .bipush 40, 0, 0, .int 40), (244, .iload_n 1, 1, 0, .null), (245, .imul, 0, 0, .null), (246, .iload 5, 5, 0, .null), (248, .iadd, 0, 0, .null), (249, .aload_n 0, 0, 0, .null), (250, .iload_n 1, 1, 0, .null), (251, .iload_n 2, 2, 0, .null), (252, .iload 6, 6, 0, .null), (254, .iconst 1, 0, 0, .int 1), (255, .isub, 0, 0, .null), (256, .iload 4, 4, 0, .null), (258, .imul, 0, 0, .null), (259, .iadd, 0, 0, .null), (260, .iload_n 2, 2, 0, .null), (261, .iload 6, 6, 0, .null), (263, .iconst 1, 0, 0, .int 1), (264, .iadd, 0, 0, .null), (265, .iload 4, 4, 0, .null), (267, .imul, 0, 0, .null), (268, .iadd, 0, 0, .null), (269, .iload 7, 7, 0, .null), (271, .invokevirtual 361, 190, 4, .ref 12), (274, .iastore, 0, 0, .null), (275, .aload_n 0, 0, 0, .null), (276, .getfield 109, 12, 44, .null), (279, .bipush 40, 0, 0, .int 40), (281, .iload_n 1, 1, 0, .null), (282, .imul, 0, 0, .null), (283, .iload 5, 5, 0, .null), (285, .iadd, 0, 0, .null), (286, .iload 7, 7, 0, .null), (288, .bastore, 0, 0, .null), (289, .aload_n 0, 0, 0, .null), (290, .getfield 112, 12, 45, .null), (293, .bipush 40, 0, 0, .int 40), (295, .iload_n 1, 1, 0, .null), (296, .imul, 0, 0, .null), (297, .iload 5, 5, 0, .null), (299, .iadd, 0, 0, .null), (300, .aload_n 0, 0, 0, .null), (301, .iload_n 1, 1, 0, .null), (302, .aload_n 0, 0, 0, .null), (303, .getfield 106, 12, 43, .null), (306, .bipush 40, 0, 0, .int 40), (308, .iload_n 1, 1, 0, .null), (309, .imul, 0, 0, .null), (310, .iload 5, 5, 0, .null), (312, .iadd, 0, 0, .null), (313, .iaload, 0, 0, .null), (314, .invokevirtual 357, 189, 2, .ref 12), (317, .dastore, 0, 0, .null), (318, .iinc 5 1, 5, 0, .int 1), (321, .iinc 6 1, 6, 0, .int 1), (324, .goto (-205), 119, 0, .null), (327, .aload_n 0, 0, 0, .null), (328, .getfield 103, 12, 42, .null), (331, .iload_n 1, 1, 0, .null), (332, .iload 5, 5, 0, .null), (334, .iastore, 0, 0, .null), (335, .iload 5, 5, 0, .null), (337, .ireturn, 0, 0, .null)]
def v_M_waters : List (Nat × List Nat) := [(0, [0, 1, 2, 3]), (82, [0, 1, 2, 3, 4, 5]), (119, [0, 1, 2, 3, 4, 5, 6])]
def s_M_waters : List (Nat × Nat × List Op) := [(0, 82, o_M_waters_0), (82, 119, o_M_waters_1), (119, 338, o_M_waters_2)]
set_option maxRecDepth 100000 in
theorem k_M_waters : MOk P_M s_M_waters 188 9 := ⟨P_M_ok, _, rfl, rfl, rfl, by decide +kernel⟩
def o_M_heightAt_0 : List Op := [(0, .aload_n 0, 0, 0, .null), (1, .dconst 0, 0, 0, .double 0), (2, .putfield 275, 12, 17, .ref 2), (5, .aload_n 0, 0, 0, .null), (6, .iload_n 1, 1, 0, .null), (7, .iload_n 2, 2, 0, .null), (8, .aload_n 0, 0, 0, .null), (9, .getfield 230, 12, 0, .null), (12, .invokevirtual 289, 162, 3, .ref 12), (15, .istore_n 3, 3, 0, .null), (16, .aload_n 0, 0, 0, .null), (17, .getfield 275, 12, 17, .null), (20, .dreturn, 0, 0, .null)]
def v_M_heightAt : List (Nat × List Nat) := [(0, [0, 1, 2])]
def s_M_heightAt : List (Nat × Nat × List Op) := [(0, 21, o_M_heightAt_0)]
set_option maxRecDepth 100000 in
theorem k_M_heightAt : MOk P_M s_M_heightAt 189 4 := ⟨P_M_ok, _, rfl, rfl, rfl, by decide +kernel⟩
def o_M_halved_0 : List Op := [(0, .iload_n 2, 2, 0, .null), (1, .istore 5, 5, 0, .null), (3, .iload_n 3, 3, 0, .null), (4, .istore 6, 6, 0, .null)]
def o_M_halved_1 : List Op := [(6, .iload 6, 6, 0, .null), (8, .iload 5, 5, 0, .null), (10, .isub, 0, 0, .null), (11, .iconst 1, 0, 0, .int 1), (12, .if_icmp .le 70, 82, 0, .null), (15, .iload 5, 5, 0, .null), (17, .iload 6, 6, 0, .null), (19, .iadd, 0, 0, .null), (20, .iconst 2, 0, 0, .int 2), (21, .idiv, 0, 0, .null), (22, .istore 7, 7, 0, .null), (24, .aload_n 0, 0, 0, .null), (25, .iload_n 1, 1, 0, .null), (26, .iload 7, 7, 0, .null), (28, .invokevirtual 357, 189, 2, .ref 12), (31, .dstore 8, 8, 0, .null), (33, .aload_n 0, 0, 0, .null), (34, .iload_n 1, 1, 0, .null), (35, .iload 7, 7, 0, .null), (37, .iconst 1, 0, 0, .int 1), (38, .iadd, 0, 0, .null), (39, .invokevirtual 357, 189, 2, .ref 12), (42, .dstore 10, 10, 0, .null), (44, .iload 4, 4, 0, .null), (46, .ifCond .eq 14, 60, 0, .null), (49, .dload 10, 10, 0, .null), (51, .dload 8, 8, 0, .null), (53, .dcmp .l, 0, 0, .null), (54, .ifCond .le 21, 75, 0, .null), (57, .goto 11, 68, 0, .null), (60, .dload 10, 10, 0, .null), (62, .dload 8, 8, 0, .null), (64, .dcmp .g, 0, 0, .null), (65, .ifCond .ge 10, 75, 0, .null), (68, .iload 7, 7, 0, .null), (70, .istore 5, 5, 0, .null), (72, .goto 7, 79, 0, .null), (75, .iload 7, 7, 0, .null), (77, .istore 6, 6, 0, .null), (79, .goto (-73), 6, 0, .null), (82, .iload 6, 6, 0, .null), (84, .ireturn, 0, 0, .null)]
def v_M_halved : List (Nat × List Nat) := [(0, [0, 1, 2, 3, 4]), (6, [0, 1, 4, 5, 6])]
def s_M_halved : List (Nat × Nat × List Op) := [(0, 6, o_M_halved_0), (6, 85, o_M_halved_1)]
set_option maxRecDepth 100000 in
theorem k_M_halved : MOk P_M s_M_halved 190 12 := ⟨P_M_ok, _, rfl, rfl, rfl, by decide +kernel⟩
def o_M_found_0 : List Op := [(0, .iload_n 1, 1, 0, .null), (1, .invokestatic 233, 152, 1, .ref 0), (4, .ifCond .eq 12, 16, 0, .null), (7, .iload_n 3, 3, 0, .null), (8, .iconst 0, 0, 0, .int 0), (9, .iconst 1, 0, 0, .int 1), (10, .invokestatic 216, 150, 3, .ref 0), (13, .ifCond .ne 6, 19, 0, .null), (16, .bipush (-2), 0, 0, .int (-2)), (18, .ireturn, 0, 0, .null), (19, .iload_n 2, 2, 0, .null), (20, .iconst 0, 0, 0, .int 0), (21, .aload_n 0, 0, 0, .null), (22, .getfield 103, 12, 42, .null), (25, .iload_n 1, 1, 0, .null), (26, .iaload, 0, 0, .null), (27, .iconst 1, 0, 0, .int 1), (28, .isub, 0, 0, .null), (29, .invokestatic 216, 150, 3, .ref 0), (32, .ifCond .ne 5, 37, 0, .null), (35, .iconst (-1), 0, 0, .int (-1)), (36, .ireturn, 0, 0, .null), (37, .bipush 40, 0, 0, .int 40), (39, .iload_n 1, 1, 0, .null), (40, .imul, 0, 0, .null), (41, .iload_n 2, 2, 0, .null), (42, .iadd, 0, 0, .null), (43, .istore 4, 4, 0, .null), (45, .iload_n 3, 3, 0, .null), (46, .ifCond .ne 13, 59, 0, .null), (49, .aload_n 0, 0, 0, .null), (50, .getfield 106, 12, 43, .null), (53, .iload 4, 4, 0, .null), (55, .iaload, 0, 0, .null), (56, .goto 18, 74, 0, .null), (59, .aload_n 0, 0, 0, .null), (60, .getfield 109, 12, 44, .null), (63, .iload 4, 4, 0, .null), (65, .baload, 0, 0, .null), (66, .ifCond .eq 7, 73, 0, .null), (69, .iconst 1, 0, 0, .int 1), (70, .goto 4, 74, 0, .null), (73, .iconst 0, 0, 0, .int 0), (74, .ireturn, 0, 0, .null)]
def v_M_found : List (Nat × List Nat) := [(0, [0, 1, 2, 3])]
def s_M_found : List (Nat × Nat × List Op) := [(0, 75, o_M_found_0)]
set_option maxRecDepth 100000 in
theorem k_M_found : MOk P_M s_M_found 191 5 := ⟨P_M_ok, _, rfl, rfl, rfl, by decide +kernel⟩
def o_M_range_0 : List Op := [(0, .iload_n 1, 1, 0, .null), (1, .invokestatic 233, 152, 1, .ref 0), (4, .ifCond .eq 26, 30, 0, .null), (7, .iload_n 2, 2, 0, .null), (8, .iconst 0, 0, 0, .int 0), (9, .aload_n 0, 0, 0, .null), (10, .getfield 103, 12, 42, .null), (13, .iload_n 1, 1, 0, .null), (14, .iaload, 0, 0, .null), (15, .iconst 2, 0, 0, .int 2), (16, .isub, 0, 0, .null), (17, .invokestatic 216, 150, 3, .ref 0), (20, .ifCond .eq 10, 30, 0, .null), (23, .aload_n 0, 0, 0, .null), (24, .invokevirtual 283, 161, 0, .ref 12), (27, .ifCond .eq 7, 34, 0, .null), (30, .ldc2_w 287, 0, 0, .long 9221120237041090560), (33, .lreturn, 0, 0, .null), (34, .aload_n 0, 0, 0, .null), (35, .iload_n 1, 1, 0, .null), (36, .iload_n 2, 2, 0, .null), (37, .invokevirtual 365, 193, 2, .ref 12), (40, .ifCond .ne 14, 54, 0, .null), (43, .aload_n 0, 0, 0, .null), (44, .bipush 7, 0, 0, .int 7), (46, .invokevirtual 292, 164, 1, .ref 12), (49, .pop, 0, 0, .null), (50, .ldc2_w 287, 0, 0, .long 9221120237041090560), (53, .lreturn, 0, 0, .null), (54, .aload_n 0, 0, 0, .null), (55, .iload_n 1, 1, 0, .null), (56, .iload_n 2, 2, 0, .null), (57, .invokevirtual 368, 194, 2, .ref 12), (60, .invokestatic 258, 157, 1, .ref 0), (63, .lreturn, 0, 0, .null)]
def v_M_range : List (Nat × List Nat) := [(0, [0, 1, 2])]
def s_M_range : List (Nat × Nat × List Op) := [(0, 64, o_M_range_0)]
set_option maxRecDepth 100000 in
theorem k_M_range : MOk P_M s_M_range 192 3 := ⟨P_M_ok, _, rfl, rfl, rfl, by decide +kernel⟩
def o_M_isRange_0 : List Op := [(0, .aload_n 0, 0, 0, .null), (1, .getfield 109, 12, 44, .null), (4, .bipush 40, 0, 0, .int 40), (6, .iload_n 1, 1, 0, .null), (7, .imul, 0, 0, .null), (8, .iload_n 2, 2, 0, .null), (9, .iadd, 0, 0, .null), (10, .baload, 0, 0, .null), (11, .aload_n 0, 0, 0, .null), (12, .getfield 109, 12, 44, .null), (15, .bipush 40, 0, 0, .int 40), (17, .iload_n 1, 1, 0, .null), (18, .imul, 0, 0, .null), (19, .iload_n 2, 2, 0, .null), (20, .iadd, 0, 0, .null), (21, .iconst 1, 0, 0, .int 1), (22, .iadd, 0, 0, .null), (23, .baload, 0, 0, .null), (24, .if_icmp .eq 7, 31, 0, .null), (27, .iconst 1, 0, 0, .int 1), (28, .goto 4, 32, 0, .null), (31, .iconst 0, 0, 0, .int 0), (32, .ireturn, 1, 0, .null)]
def v_M_isRange : List (Nat × List Nat) := [(0, [0, 1, 2])]
def s_M_isRange : List (Nat × Nat × List Op) := [(0, 33, o_M_isRange_0)]
set_option maxRecDepth 100000 in
theorem k_M_isRange : MOk P_M s_M_isRange 193 3 := ⟨P_M_ok, _, rfl, rfl, rfl, by decide +kernel⟩
def o_M_rangeOf_0 : List Op := [(0, .aload_n 0, 0, 0, .null), (1, .getfield 112, 12, 45, .null), (4, .bipush 40, 0, 0, .int 40), (6, .iload_n 1, 1, 0, .null), (7, .imul, 0, 0, .null), (8, .iload_n 2, 2, 0, .null), (9, .iadd, 0, 0, .null), (10, .daload, 0, 0, .null), (11, .dstore_n 3, 3, 0, .null), (12, .aload_n 0, 0, 0, .null), (13, .getfield 112, 12, 45, .null), (16, .bipush 40, 0, 0, .int 40), (18, .iload_n 1, 1, 0, .null), (19, .imul, 0, 0, .null), (20, .iload_n 2, 2, 0, .null), (21, .iadd, 0, 0, .null), (22, .iconst 1, 0, 0, .int 1), (23, .iadd, 0, 0, .null), (24, .daload, 0, 0, .null), (25, .dstore 5, 5, 0, .null), (27, .dload_n 3, 3, 0, .null), (28, .dload 5, 5, 0, .null), (30, .dcmp .l, 0, 0, .null), (31, .ifCond .le 10, 41, 0, .null), (34, .dload_n 3, 3, 0, .null), (35, .dload 5, 5, 0, .null), (37, .dsub, 0, 0, .null), (38, .goto 7, 45, 0, .null), (41, .dload 5, 5, 0, .null), (43, .dload_n 3, 3, 0, .null), (44, .dsub, 0, 0, .null), (45, .dreturn, 0, 0, .null)]
def v_M_rangeOf : List (Nat × List Nat) := [(0, [0, 1, 2])]
def s_M_rangeOf : List (Nat × Nat × List Op) := [(0, 46, o_M_rangeOf_0)]
set_option maxRecDepth 100000 in
theorem k_M_rangeOf : MOk P_M s_M_rangeOf 194 7 := ⟨P_M_ok, _, rfl, rfl, rfl, by decide +kernel⟩
def o_M_spring_0 : List Op := [(0, .iload_n 1, 1, 0, .null), (1, .invokestatic 233, 152, 1, .ref 0), (4, .ifCond .ne 6, 10, 0, .null), (7, .bipush (-2), 0, 0, .int (-2)), (9, .ireturn, 0, 0, .null), (10, .iconst (-1), 0, 0, .int (-1)), (11, .istore_n 3, 3, 0, .null), (12, .dconst 0, 0, 0, .double 0), (13, .dstore 4, 4, 0, .null), (15, .iconst 0, 0, 0, .int 0), (16, .istore 6, 6, 0, .null)]
def o_M_spring_1 : List Op := [(18, .iload 6, 6, 0, .null), (20, .aload_n 0, 0, 0, .null), (21, .getfield 103, 12, 42, .null), (24, .iload_n 1, 1, 0, .null), (25, .iaload, 0, 0, .null), (26, .iconst 1, 0, 0, .int 1), (27, .isub, 0, 0, .null), (28, .if_icmp .ge 63, 91, 0, .null), (31, .aload_n 0, 0, 0, .null), (32, .iload_n 1, 1, 0, .null), (33, .iload 6, 6, 0, .null), (35, .invokevirtual 365, 193, 2, .ref 12), (38, .ifCond .eq 47, 85, 0, .null), (41, .aload_n 0, 0, 0, .null), (42, .iload_n 1, 1, 0, .null), (43, .iload 6, 6, 0, .null), (45, .invokevirtual 368, 194, 2, .ref 12), (48, .dstore 7, 7, 0, .null), (50, .iload_n 3, 3, 0, .null), (51, .iconst (-1), 0, 0, .int (-1)), (52, .if_icmp .eq 26, 78, 0, .null), (55, .iload_n 2, 2, 0, .null), (56, .ifCond .eq 14, 70, 0, .null), (59, .dload 7, 7, 0, .null), (61, .dload 4, 4, 0, .null), (63, .dcmp .l, 0, 0, .null), (64, .ifCond .le 21, 85, 0, .null), (67, .goto 11, 78, 0, .null), (70, .dload 7, 7, 0, .null), (72, .dload 4, 4, 0, .null), (74, .dcmp .g, 0, 0, .null), (75, .ifCond .ge 10, 85, 0, .null), (78, .iload 6, 6, 0, .null), (80, .istore_n 3, 3, 0, .null), (81, .dload 7, 7, 0, .null), (83, .dstore 4, 4, 0, .null), (85, .iinc 6 1, 6, 0, .int 1), (88, .goto (-70), 18, 0, .null), (91, .iload_n 3, 3, 0, .null), (92, .ireturn, 0, 0, .null)]
def v_M_spring : List (Nat × List Nat) := [(0, [0, 1, 2]), (18, [0, 1, 2, 3, 4, 6])]
def s_M_spring : List (Nat × Nat × List Op) := [(0, 18, o_M_spring_0), (18, 93, o_M_spring_1)]
set_option maxRecDepth 100000 in
theorem k_M_spring : MOk P_M s_M_spring 195 9 := ⟨P_M_ok, _, rfl, rfl, rfl, by decide +kernel⟩
def o_M_tide_0 : List Op := [(0, .iload_n 3, 3, 0, .null), (1, .invokestatic 315, 0, 0, .ref 1), (4, .fstore 4, 4, 0, .null), (6, .iload_n 1, 1, 0, .null), (7, .invokestatic 233, 152, 1, .ref 0), (10, .ifCond .eq 32, 42, 0, .null), (13, .iload_n 2, 2, 0, .null), (14, .bipush (-6), 0, 0, .int (-6)), (16, .bipush 6, 0, 0, .int 6), (18, .invokestatic 216, 150, 3, .ref 0), (21, .ifCond .eq 21, 42, 0, .null), (24, .fload 4, 4, 0, .null), (26, .ldc_w 371, 0, 0, .float 3248488448), (29, .fcmp .l, 0, 0, .null), (30, .ifCond .lt 12, 42, 0, .null), (33, .fload 4, 4, 0, .null), (35, .ldc_w 372, 0, 0, .float 1101004800), (38, .fcmp .g, 0, 0, .null), (39, .ifCond .le 6, 45, 0, .null), (42, .bipush (-2), 0, 0, .int (-2)), (44, .ireturn, 0, 0, .null), (45, .aload_n 0, 0, 0, .null), (46, .getfield 115, 12, 46, .null), (49, .bipush 13, 0, 0, .int 13), (51, .iload_n 1, 1, 0, .null), (52, .imul, 0, 0, .null), (53, .iload_n 2, 2, 0, .null), (54, .iadd, 0, 0, .null), (55, .bipush 6, 0, 0, .int 6), (57, .iadd, 0, 0, .null), (58, .iload_n 3, 3, 0, .null), (59, .iastore, 0, 0, .null), (60, .iconst 1, 0, 0, .int 1), (61, .ireturn, 0, 0, .null)]
def v_M_tide : List (Nat × List Nat) := [(0, [0, 1, 2, 3])]
def s_M_tide : List (Nat × Nat × List Op) := [(0, 62, o_M_tide_0)]
set_option maxRecDepth 100000 in
theorem k_M_tide : MOk P_M s_M_tide 196 5 := ⟨P_M_ok, _, rfl, rfl, rfl, by decide +kernel⟩
def o_M_stream_0 : List Op := [(0, .iload_n 1, 1, 0, .null), (1, .invokestatic 233, 152, 1, .ref 0), (4, .ifCond .eq 17, 21, 0, .null), (7, .iload_n 2, 2, 0, .null), (8, .invokestatic 226, 149, 1, .ref 0), (11, .ifCond .eq 10, 21, 0, .null), (14, .aload_n 0, 0, 0, .null), (15, .invokevirtual 283, 161, 0, .ref 12), (18, .ifCond .eq 7, 25, 0, .null), (21, .ldc_w 311, 0, 0, .int 2143289344), (24, .ireturn, 0, 0, .null), (25, .aload_n 0, 0, 0, .null), (26, .iload_n 1, 1, 0, .null), (27, .iload_n 2, 2, 0, .null), (28, .invokevirtual 376, 198, 2, .ref 12), (31, .istore_n 3, 3, 0, .null), (32, .iload_n 3, 3, 0, .null), (33, .ifCond .eq 13, 46, 0, .null), (36, .aload_n 0, 0, 0, .null), (37, .iload_n 3, 3, 0, .null), (38, .invokevirtual 292, 164, 1, .ref 12), (41, .pop, 0, 0, .null), (42, .ldc_w 311, 0, 0, .int 2143289344), (45, .ireturn, 0, 0, .null), (46, .aload_n 0, 0, 0, .null), (47, .getfield 115, 12, 46, .null), (50, .aload_n 0, 0, 0, .null), (51, .getfield 373, 12, 48, .null), (54, .iaload, 0, 0, .null), (55, .ireturn, 0, 0, .null)]
def v_M_stream : List (Nat × List Nat) := [(0, [0, 1, 2])]
def s_M_stream : List (Nat × Nat × List Op) := [(0, 56, o_M_stream_0)]
set_option maxRecDepth 100000 in
theorem k_M_stream : MOk P_M s_M_stream 197 4 := ⟨P_M_ok, _, rfl, rfl, rfl, by decide +kernel⟩
def o_M_streams_0 : List Op := [(0, .iconst (-1), 0, 0, .int (-1)), (1, .istore_n 3, 3, 0, .null), (2, .iconst 0, 0, 0, .int 0), (3, .istore 4, 4, 0, .null), (5, .iconst 0, 0, 0, .int 0), (6, .istore 5, 5, 0, .null)]
def o_M_streams_1 : List Op := [(8, .iload 5, 5, 0, .null), (10, .aload_n 0, 0, 0, .null), (11, .getfield 103, 12, 42, .null), (14, .iload_n 1, 1, 0, .null), (15, .iaload, 0, 0, .null), (16, .if_icmp .ge 74, 90, 0, .null), (19, .iload_n 2, 2, 0, .null), (20, .aload_n 0, 0, 0, .null), (21, .getfield 106, 12, 43, .null), (24, .bipush 40, 0, 0, .int 40), (26, .iload_n 1, 1, 0, .null), (27, .imul, 0, 0, .null), (28, .iload 5, 5, 0, .null), (30, .iadd, 0, 0, .null), (31, .iaload, 0, 0, .null), (32, .isub, 0, 0, .null), (33, .istore 6, 6, 0, .null), (35, .iload 6, 6, 0, .null), (37, .ifCond .ge 9, 46, 0, .null), (40, .iload 6, 6, 0, .null), (42, .ineg, 0, 0, .null), (43, .goto 5, 48, 0, .null), (46, .iload 6, 6, 0, .null), (48, .istore 6, 6, 0, .null), (50, .aload_n 0, 0, 0, .null), (51, .getfield 109, 12, 44, .null), (54, .bipush 40, 0, 0, .int 40), (56, .iload_n 1, 1, 0, .null), (57, .imul, 0, 0, .null), (58, .iload 5, 5, 0, .null), (60, .iadd, 0, 0, .null), (61, .baload, 0, 0, .null), (62, .ifCond .eq 22, 84, 0, .null), (65, .iload_n 3, 3, 0, .null), (66, .iconst (-1), 0, 0, .int (-1)), (67, .if_icmp .eq 10, 77, 0, .null), (70, .iload 6, 6, 0, .null), (72, .iload 4, 4, 0, .null), (74, .if_icmp .ge 10, 84, 0, .null), (77, .iload 5, 5, 0, .null), (79, .istore_n 3, 3, 0, .null), (80, .iload 6, 6, 0, .null), (82, .istore 4, 4, 0, .null), (84, .iinc 5 1, 5, 0, .int 1), (87, .goto (-79), 8, 0, .null), (90, .iload_n 3, 3, 0, .null), (91, .iconst (-1), 0, 0, .int (-1)), (92, .if_icmp .ne 6, 98, 0, .null), (95, .bipush 7, 0, 0, .int 7), (97, .ireturn, 0, 0, .null), (98, .iload_n 2, 2, 0, .null), (99, .aload_n 0, 0, 0, .null), (100, .getfield 106, 12, 43, .null), (103, .bipush 40, 0, 0, .int 40), (105, .iload_n 1, 1, 0, .null), (106, .imul, 0, 0, .null), (107, .iload_n 3, 3, 0, .null), (108, .iadd, 0, 0, .null), (109, .iaload, 0, 0, .null), (110, .isub, 0, 0, .null), (111, .sipush 1800, 0, 0, .int 1800), (114, .iadd, 0, 0, .null), (115, .istore 5, 5, 0, .null), (117, .iload 5, 5, 0, .null), (119, .ifCond .lt 12, 131, 0, .null), (122, .iload 5, 5, 0, .null), (124, .sipush 3600, 0, 0, .int 3600), (127, .idiv, 0, 0, .null), (128, .goto 14, 142, 0, .null), (131, .sipush 3599, 0, 0, .int 3599), (134, .iload 5, 5, 0, .null), (136, .isub, 0, 0, .null), (137, .sipush 3600, 0, 0, .int 3600), (140, .idiv, 0, 0, .null), (141, .ineg, 0, 0, .null), (142, .istore 6, 6, 0, .null), (144, .iload 6, 6, 0, .null), (146, .bipush (-6), 0, 0, .int (-6)), (148, .bipush 6, 0, 0, .int 6), (150, .invokestatic 216, 150, 3, .ref 0), (153, .ifCond .ne 5, 158, 0, .null), (156, .iconst 2, 0, 0, .int 2), (157, .ireturn, 0, 0, .null), (158, .aload_n 0, 0, 0, .null), (159, .bipush 13, 0, 0, .int 13), (161, .iload_n 1, 1, 0, .null), (162, .imul, 0, 0, .null), (163, .iload 6, 6, 0, .null), (165, .iadd, 0, 0, .null), (166, .bipush 6, 0, 0, .int 6), (168, .iadd, 0, 0, .null), (169, .putfield 373, 12, 48, .null), (172, .iconst 0, 0, 0, .int 0), (173, .ireturn, 0, 0, .null)]
def v_M_streams : List (Nat × List Nat) := [(0, [0, 1, 2]), (8, [0, 1, 2, 3, 4, 5])]
def s_M_streams : List (Nat × Nat × List Op) := [(0, 8, o_M_streams_0), (8, 174, o_M_streams_1)]
set_option maxRecDepth 100000 in
theorem k_M_streams : MOk P_M s_M_streams 198 7 := ⟨P_M_ok, _, rfl, rfl, rfl, by decide +kernel⟩
def o_M_ship_0 : List Op := [(0, .iload_n 1, 1, 0, .null), (1, .iconst 0, 0, 0, .int 0), (2, .iconst 4, 0, 0, .int 4), (3, .invokestatic 216, 150, 3, .ref 0), (6, .ifCond .eq 62, 68, 0, .null), (9, .iload_n 2, 2, 0, .null), (10, .iconst 0, 0, 0, .int 0), (11, .sipush 3000, 0, 0, .int 3000), (14, .invokestatic 216, 150, 3, .ref 0), (17, .ifCond .eq 51, 68, 0, .null), (20, .iload_n 3, 3, 0, .null), (21, .iconst 0, 0, 0, .int 0), (22, .sipush 3000, 0, 0, .int 3000), (25, .invokestatic 216, 150, 3, .ref 0), (28, .ifCond .eq 40, 68, 0, .null), (31, .iload 4, 4, 0, .null), (33, .sipush (-1000), 0, 0, .int (-1000)), (36, .sipush 1000, 0, 0, .int 1000), (39, .invokestatic 216, 150, 3, .ref 0), (42, .ifCond .eq 26, 68, 0, .null), (45, .iload_n 1, 1, 0, .null), (46, .iconst 4, 0, 0, .int 4), (47, .if_icmp .ne 24, 71, 0, .null), (50, .aload_n 0, 0, 0, .null), (51, .iload 5, 5, 0, .null), (53, .invokevirtual 384, 200, 1, .ref 12), (56, .ifCond .eq 12, 68, 0, .null), (59, .aload_n 0, 0, 0, .null), (60, .iload 6, 6, 0, .null), (62, .invokevirtual 384, 200, 1, .ref 12), (65, .ifCond .ne 6, 71, 0, .null), (68, .bipush (-2), 0, 0, .int (-2)), (70, .ireturn, 0, 0, .null), (71, .iconst 0, 0, 0, .int 0), (72, .istore 7, 7, 0, .null), (74, .iload_n 1, 1, 0, .null), (75, .iconst 4, 0, 0, .int 4), (76, .if_icmp .ne 59, 135, 0, .null), (79, .iload 5, 5, 0, .null), (81, .iconst (-1), 0, 0, .int (-1)), (82, .if_icmp .ne 7, 89, 0, .null), (85, .iconst 0, 0, 0, .int 0), (86, .goto 10, 96, 0, .null), (89, .aload_n 0, 0, 0, .null), (90, .getfield 136, 12, 55, .null), (93, .iload 5, 5, 0, .null), (95, .iaload, 0, 0, .null), (96, .istore 8, 8, 0, .null), (98, .iload 6, 6, 0, .null), (100, .iconst (-1), 0, 0, .int (-1)), (101, .if_icmp .ne 7, 108, 0, .null), (104, .iconst 0, 0, 0, .int 0), (105, .goto 10, 115, 0, .null), (108, .aload_n 0, 0, 0, .null), (109, .getfield 136, 12, 55, .null), (112, .iload 6, 6, 0, .null), (114, .iaload, 0, 0, .null), (115, .istore 9, 9, 0, .null), (117, .iconst 1, 0, 0, .int 1), (118, .iload 8, 8, 0, .null), (120, .iload 9, 9, 0, .null), (122, .if_icmp .le 8, 130, 0, .null), (125, .iload 8, 8, 0, .null), (127, .goto 5, 132, 0, .null), (130, .iload 9, 9, 0, .null), (132, .iadd, 0, 0, .null), (133, .istore 7, 7, 0, .null), (135, .iload 7, 7, 0, .null), (137, .iconst 4, 0, 0, .int 4), (138, .if_icmp .le 6, 144, 0, .null), (141, .bipush (-3), 0, 0, .int (-3)), (143, .ireturn, 0, 0, .null), (144, .aload_n 0, 0, 0, .null), (145, .getfield 378, 12, 49, .null), (148, .bipush 40, 0, 0, .int 40), (150, .if_icmp .ne 6, 156, 0, .null), (153, .bipush (-4), 0, 0, .int (-4)), (155, .ireturn, 0, 0, .null), (156, .aload_n 0, 0, 0, .null), (157, .getfield 121, 12, 50, .null), (160, .aload_n 0, 0, 0, .null), (161, .getfield 378, 12, 49, .null), (164, .iload_n 1, 1, 0, .null), (165, .iastore, 0, 0, .null), (166, .aload_n 0, 0, 0, .null), (167, .getfield 124, 12, 51, .null), (170, .aload_n 0, 0, 0, .null), (171, .getfield 378, 12, 49, .null), (174, .iload_n 2, 2, 0, .null), (175, .iastore, 0, 0, .null), (176, .aload_n 0, 0, 0, .null), (177, .getfield 127, 12, 52, .null), (180, .aload_n 0, 0, 0, .null), (181, .getfield 378, 12, 49, .null), (184, .iload_n 3, 3, 0, .null), (185, .iastore, 0, 0, .null), (186, .aload_n 0, 0, 0, .null), (187, .getfield 130, 12, 53, .null), (190, .aload_n 0, 0, 0, .null), (191, .getfield 378, 12, 49, .null), (194, .iload 4, 4, 0, .null), (196, .iastore, 0, 0, .null), (197, .aload_n 0, 0, 0, .null), (198, .getfield 133, 12, 54, .null), (201, .iconst 2, 0, 0, .int 2), (202, .aload_n 0, 0, 0, .null), (203, .getfield 378, 12, 49, .null), (206, .imul, 0, 0, .null), (207, .iload_n 1, 1, 0, .null), (208, .iconst 4, 0, 0, .int 4), (209, .if_icmp .ne 8, 217, 0, .null), (212, .iload 5, 5, 0, .null), (214, .goto 4, 218, 0, .null), (217, .iconst (-1), 0, 0, .int (-1)), (218, .iastore, 0, 0, .null), (219, .aload_n 0, 0, 0, .null), (220, .getfield 133, 12, 54, .null), (223, .iconst 2, 0, 0, .int 2), (224, .aload_n 0, 0, 0, .null), (225, .getfield 378, 12, 49, .null), (228, .imul, 0, 0, .null), (229, .iconst 1, 0, 0, .int 1), (230, .iadd, 0, 0, .null), (231, .iload_n 1, 1, 0, .null), (232, .iconst 4, 0, 0, .int 4), (233, .if_icmp .ne 8, 241, 0, .null), (236, .iload 6, 6, 0, .null), (238, .goto 4, 242, 0, .null), (241, .iconst (-1), 0, 0, .int (-1)), (242, .iastore, 0, 0, .null), (243, .aload_n 0, 0, 0, .null), (244, .getfield 136, 12, 55, .null), (247, .aload_n 0, 0, 0, .null), (248, .getfield 378, 12, 49, .null), (251, .iload 7, 7, 0, .null), (253, .iastore, 0, 0, .null), (254, .aload_n 0, 0, 0, .null), (255, .dup, 0, 0, .null), (256, .getfield 378, 12, 49, .null), (259, .iconst 1, 0, 0, .int 1), (260, .iadd, 0, 0, .null), (261, .putfield 378, 12, 49, .null), (264, .aload_n 0, 0, 0, .null), (265, .getfield 378, 12, 49, .null), (268, .iconst 1, 0, 0, .int 1), (269, .isub, 0, 0, .null), (270, .ireturn, 0, 0, .null)]
def v_M_ship : List (Nat × List Nat) := [(0, [0, 1, 2, 3, 4, 5, 6])]
def s_M_ship : List (Nat × Nat × List Op) := [(0, 271, o_M_ship_0)]
set_option maxRecDepth 100000 in
theorem k_M_ship : MOk P_M s_M_ship 199 10 := ⟨P_M_ok, _, rfl, rfl, rfl, by decide +kernel⟩
def o_M_isPart_0 : List Op := [(0, .iload_n 1, 1, 0, .null), (1, .iconst (-1), 0, 0, .int (-1)), (2, .if_icmp .eq 11, 13, 0, .null), (5, .aload_n 0, 0, 0, .null), (6, .iload_n 1, 1, 0, .null), (7, .invokevirtual 381, 201, 1, .ref 12), (10, .ifCond .eq 7, 17, 0, .null), (13, .iconst 1, 0, 0, .int 1), (14, .goto 4, 18, 0, .null), (17, .iconst 0, 0, 0, .int 0), (18, .ireturn, 1, 0, .null)]
def v_M_isPart : List (Nat × List Nat) := [(0, [0, 1])]
def s_M_isPart : List (Nat × Nat × List Op) := [(0, 19, o_M_isPart_0)]
set_option maxRecDepth 100000 in
theorem k_M_isPart : MOk P_M s_M_isPart 200 2 := ⟨P_M_ok, _, rfl, rfl, rfl, by decide +kernel⟩
def o_M_isShip_0 : List Op := [(0, .iload_n 1, 1, 0, .null), (1, .iconst 0, 0, 0, .int 0), (2, .aload_n 0, 0, 0, .null), (3, .getfield 378, 12, 49, .null), (6, .iconst 1, 0, 0, .int 1), (7, .isub, 0, 0, .null), (8, .invokestatic 216, 150, 3, .ref 0), (11, .ireturn, 1, 0, .null)]
def v_M_isShip : List (Nat × List Nat) := [(0, [0, 1])]
def s_M_isShip : List (Nat × Nat × List Op) := [(0, 12, o_M_isShip_0)]
set_option maxRecDepth 100000 in
theorem k_M_isShip : MOk P_M s_M_isShip 201 2 := ⟨P_M_ok, _, rfl, rfl, rfl, by decide +kernel⟩
def o_M_ask_0 : List Op := [(0, .aload_n 0, 0, 0, .null), (1, .iload_n 1, 1, 0, .null), (2, .invokevirtual 381, 201, 1, .ref 12), (5, .ifCond .eq 12, 17, 0, .null), (8, .iload_n 2, 2, 0, .null), (9, .iconst 0, 0, 0, .int 0), (10, .iconst 4, 0, 0, .int 4), (11, .invokestatic 216, 150, 3, .ref 0), (14, .ifCond .ne 6, 20, 0, .null), (17, .bipush (-2), 0, 0, .int (-2)), (19, .ireturn, 0, 0, .null), (20, .aload_n 0, 0, 0, .null), (21, .invokevirtual 283, 161, 0, .ref 12), (24, .ifCond .eq 6, 30, 0, .null), (27, .bipush (-4), 0, 0, .int (-4)), (29, .ireturn, 0, 0, .null), (30, .aload_n 0, 0, 0, .null), (31, .iconst 0, 0, 0, .int 0), (32, .putfield 387, 12, 57, .null), (35, .aload_n 0, 0, 0, .null), (36, .iload_n 1, 1, 0, .null), (37, .iload_n 2, 2, 0, .null), (38, .invokevirtual 415, 203, 2, .ref 12), (41, .istore_n 3, 3, 0, .null), (42, .iload_n 3, 3, 0, .null), (43, .ifCond .eq 9, 52, 0, .null), (46, .aload_n 0, 0, 0, .null), (47, .iload_n 3, 3, 0, .null), (48, .invokevirtual 292, 164, 1, .ref 12), (51, .ireturn, 0, 0, .null), (52, .aload_n 0, 0, 0, .null), (53, .aload_n 0, 0, 0, .null), (54, .getfield 394, 12, 62, .null), (57, .putfield 418, 12, 56, .null), (60, .iconst 1, 0, 0, .int 1), (61, .ireturn, 0, 0, .null)]
def v_M_ask : List (Nat × List Nat) := [(0, [0, 1, 2])]
def s_M_ask : List (Nat × Nat × List Op) := [(0, 62, o_M_ask_0)]
set_option maxRecDepth 100000 in
theorem k_M_ask : MOk P_M s_M_ask 202 4 := ⟨P_M_ok, _, rfl, rfl, rfl, by decide +kernel⟩
def o_M_asks_0 : List Op := [(0, .iconst 0, 0, 0, .int 0), (1, .istore_n 3, 3, 0, .null), (2, .iload_n 1, 1, 0, .null), (3, .istore 4, 4, 0, .null), (5, .iconst 1, 0, 0, .int 1), (6, .istore 5, 5, 0, .null)]
def o_M_asks_1 : List Op := [(8, .iload 5, 5, 0, .null), (10, .ifCond .ne 7, 17, 0, .null), (13, .iload_n 3, 3, 0, .null), (14, .ifCond .le 224, 238, 0, .null), (17, .iload 5, 5, 0, .null), (19, .ifCond .ne 105, 124, 0, .null), (22, .iload_n 3, 3, 0, .null), (23, .iconst 1, 0, 0, .int 1), (24, .isub, 0, 0, .null), (25, .istore 6, 6, 0, .null), (27, .aload_n 0, 0, 0, .null), (28, .getfield 154, 12, 64, .null), (31, .iload 6, 6, 0, .null), (33, .baload, 0, 0, .null), (34, .ifCond .eq 28, 62, 0, .null), (37, .aload_n 0, 0, 0, .null), (38, .iload_n 2, 2, 0, .null), (39, .aload_n 0, 0, 0, .null), (40, .getfield 157, 12, 65, .null), (43, .iload 6, 6, 0, .null), (45, .iaload, 0, 0, .null), (46, .aload_n 0, 0, 0, .null), (47, .getfield 394, 12, 62, .null), (50, .invokestatic 409, 204, 3, .ref 0), (53, .putfield 394, 12, 62, .null), (56, .iinc 3 (-1), 3, 0, .int (-1)), (59, .goto 62, 121, 0, .null), (62, .iload_n 2, 2, 0, .null), (63, .iconst 4, 0, 0, .int 4), (64, .if_icmp .ne 17, 81, 0, .null), (67, .aload_n 0, 0, 0, .null), (68, .getfield 394, 12, 62, .null), (71, .iconst 1, 0, 0, .int 1), (72, .if_icmp .ne 9, 81, 0, .null), (75, .iinc 3 (-1), 3, 0, .int (-1)), (78, .goto 43, 121, 0, .null), (81, .aload_n 0, 0, 0, .null), (82, .getfield 157, 12, 65, .null), (85, .iload 6, 6, 0, .null), (87, .aload_n 0, 0, 0, .null), (88, .getfield 394, 12, 62, .null), (91, .iastore, 0, 0, .null), (92, .aload_n 0, 0, 0, .null), (93, .getfield 154, 12, 64, .null), (96, .iload 6, 6, 0, .null), (98, .iconst 1, 0, 0, .int 1), (99, .bastore, 0, 0, .null), (100, .aload_n 0, 0, 0, .null), (101, .getfield 133, 12, 54, .null), (104, .iconst 2, 0, 0, .int 2), (105, .aload_n 0, 0, 0, .null), (106, .getfield 151, 12, 63, .null), (109, .iload 6, 6, 0, .null), (111, .iaload, 0, 0, .null), (112, .imul, 0, 0, .null), (113, .iconst 1, 0, 0, .int 1), (114, .iadd, 0, 0, .null), (115, .iaload, 0, 0, .null), (116, .istore 4, 4, 0, .null), (118, .iconst 1, 0, 0, .int 1), (119, .istore 5, 5, 0, .null), (121, .goto (-113), 8, 0, .null), (124, .iload 4, 4, 0, .null), (126, .iconst (-1), 0, 0, .int (-1)), (127, .if_icmp .ne 5, 132, 0, .null), (130, .iconst 1, 0, 0, .int 1), (131, .ireturn, 0, 0, .null), (132, .aload_n 0, 0, 0, .null), (133, .getfield 121, 12, 50, .null), (136, .iload 4, 4, 0, .null), (138, .iaload, 0, 0, .null), (139, .iconst 4, 0, 0, .int 4), (140, .if_icmp .ne 75, 215, 0, .null), (143, .iload_n 2, 2, 0, .null), (144, .iconst 1, 0, 0, .int 1), (145, .if_icmp .eq 70, 215, 0, .null), (148, .aload_n 0, 0, 0, .null), (149, .iload_n 2, 2, 0, .null), (150, .ifCond .ne 8, 158, 0, .null), (153, .bipush 12, 0, 0, .int 12), (155, .goto 25, 180, 0, .null), (158, .iload_n 2, 2, 0, .null), (159, .iconst 2, 0, 0, .int 2), (160, .if_icmp .ne 8, 168, 0, .null), (163, .bipush 32, 0, 0, .int 32), (165, .goto 15, 180, 0, .null), (168, .iload_n 2, 2, 0, .null), (169, .iconst 3, 0, 0, .int 3), (170, .if_icmp .ne 8, 178, 0, .null), (173, .bipush 43, 0, 0, .int 43), (175, .goto 5, 180, 0, .null), (178, .bipush 52, 0, 0, .int 52), (180, .invokevirtual 390, 205, 1, .ref 12), (183, .aload_n 0, 0, 0, .null), (184, .getfield 151, 12, 63, .null), (187, .iload_n 3, 3, 0, .null), (188, .iload 4, 4, 0, .null), (190, .iastore, 0, 0, .null), (191, .aload_n 0, 0, 0, .null), (192, .getfield 154, 12, 64, .null), (195, .iload_n 3, 3, 0, .null), (196, .iconst 0, 0, 0, .int 0), (197, .bastore, 0, 0, .null), (198, .iinc 3 1, 3, 0, .int 1), (201, .aload_n 0, 0, 0, .null), (202, .getfield 133, 12, 54, .null), (205, .iconst 2, 0, 0, .int 2), (206, .iload 4, 4, 0, .null), (208, .imul, 0, 0, .null), (209, .iaload, 0, 0, .null), (210, .istore 4, 4, 0, .null), (212, .goto (-204), 8, 0, .null), (215, .aload_n 0, 0, 0, .null), (216, .iload 4, 4, 0, .null), (218, .iload_n 2, 2, 0, .null), (219, .invokevirtual 412, 206, 2, .ref 12), (222, .istore 6, 6, 0, .null), (224, .iload 6, 6, 0, .null), (226, .ifCond .eq 6, 232, 0, .null), (229, .iload 6, 6, 0, .null), (231, .ireturn, 0, 0, .null), (232, .iconst 0, 0, 0, .int 0), (233, .istore 5, 5, 0, .null), (235, .goto (-227), 8, 0, .null), (238, .iconst 0, 0, 0, .int 0), (239, .ireturn, 0, 0, .null)]
def v_M_asks : List (Nat × List Nat) := [(0, [0, 1, 2]), (8, [0, 2, 3, 4, 5])]
def s_M_asks : List (Nat × Nat × List Op) := [(0, 8, o_M_asks_0), (8, 240, o_M_asks_1)]
set_option maxRecDepth 100000 in
theorem k_M_asks : MOk P_M s_M_asks 203 7 := ⟨P_M_ok, _, rfl, rfl, rfl, by decide +kernel⟩
def o_M_joined_0 : List Op := [(0, .iload_n 0, 0, 0, .null), (1, .tableswitch 59 0 3 #[31, 59, 42, 53], 0, 0, .null), (32, .iload_n 1, 1, 0, .null), (33, .iload_n 2, 2, 0, .null), (34, .if_icmp .le 7, 41, 0, .null), (37, .iload_n 1, 1, 0, .null), (38, .goto 4, 42, 0, .null), (41, .iload_n 2, 2, 0, .null), (42, .ireturn, 0, 0, .null), (43, .iload_n 1, 1, 0, .null), (44, .iload_n 2, 2, 0, .null), (45, .if_icmp .ge 7, 52, 0, .null), (48, .iload_n 1, 1, 0, .null), (49, .goto 4, 53, 0, .null), (52, .iload_n 2, 2, 0, .null), (53, .ireturn, 0, 0, .null), (54, .iload_n 1, 1, 0, .null), (55, .iload_n 2, 2, 0, .null), (56, .iadd, 0, 0, .null), (57, .iconst 2, 0, 0, .int 2), (58, .idiv, 0, 0, .null), (59, .ireturn, 0, 0, .null), (60, .iload_n 2, 2, 0, .null), (61, .ireturn, 0, 0, .null)]
def v_M_joined : List (Nat × List Nat) := [(0, [0, 1, 2])]
def s_M_joined : List (Nat × Nat × List Op) := [(0, 62, o_M_joined_0)]
set_option maxRecDepth 100000 in
theorem k_M_joined : MOk P_M s_M_joined 204 3 := ⟨P_M_ok, _, rfl, rfl, rfl, by decide +kernel⟩
def o_M_begins_0 : List Op := [(0, .aload_n 0, 0, 0, .null), (1, .getfield 387, 12, 57, .null), (4, .bipush 100, 0, 0, .int 100), (6, .if_icmp .ge 23, 29, 0, .null), (9, .aload_n 0, 0, 0, .null), (10, .getfield 139, 12, 58, .null), (13, .aload_n 0, 0, 0, .null), (14, .getfield 387, 12, 57, .null), (17, .iload_n 1, 1, 0, .null), (18, .iastore, 0, 0, .null), (19, .aload_n 0, 0, 0, .null), (20, .dup, 0, 0, .null), (21, .getfield 387, 12, 57, .null), (24, .iconst 1, 0, 0, .int 1), (25, .iadd, 0, 0, .null), (26, .putfield 387, 12, 57, .null), (29, .return_, 0, 0, .null)]
def v_M_begins : List (Nat × List Nat) := [(0, [0, 1])]
def s_M_begins : List (Nat × Nat × List Op) := [(0, 30, o_M_begins_0)]
set_option maxRecDepth 100000 in
theorem k_M_begins : MOk P_M s_M_begins 205 2 := ⟨P_M_ok, _, rfl, rfl, rfl, by decide +kernel⟩
def o_M_asksOne_0 : List Op := [(0, .iload_n 2, 2, 0, .null), (1, .tableswitch 58 0 3 #[31, 38, 45, 51], 0, 0, .null), (32, .aload_n 0, 0, 0, .null), (33, .iload_n 1, 1, 0, .null), (34, .invokevirtual 400, 207, 1, .ref 12), (37, .iconst 0, 0, 0, .int 0), (38, .ireturn, 0, 0, .null), (39, .aload_n 0, 0, 0, .null), (40, .iload_n 1, 1, 0, .null), (41, .invokevirtual 397, 208, 1, .ref 12), (44, .iconst 0, 0, 0, .int 0), (45, .ireturn, 0, 0, .null), (46, .aload_n 0, 0, 0, .null), (47, .iload_n 1, 1, 0, .null), (48, .invokevirtual 403, 209, 1, .ref 12), (51, .ireturn, 0, 0, .null), (52, .aload_n 0, 0, 0, .null), (53, .iload_n 1, 1, 0, .null), (54, .invokevirtual 406, 210, 1, .ref 12), (57, .iconst 0, 0, 0, .int 0), (58, .ireturn, 0, 0, .null), (59, .aload_n 0, 0, 0, .null), (60, .aload_n 0, 0, 0, .null), (61, .getfield 121, 12, 50, .null), (64, .iload_n 1, 1, 0, .null), (65, .iaload, 0, 0, .null), (66, .iconst 2, 0, 0, .int 2), (67, .if_icmp .ne 8, 75, 0, .null), (70, .bipush 51, 0, 0, .int 51), (72, .goto 5, 77, 0, .null), (75, .bipush 50, 0, 0, .int 50), (77, .invokevirtual 390, 205, 1, .ref 12), (80, .aload_n 0, 0, 0, .null), (81, .aload_n 0, 0, 0, .null), (82, .getfield 121, 12, 50, .null), (85, .iload_n 1, 1, 0, .null), (86, .iaload, 0, 0, .null), (87, .iconst 2, 0, 0, .int 2), (88, .if_icmp .ne 7, 95, 0, .null), (91, .iconst 1, 0, 0, .int 1), (92, .goto 4, 96, 0, .null), (95, .iconst 0, 0, 0, .int 0), (96, .putfield 394, 12, 62, .null), (99, .iconst 0, 0, 0, .int 0), (100, .ireturn, 0, 0, .null)]
def v_M_asksOne : List (Nat × List Nat) := [(0, [0, 1, 2])]
def s_M_asksOne : List (Nat × Nat × List Op) := [(0, 101, o_M_asksOne_0)]
set_option maxRecDepth 100000 in
theorem k_M_asksOne : MOk P_M s_M_asksOne 206 3 := ⟨P_M_ok, _, rfl, rfl, rfl, by decide +kernel⟩
def o_M_needOf_0 : List Op := [(0, .aload_n 0, 0, 0, .null), (1, .getfield 121, 12, 50, .null), (4, .iload_n 1, 1, 0, .null), (5, .iaload, 0, 0, .null), (6, .ifCond .eq 13, 19, 0, .null), (9, .aload_n 0, 0, 0, .null), (10, .getfield 121, 12, 50, .null), (13, .iload_n 1, 1, 0, .null), (14, .iaload, 0, 0, .null), (15, .iconst 2, 0, 0, .int 2), (16, .if_icmp .ne 7, 23, 0, .null), (19, .iconst 1, 0, 0, .int 1), (20, .goto 4, 24, 0, .null), (23, .iconst 0, 0, 0, .int 0), (24, .istore_n 2, 2, 0, .null), (25, .iload_n 2, 2, 0, .null), (26, .ifCond .eq 9, 35, 0, .null), (29, .aload_n 0, 0, 0, .null), (30, .bipush 11, 0, 0, .int 11), (32, .invokevirtual 390, 205, 1, .ref 12), (35, .aload_n 0, 0, 0, .null), (36, .bipush 10, 0, 0, .int 10), (38, .invokevirtual 390, 205, 1, .ref 12), (41, .aload_n 0, 0, 0, .null), (42, .iload_n 1, 1, 0, .null), (43, .invokevirtual 397, 208, 1, .ref 12), (46, .aload_n 0, 0, 0, .null), (47, .aload_n 0, 0, 0, .null), (48, .getfield 124, 12, 51, .null), (51, .iload_n 1, 1, 0, .null), (52, .iaload, 0, 0, .null), (53, .aload_n 0, 0, 0, .null), (54, .getfield 394, 12, 62, .null), (57, .iadd, 0, 0, .null), (58, .iload_n 2, 2, 0, .null), (59, .ifCond .eq 15, 74, 0, .null), (62, .aload_n 0, 0, 0, .null), (63, .getfield 124, 12, 51, .null), (66, .iload_n 1, 1, 0, .null), (67, .iaload, 0, 0, .null), (68, .bipush 10, 0, 0, .int 10), (70, .idiv, 0, 0, .null), (71, .goto 4, 75, 0, .null), (74, .iconst 0, 0, 0, .int 0), (75, .iadd, 0, 0, .null), (76, .putfield 394, 12, 62, .null), (79, .return_, 0, 0, .null)]
def v_M_needOf : List (Nat × List Nat) := [(0, [0, 1])]
def s_M_needOf : List (Nat × Nat × List Op) := [(0, 80, o_M_needOf_0)]
set_option maxRecDepth 100000 in
theorem k_M_needOf : MOk P_M s_M_needOf 207 3 := ⟨P_M_ok, _, rfl, rfl, rfl, by decide +kernel⟩
def o_M_keelOf_0 : List Op := [(0, .aload_n 0, 0, 0, .null), (1, .getfield 121, 12, 50, .null), (4, .iload_n 1, 1, 0, .null), (5, .iaload, 0, 0, .null), (6, .istore_n 2, 2, 0, .null), (7, .iload_n 2, 2, 0, .null), (8, .ifCond .ne 18, 26, 0, .null), (11, .aload_n 0, 0, 0, .null), (12, .bipush 21, 0, 0, .int 21), (14, .invokevirtual 390, 205, 1, .ref 12), (17, .aload_n 0, 0, 0, .null), (18, .bipush 100, 0, 0, .int 100), (20, .putfield 394, 12, 62, .null), (23, .goto 74, 97, 0, .null), (26, .iload_n 2, 2, 0, .null), (27, .iconst 2, 0, 0, .int 2), (28, .if_icmp .ne 31, 59, 0, .null), (31, .aload_n 0, 0, 0, .null), (32, .bipush 22, 0, 0, .int 22), (34, .invokevirtual 390, 205, 1, .ref 12), (37, .aload_n 0, 0, 0, .null), (38, .bipush 21, 0, 0, .int 21), (40, .invokevirtual 390, 205, 1, .ref 12), (43, .aload_n 0, 0, 0, .null), (44, .bipush 100, 0, 0, .int 100), (46, .aload_n 0, 0, 0, .null), (47, .getfield 130, 12, 53, .null), (50, .iload_n 1, 1, 0, .null), (51, .iaload, 0, 0, .null), (52, .iadd, 0, 0, .null), (53, .putfield 394, 12, 62, .null), (56, .goto 41, 97, 0, .null), (59, .iload_n 2, 2, 0, .null), (60, .iconst 3, 0, 0, .int 3), (61, .if_icmp .ne 24, 85, 0, .null), (64, .aload_n 0, 0, 0, .null), (65, .bipush 23, 0, 0, .int 23), (67, .invokevirtual 390, 205, 1, .ref 12), (70, .aload_n 0, 0, 0, .null), (71, .bipush 20, 0, 0, .int 20), (73, .invokevirtual 390, 205, 1, .ref 12), (76, .aload_n 0, 0, 0, .null), (77, .bipush 60, 0, 0, .int 60), (79, .putfield 394, 12, 62, .null), (82, .goto 15, 97, 0, .null), (85, .aload_n 0, 0, 0, .null), (86, .bipush 20, 0, 0, .int 20), (88, .invokevirtual 390, 205, 1, .ref 12), (91, .aload_n 0, 0, 0, .null), (92, .bipush 30, 0, 0, .int 30), (94, .putfield 394, 12, 62, .null), (97, .return_, 0, 0, .null)]
def v_M_keelOf : List (Nat × List Nat) := [(0, [0, 1])]
def s_M_keelOf : List (Nat × Nat × List Op) := [(0, 98, o_M_keelOf_0)]
set_option maxRecDepth 100000 in
theorem k_M_keelOf : MOk P_M s_M_keelOf 208 3 := ⟨P_M_ok, _, rfl, rfl, rfl, by decide +kernel⟩
def o_M_paceOf_0 : List Op := [(0, .aload_n 0, 0, 0, .null), (1, .getfield 121, 12, 50, .null), (4, .iload_n 1, 1, 0, .null), (5, .iaload, 0, 0, .null), (6, .iconst 2, 0, 0, .int 2), (7, .if_icmp .eq 21, 28, 0, .null), (10, .aload_n 0, 0, 0, .null), (11, .bipush 30, 0, 0, .int 30), (13, .invokevirtual 390, 205, 1, .ref 12), (16, .aload_n 0, 0, 0, .null), (17, .aload_n 0, 0, 0, .null), (18, .getfield 127, 12, 52, .null), (21, .iload_n 1, 1, 0, .null), (22, .iaload, 0, 0, .null), (23, .putfield 394, 12, 62, .null), (26, .iconst 0, 0, 0, .int 0), (27, .ireturn, 0, 0, .null), (28, .aload_n 0, 0, 0, .null), (29, .bipush 31, 0, 0, .int 31), (31, .invokevirtual 390, 205, 1, .ref 12), (34, .aload_n 0, 0, 0, .null), (35, .bipush 30, 0, 0, .int 30), (37, .invokevirtual 390, 205, 1, .ref 12), (40, .aload_n 0, 0, 0, .null), (41, .getfield 130, 12, 53, .null), (44, .iload_n 1, 1, 0, .null), (45, .iaload, 0, 0, .null), (46, .ifCond .ne 5, 51, 0, .null), (49, .iconst 4, 0, 0, .int 4), (50, .ireturn, 0, 0, .null), (51, .aload_n 0, 0, 0, .null), (52, .aload_n 0, 0, 0, .null), (53, .getfield 127, 12, 52, .null), (56, .iload_n 1, 1, 0, .null), (57, .iaload, 0, 0, .null), (58, .aload_n 0, 0, 0, .null), (59, .getfield 130, 12, 53, .null), (62, .iload_n 1, 1, 0, .null), (63, .iaload, 0, 0, .null), (64, .idiv, 0, 0, .null), (65, .putfield 394, 12, 62, .null), (68, .iconst 0, 0, 0, .int 0), (69, .ireturn, 0, 0, .null)]
def v_M_paceOf : List (Nat × List Nat) := [(0, [0, 1])]
def s_M_paceOf : List (Nat × Nat × List Op) := [(0, 70, o_M_paceOf_0)]
set_option maxRecDepth 100000 in
theorem k_M_paceOf : MOk P_M s_M_paceOf 209 2 := ⟨P_M_ok, _, rfl, rfl, rfl, by decide +kernel⟩
def o_M_patienceOf_0 : List Op := [(0, .aload_n 0, 0, 0, .null), (1, .getfield 121, 12, 50, .null), (4, .iload_n 1, 1, 0, .null), (5, .iaload, 0, 0, .null), (6, .iconst 1, 0, 0, .int 1), (7, .if_icmp .ne 18, 25, 0, .null), (10, .aload_n 0, 0, 0, .null), (11, .bipush 41, 0, 0, .int 41), (13, .invokevirtual 390, 205, 1, .ref 12), (16, .aload_n 0, 0, 0, .null), (17, .bipush 30, 0, 0, .int 30), (19, .putfield 394, 12, 62, .null), (22, .goto 53, 75, 0, .null), (25, .aload_n 0, 0, 0, .null), (26, .getfield 121, 12, 50, .null), (29, .iload_n 1, 1, 0, .null), (30, .iaload, 0, 0, .null), (31, .iconst 3, 0, 0, .int 3), (32, .if_icmp .ne 31, 63, 0, .null), (35, .aload_n 0, 0, 0, .null), (36, .bipush 42, 0, 0, .int 42), (38, .invokevirtual 390, 205, 1, .ref 12), (41, .aload_n 0, 0, 0, .null), (42, .bipush 41, 0, 0, .int 41), (44, .invokevirtual 390, 205, 1, .ref 12), (47, .aload_n 0, 0, 0, .null), (48, .bipush 30, 0, 0, .int 30), (50, .aload_n 0, 0, 0, .null), (51, .getfield 130, 12, 53, .null), (54, .iload_n 1, 1, 0, .null), (55, .iaload, 0, 0, .null), (56, .isub, 0, 0, .null), (57, .putfield 394, 12, 62, .null), (60, .goto 15, 75, 0, .null), (63, .aload_n 0, 0, 0, .null), (64, .bipush 40, 0, 0, .int 40), (66, .invokevirtual 390, 205, 1, .ref 12), (69, .aload_n 0, 0, 0, .null), (70, .bipush 60, 0, 0, .int 60), (72, .putfield 394, 12, 62, .null), (75, .return_, 0, 0, .null)]
def v_M_patienceOf : List (Nat × List Nat) := [(0, [0, 1])]
def s_M_patienceOf : List (Nat × Nat × List Op) := [(0, 76, o_M_patienceOf_0)]
set_option maxRecDepth 100000 in
theorem k_M_patienceOf : MOk P_M s_M_patienceOf 210 2 := ⟨P_M_ok, _, rfl, rfl, rfl, by decide +kernel⟩
def o_M_asked_0 : List Op := [(0, .aload_n 0, 0, 0, .null), (1, .getfield 418, 12, 56, .null), (4, .ireturn, 0, 0, .null)]
def v_M_asked : List (Nat × List Nat) := [(0, [0])]
def s_M_asked : List (Nat × Nat × List Op) := [(0, 5, o_M_asked_0)]
set_option maxRecDepth 100000 in
theorem k_M_asked : MOk P_M s_M_asked 211 1 := ⟨P_M_ok, _, rfl, rfl, rfl, by decide +kernel⟩
def o_M_trace_0 : List Op := [(0, .iload_n 1, 1, 0, .null), (1, .iconst 0, 0, 0, .int 0), (2, .aload_n 0, 0, 0, .null), (3, .getfield 387, 12, 57, .null), (6, .iconst 1, 0, 0, .int 1), (7, .isub, 0, 0, .null), (8, .invokestatic 216, 150, 3, .ref 0), (11, .ifCond .eq 12, 23, 0, .null), (14, .aload_n 0, 0, 0, .null), (15, .getfield 139, 12, 58, .null), (18, .iload_n 1, 1, 0, .null), (19, .iaload, 0, 0, .null), (20, .goto 4, 24, 0, .null), (23, .iconst (-1), 0, 0, .int (-1)), (24, .ireturn, 0, 0, .null)]
def v_M_trace : List (Nat × List Nat) := [(0, [0, 1])]
def s_M_trace : List (Nat × Nat × List Op) := [(0, 25, o_M_trace_0)]
set_option maxRecDepth 100000 in
theorem k_M_trace : MOk P_M s_M_trace 212 2 := ⟨P_M_ok, _, rfl, rfl, rfl, by decide +kernel⟩
def o_M_as_0 : List Op := [(0, .aload_n 0, 0, 0, .null), (1, .iload_n 1, 1, 0, .null), (2, .invokevirtual 384, 200, 1, .ref 12), (5, .ifCond .eq 12, 17, 0, .null), (8, .iload_n 2, 2, 0, .null), (9, .iconst 0, 0, 0, .int 0), (10, .iconst 4, 0, 0, .int 4), (11, .invokestatic 216, 150, 3, .ref 0), (14, .ifCond .ne 6, 20, 0, .null), (17, .bipush (-2), 0, 0, .int (-2)), (19, .ireturn, 0, 0, .null), (20, .aload_n 0, 0, 0, .null), (21, .invokevirtual 283, 161, 0, .ref 12), (24, .ifCond .eq 6, 30, 0, .null), (27, .bipush (-4), 0, 0, .int (-4)), (29, .ireturn, 0, 0, .null), (30, .iload_n 1, 1, 0, .null), (31, .iconst (-1), 0, 0, .int (-1)), (32, .if_icmp .ne 9, 41, 0, .null), (35, .aload_n 0, 0, 0, .null), (36, .iconst 1, 0, 0, .int 1), (37, .invokevirtual 292, 164, 1, .ref 12), (40, .ireturn, 0, 0, .null), (41, .aload_n 0, 0, 0, .null), (42, .iload_n 1, 1, 0, .null), (43, .iload_n 2, 2, 0, .null), (44, .invokevirtual 421, 214, 2, .ref 12), (47, .ifCond .ne 9, 56, 0, .null), (50, .aload_n 0, 0, 0, .null), (51, .iconst 3, 0, 0, .int 3), (52, .invokevirtual 292, 164, 1, .ref 12), (55, .ireturn, 0, 0, .null), (56, .aload_n 0, 0, 0, .null), (57, .aload_n 0, 0, 0, .null), (58, .getfield 130, 12, 53, .null), (61, .iload_n 1, 1, 0, .null), (62, .iaload, 0, 0, .null), (63, .putfield 418, 12, 56, .null), (66, .iconst 1, 0, 0, .int 1), (67, .ireturn, 0, 0, .null)]
def v_M_as : List (Nat × List Nat) := [(0, [0, 1, 2])]
def s_M_as : List (Nat × Nat × List Op) := [(0, 68, o_M_as_0)]
set_option maxRecDepth 100000 in
theorem k_M_as : MOk P_M s_M_as 213 3 := ⟨P_M_ok, _, rfl, rfl, rfl, by decide +kernel⟩
def o_M_isOf_0 : List Op := [(0, .aload_n 0, 0, 0, .null), (1, .getfield 121, 12, 50, .null), (4, .iload_n 1, 1, 0, .null), (5, .iaload, 0, 0, .null), (6, .istore_n 3, 3, 0, .null), (7, .iload_n 3, 3, 0, .null), (8, .iload_n 2, 2, 0, .null), (9, .if_icmp .eq 22, 31, 0, .null), (12, .iload_n 2, 2, 0, .null), (13, .ifCond .ne 8, 21, 0, .null), (16, .iload_n 3, 3, 0, .null), (17, .iconst 2, 0, 0, .int 2), (18, .if_icmp .eq 13, 31, 0, .null), (21, .iload_n 2, 2, 0, .null), (22, .iconst 1, 0, 0, .int 1), (23, .if_icmp .ne 12, 35, 0, .null), (26, .iload_n 3, 3, 0, .null), (27, .iconst 3, 0, 0, .int 3), (28, .if_icmp .ne 7, 35, 0, .null), (31, .iconst 1, 0, 0, .int 1), (32, .goto 4, 36, 0, .null), (35, .iconst 0, 0, 0, .int 0), (36, .ireturn, 1, 0, .null)]
def v_M_isOf : List (Nat × List Nat) := [(0, [0, 1, 2])]
def s_M_isOf : List (Nat × Nat × List Op) := [(0, 37, o_M_isOf_0)]
set_option maxRecDepth 100000 in
theorem k_M_isOf : MOk P_M s_M_isOf 214 4 := ⟨P_M_ok, _, rfl, rfl, rfl, by decide +kernel⟩
def o_M_fleet_0 : List Op := [(0, .iload_n 1, 1, 0, .null), (1, .invokestatic 424, 216, 1, .ref 0), (4, .ifCond .eq 18, 22, 0, .null), (7, .iload_n 2, 2, 0, .null), (8, .iconst 0, 0, 0, .int 0), (9, .iconst 5, 0, 0, .int 5), (10, .invokestatic 216, 150, 3, .ref 0), (13, .ifCond .eq 9, 22, 0, .null), (16, .iload_n 3, 3, 0, .null), (17, .bipush 8, 0, 0, .int 8), (19, .if_icmp .le 6, 25, 0, .null), (22, .bipush (-2), 0, 0, .int (-2)), (24, .ireturn, 0, 0, .null), (25, .aload_n 0, 0, 0, .null), (26, .invokevirtual 283, 161, 0, .ref 12), (29, .ifCond .eq 6, 35, 0, .null), (32, .bipush (-4), 0, 0, .int (-4)), (34, .ireturn, 0, 0, .null), (35, .iload_n 3, 3, 0, .null), (36, .ifCond .ge 9, 45, 0, .null), (39, .aload_n 0, 0, 0, .null), (40, .iconst 5, 0, 0, .int 5), (41, .invokevirtual 292, 164, 1, .ref 12), (44, .ireturn, 0, 0, .null), (45, .aload_n 0, 0, 0, .null), (46, .getfield 142, 12, 59, .null), (49, .iload_n 1, 1, 0, .null), (50, .iload_n 2, 2, 0, .null), (51, .iastore, 0, 0, .null), (52, .aload_n 0, 0, 0, .null), (53, .getfield 145, 12, 60, .null), (56, .iload_n 1, 1, 0, .null), (57, .iload_n 3, 3, 0, .null), (58, .iastore, 0, 0, .null), (59, .iconst 0, 0, 0, .int 0), (60, .istore 4, 4, 0, .null)]
def o_M_fleet_1 : List Op := [(62, .iload 4, 4, 0, .null), (64, .bipush 8, 0, 0, .int 8), (66, .if_icmp .ge 22, 88, 0, .null), (69, .aload_n 0, 0, 0, .null), (70, .getfield 148, 12, 61, .null), (73, .bipush 8, 0, 0, .int 8), (75, .iload_n 1, 1, 0, .null), (76, .imul, 0, 0, .null), (77, .iload 4, 4, 0, .null), (79, .iadd, 0, 0, .null), (80, .iconst (-1), 0, 0, .int (-1)), (81, .iastore, 0, 0, .null), (82, .iinc 4 1, 4, 0, .int 1), (85, .goto (-23), 62, 0, .null), (88, .iconst 1, 0, 0, .int 1), (89, .ireturn, 0, 0, .null)]
def v_M_fleet : List (Nat × List Nat) := [(0, [0, 1, 2, 3]), (62, [0, 1, 4])]
def s_M_fleet : List (Nat × Nat × List Op) := [(0, 62, o_M_fleet_0), (62, 90, o_M_fleet_1)]
set_option maxRecDepth 100000 in
theorem k_M_fleet : MOk P_M s_M_fleet 215 5 := ⟨P_M_ok, _, rfl, rfl, rfl, by decide +kernel⟩
def o_M_isFleet_0 : List Op := [(0, .iload_n 0, 0, 0, .null), (1, .iconst 0, 0, 0, .int 0), (2, .iconst 3, 0, 0, .int 3), (3, .invokestatic 216, 150, 3, .ref 0), (6, .ireturn, 1, 0, .null)]
def v_M_isFleet : List (Nat × List Nat) := [(0, [0])]
def s_M_isFleet : List (Nat × Nat × List Op) := [(0, 7, o_M_isFleet_0)]
set_option maxRecDepth 100000 in
theorem k_M_isFleet : MOk P_M s_M_isFleet 216 1 := ⟨P_M_ok, _, rfl, rfl, rfl, by decide +kernel⟩
def o_M_join_0 : List Op := [(0, .iload_n 1, 1, 0, .null), (1, .invokestatic 424, 216, 1, .ref 0), (4, .ifCond .eq 11, 15, 0, .null), (7, .aload_n 0, 0, 0, .null), (8, .iload_n 3, 3, 0, .null), (9, .invokevirtual 384, 200, 1, .ref 12), (12, .ifCond .ne 6, 18, 0, .null), (15, .bipush (-2), 0, 0, .int (-2)), (17, .ireturn, 0, 0, .null), (18, .aload_n 0, 0, 0, .null), (19, .invokevirtual 283, 161, 0, .ref 12), (22, .ifCond .eq 6, 28, 0, .null), (25, .bipush (-4), 0, 0, .int (-4)), (27, .ireturn, 0, 0, .null), (28, .aload_n 0, 0, 0, .null), (29, .iload_n 1, 1, 0, .null), (30, .iload_n 2, 2, 0, .null), (31, .invokevirtual 427, 218, 2, .ref 12), (34, .istore 4, 4, 0, .null), (36, .iload 4, 4, 0, .null), (38, .ifCond .ne 17, 55, 0, .null), (41, .aload_n 0, 0, 0, .null), (42, .iload_n 1, 1, 0, .null), (43, .iload_n 3, 3, 0, .null), (44, .invokevirtual 430, 219, 2, .ref 12), (47, .ifCond .ne 8, 55, 0, .null), (50, .bipush 6, 0, 0, .int 6), (52, .goto 5, 57, 0, .null), (55, .iload 4, 4, 0, .null), (57, .istore 4, 4, 0, .null), (59, .iload 4, 4, 0, .null), (61, .ifCond .eq 10, 71, 0, .null), (64, .aload_n 0, 0, 0, .null), (65, .iload 4, 4, 0, .null), (67, .invokevirtual 292, 164, 1, .ref 12), (70, .ireturn, 0, 0, .null), (71, .aload_n 0, 0, 0, .null), (72, .getfield 148, 12, 61, .null), (75, .bipush 8, 0, 0, .int 8), (77, .iload_n 1, 1, 0, .null), (78, .imul, 0, 0, .null), (79, .iload_n 2, 2, 0, .null), (80, .iadd, 0, 0, .null), (81, .iload_n 3, 3, 0, .null), (82, .iastore, 0, 0, .null), (83, .iconst 1, 0, 0, .int 1), (84, .ireturn, 0, 0, .null)]
def v_M_join : List (Nat × List Nat) := [(0, [0, 1, 2, 3])]
def s_M_join : List (Nat × Nat × List Op) := [(0, 85, o_M_join_0)]
set_option maxRecDepth 100000 in
theorem k_M_join : MOk P_M s_M_join 217 5 := ⟨P_M_ok, _, rfl, rfl, rfl, by decide +kernel⟩
end
section
def o_M_stands_0 : List Op := [(0, .aload_n 0, 0, 0, .null), (1, .getfield 145, 12, 60, .null), (4, .iload_n 1, 1, 0, .null), (5, .iaload, 0, 0, .null), (6, .iconst (-1), 0, 0, .int (-1)), (7, .if_icmp .ne 7, 14, 0, .null), (10, .iconst 1, 0, 0, .int 1), (11, .goto 24, 35, 0, .null), (14, .iload_n 2, 2, 0, .null), (15, .iconst 0, 0, 0, .int 0), (16, .aload_n 0, 0, 0, .null), (17, .getfield 145, 12, 60, .null), (20, .iload_n 1, 1, 0, .null), (21, .iaload, 0, 0, .null), (22, .iconst 1, 0, 0, .int 1), (23, .isub, 0, 0, .null), (24, .invokestatic 216, 150, 3, .ref 0), (27, .ifCond .ne 7, 34, 0, .null), (30, .iconst 2, 0, 0, .int 2), (31, .goto 4, 35, 0, .null), (34, .iconst 0, 0, 0, .int 0), (35, .ireturn, 0, 0, .null)]
def v_M_stands : List (Nat × List Nat) := [(0, [0, 1, 2])]
def s_M_stands : List (Nat × Nat × List Op) := [(0, 36, o_M_stands_0)]
set_option maxRecDepth 100000 in
theorem k_M_stands : MOk P_M s_M_stands 218 3 := ⟨P_M_ok, _, rfl, rfl, rfl, by decide +kernel⟩
def o_M_takes_0 : List Op := [(0, .iload_n 2, 2, 0, .null), (1, .iconst (-1), 0, 0, .int (-1)), (2, .if_icmp .eq 27, 29, 0, .null), (5, .aload_n 0, 0, 0, .null), (6, .getfield 142, 12, 59, .null), (9, .iload_n 1, 1, 0, .null), (10, .iaload, 0, 0, .null), (11, .iconst 5, 0, 0, .int 5), (12, .if_icmp .eq 17, 29, 0, .null), (15, .aload_n 0, 0, 0, .null), (16, .iload_n 2, 2, 0, .null), (17, .aload_n 0, 0, 0, .null), (18, .getfield 142, 12, 59, .null), (21, .iload_n 1, 1, 0, .null), (22, .iaload, 0, 0, .null), (23, .invokevirtual 421, 214, 2, .ref 12), (26, .ifCond .eq 7, 33, 0, .null), (29, .iconst 1, 0, 0, .int 1), (30, .goto 4, 34, 0, .null), (33, .iconst 0, 0, 0, .int 0), (34, .ireturn, 1, 0, .null)]
def v_M_takes : List (Nat × List Nat) := [(0, [0, 1, 2])]
def s_M_takes : List (Nat × Nat × List Op) := [(0, 35, o_M_takes_0)]
set_option maxRecDepth 100000 in
theorem k_M_takes : MOk P_M s_M_takes 219 3 := ⟨P_M_ok, _, rfl, rfl, rfl, by decide +kernel⟩
def o_M_member_0 : List Op := [(0, .iload_n 1, 1, 0, .null), (1, .invokestatic 424, 216, 1, .ref 0), (4, .ifCond .ne 6, 10, 0, .null), (7, .bipush (-2), 0, 0, .int (-2)), (9, .ireturn, 0, 0, .null), (10, .aload_n 0, 0, 0, .null), (11, .invokevirtual 283, 161, 0, .ref 12), (14, .ifCond .eq 6, 20, 0, .null), (17, .bipush (-4), 0, 0, .int (-4)), (19, .ireturn, 0, 0, .null), (20, .aload_n 0, 0, 0, .null), (21, .iload_n 1, 1, 0, .null), (22, .iload_n 2, 2, 0, .null), (23, .invokevirtual 427, 218, 2, .ref 12), (26, .istore_n 3, 3, 0, .null), (27, .iload_n 3, 3, 0, .null), (28, .ifCond .eq 11, 39, 0, .null), (31, .aload_n 0, 0, 0, .null), (32, .iload_n 3, 3, 0, .null), (33, .invokevirtual 292, 164, 1, .ref 12), (36, .goto 14, 50, 0, .null), (39, .aload_n 0, 0, 0, .null), (40, .getfield 148, 12, 61, .null), (43, .bipush 8, 0, 0, .int 8), (45, .iload_n 1, 1, 0, .null), (46, .imul, 0, 0, .null), (47, .iload_n 2, 2, 0, .null), (48, .iadd, 0, 0, .null), (49, .iaload, 0, 0, .null), (50, .ireturn, 0, 0, .null)]
def v_M_member : List (Nat × List Nat) := [(0, [0, 1, 2])]
def s_M_member : List (Nat × Nat × List Op) := [(0, 51, o_M_member_0)]
set_option maxRecDepth 100000 in
theorem k_M_member : MOk P_M s_M_member 220 4 := ⟨P_M_ok, _, rfl, rfl, rfl, by decide +kernel⟩
def o_M_move_0 : List Op := [(0, .iload_n 1, 1, 0, .null), (1, .invokestatic 424, 216, 1, .ref 0), (4, .ifCond .eq 10, 14, 0, .null), (7, .iload_n 3, 3, 0, .null), (8, .invokestatic 424, 216, 1, .ref 0), (11, .ifCond .ne 6, 17, 0, .null), (14, .bipush (-2), 0, 0, .int (-2)), (16, .ireturn, 0, 0, .null), (17, .aload_n 0, 0, 0, .null), (18, .invokevirtual 283, 161, 0, .ref 12), (21, .ifCond .eq 6, 27, 0, .null), (24, .bipush (-4), 0, 0, .int (-4)), (26, .ireturn, 0, 0, .null), (27, .aload_n 0, 0, 0, .null), (28, .getfield 145, 12, 60, .null), (31, .iload_n 1, 1, 0, .null), (32, .iaload, 0, 0, .null), (33, .iconst (-1), 0, 0, .int (-1)), (34, .if_icmp .eq 13, 47, 0, .null), (37, .aload_n 0, 0, 0, .null), (38, .getfield 145, 12, 60, .null), (41, .iload_n 3, 3, 0, .null), (42, .iaload, 0, 0, .null), (43, .iconst (-1), 0, 0, .int (-1)), (44, .if_icmp .ne 9, 53, 0, .null), (47, .aload_n 0, 0, 0, .null), (48, .iconst 1, 0, 0, .int 1), (49, .invokevirtual 292, 164, 1, .ref 12), (52, .ireturn, 0, 0, .null), (53, .iload_n 2, 2, 0, .null), (54, .ifCond .lt 40, 94, 0, .null), (57, .iload 4, 4, 0, .null), (59, .ifCond .lt 35, 94, 0, .null), (62, .iload 5, 5, 0, .null), (64, .ifCond .lt 30, 94, 0, .null), (67, .iload_n 2, 2, 0, .null), (68, .aload_n 0, 0, 0, .null), (69, .getfield 145, 12, 60, .null), (72, .iload_n 1, 1, 0, .null), (73, .iaload, 0, 0, .null), (74, .iload 5, 5, 0, .null), (76, .isub, 0, 0, .null), (77, .if_icmp .gt 17, 94, 0, .null), (80, .iload 4, 4, 0, .null), (82, .aload_n 0, 0, 0, .null), (83, .getfield 145, 12, 60, .null), (86, .iload_n 3, 3, 0, .null), (87, .iaload, 0, 0, .null), (88, .iload 5, 5, 0, .null), (90, .isub, 0, 0, .null), (91, .if_icmp .le 9, 100, 0, .null), (94, .aload_n 0, 0, 0, .null), (95, .iconst 2, 0, 0, .int 2), (96, .invokevirtual 292, 164, 1, .ref 12), (99, .ireturn, 0, 0, .null), (100, .iconst 0, 0, 0, .int 0), (101, .istore 6, 6, 0, .null)]
def o_M_move_1 : List Op := [(103, .iload 6, 6, 0, .null), (105, .iload 5, 5, 0, .null), (107, .if_icmp .ge 30, 137, 0, .null), (110, .aload_n 0, 0, 0, .null), (111, .getfield 160, 12, 66, .null), (114, .iload 6, 6, 0, .null), (116, .aload_n 0, 0, 0, .null), (117, .getfield 148, 12, 61, .null), (120, .bipush 8, 0, 0, .int 8), (122, .iload_n 1, 1, 0, .null), (123, .imul, 0, 0, .null), (124, .iload_n 2, 2, 0, .null), (125, .iadd, 0, 0, .null), (126, .iload 6, 6, 0, .null), (128, .iadd, 0, 0, .null), (129, .iaload, 0, 0, .null), (130, .iastore, 0, 0, .null), (131, .iinc 6 1, 6, 0, .int 1), (134, .goto (-31), 103, 0, .null), (137, .iconst 0, 0, 0, .int 0), (138, .istore 6, 6, 0, .null)]
def o_M_move_2 : List Op := [(140, .iload 6, 6, 0, .null), (142, .iload 5, 5, 0, .null), (144, .if_icmp .ge 53, 197, 0, .null), (147, .aload_n 0, 0, 0, .null), (148, .iload_n 3, 3, 0, .null), (149, .aload_n 0, 0, 0, .null), (150, .getfield 160, 12, 66, .null), (153, .iload 6, 6, 0, .null), (155, .iaload, 0, 0, .null), (156, .invokevirtual 430, 219, 2, .ref 12), (159, .ifCond .ne 10, 169, 0, .null), (162, .aload_n 0, 0, 0, .null), (163, .bipush 6, 0, 0, .int 6), (165, .invokevirtual 292, 164, 1, .ref 12), (168, .ireturn, 0, 0, .null), (169, .aload_n 0, 0, 0, .null), (170, .getfield 148, 12, 61, .null), (173, .bipush 8, 0, 0, .int 8), (175, .iload_n 3, 3, 0, .null), (176, .imul, 0, 0, .null), (177, .iload 4, 4, 0, .null), (179, .iadd, 0, 0, .null), (180, .iload 6, 6, 0, .null), (182, .iadd, 0, 0, .null), (183, .aload_n 0, 0, 0, .null), (184, .getfield 160, 12, 66, .null), (187, .iload 6, 6, 0, .null), (189, .iaload, 0, 0, .null), (190, .iastore, 0, 0, .null), (191, .iinc 6 1, 6, 0, .int 1), (194, .goto (-54), 140, 0, .null), (197, .iload 5, 5, 0, .null), (199, .ireturn, 0, 0, .null)]
def v_M_move : List (Nat × List Nat) := [(0, [0, 1, 2, 3, 4, 5]), (103, [0, 1, 2, 3, 4, 5, 6]), (140, [0, 3, 4, 5, 6])]
def s_M_move : List (Nat × Nat × List Op) := [(0, 103, o_M_move_0), (103, 140, o_M_move_1), (140, 200, o_M_move_2)]
set_option maxRecDepth 100000 in
theorem k_M_move : MOk P_M s_M_move 221 7 := ⟨P_M_ok, _, rfl, rfl, rfl, by decide +kernel⟩
def o_M_shared_0 : List Op := [(0, .iload_n 1, 1, 0, .null), (1, .invokestatic 424, 216, 1, .ref 0), (4, .ifCond .eq 14, 18, 0, .null), (7, .iload_n 2, 2, 0, .null), (8, .iconst 0, 0, 0, .int 0), (9, .ldc_w 433, 0, 0, .int 1000000), (12, .invokestatic 216, 150, 3, .ref 0), (15, .ifCond .ne 6, 21, 0, .null), (18, .bipush (-2), 0, 0, .int (-2)), (20, .ireturn, 0, 0, .null), (21, .aload_n 0, 0, 0, .null), (22, .invokevirtual 283, 161, 0, .ref 12), (25, .ifCond .eq 6, 31, 0, .null), (28, .bipush (-4), 0, 0, .int (-4)), (30, .ireturn, 0, 0, .null), (31, .aload_n 0, 0, 0, .null), (32, .getfield 145, 12, 60, .null), (35, .iload_n 1, 1, 0, .null), (36, .iaload, 0, 0, .null), (37, .iconst (-1), 0, 0, .int (-1)), (38, .if_icmp .ne 9, 47, 0, .null), (41, .aload_n 0, 0, 0, .null), (42, .iconst 1, 0, 0, .int 1), (43, .invokevirtual 292, 164, 1, .ref 12), (46, .ireturn, 0, 0, .null), (47, .iconst 0, 0, 0, .int 0), (48, .istore_n 3, 3, 0, .null), (49, .iconst 0, 0, 0, .int 0), (50, .istore 4, 4, 0, .null)]
def o_M_shared_1 : List Op := [(52, .iload 4, 4, 0, .null), (54, .aload_n 0, 0, 0, .null), (55, .getfield 145, 12, 60, .null), (58, .iload_n 1, 1, 0, .null), (59, .iaload, 0, 0, .null), (60, .if_icmp .ge 33, 93, 0, .null), (63, .aload_n 0, 0, 0, .null), (64, .getfield 148, 12, 61, .null), (67, .bipush 8, 0, 0, .int 8), (69, .iload_n 1, 1, 0, .null), (70, .imul, 0, 0, .null), (71, .iload 4, 4, 0, .null), (73, .iadd, 0, 0, .null), (74, .iaload, 0, 0, .null), (75, .iconst (-1), 0, 0, .int (-1)), (76, .if_icmp .ne 7, 83, 0, .null), (79, .iload_n 3, 3, 0, .null), (80, .goto 6, 86, 0, .null), (83, .iload_n 3, 3, 0, .null), (84, .iconst 1, 0, 0, .int 1), (85, .iadd, 0, 0, .null), (86, .istore_n 3, 3, 0, .null), (87, .iinc 4 1, 4, 0, .int 1), (90, .goto (-38), 52, 0, .null), (93, .iload_n 3, 3, 0, .null), (94, .ifCond .ne 9, 103, 0, .null), (97, .aload_n 0, 0, 0, .null), (98, .iconst 4, 0, 0, .int 4), (99, .invokevirtual 292, 164, 1, .ref 12), (102, .ireturn, 0, 0, .null), (103, .aload_n 0, 0, 0, .null), (104, .iload_n 2, 2, 0, .null), (105, .iload_n 3, 3, 0, .null), (106, .idiv, 0, 0, .null), (107, .putfield 418, 12, 56, .null), (110, .iconst 1, 0, 0, .int 1), (111, .ireturn, 0, 0, .null)]
def v_M_shared : List (Nat × List Nat) := [(0, [0, 1, 2]), (52, [0, 1, 2, 3, 4])]
def s_M_shared : List (Nat × Nat × List Op) := [(0, 52, o_M_shared_0), (52, 112, o_M_shared_1)]
set_option maxRecDepth 100000 in
theorem k_M_shared : MOk P_M s_M_shared 222 5 := ⟨P_M_ok, _, rfl, rfl, rfl, by decide +kernel⟩
def o_M_leg_0 : List Op := [(0, .iload_n 1, 1, 0, .null), (1, .invokestatic 437, 224, 1, .ref 0), (4, .ifCond .eq 44, 48, 0, .null), (7, .aload_n 0, 0, 0, .null), (8, .iload_n 2, 2, 0, .null), (9, .invokevirtual 345, 183, 1, .ref 12), (12, .ifCond .eq 36, 48, 0, .null), (15, .iload_n 3, 3, 0, .null), (16, .iconst 0, 0, 0, .int 0), (17, .ldc_w 440, 0, 0, .int 50000), (20, .invokestatic 216, 150, 3, .ref 0), (23, .ifCond .eq 25, 48, 0, .null), (26, .iload 4, 4, 0, .null), (28, .invokestatic 308, 170, 1, .ref 0), (31, .ifCond .ne 13, 44, 0, .null), (34, .iload 4, 4, 0, .null), (36, .invokestatic 315, 0, 0, .ref 1), (39, .fconst 0, 0, 0, .float 0), (40, .fcmp .l, 0, 0, .null), (41, .ifCond .lt 7, 48, 0, .null), (44, .iconst 1, 0, 0, .int 1), (45, .goto 4, 49, 0, .null), (48, .iconst 0, 0, 0, .int 0), (49, .istore 5, 5, 0, .null), (51, .iload 5, 5, 0, .null), (53, .ifCond .eq 33, 86, 0, .null), (56, .aload_n 0, 0, 0, .null), (57, .getfield 163, 12, 67, .null), (60, .iload_n 1, 1, 0, .null), (61, .iaload, 0, 0, .null), (62, .ifCond .le 27, 89, 0, .null), (65, .iload_n 3, 3, 0, .null), (66, .aload_n 0, 0, 0, .null), (67, .getfield 169, 12, 69, .null), (70, .iconst 4, 0, 0, .int 4), (71, .iload_n 1, 1, 0, .null), (72, .imul, 0, 0, .null), (73, .aload_n 0, 0, 0, .null), (74, .getfield 163, 12, 67, .null), (77, .iload_n 1, 1, 0, .null), (78, .iaload, 0, 0, .null), (79, .iadd, 0, 0, .null), (80, .iconst 1, 0, 0, .int 1), (81, .isub, 0, 0, .null), (82, .iaload, 0, 0, .null), (83, .if_icmp .ge 6, 89, 0, .null), (86, .bipush (-2), 0, 0, .int (-2)), (88, .ireturn, 0, 0, .null), (89, .aload_n 0, 0, 0, .null), (90, .iload_n 1, 1, 0, .null), (91, .invokevirtual 441, 225, 1, .ref 12), (94, .ifCond .eq 6, 100, 0, .null), (97, .bipush (-3), 0, 0, .int (-3)), (99, .ireturn, 0, 0, .null), (100, .aload_n 0, 0, 0, .null), (101, .getfield 163, 12, 67, .null), (104, .iload_n 1, 1, 0, .null), (105, .iaload, 0, 0, .null), (106, .iconst 4, 0, 0, .int 4), (107, .if_icmp .ne 6, 113, 0, .null), (110, .bipush (-4), 0, 0, .int (-4)), (112, .ireturn, 0, 0, .null), (113, .iconst 4, 0, 0, .int 4), (114, .iload_n 1, 1, 0, .null), (115, .imul, 0, 0, .null), (116, .aload_n 0, 0, 0, .null), (117, .getfield 163, 12, 67, .null), (120, .iload_n 1, 1, 0, .null), (121, .iaload, 0, 0, .null), (122, .iadd, 0, 0, .null), (123, .istore 6, 6, 0, .null), (125, .aload_n 0, 0, 0, .null), (126, .getfield 166, 12, 68, .null), (129, .iload 6, 6, 0, .null), (131, .iload_n 2, 2, 0, .null), (132, .iastore, 0, 0, .null), (133, .aload_n 0, 0, 0, .null), (134, .getfield 169, 12, 69, .null), (137, .iload 6, 6, 0, .null), (139, .iload_n 3, 3, 0, .null), (140, .iastore, 0, 0, .null), (141, .aload_n 0, 0, 0, .null), (142, .getfield 172, 12, 70, .null), (145, .iload 6, 6, 0, .null), (147, .iload 4, 4, 0, .null), (149, .invokestatic 308, 170, 1, .ref 0), (152, .ifCond .eq 9, 161, 0, .null), (155, .ldc_w 311, 0, 0, .int 2143289344), (158, .goto 5, 163, 0, .null), (161, .iload 4, 4, 0, .null), (163, .iastore, 0, 0, .null), (164, .aload_n 0, 0, 0, .null), (165, .getfield 163, 12, 67, .null), (168, .iload_n 1, 1, 0, .null), (169, .dup2, 0, 0, .null), (170, .iaload, 0, 0, .null), (171, .iconst 1, 0, 0, .int 1), (172, .iadd, 0, 0, .null), (173, .iastore, 0, 0, .null), (174, .aload_n 0, 0, 0, .null), (175, .getfield 163, 12, 67, .null), (178, .iload_n 1, 1, 0, .null), (179, .iaload, 0, 0, .null), (180, .ireturn, 0, 0, .null)]
def v_M_leg : List (Nat × List Nat) := [(0, [0, 1, 2, 3, 4])]
def s_M_leg : List (Nat × Nat × List Op) := [(0, 181, o_M_leg_0)]
set_option maxRecDepth 100000 in
theorem k_M_leg : MOk P_M s_M_leg 223 7 := ⟨P_M_ok, _, rfl, rfl, rfl, by decide +kernel⟩
def o_M_isRoute_0 : List Op := [(0, .iload_n 0, 0, 0, .null), (1, .iconst 0, 0, 0, .int 0), (2, .iconst 5, 0, 0, .int 5), (3, .invokestatic 216, 150, 3, .ref 0), (6, .ireturn, 1, 0, .null)]
def v_M_isRoute : List (Nat × List Nat) := [(0, [0])]
def s_M_isRoute : List (Nat × Nat × List Op) := [(0, 7, o_M_isRoute_0)]
set_option maxRecDepth 100000 in
theorem k_M_isRoute : MOk P_M s_M_isRoute 224 1 := ⟨P_M_ok, _, rfl, rfl, rfl, by decide +kernel⟩
def o_M_isStarted_0 : List Op := [(0, .iconst 0, 0, 0, .int 0), (1, .istore_n 2, 2, 0, .null), (2, .iconst 0, 0, 0, .int 0), (3, .istore_n 3, 3, 0, .null)]
def o_M_isStarted_1 : List Op := [(4, .iload_n 3, 3, 0, .null), (5, .aload_n 0, 0, 0, .null), (6, .getfield 434, 12, 78, .null), (9, .if_icmp .ge 39, 48, 0, .null), (12, .iload_n 2, 2, 0, .null), (13, .ifCond .ne 23, 36, 0, .null), (16, .aload_n 0, 0, 0, .null), (17, .getfield 191, 12, 80, .null), (20, .iload_n 3, 3, 0, .null), (21, .iaload, 0, 0, .null), (22, .iload_n 1, 1, 0, .null), (23, .if_icmp .ne 17, 40, 0, .null), (26, .aload_n 0, 0, 0, .null), (27, .getfield 203, 12, 84, .null), (30, .iload_n 3, 3, 0, .null), (31, .iaload, 0, 0, .null), (32, .iconst (-1), 0, 0, .int (-1)), (33, .if_icmp .eq 7, 40, 0, .null), (36, .iconst 1, 0, 0, .int 1), (37, .goto 4, 41, 0, .null), (40, .iconst 0, 0, 0, .int 0), (41, .istore_n 2, 2, 0, .null), (42, .iinc 3 1, 3, 0, .int 1), (45, .goto (-41), 4, 0, .null), (48, .iload_n 2, 2, 0, .null), (49, .ireturn, 1, 0, .null)]
def v_M_isStarted : List (Nat × List Nat) := [(0, [0, 1]), (4, [0, 1, 2, 3])]
def s_M_isStarted : List (Nat × Nat × List Op) := [(0, 4, o_M_isStarted_0), (4, 50, o_M_isStarted_1)]
set_option maxRecDepth 100000 in
theorem k_M_isStarted : MOk P_M s_M_isStarted 225 4 := ⟨P_M_ok, _, rfl, rfl, rfl, by decide +kernel⟩
def o_M_clear_0 : List Op := [(0, .iload_n 1, 1, 0, .null), (1, .invokestatic 437, 224, 1, .ref 0), (4, .ifCond .ne 6, 10, 0, .null), (7, .bipush (-2), 0, 0, .int (-2)), (9, .ireturn, 0, 0, .null), (10, .aload_n 0, 0, 0, .null), (11, .iload_n 1, 1, 0, .null), (12, .invokevirtual 441, 225, 1, .ref 12), (15, .ifCond .eq 6, 21, 0, .null), (18, .bipush (-3), 0, 0, .int (-3)), (20, .ireturn, 0, 0, .null), (21, .aload_n 0, 0, 0, .null), (22, .getfield 163, 12, 67, .null), (25, .iload_n 1, 1, 0, .null), (26, .iaload, 0, 0, .null), (27, .istore_n 2, 2, 0, .null), (28, .aload_n 0, 0, 0, .null), (29, .getfield 163, 12, 67, .null), (32, .iload_n 1, 1, 0, .null), (33, .iconst 0, 0, 0, .int 0), (34, .iastore, 0, 0, .null), (35, .iload_n 2, 2, 0, .null), (36, .ireturn, 0, 0, .null)]
def v_M_clear : List (Nat × List Nat) := [(0, [0, 1])]
def s_M_clear : List (Nat × Nat × List Op) := [(0, 37, o_M_clear_0)]
set_option maxRecDepth 100000 in
theorem k_M_clear : MOk P_M s_M_clear 226 3 := ⟨P_M_ok, _, rfl, rfl, rfl, by decide +kernel⟩
def o_M_sun_0 : List Op := [(0, .iload_n 1, 1, 0, .null), (1, .iconst 0, 0, 0, .int 0), (2, .ldc_w 264, 0, 0, .int 86400), (5, .invokestatic 216, 150, 3, .ref 0), (8, .ifCond .eq 14, 22, 0, .null), (11, .iload_n 2, 2, 0, .null), (12, .iconst 0, 0, 0, .int 0), (13, .ldc_w 264, 0, 0, .int 86400), (16, .invokestatic 216, 150, 3, .ref 0), (19, .ifCond .ne 6, 25, 0, .null), (22, .bipush (-2), 0, 0, .int (-2)), (24, .ireturn, 0, 0, .null), (25, .aload_n 0, 0, 0, .null), (26, .iload_n 1, 1, 0, .null), (27, .putfield 175, 12, 71, .null), (30, .aload_n 0, 0, 0, .null), (31, .iload_n 2, 2, 0, .null), (32, .putfield 179, 12, 72, .null), (35, .iconst 1, 0, 0, .int 1), (36, .ireturn, 0, 0, .null)]
def v_M_sun : List (Nat × List Nat) := [(0, [0, 1, 2])]
def s_M_sun : List (Nat × Nat × List Op) := [(0, 37, o_M_sun_0)]
set_option maxRecDepth 100000 in
theorem k_M_sun : MOk P_M s_M_sun 227 3 := ⟨P_M_ok, _, rfl, rfl, rfl, by decide +kernel⟩
def o_M_comes_0 : List Op := [(0, .aload_n 0, 0, 0, .null), (1, .iload_n 1, 1, 0, .null), (2, .invokevirtual 381, 201, 1, .ref 12), (5, .ifCond .eq 34, 39, 0, .null), (8, .iload_n 2, 2, 0, .null), (9, .invokestatic 437, 224, 1, .ref 0), (12, .ifCond .eq 27, 39, 0, .null), (15, .iload_n 3, 3, 0, .null), (16, .iconst 0, 0, 0, .int 0), (17, .aload_n 0, 0, 0, .null), (18, .getfield 163, 12, 67, .null), (21, .iload_n 2, 2, 0, .null), (22, .iaload, 0, 0, .null), (23, .iconst 1, 0, 0, .int 1), (24, .isub, 0, 0, .null), (25, .invokestatic 216, 150, 3, .ref 0), (28, .ifCond .eq 11, 39, 0, .null), (31, .iload 4, 4, 0, .null), (33, .invokestatic 226, 149, 1, .ref 0), (36, .ifCond .ne 6, 42, 0, .null), (39, .bipush (-2), 0, 0, .int (-2)), (41, .ireturn, 0, 0, .null), (42, .aload_n 0, 0, 0, .null), (43, .invokevirtual 283, 161, 0, .ref 12), (46, .ifCond .eq 6, 52, 0, .null), (49, .bipush (-4), 0, 0, .int (-4)), (51, .ireturn, 0, 0, .null), (52, .aload_n 0, 0, 0, .null), (53, .iconst 0, 0, 0, .int 0), (54, .putfield 387, 12, 57, .null), (57, .aload_n 0, 0, 0, .null), (58, .iload_n 1, 1, 0, .null), (59, .iconst 2, 0, 0, .int 2), (60, .invokevirtual 415, 203, 2, .ref 12), (63, .istore 5, 5, 0, .null), (65, .iload 5, 5, 0, .null), (67, .ifCond .eq 10, 77, 0, .null), (70, .aload_n 0, 0, 0, .null), (71, .iload 5, 5, 0, .null), (73, .invokevirtual 292, 164, 1, .ref 12), (76, .ireturn, 0, 0, .null), (77, .aload_n 0, 0, 0, .null), (78, .getfield 394, 12, 62, .null), (81, .iconst 1, 0, 0, .int 1), (82, .if_icmp .ge 6, 88, 0, .null), (85, .bipush (-3), 0, 0, .int (-3)), (87, .ireturn, 0, 0, .null), (88, .iload 4, 4, 0, .null), (90, .aload_n 0, 0, 0, .null), (91, .getfield 169, 12, 69, .null), (94, .iconst 4, 0, 0, .int 4), (95, .iload_n 2, 2, 0, .null), (96, .imul, 0, 0, .null), (97, .iload_n 3, 3, 0, .null), (98, .iadd, 0, 0, .null), (99, .iaload, 0, 0, .null), (100, .aload_n 0, 0, 0, .null), (101, .getfield 394, 12, 62, .null), (104, .invokestatic 444, 229, 3, .ref 0), (107, .istore 6, 6, 0, .null), (109, .iload 6, 6, 0, .null), (111, .ldc 215, 0, 0, .int 2591999), (113, .if_icmp .le 8, 121, 0, .null), (116, .bipush (-3), 0, 0, .int (-3)), (118, .goto 5, 123, 0, .null), (121, .iload 6, 6, 0, .null), (123, .ireturn, 0, 0, .null)]
def v_M_comes : List (Nat × List Nat) := [(0, [0, 1, 2, 3, 4])]
def s_M_comes : List (Nat × Nat × List Op) := [(0, 124, o_M_comes_0)]
set_option maxRecDepth 100000 in
theorem k_M_comes : MOk P_M s_M_comes 228 7 := ⟨P_M_ok, _, rfl, rfl, rfl, by decide +kernel⟩
def o_M_comesAt_0 : List Op := [(0, .iload_n 0, 0, 0, .null), (1, .iload_n 1, 1, 0, .null), (2, .bipush 100, 0, 0, .int 100), (4, .imul, 0, 0, .null), (5, .iload_n 2, 2, 0, .null), (6, .idiv, 0, 0, .null), (7, .iadd, 0, 0, .null), (8, .ireturn, 0, 0, .null)]
def v_M_comesAt : List (Nat × List Nat) := [(0, [0, 1, 2])]
def s_M_comesAt : List (Nat × Nat × List Op) := [(0, 9, o_M_comesAt_0)]
set_option maxRecDepth 100000 in
theorem k_M_comesAt : MOk P_M s_M_comesAt 229 3 := ⟨P_M_ok, _, rfl, rfl, rfl, by decide +kernel⟩
def o_M_holds_0 : List Op := [(0, .aload_n 0, 0, 0, .null), (1, .iload_n 1, 1, 0, .null), (2, .invokevirtual 381, 201, 1, .ref 12), (5, .ifCond .eq 17, 22, 0, .null), (8, .iload_n 2, 2, 0, .null), (9, .invokestatic 437, 224, 1, .ref 0), (12, .ifCond .eq 10, 22, 0, .null), (15, .iload_n 3, 3, 0, .null), (16, .invokestatic 454, 231, 1, .ref 0), (19, .ifCond .ne 6, 25, 0, .null), (22, .bipush (-2), 0, 0, .int (-2)), (24, .ireturn, 0, 0, .null), (25, .aload_n 0, 0, 0, .null), (26, .invokevirtual 283, 161, 0, .ref 12), (29, .ifCond .eq 6, 35, 0, .null), (32, .bipush (-4), 0, 0, .int (-4)), (34, .ireturn, 0, 0, .null), (35, .aload_n 0, 0, 0, .null), (36, .iconst 0, 0, 0, .int 0), (37, .putfield 387, 12, 57, .null), (40, .aload_n 0, 0, 0, .null), (41, .iload_n 1, 1, 0, .null), (42, .iload_n 2, 2, 0, .null), (43, .iload_n 3, 3, 0, .null), (44, .invokevirtual 457, 232, 3, .ref 12), (47, .istore 4, 4, 0, .null), (49, .iload 4, 4, 0, .null), (51, .bipush (-10), 0, 0, .int (-10)), (53, .if_icmp .ge 15, 68, 0, .null), (56, .aload_n 0, 0, 0, .null), (57, .bipush (-10), 0, 0, .int (-10)), (59, .iload 4, 4, 0, .null), (61, .isub, 0, 0, .null), (62, .invokevirtual 292, 164, 1, .ref 12), (65, .goto 5, 70, 0, .null), (68, .iload 4, 4, 0, .null), (70, .ireturn, 0, 0, .null)]
def v_M_holds : List (Nat × List Nat) := [(0, [0, 1, 2, 3])]
def s_M_holds : List (Nat × Nat × List Op) := [(0, 71, o_M_holds_0)]
set_option maxRecDepth 100000 in
theorem k_M_holds : MOk P_M s_M_holds 230 5 := ⟨P_M_ok, _, rfl, rfl, rfl, by decide +kernel⟩
def o_M_isMinute_0 : List Op := [(0, .iload_n 0, 0, 0, .null), (1, .iconst 0, 0, 0, .int 0), (2, .ldc_w 453, 0, 0, .int 43199), (5, .invokestatic 216, 150, 3, .ref 0), (8, .ireturn, 1, 0, .null)]
def v_M_isMinute : List (Nat × List Nat) := [(0, [0])]
def s_M_isMinute : List (Nat × Nat × List Op) := [(0, 9, o_M_isMinute_0)]
set_option maxRecDepth 100000 in
theorem k_M_isMinute : MOk P_M s_M_isMinute 231 1 := ⟨P_M_ok, _, rfl, rfl, rfl, by decide +kernel⟩
def o_M_looks_0 : List Op := [(0, .aload_n 0, 0, 0, .null), (1, .iload_n 1, 1, 0, .null), (2, .iconst 0, 0, 0, .int 0), (3, .invokevirtual 415, 203, 2, .ref 12), (6, .istore 4, 4, 0, .null), (8, .aload_n 0, 0, 0, .null), (9, .getfield 394, 12, 62, .null), (12, .istore 5, 5, 0, .null), (14, .iload 4, 4, 0, .null), (16, .ifCond .eq 9, 25, 0, .null), (19, .bipush (-10), 0, 0, .int (-10)), (21, .iload 4, 4, 0, .null), (23, .isub, 0, 0, .null), (24, .ireturn, 0, 0, .null), (25, .aload_n 0, 0, 0, .null), (26, .iload_n 1, 1, 0, .null), (27, .iconst 2, 0, 0, .int 2), (28, .invokevirtual 415, 203, 2, .ref 12), (31, .istore 4, 4, 0, .null), (33, .aload_n 0, 0, 0, .null), (34, .aload_n 0, 0, 0, .null), (35, .getfield 394, 12, 62, .null), (38, .putfield 447, 12, 87, .null), (41, .iload 4, 4, 0, .null), (43, .ifCond .eq 9, 52, 0, .null), (46, .bipush (-10), 0, 0, .int (-10)), (48, .iload 4, 4, 0, .null), (50, .isub, 0, 0, .null), (51, .ireturn, 0, 0, .null), (52, .aload_n 0, 0, 0, .null), (53, .iload_n 1, 1, 0, .null), (54, .iconst 4, 0, 0, .int 4), (55, .invokevirtual 415, 203, 2, .ref 12), (58, .istore 4, 4, 0, .null), (60, .aload_n 0, 0, 0, .null), (61, .getfield 394, 12, 62, .null), (64, .iconst 1, 0, 0, .int 1), (65, .if_icmp .ne 7, 72, 0, .null), (68, .iconst 1, 0, 0, .int 1), (69, .goto 4, 73, 0, .null), (72, .iconst 0, 0, 0, .int 0), (73, .istore 6, 6, 0, .null), (75, .iload 4, 4, 0, .null), (77, .ifCond .eq 9, 86, 0, .null), (80, .bipush (-10), 0, 0, .int (-10)), (82, .iload 4, 4, 0, .null), (84, .isub, 0, 0, .null), (85, .ireturn, 0, 0, .null), (86, .aload_n 0, 0, 0, .null), (87, .getfield 447, 12, 87, .null), (90, .iconst 1, 0, 0, .int 1), (91, .if_icmp .ge 6, 97, 0, .null), (94, .bipush (-3), 0, 0, .int (-3)), (96, .ireturn, 0, 0, .null), (97, .iconst 0, 0, 0, .int 0), (98, .istore 7, 7, 0, .null)]
def o_M_looks_1 : List Op := [(100, .iload 7, 7, 0, .null), (102, .aload_n 0, 0, 0, .null), (103, .getfield 163, 12, 67, .null), (106, .iload_n 2, 2, 0, .null), (107, .iaload, 0, 0, .null), (108, .if_icmp .ge 91, 199, 0, .null), (111, .bipush 60, 0, 0, .int 60), (113, .iload_n 3, 3, 0, .null), (114, .imul, 0, 0, .null), (115, .aload_n 0, 0, 0, .null), (116, .getfield 169, 12, 69, .null), (119, .iconst 4, 0, 0, .int 4), (120, .iload_n 2, 2, 0, .null), (121, .imul, 0, 0, .null), (122, .iload 7, 7, 0, .null), (124, .iadd, 0, 0, .null), (125, .iaload, 0, 0, .null), (126, .aload_n 0, 0, 0, .null), (127, .getfield 447, 12, 87, .null), (130, .invokestatic 444, 229, 3, .ref 0), (133, .istore 8, 8, 0, .null), (135, .iload 8, 8, 0, .null), (137, .ldc 215, 0, 0, .int 2591999), (139, .if_icmp .le 6, 145, 0, .null), (142, .bipush (-3), 0, 0, .int (-3)), (144, .ireturn, 0, 0, .null), (145, .aload_n 0, 0, 0, .null), (146, .getfield 209, 12, 86, .null), (149, .iload 7, 7, 0, .null), (151, .iload 8, 8, 0, .null), (153, .iastore, 0, 0, .null), (154, .aload_n 0, 0, 0, .null), (155, .iconst 4, 0, 0, .int 4), (156, .iload_n 2, 2, 0, .null), (157, .imul, 0, 0, .null), (158, .iload 7, 7, 0, .null), (160, .iadd, 0, 0, .null), (161, .iload 8, 8, 0, .null), (163, .iload 5, 5, 0, .null), (165, .iload 6, 6, 0, .null), (167, .invokevirtual 450, 233, 4, .ref 12), (170, .istore 9, 9, 0, .null), (172, .iload 9, 9, 0, .null), (174, .iconst 1, 0, 0, .int 1), (175, .if_icmp .ge 18, 193, 0, .null), (178, .iload 9, 9, 0, .null), (180, .ifCond .ne 7, 187, 0, .null), (183, .iconst 0, 0, 0, .int 0), (184, .goto 8, 192, 0, .null), (187, .bipush (-10), 0, 0, .int (-10)), (189, .iload 9, 9, 0, .null), (191, .iadd, 0, 0, .null), (192, .ireturn, 0, 0, .null), (193, .iinc 7 1, 7, 0, .int 1), (196, .goto (-96), 100, 0, .null), (199, .iconst 1, 0, 0, .int 1), (200, .ireturn, 0, 0, .null)]
def v_M_looks : List (Nat × List Nat) := [(0, [0, 1, 2, 3]), (100, [0, 2, 3, 5, 6, 7])]
def s_M_looks : List (Nat × Nat × List Op) := [(0, 100, o_M_looks_0), (100, 201, o_M_looks_1)]
set_option maxRecDepth 100000 in
theorem k_M_looks : MOk P_M s_M_looks 232 10 := ⟨P_M_ok, _, rfl, rfl, rfl, by decide +kernel⟩
def o_M_passes_0 : List Op := [(0, .iload 4, 4, 0, .null), (2, .ifCond .eq 29, 31, 0, .null), (5, .iload_n 2, 2, 0, .null), (6, .ldc_w 264, 0, 0, .int 86400), (9, .irem, 0, 0, .null), (10, .aload_n 0, 0, 0, .null), (11, .getfield 175, 12, 71, .null), (14, .if_icmp .lt 15, 29, 0, .null), (17, .iload_n 2, 2, 0, .null), (18, .ldc_w 264, 0, 0, .int 86400), (21, .irem, 0, 0, .null), (22, .aload_n 0, 0, 0, .null), (23, .getfield 179, 12, 72, .null), (26, .if_icmp .lt 5, 31, 0, .null), (29, .iconst 0, 0, 0, .int 0), (30, .ireturn, 0, 0, .null), (31, .aload_n 0, 0, 0, .null), (32, .aload_n 0, 0, 0, .null), (33, .getfield 166, 12, 68, .null), (36, .iload_n 1, 1, 0, .null), (37, .iaload, 0, 0, .null), (38, .iload_n 2, 2, 0, .null), (39, .invokevirtual 354, 187, 2, .ref 12), (42, .ifCond .ne 5, 47, 0, .null), (45, .iconst (-1), 0, 0, .int (-1)), (46, .ireturn, 0, 0, .null), (47, .aload_n 0, 0, 0, .null), (48, .getfield 275, 12, 17, .null), (51, .iload_n 3, 3, 0, .null), (52, .i2d, 0, 0, .null), (53, .ldc2_w 269, 0, 0, .double 4636737291354636288), (56, .ddiv, 0, 0, .null), (57, .dcmp .l, 0, 0, .null), (58, .ifCond .ge 5, 63, 0, .null), (61, .iconst 0, 0, 0, .int 0), (62, .ireturn, 0, 0, .null), (63, .aload_n 0, 0, 0, .null), (64, .getfield 172, 12, 70, .null), (67, .iload_n 1, 1, 0, .null), (68, .iaload, 0, 0, .null), (69, .ldc_w 311, 0, 0, .int 2143289344), (72, .if_icmp .ne 5, 77, 0, .null), (75, .iconst 1, 0, 0, .int 1), (76, .ireturn, 0, 0, .null), (77, .aload_n 0, 0, 0, .null), (78, .aload_n 0, 0, 0, .null), (79, .getfield 85, 12, 34, .null), (82, .aload_n 0, 0, 0, .null), (83, .getfield 166, 12, 68, .null), (86, .iload_n 1, 1, 0, .null), (87, .iaload, 0, 0, .null), (88, .iaload, 0, 0, .null), (89, .iload_n 2, 2, 0, .null), (90, .invokevirtual 376, 198, 2, .ref 12), (93, .istore 5, 5, 0, .null), (95, .iload 5, 5, 0, .null), (97, .ifCond .eq 7, 104, 0, .null), (100, .iload 5, 5, 0, .null), (102, .ineg, 0, 0, .null), (103, .ireturn, 0, 0, .null), (104, .aload_n 0, 0, 0, .null), (105, .getfield 115, 12, 46, .null), (108, .aload_n 0, 0, 0, .null), (109, .getfield 373, 12, 48, .null), (112, .iaload, 0, 0, .null), (113, .invokestatic 315, 0, 0, .ref 1), (116, .fstore 6, 6, 0, .null), (118, .fload 6, 6, 0, .null), (120, .fconst 0, 0, 0, .float 0), (121, .fcmp .g, 0, 0, .null), (122, .ifCond .ge 9, 131, 0, .null), (125, .fload 6, 6, 0, .null), (127, .fneg, 0, 0, .null), (128, .goto 5, 133, 0, .null), (131, .fload 6, 6, 0, .null), (133, .fstore 6, 6, 0, .null), (135, .fload 6, 6, 0, .null), (137, .aload_n 0, 0, 0, .null), (138, .getfield 172, 12, 70, .null), (141, .iload_n 1, 1, 0, .null), (142, .iaload, 0, 0, .null), (143, .invokestatic 315, 0, 0, .ref 1), (146, .fcmp .g, 0, 0, .null), (147, .ifCond .ge 7, 154, 0, .null), (150, .iconst 1, 0, 0, .int 1), (151, .goto 4, 155, 0, .null), (154, .iconst 0, 0, 0, .int 0), (155, .ireturn, 0, 0, .null)]
def v_M_passes : List (Nat × List Nat) := [(0, [0, 1, 2, 3, 4])]
def s_M_passes : List (Nat × Nat × List Op) := [(0, 156, o_M_passes_0)]
set_option maxRecDepth 100000 in
theorem k_M_passes : MOk P_M s_M_passes 233 7 := ⟨P_M_ok, _, rfl, rfl, rfl, by decide +kernel⟩
def o_M_windows_0 : List Op := [(0, .aload_n 0, 0, 0, .null), (1, .iload_n 1, 1, 0, .null), (2, .invokevirtual 381, 201, 1, .ref 12), (5, .ifCond .eq 38, 43, 0, .null), (8, .iload_n 2, 2, 0, .null), (9, .invokestatic 437, 224, 1, .ref 0), (12, .ifCond .eq 31, 43, 0, .null), (15, .iload 4, 4, 0, .null), (17, .iconst 1, 0, 0, .int 1), (18, .bipush 120, 0, 0, .int 120), (20, .invokestatic 216, 150, 3, .ref 0), (23, .ifCond .eq 20, 43, 0, .null), (26, .iload_n 3, 3, 0, .null), (27, .invokestatic 454, 231, 1, .ref 0), (30, .ifCond .eq 13, 43, 0, .null), (33, .iload_n 3, 3, 0, .null), (34, .iload 4, 4, 0, .null), (36, .iadd, 0, 0, .null), (37, .ldc_w 460, 0, 0, .int 43200), (40, .if_icmp .le 6, 46, 0, .null), (43, .bipush (-2), 0, 0, .int (-2)), (45, .ireturn, 0, 0, .null), (46, .aload_n 0, 0, 0, .null), (47, .invokevirtual 283, 161, 0, .ref 12), (50, .ifCond .eq 6, 56, 0, .null), (53, .bipush (-4), 0, 0, .int (-4)), (55, .ireturn, 0, 0, .null), (56, .aload_n 0, 0, 0, .null), (57, .iconst 0, 0, 0, .int 0), (58, .putfield 387, 12, 57, .null), (61, .aload_n 0, 0, 0, .null), (62, .iconst 0, 0, 0, .int 0), (63, .putfield 461, 12, 73, .null), (66, .aload_n 0, 0, 0, .null), (67, .iconst 0, 0, 0, .int 0), (68, .putfield 464, 12, 76, .null), (71, .aload_n 0, 0, 0, .null), (72, .iconst 0, 0, 0, .int 0), (73, .putfield 467, 12, 77, .null), (76, .iconst (-1), 0, 0, .int (-1)), (77, .istore 5, 5, 0, .null), (79, .iload_n 3, 3, 0, .null), (80, .istore 6, 6, 0, .null)]
def o_M_windows_1 : List Op := [(82, .iload 6, 6, 0, .null), (84, .iload_n 3, 3, 0, .null), (85, .iload 4, 4, 0, .null), (87, .iadd, 0, 0, .null), (88, .if_icmp .gt 144, 232, 0, .null), (91, .iload 6, 6, 0, .null), (93, .iload_n 3, 3, 0, .null), (94, .iload 4, 4, 0, .null), (96, .iadd, 0, 0, .null), (97, .if_icmp .ge 14, 111, 0, .null), (100, .aload_n 0, 0, 0, .null), (101, .iload_n 1, 1, 0, .null), (102, .iload_n 2, 2, 0, .null), (103, .iload 6, 6, 0, .null), (105, .invokevirtual 457, 232, 3, .ref 12), (108, .goto 4, 112, 0, .null), (111, .iconst 0, 0, 0, .int 0), (112, .istore 7, 7, 0, .null), (114, .iload 7, 7, 0, .null), (116, .bipush (-10), 0, 0, .int (-10)), (118, .if_icmp .ge 32, 150, 0, .null), (121, .aload_n 0, 0, 0, .null), (122, .dup, 0, 0, .null), (123, .getfield 464, 12, 76, .null), (126, .iconst 1, 0, 0, .int 1), (127, .iadd, 0, 0, .null), (128, .putfield 464, 12, 76, .null), (131, .aload_n 0, 0, 0, .null), (132, .bipush (-10), 0, 0, .int (-10)), (134, .iload 7, 7, 0, .null), (136, .isub, 0, 0, .null), (137, .putfield 467, 12, 77, .null), (140, .aload_n 0, 0, 0, .null), (141, .aload_n 0, 0, 0, .null), (142, .getfield 467, 12, 77, .null), (145, .invokevirtual 292, 164, 1, .ref 12), (148, .istore 7, 7, 0, .null), (150, .iload 7, 7, 0, .null), (152, .iconst 1, 0, 0, .int 1), (153, .if_icmp .ne 21, 174, 0, .null), (156, .iload 5, 5, 0, .null), (158, .iconst (-1), 0, 0, .int (-1)), (159, .if_icmp .ne 8, 167, 0, .null), (162, .iload 6, 6, 0, .null), (164, .goto 5, 169, 0, .null), (167, .iload 5, 5, 0, .null), (169, .istore 5, 5, 0, .null), (171, .goto 55, 226, 0, .null), (174, .iload 5, 5, 0, .null), (176, .iconst (-1), 0, 0, .int (-1)), (177, .if_icmp .eq 46, 223, 0, .null), (180, .aload_n 0, 0, 0, .null), (181, .getfield 461, 12, 73, .null), (184, .bipush 20, 0, 0, .int 20), (186, .if_icmp .ge 37, 223, 0, .null), (189, .aload_n 0, 0, 0, .null), (190, .getfield 182, 12, 74, .null), (193, .aload_n 0, 0, 0, .null), (194, .getfield 461, 12, 73, .null), (197, .iload 5, 5, 0, .null), (199, .iastore, 0, 0, .null), (200, .aload_n 0, 0, 0, .null), (201, .getfield 185, 12, 75, .null), (204, .aload_n 0, 0, 0, .null), (205, .getfield 461, 12, 73, .null), (208, .iload 6, 6, 0, .null), (210, .iconst 1, 0, 0, .int 1), (211, .isub, 0, 0, .null), (212, .iastore, 0, 0, .null), (213, .aload_n 0, 0, 0, .null), (214, .dup, 0, 0, .null), (215, .getfield 461, 12, 73, .null), (218, .iconst 1, 0, 0, .int 1), (219, .iadd, 0, 0, .null), (220, .putfield 461, 12, 73, .null), (223, .iconst (-1), 0, 0, .int (-1)), (224, .istore 5, 5, 0, .null), (226, .iinc 6 1, 6, 0, .int 1), (229, .goto (-147), 82, 0, .null), (232, .aload_n 0, 0, 0, .null), (233, .getfield 461, 12, 73, .null), (236, .ireturn, 0, 0, .null)]
def v_M_windows : List (Nat × List Nat) := [(0, [0, 1, 2, 3, 4]), (82, [0, 1, 2, 3, 4, 5, 6])]
def s_M_windows : List (Nat × Nat × List Op) := [(0, 82, o_M_windows_0), (82, 237, o_M_windows_1)]
set_option maxRecDepth 100000 in
theorem k_M_windows : MOk P_M s_M_windows 234 8 := ⟨P_M_ok, _, rfl, rfl, rfl, by decide +kernel⟩
def o_M_window_0 : List Op := [(0, .iload_n 1, 1, 0, .null), (1, .iconst 0, 0, 0, .int 0), (2, .aload_n 0, 0, 0, .null), (3, .getfield 461, 12, 73, .null), (6, .iconst 1, 0, 0, .int 1), (7, .isub, 0, 0, .null), (8, .invokestatic 216, 150, 3, .ref 0), (11, .ifCond .ne 7, 18, 0, .null), (14, .iconst (-1), 0, 0, .int (-1)), (15, .goto 22, 37, 0, .null), (18, .iload_n 2, 2, 0, .null), (19, .ifCond .eq 12, 31, 0, .null), (22, .aload_n 0, 0, 0, .null), (23, .getfield 185, 12, 75, .null), (26, .iload_n 1, 1, 0, .null), (27, .iaload, 0, 0, .null), (28, .goto 9, 37, 0, .null), (31, .aload_n 0, 0, 0, .null), (32, .getfield 182, 12, 74, .null), (35, .iload_n 1, 1, 0, .null), (36, .iaload, 0, 0, .null), (37, .ireturn, 0, 0, .null)]
def v_M_window : List (Nat × List Nat) := [(0, [0, 1, 2])]
def s_M_window : List (Nat × Nat × List Op) := [(0, 38, o_M_window_0)]
set_option maxRecDepth 100000 in
theorem k_M_window : MOk P_M s_M_window 235 3 := ⟨P_M_ok, _, rfl, rfl, rfl, by decide +kernel⟩
def o_M_wrong_0 : List Op := [(0, .iload_n 1, 1, 0, .null), (1, .ifCond .ne 10, 11, 0, .null), (4, .aload_n 0, 0, 0, .null), (5, .getfield 464, 12, 76, .null), (8, .goto 17, 25, 0, .null), (11, .iload_n 1, 1, 0, .null), (12, .iconst 1, 0, 0, .int 1), (13, .if_icmp .ne 10, 23, 0, .null), (16, .aload_n 0, 0, 0, .null), (17, .getfield 467, 12, 77, .null), (20, .goto 5, 25, 0, .null), (23, .bipush (-2), 0, 0, .int (-2)), (25, .ireturn, 0, 0, .null)]
def v_M_wrong : List (Nat × List Nat) := [(0, [0, 1])]
def s_M_wrong : List (Nat × Nat × List Op) := [(0, 26, o_M_wrong_0)]
set_option maxRecDepth 100000 in
theorem k_M_wrong : MOk P_M s_M_wrong 236 2 := ⟨P_M_ok, _, rfl, rfl, rfl, by decide +kernel⟩
def o_M_passage_0 : List Op := [(0, .aload_n 0, 0, 0, .null), (1, .iload_n 1, 1, 0, .null), (2, .invokevirtual 381, 201, 1, .ref 12), (5, .ifCond .eq 17, 22, 0, .null), (8, .iload_n 2, 2, 0, .null), (9, .invokestatic 437, 224, 1, .ref 0), (12, .ifCond .eq 10, 22, 0, .null), (15, .iload_n 3, 3, 0, .null), (16, .invokestatic 454, 231, 1, .ref 0), (19, .ifCond .ne 6, 25, 0, .null), (22, .bipush (-2), 0, 0, .int (-2)), (24, .ireturn, 0, 0, .null), (25, .aload_n 0, 0, 0, .null), (26, .getfield 434, 12, 78, .null), (29, .bipush 40, 0, 0, .int 40), (31, .if_icmp .ne 6, 37, 0, .null), (34, .bipush (-4), 0, 0, .int (-4)), (36, .ireturn, 0, 0, .null), (37, .aload_n 0, 0, 0, .null), (38, .getfield 188, 12, 79, .null), (41, .aload_n 0, 0, 0, .null), (42, .getfield 434, 12, 78, .null), (45, .iload_n 1, 1, 0, .null), (46, .iastore, 0, 0, .null), (47, .aload_n 0, 0, 0, .null), (48, .getfield 191, 12, 80, .null), (51, .aload_n 0, 0, 0, .null), (52, .getfield 434, 12, 78, .null), (55, .iload_n 2, 2, 0, .null), (56, .iastore, 0, 0, .null), (57, .aload_n 0, 0, 0, .null), (58, .getfield 194, 12, 81, .null), (61, .aload_n 0, 0, 0, .null), (62, .getfield 434, 12, 78, .null), (65, .iload_n 3, 3, 0, .null), (66, .iastore, 0, 0, .null), (67, .aload_n 0, 0, 0, .null), (68, .getfield 197, 12, 82, .null), (71, .aload_n 0, 0, 0, .null), (72, .getfield 434, 12, 78, .null), (75, .iconst 1, 0, 0, .int 1), (76, .bastore, 0, 0, .null), (77, .aload_n 0, 0, 0, .null), (78, .getfield 200, 12, 83, .null), (81, .aload_n 0, 0, 0, .null), (82, .getfield 434, 12, 78, .null), (85, .aload_n 0, 0, 0, .null), (86, .getfield 230, 12, 0, .null), (89, .iastore, 0, 0, .null), (90, .aload_n 0, 0, 0, .null), (91, .getfield 203, 12, 84, .null), (94, .aload_n 0, 0, 0, .null), (95, .getfield 434, 12, 78, .null), (98, .iconst (-1), 0, 0, .int (-1)), (99, .iastore, 0, 0, .null), (100, .aload_n 0, 0, 0, .null), (101, .dup, 0, 0, .null), (102, .getfield 434, 12, 78, .null), (105, .iconst 1, 0, 0, .int 1), (106, .iadd, 0, 0, .null), (107, .putfield 434, 12, 78, .null), (110, .aload_n 0, 0, 0, .null), (111, .getfield 434, 12, 78, .null), (114, .iconst 1, 0, 0, .int 1), (115, .isub, 0, 0, .null), (116, .ireturn, 0, 0, .null)]
def v_M_passage : List (Nat × List Nat) := [(0, [0, 1, 2, 3])]
def s_M_passage : List (Nat × Nat × List Op) := [(0, 117, o_M_passage_0)]
set_option maxRecDepth 100000 in
theorem k_M_passage : MOk P_M s_M_passage 237 4 := ⟨P_M_ok, _, rfl, rfl, rfl, by decide +kernel⟩
def o_M_plan_0 : List Op := [(0, .aload_n 0, 0, 0, .null), (1, .invokevirtual 283, 161, 0, .ref 12), (4, .ifCond .eq 6, 10, 0, .null), (7, .bipush (-4), 0, 0, .int (-4)), (9, .ireturn, 0, 0, .null), (10, .aload_n 0, 0, 0, .null), (11, .iconst 0, 0, 0, .int 0), (12, .putfield 387, 12, 57, .null), (15, .iconst 0, 0, 0, .int 0), (16, .istore_n 1, 1, 0, .null), (17, .iconst 1, 0, 0, .int 1), (18, .istore_n 2, 2, 0, .null)]
def o_M_plan_1 : List Op := [(19, .iload_n 2, 2, 0, .null), (20, .ifCond .eq 102, 122, 0, .null), (23, .iconst (-1), 0, 0, .int (-1)), (24, .istore_n 3, 3, 0, .null), (25, .iconst 0, 0, 0, .int 0), (26, .istore 4, 4, 0, .null)]
def o_M_plan_2 : List Op := [(28, .iload 4, 4, 0, .null), (30, .aload_n 0, 0, 0, .null), (31, .getfield 434, 12, 78, .null), (34, .if_icmp .ge 47, 81, 0, .null), (37, .aload_n 0, 0, 0, .null), (38, .getfield 197, 12, 82, .null), (41, .iload 4, 4, 0, .null), (43, .baload, 0, 0, .null), (44, .ifCond .eq 29, 73, 0, .null), (47, .iload_n 3, 3, 0, .null), (48, .iconst (-1), 0, 0, .int (-1)), (49, .if_icmp .eq 19, 68, 0, .null), (52, .aload_n 0, 0, 0, .null), (53, .getfield 200, 12, 83, .null), (56, .iload 4, 4, 0, .null), (58, .iaload, 0, 0, .null), (59, .aload_n 0, 0, 0, .null), (60, .getfield 200, 12, 83, .null), (63, .iload_n 3, 3, 0, .null), (64, .iaload, 0, 0, .null), (65, .if_icmp .ge 8, 73, 0, .null), (68, .iload 4, 4, 0, .null), (70, .goto 4, 74, 0, .null), (73, .iload_n 3, 3, 0, .null), (74, .istore_n 3, 3, 0, .null), (75, .iinc 4 1, 4, 0, .int 1), (78, .goto (-50), 28, 0, .null), (81, .iload_n 3, 3, 0, .null), (82, .iconst (-1), 0, 0, .int (-1)), (83, .if_icmp .eq 7, 90, 0, .null), (86, .iconst 1, 0, 0, .int 1), (87, .goto 4, 91, 0, .null), (90, .iconst 0, 0, 0, .int 0), (91, .istore_n 2, 2, 0, .null), (92, .iload_n 2, 2, 0, .null), (93, .ifCond .eq 26, 119, 0, .null), (96, .aload_n 0, 0, 0, .null), (97, .iload_n 3, 3, 0, .null), (98, .invokevirtual 483, 239, 1, .ref 12), (101, .aload_n 0, 0, 0, .null), (102, .getfield 203, 12, 84, .null), (105, .iload_n 3, 3, 0, .null), (106, .iaload, 0, 0, .null), (107, .iconst (-1), 0, 0, .int (-1)), (108, .if_icmp .eq 9, 117, 0, .null), (111, .iload_n 1, 1, 0, .null), (112, .iconst 1, 0, 0, .int 1), (113, .iadd, 0, 0, .null), (114, .goto 4, 118, 0, .null), (117, .iload_n 1, 1, 0, .null), (118, .istore_n 1, 1, 0, .null), (119, .goto (-100), 19, 0, .null)]
def o_M_plan_3 : List Op := [(122, .iload_n 1, 1, 0, .null), (123, .ireturn, 0, 0, .null)]
def v_M_plan : List (Nat × List Nat) := [(0, [0]), (19, [0, 1, 2]), (28, [0, 1, 3, 4]), (122, [1])]
def s_M_plan : List (Nat × Nat × List Op) := [(0, 19, o_M_plan_0), (19, 28, o_M_plan_1), (28, 122, o_M_plan_2), (122, 124, o_M_plan_3)]
set_option maxRecDepth 100000 in
theorem k_M_plan : MOk P_M s_M_plan 238 5 := ⟨P_M_ok, _, rfl, rfl, rfl, by decide +kernel⟩
def o_M_plans_0 : List Op := [(0, .aload_n 0, 0, 0, .null), (1, .getfield 197, 12, 82, .null), (4, .iload_n 1, 1, 0, .null), (5, .iconst 0, 0, 0, .int 0), (6, .bastore, 0, 0, .null), (7, .aload_n 0, 0, 0, .null), (8, .aload_n 0, 0, 0, .null), (9, .getfield 188, 12, 79, .null), (12, .iload_n 1, 1, 0, .null), (13, .iaload, 0, 0, .null), (14, .iconst 3, 0, 0, .int 3), (15, .invokevirtual 415, 203, 2, .ref 12), (18, .istore_n 2, 2, 0, .null), (19, .iload_n 2, 2, 0, .null), (20, .ifCond .eq 10, 30, 0, .null), (23, .aload_n 0, 0, 0, .null), (24, .iload_n 2, 2, 0, .null), (25, .invokevirtual 292, 164, 1, .ref 12), (28, .istore_n 2, 2, 0, .null), (29, .return_, 0, 0, .null), (30, .aload_n 0, 0, 0, .null), (31, .getfield 394, 12, 62, .null), (34, .bipush 120, 0, 0, .int 120), (36, .if_icmp .le 8, 44, 0, .null), (39, .bipush 120, 0, 0, .int 120), (41, .goto 7, 48, 0, .null), (44, .aload_n 0, 0, 0, .null), (45, .getfield 394, 12, 62, .null), (48, .istore_n 3, 3, 0, .null), (49, .iconst 1, 0, 0, .int 1), (50, .istore 4, 4, 0, .null), (52, .aload_n 0, 0, 0, .null), (53, .getfield 194, 12, 81, .null), (56, .iload_n 1, 1, 0, .null), (57, .iaload, 0, 0, .null), (58, .istore 5, 5, 0, .null)]
def o_M_plans_1 : List Op := [(60, .iload 5, 5, 0, .null), (62, .aload_n 0, 0, 0, .null), (63, .getfield 194, 12, 81, .null), (66, .iload_n 1, 1, 0, .null), (67, .iaload, 0, 0, .null), (68, .iload_n 3, 3, 0, .null), (69, .iadd, 0, 0, .null), (70, .if_icmp .ge 106, 176, 0, .null), (73, .iload 5, 5, 0, .null), (75, .invokestatic 454, 231, 1, .ref 0), (78, .ifCond .eq 98, 176, 0, .null), (81, .iload 4, 4, 0, .null), (83, .ifCond .eq 93, 176, 0, .null), (86, .aload_n 0, 0, 0, .null), (87, .aload_n 0, 0, 0, .null), (88, .getfield 188, 12, 79, .null), (91, .iload_n 1, 1, 0, .null), (92, .iaload, 0, 0, .null), (93, .aload_n 0, 0, 0, .null), (94, .getfield 191, 12, 80, .null), (97, .iload_n 1, 1, 0, .null), (98, .iaload, 0, 0, .null), (99, .iload 5, 5, 0, .null), (101, .invokevirtual 457, 232, 3, .ref 12), (104, .istore 6, 6, 0, .null), (106, .iload 6, 6, 0, .null), (108, .bipush (-10), 0, 0, .int (-10)), (110, .if_icmp .ge 20, 130, 0, .null), (113, .aload_n 0, 0, 0, .null), (114, .bipush (-10), 0, 0, .int (-10)), (116, .iload 6, 6, 0, .null), (118, .isub, 0, 0, .null), (119, .invokevirtual 292, 164, 1, .ref 12), (122, .istore 6, 6, 0, .null), (124, .iconst 0, 0, 0, .int 0), (125, .istore 4, 4, 0, .null), (127, .goto 43, 170, 0, .null), (130, .iload 6, 6, 0, .null), (132, .iconst 1, 0, 0, .int 1), (133, .if_icmp .ne 37, 170, 0, .null), (136, .aload_n 0, 0, 0, .null), (137, .aload_n 0, 0, 0, .null), (138, .getfield 191, 12, 80, .null), (141, .iload_n 1, 1, 0, .null), (142, .iaload, 0, 0, .null), (143, .invokevirtual 480, 240, 1, .ref 12), (146, .ifCond .eq 24, 170, 0, .null), (149, .aload_n 0, 0, 0, .null), (150, .getfield 203, 12, 84, .null), (153, .iload_n 1, 1, 0, .null), (154, .iload 5, 5, 0, .null), (156, .iastore, 0, 0, .null), (157, .aload_n 0, 0, 0, .null), (158, .getfield 206, 12, 85, .null), (161, .iload_n 1, 1, 0, .null), (162, .aload_n 0, 0, 0, .null), (163, .getfield 447, 12, 87, .null), (166, .iastore, 0, 0, .null), (167, .iconst 0, 0, 0, .int 0), (168, .istore 4, 4, 0, .null), (170, .iinc 5 1, 5, 0, .int 1), (173, .goto (-113), 60, 0, .null), (176, .return_, 0, 0, .null)]
def v_M_plans : List (Nat × List Nat) := [(0, [0, 1]), (60, [0, 1, 3, 4, 5])]
def s_M_plans : List (Nat × Nat × List Op) := [(0, 60, o_M_plans_0), (60, 177, o_M_plans_1)]
set_option maxRecDepth 100000 in
theorem k_M_plans : MOk P_M s_M_plans 239 7 := ⟨P_M_ok, _, rfl, rfl, rfl, by decide +kernel⟩
def o_M_isFree_0 : List Op := [(0, .iconst 1, 0, 0, .int 1), (1, .istore_n 2, 2, 0, .null), (2, .iconst 0, 0, 0, .int 0), (3, .istore_n 3, 3, 0, .null)]
def o_M_isFree_1 : List Op := [(4, .iload_n 3, 3, 0, .null), (5, .aload_n 0, 0, 0, .null), (6, .getfield 434, 12, 78, .null), (9, .if_icmp .ge 38, 47, 0, .null), (12, .iload_n 2, 2, 0, .null), (13, .ifCond .eq 26, 39, 0, .null), (16, .aload_n 0, 0, 0, .null), (17, .getfield 203, 12, 84, .null), (20, .iload_n 3, 3, 0, .null), (21, .iaload, 0, 0, .null), (22, .iconst (-1), 0, 0, .int (-1)), (23, .if_icmp .eq 12, 35, 0, .null), (26, .aload_n 0, 0, 0, .null), (27, .iload_n 1, 1, 0, .null), (28, .iload_n 3, 3, 0, .null), (29, .invokevirtual 477, 241, 2, .ref 12), (32, .ifCond .ne 7, 39, 0, .null), (35, .iconst 1, 0, 0, .int 1), (36, .goto 4, 40, 0, .null), (39, .iconst 0, 0, 0, .int 0), (40, .istore_n 2, 2, 0, .null), (41, .iinc 3 1, 3, 0, .int 1), (44, .goto (-40), 4, 0, .null), (47, .iload_n 2, 2, 0, .null), (48, .ireturn, 1, 0, .null)]
def v_M_isFree : List (Nat × List Nat) := [(0, [0, 1]), (4, [0, 1, 2, 3])]
def s_M_isFree : List (Nat × Nat × List Op) := [(0, 4, o_M_isFree_0), (4, 49, o_M_isFree_1)]
set_option maxRecDepth 100000 in
theorem k_M_isFree : MOk P_M s_M_isFree 240 4 := ⟨P_M_ok, _, rfl, rfl, rfl, by decide +kernel⟩
def o_M_isWith_0 : List Op := [(0, .aload_n 0, 0, 0, .null), (1, .getfield 191, 12, 80, .null), (4, .iload_n 2, 2, 0, .null), (5, .iaload, 0, 0, .null), (6, .istore_n 3, 3, 0, .null), (7, .iconst 0, 0, 0, .int 0), (8, .istore 4, 4, 0, .null), (10, .iconst 0, 0, 0, .int 0), (11, .istore 5, 5, 0, .null)]
def o_M_isWith_1 : List Op := [(13, .iload 5, 5, 0, .null), (15, .aload_n 0, 0, 0, .null), (16, .getfield 163, 12, 67, .null), (19, .iload_n 1, 1, 0, .null), (20, .iaload, 0, 0, .null), (21, .if_icmp .ge 274, 295, 0, .null), (24, .aload_n 0, 0, 0, .null), (25, .getfield 166, 12, 68, .null), (28, .iconst 4, 0, 0, .int 4), (29, .iload_n 1, 1, 0, .null), (30, .imul, 0, 0, .null), (31, .iload 5, 5, 0, .null), (33, .iadd, 0, 0, .null), (34, .iaload, 0, 0, .null), (35, .istore 6, 6, 0, .null), (37, .iconst 0, 0, 0, .int 0), (38, .istore 7, 7, 0, .null)]
def o_M_isWith_2 : List Op := [(40, .iload 7, 7, 0, .null), (42, .aload_n 0, 0, 0, .null), (43, .getfield 163, 12, 67, .null), (46, .iload_n 3, 3, 0, .null), (47, .iaload, 0, 0, .null), (48, .if_icmp .ge 241, 289, 0, .null), (51, .aload_n 0, 0, 0, .null), (52, .getfield 166, 12, 68, .null), (55, .iconst 4, 0, 0, .int 4), (56, .iload_n 3, 3, 0, .null), (57, .imul, 0, 0, .null), (58, .iload 7, 7, 0, .null), (60, .iadd, 0, 0, .null), (61, .iaload, 0, 0, .null), (62, .istore 8, 8, 0, .null), (64, .aload_n 0, 0, 0, .null), (65, .iload_n 2, 2, 0, .null), (66, .iload 7, 7, 0, .null), (68, .invokevirtual 470, 242, 2, .ref 12), (71, .istore 9, 9, 0, .null), (73, .iload 4, 4, 0, .null), (75, .ifCond .ne 60, 135, 0, .null), (78, .iload 6, 6, 0, .null), (80, .iload 8, 8, 0, .null), (82, .if_icmp .ne 57, 139, 0, .null), (85, .aload_n 0, 0, 0, .null), (86, .getfield 88, 12, 35, .null), (89, .iload 6, 6, 0, .null), (91, .iaload, 0, 0, .null), (92, .ifCond .le 47, 139, 0, .null), (95, .aload_n 0, 0, 0, .null), (96, .getfield 209, 12, 86, .null), (99, .iload 5, 5, 0, .null), (101, .iaload, 0, 0, .null), (102, .aload_n 0, 0, 0, .null), (103, .getfield 209, 12, 86, .null), (106, .iload 5, 5, 0, .null), (108, .iaload, 0, 0, .null), (109, .aload_n 0, 0, 0, .null), (110, .getfield 88, 12, 35, .null), (113, .iload 6, 6, 0, .null), (115, .iaload, 0, 0, .null), (116, .iadd, 0, 0, .null), (117, .iload 9, 9, 0, .null), (119, .iload 9, 9, 0, .null), (121, .aload_n 0, 0, 0, .null), (122, .getfield 88, 12, 35, .null), (125, .iload 6, 6, 0, .null), (127, .iaload, 0, 0, .null), (128, .iadd, 0, 0, .null), (129, .invokestatic 473, 243, 4, .ref 0), (132, .ifCond .eq 7, 139, 0, .null), (135, .iconst 1, 0, 0, .int 1), (136, .goto 4, 140, 0, .null), (139, .iconst 0, 0, 0, .int 0), (140, .istore 4, 4, 0, .null), (142, .iload 5, 5, 0, .null), (144, .iconst 1, 0, 0, .int 1), (145, .iadd, 0, 0, .null), (146, .aload_n 0, 0, 0, .null), (147, .getfield 163, 12, 67, .null), (150, .iload_n 1, 1, 0, .null), (151, .iaload, 0, 0, .null), (152, .if_icmp .ge 131, 283, 0, .null), (155, .iload 7, 7, 0, .null), (157, .iconst 1, 0, 0, .int 1), (158, .iadd, 0, 0, .null), (159, .aload_n 0, 0, 0, .null), (160, .getfield 163, 12, 67, .null), (163, .iload_n 3, 3, 0, .null), (164, .iaload, 0, 0, .null), (165, .if_icmp .ge 118, 283, 0, .null), (168, .aload_n 0, 0, 0, .null), (169, .getfield 166, 12, 68, .null), (172, .iconst 4, 0, 0, .int 4), (173, .iload_n 1, 1, 0, .null), (174, .imul, 0, 0, .null), (175, .iload 5, 5, 0, .null), (177, .iadd, 0, 0, .null), (178, .iconst 1, 0, 0, .int 1), (179, .iadd, 0, 0, .null), (180, .iaload, 0, 0, .null), (181, .istore 10, 10, 0, .null), (183, .aload_n 0, 0, 0, .null), (184, .getfield 166, 12, 68, .null), (187, .iconst 4, 0, 0, .int 4), (188, .iload_n 3, 3, 0, .null), (189, .imul, 0, 0, .null), (190, .iload 7, 7, 0, .null), (192, .iadd, 0, 0, .null), (193, .iconst 1, 0, 0, .int 1), (194, .iadd, 0, 0, .null), (195, .iaload, 0, 0, .null), (196, .istore 11, 11, 0, .null), (198, .iload 6, 6, 0, .null), (200, .iload 8, 8, 0, .null), (202, .if_icmp .ne 10, 212, 0, .null), (205, .iload 10, 10, 0, .null), (207, .iload 11, 11, 0, .null), (209, .if_icmp .eq 17, 226, 0, .null), (212, .iload 6, 6, 0, .null), (214, .iload 11, 11, 0, .null), (216, .if_icmp .ne 14, 230, 0, .null), (219, .iload 10, 10, 0, .null), (221, .iload 8, 8, 0, .null), (223, .if_icmp .ne 7, 230, 0, .null), (226, .iconst 1, 0, 0, .int 1), (227, .goto 4, 231, 0, .null), (230, .iconst 0, 0, 0, .int 0), (231, .istore 12, 12, 0, .null), (233, .iload 4, 4, 0, .null), (235, .ifCond .ne 41, 276, 0, .null), (238, .iload 12, 12, 0, .null), (240, .ifCond .eq 40, 280, 0, .null), (243, .aload_n 0, 0, 0, .null), (244, .getfield 209, 12, 86, .null), (247, .iload 5, 5, 0, .null), (249, .iaload, 0, 0, .null), (250, .aload_n 0, 0, 0, .null), (251, .getfield 209, 12, 86, .null), (254, .iload 5, 5, 0, .null), (256, .iconst 1, 0, 0, .int 1), (257, .iadd, 0, 0, .null), (258, .iaload, 0, 0, .null), (259, .iload 9, 9, 0, .null), (261, .aload_n 0, 0, 0, .null), (262, .iload_n 2, 2, 0, .null), (263, .iload 7, 7, 0, .null), (265, .iconst 1, 0, 0, .int 1), (266, .iadd, 0, 0, .null), (267, .invokevirtual 470, 242, 2, .ref 12), (270, .invokestatic 473, 243, 4, .ref 0), (273, .ifCond .eq 7, 280, 0, .null), (276, .iconst 1, 0, 0, .int 1), (277, .goto 4, 281, 0, .null), (280, .iconst 0, 0, 0, .int 0), (281, .istore 4, 4, 0, .null), (283, .iinc 7 1, 7, 0, .int 1), (286, .goto (-246), 40, 0, .null), (289, .iinc 5 1, 5, 0, .int 1), (292, .goto (-279), 13, 0, .null)]
def o_M_isWith_3 : List Op := [(295, .iload 4, 4, 0, .null), (297, .ireturn, 1, 0, .null)]
def v_M_isWith : List (Nat × List Nat) := [(0, [0, 1, 2]), (13, [0, 1, 2, 3, 4, 5]), (40, [0, 1, 2, 3, 4, 5, 6, 7]), (295, [4])]
def s_M_isWith : List (Nat × Nat × List Op) := [(0, 13, o_M_isWith_0), (13, 40, o_M_isWith_1), (40, 295, o_M_isWith_2), (295, 298, o_M_isWith_3)]
set_option maxRecDepth 100000 in
theorem k_M_isWith : MOk P_M s_M_isWith 241 13 := ⟨P_M_ok, _, rfl, rfl, rfl, by decide +kernel⟩
def o_M_comesTo_0 : List Op := [(0, .bipush 60, 0, 0, .int 60), (2, .aload_n 0, 0, 0, .null), (3, .getfield 203, 12, 84, .null), (6, .iload_n 1, 1, 0, .null), (7, .iaload, 0, 0, .null), (8, .imul, 0, 0, .null), (9, .aload_n 0, 0, 0, .null), (10, .getfield 169, 12, 69, .null), (13, .iconst 4, 0, 0, .int 4), (14, .aload_n 0, 0, 0, .null), (15, .getfield 191, 12, 80, .null), (18, .iload_n 1, 1, 0, .null), (19, .iaload, 0, 0, .null), (20, .imul, 0, 0, .null), (21, .iload_n 2, 2, 0, .null), (22, .iadd, 0, 0, .null), (23, .iaload, 0, 0, .null), (24, .aload_n 0, 0, 0, .null), (25, .getfield 206, 12, 85, .null), (28, .iload_n 1, 1, 0, .null), (29, .iaload, 0, 0, .null), (30, .invokestatic 444, 229, 3, .ref 0), (33, .ireturn, 0, 0, .null)]
def v_M_comesTo : List (Nat × List Nat) := [(0, [0, 1, 2])]
def s_M_comesTo : List (Nat × Nat × List Op) := [(0, 34, o_M_comesTo_0)]
set_option maxRecDepth 100000 in
theorem k_M_comesTo : MOk P_M s_M_comesTo 242 3 := ⟨P_M_ok, _, rfl, rfl, rfl, by decide +kernel⟩
def o_M_meet_0 : List Op := [(0, .iload_n 0, 0, 0, .null), (1, .iload_n 3, 3, 0, .null), (2, .if_icmp .ge 12, 14, 0, .null), (5, .iload_n 2, 2, 0, .null), (6, .iload_n 1, 1, 0, .null), (7, .if_icmp .ge 7, 14, 0, .null), (10, .iconst 1, 0, 0, .int 1), (11, .goto 4, 15, 0, .null), (14, .iconst 0, 0, 0, .int 0), (15, .ireturn, 1, 0, .null)]
def v_M_meet : List (Nat × List Nat) := [(0, [0, 1, 2, 3])]
def s_M_meet : List (Nat × Nat × List Op) := [(0, 16, o_M_meet_0)]
set_option maxRecDepth 100000 in
theorem k_M_meet : MOk P_M s_M_meet 243 4 := ⟨P_M_ok, _, rfl, rfl, rfl, by decide +kernel⟩
def o_M_planned_0 : List Op := [(0, .aload_n 0, 0, 0, .null), (1, .iload_n 1, 1, 0, .null), (2, .invokevirtual 486, 245, 1, .ref 12), (5, .ifCond .eq 12, 17, 0, .null), (8, .iload_n 2, 2, 0, .null), (9, .iconst 0, 0, 0, .int 0), (10, .iconst 2, 0, 0, .int 2), (11, .invokestatic 216, 150, 3, .ref 0), (14, .ifCond .ne 6, 20, 0, .null), (17, .bipush (-2), 0, 0, .int (-2)), (19, .ireturn, 0, 0, .null), (20, .iload_n 2, 2, 0, .null), (21, .ifCond .ne 20, 41, 0, .null), (24, .aload_n 0, 0, 0, .null), (25, .getfield 197, 12, 82, .null), (28, .iload_n 1, 1, 0, .null), (29, .baload, 0, 0, .null), (30, .ifCond .eq 7, 37, 0, .null), (33, .iconst 1, 0, 0, .int 1), (34, .goto 27, 61, 0, .null), (37, .iconst 0, 0, 0, .int 0), (38, .goto 23, 61, 0, .null), (41, .iload_n 2, 2, 0, .null), (42, .iconst 1, 0, 0, .int 1), (43, .if_icmp .ne 12, 55, 0, .null), (46, .aload_n 0, 0, 0, .null), (47, .getfield 203, 12, 84, .null), (50, .iload_n 1, 1, 0, .null), (51, .iaload, 0, 0, .null), (52, .goto 9, 61, 0, .null), (55, .aload_n 0, 0, 0, .null), (56, .getfield 200, 12, 83, .null), (59, .iload_n 1, 1, 0, .null), (60, .iaload, 0, 0, .null), (61, .ireturn, 0, 0, .null)]
def v_M_planned : List (Nat × List Nat) := [(0, [0, 1, 2])]
def s_M_planned : List (Nat × Nat × List Op) := [(0, 62, o_M_planned_0)]
set_option maxRecDepth 100000 in
theorem k_M_planned : MOk P_M s_M_planned 244 3 := ⟨P_M_ok, _, rfl, rfl, rfl, by decide +kernel⟩
def o_M_isPassage_0 : List Op := [(0, .iload_n 1, 1, 0, .null), (1, .iconst 0, 0, 0, .int 0), (2, .aload_n 0, 0, 0, .null), (3, .getfield 434, 12, 78, .null), (6, .iconst 1, 0, 0, .int 1), (7, .isub, 0, 0, .null), (8, .invokestatic 216, 150, 3, .ref 0), (11, .ireturn, 1, 0, .null)]
def v_M_isPassage : List (Nat × List Nat) := [(0, [0, 1])]
def s_M_isPassage : List (Nat × Nat × List Op) := [(0, 12, o_M_isPassage_0)]
set_option maxRecDepth 100000 in
theorem k_M_isPassage : MOk P_M s_M_isPassage 245 2 := ⟨P_M_ok, _, rfl, rfl, rfl, by decide +kernel⟩
def o_M_again_0 : List Op := [(0, .aload_n 0, 0, 0, .null), (1, .iload_n 1, 1, 0, .null), (2, .invokevirtual 486, 245, 1, .ref 12), (5, .ifCond .ne 6, 11, 0, .null), (8, .bipush (-2), 0, 0, .int (-2)), (10, .ireturn, 0, 0, .null), (11, .aload_n 0, 0, 0, .null), (12, .getfield 197, 12, 82, .null), (15, .iload_n 1, 1, 0, .null), (16, .baload, 0, 0, .null), (17, .ifCond .eq 6, 23, 0, .null), (20, .bipush (-3), 0, 0, .int (-3)), (22, .ireturn, 0, 0, .null), (23, .aload_n 0, 0, 0, .null), (24, .getfield 197, 12, 82, .null), (27, .iload_n 1, 1, 0, .null), (28, .iconst 1, 0, 0, .int 1), (29, .bastore, 0, 0, .null), (30, .aload_n 0, 0, 0, .null), (31, .getfield 200, 12, 83, .null), (34, .iload_n 1, 1, 0, .null), (35, .aload_n 0, 0, 0, .null), (36, .getfield 230, 12, 0, .null), (39, .iastore, 0, 0, .null), (40, .aload_n 0, 0, 0, .null), (41, .getfield 203, 12, 84, .null), (44, .iload_n 1, 1, 0, .null), (45, .iconst (-1), 0, 0, .int (-1)), (46, .iastore, 0, 0, .null), (47, .iconst 1, 0, 0, .int 1), (48, .ireturn, 0, 0, .null)]
def v_M_again : List (Nat × List Nat) := [(0, [0, 1])]
def s_M_again : List (Nat × Nat × List Op) := [(0, 49, o_M_again_0)]
set_option maxRecDepth 100000 in
theorem k_M_again : MOk P_M s_M_again 246 2 := ⟨P_M_ok, _, rfl, rfl, rfl, by decide +kernel⟩
end
section
def o_M_pass_0 : List Op := [(0, .aload_n 0, 0, 0, .null), (1, .iload_n 1, 1, 0, .null), (2, .invokevirtual 486, 245, 1, .ref 12), (5, .ifCond .ne 6, 11, 0, .null), (8, .bipush (-2), 0, 0, .int (-2)), (10, .ireturn, 0, 0, .null), (11, .aload_n 0, 0, 0, .null), (12, .invokevirtual 283, 161, 0, .ref 12), (15, .ifCond .eq 6, 21, 0, .null), (18, .bipush (-4), 0, 0, .int (-4)), (20, .ireturn, 0, 0, .null), (21, .aload_n 0, 0, 0, .null), (22, .iconst 0, 0, 0, .int 0), (23, .putfield 387, 12, 57, .null), (26, .aload_n 0, 0, 0, .null), (27, .dup, 0, 0, .null), (28, .getfield 492, 12, 88, .null), (31, .iconst 1, 0, 0, .int 1), (32, .iadd, 0, 0, .null), (33, .putfield 492, 12, 88, .null), (36, .aload_n 0, 0, 0, .null), (37, .iconst 0, 0, 0, .int 0), (38, .putfield 489, 12, 89, .null), (41, .aload_n 0, 0, 0, .null), (42, .aload_n 0, 0, 0, .null), (43, .getfield 188, 12, 79, .null), (46, .iload_n 1, 1, 0, .null), (47, .iaload, 0, 0, .null), (48, .aload_n 0, 0, 0, .null), (49, .getfield 191, 12, 80, .null), (52, .iload_n 1, 1, 0, .null), (53, .iaload, 0, 0, .null), (54, .invokevirtual 495, 248, 2, .ref 12), (57, .istore_n 2, 2, 0, .null), (58, .iconst 0, 0, 0, .int 0), (59, .istore_n 3, 3, 0, .null)]
def o_M_pass_1 : List Op := [(60, .iload_n 3, 3, 0, .null), (61, .bipush 16, 0, 0, .int 16), (63, .if_icmp .ge 16, 79, 0, .null), (66, .aload_n 0, 0, 0, .null), (67, .getfield 212, 12, 90, .null), (70, .iload_n 3, 3, 0, .null), (71, .iconst 0, 0, 0, .int 0), (72, .bastore, 0, 0, .null), (73, .iinc 3 1, 3, 0, .int 1), (76, .goto (-16), 60, 0, .null), (79, .iload_n 2, 2, 0, .null), (80, .ifCond .eq 11, 91, 0, .null), (83, .aload_n 0, 0, 0, .null), (84, .iload_n 2, 2, 0, .null), (85, .invokevirtual 292, 164, 1, .ref 12), (88, .goto 4, 92, 0, .null), (91, .iconst 1, 0, 0, .int 1), (92, .ireturn, 0, 0, .null)]
def v_M_pass : List (Nat × List Nat) := [(0, [0, 1]), (60, [0, 2, 3])]
def s_M_pass : List (Nat × Nat × List Op) := [(0, 60, o_M_pass_0), (60, 93, o_M_pass_1)]
set_option maxRecDepth 100000 in
theorem k_M_pass : MOk P_M s_M_pass 247 4 := ⟨P_M_ok, _, rfl, rfl, rfl, by decide +kernel⟩
def o_M_goes_0 : List Op := [(0, .aload_n 0, 0, 0, .null), (1, .iload_n 1, 1, 0, .null), (2, .iconst 0, 0, 0, .int 0), (3, .invokevirtual 415, 203, 2, .ref 12), (6, .istore_n 3, 3, 0, .null), (7, .iconst 0, 0, 0, .int 0), (8, .istore 4, 4, 0, .null), (10, .iconst 0, 0, 0, .int 0), (11, .istore 5, 5, 0, .null)]
def o_M_goes_1 : List Op := [(13, .iload 5, 5, 0, .null), (15, .aload_n 0, 0, 0, .null), (16, .getfield 163, 12, 67, .null), (19, .iload_n 2, 2, 0, .null), (20, .iaload, 0, 0, .null), (21, .if_icmp .ge 95, 116, 0, .null), (24, .iload_n 3, 3, 0, .null), (25, .ifCond .ne 91, 116, 0, .null), (28, .aload_n 0, 0, 0, .null), (29, .getfield 166, 12, 68, .null), (32, .iconst 4, 0, 0, .int 4), (33, .iload_n 2, 2, 0, .null), (34, .imul, 0, 0, .null), (35, .iload 5, 5, 0, .null), (37, .iadd, 0, 0, .null), (38, .iaload, 0, 0, .null), (39, .istore 6, 6, 0, .null), (41, .aload_n 0, 0, 0, .null), (42, .getfield 88, 12, 35, .null), (45, .iload 6, 6, 0, .null), (47, .iaload, 0, 0, .null), (48, .ifCond .le 19, 67, 0, .null), (51, .aload_n 0, 0, 0, .null), (52, .getfield 212, 12, 90, .null), (55, .iload 6, 6, 0, .null), (57, .baload, 0, 0, .null), (58, .ifCond .eq 9, 67, 0, .null), (61, .bipush 8, 0, 0, .int 8), (63, .istore_n 3, 3, 0, .null), (64, .goto 46, 110, 0, .null), (67, .aload_n 0, 0, 0, .null), (68, .getfield 88, 12, 35, .null), (71, .iload 6, 6, 0, .null), (73, .iaload, 0, 0, .null), (74, .ifCond .le 36, 110, 0, .null), (77, .aload_n 0, 0, 0, .null), (78, .getfield 212, 12, 90, .null), (81, .iload 6, 6, 0, .null), (83, .iconst 1, 0, 0, .int 1), (84, .bastore, 0, 0, .null), (85, .iinc 4 1, 4, 0, .int 1), (88, .aload_n 0, 0, 0, .null), (89, .iload 4, 4, 0, .null), (91, .aload_n 0, 0, 0, .null), (92, .getfield 489, 12, 89, .null), (95, .if_icmp .le 8, 103, 0, .null), (98, .iload 4, 4, 0, .null), (100, .goto 7, 107, 0, .null), (103, .aload_n 0, 0, 0, .null), (104, .getfield 489, 12, 89, .null), (107, .putfield 489, 12, 89, .null), (110, .iinc 5 1, 5, 0, .int 1), (113, .goto (-100), 13, 0, .null), (116, .iload_n 3, 3, 0, .null), (117, .ifCond .ne 12, 129, 0, .null), (120, .aload_n 0, 0, 0, .null), (121, .iload_n 1, 1, 0, .null), (122, .iconst 2, 0, 0, .int 2), (123, .invokevirtual 415, 203, 2, .ref 12), (126, .goto 4, 130, 0, .null), (129, .iload_n 3, 3, 0, .null), (130, .istore_n 3, 3, 0, .null), (131, .iload_n 3, 3, 0, .null), (132, .ifCond .ne 12, 144, 0, .null), (135, .aload_n 0, 0, 0, .null), (136, .iload_n 1, 1, 0, .null), (137, .iconst 3, 0, 0, .int 3), (138, .invokevirtual 415, 203, 2, .ref 12), (141, .goto 4, 145, 0, .null), (144, .iload_n 3, 3, 0, .null), (145, .ireturn, 0, 0, .null)]
def v_M_goes : List (Nat × List Nat) := [(0, [0, 1, 2]), (13, [0, 1, 2, 3, 4, 5])]
def s_M_goes : List (Nat × Nat × List Op) := [(0, 13, o_M_goes_0), (13, 146, o_M_goes_1)]
set_option maxRecDepth 100000 in
theorem k_M_goes : MOk P_M s_M_goes 248 7 := ⟨P_M_ok, _, rfl, rfl, rfl, by decide +kernel⟩
def o_M_tries_0 : List Op := [(0, .aload_n 0, 0, 0, .null), (1, .getfield 492, 12, 88, .null), (4, .ireturn, 0, 0, .null)]
def v_M_tries : List (Nat × List Nat) := [(0, [0])]
def s_M_tries : List (Nat × Nat × List Op) := [(0, 5, o_M_tries_0)]
set_option maxRecDepth 100000 in
theorem k_M_tries : MOk P_M s_M_tries 249 1 := ⟨P_M_ok, _, rfl, rfl, rfl, by decide +kernel⟩
def o_M_held_0 : List Op := [(0, .iload_n 1, 1, 0, .null), (1, .ifCond .ne 7, 8, 0, .null), (4, .iconst 0, 0, 0, .int 0), (5, .goto 17, 22, 0, .null), (8, .iload_n 1, 1, 0, .null), (9, .iconst 1, 0, 0, .int 1), (10, .if_icmp .ne 10, 20, 0, .null), (13, .aload_n 0, 0, 0, .null), (14, .getfield 489, 12, 89, .null), (17, .goto 5, 22, 0, .null), (20, .bipush (-2), 0, 0, .int (-2)), (22, .ireturn, 0, 0, .null)]
def v_M_held : List (Nat × List Nat) := [(0, [0, 1])]
def s_M_held : List (Nat × Nat × List Op) := [(0, 23, o_M_held_0)]
set_option maxRecDepth 100000 in
theorem k_M_held : MOk P_M s_M_held 250 2 := ⟨P_M_ok, _, rfl, rfl, rfl, by decide +kernel⟩
def o_M_count_0 : List Op := [(0, .iload_n 1, 1, 0, .null), (1, .tableswitch 96 0 8 #[51, 56, 61, 66, 71, 76, 81, 86, 91], 0, 0, .null), (52, .aload_n 0, 0, 0, .null), (53, .getfield 230, 12, 0, .null), (56, .ireturn, 0, 0, .null), (57, .aload_n 0, 0, 0, .null), (58, .getfield 239, 12, 8, .null), (61, .ireturn, 0, 0, .null), (62, .aload_n 0, 0, 0, .null), (63, .getfield 296, 12, 18, .null), (66, .ireturn, 0, 0, .null), (67, .aload_n 0, 0, 0, .null), (68, .getfield 335, 12, 33, .null), (71, .ireturn, 0, 0, .null), (72, .aload_n 0, 0, 0, .null), (73, .getfield 348, 12, 36, .null), (76, .ireturn, 0, 0, .null), (77, .aload_n 0, 0, 0, .null), (78, .getfield 378, 12, 49, .null), (81, .ireturn, 0, 0, .null), (82, .aload_n 0, 0, 0, .null), (83, .getfield 434, 12, 78, .null), (86, .ireturn, 0, 0, .null), (87, .aload_n 0, 0, 0, .null), (88, .getfield 461, 12, 73, .null), (91, .ireturn, 0, 0, .null), (92, .aload_n 0, 0, 0, .null), (93, .getfield 220, 12, 2, .null), (96, .ireturn, 0, 0, .null), (97, .bipush (-2), 0, 0, .int (-2)), (99, .ireturn, 0, 0, .null)]
def v_M_count : List (Nat × List Nat) := [(0, [0, 1])]
def s_M_count : List (Nat × Nat × List Op) := [(0, 100, o_M_count_0)]
set_option maxRecDepth 100000 in
theorem k_M_count : MOk P_M s_M_count 251 2 := ⟨P_M_ok, _, rfl, rfl, rfl, by decide +kernel⟩
def o_M_finding_0 : List Op := [(0, .aload_n 0, 0, 0, .null), (1, .getfield 223, 12, 1, .null), (4, .ireturn, 0, 0, .null)]
def v_M_finding : List (Nat × List Nat) := [(0, [0])]
def s_M_finding : List (Nat × Nat × List Op) := [(0, 5, o_M_finding_0)]
set_option maxRecDepth 100000 in
theorem k_M_finding : MOk P_M s_M_finding 252 1 := ⟨P_M_ok, _, rfl, rfl, rfl, by decide +kernel⟩
def o_M_digest_0 : List Op := [(0, .bipush 7, 0, 0, .int 7), (2, .istore_n 1, 1, 0, .null), (3, .iconst 0, 0, 0, .int 0), (4, .istore_n 2, 2, 0, .null)]
def o_M_digest_1 : List Op := [(5, .iload_n 2, 2, 0, .null), (6, .aload_n 0, 0, 0, .null), (7, .getfield 434, 12, 78, .null), (10, .if_icmp .ge 21, 31, 0, .null), (13, .bipush 31, 0, 0, .int 31), (15, .iload_n 1, 1, 0, .null), (16, .imul, 0, 0, .null), (17, .aload_n 0, 0, 0, .null), (18, .getfield 203, 12, 84, .null), (21, .iload_n 2, 2, 0, .null), (22, .iaload, 0, 0, .null), (23, .iadd, 0, 0, .null), (24, .istore_n 1, 1, 0, .null), (25, .iinc 2 1, 2, 0, .int 1), (28, .goto (-23), 5, 0, .null), (31, .iload_n 1, 1, 0, .null), (32, .ireturn, 0, 0, .null)]
def v_M_digest : List (Nat × List Nat) := [(0, [0]), (5, [0, 1, 2])]
def s_M_digest : List (Nat × Nat × List Op) := [(0, 5, o_M_digest_0), (5, 33, o_M_digest_1)]
set_option maxRecDepth 100000 in
theorem k_M_digest : MOk P_M s_M_digest 253 3 := ⟨P_M_ok, _, rfl, rfl, rfl, by decide +kernel⟩
end
section
/-! words for contracts -/
def EqP (r : Option Value) (I : MI) (D : MD) : Po := fun o J E => o = r ∧ J = I ∧ E = D
theorem call_eq {g : Gp} {d mid : Nat} {As : List Value} {I I' : MI} {D D' : MD} {r : Option Value} {k : Po} (hC : Con g SHc d mid As I D (EqP r I' D')) (hk : k r I' D') : CaD g SHc (d + 1) mid As I D k :=
  ⟨_, hC, fun o J E h => by obtain ⟨rfl, rfl, rfl⟩ := h; exact hk⟩
theorem call_of {g : Gp} {d mid : Nat} {As : List Value} {I : MI} {D : MD} {Post k : Po} (hC : Con g SHc d mid As I D Post) (hk : ∀ o I' D', Post o I' D' → k o I' D') : CaD g SHc (d + 1) mid As I D k := ⟨_, hC, hk⟩
/-- a truth value as the machine keeps it -/
def bI (b : Bool) : Int32 := match b with
  | true => 1
  | false => 0
theorem bI_0 {b : Bool} : bI b = 0 ↔ b = false := by cases b <;> simp [bI]
theorem bI_n0 {b : Bool} : ¬ bI b = 0 ↔ b = true := by cases b <;> simp [bI]
theorem bI_1 {b : Bool} : bI b = 1 ↔ b = true := by cases b <;> simp [bI]
theorem bI_01 (b : Bool) : bI b = 0 ∨ bI b = 1 := by cases b <;> simp [bI]
/-- v lies from a to b -/
def wi (v a b : Int32) : Bool := decide (a ≤ v) && decide (v ≤ b)
theorem i32_lt {a b : Int32} : a < b ↔ a.toInt < b.toInt := Int32.lt_iff_toInt_lt
theorem i32_le {a b : Int32} : a ≤ b ↔ a.toInt ≤ b.toInt := Int32.le_iff_toInt_le
theorem i32_nlt {a b : Int32} : ¬ a < b ↔ b ≤ a := by rw [i32_lt, i32_le]; omega
theorem i32_nle {a b : Int32} : ¬ a ≤ b ↔ b < a := by rw [i32_lt, i32_le]; omega
end
section
/-! reals: what is finite, and how great -/
/-- a finite real of magnitude at most 2^E -/
def fb (E : Nat) (x : UInt64) : Prop := ∃ s c q, FP.Core.val64 x = .fin s c q ∧ c * 2 ^ (q + 1074).toNat ≤ 2 ^ (E + 1074)
/-- a finite real of magnitude at least 1 -/
def ge1 (x : UInt64) : Prop := ∃ s c q, FP.Core.val64 x = .fin s c q ∧ 2 ^ 1074 ≤ c * 2 ^ (q + 1074).toNat
theorem and_mask (r : UInt64) : (r &&& 0x7fffffffffffffff).toNat = r.toNat % 2 ^ 63 := by
  rw [UInt64.toNat_and]
  have : (0x7fffffffffffffff : UInt64).toNat = 2 ^ 63 - 1 := by decide
  rw [this, Nat.and_two_pow_sub_one_eq_mod]
theorem n64_of {r : UInt64} (h : FP.Core.val64 r ≠ .nan) : vf_n64 r := by
  have h1 := (FP.Core.ne_nan r).mp h
  unfold vf_n64
  rw [UInt64.le_iff_toNat_le, and_mask]
  exact h1
theorem fb_n {E : Nat} {x : UInt64} (h : fb E x) : vf_n64 x := by
  obtain ⟨s, c, q, h1, -⟩ := h
  exact n64_of (by rw [h1]; intro h; cases h)
theorem fit64 {x : UInt64} {s : Bool} {c : Nat} {q : Int} (h : FP.Core.val64 x = .fin s c q) : c < 2 ^ 53 ∧ -1074 ≤ q ∧ q ≤ 971 ∧ (q = -1074 ∨ 2 ^ 52 ≤ c) := by
  have h1 := FP.Core.val64_fits x
  rw [h] at h1
  exact h1
theorem pow_le_pow_iff {a b : Nat} (h : 2 ^ a ≤ 2 ^ b) : a ≤ b := (Nat.pow_le_pow_iff_right (by omega)).mp h
theorem rr_set {s : Bool} {c : Nat} {q : Int} {E : Nat} (hc : c ≤ 2 ^ 53) (hval : c * 2 ^ (q + 1074).toNat ≤ 2 ^ (E + 1074)) (hq : -1074 ≤ q ∧ q ≤ 900) : ∃ c' q', FP.Core.settle FP.Core.b64 s c q = .fin s c' q' ∧ c' * 2 ^ (q' + 1074).toNat ≤ 2 ^ (E + 1074) := by
  unfold FP.Core.settle FP.Core.bound
  have p1 : FP.Core.b64.p = 53 := rfl
  have p2 : FP.Core.b64.qmax = 971 := by decide
  have p3 : FP.Core.b64.tails = 2 ^ 52 := rfl
  rw [p1, p2, p3]
  by_cases hlt : c < 2 ^ 53
  · rw [if_pos hlt, if_pos (by omega)]
    exact ⟨c, q, rfl, hval⟩
  · rw [if_neg hlt, if_pos (by omega)]
    refine ⟨2 ^ 52, q + 1, rfl, ?_⟩
    have e1 : c = 2 ^ 53 := by omega
    rw [e1, ← Nat.pow_add] at hval
    rw [← Nat.pow_add]
    rw [show 52 + (q + 1 + 1074).toNat = 53 + (q + 1074).toNat by omega]
    exact hval
theorem mul4 (c X d Y Z : Nat) : c * X * (d * Y) * Z = c * d * (X * (Y * Z)) := by ac_rfl
theorem mul3 (d X Y : Nat) : d * X * Y = d * Y * X := by ac_rfl
theorem rr_bd {s : Bool} {A B : Nat} {e : Int} {E : Nat} (hB : 0 < B) (hE : E ≤ 900) (he : -3000 ≤ e) (h : A * 2 ^ (e + 3000).toNat ≤ B * 2 ^ (E + 3000)) :
    ∃ c q, FP.Core.roundRatio FP.Core.b64 s A B e = .fin s c q ∧ c * 2 ^ (q + 1074).toNat ≤ 2 ^ (E + 1074) := by
  unfold FP.Core.roundRatio
  by_cases hA : A = 0
  · rw [if_pos hA]
    exact ⟨0, _, rfl, by simp⟩
  rw [if_neg hA]
  have hA : 0 < A := by omega
  have hq1 : -1074 ≤ FP.Core.quantum FP.Core.b64 A B e := FP.Core.quantum_ge FP.Core.b64 A B e
  have hq2 := FP.Core.quantum_not_below (f := FP.Core.b64) hA hB e
  have hc := FP.Core.nearest_units_le (f := FP.Core.b64) hA hB e
  generalize hq : FP.Core.quantum FP.Core.b64 A B e = q at *
  have hq3 : q = -1074 ∨ q + 52 ≤ E := by
    rcases hq2 with h2 | h2
    · exact Or.inl h2
    · refine Or.inr ?_
      unfold FP.Core.Below at h2
      have h2 : B * 2 ^ (q - e + 52).toNat ≤ A * 2 ^ (-(q - e + 52)).toNat := Nat.le_of_not_lt h2
      have h3 : (B * 2 ^ (q - e + 52).toNat) * 2 ^ (e + 3000).toNat ≤ (A * 2 ^ (-(q - e + 52)).toNat) * 2 ^ (e + 3000).toNat := Nat.mul_le_mul_right _ h2
      have h4 : (A * 2 ^ (e + 3000).toNat) * 2 ^ (-(q - e + 52)).toNat ≤ (B * 2 ^ (E + 3000)) * 2 ^ (-(q - e + 52)).toNat := Nat.mul_le_mul_right _ h
      have h5 : B * 2 ^ ((q - e + 52).toNat + (e + 3000).toNat) ≤ B * 2 ^ (E + 3000 + (-(q - e + 52)).toNat) := by
        rw [Nat.pow_add, Nat.pow_add, ← Nat.mul_assoc, ← Nat.mul_assoc]
        refine Nat.le_trans h3 ?_
        rw [Nat.mul_assoc, Nat.mul_comm (2 ^ _) (2 ^ (e + 3000).toNat), ← Nat.mul_assoc]
        exact h4
      have h6 := pow_le_pow_iff (Nat.le_of_mul_le_mul_left h5 hB)
      omega
  have hM : FP.Core.nearest (FP.Core.unitsNum A e q) (FP.Core.unitsDen B e q) ≤ 2 ^ ((E : Int) - q).toNat := by
    refine FP.Core.nearest_le (FP.Core.unitsDen_pos hB e q) ?_
    unfold FP.Core.unitsNum FP.Core.unitsDen
    have hk : 0 < 2 ^ (q + 3000).toNat := Nat.two_pow_pos _
    by_cases hqe : q ≤ e
    · have e1 : (q - e).toNat = 0 := by omega
      rw [e1, Nat.pow_zero, Nat.mul_one]
      refine Nat.le_of_mul_le_mul_right ?_ hk
      have a1 : A * 2 ^ (e - q).toNat * 2 ^ (q + 3000).toNat = A * 2 ^ (e + 3000).toNat := by
        rw [Nat.mul_assoc, ← Nat.pow_add]
        congr 2; omega
      have a2 : 2 ^ ((E : Int) - q).toNat * B * 2 ^ (q + 3000).toNat = B * 2 ^ (E + 3000) := by
        rw [Nat.mul_comm (2 ^ _) B, Nat.mul_assoc, ← Nat.pow_add]
        congr 2; omega
      rw [a1, a2]
      exact h
    · have e1 : (e - q).toNat = 0 := by omega
      rw [e1, Nat.pow_zero, Nat.mul_one]
      have hk : 0 < 2 ^ (e + 3000).toNat := Nat.two_pow_pos _
      refine Nat.le_of_mul_le_mul_right ?_ hk
      have a2 : 2 ^ ((E : Int) - q).toNat * (B * 2 ^ (q - e).toNat) * 2 ^ (e + 3000).toNat = B * 2 ^ (E + 3000) := by
        rw [Nat.mul_comm (2 ^ _) (B * _), Nat.mul_assoc, Nat.mul_assoc, ← Nat.pow_add, ← Nat.pow_add]
        congr 2; omega
      rw [a2]
      exact h
  generalize hgen : FP.Core.nearest (FP.Core.unitsNum A e q) (FP.Core.unitsDen B e q) = c at *
  have hval : c * 2 ^ (q + 1074).toNat ≤ 2 ^ (E + 1074) := by
    refine Nat.le_trans (Nat.mul_le_mul_right _ hM) ?_
    rw [← Nat.pow_add]
    refine Nat.pow_le_pow_right (by omega) ?_
    omega
  have hset : ∃ c' q', FP.Core.settle FP.Core.b64 s c q = .fin s c' q' ∧ c' * 2 ^ (q' + 1074).toNat ≤ 2 ^ (E + 1074) := rr_set hc hval (by omega)
  unfold FP.Core.roundAt
  rw [hgen]
  exact hset
theorem fb_add {E : Nat} {x y : UInt64} (hE : E + 1 ≤ 900) (hx : fb E x) (hy : fb E y) : fb (E + 1) (FP.dadd x y) := by
  obtain ⟨s, c, q, h1, h2⟩ := hx
  obtain ⟨t, d, r, h3, h4⟩ := hy
  obtain ⟨-, q1, q2, -⟩ := fit64 h1
  obtain ⟨-, r1, r2, -⟩ := fit64 h3
  have hv := FP.Core.val64_dadd x y
  rw [h1, h3] at hv
  simp only [FP.Core.exactSum, FP.Core.round] at hv
  have hm : min q r ≤ q ∧ min q r ≤ r ∧ -1074 ≤ min q r := by omega
  generalize min q r = e at hv hm
  have hb : (FP.Core.sumUnits s c q t d r e).natAbs ≤ c * 2 ^ (q - e).toNat + d * 2 ^ (r - e).toNat := by
    unfold FP.Core.sumUnits FP.Core.signed FP.Core.inUnits
    split <;> split <;> omega
  have hsum : (c * 2 ^ (q - e).toNat + d * 2 ^ (r - e).toNat) * 2 ^ (e + 1074).toNat ≤ 2 ^ (E + 1 + 1074) := by
    rw [Nat.add_mul, Nat.mul_assoc, Nat.mul_assoc, ← Nat.pow_add, ← Nat.pow_add]
    have a1 : (q - e).toNat + (e + 1074).toNat = (q + 1074).toNat := by omega
    have a2 : (r - e).toNat + (e + 1074).toNat = (r + 1074).toNat := by omega
    rw [a1, a2, show E + 1 + 1074 = (E + 1074) + 1 by omega, Nat.pow_succ]
    omega
  obtain ⟨c', q', h5, h6⟩ := rr_bd (s := FP.Core.sumSign s t (FP.Core.sumUnits s c q t d r e)) (A := (FP.Core.sumUnits s c q t d r e).natAbs) (B := 1) (e := e) (E := E + 1) (by omega) hE (by omega) (by
    have h7 := Nat.le_trans (Nat.mul_le_mul_right (2 ^ (e + 1074).toNat) hb) hsum
    have h8 := Nat.mul_le_mul_right (2 ^ 1926) h7
    rw [Nat.mul_assoc, ← Nat.pow_add, ← Nat.pow_add] at h8
    rw [Nat.one_mul, show (e + 3000).toNat = (e + 1074).toNat + 1926 by omega]
    exact h8)
  exact ⟨_, c', q', hv.trans h5, h6⟩
theorem fb_neg {E : Nat} {x : UInt64} (hx : fb E x) : fb E (FP.dneg x) := by
  obtain ⟨s, c, q, h1, h2⟩ := hx
  refine ⟨!s, c, q, ?_, h2⟩
  rw [FP.val64_dneg, h1]
  rfl
theorem fb_sub {E : Nat} {x y : UInt64} (hE : E + 1 ≤ 900) (hx : fb E x) (hy : fb E y) : fb (E + 1) (FP.dsub x y) := by
  have hv := FP.Core.val64_dsub x y
  obtain ⟨t, d, r, h3, h4⟩ := hy
  have hy' : fb E (FP.Core.dneg y) := ⟨!t, d, r, by rw [FP.Core.val64_dneg, h3]; rfl, h4⟩
  have e1 : FP.dsub x y = FP.dadd x (FP.Core.dneg y) := FP.Core.dsub_eq x y
  rw [e1]
  exact fb_add hE hx hy'
theorem fb_mul {E F : Nat} {x y : UInt64} (hE : E + F ≤ 900) (hx : fb E x) (hy : fb F y) : fb (E + F) (FP.dmul x y) := by
  obtain ⟨s, c, q, h1, h2⟩ := hx
  obtain ⟨t, d, r, h3, h4⟩ := hy
  obtain ⟨-, q1, q2, -⟩ := fit64 h1
  obtain ⟨-, r1, r2, -⟩ := fit64 h3
  have hv := FP.Core.val64_dmul x y
  rw [h1, h3] at hv
  simp only [FP.Core.exactProduct, FP.Core.round] at hv
  obtain ⟨c', q', h5, h6⟩ := rr_bd (s := (s != t)) (A := c * d) (B := 1) (e := q + r) (E := E + F) (by omega) hE (by omega) (by
    have h7 := Nat.mul_le_mul h2 h4
    have h8 := Nat.mul_le_mul_right (2 ^ 852) h7
    have a1 : c * 2 ^ (q + 1074).toNat * (d * 2 ^ (r + 1074).toNat) * 2 ^ 852 = c * d * 2 ^ (q + r + 3000).toNat := by
      rw [show (q + r + 3000).toNat = (q + 1074).toNat + ((r + 1074).toNat + 852) by omega, Nat.pow_add, Nat.pow_add]
      exact mul4 _ _ _ _ _
    have a2 : 2 ^ (E + 1074) * 2 ^ (F + 1074) * 2 ^ 852 = 1 * 2 ^ (E + F + 3000) := by
      rw [Nat.one_mul, ← Nat.pow_add, ← Nat.pow_add, show E + 1074 + (F + 1074) + 852 = E + F + 3000 by omega]
    rw [a1, a2] at h8
    exact h8)
  exact ⟨_, c', q', hv.trans h5, h6⟩
theorem fb_div {E : Nat} {x y : UInt64} (hE : E ≤ 900) (hx : fb E x) (hy : ge1 y) : fb E (FP.ddiv x y) := by
  obtain ⟨s, c, q, h1, h2⟩ := hx
  obtain ⟨t, d, r, h3, h4⟩ := hy
  obtain ⟨-, q1, q2, -⟩ := fit64 h1
  obtain ⟨-, r1, r2, -⟩ := fit64 h3
  have hd : d ≠ 0 := by
    intro h
    subst h
    rw [Nat.zero_mul] at h4
    exact absurd h4 (Nat.not_le.mpr (Nat.two_pow_pos _))
  have hv := FP.Core.val64_ddiv x y
  rw [h1, h3] at hv
  simp only [FP.Core.quotient, if_neg hd] at hv
  obtain ⟨c', q', h5, h6⟩ := rr_bd (s := (s != t)) (A := c) (B := d) (e := q - r) (E := E) (by omega) hE (by omega) (by
    have hr : 0 < 2 ^ (r + 1074).toNat := Nat.two_pow_pos _
    refine Nat.le_of_mul_le_mul_right ?_ hr
    have a1 : c * 2 ^ (q - r + 3000).toNat * 2 ^ (r + 1074).toNat = c * 2 ^ (q + 1074).toNat * 2 ^ 3000 := by
      rw [Nat.mul_assoc, Nat.mul_assoc, ← Nat.pow_add, ← Nat.pow_add]
      congr 2; omega
    have a2 : d * 2 ^ (E + 3000) * 2 ^ (r + 1074).toNat = (d * 2 ^ (r + 1074).toNat) * 2 ^ (E + 3000) := mul3 _ _ _
    rw [a1, a2]
    refine Nat.le_trans (Nat.mul_le_mul_right _ h2) (Nat.le_trans (Nat.le_of_eq ?_) (Nat.mul_le_mul_right _ h4))
    rw [← Nat.pow_add, ← Nat.pow_add, show E + 1074 + 3000 = 1074 + (E + 3000) by omega])
  exact ⟨_, c', q', hv.trans h5, h6⟩
theorem fb_mono {E F : Nat} {x : UInt64} (h : E ≤ F) (hx : fb E x) : fb F x := by
  obtain ⟨s, c, q, h1, h2⟩ := hx
  exact ⟨s, c, q, h1, Nat.le_trans h2 (Nat.pow_le_pow_right (by omega) (by omega))⟩
theorem fb_i2d {E : Nat} (hE : E ≤ 900) {v : Int32} (h : v.toInt.natAbs ≤ 2 ^ E) : fb E (FP.i2d v) := by
  have hv := FP.Core.val64_i2d v
  simp only [FP.Core.ofInt, FP.Core.round] at hv
  obtain ⟨c', q', h5, h6⟩ := rr_bd (s := decide (v.toInt < 0)) (A := v.toInt.natAbs) (B := 1) (e := 0) (E := E) (by omega) hE (by omega) (by
    rw [Nat.one_mul, Nat.pow_add]
    exact Nat.mul_le_mul_right _ h)
  exact ⟨_, c', q', hv.trans h5, h6⟩
/-- constants, by their bits -/
def dmagOk (E : Nat) (x : UInt64) : Bool := match FP.Core.val64 x with
  | .fin _ c q => decide (c * 2 ^ (q + 1074).toNat ≤ 2 ^ (E + 1074))
  | _ => false
def ge1Ok (x : UInt64) : Bool := match FP.Core.val64 x with
  | .fin _ c q => decide (2 ^ 1074 ≤ c * 2 ^ (q + 1074).toNat)
  | _ => false
theorem fb_c {E : Nat} {x : UInt64} (h : dmagOk E x = true) : fb E x := by
  unfold dmagOk at h
  split at h
  next s c q hq => exact ⟨s, c, q, hq, of_decide_eq_true h⟩
  next => cases h
theorem ge1_c {x : UInt64} (h : ge1Ok x = true) : ge1 x := by
  unfold ge1Ok at h
  split at h
  next s c q hq => exact ⟨s, c, q, hq, of_decide_eq_true h⟩
  next => cases h
theorem ge1_100 : ge1 4636737291354636288 := ge1_c (by decide +kernel)
theorem ge1_1000 : ge1 4652007308841189376 := ge1_c (by decide +kernel)
theorem ge1_16384 : ge1 4670232813583204352 := ge1_c (by decide +kernel)
end
section
/-! the small questions -/
section S20
variable (g : Gp) (d : Nat) (I : MI) (D : MD)
theorem c_X_isWithin (v a b : Int32) : Con g SHc d 4 [.int v, .int a, .int b] I D (EqP (some (.int (bI (wi v a b)))) I D) := by
  refine Con.mk (LV := v_X_isWithin) k_X_isWithin (Nat.le_of_ble_eq_true rfl) (fun K hK => ?_)
  refine hK (0, 16, o_X_isWithin_0) (List.mem_of_getElem? (i := 0) rfl) _ _ _ _ ?_
  refine And.intro (fun c1 => ?_) (fun c1 => ?_)
  · exact And.intro (by decide) (And.intro (by simp [wi, bI, i32_nle.mpr c1]) (And.intro rfl rfl))
  refine And.intro (fun c2 => ?_) (fun c2 => ?_)
  · exact And.intro (by decide) (And.intro (by simp [wi, bI, i32_nle.mpr c2]) (And.intro rfl rfl))
  · exact And.intro (by decide) (And.intro (by simp [wi, bI, i32_nlt.mp c1, i32_nlt.mp c2]) (And.intro rfl rfl))
theorem c_M_in (v a b : Int32) : Con g SHc d 150 [.int v, .int a, .int b] I D (EqP (some (.int (bI (wi v a b)))) I D) := by
  refine Con.mk (LV := v_M_in) k_M_in (Nat.le_of_ble_eq_true rfl) (fun K hK => ?_)
  refine hK (0, 16, o_M_in_0) (List.mem_of_getElem? (i := 0) rfl) _ _ _ _ ?_
  refine And.intro (fun c1 => ?_) (fun c1 => ?_)
  · exact And.intro (by decide) (And.intro (by simp [wi, bI, i32_nle.mpr c1]) (And.intro rfl rfl))
  refine And.intro (fun c2 => ?_) (fun c2 => ?_)
  · exact And.intro (by decide) (And.intro (by simp [wi, bI, i32_nle.mpr c2]) (And.intro rfl rfl))
  · exact And.intro (by decide) (And.intro (by simp [wi, bI, i32_nlt.mp c1, i32_nlt.mp c2]) (And.intro rfl rfl))
/-- 0 <= v < n, n a positive constant -/
theorem wi_lt {v n m : Int32} (h : n.toInt = m.toInt + 1) : wi v 0 m = (decide (0 ≤ v) && decide (v < n)) := by
  unfold wi
  congr 1
  exact decide_eq_decide.mpr (by rw [i32_le, i32_lt]; omega)
theorem wi_0 {v m : Int32} (h : v < 0) : wi v 0 m = false := by simp [wi, i32_nle.mpr h]
theorem wi_1 {v n m : Int32} (h : n.toInt = m.toInt + 1) (h2 : n ≤ v) : wi v 0 m = false := by simp [wi_lt h, i32_nlt.mpr h2]
theorem wi_2 {v n m : Int32} (h : n.toInt = m.toInt + 1) (h1 : ¬ v < 0) (h2 : ¬ n ≤ v) : wi v 0 m = true := by simp [wi_lt h, i32_nlt.mp h1, i32_nle.mp h2]
theorem c_X_isMoment (v : Int32) : Con g SHc d 1 [.int v] I D (EqP (some (.int (bI (wi v 0 2591999)))) I D) := by
  refine Con.mk (LV := v_X_isMoment) k_X_isMoment (Nat.le_of_ble_eq_true rfl) (fun K hK => ?_)
  refine hK (0, 17, o_X_isMoment_0) (List.mem_of_getElem? (i := 0) rfl) _ _ _ _ ?_
  refine And.intro (fun c1 => ?_) (fun c1 => ?_)
  · exact And.intro (by decide) (And.intro (by rw [wi_0 c1]; rfl) (And.intro rfl rfl))
  refine And.intro (fun c2 => ?_) (fun c2 => ?_)
  · exact And.intro (by decide) (And.intro (by rw [wi_1 (by decide) c2]; rfl) (And.intro rfl rfl))
  · exact And.intro (by decide) (And.intro (by rw [wi_2 (by decide) c1 c2]; rfl) (And.intro rfl rfl))
theorem c_M_isMoment (v : Int32) : Con g SHc (d + 1) 149 [.int v] I D (EqP (some (.int (bI (wi v 0 2591999)))) I D) := by
  refine Con.mk (LV := v_M_isMoment) k_M_isMoment (Nat.le_of_ble_eq_true rfl) (fun K hK => ?_)
  refine hK (0, 8, o_M_isMoment_0) (List.mem_of_getElem? (i := 0) rfl) _ _ _ _ ?_
  refine call_eq (c_M_in g d I D v 0 2591999) ?_
  exact And.intro (bI_01 _) (And.intro rfl (And.intro rfl rfl))
theorem c_X_isDay (v : Int32) : Con g SHc d 9 [.int v] I D (EqP (some (.int (bI (wi v 0 29)))) I D) := by
  refine Con.mk (LV := v_X_isDay) k_X_isDay (Nat.le_of_ble_eq_true rfl) (fun K hK => ?_)
  refine hK (0, 16, o_X_isDay_0) (List.mem_of_getElem? (i := 0) rfl) _ _ _ _ ?_
  refine And.intro (fun c1 => ?_) (fun c1 => ?_)
  · exact And.intro (by decide) (And.intro (by rw [wi_0 c1]; rfl) (And.intro rfl rfl))
  refine And.intro (fun c2 => ?_) (fun c2 => ?_)
  · exact And.intro (by decide) (And.intro (by rw [wi_1 (by decide) c2]; rfl) (And.intro rfl rfl))
  · exact And.intro (by decide) (And.intro (by rw [wi_2 (by decide) c1 c2]; rfl) (And.intro rfl rfl))
theorem c_X_isMinute (v : Int32) : Con g SHc d 116 [.int v] I D (EqP (some (.int (bI (wi v 0 43199)))) I D) := by
  refine Con.mk (LV := v_X_isMinute) k_X_isMinute (Nat.le_of_ble_eq_true rfl) (fun K hK => ?_)
  refine hK (0, 17, o_X_isMinute_0) (List.mem_of_getElem? (i := 0) rfl) _ _ _ _ ?_
  refine And.intro (fun c1 => ?_) (fun c1 => ?_)
  · exact And.intro (by decide) (And.intro (by rw [wi_0 c1]; rfl) (And.intro rfl rfl))
  refine And.intro (fun c2 => ?_) (fun c2 => ?_)
  · exact And.intro (by decide) (And.intro (by rw [wi_1 (by decide) c2]; rfl) (And.intro rfl rfl))
  · exact And.intro (by decide) (And.intro (by rw [wi_2 (by decide) c1 c2]; rfl) (And.intro rfl rfl))
theorem c_M_isMinute (v : Int32) : Con g SHc (d + 1) 231 [.int v] I D (EqP (some (.int (bI (wi v 0 43199)))) I D) := by
  refine Con.mk (LV := v_M_isMinute) k_M_isMinute (Nat.le_of_ble_eq_true rfl) (fun K hK => ?_)
  refine hK (0, 9, o_M_isMinute_0) (List.mem_of_getElem? (i := 0) rfl) _ _ _ _ ?_
  refine call_eq (c_M_in g d I D v 0 43199) ?_
  exact And.intro (bI_01 _) (And.intro rfl (And.intro rfl rfl))
theorem c_X_isStation (v : Int32) : Con g SHc d 3 [.int v] I D (EqP (some (.int (bI (wi v 0 11)))) I D) := by
  refine Con.mk (LV := v_X_isStation) k_X_isStation (Nat.le_of_ble_eq_true rfl) (fun K hK => ?_)
  refine hK (0, 16, o_X_isStation_0) (List.mem_of_getElem? (i := 0) rfl) _ _ _ _ ?_
  refine And.intro (fun c1 => ?_) (fun c1 => ?_)
  · exact And.intro (by decide) (And.intro (by rw [wi_0 c1]; rfl) (And.intro rfl rfl))
  refine And.intro (fun c2 => ?_) (fun c2 => ?_)
  · exact And.intro (by decide) (And.intro (by rw [wi_1 (by decide) c2]; rfl) (And.intro rfl rfl))
  · exact And.intro (by decide) (And.intro (by rw [wi_2 (by decide) c1 c2]; rfl) (And.intro rfl rfl))
theorem c_M_isStation (v : Int32) : Con g SHc (d + 1) 152 [.int v] I D (EqP (some (.int (bI (wi v 0 11)))) I D) := by
  refine Con.mk (LV := v_M_isStation) k_M_isStation (Nat.le_of_ble_eq_true rfl) (fun K hK => ?_)
  refine hK (0, 8, o_M_isStation_0) (List.mem_of_getElem? (i := 0) rfl) _ _ _ _ ?_
  refine call_eq (c_M_in g d I D v 0 11) ?_
  exact And.intro (bI_01 _) (And.intro rfl (And.intro rfl rfl))
theorem c_X_isFleet (v : Int32) : Con g SHc d 93 [.int v] I D (EqP (some (.int (bI (wi v 0 3)))) I D) := by
  refine Con.mk (LV := v_X_isFleet) k_X_isFleet (Nat.le_of_ble_eq_true rfl) (fun K hK => ?_)
  refine hK (0, 15, o_X_isFleet_0) (List.mem_of_getElem? (i := 0) rfl) _ _ _ _ ?_
  refine And.intro (fun c1 => ?_) (fun c1 => ?_)
  · exact And.intro (by decide) (And.intro (by rw [wi_0 c1]; rfl) (And.intro rfl rfl))
  refine And.intro (fun c2 => ?_) (fun c2 => ?_)
  · exact And.intro (by decide) (And.intro (by rw [wi_1 (by decide) c2]; rfl) (And.intro rfl rfl))
  · exact And.intro (by decide) (And.intro (by rw [wi_2 (by decide) c1 c2]; rfl) (And.intro rfl rfl))
theorem c_M_isFleet (v : Int32) : Con g SHc (d + 1) 216 [.int v] I D (EqP (some (.int (bI (wi v 0 3)))) I D) := by
  refine Con.mk (LV := v_M_isFleet) k_M_isFleet (Nat.le_of_ble_eq_true rfl) (fun K hK => ?_)
  refine hK (0, 7, o_M_isFleet_0) (List.mem_of_getElem? (i := 0) rfl) _ _ _ _ ?_
  refine call_eq (c_M_in g d I D v 0 3) ?_
  exact And.intro (bI_01 _) (And.intro rfl (And.intro rfl rfl))
theorem c_X_isRoute (v : Int32) : Con g SHc d 106 [.int v] I D (EqP (some (.int (bI (wi v 0 5)))) I D) := by
  refine Con.mk (LV := v_X_isRoute) k_X_isRoute (Nat.le_of_ble_eq_true rfl) (fun K hK => ?_)
  refine hK (0, 16, o_X_isRoute_0) (List.mem_of_getElem? (i := 0) rfl) _ _ _ _ ?_
  refine And.intro (fun c1 => ?_) (fun c1 => ?_)
  · exact And.intro (by decide) (And.intro (by rw [wi_0 c1]; rfl) (And.intro rfl rfl))
  refine And.intro (fun c2 => ?_) (fun c2 => ?_)
  · exact And.intro (by decide) (And.intro (by rw [wi_1 (by decide) c2]; rfl) (And.intro rfl rfl))
  · exact And.intro (by decide) (And.intro (by rw [wi_2 (by decide) c1 c2]; rfl) (And.intro rfl rfl))
theorem c_M_isRoute (v : Int32) : Con g SHc (d + 1) 224 [.int v] I D (EqP (some (.int (bI (wi v 0 5)))) I D) := by
  refine Con.mk (LV := v_M_isRoute) k_M_isRoute (Nat.le_of_ble_eq_true rfl) (fun K hK => ?_)
  refine hK (0, 7, o_M_isRoute_0) (List.mem_of_getElem? (i := 0) rfl) _ _ _ _ ?_
  refine call_eq (c_M_in g d I D v 0 5) ?_
  exact And.intro (bI_01 _) (And.intro rfl (And.intro rfl rfl))
theorem c_X_isGauge (v : Int32) : Con g SHc d 24 [.ref 0, .int v] I D (EqP (some (.int (bI (decide (0 ≤ v) && decide (v < I 3 9))))) I D) := by
  refine Con.mk (LV := v_X_isGauge) k_X_isGauge (Nat.le_of_ble_eq_true rfl) (fun K hK => ?_)
  refine hK (0, 21, o_X_isGauge_0) (List.mem_of_getElem? (i := 0) rfl) _ _ _ _ ?_
  refine And.intro (fun c1 => ?_) (fun c1 => ?_)
  · exact And.intro (by decide) (And.intro (by simp [bI, i32_nle.mpr c1]) (And.intro rfl rfl))
  refine And.intro (fun c2 => ?_) (fun c2 => ?_)
  · exact And.intro (by decide) (And.intro (by simp [bI, i32_nlt.mpr c2]) (And.intro rfl rfl))
  · exact And.intro (by decide) (And.intro (by simp [bI, i32_nlt.mp c1, i32_nle.mp c2]) (And.intro rfl rfl))
theorem c_X_isShoal (v : Int32) : Con g SHc d 46 [.ref 0, .int v] I D (EqP (some (.int (bI (decide (0 ≤ v) && decide (v < I 4 8))))) I D) := by
  refine Con.mk (LV := v_X_isShoal) k_X_isShoal (Nat.le_of_ble_eq_true rfl) (fun K hK => ?_)
  refine hK (0, 21, o_X_isShoal_0) (List.mem_of_getElem? (i := 0) rfl) _ _ _ _ ?_
  refine And.intro (fun c1 => ?_) (fun c1 => ?_)
  · exact And.intro (by decide) (And.intro (by simp [bI, i32_nle.mpr c1]) (And.intro rfl rfl))
  refine And.intro (fun c2 => ?_) (fun c2 => ?_)
  · exact And.intro (by decide) (And.intro (by simp [bI, i32_nlt.mpr c2]) (And.intro rfl rfl))
  · exact And.intro (by decide) (And.intro (by simp [bI, i32_nlt.mp c1, i32_nle.mp c2]) (And.intro rfl rfl))
theorem c_X_isShip (v : Int32) : Con g SHc d 78 [.ref 0, .int v] I D (EqP (some (.int (bI (decide (0 ≤ v) && decide (v < I 6 9))))) I D) := by
  refine Con.mk (LV := v_X_isShip) k_X_isShip (Nat.le_of_ble_eq_true rfl) (fun K hK => ?_)
  refine hK (0, 21, o_X_isShip_0) (List.mem_of_getElem? (i := 0) rfl) _ _ _ _ ?_
  refine And.intro (fun c1 => ?_) (fun c1 => ?_)
  · exact And.intro (by decide) (And.intro (by simp [bI, i32_nle.mpr c1]) (And.intro rfl rfl))
  refine And.intro (fun c2 => ?_) (fun c2 => ?_)
  · exact And.intro (by decide) (And.intro (by simp [bI, i32_nlt.mpr c2]) (And.intro rfl rfl))
  · exact And.intro (by decide) (And.intro (by simp [bI, i32_nlt.mp c1, i32_nle.mp c2]) (And.intro rfl rfl))
theorem c_X_isPassage (v : Int32) : Con g SHc d 136 [.ref 0, .int v] I D (EqP (some (.int (bI (decide (0 ≤ v) && decide (v < I 11 13))))) I D) := by
  refine Con.mk (LV := v_X_isPassage) k_X_isPassage (Nat.le_of_ble_eq_true rfl) (fun K hK => ?_)
  refine hK (0, 21, o_X_isPassage_0) (List.mem_of_getElem? (i := 0) rfl) _ _ _ _ ?_
  refine And.intro (fun c1 => ?_) (fun c1 => ?_)
  · exact And.intro (by decide) (And.intro (by simp [bI, i32_nle.mpr c1]) (And.intro rfl rfl))
  refine And.intro (fun c2 => ?_) (fun c2 => ?_)
  · exact And.intro (by decide) (And.intro (by simp [bI, i32_nlt.mpr c2]) (And.intro rfl rfl))
  · exact And.intro (by decide) (And.intro (by simp [bI, i32_nlt.mp c1, i32_nle.mp c2]) (And.intro rfl rfl))
theorem c_X_isShipOrNothing (v : Int32) : Con g SHc d 76 [.ref 0, .int v] I D (EqP (some (.int (bI (decide (-1 ≤ v) && decide (v < I 6 9))))) I D) := by
  refine Con.mk (LV := v_X_isShipOrNothing) k_X_isShipOrNothing (Nat.le_of_ble_eq_true rfl) (fun K hK => ?_)
  refine hK (0, 22, o_X_isShipOrNothing_0) (List.mem_of_getElem? (i := 0) rfl) _ _ _ _ ?_
  refine And.intro (fun c1 => ?_) (fun c1 => ?_)
  · exact And.intro (by decide) (And.intro (by simp [bI, i32_nle.mpr c1]) (And.intro rfl rfl))
  refine And.intro (fun c2 => ?_) (fun c2 => ?_)
  · exact And.intro (by decide) (And.intro (by simp [bI, i32_nlt.mpr c2]) (And.intro rfl rfl))
  · exact And.intro (by decide) (And.intro (by simp [bI, i32_nlt.mp c1, i32_nle.mp c2]) (And.intro rfl rfl))
theorem c_X_isPast (v : Int32) : Con g SHc d 15 [.ref 0, .int v] I D (EqP (some (.int (bI (wi v 0 (I 0 11))))) I D) := by
  refine Con.mk (LV := v_X_isPast) k_X_isPast (Nat.le_of_ble_eq_true rfl) (fun K hK => ?_)
  refine hK (0, 18, o_X_isPast_0) (List.mem_of_getElem? (i := 0) rfl) _ _ _ _ ?_
  refine And.intro (fun c1 => ?_) (fun c1 => ?_)
  · exact And.intro (by decide) (And.intro (by simp [wi, bI, i32_nle.mpr c1]) (And.intro rfl rfl))
  refine And.intro (fun c2 => ?_) (fun c2 => ?_)
  · exact And.intro (by decide) (And.intro (by simp [wi, bI, i32_nle.mpr c2]) (And.intro rfl rfl))
  · exact And.intro (by decide) (And.intro (by simp [wi, bI, i32_nlt.mp c1, i32_nlt.mp c2]) (And.intro rfl rfl))
theorem c_X_isBed (v : Int32) : Con g SHc d 42 [.int v] I D (EqP (some (.int (bI (wi v (-1000) 5000)))) I D) := by
  refine Con.mk (LV := v_X_isBed) k_X_isBed (Nat.le_of_ble_eq_true rfl) (fun K hK => ?_)
  refine hK (0, 20, o_X_isBed_0) (List.mem_of_getElem? (i := 0) rfl) _ _ _ _ ?_
  refine And.intro (fun c1 => ?_) (fun c1 => ?_)
  · exact And.intro (by decide) (And.intro (by simp [wi, bI, i32_nle.mpr c1]) (And.intro rfl rfl))
  refine And.intro (fun c2 => ?_) (fun c2 => ?_)
  · exact And.intro (by decide) (And.intro (by simp [wi, bI, i32_nle.mpr c2]) (And.intro rfl rfl))
  · exact And.intro (by decide) (And.intro (by simp [wi, bI, i32_nlt.mp c1, i32_nlt.mp c2]) (And.intro rfl rfl))
theorem c_X_areSpent : Con g SHc d 16 [.ref 1] I D (EqP (some (.int (bI (decide (3000 ≤ I 1 0))))) I D) := by
  refine Con.mk (LV := v_Findings_areSpent) k_Findings_areSpent (Nat.le_of_ble_eq_true rfl) (fun K hK => ?_)
  refine hK (0, 16, o_Findings_areSpent_0) (List.mem_of_getElem? (i := 0) rfl) _ _ _ _ ?_
  refine And.intro (fun c1 => ?_) (fun c1 => ?_)
  · exact And.intro (by decide) (And.intro (by simp [bI, i32_nle.mpr c1]) (And.intro rfl rfl))
  · exact And.intro (by decide) (And.intro (by simp [bI, i32_nlt.mp c1]) (And.intro rfl rfl))
theorem c_M_isFull : Con g SHc d 161 [.ref 12] I D (EqP (some (.int (bI (decide (3000 ≤ I 12 2))))) I D) := by
  refine Con.mk (LV := v_M_isFull) k_M_isFull (Nat.le_of_ble_eq_true rfl) (fun K hK => ?_)
  refine hK (0, 16, o_M_isFull_0) (List.mem_of_getElem? (i := 0) rfl) _ _ _ _ ?_
  refine And.intro (fun c1 => ?_) (fun c1 => ?_)
  · exact And.intro (by decide) (And.intro (by simp [bI, i32_nle.mpr c1]) (And.intro rfl rfl))
  · exact And.intro (by decide) (And.intro (by simp [bI, i32_nlt.mp c1]) (And.intro rfl rfl))
/-- a FINDING is told -/
def tellX (f : Int32) (I : MI) : MI := up2 (up2 I 1 0 (I 1 0 + 1)) 1 1 f
def tellM (f : Int32) (I : MI) : MI := up2 (up2 I 12 1 f) 12 2 (I 12 2 + 1)
theorem c_X_tell (f : Int32) : Con g SHc d 18 [.ref 1, .int f] I D (EqP (some (.int (-10 - f))) (tellX f I) D) := by
  refine Con.mk (LV := v_Findings_tell) k_Findings_tell (Nat.le_of_ble_eq_true rfl) (fun K hK => ?_)
  refine hK (0, 20, o_Findings_tell_0) (List.mem_of_getElem? (i := 0) rfl) _ _ _ _ ?_
  exact And.intro rfl (And.intro rfl rfl)
theorem c_M_fails (f : Int32) : Con g SHc d 164 [.ref 12, .int f] I D (EqP (some (.int (-10 - f))) (tellM f I) D) := by
  refine Con.mk (LV := v_M_fails) k_M_fails (Nat.le_of_ble_eq_true rfl) (fun K hK => ?_)
  refine hK (0, 20, o_M_fails_0) (List.mem_of_getElem? (i := 0) rfl) _ _ _ _ ?_
  exact And.intro rfl (And.intro rfl rfl)
/-- the BITS of no number -/
def noF (b : Int32) : Bool := decide (2139095040 < b &&& 2147483647)
theorem c_X_isNoFloat (b : Int32) : Con g SHc d 26 [.int b] I D (EqP (some (.int (bI (noF b)))) I D) := by
  refine Con.mk (LV := v_X_isNoFloat) k_X_isNoFloat (Nat.le_of_ble_eq_true rfl) (fun K hK => ?_)
  refine hK (0, 17, o_X_isNoFloat_0) (List.mem_of_getElem? (i := 0) rfl) _ _ _ _ ?_
  refine And.intro (fun c1 => ?_) (fun c1 => ?_)
  · exact And.intro (by decide) (And.intro (by simp [noF, bI, i32_nlt.mpr c1]) (And.intro rfl rfl))
  · exact And.intro (by decide) (And.intro (by simp [noF, bI, i32_nle.mp c1]) (And.intro rfl rfl))
theorem c_M_isNoFloat (b : Int32) : Con g SHc d 170 [.int b] I D (EqP (some (.int (bI (noF b)))) I D) := by
  refine Con.mk (LV := v_M_isNoFloat) k_M_isNoFloat (Nat.le_of_ble_eq_true rfl) (fun K hK => ?_)
  refine hK (0, 17, o_M_isNoFloat_0) (List.mem_of_getElem? (i := 0) rfl) _ _ _ _ ?_
  refine And.intro (fun c1 => ?_) (fun c1 => ?_)
  · exact And.intro (by decide) (And.intro (by simp [noF, bI, i32_nlt.mpr c1]) (And.intro rfl rfl))
  · exact And.intro (by decide) (And.intro (by simp [noF, bI, i32_nle.mp c1]) (And.intro rfl rfl))
theorem c_X_isMark (b : Int32) : Con g SHc (d + 1) 107 [.int b] I D (EqP (some (.int (bI (decide (0 ≤ b) || noF b || decide (b &&& 2147483647 = 0))))) I D) := by
  refine Con.mk (LV := v_X_isMark) k_X_isMark (Nat.le_of_ble_eq_true rfl) (fun K hK => ?_)
  refine hK (0, 25, o_X_isMark_0) (List.mem_of_getElem? (i := 0) rfl) _ _ _ _ ?_
  refine And.intro (fun c1 => ?_) (fun c1 => ?_)
  · exact And.intro (by decide) (And.intro (by simp [bI, c1]) (And.intro rfl rfl))
  refine call_eq (c_X_isNoFloat g d I D b) ?_
  refine And.intro (fun c2 => ?_) (fun c2 => ?_)
  · exact And.intro (by decide) (And.intro (by simp [bI, bI_n0.mp c2]) (And.intro rfl rfl))
  refine And.intro (fun c3 => ?_) (fun c3 => ?_)
  · exact And.intro (by decide) (And.intro (by simp [bI, c1, bI_0.mp c2, c3]) (And.intro rfl rfl))
  · exact And.intro (by decide) (And.intro (by simp [bI, c3]) (And.intro rfl rfl))
theorem c_M_isKnowing (t k : Int32) : Con g SHc (d + 2) 160 [.ref 12, .int t, .int k] I D (EqP (some (.int (bI (wi t 0 2591999 && wi k 0 (I 12 0))))) I D) := by
  refine Con.mk (LV := v_M_isKnowing) k_M_isKnowing (Nat.le_of_ble_eq_true rfl) (fun K hK => ?_)
  refine hK (0, 25, o_M_isKnowing_0) (List.mem_of_getElem? (i := 0) rfl) _ _ _ _ ?_
  refine call_eq (c_M_isMoment g d I D t) ?_
  refine And.intro (fun c1 => ?_) (fun c1 => ?_)
  · exact And.intro (by decide) (And.intro (by simp [bI_0.mp c1, bI]) (And.intro rfl rfl))
  refine call_eq (c_M_in g (d + 1) I D k 0 (I 12 0)) ?_
  refine And.intro (fun c2 => ?_) (fun c2 => ?_)
  · exact And.intro (by decide) (And.intro (by simp [bI_0.mp c2, bI]) (And.intro rfl rfl))
  · exact And.intro (by decide) (And.intro (by simp [bI_n0.mp c1, bI_n0.mp c2, bI]) (And.intro rfl rfl))
theorem c_M_isGauge (v : Int32) : Con g SHc (d + 1) 168 [.ref 12, .int v] I D (EqP (some (.int (bI (wi v 0 (I 12 18 - 1))))) I D) := by
  refine Con.mk (LV := v_M_isGauge) k_M_isGauge (Nat.le_of_ble_eq_true rfl) (fun K hK => ?_)
  refine hK (0, 12, o_M_isGauge_0) (List.mem_of_getElem? (i := 0) rfl) _ _ _ _ ?_
  refine call_eq (c_M_in g d I D v 0 (I 12 18 - 1)) ?_
  exact And.intro (bI_01 _) (And.intro rfl (And.intro rfl rfl))
theorem c_M_isShoal (v : Int32) : Con g SHc (d + 1) 183 [.ref 12, .int v] I D (EqP (some (.int (bI (wi v 0 (I 12 33 - 1))))) I D) := by
  refine Con.mk (LV := v_M_isShoal) k_M_isShoal (Nat.le_of_ble_eq_true rfl) (fun K hK => ?_)
  refine hK (0, 12, o_M_isShoal_0) (List.mem_of_getElem? (i := 0) rfl) _ _ _ _ ?_
  refine call_eq (c_M_in g d I D v 0 (I 12 33 - 1)) ?_
  exact And.intro (bI_01 _) (And.intro rfl (And.intro rfl rfl))
theorem c_M_isShip (v : Int32) : Con g SHc (d + 1) 201 [.ref 12, .int v] I D (EqP (some (.int (bI (wi v 0 (I 12 49 - 1))))) I D) := by
  refine Con.mk (LV := v_M_isShip) k_M_isShip (Nat.le_of_ble_eq_true rfl) (fun K hK => ?_)
  refine hK (0, 12, o_M_isShip_0) (List.mem_of_getElem? (i := 0) rfl) _ _ _ _ ?_
  refine call_eq (c_M_in g d I D v 0 (I 12 49 - 1)) ?_
  exact And.intro (bI_01 _) (And.intro rfl (And.intro rfl rfl))
theorem c_M_isPassage (v : Int32) : Con g SHc (d + 1) 245 [.ref 12, .int v] I D (EqP (some (.int (bI (wi v 0 (I 12 78 - 1))))) I D) := by
  refine Con.mk (LV := v_M_isPassage) k_M_isPassage (Nat.le_of_ble_eq_true rfl) (fun K hK => ?_)
  refine hK (0, 12, o_M_isPassage_0) (List.mem_of_getElem? (i := 0) rfl) _ _ _ _ ?_
  refine call_eq (c_M_in g d I D v 0 (I 12 78 - 1)) ?_
  exact And.intro (bI_01 _) (And.intro rfl (And.intro rfl rfl))
theorem c_M_isPart (v : Int32) : Con g SHc (d + 2) 200 [.ref 12, .int v] I D (EqP (some (.int (bI (decide (v = -1) || wi v 0 (I 12 49 - 1))))) I D) := by
  refine Con.mk (LV := v_M_isPart) k_M_isPart (Nat.le_of_ble_eq_true rfl) (fun K hK => ?_)
  refine hK (0, 19, o_M_isPart_0) (List.mem_of_getElem? (i := 0) rfl) _ _ _ _ ?_
  refine And.intro (fun c1 => ?_) (fun c1 => ?_)
  · exact And.intro (by decide) (And.intro (by simp [bI, c1]) (And.intro rfl rfl))
  refine call_eq (c_M_isShip g d I D v) ?_
  refine And.intro (fun c2 => ?_) (fun c2 => ?_)
  · exact And.intro (by decide) (And.intro (by simp [bI, c1, bI_0.mp c2]) (And.intro rfl rfl))
  · exact And.intro (by decide) (And.intro (by simp [bI, bI_n0.mp c2]) (And.intro rfl rfl))
end S20
end
section
/-! COS: the same reals on both sides -/
abbrev cx (k : Int32) : UInt64 := FP.ddiv (FP.i2d k) 4670232813583204352
abbrev cy (k : Int32) : UInt64 := FP.dmul (cx k) (cx k)
abbrev cc1 (k : Int32) : UInt64 := FP.dmul (cy k) 4561617902785116854
abbrev cc2 (k : Int32) : UInt64 := FP.dsub 4581670710316679173 (cc1 k)
abbrev cc3 (k : Int32) : UInt64 := FP.dmul (cy k) (cc2 k)
abbrev cc4 (k : Int32) : UInt64 := FP.dsub 4598241323522939587 (cc3 k)
abbrev cc5 (k : Int32) : UInt64 := FP.dmul (cy k) (cc4 k)
abbrev cc6 (k : Int32) : UInt64 := FP.dsub 4608234912510526942 (cc5 k)
abbrev cc7 (k : Int32) : UInt64 := FP.dmul (cy k) (cc6 k)
abbrev cosC (k : Int32) : UInt64 := FP.dsub 4607182418800017408 (cc7 k)
def cosN (n : Int32) : UInt64 :=
  if 16384 < (if 32768 < n then 65536 - n else n) then FP.dneg (cosC (32768 - (if 32768 < n then 65536 - n else n))) else cosC (if 32768 < n then 65536 - n else n)
theorem i32_abs (k : Int32) : k.toInt.natAbs ≤ 2 ^ 31 := by
  have h1 := Int32.le_toInt k
  have h2 := Int32.toInt_lt k
  omega
theorem cosK (k : Int32) : fb 31 (cx k) ∧ fb 62 (cy k) ∧ fb 62 (cc1 k) ∧ fb 63 (cc2 k) ∧ fb 125 (cc3 k) ∧ fb 126 (cc4 k) ∧ fb 188 (cc5 k) ∧ fb 189 (cc6 k) ∧ fb 251 (cc7 k) ∧ fb 252 (cosC k) := by
  have h0 : fb 31 (cx k) := fb_div (by omega) (fb_i2d (by omega) (i32_abs k)) ge1_16384
  have h1 : fb 62 (cy k) := fb_mul (E := 31) (F := 31) (by omega) h0 h0
  have h2 : fb 62 (cc1 k) := fb_mul (E := 62) (F := 0) (by omega) h1 (fb_c (by decide +kernel))
  have h3 : fb 63 (cc2 k) := fb_sub (E := 62) (by omega) (fb_mono (E := 0) (by omega) (fb_c (by decide +kernel))) h2
  have h4 : fb 125 (cc3 k) := fb_mul (E := 62) (F := 63) (by omega) h1 h3
  have h5 : fb 126 (cc4 k) := fb_sub (E := 125) (by omega) (fb_mono (E := 0) (by omega) (fb_c (by decide +kernel))) h4
  have h6 : fb 188 (cc5 k) := fb_mul (E := 62) (F := 126) (by omega) h1 h5
  have h7 : fb 189 (cc6 k) := fb_sub (E := 188) (by omega) (fb_mono (E := 1) (by omega) (fb_c (by decide +kernel))) h6
  have h8 : fb 251 (cc7 k) := fb_mul (E := 62) (F := 189) (by omega) h1 h7
  have h9 : fb 252 (cosC k) := fb_sub (E := 251) (by omega) (fb_mono (E := 0) (by omega) (fb_c (by decide +kernel))) h8
  exact ⟨h0, h1, h2, h3, h4, h5, h6, h7, h8, h9⟩
theorem cosN_a {n : Int32} (h1 : n ≤ 32768) (h2 : n ≤ 16384) : cosN n = cosC n := by
  unfold cosN
  rw [if_neg (i32_nlt.mpr h1), if_neg (i32_nlt.mpr h2)]
theorem cosN_b {n : Int32} (h1 : n ≤ 32768) (h2 : ¬ n ≤ 16384) : cosN n = FP.dneg (cosC (32768 - n)) := by
  unfold cosN
  rw [if_neg (i32_nlt.mpr h1), if_pos (i32_nle.mp h2)]
theorem cosN_c {n : Int32} (h1 : ¬ n ≤ 32768) (h2 : 65536 - n ≤ 16384) : cosN n = cosC (65536 - n) := by
  unfold cosN
  rw [if_pos (i32_nle.mp h1), if_neg (i32_nlt.mpr h2)]
theorem cosN_d {n : Int32} (h1 : ¬ n ≤ 32768) (h2 : ¬ 65536 - n ≤ 16384) : cosN n = FP.dneg (cosC (32768 - (65536 - n))) := by
  unfold cosN
  rw [if_pos (i32_nle.mp h1), if_pos (i32_nle.mp h2)]
theorem cosN_fb (n : Int32) : fb 252 (cosN n) := by
  by_cases h1 : n ≤ 32768
  · by_cases h2 : n ≤ 16384
    · rw [cosN_a h1 h2]
      exact (cosK n).2.2.2.2.2.2.2.2.2
    · rw [cosN_b h1 h2]
      exact fb_neg (cosK (32768 - n)).2.2.2.2.2.2.2.2.2
  · by_cases h2 : 65536 - n ≤ 16384
    · rw [cosN_c h1 h2]
      exact (cosK (65536 - n)).2.2.2.2.2.2.2.2.2
    · rw [cosN_d h1 h2]
      exact fb_neg (cosK (32768 - (65536 - n))).2.2.2.2.2.2.2.2.2
section S21
variable (g : Gp) (d : Nat) (I : MI) (D : MD)
theorem c_X_cosine (a : Int64) : Con g SHc d 12 [.long a] I D (EqP (some (.double (cosN (a &&& 65535).toInt32))) I D) := by
  refine Con.mk (LV := v_Surveys_cosine) k_Surveys_cosine (Nat.le_of_ble_eq_true rfl) (fun K hK => ?_)
  refine hK (0, 102, o_Surveys_cosine_0) (List.mem_of_getElem? (i := 0) rfl) _ _ _ _ ?_
  refine And.intro (fun c1 => ?_) (fun c1 => ?_)
  · refine And.intro (fun c2 => ?_) (fun c2 => ?_)
    · refine And.intro (fb_n (cosK _).1) ?_
      refine And.intro (fb_n (cosK _).2.1) ?_
      refine And.intro (fb_n (cosK _).2.2.1) ?_
      refine And.intro (fb_n (cosK _).2.2.2.1) ?_
      refine And.intro (fb_n (cosK _).2.2.2.2.1) ?_
      refine And.intro (fb_n (cosK _).2.2.2.2.2.1) ?_
      refine And.intro (fb_n (cosK _).2.2.2.2.2.2.1) ?_
      refine And.intro (fb_n (cosK _).2.2.2.2.2.2.2.1) ?_
      refine And.intro (fb_n (cosK _).2.2.2.2.2.2.2.2.1) ?_
      refine And.intro (fb_n (cosK _).2.2.2.2.2.2.2.2.2) ?_
      refine And.intro (fun c3 => ?_) (fun c3 => ?_)
      · exact And.intro (by rw [cosN_a c1 c2]) (And.intro rfl rfl)
      · exact absurd c2 c3
    · refine And.intro (fb_n (cosK _).1) ?_
      refine And.intro (fb_n (cosK _).2.1) ?_
      refine And.intro (fb_n (cosK _).2.2.1) ?_
      refine And.intro (fb_n (cosK _).2.2.2.1) ?_
      refine And.intro (fb_n (cosK _).2.2.2.2.1) ?_
      refine And.intro (fb_n (cosK _).2.2.2.2.2.1) ?_
      refine And.intro (fb_n (cosK _).2.2.2.2.2.2.1) ?_
      refine And.intro (fb_n (cosK _).2.2.2.2.2.2.2.1) ?_
      refine And.intro (fb_n (cosK _).2.2.2.2.2.2.2.2.1) ?_
      refine And.intro (fb_n (cosK _).2.2.2.2.2.2.2.2.2) ?_
      refine And.intro (fun c3 => ?_) (fun c3 => ?_)
      · exact absurd c3 c2
      · exact And.intro (by rw [cosN_b c1 c2]) (And.intro rfl rfl)
  · refine And.intro (fun c2 => ?_) (fun c2 => ?_)
    · refine And.intro (fb_n (cosK _).1) ?_
      refine And.intro (fb_n (cosK _).2.1) ?_
      refine And.intro (fb_n (cosK _).2.2.1) ?_
      refine And.intro (fb_n (cosK _).2.2.2.1) ?_
      refine And.intro (fb_n (cosK _).2.2.2.2.1) ?_
      refine And.intro (fb_n (cosK _).2.2.2.2.2.1) ?_
      refine And.intro (fb_n (cosK _).2.2.2.2.2.2.1) ?_
      refine And.intro (fb_n (cosK _).2.2.2.2.2.2.2.1) ?_
      refine And.intro (fb_n (cosK _).2.2.2.2.2.2.2.2.1) ?_
      refine And.intro (fb_n (cosK _).2.2.2.2.2.2.2.2.2) ?_
      refine And.intro (fun c3 => ?_) (fun c3 => ?_)
      · exact And.intro (by rw [cosN_c c1 c2]) (And.intro rfl rfl)
      · exact absurd c2 c3
    · refine And.intro (fb_n (cosK _).1) ?_
      refine And.intro (fb_n (cosK _).2.1) ?_
      refine And.intro (fb_n (cosK _).2.2.1) ?_
      refine And.intro (fb_n (cosK _).2.2.2.1) ?_
      refine And.intro (fb_n (cosK _).2.2.2.2.1) ?_
      refine And.intro (fb_n (cosK _).2.2.2.2.2.1) ?_
      refine And.intro (fb_n (cosK _).2.2.2.2.2.2.1) ?_
      refine And.intro (fb_n (cosK _).2.2.2.2.2.2.2.1) ?_
      refine And.intro (fb_n (cosK _).2.2.2.2.2.2.2.2.1) ?_
      refine And.intro (fb_n (cosK _).2.2.2.2.2.2.2.2.2) ?_
      refine And.intro (fun c3 => ?_) (fun c3 => ?_)
      · exact absurd c3 c2
      · exact And.intro (by rw [cosN_d c1 c2]) (And.intro rfl rfl)
/-- a modulo 65536, not below 0 -/
def modN (a : Int32) : Int32 := if 0 ≤ a - a / 65536 * 65536 then a - a / 65536 * 65536 else a - a / 65536 * 65536 + 65536
theorem modN_p {a : Int32} (h : 0 ≤ a - a / 65536 * 65536) : modN a = a - a / 65536 * 65536 := if_pos h
theorem modN_n {a : Int32} (h : ¬ 0 ≤ a - a / 65536 * 65536) : modN a = a - a / 65536 * 65536 + 65536 := if_neg h
theorem c_M_cosine (a : Int32) : Con g SHc d 156 [.int a] I D (EqP (some (.double (cosN (modN a)))) I D) := by
  refine Con.mk (LV := v_M_cosine) k_M_cosine (Nat.le_of_ble_eq_true rfl) (fun K hK => ?_)
  refine hK (0, 111, o_M_cosine_0) (List.mem_of_getElem? (i := 0) rfl) _ _ _ _ ?_
  refine And.intro (by decide) ?_
  refine And.intro (fun c0 => ?_) (fun c0 => ?_)
  · refine And.intro (fun c1 => ?_) (fun c1 => ?_)
    · refine And.intro (fun c2 => ?_) (fun c2 => ?_)
      · refine And.intro (fb_n (cosK _).1) ?_
        refine And.intro (fb_n (cosK _).2.1) ?_
        refine And.intro (fb_n (cosK _).2.2.1) ?_
        refine And.intro (fb_n (cosK _).2.2.2.1) ?_
        refine And.intro (fb_n (cosK _).2.2.2.2.1) ?_
        refine And.intro (fb_n (cosK _).2.2.2.2.2.1) ?_
        refine And.intro (fb_n (cosK _).2.2.2.2.2.2.1) ?_
        refine And.intro (fb_n (cosK _).2.2.2.2.2.2.2.1) ?_
        refine And.intro (fb_n (cosK _).2.2.2.2.2.2.2.2.1) ?_
        refine And.intro (fb_n (cosK _).2.2.2.2.2.2.2.2.2) ?_
        refine And.intro (fun c3 => ?_) (fun c3 => ?_)
        · exact And.intro (by rw [modN_p c0, cosN_a c1 c2]) (And.intro rfl rfl)
        · exact absurd c2 c3
      · refine And.intro (fb_n (cosK _).1) ?_
        refine And.intro (fb_n (cosK _).2.1) ?_
        refine And.intro (fb_n (cosK _).2.2.1) ?_
        refine And.intro (fb_n (cosK _).2.2.2.1) ?_
        refine And.intro (fb_n (cosK _).2.2.2.2.1) ?_
        refine And.intro (fb_n (cosK _).2.2.2.2.2.1) ?_
        refine And.intro (fb_n (cosK _).2.2.2.2.2.2.1) ?_
        refine And.intro (fb_n (cosK _).2.2.2.2.2.2.2.1) ?_
        refine And.intro (fb_n (cosK _).2.2.2.2.2.2.2.2.1) ?_
        refine And.intro (fb_n (cosK _).2.2.2.2.2.2.2.2.2) ?_
        refine And.intro (fun c3 => ?_) (fun c3 => ?_)
        · exact absurd c3 c2
        · exact And.intro (by rw [modN_p c0, cosN_b c1 c2]) (And.intro rfl rfl)
    · refine And.intro (fun c2 => ?_) (fun c2 => ?_)
      · refine And.intro (fb_n (cosK _).1) ?_
        refine And.intro (fb_n (cosK _).2.1) ?_
        refine And.intro (fb_n (cosK _).2.2.1) ?_
        refine And.intro (fb_n (cosK _).2.2.2.1) ?_
        refine And.intro (fb_n (cosK _).2.2.2.2.1) ?_
        refine And.intro (fb_n (cosK _).2.2.2.2.2.1) ?_
        refine And.intro (fb_n (cosK _).2.2.2.2.2.2.1) ?_
        refine And.intro (fb_n (cosK _).2.2.2.2.2.2.2.1) ?_
        refine And.intro (fb_n (cosK _).2.2.2.2.2.2.2.2.1) ?_
        refine And.intro (fb_n (cosK _).2.2.2.2.2.2.2.2.2) ?_
        refine And.intro (fun c3 => ?_) (fun c3 => ?_)
        · exact And.intro (by rw [modN_p c0, cosN_c c1 c2]) (And.intro rfl rfl)
        · exact absurd c2 c3
      · refine And.intro (fb_n (cosK _).1) ?_
        refine And.intro (fb_n (cosK _).2.1) ?_
        refine And.intro (fb_n (cosK _).2.2.1) ?_
        refine And.intro (fb_n (cosK _).2.2.2.1) ?_
        refine And.intro (fb_n (cosK _).2.2.2.2.1) ?_
        refine And.intro (fb_n (cosK _).2.2.2.2.2.1) ?_
        refine And.intro (fb_n (cosK _).2.2.2.2.2.2.1) ?_
        refine And.intro (fb_n (cosK _).2.2.2.2.2.2.2.1) ?_
        refine And.intro (fb_n (cosK _).2.2.2.2.2.2.2.2.1) ?_
        refine And.intro (fb_n (cosK _).2.2.2.2.2.2.2.2.2) ?_
        refine And.intro (fun c3 => ?_) (fun c3 => ?_)
        · exact absurd c3 c2
        · exact And.intro (by rw [modN_p c0, cosN_d c1 c2]) (And.intro rfl rfl)
  · refine And.intro (fun c1 => ?_) (fun c1 => ?_)
    · refine And.intro (fun c2 => ?_) (fun c2 => ?_)
      · refine And.intro (fb_n (cosK _).1) ?_
        refine And.intro (fb_n (cosK _).2.1) ?_
        refine And.intro (fb_n (cosK _).2.2.1) ?_
        refine And.intro (fb_n (cosK _).2.2.2.1) ?_
        refine And.intro (fb_n (cosK _).2.2.2.2.1) ?_
        refine And.intro (fb_n (cosK _).2.2.2.2.2.1) ?_
        refine And.intro (fb_n (cosK _).2.2.2.2.2.2.1) ?_
        refine And.intro (fb_n (cosK _).2.2.2.2.2.2.2.1) ?_
        refine And.intro (fb_n (cosK _).2.2.2.2.2.2.2.2.1) ?_
        refine And.intro (fb_n (cosK _).2.2.2.2.2.2.2.2.2) ?_
        refine And.intro (fun c3 => ?_) (fun c3 => ?_)
        · exact And.intro (by rw [modN_n c0, cosN_a c1 c2]) (And.intro rfl rfl)
        · exact absurd c2 c3
      · refine And.intro (fb_n (cosK _).1) ?_
        refine And.intro (fb_n (cosK _).2.1) ?_
        refine And.intro (fb_n (cosK _).2.2.1) ?_
        refine And.intro (fb_n (cosK _).2.2.2.1) ?_
        refine And.intro (fb_n (cosK _).2.2.2.2.1) ?_
        refine And.intro (fb_n (cosK _).2.2.2.2.2.1) ?_
        refine And.intro (fb_n (cosK _).2.2.2.2.2.2.1) ?_
        refine And.intro (fb_n (cosK _).2.2.2.2.2.2.2.1) ?_
        refine And.intro (fb_n (cosK _).2.2.2.2.2.2.2.2.1) ?_
        refine And.intro (fb_n (cosK _).2.2.2.2.2.2.2.2.2) ?_
        refine And.intro (fun c3 => ?_) (fun c3 => ?_)
        · exact absurd c3 c2
        · exact And.intro (by rw [modN_n c0, cosN_b c1 c2]) (And.intro rfl rfl)
    · refine And.intro (fun c2 => ?_) (fun c2 => ?_)
      · refine And.intro (fb_n (cosK _).1) ?_
        refine And.intro (fb_n (cosK _).2.1) ?_
        refine And.intro (fb_n (cosK _).2.2.1) ?_
        refine And.intro (fb_n (cosK _).2.2.2.1) ?_
        refine And.intro (fb_n (cosK _).2.2.2.2.1) ?_
        refine And.intro (fb_n (cosK _).2.2.2.2.2.1) ?_
        refine And.intro (fb_n (cosK _).2.2.2.2.2.2.1) ?_
        refine And.intro (fb_n (cosK _).2.2.2.2.2.2.2.1) ?_
        refine And.intro (fb_n (cosK _).2.2.2.2.2.2.2.2.1) ?_
        refine And.intro (fb_n (cosK _).2.2.2.2.2.2.2.2.2) ?_
        refine And.intro (fun c3 => ?_) (fun c3 => ?_)
        · exact And.intro (by rw [modN_n c0, cosN_c c1 c2]) (And.intro rfl rfl)
        · exact absurd c2 c3
      · refine And.intro (fb_n (cosK _).1) ?_
        refine And.intro (fb_n (cosK _).2.1) ?_
        refine And.intro (fb_n (cosK _).2.2.1) ?_
        refine And.intro (fb_n (cosK _).2.2.2.1) ?_
        refine And.intro (fb_n (cosK _).2.2.2.2.1) ?_
        refine And.intro (fb_n (cosK _).2.2.2.2.2.1) ?_
        refine And.intro (fb_n (cosK _).2.2.2.2.2.2.1) ?_
        refine And.intro (fb_n (cosK _).2.2.2.2.2.2.2.1) ?_
        refine And.intro (fb_n (cosK _).2.2.2.2.2.2.2.2.1) ?_
        refine And.intro (fb_n (cosK _).2.2.2.2.2.2.2.2.2) ?_
        refine And.intro (fun c3 => ?_) (fun c3 => ?_)
        · exact absurd c3 c2
        · exact And.intro (by rw [modN_n c0, cosN_d c1 c2]) (And.intro rfl rfl)
end S21
end
section
/-! which SURVEY or BED is in FORCE: a row of days, a row of when told, a row of whose -/
def ifF (st dy si : Nat → Int32) (s t k : Int32) : Nat → Int32
  | 0 => -1
  | n + 1 => if (st n = s ∧ si n ≤ k ∧ dy n ≤ t / 86400) ∧ (ifF st dy si s t k n = -1 ∨ dy (ifF st dy si s t k n).toNatClampNeg ≤ dy n) then nI n else ifF st dy si s t k n
theorem ifF_in (st dy si : Nat → Int32) (s t k : Int32) : ∀ n, ifF st dy si s t k n = -1 ∨ ∃ j, j < n ∧ ifF st dy si s t k n = nI j
  | 0 => Or.inl rfl
  | n + 1 => by
    unfold ifF
    split
    · exact Or.inr ⟨n, by omega, rfl⟩
    · rcases ifF_in st dy si s t k n with h | ⟨j, h1, h2⟩
      · exact Or.inl h
      · exact Or.inr ⟨j, by omega, h2⟩
theorem inn_nI {i n : Nat} (h : i < n) (hn : n < 2 ^ 31) : inn (nI i) n := by
  unfold inn
  rw [nI_toInt (by omega)]
  omega
theorem ifF_n {st dy si : Nat → Int32} {s t k : Int32} {n : Nat} (h : ¬ ((st n = s ∧ si n ≤ k ∧ dy n ≤ t / 86400) ∧ (ifF st dy si s t k n = -1 ∨ dy (ifF st dy si s t k n).toNatClampNeg ≤ dy n))) : ifF st dy si s t k (n + 1) = ifF st dy si s t k n := if_neg h
theorem ifF_y {st dy si : Nat → Int32} {s t k : Int32} {n : Nat} (h : (st n = s ∧ si n ≤ k ∧ dy n ≤ t / 86400) ∧ (ifF st dy si s t k n = -1 ∨ dy (ifF st dy si s t k n).toNatClampNeg ≤ dy n)) : ifF st dy si s t k (n + 1) = nI n := if_pos h
section S22
variable (g : Gp) (d : Nat) (I : MI) (D : MD)
theorem c_X_inForce (s t k : Int32) (n : Nat) (hn : n ≤ 60) (hI : I 2 9 = nI n) : Con g SHc d 17 [.ref 2, .int s, .int t, .int k] I D (EqP (some (.int (ifF (I 16) (I 17) (I 18) s t k n))) I D) := by
  refine Con.mk (LV := v_Surveys_inForce) k_Surveys_inForce (Nat.le_of_ble_eq_true rfl) (fun K hK => ?_)
  have loop : ∀ r i, i + r = n → K 6 [(0, .ref 2), (1, .int s), (2, .int t), (3, .int k), (4, .int (ifF (I 16) (I 17) (I 18) s t k i)), (5, .int (nI i))] [] I D := by
    intro r
    induction r with
    | zero =>
      intro i hi
      have hi : i = n := by omega
      subst hi
      refine hK (6, 99, o_Surveys_inForce_1) (List.mem_of_getElem? (i := 1) rfl) _ _ _ _ ?_
      refine And.intro (fun c => ?_) (fun c => ?_)
      · exact And.intro rfl (And.intro rfl rfl)
      · exact absurd (by rw [hI]; exact nI_le (Nat.le_refl _) (by omega)) c
    | succ r ih =>
      intro i hi
      have h60 : inn (nI i) 60 := inn_nI (by omega) (by decide)
      have hcl : (nI i).toNatClampNeg = i := nI_clamp (by omega)
      have go := ih (i + 1) (by omega)
      rw [nI_succ] at go
      have bd : ¬ ifF (I 16) (I 17) (I 18) s t k i = -1 → inn (ifF (I 16) (I 17) (I 18) s t k i) 60 := by
        intro h
        rcases ifF_in (I 16) (I 17) (I 18) s t k i with h1 | ⟨j, h1, h2⟩
        · exact absurd h1 h
        · rw [h2]
          exact inn_nI (by omega) (by decide)
      refine hK (6, 99, o_Surveys_inForce_1) (List.mem_of_getElem? (i := 1) rfl) _ _ _ _ ?_
      refine And.intro (fun c => ?_) (fun c => ?_)
      · rw [hI] at c
        exact absurd c (nI_ge (by omega) (by omega))
      refine And.intro (h60) ?_
      refine And.intro (fun c1 => ?_) (fun c1 => ?_)
      · rw [hcl] at c1
        rw [ifF_n (fun h => c1 h.1.1)] at go
        exact And.intro (fun _ => go) (fun h => absurd rfl h)
      refine And.intro (h60) ?_
      refine And.intro (fun c2 => ?_) (fun c2 => ?_)
      · rw [hcl] at c2
        rw [ifF_n (fun h => absurd h.1.2.1 (i32_nle.mpr c2))] at go
        exact And.intro (fun _ => go) (fun h => absurd rfl h)
      refine And.intro (h60) ?_
      refine And.intro (by decide) ?_
      refine And.intro (fun c3 => ?_) (fun c3 => ?_)
      · rw [hcl] at c3
        rw [ifF_n (fun h => absurd h.1.2.2 (i32_nle.mpr c3))] at go
        exact And.intro (fun _ => go) (fun h => absurd rfl h)
      rw [hcl] at c1 c2 c3
      refine And.intro (fun h => absurd h (by decide)) (fun _ => ?_)
      refine And.intro (fun c4 => ?_) (fun c4 => ?_)
      · rw [ifF_y ⟨⟨c1, i32_nlt.mp c2, i32_nlt.mp c3⟩, Or.inl c4⟩] at go
        exact go
      refine And.intro (h60) ?_
      refine And.intro (bd c4) ?_
      refine And.intro (fun c5 => ?_) (fun c5 => ?_)
      · rw [hcl] at c5
        rw [ifF_n (fun h => h.2.elim (fun z => c4 z) (fun z => absurd z (i32_nle.mpr c5)))] at go
        exact go
      · rw [hcl] at c5
        rw [ifF_y ⟨⟨c1, i32_nlt.mp c2, i32_nlt.mp c3⟩, Or.inr (i32_nlt.mp c5)⟩] at go
        exact go
  refine hK (0, 6, o_Surveys_inForce_0) (List.mem_of_getElem? (i := 0) rfl) _ _ _ _ ?_
  exact loop n 0 (by omega)
theorem c_M_inForce (s t k : Int32) (n : Nat) (hn : n ≤ 60) (hI : I 12 8 = nI n) : Con g SHc d 163 [.ref 12, .int s, .int t, .int k] I D (EqP (some (.int (ifF (I 75) (I 76) (I 77) s t k n))) I D) := by
  refine Con.mk (LV := v_M_inForce) k_M_inForce (Nat.le_of_ble_eq_true rfl) (fun K hK => ?_)
  have loop : ∀ r i, i + r = n → K 6 [(0, .ref 12), (1, .int s), (2, .int t), (3, .int k), (4, .int (ifF (I 75) (I 76) (I 77) s t k i)), (5, .int (nI i))] [] I D := by
    intro r
    induction r with
    | zero =>
      intro i hi
      have hi : i = n := by omega
      subst hi
      refine hK (6, 100, o_M_inForce_1) (List.mem_of_getElem? (i := 1) rfl) _ _ _ _ ?_
      refine And.intro (fun c => ?_) (fun c => ?_)
      · exact And.intro rfl (And.intro rfl rfl)
      · exact absurd (by rw [hI]; exact nI_le (Nat.le_refl _) (by omega)) c
    | succ r ih =>
      intro i hi
      have h60 : inn (nI i) 60 := inn_nI (by omega) (by decide)
      have hcl : (nI i).toNatClampNeg = i := nI_clamp (by omega)
      have go := ih (i + 1) (by omega)
      rw [nI_succ] at go
      have bd : ¬ ifF (I 75) (I 76) (I 77) s t k i = -1 → inn (ifF (I 75) (I 76) (I 77) s t k i) 60 := by
        intro h
        rcases ifF_in (I 75) (I 76) (I 77) s t k i with h1 | ⟨j, h1, h2⟩
        · exact absurd h1 h
        · rw [h2]
          exact inn_nI (by omega) (by decide)
      refine hK (6, 100, o_M_inForce_1) (List.mem_of_getElem? (i := 1) rfl) _ _ _ _ ?_
      refine And.intro (fun c => ?_) (fun c => ?_)
      · rw [hI] at c
        exact absurd c (nI_ge (by omega) (by omega))
      refine And.intro (h60) ?_
      refine And.intro (fun c1 => ?_) (fun c1 => ?_)
      · rw [hcl] at c1
        rw [ifF_n (fun h => c1 h.1.1)] at go
        exact And.intro (fun _ => go) (fun h => absurd rfl h)
      refine And.intro (h60) ?_
      refine And.intro (fun c2 => ?_) (fun c2 => ?_)
      · rw [hcl] at c2
        rw [ifF_n (fun h => absurd h.1.2.1 (i32_nle.mpr c2))] at go
        exact And.intro (fun _ => go) (fun h => absurd rfl h)
      refine And.intro (h60) ?_
      refine And.intro (by decide) ?_
      refine And.intro (fun c3 => ?_) (fun c3 => ?_)
      · rw [hcl] at c3
        rw [ifF_n (fun h => absurd h.1.2.2 (i32_nle.mpr c3))] at go
        exact And.intro (fun _ => go) (fun h => absurd rfl h)
      rw [hcl] at c1 c2 c3
      refine And.intro (fun h => absurd h (by decide)) (fun _ => ?_)
      refine And.intro (fun c4 => ?_) (fun c4 => ?_)
      · rw [ifF_y ⟨⟨c1, i32_nlt.mp c2, i32_nlt.mp c3⟩, Or.inl c4⟩] at go
        exact go
      refine And.intro (h60) ?_
      refine And.intro (bd c4) ?_
      refine And.intro (fun c5 => ?_) (fun c5 => ?_)
      · rw [hcl] at c5
        rw [ifF_n (fun h => h.2.elim (fun z => c4 z) (fun z => absurd z (i32_nle.mpr c5)))] at go
        exact go
      · rw [hcl] at c5
        rw [ifF_y ⟨⟨c1, i32_nlt.mp c2, i32_nlt.mp c3⟩, Or.inr (i32_nlt.mp c5)⟩] at go
        exact go
  refine hK (0, 6, o_M_inForce_0) (List.mem_of_getElem? (i := 0) rfl) _ _ _ _ ?_
  exact loop n 0 (by omega)
end S22
end
section
/-! HEIGHT: a mean and waves -/
def hG (mean : Int32) (sz an : Nat → Int32) : Nat → UInt64
  | 0 => FP.ddiv (FP.i2d mean) 4636737291354636288
  | w + 1 => FP.dadd (hG mean sz an w) (FP.dmul (FP.ddiv (FP.i2d (sz w)) 4652007308841189376) (cosN (an w)))
def angX (sp t ph : Int32) : Int32 := ((ph.toInt64 + sp.toInt64 * t.toInt64 / 1000) &&& 65535).toInt32
def angM (sp t ph : Int32) : Int32 := modN (ph + (sp.toInt64 * t.toInt64 / 1000).toInt32)
theorem sz_fb (v : Int32) : fb 31 (FP.ddiv (FP.i2d v) 4652007308841189376) := fb_div (by omega) (fb_i2d (by omega) (i32_abs v)) ge1_1000
theorem mn_fb (v : Int32) : fb 31 (FP.ddiv (FP.i2d v) 4636737291354636288) := fb_div (by omega) (fb_i2d (by omega) (i32_abs v)) ge1_100
theorem wv_fb (v n : Int32) : fb 283 (FP.dmul (FP.ddiv (FP.i2d v) 4652007308841189376) (cosN n)) := fb_mul (E := 31) (F := 252) (by omega) (sz_fb v) (cosN_fb n)
theorem hG_fb (mean : Int32) (sz an : Nat → Int32) : ∀ w, w ≤ 500 → fb (283 + w) (hG mean sz an w)
  | 0, _ => fb_mono (by omega) (mn_fb mean)
  | w + 1, h => fb_add (E := 283 + w) (by omega) (hG_fb mean sz an w (by omega)) (fb_mono (by omega) (wv_fb _ _))
def hgtX (I : MI) (n : Nat) (s t k : Int32) : UInt64 :=
  if ifF (I 16) (I 17) (I 18) s t k n = -1 then 0 else
    hG (I 19 (ifF (I 16) (I 17) (I 18) s t k n).toNatClampNeg)
      (fun w => I 21 (24 * (ifF (I 16) (I 17) (I 18) s t k n).toNatClampNeg + 3 * w))
      (fun w => angX (I 21 (24 * (ifF (I 16) (I 17) (I 18) s t k n).toNatClampNeg + 3 * w + 1)) t (I 21 (24 * (ifF (I 16) (I 17) (I 18) s t k n).toNatClampNeg + 3 * w + 2)))
      (I 20 (ifF (I 16) (I 17) (I 18) s t k n).toNatClampNeg).toNatClampNeg
def hgtM (I : MI) (n : Nat) (s t k : Int32) : UInt64 :=
    hG (I 78 (ifF (I 75) (I 76) (I 77) s t k n).toNatClampNeg)
      (fun w => I 80 (8 * (ifF (I 75) (I 76) (I 77) s t k n).toNatClampNeg + w))
      (fun w => angM (I 81 (8 * (ifF (I 75) (I 76) (I 77) s t k n).toNatClampNeg + w)) t (I 82 (8 * (ifF (I 75) (I 76) (I 77) s t k n).toNatClampNeg + w)))
      (I 79 (ifF (I 75) (I 76) (I 77) s t k n).toNatClampNeg).toNatClampNeg
theorem nI_neg1 {j : Nat} (h : j < 2 ^ 31) : ¬ nI j = -1 := by
  intro q
  have a := nI_toInt h
  rw [q] at a
  have : ((-1 : Int32)).toInt = -1 := by decide
  omega
/-- a * i + b * j as the machine reckons it -/
theorem nI_lin (a i b j : Nat) : nI i * nI a + nI j * nI b = nI (a * i + b * j) := by
  rw [pk_mul, pk_mul, nI_add]
  congr 1
  rw [Nat.mul_comm i a, Nat.mul_comm j b]
theorem nI_lin' (a i j : Nat) : nI a * nI i + nI j = nI (a * i + j) := by
  rw [pk_mul, nI_add]
section S23
variable (g : Gp) (d : Nat) (I : MI) (D : MD)
set_option maxHeartbeats 1000000 in
theorem c_X_heightAt (s t k : Int32) (n : Nat) (hn : n ≤ 60) (hI : I 2 9 = nI n) (hw : ∀ i, i < n → ∃ w, w ≤ 8 ∧ I 20 i = nI w) : Con g SHc (d + 1) 19 [.ref 2, .int s, .int t, .int k] I D (EqP (some (.double (hgtX I n s t k))) I D) := by
  refine Con.mk (LV := v_Surveys_heightAt) k_Surveys_heightAt (Nat.le_of_ble_eq_true rfl) (fun K hK => ?_)
  refine hK (0, 34, o_Surveys_heightAt_0) (List.mem_of_getElem? (i := 0) rfl) _ _ _ _ ?_
  refine call_eq (c_X_inForce g d I D s t k n hn hI) ?_
  rcases ifF_in (I 16) (I 17) (I 18) s t k n with h | ⟨j, hj, h⟩
  · rw [h]
    refine And.intro (fun c => ?_) (fun c => ?_)
    · exact absurd rfl c
    · exact And.intro (by unfold hgtX; rw [if_pos h]) (And.intro rfl rfl)
  · have hj31 : j < 2 ^ 31 := by omega
    have hjc : (nI j).toNatClampNeg = j := nI_clamp hj31
    obtain ⟨w, hw8, hwe⟩ := hw j hj
    have e0 : hgtX I n s t k = hG (I 19 j) (fun w => I 21 (24 * j + 3 * w)) (fun w => angX (I 21 (24 * j + 3 * w + 1)) t (I 21 (24 * j + 3 * w + 2))) w := by
      unfold hgtX
      rw [h, if_neg (nI_neg1 hj31), hjc, hwe, nI_clamp (by omega)]
    rw [e0] at hK
    rw [h]
    have loop : ∀ r i, i + r = w → K 34 [(0, .ref 2), (2, .int t), (4, .int (nI j)), (5, .double (hG (I 19 j) (fun w => I 21 (24 * j + 3 * w)) (fun w => angX (I 21 (24 * j + 3 * w + 1)) t (I 21 (24 * j + 3 * w + 2))) i)), (7, .int (nI i))] [] I D := by
      intro r
      induction r with
      | zero =>
        intro i hi
        have hi : i = w := by omega
        subst hi
        refine hK (34, 120, o_Surveys_heightAt_1) (List.mem_of_getElem? (i := 1) rfl) _ _ _ _ ?_
        refine And.intro (inn_nI (by omega) (by decide)) ?_
        refine And.intro (fun c => ?_) (fun c => ?_)
        · exact And.intro rfl (And.intro rfl rfl)
        · rw [hjc, hwe] at c
          exact absurd (nI_le (Nat.le_refl _) (by omega)) c
      | succ r ih =>
        intro i hi
        have go := ih (i + 1) (by omega)
        rw [nI_succ] at go
        refine hK (34, 120, o_Surveys_heightAt_1) (List.mem_of_getElem? (i := 1) rfl) _ _ _ _ ?_
        refine And.intro (inn_nI (by omega) (by decide)) ?_
        refine And.intro (fun c => ?_) (fun c => ?_)
        · rw [hjc, hwe] at c
          exact absurd c (nI_ge (by omega) (by omega))
        have e1 : nI j * 24 + nI i * 3 = nI (24 * j + 3 * i) := nI_lin 24 j 3 i
        have e2 : nI j * 24 + nI i * 3 + 2 = nI (24 * j + 3 * i + 2) := by rw [e1]; exact nI_add _ 2
        have e3 : nI j * 24 + nI i * 3 + 1 = nI (24 * j + 3 * i + 1) := by rw [e1]; exact nI_add _ 1
        refine And.intro (by rw [e2]; exact inn_nI (by omega) (by decide)) ?_
        refine And.intro (by rw [e3]; exact inn_nI (by omega) (by decide)) ?_
        refine And.intro (by decide) ?_
        refine And.intro (by rw [e1]; exact inn_nI (by omega) (by decide)) ?_
        refine And.intro (fb_n (sz_fb _)) ?_
        refine call_eq (c_X_cosine g d I D _) ?_
        refine And.intro (fb_n (wv_fb _ _)) ?_
        rw [e2, e3, e1, nI_clamp (by omega), nI_clamp (by omega), nI_clamp (by omega)]
        refine And.intro (fb_n (fb_add (E := 283 + i) (by omega) (hG_fb _ _ _ _ (by omega)) (fb_mono (by omega) (wv_fb _ _)))) ?_
        exact go
    refine And.intro (fun c => ?_) (fun c => ?_)
    · refine And.intro (inn_nI (by omega) (by decide)) ?_
      refine And.intro (fb_n (mn_fb _)) ?_
      rw [hjc]
      exact loop w 0 (by omega)
    · exact absurd c (nI_neg1 hj31)
set_option maxHeartbeats 1000000 in
/-- reference: 'level' becomes the HEIGHT, where there is one -/
theorem c_M_rises (s t k : Int32) (n : Nat) (hn : n ≤ 60) (hI : I 12 8 = nI n) (hw : ∀ i, i < n → ∃ w, w ≤ 8 ∧ I 79 i = nI w) : Con g SHc (d + 1) 162 [.ref 12, .int s, .int t, .int k] I D
    (EqP (some (.int (bI (!decide (ifF (I 75) (I 76) (I 77) s t k n = -1))))) I (if ifF (I 75) (I 76) (I 77) s t k n = -1 then D else up2 D 12 17 (hgtM I n s t k))) := by
  refine Con.mk (LV := v_M_rises) k_M_rises (Nat.le_of_ble_eq_true rfl) (fun K hK => ?_)
  refine hK (0, 38, o_M_rises_0) (List.mem_of_getElem? (i := 0) rfl) _ _ _ _ ?_
  refine call_eq (c_M_inForce g d I D s t k n hn hI) ?_
  rcases ifF_in (I 75) (I 76) (I 77) s t k n with h | ⟨j, hj, h⟩
  · rw [h]
    refine And.intro (fun c => ?_) (fun c => ?_)
    · exact absurd rfl c
    · exact And.intro (by decide) (And.intro rfl (And.intro rfl (by rw [if_pos rfl])))
  · have hj31 : j < 2 ^ 31 := by omega
    have hjc : (nI j).toNatClampNeg = j := nI_clamp hj31
    obtain ⟨w, hw8, hwe⟩ := hw j hj
    have e0 : hgtM I n s t k = hG (I 78 j) (fun w => I 80 (8 * j + w)) (fun w => angM (I 81 (8 * j + w)) t (I 82 (8 * j + w))) w := by
      unfold hgtM
      rw [h, hjc, hwe, nI_clamp (by omega)]
    rw [if_neg (by rw [h]; exact nI_neg1 hj31), show decide (ifF (I 75) (I 76) (I 77) s t k n = -1) = false from decide_eq_false (by rw [h]; exact nI_neg1 hj31), e0] at hK
    rw [h]
    have loop : ∀ r i, i + r = w → K 38 [(0, .ref 12), (2, .int t), (4, .int (nI j)), (5, .double (hG (I 78 j) (fun w => I 80 (8 * j + w)) (fun w => angM (I 81 (8 * j + w)) t (I 82 (8 * j + w))) i)), (7, .int (nI (8 * j + i)))] [] I D := by
      intro r
      induction r with
      | zero =>
        intro i hi
        have hi : i = w := by omega
        subst hi
        refine hK (38, 119, o_M_rises_1) (List.mem_of_getElem? (i := 1) rfl) _ _ _ _ ?_
        refine And.intro (inn_nI (by omega) (by decide)) ?_
        refine And.intro (fun c => ?_) (fun c => ?_)
        · exact And.intro (by decide) (And.intro (rfl) (And.intro rfl rfl))
        · rw [hjc, hwe] at c
          exact absurd (by rw [show (8 : Int32) = nI 8 from rfl, nI_lin']; exact nI_le (Nat.le_refl _) (by omega)) c
      | succ r ih =>
        intro i hi
        have go := ih (i + 1) (by omega)
        rw [← Nat.add_assoc, nI_succ] at go
        have hin : inn (nI (8 * j + i)) 480 := inn_nI (by omega) (by decide)
        have hcl : (nI (8 * j + i)).toNatClampNeg = 8 * j + i := nI_clamp (by omega)
        refine hK (38, 119, o_M_rises_1) (List.mem_of_getElem? (i := 1) rfl) _ _ _ _ ?_
        refine And.intro (inn_nI (by omega) (by decide)) ?_
        refine And.intro (fun c => ?_) (fun c => ?_)
        · rw [hjc, hwe, show (8 : Int32) = nI 8 from rfl, nI_lin'] at c
          exact absurd c (nI_ge (by omega) (by omega))
        refine And.intro (hin) ?_
        refine And.intro (by decide) ?_
        refine And.intro (hin) ?_
        refine And.intro (fb_n (sz_fb _)) ?_
        refine And.intro (hin) ?_
        refine call_eq (c_M_cosine g d I D _) ?_
        refine And.intro (fb_n (wv_fb _ _)) ?_
        rw [hcl]
        refine And.intro (fb_n (fb_add (E := 283 + i) (by omega) (hG_fb _ _ _ _ (by omega)) (fb_mono (by omega) (wv_fb _ _)))) ?_
        exact go
    refine And.intro (fun c => ?_) (fun c => ?_)
    · refine And.intro (inn_nI (by omega) (by decide)) ?_
      refine And.intro (fb_n (mn_fb _)) ?_
      rw [hjc]
      have go := loop w 0 (by omega)
      rw [show nI (8 * j + 0) = 8 * nI j by rw [show (8 : Int32) = nI 8 from rfl, pk_mul]; rfl] at go
      exact go
    · exact absurd c (nI_neg1 hj31)
end S23
end
section
/-! clock, mean, wave, survey, force: the class -/
theorem wi_nI {v : Int32} {m : Nat} (hm : m < 2 ^ 31) (h : wi v 0 (nI m) = true) : ∃ j, j ≤ m ∧ v = nI j := by
  unfold wi at h
  simp only [Bool.and_eq_true, decide_eq_true_eq] at h
  obtain ⟨j, h1, h2⟩ := nI_of (x := v) (by rw [i32_nlt]; exact h.1)
  refine ⟨j, ?_, h2⟩
  rw [h2] at h
  exact (nI_leI h1 hm).mp h.2
theorem nI_le_c {a b : Nat} (h : a ≤ b) (hb : b < 2 ^ 31) : nI a ≤ nI b := nI_le h hb
section S24
variable (g : Gp) (d : Nat) (I : MI) (D : MD)
theorem c_X_clock (t : Int32) : Con g SHc (d + 1) 0 [.ref 0, .int t] I D (EqP (some (.int (if (wi t 0 2591999 && decide (I 0 11 ≤ t)) = true then 1 else -2))) (if (wi t 0 2591999 && decide (I 0 11 ≤ t)) = true then up2 I 0 11 t else I) D) := by
  refine Con.mk (LV := v_X_clock) k_X_clock (Nat.le_of_ble_eq_true rfl) (fun K hK => ?_)
  refine hK (0, 25, o_X_clock_0) (List.mem_of_getElem? (i := 0) rfl) _ _ _ _ ?_
  refine call_eq (c_X_isMoment g d I D t) ?_
  refine And.intro (fun c1 => ?_) (fun c1 => ?_)
  · exact And.intro (by simp [bI_0.mp c1]) (And.intro (by simp [bI_0.mp c1]) (by first | rfl | simp [bI_0.mp c1]))
  refine And.intro (fun c2 => ?_) (fun c2 => ?_)
  · exact And.intro (by simp [bI_n0.mp c1, c2]) (And.intro (by simp [bI_n0.mp c1, c2]) (by first | rfl | simp [bI_n0.mp c1, c2]))
  · exact And.intro (by simp [bI_n0.mp c1, c2]) (And.intro (by simp [bI_n0.mp c1, c2]) (by first | rfl | simp [bI_n0.mp c1, c2]))
theorem c_M_clock (t : Int32) : Con g SHc (d + 2) 148 [.ref 12, .int t] I D (EqP (some (.int (if (wi t 0 2591999 && decide (I 12 0 ≤ t)) = true then 1 else -2))) (if (wi t 0 2591999 && decide (I 12 0 ≤ t)) = true then up2 I 12 0 t else I) D) := by
  refine Con.mk (LV := v_M_clock) k_M_clock (Nat.le_of_ble_eq_true rfl) (fun K hK => ?_)
  refine hK (0, 25, o_M_clock_0) (List.mem_of_getElem? (i := 0) rfl) _ _ _ _ ?_
  refine call_eq (c_M_isMoment g d I D t) ?_
  refine And.intro (fun c1 => ?_) (fun c1 => ?_)
  · exact And.intro (by simp [bI_0.mp c1]) (And.intro (by simp [bI_0.mp c1]) (by first | rfl | simp [bI_0.mp c1]))
  refine And.intro (fun c2 => ?_) (fun c2 => ?_)
  · exact And.intro (by simp [bI_n0.mp c1, c2]) (And.intro (by simp [bI_n0.mp c1, c2]) (by first | rfl | simp [bI_n0.mp c1, c2]))
  · exact And.intro (by simp [bI_n0.mp c1, c2]) (And.intro (by simp [bI_n0.mp c1, c2]) (by first | rfl | simp [bI_n0.mp c1, c2]))
theorem c_X_changeMean (s : Nat) (hs : s < 12) (v : Int32) : Con g SHc d 5 [.ref 2, .int (nI s), .int v] I D (EqP (some (.int (I 13 s))) (up2 I 13 s v) D) := by
  have hc : (nI s).toNatClampNeg = s := nI_clamp (by omega)
  have hi : inn (nI s) 12 := inn_nI hs (by decide)
  refine Con.mk (LV := v_Surveys_changeMean) k_Surveys_changeMean (Nat.le_of_ble_eq_true rfl) (fun K hK => ?_)
  refine hK (0, 16, o_Surveys_changeMean_0) (List.mem_of_getElem? (i := 0) rfl) _ _ _ _ ?_
  refine And.intro (hi) ?_
  refine And.intro (hi) ?_
  rw [hc]
  exact And.intro rfl (And.intro rfl rfl)
theorem c_X_mean (s v : Int32) : Con g SHc (d + 1) 2 [.ref 0, .int s, .int v] I D (EqP (some (.int (if (wi s 0 11 && wi v (-2000) 2000) = true then I 13 s.toNatClampNeg else -100000))) (if (wi s 0 11 && wi v (-2000) 2000) = true then up2 I 13 s.toNatClampNeg v else I) D) := by
  refine Con.mk (LV := v_X_mean) k_X_mean (Nat.le_of_ble_eq_true rfl) (fun K hK => ?_)
  refine hK (0, 33, o_X_mean_0) (List.mem_of_getElem? (i := 0) rfl) _ _ _ _ ?_
  refine call_eq (c_X_isStation g d I D s) ?_
  refine And.intro (fun c1 => ?_) (fun c1 => ?_)
  · exact And.intro (by simp [bI_0.mp c1]) (And.intro (by simp [bI_0.mp c1]) (by first | rfl | simp [bI_0.mp c1]))
  refine call_eq (c_X_isWithin g d I D v (-2000) 2000) ?_
  have h1 := bI_n0.mp c1
  refine And.intro (fun c2 => ?_) (fun c2 => ?_)
  · have h2 := bI_n0.mp c2
    obtain ⟨j, hj, rfl⟩ := wi_nI (m := 11) (by decide) h1
    refine call_eq (c_X_changeMean g d I D j (by omega) v) ?_
    exact And.intro (by simp [h1, h2, nI_clamp (show j < 2 ^ 31 by omega)]) (And.intro (by simp [h1, h2, nI_clamp (show j < 2 ^ 31 by omega)]) (by first | rfl | simp [h1, h2, nI_clamp (show j < 2 ^ 31 by omega)]))
  · exact And.intro (by simp [bI_0.mp c2]) (And.intro (by simp [bI_0.mp c2]) (by first | rfl | simp [bI_0.mp c2]))
theorem c_M_mean (s v : Int32) : Con g SHc (d + 2) 151 [.ref 12, .int s, .int v] I D (EqP (some (.int (if (wi s 0 11 && wi v (-2000) 2000) = true then I 70 s.toNatClampNeg else -100000))) (if (wi s 0 11 && wi v (-2000) 2000) = true then up2 I 70 s.toNatClampNeg v else I) D) := by
  refine Con.mk (LV := v_M_mean) k_M_mean (Nat.le_of_ble_eq_true rfl) (fun K hK => ?_)
  refine hK (0, 39, o_M_mean_0) (List.mem_of_getElem? (i := 0) rfl) _ _ _ _ ?_
  refine call_eq (c_M_isStation g d I D s) ?_
  refine And.intro (fun c1 => ?_) (fun c1 => ?_)
  · exact And.intro (by simp [bI_0.mp c1]) (And.intro (by simp [bI_0.mp c1]) (by first | rfl | simp [bI_0.mp c1]))
  refine call_eq (c_M_in g (d + 1) I D v (-2000) 2000) ?_
  have h1 := bI_n0.mp c1
  refine And.intro (fun c2 => ?_) (fun c2 => ?_)
  · have h2 := bI_n0.mp c2
    obtain ⟨j, hj, rfl⟩ := wi_nI (m := 11) (by decide) h1
    refine And.intro (inn_nI (by omega) (by decide)) ?_
    refine And.intro (inn_nI (by omega) (by decide)) ?_
    exact And.intro (by simp [h1, h2, nI_clamp (show j < 2 ^ 31 by omega)]) (And.intro (by simp [h1, h2, nI_clamp (show j < 2 ^ 31 by omega)]) (by first | rfl | simp [h1, h2, nI_clamp (show j < 2 ^ 31 by omega)]))
  · exact And.intro (by simp [bI_0.mp c2]) (And.intro (by simp [bI_0.mp c2]) (by first | rfl | simp [bI_0.mp c2]))
/-- a WAVE more of a DRAFT that has n -/
def wvX (I : MI) (s n : Nat) (a b c : Int32) : MI := up2 (up2 (up2 (up2 I 15 (24 * s + 3 * n) a) 15 (24 * s + 3 * n + 1) b) 15 (24 * s + 3 * n + 2) c) 14 s (nI (n + 1))
def wvM (I : MI) (s n : Nat) (a b c : Int32) : MI := up2 (up2 (up2 (up2 I 72 (8 * s + n) a) 73 (8 * s + n) b) 74 (8 * s + n) c) 71 s (nI (n + 1))
theorem c_X_addWave (s n : Nat) (hs : s < 12) (hn : n ≤ 8) (hI : I 14 s = nI n) (a b c : Int32) : Con g SHc d 7 [.ref 2, .int (nI s), .int a, .int b, .int c] I D (EqP (some (.int (if n < 8 then nI (n + 1) else -4))) (if n < 8 then wvX I s n a b c else I) D) := by
  have hc : (nI s).toNatClampNeg = s := nI_clamp (by omega)
  have hi : inn (nI s) 12 := inn_nI hs (by decide)
  refine Con.mk (LV := v_Surveys_addWave) k_Surveys_addWave (Nat.le_of_ble_eq_true rfl) (fun K hK => ?_)
  refine hK (0, 75, o_Surveys_addWave_0) (List.mem_of_getElem? (i := 0) rfl) _ _ _ _ ?_
  refine And.intro (hi) ?_
  rw [hc, hI]
  refine And.intro (fun c1 => ?_) (fun c1 => ?_)
  · have c1 : n < 8 := (nI_ltI (by omega) (by decide)).mp c1
    rw [if_pos c1, if_pos c1]
    refine And.intro (hi) ?_
    have e1 : nI s * 24 + nI n * 3 = nI (24 * s + 3 * n) := nI_lin 24 s 3 n
    have e2 : nI (24 * s + 3 * n) + 2 = nI (24 * s + 3 * n + 2) := nI_add _ 2
    have e3 : nI (24 * s + 3 * n) + 1 = nI (24 * s + 3 * n + 1) := nI_add _ 1
    rw [hc, hI]
    refine And.intro (by rw [e1]; exact inn_nI (by omega) (by decide)) ?_
    rw [e1]
    refine And.intro (by rw [e3]; exact inn_nI (by omega) (by decide)) ?_
    rw [e3]
    refine And.intro (by rw [e2]; exact inn_nI (by omega) (by decide)) ?_
    rw [e2, nI_clamp (show 24 * s + 3 * n < 2 ^ 31 by omega), nI_clamp (show 24 * s + 3 * n + 1 < 2 ^ 31 by omega), nI_clamp (show 24 * s + 3 * n + 2 < 2 ^ 31 by omega)]
    refine And.intro (hi) ?_
    refine And.intro (hi) ?_
    refine And.intro (hi) ?_
    rw [hc]
    have e5 : ∀ z : MI, z 14 s = nI n → z 14 s + 1 = nI (n + 1) := fun z h => by rw [h]; exact nI_1 n
    refine And.intro ?_ (And.intro ?_ rfl)
    · rw [up2_at]
      exact congrArg (fun z => some (Value.int z)) (e5 I hI)
    · unfold wvX
      congr 1
      exact e5 I hI
  · have c1 : ¬ n < 8 := fun h => c1 ((nI_ltI (by omega) (by decide)).mpr h)
    rw [if_neg c1, if_neg c1]
    exact And.intro rfl (And.intro rfl rfl)
end S24
end
section
/-! wave, survey, force -/
/-- the rows of a DRAFT are copied -/
def cpX (I : MI) (s n : Nat) : Nat → MI
  | 0 => I
  | i + 1 => up2 (cpX I s n i) 21 (24 * n + i) (I 15 (24 * s + i))
theorem cpX_o (I : MI) (s n : Nat) {k : Nat} (h : k ≠ 21) : ∀ i, cpX I s n i k = I k
  | 0 => rfl
  | i + 1 => by
    unfold cpX
    rw [up2_ne h, cpX_o I s n h i]
theorem cpX_r (I : MI) (s n : Nat) (j : Nat) : ∀ i, cpX I s n i 21 j = if 24 * n ≤ j ∧ j < 24 * n + i then I 15 (24 * s + (j - 24 * n)) else I 21 j
  | 0 => by rw [if_neg (by omega)]; rfl
  | i + 1 => by
    unfold cpX
    rw [up2_at2, cpX_r I s n j i]
    by_cases h : j = 24 * n + i
    · rw [if_pos ⟨rfl, h⟩, if_pos (by omega)]
      congr 1
      omega
    · rw [if_neg (fun z => h z.2)]
      by_cases h2 : 24 * n ≤ j ∧ j < 24 * n + i
      · rw [if_pos h2, if_pos (by omega)]
      · rw [if_neg h2, if_neg (by omega)]
def svX0 (I : MI) (s dy nw : Int32) : MI := up2 (up2 (up2 (up2 (up2 I 16 (I 2 9).toNatClampNeg s) 17 (I 2 9).toNatClampNeg dy) 18 (I 2 9).toNatClampNeg nw) 19 (I 2 9).toNatClampNeg (I 13 s.toNatClampNeg)) 20 (I 2 9).toNatClampNeg (I 14 s.toNatClampNeg)
def svX (I : MI) (s n : Nat) (dy nw : Int32) : MI := up2 (up2 (up2 (cpX (svX0 I (nI s) dy nw) s n 24) 13 s 0) 14 s 0) 2 9 (nI (n + 1))
def cpM (I : MI) (s n : Nat) : Nat → MI
  | 0 => I
  | i + 1 => up2 (up2 (up2 (cpM I s n i) 80 (8 * n + i) (I 72 (8 * s + i))) 81 (8 * n + i) (I 73 (8 * s + i))) 82 (8 * n + i) (I 74 (8 * s + i))
theorem cpM_o (I : MI) (s n : Nat) {k : Nat} (h1 : k ≠ 80) (h2 : k ≠ 81) (h3 : k ≠ 82) : ∀ i, cpM I s n i k = I k
  | 0 => rfl
  | i + 1 => by
    unfold cpM
    rw [up2_ne h3, up2_ne h2, up2_ne h1, cpM_o I s n h1 h2 h3 i]
theorem cpM_r (I : MI) (s n : Nat) (j : Nat) : ∀ i, cpM I s n i 80 j = (if 8 * n ≤ j ∧ j < 8 * n + i then I 72 (8 * s + (j - 8 * n)) else I 80 j) ∧ cpM I s n i 81 j = (if 8 * n ≤ j ∧ j < 8 * n + i then I 73 (8 * s + (j - 8 * n)) else I 81 j) ∧ cpM I s n i 82 j = (if 8 * n ≤ j ∧ j < 8 * n + i then I 74 (8 * s + (j - 8 * n)) else I 82 j)
  | 0 => by
    have h : ¬ (8 * n ≤ j ∧ j < 8 * n + 0) := by omega
    rw [if_neg h, if_neg h, if_neg h]
    exact ⟨rfl, rfl, rfl⟩
  | i + 1 => by
    unfold cpM
    obtain ⟨h1, h2, h3⟩ := cpM_r I s n j i
    simp only [up2_at2, h1, h2, h3]
    by_cases h : j = 8 * n + i
    · subst h
      simp
    · by_cases h2 : 8 * n ≤ j ∧ j < 8 * n + i
      · have h4 : 8 * n ≤ j ∧ j < 8 * n + (i + 1) := by omega
        simp [h, h2, h4]
      · have h4 : ¬ (8 * n ≤ j ∧ j < 8 * n + (i + 1)) := by omega
        simp [h, h2, h4]
def svM0 (I : MI) (s dy : Int32) : MI := up2 (up2 (up2 (up2 (up2 I 75 (I 12 8).toNatClampNeg s) 76 (I 12 8).toNatClampNeg dy) 77 (I 12 8).toNatClampNeg (I 12 0)) 78 (I 12 8).toNatClampNeg (I 70 s.toNatClampNeg)) 79 (I 12 8).toNatClampNeg (I 71 s.toNatClampNeg)
def svM (I : MI) (s n w : Nat) (dy : Int32) : MI := up2 (up2 (up2 (cpM (svM0 I (nI s) dy) s n w) 70 s 0) 71 s 0) 12 8 (nI (n + 1))
section S25
variable (g : Gp) (d : Nat) (I : MI) (D : MD)
theorem c_X_wave (s a b c : Int32) (hI : ∀ j, j < 12 → ∃ n, n ≤ 8 ∧ I 14 j = nI n) : Con g SHc (d + 1) 6 [.ref 0, .int s, .int a, .int b, .int c] I D
    (EqP (some (.int (if (wi s 0 11 && wi a 0 9999 && wi b 0 60000 && wi c 0 65535) = true then (if (I 14 s.toNatClampNeg).toNatClampNeg < 8 then nI ((I 14 s.toNatClampNeg).toNatClampNeg + 1) else -4) else -2)))
      (if (wi s 0 11 && wi a 0 9999 && wi b 0 60000 && wi c 0 65535) = true then (if (I 14 s.toNatClampNeg).toNatClampNeg < 8 then wvX I s.toNatClampNeg (I 14 s.toNatClampNeg).toNatClampNeg a b c else I) else I) D) := by
  refine Con.mk (LV := v_X_wave) k_X_wave (Nat.le_of_ble_eq_true rfl) (fun K hK => ?_)
  refine hK (0, 55, o_X_wave_0) (List.mem_of_getElem? (i := 0) rfl) _ _ _ _ ?_
  refine call_eq (c_X_isStation g d I D s) ?_
  refine And.intro (fun c1 => ?_) (fun c1 => ?_)
  · exact And.intro (by simp [bI_0.mp c1]) (And.intro (by simp [bI_0.mp c1]) (by first | rfl | simp [bI_0.mp c1]))
  refine call_eq (c_X_isWithin g d I D a 0 9999) ?_
  refine And.intro (fun c2 => ?_) (fun c2 => ?_)
  · exact And.intro (by simp [bI_0.mp c2]) (And.intro (by simp [bI_0.mp c2]) (by first | rfl | simp [bI_0.mp c2]))
  refine call_eq (c_X_isWithin g d I D b 0 60000) ?_
  refine And.intro (fun c3 => ?_) (fun c3 => ?_)
  · exact And.intro (by simp [bI_0.mp c3]) (And.intro (by simp [bI_0.mp c3]) (by first | rfl | simp [bI_0.mp c3]))
  refine call_eq (c_X_isWithin g d I D c 0 65535) ?_
  have h1 := bI_n0.mp c1
  have h2 := bI_n0.mp c2
  have h3 := bI_n0.mp c3
  refine And.intro (fun c4 => ?_) (fun c4 => ?_)
  · have h4 := bI_n0.mp c4
    obtain ⟨j, hj, rfl⟩ := wi_nI (m := 11) (by decide) h1
    obtain ⟨n, hn, he⟩ := hI j (by omega)
    refine call_eq (c_X_addWave g d I D j n (by omega) hn he a b c) ?_
    exact And.intro (by simp [h1, h2, h3, h4, nI_clamp (show j < 2 ^ 31 by omega), he, nI_clamp (show n < 2 ^ 31 by omega)]) (And.intro (by simp [h1, h2, h3, h4, nI_clamp (show j < 2 ^ 31 by omega), he, nI_clamp (show n < 2 ^ 31 by omega)]) (by first | rfl | simp [h1, h2, h3, h4, nI_clamp (show j < 2 ^ 31 by omega), he, nI_clamp (show n < 2 ^ 31 by omega)]))
  · exact And.intro (by simp [bI_0.mp c4]) (And.intro (by simp [bI_0.mp c4]) (by first | rfl | simp [bI_0.mp c4]))
theorem c_M_wave (s a b c : Int32) (hI : ∀ j, j < 12 → ∃ n, n ≤ 8 ∧ I 71 j = nI n) : Con g SHc (d + 2) 153 [.ref 12, .int s, .int a, .int b, .int c] I D
    (EqP (some (.int (if (wi s 0 11 && wi a 0 9999 && wi b 0 60000 && wi c 0 65535) = true then (if (I 71 s.toNatClampNeg).toNatClampNeg < 8 then nI ((I 71 s.toNatClampNeg).toNatClampNeg + 1) else -4) else -2)))
      (if (wi s 0 11 && wi a 0 9999 && wi b 0 60000 && wi c 0 65535) = true then (if (I 71 s.toNatClampNeg).toNatClampNeg < 8 then wvM I s.toNatClampNeg (I 71 s.toNatClampNeg).toNatClampNeg a b c else I) else I) D) := by
  refine Con.mk (LV := v_M_wave) k_M_wave (Nat.le_of_ble_eq_true rfl) (fun K hK => ?_)
  refine hK (0, 111, o_M_wave_0) (List.mem_of_getElem? (i := 0) rfl) _ _ _ _ ?_
  refine call_eq (c_M_isStation g d I D s) ?_
  refine And.intro (fun c1 => ?_) (fun c1 => ?_)
  · exact And.intro (by simp [bI_0.mp c1]) (And.intro (by simp [bI_0.mp c1]) (by first | rfl | simp [bI_0.mp c1]))
  refine call_eq (c_M_in g (d + 1) I D a 0 9999) ?_
  refine And.intro (fun c2 => ?_) (fun c2 => ?_)
  · exact And.intro (by simp [bI_0.mp c2]) (And.intro (by simp [bI_0.mp c2]) (by first | rfl | simp [bI_0.mp c2]))
  refine call_eq (c_M_in g (d + 1) I D b 0 60000) ?_
  refine And.intro (fun c3 => ?_) (fun c3 => ?_)
  · exact And.intro (by simp [bI_0.mp c3]) (And.intro (by simp [bI_0.mp c3]) (by first | rfl | simp [bI_0.mp c3]))
  refine call_eq (c_M_in g (d + 1) I D c 0 65535) ?_
  have h1 := bI_n0.mp c1
  have h2 := bI_n0.mp c2
  have h3 := bI_n0.mp c3
  refine And.intro (fun c4 => ?_) (fun c4 => ?_)
  · have h4 := bI_n0.mp c4
    obtain ⟨j, hj, rfl⟩ := wi_nI (m := 11) (by decide) h1
    obtain ⟨n, hn, he⟩ := hI j (by omega)
    have hc : (nI j).toNatClampNeg = j := nI_clamp (by omega)
    have hi : inn (nI j) 12 := inn_nI (by omega) (by decide)
    rw [h1, h2, h3, h4, hc, he, nI_clamp (show n < 2 ^ 31 by omega)]
    refine And.intro (hi) ?_
    rw [hc, he]
    refine And.intro (fun c5 => ?_) (fun c5 => ?_)
    · have c5 : n < 8 := by
        rcases Nat.lt_or_ge n 8 with h | h
        · exact h
        · exact absurd (by rw [show n = 8 by omega]; rfl) c5
      refine And.intro (hi) ?_
      rw [hc, he]
      have e1 : nI 8 * nI j + nI n = nI (8 * j + n) := nI_lin' 8 j n
      have hb : inn (nI (8 * j + n)) 96 := inn_nI (by omega) (by decide)
      refine And.intro (by rw [show (8 : Int32) = nI 8 from rfl, e1]; exact hb) ?_
      rw [show (8 : Int32) = nI 8 from rfl, e1]
      refine And.intro (hb) ?_
      refine And.intro (hb) ?_
      rw [nI_clamp (show 8 * j + n < 2 ^ 31 by omega)]
      refine And.intro (hi) ?_
      refine And.intro (hi) ?_
      refine And.intro (hi) ?_
      rw [hc]
      have e5 : I 71 j + 1 = nI (n + 1) := by rw [he]; exact nI_1 n
      refine And.intro ?_ (And.intro ?_ rfl)
      · rw [up2_at]
        refine Eq.trans (congrArg (fun z => some (Value.int z)) e5) ?_
        simp [c5]
      · refine Eq.trans (congrArg (up2 _ _ _) e5) ?_
        simp [c5, wvM]
    · have c6 : n = 8 := (nI_eq (a := n) (b := 8) (by omega) (by decide)).mp c5
      have c5 : ¬ n < 8 := by omega
      exact And.intro (by simp [c5]) (And.intro (by simp [c5]) (by first | rfl | simp [c5]))
  · exact And.intro (by simp [bI_0.mp c4]) (And.intro (by simp [bI_0.mp c4]) (by first | rfl | simp [bI_0.mp c4]))
theorem c_X_takeDraft (s n : Nat) (hs : s < 12) (hn : n ≤ 60) (hI : I 2 9 = nI n) (dy nw : Int32) : Con g SHc d 10 [.ref 2, .int (nI s), .int dy, .int nw] I D (EqP (some (.int (if n < 60 then nI (n + 1) else -4))) (if n < 60 then svX I s n dy nw else I) D) := by
  have hc : (nI s).toNatClampNeg = s := nI_clamp (by omega)
  have hi : inn (nI s) 12 := inn_nI hs (by decide)
  refine Con.mk (LV := v_Surveys_takeDraft) k_Surveys_takeDraft (Nat.le_of_ble_eq_true rfl) (fun K hK => ?_)
  refine hK (0, 75, o_Surveys_takeDraft_0) (List.mem_of_getElem? (i := 0) rfl) _ _ _ _ ?_
  refine And.intro (fun c1 => ?_) (fun c1 => ?_)
  · rw [hI] at c1
    have c1 : n < 60 := (nI_ltI (by omega) (by decide)).mp c1
    rw [if_pos c1, if_pos c1] at hK
    have hI0 : ∀ z : MI, z 2 9 = nI n → inn (z 2 9) 60 := fun z h => by rw [h]; exact inn_nI c1 (by decide)
    have loop : ∀ r i, i + r = 24 → K 75 [(0, .ref 2), (1, .int (nI s)), (4, .int (nI i))] [] (cpX (svX0 I (nI s) dy nw) s n i) D := by
      intro r
      induction r with
      | zero =>
        intro i hi0
        have hi0 : i = 24 := by omega
        subst hi0
        refine hK (75, 144, o_Surveys_takeDraft_1) (List.mem_of_getElem? (i := 1) rfl) _ _ _ _ ?_
        refine And.intro (fun c => ?_) (fun c => ?_)
        · refine And.intro (hi) ?_
          refine And.intro (hi) ?_
          rw [hc]
          have e7 : cpX (svX0 I (nI s) dy nw) s n 24 2 9 + 1 = nI (n + 1) := by rw [cpX_o _ _ _ (by decide)]; exact (congrArg (· + 1) hI).trans (nI_1 n)
          refine And.intro ?_ (And.intro ?_ rfl)
          · rw [up2_at]
            exact congrArg (fun z => some (Value.int z)) e7
          · exact congrArg (up2 _ _ _) e7
        · exact absurd (by decide) c
      | succ r ih =>
        intro i hi0
        have go := ih (i + 1) (by omega)
        rw [nI_succ] at go
        have e0 : cpX (svX0 I (nI s) dy nw) s n i 2 9 = nI n := by rw [cpX_o _ _ _ (by decide)]; exact hI
        refine hK (75, 144, o_Surveys_takeDraft_1) (List.mem_of_getElem? (i := 1) rfl) _ _ _ _ ?_
        refine And.intro (fun c => ?_) (fun c => ?_)
        · exact absurd c (nI_ge (b := 24) (by omega) (by decide))
        · have e1 : nI n * 24 + nI i = nI (24 * n + i) := by rw [show (24 : Int32) = nI 24 from rfl, pk_mul, nI_add, Nat.mul_comm]
          have e2 : nI s * 24 + nI i = nI (24 * s + i) := by rw [show (24 : Int32) = nI 24 from rfl, pk_mul, nI_add, Nat.mul_comm]
          refine And.intro (by rw [e2]; exact inn_nI (by omega) (by decide)) ?_
          refine And.intro (by rw [e0, e1]; exact inn_nI (by omega) (by decide)) ?_
          rw [e0, e1, e2, nI_clamp (show 24 * n + i < 2 ^ 31 by omega), nI_clamp (show 24 * s + i < 2 ^ 31 by omega), cpX_o _ _ _ (by decide)]
          exact go
    refine And.intro (hI0 I hI) ?_
    refine And.intro (hI0 _ hI) ?_
    refine And.intro (hI0 _ hI) ?_
    refine And.intro (hi) ?_
    refine And.intro (hI0 _ hI) ?_
    refine And.intro (hi) ?_
    refine And.intro (hI0 _ hI) ?_
    exact loop 24 0 (by omega)
  · rw [hI] at c1
    have c1 : ¬ n < 60 := fun h => c1 ((nI_ltI (by omega) (by decide)).mpr h)
    rw [if_neg c1, if_neg c1]
    exact And.intro rfl (And.intro rfl rfl)
theorem c_X_survey (s dy : Int32) (n : Nat) (hn : n ≤ 60) (hI : I 2 9 = nI n) : Con g SHc (d + 1) 8 [.ref 0, .int s, .int dy] I D
    (EqP (some (.int (if (wi s 0 11 && wi dy 0 29) = true then (if n < 60 then nI (n + 1) else -4) else -2))) (if (wi s 0 11 && wi dy 0 29) = true then (if n < 60 then svX I s.toNatClampNeg n dy (I 0 11) else I) else I) D) := by
  refine Con.mk (LV := v_X_survey) k_X_survey (Nat.le_of_ble_eq_true rfl) (fun K hK => ?_)
  refine hK (0, 31, o_X_survey_0) (List.mem_of_getElem? (i := 0) rfl) _ _ _ _ ?_
  refine call_eq (c_X_isStation g d I D s) ?_
  refine And.intro (fun c1 => ?_) (fun c1 => ?_)
  · exact And.intro (by simp [bI_0.mp c1]) (And.intro (by simp [bI_0.mp c1]) (by first | rfl | simp [bI_0.mp c1]))
  refine call_eq (c_X_isDay g d I D dy) ?_
  have h1 := bI_n0.mp c1
  refine And.intro (fun c2 => ?_) (fun c2 => ?_)
  · have h2 := bI_n0.mp c2
    obtain ⟨j, hj, rfl⟩ := wi_nI (m := 11) (by decide) h1
    refine call_eq (c_X_takeDraft g d I D j n (by omega) hn hI dy (I 0 11)) ?_
    exact And.intro (by simp [h1, h2, nI_clamp (show j < 2 ^ 31 by omega)]) (And.intro (by simp [h1, h2, nI_clamp (show j < 2 ^ 31 by omega)]) (by first | rfl | simp [h1, h2, nI_clamp (show j < 2 ^ 31 by omega)]))
  · exact And.intro (by simp [bI_0.mp c2]) (And.intro (by simp [bI_0.mp c2]) (by first | rfl | simp [bI_0.mp c2]))
theorem c_M_survey (s dy : Int32) (n : Nat) (hn : n ≤ 60) (hI : I 12 8 = nI n) (hW : ∀ j, j < 12 → ∃ w, w ≤ 8 ∧ I 71 j = nI w) : Con g SHc (d + 2) 154 [.ref 12, .int s, .int dy] I D
    (EqP (some (.int (if (wi s 0 11 && wi dy 0 29) = true then (if n < 60 then nI (n + 1) else -4) else -2))) (if (wi s 0 11 && wi dy 0 29) = true then (if n < 60 then svM I s.toNatClampNeg n (I 71 s.toNatClampNeg).toNatClampNeg dy else I) else I) D) := by
  refine Con.mk (LV := v_M_survey) k_M_survey (Nat.le_of_ble_eq_true rfl) (fun K hK => ?_)
  refine hK (0, 97, o_M_survey_0) (List.mem_of_getElem? (i := 0) rfl) _ _ _ _ ?_
  refine call_eq (c_M_isStation g d I D s) ?_
  refine And.intro (fun c1 => ?_) (fun c1 => ?_)
  · exact And.intro (by simp [bI_0.mp c1]) (And.intro (by simp [bI_0.mp c1]) (by first | rfl | simp [bI_0.mp c1]))
  refine call_eq (c_M_in g (d + 1) I D dy 0 29) ?_
  have h1 := bI_n0.mp c1
  refine And.intro (fun c2 => ?_) (fun c2 => ?_)
  · have h2 := bI_n0.mp c2
    obtain ⟨j, hj, rfl⟩ := wi_nI (m := 11) (by decide) h1
    obtain ⟨w, hw, hwe⟩ := hW j (by omega)
    have hc : (nI j).toNatClampNeg = j := nI_clamp (by omega)
    have hi : inn (nI j) 12 := inn_nI (by omega) (by decide)
    rw [hc, hwe, nI_clamp (show w < 2 ^ 31 by omega), h1, h2] at hK
    rw [hc, hwe, nI_clamp (show w < 2 ^ 31 by omega), h1, h2]
    refine And.intro (fun c3 => ?_) (fun c3 => ?_)
    · rw [hI] at c3
      have c3 : n < 60 := by
        rcases Nat.lt_or_ge n 60 with h | h
        · exact h
        · exact absurd (by rw [show n = 60 by omega]; rfl) c3
      rw [if_pos (show (true && true) = true from rfl), if_pos (show (true && true) = true from rfl), if_pos c3, if_pos c3] at hK
      have hI0 : ∀ z : MI, z 12 8 = nI n → inn (z 12 8) 60 := fun z h => by rw [h]; exact inn_nI c3 (by decide)
      have loop : ∀ r i, i + r = w → K 97 [(0, .ref 12), (1, .int (nI j)), (3, .int (nI i))] [] (cpM (svM0 I (nI j) dy) j n i) D := by
        intro r
        induction r with
        | zero =>
          intro i hi0
          have hi0 : i = w := by omega
          subst hi0
          have e6 : cpM (svM0 I (nI j) dy) j n i 71 j = nI i := by rw [cpM_o _ _ _ (by decide) (by decide) (by decide)]; exact hwe
          refine hK (97, 217, o_M_survey_1) (List.mem_of_getElem? (i := 1) rfl) _ _ _ _ ?_
          refine And.intro (hi) ?_
          rw [hc, e6]
          refine And.intro (fun c => ?_) (fun c => ?_)
          · refine And.intro (hi) ?_
            refine And.intro (hi) ?_
            rw [hc]
            have e7 : cpM (svM0 I (nI j) dy) j n i 12 8 + 1 = nI (n + 1) := by rw [cpM_o _ _ _ (by decide) (by decide) (by decide)]; exact (congrArg (· + 1) hI).trans (nI_1 n)
            refine And.intro ?_ (And.intro ?_ rfl)
            · rw [up2_at]
              exact congrArg (fun z => some (Value.int z)) e7
            · exact congrArg (up2 _ _ _) e7
          · exact absurd (nI_le (Nat.le_refl _) (by omega)) c
        | succ r ih =>
          intro i hi0
          have go := ih (i + 1) (by omega)
          rw [nI_succ] at go
          have e0 : ∀ k, k ≠ 80 → k ≠ 81 → k ≠ 82 → cpM (svM0 I (nI j) dy) j n i k = svM0 I (nI j) dy k := fun k a b c => cpM_o _ _ _ a b c i
          have e6 : cpM (svM0 I (nI j) dy) j n i 71 j = nI w := by rw [cpM_o _ _ _ (by decide) (by decide) (by decide)]; exact hwe
          have e8 : cpM (svM0 I (nI j) dy) j n i 12 8 = nI n := by rw [cpM_o _ _ _ (by decide) (by decide) (by decide)]; exact hI
          have e1 : 8 * nI n + nI i = nI (8 * n + i) := nI_lin' 8 n i
          have e2 : 8 * nI j + nI i = nI (8 * j + i) := nI_lin' 8 j i
          have b1 : inn (nI (8 * n + i)) 480 := inn_nI (by omega) (by decide)
          have b2 : inn (nI (8 * j + i)) 96 := inn_nI (by omega) (by decide)
          have b9 : inn (8 * (cpM (svM0 I (nI j) dy) j n i 12 8) + nI i) 480 := by rw [e8, e1]; exact b1
          refine hK (97, 217, o_M_survey_1) (List.mem_of_getElem? (i := 1) rfl) _ _ _ _ ?_
          refine And.intro (hi) ?_
          rw [hc, e6]
          refine And.intro (fun c => ?_) (fun c => ?_)
          · exact absurd c (nI_ge (by omega) (by omega))
          · refine And.intro (by rw [e2]; exact b2) ?_
            refine And.intro (by rw [e8, e1]; exact b1) ?_
            refine And.intro (by rw [e2]; exact b2) ?_
            refine And.intro (b9) ?_
            refine And.intro (by rw [e2]; exact b2) ?_
            refine And.intro (b9) ?_
            have z1 : (8 * (cpM (svM0 I (nI j) dy) j n i 12 8) + nI i).toNatClampNeg = 8 * n + i := by rw [e8, e1]; exact nI_clamp (by omega)
            have z2 : (8 * nI j + nI i).toNatClampNeg = 8 * j + i := by rw [e2]; exact nI_clamp (by omega)
            have z3 : cpM (svM0 I (nI j) dy) j n i 72 = svM0 I (nI j) dy 72 := e0 _ (by decide) (by decide) (by decide)
            have z4 : cpM (svM0 I (nI j) dy) j n i 73 = svM0 I (nI j) dy 73 := e0 _ (by decide) (by decide) (by decide)
            have z5 : cpM (svM0 I (nI j) dy) j n i 74 = svM0 I (nI j) dy 74 := e0 _ (by decide) (by decide) (by decide)
            have key : cpM (svM0 I (nI j) dy) j n (i + 1) = up2 (up2 (up2 (cpM (svM0 I (nI j) dy) j n i) 80 (8 * (cpM (svM0 I (nI j) dy) j n i 12 8) + nI i).toNatClampNeg (cpM (svM0 I (nI j) dy) j n i 72 (8 * nI j + nI i).toNatClampNeg)) 81 (8 * (cpM (svM0 I (nI j) dy) j n i 12 8) + nI i).toNatClampNeg (cpM (svM0 I (nI j) dy) j n i 73 (8 * nI j + nI i).toNatClampNeg)) 82 (8 * (cpM (svM0 I (nI j) dy) j n i 12 8) + nI i).toNatClampNeg (cpM (svM0 I (nI j) dy) j n i 74 (8 * nI j + nI i).toNatClampNeg) := by
              rw [z1, z2, z3, z4, z5]
              rfl
            rw [key] at go
            exact go
      refine And.intro (hI0 I hI) ?_
      refine And.intro (hI0 _ hI) ?_
      refine And.intro (hI0 _ hI) ?_
      refine And.intro (hi) ?_
      refine And.intro (hI0 _ hI) ?_
      refine And.intro (hi) ?_
      refine And.intro (hI0 _ hI) ?_
      exact loop w 0 (by omega)
    · rw [hI] at c3
      have c4 : n = 60 := (nI_eq (a := n) (b := 60) (by omega) (by decide)).mp c3
      have c3 : ¬ n < 60 := by omega
      exact And.intro (by simp [c3]) (And.intro (by simp [c3]) (by first | rfl | simp [c3]))
  · exact And.intro (by simp [bI_0.mp c2]) (And.intro (by simp [bI_0.mp c2]) (by first | rfl | simp [bI_0.mp c2]))
end S25
end
section
/-! gauges: told, read, in and out -/
/-- from 0 on, below n -/
def ix (v n : Int32) : Bool := decide (0 ≤ v) && decide (v < n)
theorem i32_m1 {n : Nat} (hn : n < 2 ^ 31) : (nI n - 1).toInt = (n : Int) - 1 := by
  cases n with
  | zero => decide
  | succ n =>
    rw [nI_pred, nI_toInt (by omega)]
    omega
theorem ix_wi {v : Int32} {n : Nat} (hn : n < 2 ^ 31) : wi v 0 (nI n - 1) = ix v (nI n) := by
  unfold wi ix
  congr 1
  apply decide_eq_decide.mpr
  rw [i32_le, i32_lt, i32_m1 hn, nI_toInt hn]
  omega
theorem ix_nI {v : Int32} {n : Nat} (hn : n < 2 ^ 31) (h : ix v (nI n) = true) : ∃ j, j < n ∧ v = nI j := by
  unfold ix at h
  simp only [Bool.and_eq_true, decide_eq_true_eq] at h
  obtain ⟨j, h1, h2⟩ := nI_of (x := v) (by rw [i32_nlt]; exact h.1)
  refine ⟨j, ?_, h2⟩
  rw [h2] at h
  exact (nI_ltI h1 hn).mp h.2
section S26
variable (g : Gp) (d : Nat) (I : MI) (D : MD)
def gaX (I : MI) (s f p : Int32) : MI := up2 (up2 (up2 (up2 I 22 (I 3 9).toNatClampNeg s) 23 (I 3 9).toNatClampNeg f) 24 (I 3 9).toNatClampNeg p) 3 9 (I 3 9 + 1)
def gaM (I : MI) (s f p : Int32) : MI := up2 (up2 (up2 (up2 I 83 (I 12 18).toNatClampNeg s) 84 (I 12 18).toNatClampNeg f) 85 (I 12 18).toNatClampNeg p) 12 18 (I 12 18 + 1)
theorem c_X_gadd (n : Nat) (hn : n ≤ 10) (hI : I 3 9 = nI n) (s f p : Int32) : Con g SHc d 22 [.ref 3, .int s, .int f, .int p] I D (EqP (some (.int (if n < 10 then nI n else -4))) (if n < 10 then gaX I s f p else I) D) := by
  refine Con.mk (LV := v_Gauges_add) k_Gauges_add (Nat.le_of_ble_eq_true rfl) (fun K hK => ?_)
  refine hK (0, 59, o_Gauges_add_0) (List.mem_of_getElem? (i := 0) rfl) _ _ _ _ ?_
  refine And.intro (fun c1 => ?_) (fun c1 => ?_)
  · rw [hI] at c1
    have c1 : n < 10 := (nI_ltI (by omega) (by decide)).mp c1
    have hI0 : ∀ z : MI, z 3 9 = nI n → inn (z 3 9) 10 := fun z h => by rw [h]; exact inn_nI c1 (by decide)
    rw [if_pos c1, if_pos c1]
    refine And.intro (hI0 I hI) ?_
    refine And.intro (hI0 _ hI) ?_
    refine And.intro (hI0 _ hI) ?_
    refine And.intro ?_ (And.intro rfl rfl)
    rw [up2_at]
    exact congrArg (fun z => some (Value.int z)) ((congrArg (fun z : Int32 => z + 1 - 1) hI).trans (by rw [nI_1, nI_pred]))
  · rw [hI] at c1
    have c1 : ¬ n < 10 := fun h => c1 ((nI_ltI (by omega) (by decide)).mpr h)
    rw [if_neg c1, if_neg c1]
    exact And.intro rfl (And.intro rfl rfl)
theorem c_X_gauge (n : Nat) (hn : n ≤ 10) (hI : I 3 9 = nI n) (s f p : Int32) : Con g SHc (d + 1) 21 [.ref 0, .int s, .int f, .int p] I D (EqP (some (.int (if (wi s 0 11 && wi f 0 2591999 && wi p 60 7200) = true then (if n < 10 then nI n else -4) else -2))) (if (wi s 0 11 && wi f 0 2591999 && wi p 60 7200) = true then (if n < 10 then gaX I s f p else I) else I) D) := by
  refine Con.mk (LV := v_X_gauge) k_X_gauge (Nat.le_of_ble_eq_true rfl) (fun K hK => ?_)
  refine hK (0, 40, o_X_gauge_0) (List.mem_of_getElem? (i := 0) rfl) _ _ _ _ ?_
  clear hK
  repeat' (first | (refine And.intro (fun _ => ?_) (fun _ => ?_)) | (refine call_eq (c_X_gadd g _ _ _ n hn hI _ _ _) ?_) | (refine call_eq (c_X_isWithin g _ _ _ _ _ _) ?_) | (refine call_eq (c_X_isMoment g _ _ _ _) ?_) | (refine call_eq (c_X_isDay g _ _ _ _) ?_) | (refine call_eq (c_X_isMinute g _ _ _ _) ?_) | (refine call_eq (c_X_isStation g _ _ _ _) ?_) | (refine call_eq (c_X_isFleet g _ _ _ _) ?_) | (refine call_eq (c_X_isRoute g _ _ _ _) ?_) | (refine call_eq (c_X_isGauge g _ _ _ _) ?_) | (refine call_eq (c_X_isShoal g _ _ _ _) ?_) | (refine call_eq (c_X_isShip g _ _ _ _) ?_) | (refine call_eq (c_X_isPassage g _ _ _ _) ?_) | (refine call_eq (c_X_isShipOrNothing g _ _ _ _) ?_) | (refine call_eq (c_X_isPast g _ _ _ _) ?_) | (refine call_eq (c_X_isBed g _ _ _ _) ?_) | (refine call_eq (c_X_areSpent g _ _ _) ?_) | (refine call_eq (c_X_tell g _ _ _ _) ?_) | (refine call_eq (c_X_isNoFloat g _ _ _ _) ?_) | (refine call_eq (c_X_isMark g _ _ _ _) ?_))
  all_goals (refine And.intro ?_ (And.intro ?_ ?_) <;> (first | rfl | (simp_all [bI_0, bI_n0]; done) | (simp_all [bI_0, bI_n0, i32_lt, i32_le] <;> omega)))
theorem c_X_faultAt (j : Nat) (hj : j < 10) (i : Int32) : Con g SHc d 30 [.ref 3, .int (nI j), .int i] I D (EqP (some (.int (if I 25 j = 0 then (if ix i (I 26 j) = true then 0 else 2) else 1))) I D) := by
  have hc : (nI j).toNatClampNeg = j := nI_clamp (by omega)
  have hi : inn (nI j) 10 := inn_nI hj (by decide)
  refine Con.mk (LV := v_Gauges_faultAt) k_Gauges_faultAt (Nat.le_of_ble_eq_true rfl) (fun K hK => ?_)
  refine hK (0, 31, o_Gauges_faultAt_0) (List.mem_of_getElem? (i := 0) rfl) _ _ _ _ ?_
  clear hK
  repeat' (first | (refine And.intro (fun _ => ?_) (fun _ => ?_)) | (refine And.intro (hi) ?_) | (refine call_eq (c_X_isWithin g _ _ _ _ _ _) ?_) | (refine call_eq (c_X_isMoment g _ _ _ _) ?_) | (refine call_eq (c_X_isDay g _ _ _ _) ?_) | (refine call_eq (c_X_isMinute g _ _ _ _) ?_) | (refine call_eq (c_X_isStation g _ _ _ _) ?_) | (refine call_eq (c_X_isFleet g _ _ _ _) ?_) | (refine call_eq (c_X_isRoute g _ _ _ _) ?_) | (refine call_eq (c_X_isGauge g _ _ _ _) ?_) | (refine call_eq (c_X_isShoal g _ _ _ _) ?_) | (refine call_eq (c_X_isShip g _ _ _ _) ?_) | (refine call_eq (c_X_isPassage g _ _ _ _) ?_) | (refine call_eq (c_X_isShipOrNothing g _ _ _ _) ?_) | (refine call_eq (c_X_isPast g _ _ _ _) ?_) | (refine call_eq (c_X_isBed g _ _ _ _) ?_) | (refine call_eq (c_X_areSpent g _ _ _) ?_) | (refine call_eq (c_X_tell g _ _ _ _) ?_) | (refine call_eq (c_X_isNoFloat g _ _ _ _) ?_) | (refine call_eq (c_X_isMark g _ _ _ _) ?_))
  all_goals (refine And.intro ?_ (And.intro ?_ ?_) <;> (first | rfl | (simp_all [bI_0, bI_n0, hc, ix]; done) | (simp_all [bI_0, bI_n0, i32_lt, i32_le, hc, ix] <;> omega)))
theorem c_M_reads (j n : Nat) (hj : j < 10) (hn : n < 2 ^ 31) (hI : I 87 j = nI n) (i : Int32) : Con g SHc (d + 1) 173 [.ref 12, .int (nI j), .int i] I D (EqP (some (.int (if I 86 j = 0 then (if ix i (I 87 j) = true then 0 else 2) else 1))) I D) := by
  have hc : (nI j).toNatClampNeg = j := nI_clamp (by omega)
  have hi : inn (nI j) 10 := inn_nI hj (by decide)
  refine Con.mk (LV := v_M_reads) k_M_reads (Nat.le_of_ble_eq_true rfl) (fun K hK => ?_)
  refine hK (0, 35, o_M_reads_0) (List.mem_of_getElem? (i := 0) rfl) _ _ _ _ ?_
  clear hK
  repeat' (first | (refine And.intro (fun _ => ?_) (fun _ => ?_)) | (refine And.intro (hi) ?_) | (refine call_eq (c_M_in g _ _ _ _ _ _) ?_) | (refine call_eq (c_M_isMoment g _ _ _ _) ?_) | (refine call_eq (c_M_isMinute g _ _ _ _) ?_) | (refine call_eq (c_M_isStation g _ _ _ _) ?_) | (refine call_eq (c_M_isFleet g _ _ _ _) ?_) | (refine call_eq (c_M_isRoute g _ _ _ _) ?_) | (refine call_eq (c_M_isGauge g _ _ _ _) ?_) | (refine call_eq (c_M_isShoal g _ _ _ _) ?_) | (refine call_eq (c_M_isShip g _ _ _ _) ?_) | (refine call_eq (c_M_isPassage g _ _ _ _) ?_) | (refine call_eq (c_M_isPart g _ _ _ _) ?_) | (refine call_eq (c_M_isKnowing g _ _ _ _ _) ?_) | (refine call_eq (c_M_isFull g _ _ _) ?_) | (refine call_eq (c_M_fails g _ _ _ _) ?_) | (refine call_eq (c_M_isNoFloat g _ _ _ _) ?_))
  all_goals (refine And.intro ?_ (And.intro ?_ ?_) <;> (first | rfl | (simp_all [bI_0, bI_n0, hc, ix_wi hn]; done) | (simp_all [bI_0, bI_n0, i32_lt, i32_le, hc, ix_wi hn] <;> omega)))
def rdX (I : MI) (j n : Nat) (v a : Int32) : MI := up2 (up2 (up2 I 27 (120 * j + n) v) 28 (120 * j + n) a) 26 j (nI (n + 1))
def rdM (I : MI) (j n : Nat) (v a : Int32) : MI := up2 (up2 (up2 I 88 (120 * j + n) v) 89 (120 * j + n) a) 87 j (nI (n + 1))
theorem sh_same {v : Int32} (h : wi v (-32768) 32767 = true) : vp_nar .short v.toInt16.toInt32 = v := by
  rw [pk_vs]
  unfold wi at h
  simp only [Bool.and_eq_true, decide_eq_true_eq, i32_le] at h
  obtain ⟨h1, h2⟩ := h
  have e1 : ((-32768 : Int32)).toInt = -32768 := by decide
  have e2 : ((32767 : Int32)).toInt = 32767 := by decide
  rw [e1] at h1
  rw [e2] at h2
  apply Int32.toInt_inj.mp
  rw [Int16.toInt_toInt32, Int32.toInt_toInt16]
  exact Int.bmod_eq_of_le (by omega) (by omega)
theorem c_X_momentOf (j : Nat) (hj : j < 10) (i : Int32) : Con g SHc d 25 [.ref 3, .int (nI j), .int i] I D (EqP (some (.int (I 23 j + i * I 24 j))) I D) := by
  have hc : (nI j).toNatClampNeg = j := nI_clamp (by omega)
  have hi : inn (nI j) 10 := inn_nI hj (by decide)
  refine Con.mk (LV := v_Gauges_momentOf) k_Gauges_momentOf (Nat.le_of_ble_eq_true rfl) (fun K hK => ?_)
  refine hK (0, 16, o_Gauges_momentOf_0) (List.mem_of_getElem? (i := 0) rfl) _ _ _ _ ?_
  refine And.intro (hi) ?_
  refine And.intro (hi) ?_
  rw [hc]
  exact And.intro rfl (And.intro rfl rfl)
theorem c_M_momentOf (j : Nat) (hj : j < 10) (i : Int32) : Con g SHc d 169 [.ref 12, .int (nI j), .int i] I D (EqP (some (.int (I 84 j + i * I 85 j))) I D) := by
  have hc : (nI j).toNatClampNeg = j := nI_clamp (by omega)
  have hi : inn (nI j) 10 := inn_nI hj (by decide)
  refine Con.mk (LV := v_M_momentOf) k_M_momentOf (Nat.le_of_ble_eq_true rfl) (fun K hK => ?_)
  refine hK (0, 16, o_M_momentOf_0) (List.mem_of_getElem? (i := 0) rfl) _ _ _ _ ?_
  refine And.intro (hi) ?_
  refine And.intro (hi) ?_
  rw [hc]
  exact And.intro rfl (And.intro rfl rfl)
theorem c_X_addReading (j n : Nat) (hj : j < 10) (hn : n < 120) (hI : I 26 j = nI n) (v a : Int32) (hv : wi v (-32768) 32767 = true) : Con g SHc d 27 [.ref 3, .int (nI j), .int v, .int a] I D (EqP (some (.int (nI (n + 1)))) (rdX I j n v a) D) := by
  have hc : (nI j).toNatClampNeg = j := nI_clamp (by omega)
  have hi : inn (nI j) 10 := inn_nI hj (by decide)
  have e1 : nI j * 120 + nI n = nI (120 * j + n) := by rw [show (120 : Int32) = nI 120 from rfl, pk_mul, nI_add, Nat.mul_comm]
  have b1 : inn (nI (120 * j + n)) 1200 := inn_nI (by omega) (by decide)
  refine Con.mk (LV := v_Gauges_addReading) k_Gauges_addReading (Nat.le_of_ble_eq_true rfl) (fun K hK => ?_)
  refine hK (0, 47, o_Gauges_addReading_0) (List.mem_of_getElem? (i := 0) rfl) _ _ _ _ ?_
  refine And.intro (hi) ?_
  rw [hc, hI]
  refine And.intro (by rw [e1]; exact b1) ?_
  rw [e1, sh_same hv]
  refine And.intro (b1) ?_
  refine And.intro (hi) ?_
  refine And.intro (hi) ?_
  refine And.intro (hi) ?_
  rw [hc, nI_clamp (show 120 * j + n < 2 ^ 31 by omega)]
  have e5 : I 26 j + 1 = nI (n + 1) := by rw [hI]; exact nI_1 n
  refine And.intro ?_ (And.intro ?_ rfl)
  · rw [up2_at]
    exact congrArg (fun z => some (Value.int z)) e5
  · exact congrArg (up2 _ _ _) e5
/-- what reading() answers and does, by the numbers it looks at -/
theorem c_X_reading (n : Nat) (hn : n ≤ 10) (hI : I 3 9 = nI n) (hs : ∀ j, j < n → ∃ r, r ≤ 120 ∧ I 26 j = nI r) (ga v a : Int32) : Con g SHc (d + 1) 23 [.ref 0, .int ga, .int v, .int a] I D
    (EqP (some (.int (if (ix ga (nI n) && wi v (-32768) 32767) = true then (if I 0 11 < I 23 ga.toNatClampNeg + I 26 ga.toNatClampNeg * I 24 ga.toNatClampNeg then -3 else if (decide (120 ≤ I 26 ga.toNatClampNeg) || decide (3000 ≤ I 1 0)) = true then -4 else if I 25 ga.toNatClampNeg = 0 then I 26 ga.toNatClampNeg + 1 else -11) else -2)))
      (if (ix ga (nI n) && wi v (-32768) 32767) = true then (if I 0 11 < I 23 ga.toNatClampNeg + I 26 ga.toNatClampNeg * I 24 ga.toNatClampNeg then I else if (decide (120 ≤ I 26 ga.toNatClampNeg) || decide (3000 ≤ I 1 0)) = true then I else if I 25 ga.toNatClampNeg = 0 then rdX I ga.toNatClampNeg (I 26 ga.toNatClampNeg).toNatClampNeg v (if noF a = true then 2143289344 else a) else tellX 1 I) else I) D) := by
  refine Con.mk (LV := v_X_reading) k_X_reading (Nat.le_of_ble_eq_true rfl) (fun K hK => ?_)
  refine hK (0, 122, o_X_reading_0) (List.mem_of_getElem? (i := 0) rfl) _ _ _ _ ?_
  refine call_eq (c_X_isGauge g d I D ga) ?_
  rw [hI]
  refine And.intro (fun c1 => ?_) (fun c1 => ?_)
  · exact And.intro (by simp [bI_0.mp c1, ix]) (And.intro (by simp [bI_0.mp c1, ix]) (by first | rfl | simp [bI_0.mp c1, ix]))
  have h1 : ix ga (nI n) = true := bI_n0.mp c1
  obtain ⟨j, hj, rfl⟩ := ix_nI (by omega) h1
  have hc : (nI j).toNatClampNeg = j := nI_clamp (by omega)
  have hi : inn (nI j) 10 := inn_nI (by omega) (by decide)
  obtain ⟨r, hr, he⟩ := hs j hj
  rw [h1, hc]
  refine call_eq (c_X_isWithin g d I D v (-32768) 32767) ?_
  refine And.intro (fun c2 => ?_) (fun c2 => ?_)
  · have h2 := bI_n0.mp c2
    rw [h2]
    refine And.intro (hi) ?_
    rw [hc]
    refine call_eq (c_X_momentOf g d I D j (by omega) _) ?_
    refine And.intro (fun c3 => ?_) (fun c3 => ?_)
    · refine And.intro (hi) ?_
      rw [hc]
      refine And.intro (fun c4 => ?_) (fun c4 => ?_)
      · exact And.intro (by simp [c4, i32_nlt.mpr c3]) (And.intro (by simp [c4, i32_nlt.mpr c3]) (by first | rfl | simp [c4, i32_nlt.mpr c3]))
      · refine call_eq (c_X_areSpent g d I D) ?_
        refine And.intro (fun c5 => ?_) (fun c5 => ?_)
        · refine And.intro (hi) ?_
          rw [hc]
          have h5 := bI_0.mp c5
          refine And.intro (fun c6 => ?_) (fun c6 => ?_)
          · refine call_eq (c_X_isNoFloat g d I D a) ?_
            rw [he] at c4 c3
            have hr2 : r < 120 := by
              rcases Nat.lt_or_ge r 120 with h | h
              · exact h
              · exact absurd (nI_le (a := 120) h (by omega)) c4
            refine And.intro (fun c7 => ?_) (fun c7 => ?_)
            · refine call_eq (c_X_addReading g d I D j r (by omega) hr2 he v a h2) ?_
              exact And.intro (by simp [c4, i32_nlt.mpr c3, h5, c6, bI_0.mp c7, he, nI_1, nI_clamp (show r < 2 ^ 31 by omega)]) (And.intro (by simp [c4, i32_nlt.mpr c3, h5, c6, bI_0.mp c7, he, nI_1, nI_clamp (show r < 2 ^ 31 by omega)]) (by first | rfl | simp [c4, i32_nlt.mpr c3, h5, c6, bI_0.mp c7, he, nI_1, nI_clamp (show r < 2 ^ 31 by omega)]))
            · refine call_eq (c_X_addReading g d I D j r (by omega) hr2 he v 2143289344 h2) ?_
              exact And.intro (by simp [c4, i32_nlt.mpr c3, h5, c6, bI_n0.mp c7, he, nI_1, nI_clamp (show r < 2 ^ 31 by omega)]) (And.intro (by simp [c4, i32_nlt.mpr c3, h5, c6, bI_n0.mp c7, he, nI_1, nI_clamp (show r < 2 ^ 31 by omega)]) (by first | rfl | simp [c4, i32_nlt.mpr c3, h5, c6, bI_n0.mp c7, he, nI_1, nI_clamp (show r < 2 ^ 31 by omega)]))
          · refine call_eq (c_X_tell g d I D 1) ?_
            exact And.intro (by simp [c4, i32_nlt.mpr c3, h5, c6]) (And.intro (by simp [c4, i32_nlt.mpr c3, h5, c6]) (by first | rfl | simp [c4, i32_nlt.mpr c3, h5, c6]))
        · exact And.intro (by simp [c4, i32_nlt.mpr c3, bI_n0.mp c5]) (And.intro (by simp [c4, i32_nlt.mpr c3, bI_n0.mp c5]) (by first | rfl | simp [c4, i32_nlt.mpr c3, bI_n0.mp c5]))
    · exact And.intro (by simp [i32_nle.mp c3]) (And.intro (by simp [i32_nle.mp c3]) (by first | rfl | simp [i32_nle.mp c3]))
  · exact And.intro (by simp [bI_0.mp c2]) (And.intro (by simp [bI_0.mp c2]) (by first | rfl | simp [bI_0.mp c2]))
end S26
end
section
section S27
variable (g : Gp) (d : Nat) (I : MI) (D : MD)
theorem c_M_reading (n : Nat) (hn : n ≤ 10) (hI : I 12 18 = nI n) (hs : ∀ j, j < n → ∃ r, r ≤ 120 ∧ I 87 j = nI r) (ga v a : Int32) : Con g SHc (d + 2) 167 [.ref 12, .int ga, .int v, .int a] I D (EqP (some (.int (if (ix ga (nI n) && wi v (-32768) 32767) = true then (if I 12 0 < I 84 ga.toNatClampNeg + I 87 ga.toNatClampNeg * I 85 ga.toNatClampNeg then -3 else if (decide (120 ≤ I 87 ga.toNatClampNeg) || decide (3000 ≤ I 12 2)) = true then -4 else if I 86 ga.toNatClampNeg = 0 then I 87 ga.toNatClampNeg + 1 else -11) else -2)))
      (if (ix ga (nI n) && wi v (-32768) 32767) = true then (if I 12 0 < I 84 ga.toNatClampNeg + I 87 ga.toNatClampNeg * I 85 ga.toNatClampNeg then I else if (decide (120 ≤ I 87 ga.toNatClampNeg) || decide (3000 ≤ I 12 2)) = true then I else if I 86 ga.toNatClampNeg = 0 then rdM I ga.toNatClampNeg (I 87 ga.toNatClampNeg).toNatClampNeg v (if noF a = true then 2143289344 else a) else tellM 1 I) else I) D) := by
  refine Con.mk (LV := v_M_reading) k_M_reading (Nat.le_of_ble_eq_true rfl) (fun K hK => ?_)
  refine hK (0, 140, o_M_reading_0) (List.mem_of_getElem? (i := 0) rfl) _ _ _ _ ?_
  refine call_eq (c_M_isGauge g d I D ga) ?_
  rw [hI, ix_wi (by omega)]
  refine And.intro (fun c1 => ?_) (fun c1 => ?_)
  · exact And.intro (by simp [bI_0.mp c1]) (And.intro (by simp [bI_0.mp c1]) (by first | rfl | simp [bI_0.mp c1]))
  have h1 : ix ga (nI n) = true := bI_n0.mp c1
  obtain ⟨j, hj, rfl⟩ := ix_nI (by omega) h1
  have hc : (nI j).toNatClampNeg = j := nI_clamp (by omega)
  have hi : inn (nI j) 10 := inn_nI (by omega) (by decide)
  obtain ⟨r, hr, he⟩ := hs j hj
  rw [h1, hc]
  refine call_eq (c_M_in g (d + 1) I D v (-32768) 32767) ?_
  refine And.intro (fun c2 => ?_) (fun c2 => ?_)
  · have h2 := bI_n0.mp c2
    rw [h2]
    refine And.intro (hi) ?_
    rw [hc]
    refine call_eq (c_M_momentOf g (d + 1) I D j (by omega) _) ?_
    refine And.intro (fun c3 => ?_) (fun c3 => ?_)
    · refine And.intro (hi) ?_
      rw [hc]
      refine And.intro (fun c4 => ?_) (fun c4 => ?_)
      · rw [c4] at c3
        exact And.intro (by simp [c4, i32_nlt.mpr c3]) (And.intro (by simp [c4, i32_nlt.mpr c3]) (by first | rfl | simp [c4, i32_nlt.mpr c3]))
      · rw [he] at c4 c3
        have hr2 : r < 120 := by
          rcases Nat.lt_or_ge r 120 with h | h
          · exact h
          · exact absurd (by rw [show r = 120 by omega]; rfl) c4
        have c4 : ¬ 120 ≤ nI r := nI_ge (b := 120) hr2 (by decide)
        refine call_eq (c_M_isFull g (d + 1) I D) ?_
        refine And.intro (fun c5 => ?_) (fun c5 => ?_)
        · refine And.intro (hi) ?_
          rw [hc]
          have h5 := bI_0.mp c5
          refine And.intro (fun c6 => ?_) (fun c6 => ?_)
          · refine And.intro (hi) ?_
            rw [hc, he]
            have e1 : 120 * nI j + nI r = nI (120 * j + r) := nI_lin' 120 j r
            have b1 : inn (nI (120 * j + r)) 1200 := inn_nI (by omega) (by decide)
            refine And.intro (by rw [e1]; exact b1) ?_
            rw [e1]
            refine call_eq (c_M_isNoFloat g (d + 1) _ D a) ?_
            have e5 : I 87 j + 1 = nI (r + 1) := by rw [he]; exact nI_1 r
            refine And.intro (fun c7 => ?_) (fun c7 => ?_)
            · refine And.intro (b1) ?_
              refine And.intro (hi) ?_
              refine And.intro (hi) ?_
              refine And.intro (hi) ?_
              rw [hc, nI_clamp (show 120 * j + r < 2 ^ 31 by omega)]
              refine And.intro ?_ (And.intro ?_ rfl)
              · rw [up2_at]
                refine (congrArg (fun z => some (Value.int z)) e5).trans ?_
                simp [c4, i32_nlt.mpr c3, h5, c6, bI_0.mp c7, nI_1]
              · refine (congrArg (up2 _ _ _) e5).trans ?_
                simp [c4, i32_nlt.mpr c3, h5, c6, bI_0.mp c7, rdM, nI_clamp (show r < 2 ^ 31 by omega)]
            · refine And.intro (b1) ?_
              refine And.intro (hi) ?_
              refine And.intro (hi) ?_
              refine And.intro (hi) ?_
              rw [hc, nI_clamp (show 120 * j + r < 2 ^ 31 by omega)]
              refine And.intro ?_ (And.intro ?_ rfl)
              · rw [up2_at]
                refine (congrArg (fun z => some (Value.int z)) e5).trans ?_
                simp [c4, i32_nlt.mpr c3, h5, c6, bI_n0.mp c7, nI_1]
              · refine (congrArg (up2 _ _ _) e5).trans ?_
                simp [c4, i32_nlt.mpr c3, h5, c6, bI_n0.mp c7, rdM, nI_clamp (show r < 2 ^ 31 by omega)]
          · refine call_eq (c_M_fails g (d + 1) I D 1) ?_
            exact And.intro (by simp [he, c4, i32_nlt.mpr c3, h5, c6]) (And.intro (by simp [he, c4, i32_nlt.mpr c3, h5, c6]) (by first | rfl | simp [he, c4, i32_nlt.mpr c3, h5, c6]))
        · exact And.intro (by simp [he, c4, i32_nlt.mpr c3, bI_n0.mp c5]) (And.intro (by simp [he, c4, i32_nlt.mpr c3, bI_n0.mp c5]) (by first | rfl | simp [he, c4, i32_nlt.mpr c3, bI_n0.mp c5]))
    · exact And.intro (by simp [i32_nle.mp c3]) (And.intro (by simp [i32_nle.mp c3]) (by first | rfl | simp [i32_nle.mp c3]))
  · exact And.intro (by simp [bI_0.mp c2]) (And.intro (by simp [bI_0.mp c2]) (by first | rfl | simp [bI_0.mp c2]))
theorem c_M_gauge (n : Nat) (hn : n ≤ 10) (hI : I 12 18 = nI n) (s f p : Int32) : Con g SHc (d + 2) 166 [.ref 12, .int s, .int f, .int p] I D (EqP (some (.int (if (wi s 0 11 && wi f 0 2591999 && wi p 60 7200) = true then (if n < 10 then nI n else -4) else -2))) (if (wi s 0 11 && wi f 0 2591999 && wi p 60 7200) = true then (if n < 10 then gaM I s f p else I) else I) D) := by
  refine Con.mk (LV := v_M_gauge) k_M_gauge (Nat.le_of_ble_eq_true rfl) (fun K hK => ?_)
  refine hK (0, 88, o_M_gauge_0) (List.mem_of_getElem? (i := 0) rfl) _ _ _ _ ?_
  refine call_eq (c_M_isStation g d I D s) ?_
  refine And.intro (fun c1 => ?_) (fun c1 => ?_)
  · exact And.intro (by simp [bI_0.mp c1]) (And.intro (by simp [bI_0.mp c1]) (by first | rfl | simp [bI_0.mp c1]))
  refine call_eq (c_M_isMoment g d I D f) ?_
  refine And.intro (fun c2 => ?_) (fun c2 => ?_)
  · exact And.intro (by simp [bI_0.mp c2]) (And.intro (by simp [bI_0.mp c2]) (by first | rfl | simp [bI_0.mp c2]))
  refine call_eq (c_M_in g (d + 1) I D p 60 7200) ?_
  refine And.intro (fun c3 => ?_) (fun c3 => ?_)
  · rw [bI_n0.mp c1, bI_n0.mp c2, bI_n0.mp c3]
    refine And.intro (fun c4 => ?_) (fun c4 => ?_)
    · rw [hI] at c4
      have c4 : n < 10 := by
        rcases Nat.lt_or_ge n 10 with h | h
        · exact h
        · exact absurd (by rw [show n = 10 by omega]; rfl) c4
      have hI0 : ∀ z : MI, z 12 18 = nI n → inn (z 12 18) 10 := fun z h => by rw [h]; exact inn_nI c4 (by decide)
      refine And.intro (hI0 I hI) ?_
      refine And.intro (hI0 _ hI) ?_
      refine And.intro (hI0 _ hI) ?_
      refine And.intro ?_ (And.intro ?_ rfl)
      · rw [up2_at]
        refine (congrArg (fun z => some (Value.int z)) ((congrArg (fun z : Int32 => z + 1 - 1) hI).trans (by rw [nI_1, nI_pred]))).trans ?_
        simp [c4]
      · simp [c4]
        rfl
    · rw [hI] at c4
      have c5 : n = 10 := (nI_eq (a := n) (b := 10) (by omega) (by decide)).mp c4
      have c4 : ¬ n < 10 := by omega
      exact And.intro (by simp [c4]) (And.intro (by simp [c4]) (by first | rfl | simp [c4]))
  · exact And.intro (by simp [bI_0.mp c3]) (And.intro (by simp [bI_0.mp c3]) (by first | rfl | simp [bI_0.mp c3]))
theorem c_X_at (n : Nat) (hn : n ≤ 10) (hI : I 3 9 = nI n) (hs : ∀ j, j < n → ∃ r, r ≤ 120 ∧ I 26 j = nI r) (ga i : Int32) : Con g SHc (d + 1) 29 [.ref 0, .int ga, .int i] I D
    (EqP (some (.int (if (ix ga (nI n) && !decide (3000 ≤ I 1 0)) = true then (if I 25 ga.toNatClampNeg = 0 then (if ix i (I 26 ga.toNatClampNeg) = true then I 27 (120 * ga.toNatClampNeg + i.toNatClampNeg) else -100000 - 2) else -100000 - 1) else -100000)))
      (if (ix ga (nI n) && !decide (3000 ≤ I 1 0)) = true then (if I 25 ga.toNatClampNeg = 0 then (if ix i (I 26 ga.toNatClampNeg) = true then I else tellX 2 I) else tellX 1 I) else I) D) := by
  refine Con.mk (LV := v_X_at) k_X_at (Nat.le_of_ble_eq_true rfl) (fun K hK => ?_)
  refine hK (0, 64, o_X_at_0) (List.mem_of_getElem? (i := 0) rfl) _ _ _ _ ?_
  refine call_eq (c_X_isGauge g d I D ga) ?_
  rw [hI]
  refine And.intro (fun c1 => ?_) (fun c1 => ?_)
  · exact And.intro (by simp [bI_0.mp c1, ix]) (And.intro (by simp [bI_0.mp c1, ix]) (by first | rfl | simp [bI_0.mp c1, ix]))
  have h1 : ix ga (nI n) = true := bI_n0.mp c1
  obtain ⟨j, hj, rfl⟩ := ix_nI (by omega) h1
  have hc : (nI j).toNatClampNeg = j := nI_clamp (by omega)
  obtain ⟨r, hr, he⟩ := hs j hj
  rw [h1, hc]
  refine call_eq (c_X_areSpent g d I D) ?_
  refine And.intro (fun c2 => ?_) (fun c2 => ?_)
  · have h2 := bI_0.mp c2
    rw [h2]
    refine call_eq (c_X_faultAt g d I D j (by omega) i) ?_
    rw [he]
    by_cases c3 : I 25 j = 0
    · rw [c3]
      by_cases c4 : ix i (nI r) = true
      · obtain ⟨k, hk, rfl⟩ := ix_nI (by omega) c4
        simp only [c4, if_true, if_pos]
        refine And.intro (fun c5 => ?_) (fun c5 => ?_)
        · have e1 : nI j * 120 + nI k = nI (120 * j + k) := by rw [show (120 : Int32) = nI 120 from rfl, pk_mul, nI_add, Nat.mul_comm]
          refine And.intro (by rw [e1]; exact inn_nI (by omega) (by decide)) ?_
          rw [e1, nI_clamp (show 120 * j + k < 2 ^ 31 by omega)]
          exact And.intro (by simp [nI_clamp (show k < 2 ^ 31 by omega)]) (And.intro (by simp [nI_clamp (show k < 2 ^ 31 by omega)]) (by first | rfl | simp [nI_clamp (show k < 2 ^ 31 by omega)]))
        · exact absurd rfl c5
      · simp only [c4, if_true, if_false]
        refine And.intro (fun c5 => ?_) (fun c5 => ?_)
        · exact absurd c5 (by decide)
        · refine call_eq (c_X_tell g d I D _) ?_
          exact And.intro (by simp [c4]) (And.intro (by simp [c4]) (by first | rfl | simp [c4]))
    · simp only [c3, if_false]
      refine And.intro (fun c5 => ?_) (fun c5 => ?_)
      · exact absurd c5 (by decide)
      · refine call_eq (c_X_tell g d I D _) ?_
        exact And.intro (by simp [c3]) (And.intro (by simp [c3]) (by first | rfl | simp [c3]))
  · exact And.intro (by simp [bI_n0.mp c2]) (And.intro (by simp [bI_n0.mp c2]) (by first | rfl | simp [bI_n0.mp c2]))
theorem c_X_air (n : Nat) (hn : n ≤ 10) (hI : I 3 9 = nI n) (hs : ∀ j, j < n → ∃ r, r ≤ 120 ∧ I 26 j = nI r) (ga i : Int32) : Con g SHc (d + 1) 31 [.ref 0, .int ga, .int i] I D
    (EqP (some (.int (if (ix ga (nI n) && !decide (3000 ≤ I 1 0)) = true then (if I 25 ga.toNatClampNeg = 0 then (if ix i (I 26 ga.toNatClampNeg) = true then I 28 (120 * ga.toNatClampNeg + i.toNatClampNeg) else 2143289344) else 2143289344) else 2143289344)))
      (if (ix ga (nI n) && !decide (3000 ≤ I 1 0)) = true then (if I 25 ga.toNatClampNeg = 0 then (if ix i (I 26 ga.toNatClampNeg) = true then I else tellX 2 I) else tellX 1 I) else I) D) := by
  refine Con.mk (LV := v_X_air) k_X_air (Nat.le_of_ble_eq_true rfl) (fun K hK => ?_)
  refine hK (0, 62, o_X_air_0) (List.mem_of_getElem? (i := 0) rfl) _ _ _ _ ?_
  refine call_eq (c_X_isGauge g d I D ga) ?_
  rw [hI]
  refine And.intro (fun c1 => ?_) (fun c1 => ?_)
  · exact And.intro (by simp [bI_0.mp c1, ix]) (And.intro (by simp [bI_0.mp c1, ix]) (by first | rfl | simp [bI_0.mp c1, ix]))
  have h1 : ix ga (nI n) = true := bI_n0.mp c1
  obtain ⟨j, hj, rfl⟩ := ix_nI (by omega) h1
  have hc : (nI j).toNatClampNeg = j := nI_clamp (by omega)
  obtain ⟨r, hr, he⟩ := hs j hj
  rw [h1, hc]
  refine call_eq (c_X_areSpent g d I D) ?_
  refine And.intro (fun c2 => ?_) (fun c2 => ?_)
  · have h2 := bI_0.mp c2
    rw [h2]
    refine call_eq (c_X_faultAt g d I D j (by omega) i) ?_
    rw [he]
    by_cases c3 : I 25 j = 0
    · rw [c3]
      by_cases c4 : ix i (nI r) = true
      · obtain ⟨k, hk, rfl⟩ := ix_nI (by omega) c4
        simp only [c4, if_true, if_pos]
        refine And.intro (fun c5 => ?_) (fun c5 => ?_)
        · have e1 : nI j * 120 + nI k = nI (120 * j + k) := by rw [show (120 : Int32) = nI 120 from rfl, pk_mul, nI_add, Nat.mul_comm]
          refine And.intro (by rw [e1]; exact inn_nI (by omega) (by decide)) ?_
          rw [e1, nI_clamp (show 120 * j + k < 2 ^ 31 by omega)]
          exact And.intro (by simp [nI_clamp (show k < 2 ^ 31 by omega)]) (And.intro (by simp [nI_clamp (show k < 2 ^ 31 by omega)]) (by first | rfl | simp [nI_clamp (show k < 2 ^ 31 by omega)]))
        · exact absurd rfl c5
      · simp only [c4, if_true, if_false]
        refine And.intro (fun c5 => ?_) (fun c5 => ?_)
        · exact absurd c5 (by decide)
        · refine call_eq (c_X_tell g d I D _) ?_
          exact And.intro (by simp [c4]) (And.intro (by simp [c4]) (by first | rfl | simp [c4]))
    · simp only [c3, if_false]
      refine And.intro (fun c5 => ?_) (fun c5 => ?_)
      · exact absurd c5 (by decide)
      · refine call_eq (c_X_tell g d I D _) ?_
        exact And.intro (by simp [c3]) (And.intro (by simp [c3]) (by first | rfl | simp [c3]))
  · exact And.intro (by simp [bI_n0.mp c2]) (And.intro (by simp [bI_n0.mp c2]) (by first | rfl | simp [bI_n0.mp c2]))
theorem c_M_at (n : Nat) (hn : n ≤ 10) (hI : I 12 18 = nI n) (hs : ∀ j, j < n → ∃ r, r ≤ 120 ∧ I 87 j = nI r) (ga i : Int32) : Con g SHc (d + 2) 172 [.ref 12, .int ga, .int i] I D
    (EqP (some (.int (if (ix ga (nI n) && !decide (3000 ≤ I 12 2)) = true then (if I 86 ga.toNatClampNeg = 0 then (if ix i (I 87 ga.toNatClampNeg) = true then I 88 (120 * ga.toNatClampNeg + i.toNatClampNeg) else -100000 - 2) else -100000 - 1) else -100000)))
      (if (ix ga (nI n) && !decide (3000 ≤ I 12 2)) = true then (if I 86 ga.toNatClampNeg = 0 then (if ix i (I 87 ga.toNatClampNeg) = true then I else tellM 2 I) else tellM 1 I) else I) D) := by
  refine Con.mk (LV := v_M_at) k_M_at (Nat.le_of_ble_eq_true rfl) (fun K hK => ?_)
  refine hK (0, 52, o_M_at_0) (List.mem_of_getElem? (i := 0) rfl) _ _ _ _ ?_
  refine call_eq (c_M_isGauge g d I D ga) ?_
  rw [hI, ix_wi (by omega)]
  refine And.intro (fun c1 => ?_) (fun c1 => ?_)
  · exact And.intro (by simp [bI_0.mp c1]) (And.intro (by simp [bI_0.mp c1]) (by first | rfl | simp [bI_0.mp c1]))
  have h1 : ix ga (nI n) = true := bI_n0.mp c1
  obtain ⟨j, hj, rfl⟩ := ix_nI (by omega) h1
  have hc : (nI j).toNatClampNeg = j := nI_clamp (by omega)
  obtain ⟨r, hr, he⟩ := hs j hj
  rw [h1, hc]
  refine call_eq (c_M_isFull g (d + 1) I D) ?_
  refine And.intro (fun c2 => ?_) (fun c2 => ?_)
  · have h2 := bI_0.mp c2
    rw [h2]
    refine call_eq (c_M_reads g d I D j r (by omega) (by omega) he i) ?_
    rw [he]
    by_cases c3 : I 86 j = 0
    · rw [c3]
      by_cases c4 : ix i (nI r) = true
      · obtain ⟨k, hk, rfl⟩ := ix_nI (by omega) c4
        simp only [c4, if_true, if_pos]
        refine And.intro (fun c5 => ?_) (fun c5 => ?_)
        · have e1 : 120 * nI j + nI k = nI (120 * j + k) := nI_lin' 120 j k
          refine And.intro (by rw [e1]; exact inn_nI (by omega) (by decide)) ?_
          rw [e1, nI_clamp (show 120 * j + k < 2 ^ 31 by omega)]
          exact And.intro (by simp [nI_clamp (show k < 2 ^ 31 by omega)]) (And.intro (by simp [nI_clamp (show k < 2 ^ 31 by omega)]) (by first | rfl | simp [nI_clamp (show k < 2 ^ 31 by omega)]))
        · exact absurd rfl c5
      · simp only [c4, if_true, if_false]
        refine And.intro (fun c5 => ?_) (fun c5 => ?_)
        · exact absurd c5 (by decide)
        · refine call_eq (c_M_fails g (d + 1) I D _) ?_
          exact And.intro (by simp [c4]) (And.intro (by simp [c4]) (by first | rfl | simp [c4]))
    · simp only [c3, if_false]
      refine And.intro (fun c5 => ?_) (fun c5 => ?_)
      · exact absurd c5 (by decide)
      · refine call_eq (c_M_fails g (d + 1) I D _) ?_
        exact And.intro (by simp [c3]) (And.intro (by simp [c3]) (by first | rfl | simp [c3]))
  · exact And.intro (by simp [bI_n0.mp c2]) (And.intro (by simp [bI_n0.mp c2]) (by first | rfl | simp [bI_n0.mp c2]))
theorem c_M_air (n : Nat) (hn : n ≤ 10) (hI : I 12 18 = nI n) (hs : ∀ j, j < n → ∃ r, r ≤ 120 ∧ I 87 j = nI r) (ga i : Int32) : Con g SHc (d + 2) 174 [.ref 12, .int ga, .int i] I D
    (EqP (some (.int (if (ix ga (nI n) && !decide (3000 ≤ I 12 2)) = true then (if I 86 ga.toNatClampNeg = 0 then (if ix i (I 87 ga.toNatClampNeg) = true then I 89 (120 * ga.toNatClampNeg + i.toNatClampNeg) else 2143289344) else 2143289344) else 2143289344)))
      (if (ix ga (nI n) && !decide (3000 ≤ I 12 2)) = true then (if I 86 ga.toNatClampNeg = 0 then (if ix i (I 87 ga.toNatClampNeg) = true then I else tellM 2 I) else tellM 1 I) else I) D) := by
  refine Con.mk (LV := v_M_air) k_M_air (Nat.le_of_ble_eq_true rfl) (fun K hK => ?_)
  refine hK (0, 52, o_M_air_0) (List.mem_of_getElem? (i := 0) rfl) _ _ _ _ ?_
  refine call_eq (c_M_isGauge g d I D ga) ?_
  rw [hI, ix_wi (by omega)]
  refine And.intro (fun c1 => ?_) (fun c1 => ?_)
  · exact And.intro (by simp [bI_0.mp c1]) (And.intro (by simp [bI_0.mp c1]) (by first | rfl | simp [bI_0.mp c1]))
  have h1 : ix ga (nI n) = true := bI_n0.mp c1
  obtain ⟨j, hj, rfl⟩ := ix_nI (by omega) h1
  have hc : (nI j).toNatClampNeg = j := nI_clamp (by omega)
  obtain ⟨r, hr, he⟩ := hs j hj
  rw [h1, hc]
  refine call_eq (c_M_isFull g (d + 1) I D) ?_
  refine And.intro (fun c2 => ?_) (fun c2 => ?_)
  · have h2 := bI_0.mp c2
    rw [h2]
    refine call_eq (c_M_reads g d I D j r (by omega) (by omega) he i) ?_
    rw [he]
    by_cases c3 : I 86 j = 0
    · rw [c3]
      by_cases c4 : ix i (nI r) = true
      · obtain ⟨k, hk, rfl⟩ := ix_nI (by omega) c4
        simp only [c4, if_true, if_pos]
        refine And.intro (fun c5 => ?_) (fun c5 => ?_)
        · have e1 : 120 * nI j + nI k = nI (120 * j + k) := nI_lin' 120 j k
          refine And.intro (by rw [e1]; exact inn_nI (by omega) (by decide)) ?_
          rw [e1, nI_clamp (show 120 * j + k < 2 ^ 31 by omega)]
          exact And.intro (by simp [nI_clamp (show k < 2 ^ 31 by omega)]) (And.intro (by simp [nI_clamp (show k < 2 ^ 31 by omega)]) (by first | rfl | simp [nI_clamp (show k < 2 ^ 31 by omega)]))
        · exact absurd rfl c5
      · simp only [c4, if_true, if_false]
        refine And.intro (fun c5 => ?_) (fun c5 => ?_)
        · exact absurd c5 (by decide)
        · refine call_eq (c_M_fails g (d + 1) I D _) ?_
          exact And.intro (by simp [c4]) (And.intro (by simp [c4]) (by first | rfl | simp [c4]))
    · simp only [c3, if_false]
      refine And.intro (fun c5 => ?_) (fun c5 => ?_)
      · exact absurd c5 (by decide)
      · refine call_eq (c_M_fails g (d + 1) I D _) ?_
        exact And.intro (by simp [c3]) (And.intro (by simp [c3]) (by first | rfl | simp [c3]))
  · exact And.intro (by simp [bI_n0.mp c2]) (And.intro (by simp [bI_n0.mp c2]) (by first | rfl | simp [bI_n0.mp c2]))
theorem c_X_lacking : Con g SHc d 40 [.ref 0] I D (EqP (some (.int (I 0 13))) I D) := by
  refine Con.mk (LV := v_X_lacking) k_X_lacking (Nat.le_of_ble_eq_true rfl) (fun K hK => ?_)
  refine hK (0, 5, o_X_lacking_0) (List.mem_of_getElem? (i := 0) rfl) _ _ _ _ ?_
  exact And.intro rfl (And.intro rfl rfl)
theorem c_M_lacking : Con g SHc d 179 [.ref 12] I D (EqP (some (.int (I 12 29))) I D) := by
  refine Con.mk (LV := v_M_lacking) k_M_lacking (Nat.le_of_ble_eq_true rfl) (fun K hK => ?_)
  refine hK (0, 5, o_M_lacking_0) (List.mem_of_getElem? (i := 0) rfl) _ _ _ _ ?_
  exact And.intro rfl (And.intro rfl rfl)
end S27
end
section
theorem wi_01 {v : Int32} : wi v 0 1 = true ↔ v = 0 ∨ v = 1 := by
  constructor
  · intro h
    obtain ⟨j, hj, rfl⟩ := wi_nI (m := 1) (by decide) h
    rcases (show j = 0 ∨ j = 1 by omega) with rfl | rfl
    · exact Or.inl rfl
    · exact Or.inr rfl
  · rintro (rfl | rfl) <;> decide
theorem wi_01f {v : Int32} : wi v 0 1 = false ↔ ¬ v = 0 ∧ ¬ v = 1 := by
  rw [← Bool.not_eq_true, wi_01, not_or]
theorem wi_02 {v : Int32} : wi v 0 2 = true ↔ v = 0 ∨ v = 1 ∨ v = 2 := by
  constructor
  · intro h
    obtain ⟨j, hj, rfl⟩ := wi_nI (m := 2) (by decide) h
    rcases (show j = 0 ∨ j = 1 ∨ j = 2 by omega) with rfl | rfl | rfl
    · exact Or.inl rfl
    · exact Or.inr (Or.inl rfl)
    · exact Or.inr (Or.inr rfl)
  · rintro (rfl | rfl | rfl) <;> decide
def dgF (st : Nat → Int32) : Nat → Int32
  | 0 => 7
  | n + 1 => 31 * dgF st n + st n
section S28
variable (g : Gp) (d : Nat) (I : MI) (D : MD)
theorem c_X_wrong (v : Int32) : Con g SHc (d + 1) 123 [.ref 0, .int v] I D (EqP (some (.int (if v = 0 then I 10 3 else if v = 1 then I 10 4 else -2))) I D) := by
  refine Con.mk (LV := v_X_wrong) k_X_wrong (Nat.le_of_ble_eq_true rfl) (fun K hK => ?_)
  refine hK (0, 34, o_X_wrong_0) (List.mem_of_getElem? (i := 0) rfl) _ _ _ _ ?_
  clear hK
  repeat' (first | (refine And.intro (fun _ => ?_) (fun _ => ?_)) | (refine call_eq (c_X_isWithin g _ _ _ _ _ _) ?_) | (refine call_eq (c_X_isMoment g _ _ _ _) ?_) | (refine call_eq (c_X_isDay g _ _ _ _) ?_) | (refine call_eq (c_X_isMinute g _ _ _ _) ?_) | (refine call_eq (c_X_isStation g _ _ _ _) ?_) | (refine call_eq (c_X_isFleet g _ _ _ _) ?_) | (refine call_eq (c_X_isRoute g _ _ _ _) ?_) | (refine call_eq (c_X_isGauge g _ _ _ _) ?_) | (refine call_eq (c_X_isShoal g _ _ _ _) ?_) | (refine call_eq (c_X_isShip g _ _ _ _) ?_) | (refine call_eq (c_X_isPassage g _ _ _ _) ?_) | (refine call_eq (c_X_isShipOrNothing g _ _ _ _) ?_) | (refine call_eq (c_X_isPast g _ _ _ _) ?_) | (refine call_eq (c_X_isBed g _ _ _ _) ?_) | (refine call_eq (c_X_areSpent g _ _ _) ?_) | (refine call_eq (c_X_tell g _ _ _ _) ?_) | (refine call_eq (c_X_isNoFloat g _ _ _ _) ?_) | (refine call_eq (c_X_isMark g _ _ _ _) ?_) | (refine And.intro (fun _ => ?_) ?_) | intro _)
  all_goals (refine And.intro ?_ (And.intro ?_ ?_) <;> (first | rfl | (simp_all [bI_0, bI_n0, wi_01, wi_01f]; done) | (simp_all [bI_0, bI_n0, i32_lt, i32_le, wi_01, wi_01f] <;> omega)))
theorem c_M_wrong (v : Int32) : Con g SHc (d) 236 [.ref 12, .int v] I D (EqP (some (.int (if v = 0 then I 12 76 else if v = 1 then I 12 77 else -2))) I D) := by
  refine Con.mk (LV := v_M_wrong) k_M_wrong (Nat.le_of_ble_eq_true rfl) (fun K hK => ?_)
  refine hK (0, 26, o_M_wrong_0) (List.mem_of_getElem? (i := 0) rfl) _ _ _ _ ?_
  clear hK
  repeat' (first | (refine And.intro (fun _ => ?_) (fun _ => ?_)) | (refine call_eq (c_M_in g _ _ _ _ _ _) ?_) | (refine call_eq (c_M_isMoment g _ _ _ _) ?_) | (refine call_eq (c_M_isMinute g _ _ _ _) ?_) | (refine call_eq (c_M_isStation g _ _ _ _) ?_) | (refine call_eq (c_M_isFleet g _ _ _ _) ?_) | (refine call_eq (c_M_isRoute g _ _ _ _) ?_) | (refine call_eq (c_M_isGauge g _ _ _ _) ?_) | (refine call_eq (c_M_isShoal g _ _ _ _) ?_) | (refine call_eq (c_M_isShip g _ _ _ _) ?_) | (refine call_eq (c_M_isPassage g _ _ _ _) ?_) | (refine call_eq (c_M_isPart g _ _ _ _) ?_) | (refine call_eq (c_M_isKnowing g _ _ _ _ _) ?_) | (refine call_eq (c_M_isFull g _ _ _) ?_) | (refine call_eq (c_M_fails g _ _ _ _) ?_) | (refine call_eq (c_M_isNoFloat g _ _ _ _) ?_) | (refine And.intro (fun _ => ?_) ?_) | intro _)
  all_goals (refine And.intro ?_ (And.intro ?_ ?_) <;> (first | rfl | (simp_all [bI_0, bI_n0]; done) | (simp_all [bI_0, bI_n0, i32_lt, i32_le] <;> omega)))
theorem c_X_held (v : Int32) : Con g SHc (d + 1) 144 [.ref 0, .int v] I D (EqP (some (.int (if v = 0 then I 11 15 else if v = 1 then I 11 16 else -2))) I D) := by
  refine Con.mk (LV := v_X_held) k_X_held (Nat.le_of_ble_eq_true rfl) (fun K hK => ?_)
  refine hK (0, 34, o_X_held_0) (List.mem_of_getElem? (i := 0) rfl) _ _ _ _ ?_
  clear hK
  repeat' (first | (refine And.intro (fun _ => ?_) (fun _ => ?_)) | (refine call_eq (c_X_isWithin g _ _ _ _ _ _) ?_) | (refine call_eq (c_X_isMoment g _ _ _ _) ?_) | (refine call_eq (c_X_isDay g _ _ _ _) ?_) | (refine call_eq (c_X_isMinute g _ _ _ _) ?_) | (refine call_eq (c_X_isStation g _ _ _ _) ?_) | (refine call_eq (c_X_isFleet g _ _ _ _) ?_) | (refine call_eq (c_X_isRoute g _ _ _ _) ?_) | (refine call_eq (c_X_isGauge g _ _ _ _) ?_) | (refine call_eq (c_X_isShoal g _ _ _ _) ?_) | (refine call_eq (c_X_isShip g _ _ _ _) ?_) | (refine call_eq (c_X_isPassage g _ _ _ _) ?_) | (refine call_eq (c_X_isShipOrNothing g _ _ _ _) ?_) | (refine call_eq (c_X_isPast g _ _ _ _) ?_) | (refine call_eq (c_X_isBed g _ _ _ _) ?_) | (refine call_eq (c_X_areSpent g _ _ _) ?_) | (refine call_eq (c_X_tell g _ _ _ _) ?_) | (refine call_eq (c_X_isNoFloat g _ _ _ _) ?_) | (refine call_eq (c_X_isMark g _ _ _ _) ?_) | (refine And.intro (fun _ => ?_) ?_) | intro _)
  all_goals (refine And.intro ?_ (And.intro ?_ ?_) <;> (first | rfl | (simp_all [bI_0, bI_n0, wi_01, wi_01f]; done) | (simp_all [bI_0, bI_n0, i32_lt, i32_le, wi_01, wi_01f] <;> omega)))
theorem c_M_held (v : Int32) : Con g SHc d 250 [.ref 12, .int v] I D (EqP (some (.int (if v = 0 then 0 else if v = 1 then I 12 89 else -2))) I D) := by
  refine Con.mk (LV := v_M_held) k_M_held (Nat.le_of_ble_eq_true rfl) (fun K hK => ?_)
  refine hK (0, 23, o_M_held_0) (List.mem_of_getElem? (i := 0) rfl) _ _ _ _ ?_
  clear hK
  repeat' (first | (refine And.intro (fun _ => ?_) (fun _ => ?_)) | (refine call_eq (c_M_in g _ _ _ _ _ _) ?_) | (refine call_eq (c_M_isMoment g _ _ _ _) ?_) | (refine call_eq (c_M_isMinute g _ _ _ _) ?_) | (refine call_eq (c_M_isStation g _ _ _ _) ?_) | (refine call_eq (c_M_isFleet g _ _ _ _) ?_) | (refine call_eq (c_M_isRoute g _ _ _ _) ?_) | (refine call_eq (c_M_isGauge g _ _ _ _) ?_) | (refine call_eq (c_M_isShoal g _ _ _ _) ?_) | (refine call_eq (c_M_isShip g _ _ _ _) ?_) | (refine call_eq (c_M_isPassage g _ _ _ _) ?_) | (refine call_eq (c_M_isPart g _ _ _ _) ?_) | (refine call_eq (c_M_isKnowing g _ _ _ _ _) ?_) | (refine call_eq (c_M_isFull g _ _ _) ?_) | (refine call_eq (c_M_fails g _ _ _ _) ?_) | (refine call_eq (c_M_isNoFloat g _ _ _ _) ?_) | (refine And.intro (fun _ => ?_) ?_) | intro _)
  all_goals (refine And.intro ?_ (And.intro ?_ ?_) <;> (first | rfl | (simp_all [bI_0, bI_n0]; done) | (simp_all [bI_0, bI_n0, i32_lt, i32_le] <;> omega)))
theorem c_X_count (v : Int32) : Con g SHc (d) 145 [.ref 0, .int v] I D (EqP (some (.int (if v.toInt = 0 then I 0 11 else if v.toInt = 1 then I 2 9 else if v.toInt = 2 then I 3 9 else if v.toInt = 3 then I 4 8 else if v.toInt = 4 then I 4 9 else if v.toInt = 5 then I 6 9 else if v.toInt = 6 then I 11 13 else if v.toInt = 7 then I 10 2 else if v.toInt = 8 then I 1 0 else -2))) I D) := by
  refine Con.mk (LV := v_X_count) k_X_count (Nat.le_of_ble_eq_true rfl) (fun K hK => ?_)
  refine hK (0, 124, o_X_count_0) (List.mem_of_getElem? (i := 0) rfl) _ _ _ _ ?_
  clear hK
  repeat' (first | (refine And.intro (fun _ => ?_) ?_) | intro _)
  all_goals (refine And.intro ?_ (And.intro ?_ ?_) <;> (first | rfl | (simp_all; done) | (repeat (rw [if_neg (by omega)])) | (rw [if_pos (by omega)])))
theorem c_M_count (v : Int32) : Con g SHc (d) 251 [.ref 12, .int v] I D (EqP (some (.int (if v.toInt = 0 then I 12 0 else if v.toInt = 1 then I 12 8 else if v.toInt = 2 then I 12 18 else if v.toInt = 3 then I 12 33 else if v.toInt = 4 then I 12 36 else if v.toInt = 5 then I 12 49 else if v.toInt = 6 then I 12 78 else if v.toInt = 7 then I 12 73 else if v.toInt = 8 then I 12 2 else -2))) I D) := by
  refine Con.mk (LV := v_M_count) k_M_count (Nat.le_of_ble_eq_true rfl) (fun K hK => ?_)
  refine hK (0, 100, o_M_count_0) (List.mem_of_getElem? (i := 0) rfl) _ _ _ _ ?_
  clear hK
  repeat' (first | (refine And.intro (fun _ => ?_) ?_) | intro _)
  all_goals (refine And.intro ?_ (And.intro ?_ ?_) <;> (first | rfl | (simp_all; done) | (repeat (rw [if_neg (by omega)])) | (rw [if_pos (by omega)])))
theorem c_X_finding  : Con g SHc (d) 146 [.ref 0] I D (EqP (some (.int (I 1 1))) I D) := by
  refine Con.mk (LV := v_X_finding) k_X_finding (Nat.le_of_ble_eq_true rfl) (fun K hK => ?_)
  refine hK (0, 8, o_X_finding_0) (List.mem_of_getElem? (i := 0) rfl) _ _ _ _ ?_
  exact And.intro rfl (And.intro rfl rfl)
theorem c_M_finding  : Con g SHc (d) 252 [.ref 12] I D (EqP (some (.int (I 12 1))) I D) := by
  refine Con.mk (LV := v_M_finding) k_M_finding (Nat.le_of_ble_eq_true rfl) (fun K hK => ?_)
  refine hK (0, 5, o_M_finding_0) (List.mem_of_getElem? (i := 0) rfl) _ _ _ _ ?_
  exact And.intro rfl (And.intro rfl rfl)
theorem c_X_tries  : Con g SHc (d) 143 [.ref 0] I D (EqP (some (.int (I 11 14))) I D) := by
  refine Con.mk (LV := v_X_tries) k_X_tries (Nat.le_of_ble_eq_true rfl) (fun K hK => ?_)
  refine hK (0, 8, o_X_tries_0) (List.mem_of_getElem? (i := 0) rfl) _ _ _ _ ?_
  exact And.intro rfl (And.intro rfl rfl)
theorem c_M_tries  : Con g SHc (d) 249 [.ref 12] I D (EqP (some (.int (I 12 88))) I D) := by
  refine Con.mk (LV := v_M_tries) k_M_tries (Nat.le_of_ble_eq_true rfl) (fun K hK => ?_)
  refine hK (0, 5, o_M_tries_0) (List.mem_of_getElem? (i := 0) rfl) _ _ _ _ ?_
  exact And.intro rfl (And.intro rfl rfl)
theorem c_X_asked  : Con g SHc (d) 89 [.ref 0] I D (EqP (some (.int (I 0 12))) I D) := by
  refine Con.mk (LV := v_X_asked) k_X_asked (Nat.le_of_ble_eq_true rfl) (fun K hK => ?_)
  refine hK (0, 5, o_X_asked_0) (List.mem_of_getElem? (i := 0) rfl) _ _ _ _ ?_
  exact And.intro rfl (And.intro rfl rfl)
theorem c_M_asked  : Con g SHc (d) 211 [.ref 12] I D (EqP (some (.int (I 12 56))) I D) := by
  refine Con.mk (LV := v_M_asked) k_M_asked (Nat.le_of_ble_eq_true rfl) (fun K hK => ?_)
  refine hK (0, 5, o_M_asked_0) (List.mem_of_getElem? (i := 0) rfl) _ _ _ _ ?_
  exact And.intro rfl (And.intro rfl rfl)
theorem c_X_trace (n : Nat) (hn : n ≤ 100) (hI : I 6 8 = nI n) (i : Int32) : Con g SHc (d + 1) 90 [.ref 0, .int i] I D (EqP (some (.int (if ix i (nI n) = true then I 49 i.toNatClampNeg else -1))) I D) := by
  refine Con.mk (LV := v_X_trace) k_X_trace (Nat.le_of_ble_eq_true rfl) (fun K hK => ?_)
  refine hK (0, 31, o_X_trace_0) (List.mem_of_getElem? (i := 0) rfl) _ _ _ _ ?_
  refine call_eq (c_X_isWithin g d I D i 0 _) ?_
  rw [hI, ix_wi (by omega)]
  refine And.intro (fun c1 => ?_) (fun c1 => ?_)
  · exact And.intro (by simp [bI_0.mp c1]) (And.intro (by first | (simp [bI_0.mp c1]; done) | (simp [bI_0.mp c1]; rfl)) (by first | rfl | simp [bI_0.mp c1]))
  have h1 := bI_n0.mp c1
  obtain ⟨j, hj, rfl⟩ := ix_nI (by omega) h1
  refine And.intro (inn_nI (by omega) (by decide)) ?_
  exact And.intro (by simp [h1]) (And.intro (by first | (simp [h1]; done) | (simp [h1]; rfl)) (by first | rfl | simp [h1]))
theorem c_M_trace (n : Nat) (hn : n ≤ 100) (hI : I 12 57 = nI n) (i : Int32) : Con g SHc (d + 1) 212 [.ref 12, .int i] I D (EqP (some (.int (if ix i (nI n) = true then I 109 i.toNatClampNeg else -1))) I D) := by
  refine Con.mk (LV := v_M_trace) k_M_trace (Nat.le_of_ble_eq_true rfl) (fun K hK => ?_)
  refine hK (0, 25, o_M_trace_0) (List.mem_of_getElem? (i := 0) rfl) _ _ _ _ ?_
  refine call_eq (c_M_in g d I D i 0 _) ?_
  rw [hI, ix_wi (by omega)]
  refine And.intro (fun c1 => ?_) (fun c1 => ?_)
  · exact And.intro (by simp [bI_0.mp c1]) (And.intro (by first | (simp [bI_0.mp c1]; done) | (simp [bI_0.mp c1]; rfl)) (by first | rfl | simp [bI_0.mp c1]))
  have h1 := bI_n0.mp c1
  obtain ⟨j, hj, rfl⟩ := ix_nI (by omega) h1
  refine And.intro (inn_nI (by omega) (by decide)) ?_
  exact And.intro (by simp [h1]) (And.intro (by first | (simp [h1]; done) | (simp [h1]; rfl)) (by first | rfl | simp [h1]))
theorem c_X_window (n : Nat) (hn : n ≤ 20) (hI : I 10 2 = nI n) (i l : Int32) : Con g SHc (d + 1) 122 [.ref 0, .int i, .int l] I D (EqP (some (.int (if ix i (nI n) = true then (if l = 0 then I 60 i.toNatClampNeg else I 61 i.toNatClampNeg) else -1))) I D) := by
  refine Con.mk (LV := v_X_window) k_X_window (Nat.le_of_ble_eq_true rfl) (fun K hK => ?_)
  refine hK (0, 45, o_X_window_0) (List.mem_of_getElem? (i := 0) rfl) _ _ _ _ ?_
  refine call_eq (c_X_isWithin g d I D i 0 _) ?_
  rw [hI, ix_wi (by omega)]
  refine And.intro (fun c1 => ?_) (fun c1 => ?_)
  · have h1 := bI_n0.mp c1
    obtain ⟨j, hj, rfl⟩ := ix_nI (by omega) h1
    rw [h1]
    refine And.intro (fun c2 => ?_) (fun c2 => ?_)
    · refine And.intro (inn_nI (by omega) (by decide)) ?_
      exact And.intro (by simp [c2]) (And.intro (by first | (simp [c2]; done) | (simp [c2]; rfl)) (by first | rfl | simp [c2]))
    · refine And.intro (inn_nI (by omega) (by decide)) ?_
      exact And.intro (by simp [c2]) (And.intro (by first | (simp [c2]; done) | (simp [c2]; rfl)) (by first | rfl | simp [c2]))
  · exact And.intro (by simp [bI_0.mp c1]) (And.intro (by first | (simp [bI_0.mp c1]; done) | (simp [bI_0.mp c1]; rfl)) (by first | rfl | simp [bI_0.mp c1]))
theorem c_M_window (n : Nat) (hn : n ≤ 20) (hI : I 12 73 = nI n) (i l : Int32) : Con g SHc (d + 1) 235 [.ref 12, .int i, .int l] I D (EqP (some (.int (if ix i (nI n) = true then (if l = 0 then I 121 i.toNatClampNeg else I 122 i.toNatClampNeg) else -1))) I D) := by
  refine Con.mk (LV := v_M_window) k_M_window (Nat.le_of_ble_eq_true rfl) (fun K hK => ?_)
  refine hK (0, 38, o_M_window_0) (List.mem_of_getElem? (i := 0) rfl) _ _ _ _ ?_
  refine call_eq (c_M_in g d I D i 0 _) ?_
  rw [hI, ix_wi (by omega)]
  refine And.intro (fun c1 => ?_) (fun c1 => ?_)
  · have h1 := bI_n0.mp c1
    obtain ⟨j, hj, rfl⟩ := ix_nI (by omega) h1
    rw [h1]
    refine And.intro (fun c2 => ?_) (fun c2 => ?_)
    · refine And.intro (inn_nI (by omega) (by decide)) ?_
      exact And.intro (by simp [c2]) (And.intro (by first | (simp [c2]; done) | (simp [c2]; rfl)) (by first | rfl | simp [c2]))
    · refine And.intro (inn_nI (by omega) (by decide)) ?_
      exact And.intro (by simp [c2]) (And.intro (by first | (simp [c2]; done) | (simp [c2]; rfl)) (by first | rfl | simp [c2]))
  · exact And.intro (by simp [bI_0.mp c1]) (And.intro (by first | (simp [bI_0.mp c1]; done) | (simp [bI_0.mp c1]; rfl)) (by first | rfl | simp [bI_0.mp c1]))
theorem c_X_planned (n : Nat) (hn : n ≤ 40) (hI : I 11 13 = nI n) (p v : Int32) : Con g SHc (d + 1) 135 [.ref 0, .int p, .int v] I D (EqP (some (.int (if (ix p (nI n) && wi v 0 2) = true then (if v = 0 then (if I 67 p.toNatClampNeg = 0 then 0 else 1) else if v = 1 then I 66 p.toNatClampNeg else I 65 p.toNatClampNeg) else -2))) I D) := by
  refine Con.mk (LV := v_X_planned) k_X_planned (Nat.le_of_ble_eq_true rfl) (fun K hK => ?_)
  refine hK (0, 69, o_X_planned_0) (List.mem_of_getElem? (i := 0) rfl) _ _ _ _ ?_
  refine call_eq (c_X_isPassage g d I D p) ?_
  rw [hI]
  refine And.intro (fun c1 => ?_) (fun c1 => ?_)
  · exact And.intro (by simp [bI_0.mp c1, ix]) (And.intro (by first | (simp [bI_0.mp c1, ix]; done) | (simp [bI_0.mp c1, ix]; rfl)) (by first | rfl | simp [bI_0.mp c1, ix]))
  have h1 : ix p (nI n) = true := bI_n0.mp c1
  obtain ⟨j, hj, rfl⟩ := ix_nI (by omega) h1
  have hc : (nI j).toNatClampNeg = j := nI_clamp (by omega)
  have hi : inn (nI j) 40 := inn_nI (by omega) (by decide)
  rw [h1, hc]
  refine call_eq (c_X_isWithin g d I D v 0 2) ?_
  refine And.intro (fun c2 => ?_) (fun c2 => ?_)
  · have h2 := wi_02.mp (bI_n0.mp c2)
    refine And.intro (fun c3 => ?_) (fun c3 => ?_)
    · have h3 : v = 1 ∨ v = 2 := h2.resolve_left c3
      refine And.intro (fun c4 => ?_) (fun c4 => ?_)
      · refine And.intro (hi) ?_
        rw [hc]
        exact And.intro (by simp [h3.resolve_left c4, show wi 2 0 2 = true from rfl]) (And.intro (by first | (simp [h3.resolve_left c4, show wi 2 0 2 = true from rfl]; done) | (simp [h3.resolve_left c4, show wi 2 0 2 = true from rfl]; rfl)) (by first | rfl | simp [h3.resolve_left c4, show wi 2 0 2 = true from rfl]))
      · refine And.intro (hi) ?_
        rw [hc]
        exact And.intro (by simp [c4, show wi 1 0 2 = true from rfl]) (And.intro (by first | (simp [c4, show wi 1 0 2 = true from rfl]; done) | (simp [c4, show wi 1 0 2 = true from rfl]; rfl)) (by first | rfl | simp [c4, show wi 1 0 2 = true from rfl]))
    · refine And.intro (hi) ?_
      rw [hc]
      subst c3
      refine And.intro (fun c4 => ?_) (fun c4 => ?_)
      · exact And.intro (by simp [c4, show wi 0 0 2 = true from rfl]) (And.intro (by first | (simp [c4, show wi 0 0 2 = true from rfl]; done) | (simp [c4, show wi 0 0 2 = true from rfl]; rfl)) (by first | rfl | simp [c4, show wi 0 0 2 = true from rfl]))
      · exact And.intro (by simp [c4, show wi 0 0 2 = true from rfl]) (And.intro (by first | (simp [c4, show wi 0 0 2 = true from rfl]; done) | (simp [c4, show wi 0 0 2 = true from rfl]; rfl)) (by first | rfl | simp [c4, show wi 0 0 2 = true from rfl]))
  · exact And.intro (by simp [bI_0.mp c2]) (And.intro (by first | (simp [bI_0.mp c2]; done) | (simp [bI_0.mp c2]; rfl)) (by first | rfl | simp [bI_0.mp c2]))
theorem c_M_planned (n : Nat) (hn : n ≤ 40) (hI : I 12 78 = nI n) (p v : Int32) : Con g SHc (d + 2) 244 [.ref 12, .int p, .int v] I D (EqP (some (.int (if (ix p (nI n) && wi v 0 2) = true then (if v = 0 then (if I 126 p.toNatClampNeg = 0 then 0 else 1) else if v = 1 then I 128 p.toNatClampNeg else I 127 p.toNatClampNeg) else -2))) I D) := by
  refine Con.mk (LV := v_M_planned) k_M_planned (Nat.le_of_ble_eq_true rfl) (fun K hK => ?_)
  refine hK (0, 62, o_M_planned_0) (List.mem_of_getElem? (i := 0) rfl) _ _ _ _ ?_
  refine call_eq (c_M_isPassage g d I D p) ?_
  rw [hI, ix_wi (by omega)]
  refine And.intro (fun c1 => ?_) (fun c1 => ?_)
  · exact And.intro (by simp [bI_0.mp c1]) (And.intro (by first | (simp [bI_0.mp c1]; done) | (simp [bI_0.mp c1]; rfl)) (by first | rfl | simp [bI_0.mp c1]))
  have h1 : ix p (nI n) = true := bI_n0.mp c1
  obtain ⟨j, hj, rfl⟩ := ix_nI (by omega) h1
  have hc : (nI j).toNatClampNeg = j := nI_clamp (by omega)
  have hi : inn (nI j) 40 := inn_nI (by omega) (by decide)
  rw [h1, hc]
  refine call_eq (c_M_in g (d + 1) I D v 0 2) ?_
  refine And.intro (fun c2 => ?_) (fun c2 => ?_)
  · have h2 := wi_02.mp (bI_n0.mp c2)
    refine And.intro (fun c3 => ?_) (fun c3 => ?_)
    · have h3 : v = 1 ∨ v = 2 := h2.resolve_left c3
      refine And.intro (fun c4 => ?_) (fun c4 => ?_)
      · refine And.intro (hi) ?_
        rw [hc]
        exact And.intro (by simp [h3.resolve_left c4, show wi 2 0 2 = true from rfl]) (And.intro (by first | (simp [h3.resolve_left c4, show wi 2 0 2 = true from rfl]; done) | (simp [h3.resolve_left c4, show wi 2 0 2 = true from rfl]; rfl)) (by first | rfl | simp [h3.resolve_left c4, show wi 2 0 2 = true from rfl]))
      · refine And.intro (hi) ?_
        rw [hc]
        exact And.intro (by simp [c4, show wi 1 0 2 = true from rfl]) (And.intro (by first | (simp [c4, show wi 1 0 2 = true from rfl]; done) | (simp [c4, show wi 1 0 2 = true from rfl]; rfl)) (by first | rfl | simp [c4, show wi 1 0 2 = true from rfl]))
    · refine And.intro (hi) ?_
      rw [hc]
      subst c3
      refine And.intro (fun c4 => ?_) (fun c4 => ?_)
      · exact And.intro (by simp [c4, show wi 0 0 2 = true from rfl]) (And.intro (by first | (simp [c4, show wi 0 0 2 = true from rfl]; done) | (simp [c4, show wi 0 0 2 = true from rfl]; rfl)) (by first | rfl | simp [c4, show wi 0 0 2 = true from rfl]))
      · exact And.intro (by simp [c4, show wi 0 0 2 = true from rfl]) (And.intro (by first | (simp [c4, show wi 0 0 2 = true from rfl]; done) | (simp [c4, show wi 0 0 2 = true from rfl]; rfl)) (by first | rfl | simp [c4, show wi 0 0 2 = true from rfl]))
  · exact And.intro (by simp [bI_0.mp c2]) (And.intro (by first | (simp [bI_0.mp c2]; done) | (simp [bI_0.mp c2]; rfl)) (by first | rfl | simp [bI_0.mp c2]))
theorem c_X_digest (n : Nat) (hn : n ≤ 40) (hI : I 11 13 = nI n)  : Con g SHc (d) 147 [.ref 0] I D (EqP (some (.int (dgF (I 66) n))) I D) := by
  refine Con.mk (LV := v_X_digest) k_X_digest (Nat.le_of_ble_eq_true rfl) (fun K hK => ?_)
  have loop : ∀ r i, i + r = n → K 5 [(0, .ref 0), (1, .int (dgF (I 66) i)), (2, .int (nI i))] [] I D := by
    intro r
    induction r with
    | zero =>
      intro i hi
      have hi : i = n := by omega
      subst hi
      refine hK (5, 39, o_X_digest_1) (List.mem_of_getElem? (i := 1) rfl) _ _ _ _ ?_
      refine And.intro (fun c => ?_) (fun c => ?_)
      · exact And.intro rfl (And.intro rfl rfl)
      · rw [hI] at c
        exact absurd (nI_le (Nat.le_refl _) (by omega)) c
    | succ r ih =>
      intro i hi
      have go := ih (i + 1) (by omega)
      rw [nI_succ] at go
      refine hK (5, 39, o_X_digest_1) (List.mem_of_getElem? (i := 1) rfl) _ _ _ _ ?_
      refine And.intro (fun c => ?_) (fun c => ?_)
      · rw [hI] at c
        exact absurd c (nI_ge (by omega) (by omega))
      · refine And.intro (inn_nI (by omega) (by decide)) ?_
        rw [nI_clamp (show i < 2 ^ 31 by omega)]
        exact go
  refine hK (0, 5, o_X_digest_0) (List.mem_of_getElem? (i := 0) rfl) _ _ _ _ ?_
  exact loop n 0 (by omega)
theorem c_M_digest (n : Nat) (hn : n ≤ 40) (hI : I 12 78 = nI n)  : Con g SHc (d) 253 [.ref 12] I D (EqP (some (.int (dgF (I 128) n))) I D) := by
  refine Con.mk (LV := v_M_digest) k_M_digest (Nat.le_of_ble_eq_true rfl) (fun K hK => ?_)
  have loop : ∀ r i, i + r = n → K 5 [(0, .ref 12), (1, .int (dgF (I 128) i)), (2, .int (nI i))] [] I D := by
    intro r
    induction r with
    | zero =>
      intro i hi
      have hi : i = n := by omega
      subst hi
      refine hK (5, 33, o_M_digest_1) (List.mem_of_getElem? (i := 1) rfl) _ _ _ _ ?_
      refine And.intro (fun c => ?_) (fun c => ?_)
      · exact And.intro rfl (And.intro rfl rfl)
      · rw [hI] at c
        exact absurd (nI_le (Nat.le_refl _) (by omega)) c
    | succ r ih =>
      intro i hi
      have go := ih (i + 1) (by omega)
      rw [nI_succ] at go
      refine hK (5, 33, o_M_digest_1) (List.mem_of_getElem? (i := 1) rfl) _ _ _ _ ?_
      refine And.intro (fun c => ?_) (fun c => ?_)
      · rw [hI] at c
        exact absurd c (nI_ge (by omega) (by omega))
      · refine And.intro (inn_nI (by omega) (by decide)) ?_
        rw [nI_clamp (show i < 2 ^ 31 by omega)]
        exact go
  refine hK (0, 5, o_M_digest_0) (List.mem_of_getElem? (i := 0) rfl) _ _ _ _ ?_
  exact loop n 0 (by omega)
theorem c_X_sun (a b : Int32) : Con g SHc (d + 1) 112 [.ref 0, .int a, .int b] I D (EqP (some (.int (if (wi a 0 86400 && wi b 0 86400) = true then 1 else -2))) (if (wi a 0 86400 && wi b 0 86400) = true then up2 (up2 I 8 6 a) 8 7 b else I) D) := by
  refine Con.mk (LV := v_X_sun) k_X_sun (Nat.le_of_ble_eq_true rfl) (fun K hK => ?_)
  refine hK (0, 43, o_X_sun_0) (List.mem_of_getElem? (i := 0) rfl) _ _ _ _ ?_
  clear hK
  repeat' (first | (refine And.intro (fun _ => ?_) (fun _ => ?_)) | (refine call_eq (c_X_isWithin g _ _ _ _ _ _) ?_) | (refine call_eq (c_X_isMoment g _ _ _ _) ?_) | (refine call_eq (c_X_isDay g _ _ _ _) ?_) | (refine call_eq (c_X_isMinute g _ _ _ _) ?_) | (refine call_eq (c_X_isStation g _ _ _ _) ?_) | (refine call_eq (c_X_isFleet g _ _ _ _) ?_) | (refine call_eq (c_X_isRoute g _ _ _ _) ?_) | (refine call_eq (c_X_isGauge g _ _ _ _) ?_) | (refine call_eq (c_X_isShoal g _ _ _ _) ?_) | (refine call_eq (c_X_isShip g _ _ _ _) ?_) | (refine call_eq (c_X_isPassage g _ _ _ _) ?_) | (refine call_eq (c_X_isShipOrNothing g _ _ _ _) ?_) | (refine call_eq (c_X_isPast g _ _ _ _) ?_) | (refine call_eq (c_X_isBed g _ _ _ _) ?_) | (refine call_eq (c_X_areSpent g _ _ _) ?_) | (refine call_eq (c_X_tell g _ _ _ _) ?_) | (refine call_eq (c_X_isNoFloat g _ _ _ _) ?_) | (refine call_eq (c_X_isMark g _ _ _ _) ?_) | (refine And.intro (fun _ => ?_) ?_) | intro _)
  all_goals (refine And.intro ?_ (And.intro ?_ ?_) <;> (first | rfl | (simp_all [bI_0, bI_n0]; done) | (simp_all [bI_0, bI_n0, i32_lt, i32_le] <;> omega)))
theorem c_M_sun (a b : Int32) : Con g SHc (d + 1) 227 [.ref 12, .int a, .int b] I D (EqP (some (.int (if (wi a 0 86400 && wi b 0 86400) = true then 1 else -2))) (if (wi a 0 86400 && wi b 0 86400) = true then up2 (up2 I 12 71 a) 12 72 b else I) D) := by
  refine Con.mk (LV := v_M_sun) k_M_sun (Nat.le_of_ble_eq_true rfl) (fun K hK => ?_)
  refine hK (0, 37, o_M_sun_0) (List.mem_of_getElem? (i := 0) rfl) _ _ _ _ ?_
  clear hK
  repeat' (first | (refine And.intro (fun _ => ?_) (fun _ => ?_)) | (refine call_eq (c_M_in g _ _ _ _ _ _) ?_) | (refine call_eq (c_M_isMoment g _ _ _ _) ?_) | (refine call_eq (c_M_isMinute g _ _ _ _) ?_) | (refine call_eq (c_M_isStation g _ _ _ _) ?_) | (refine call_eq (c_M_isFleet g _ _ _ _) ?_) | (refine call_eq (c_M_isRoute g _ _ _ _) ?_) | (refine call_eq (c_M_isGauge g _ _ _ _) ?_) | (refine call_eq (c_M_isShoal g _ _ _ _) ?_) | (refine call_eq (c_M_isShip g _ _ _ _) ?_) | (refine call_eq (c_M_isPassage g _ _ _ _) ?_) | (refine call_eq (c_M_isPart g _ _ _ _) ?_) | (refine call_eq (c_M_isKnowing g _ _ _ _ _) ?_) | (refine call_eq (c_M_isFull g _ _ _) ?_) | (refine call_eq (c_M_fails g _ _ _ _) ?_) | (refine call_eq (c_M_isNoFloat g _ _ _ _) ?_) | (refine And.intro (fun _ => ?_) ?_) | intro _)
  all_goals (refine And.intro ?_ (And.intro ?_ ?_) <;> (first | rfl | (simp_all [bI_0, bI_n0]; done) | (simp_all [bI_0, bI_n0, i32_lt, i32_le] <;> omega)))
theorem nar_1 : vp_nar .boolean 1 = 1 := rfl
theorem nar_0 : vp_nar .boolean 0 = 0 := rfl
/-- a PASSAGE waits, from a moment on -/
def agn (w s t : Nat) (I : MI) (j : Nat) (nw : Int32) : MI := up2 (up2 (up2 I w j 1) s j nw) t j (-1)
theorem c_X_letWait (j : Nat) (hj : j < 40) (nw : Int32) : Con g SHc d 126 [.ref 11, .int (nI j), .int nw] I D (EqP none (agn 67 65 66 I j nw) D) := by
  have hc : (nI j).toNatClampNeg = j := nI_clamp (by omega)
  have hi : inn (nI j) 40 := inn_nI hj (by decide)
  refine Con.mk (LV := v_Passages_letWait) k_Passages_letWait (Nat.le_of_ble_eq_true rfl) (fun K hK => ?_)
  refine hK (0, 22, o_Passages_letWait_0) (List.mem_of_getElem? (i := 0) rfl) _ _ _ _ ?_
  refine And.intro (hi) ?_
  refine And.intro (hi) ?_
  refine And.intro (hi) ?_
  rw [hc]
  exact And.intro rfl (And.intro rfl rfl)
theorem c_X_again (n : Nat) (hn : n ≤ 40) (hI : I 11 13 = nI n) (p : Int32) : Con g SHc (d + 1) 137 [.ref 0, .int p] I D (EqP (some (.int (if ix p (nI n) = true then (if I 67 p.toNatClampNeg = 0 then 1 else -3) else -2))) (if ix p (nI n) = true then (if I 67 p.toNatClampNeg = 0 then agn 67 65 66 I p.toNatClampNeg (I 0 11) else I) else I) D) := by
  refine Con.mk (LV := v_X_again) k_X_again (Nat.le_of_ble_eq_true rfl) (fun K hK => ?_)
  refine hK (0, 40, o_X_again_0) (List.mem_of_getElem? (i := 0) rfl) _ _ _ _ ?_
  refine call_eq (c_X_isPassage g d I D p) ?_
  rw [hI]
  refine And.intro (fun c1 => ?_) (fun c1 => ?_)
  · have h1 : ix p (nI n) = true := bI_n0.mp c1
    obtain ⟨j, hj, rfl⟩ := ix_nI (by omega) h1
    have hc : (nI j).toNatClampNeg = j := nI_clamp (by omega)
    have hi : inn (nI j) 40 := inn_nI (by omega) (by decide)
    rw [h1, hc]
    refine And.intro (hi) ?_
    rw [hc]
    refine And.intro (fun c2 => ?_) (fun c2 => ?_)
    · refine call_eq (c_X_letWait g d I D j (by omega) _) ?_
      exact And.intro (by simp [c2, agn]) (And.intro (by first | (simp [c2, agn]; done) | (simp [c2, agn]; rfl)) (by first | rfl | simp [c2, agn]))
    · exact And.intro (by simp [c2]) (And.intro (by first | (simp [c2]; done) | (simp [c2]; rfl)) (by first | rfl | simp [c2]))
  · exact And.intro (by simp [bI_0.mp c1, ix]) (And.intro (by first | (simp [bI_0.mp c1, ix]; done) | (simp [bI_0.mp c1, ix]; rfl)) (by first | rfl | simp [bI_0.mp c1, ix]))
theorem c_M_again (n : Nat) (hn : n ≤ 40) (hI : I 12 78 = nI n) (p : Int32) : Con g SHc (d + 2) 246 [.ref 12, .int p] I D (EqP (some (.int (if ix p (nI n) = true then (if I 126 p.toNatClampNeg = 0 then 1 else -3) else -2))) (if ix p (nI n) = true then (if I 126 p.toNatClampNeg = 0 then agn 126 127 128 I p.toNatClampNeg (I 12 0) else I) else I) D) := by
  refine Con.mk (LV := v_M_again) k_M_again (Nat.le_of_ble_eq_true rfl) (fun K hK => ?_)
  refine hK (0, 49, o_M_again_0) (List.mem_of_getElem? (i := 0) rfl) _ _ _ _ ?_
  refine call_eq (c_M_isPassage g d I D p) ?_
  rw [hI, ix_wi (by omega)]
  refine And.intro (fun c1 => ?_) (fun c1 => ?_)
  · have h1 : ix p (nI n) = true := bI_n0.mp c1
    obtain ⟨j, hj, rfl⟩ := ix_nI (by omega) h1
    have hc : (nI j).toNatClampNeg = j := nI_clamp (by omega)
    have hi : inn (nI j) 40 := inn_nI (by omega) (by decide)
    rw [h1, hc]
    refine And.intro (hi) ?_
    rw [hc]
    refine And.intro (fun c2 => ?_) (fun c2 => ?_)
    · refine And.intro (hi) ?_
      refine And.intro (hi) ?_
      refine And.intro (hi) ?_
      rw [hc]
      exact And.intro (by simp [c2, agn]) (And.intro (by first | (simp [c2, agn]; done) | (simp [c2, agn]; rfl)) (by first | rfl | simp [c2, agn]))
    · exact And.intro (by simp [c2]) (And.intro (by first | (simp [c2]; done) | (simp [c2]; rfl)) (by first | rfl | simp [c2]))
  · exact And.intro (by simp [bI_0.mp c1]) (And.intro (by first | (simp [bI_0.mp c1]; done) | (simp [bI_0.mp c1]; rfl)) (by first | rfl | simp [bI_0.mp c1]))
end S28
end
section
/-- whether a ROUTE is that of a PASSAGE with a start -/
def usF (rt st : Nat → Int32) (r : Int32) : Nat → Bool
  | 0 => false
  | n + 1 => usF rt st r n || (decide (rt n = r) && !decide (st n = -1))
theorem usF_mono {rt st : Nat → Int32} {r : Int32} {i : Nat} (h : usF rt st r i = true) : ∀ k, usF rt st r (i + k) = true
  | 0 => h
  | k + 1 => by
    have h1 := usF_mono h k
    show (usF rt st r (i + k) || _) = true
    rw [h1]
    rfl
section S29
variable (g : Gp) (d : Nat) (I : MI) (D : MD)
theorem c_X_useRoute (n : Nat) (hn : n ≤ 40) (hI : I 11 13 = nI n) (r : Int32) : Con g SHc d 109 [.ref 11, .int r] I D (EqP (some (.int (bI (usF (I 63) (I 66) r n)))) I D) := by
  refine Con.mk (LV := v_Passages_useRoute) k_Passages_useRoute (Nat.le_of_ble_eq_true rfl) (fun K hK => ?_)
  have loop : ∀ k i, i + k = n → usF (I 63) (I 66) r i = false → K 2 [(0, .ref 11), (1, .int r), (2, .int (nI i))] [] I D := by
    intro k
    induction k with
    | zero =>
      intro i hi hf
      have hi : i = n := by omega
      subst hi
      refine hK (2, 40, o_Passages_useRoute_1) (List.mem_of_getElem? (i := 1) rfl) _ _ _ _ ?_
      refine And.intro (fun c => ?_) (fun c => ?_)
      · exact And.intro (by decide) (And.intro (by rw [hf]; rfl) (And.intro rfl rfl))
      · rw [hI] at c
        exact absurd (nI_le (Nat.le_refl _) (by omega)) c
    | succ k ih =>
      intro i hi hf
      have hb : inn (nI i) 40 := inn_nI (by omega) (by decide)
      have hc : (nI i).toNatClampNeg = i := nI_clamp (by omega)
      have go : usF (I 63) (I 66) r (i + 1) = false → K 2 [(0, .ref 11), (1, .int r), (2, .int (nI i + 1))] [] I D := fun h => by
        have := ih (i + 1) (by omega) h
        rw [nI_succ] at this
        exact this
      refine hK (2, 40, o_Passages_useRoute_1) (List.mem_of_getElem? (i := 1) rfl) _ _ _ _ ?_
      refine And.intro (fun c => ?_) (fun c => ?_)
      · rw [hI] at c
        exact absurd c (nI_ge (by omega) (by omega))
      refine And.intro (hb) ?_
      rw [hc]
      refine And.intro (fun c1 => ?_) (fun c1 => ?_)
      · exact go (by simp [usF, hf, c1])
      refine And.intro (hb) ?_
      rw [hc]
      refine And.intro (fun c2 => ?_) (fun c2 => ?_)
      · exact go (by simp [usF, hf, c2])
      · have h1 : usF (I 63) (I 66) r (i + 1) = true := by simp [usF, c1, c2]
        have h2 := usF_mono h1 k
        rw [show i + 1 + k = n by omega] at h2
        exact And.intro (by decide) (And.intro (by rw [h2]; rfl) (And.intro rfl rfl))
  refine hK (0, 2, o_Passages_useRoute_0) (List.mem_of_getElem? (i := 0) rfl) _ _ _ _ ?_
  exact loop n 0 (by omega) rfl
theorem c_M_isStarted (n : Nat) (hn : n ≤ 40) (hI : I 12 78 = nI n) (r : Int32) : Con g SHc d 225 [.ref 12, .int r] I D (EqP (some (.int (bI (usF (I 124) (I 128) r n)))) I D) := by
  refine Con.mk (LV := v_M_isStarted) k_M_isStarted (Nat.le_of_ble_eq_true rfl) (fun K hK => ?_)
  have loop : ∀ k i, i + k = n → K 4 [(0, .ref 12), (1, .int r), (2, .int (bI (usF (I 124) (I 128) r i))), (3, .int (nI i))] [] I D := by
    intro k
    induction k with
    | zero =>
      intro i hi
      have hi : i = n := by omega
      subst hi
      refine hK (4, 50, o_M_isStarted_1) (List.mem_of_getElem? (i := 1) rfl) _ _ _ _ ?_
      refine And.intro (fun c => ?_) (fun c => ?_)
      · exact And.intro (bI_01 _) (And.intro rfl (And.intro rfl rfl))
      · rw [hI] at c
        exact absurd (nI_le (Nat.le_refl _) (by omega)) c
    | succ k ih =>
      intro i hi
      have hb : inn (nI i) 40 := inn_nI (by omega) (by decide)
      have hc : (nI i).toNatClampNeg = i := nI_clamp (by omega)
      have go := ih (i + 1) (by omega)
      rw [nI_succ] at go
      refine hK (4, 50, o_M_isStarted_1) (List.mem_of_getElem? (i := 1) rfl) _ _ _ _ ?_
      refine And.intro (fun c => ?_) (fun c => ?_)
      · rw [hI] at c
        exact absurd c (nI_ge (by omega) (by omega))
      refine And.intro (fun c0 => ?_) (fun c0 => ?_)
      · rw [show usF (I 124) (I 128) r (i + 1) = true by simp [usF, bI_n0.mp c0]] at go
        exact go
      refine And.intro (hb) ?_
      rw [hc]
      refine And.intro (fun c1 => ?_) (fun c1 => ?_)
      · rw [show usF (I 124) (I 128) r (i + 1) = false by simp [usF, bI_0.mp c0, c1]] at go
        exact go
      refine And.intro (hb) ?_
      rw [hc]
      refine And.intro (fun c2 => ?_) (fun c2 => ?_)
      · rw [show usF (I 124) (I 128) r (i + 1) = false by simp [usF, bI_0.mp c0, c2]] at go
        exact go
      · rw [show usF (I 124) (I 128) r (i + 1) = true by simp [usF, c1, c2]] at go
        exact go
  refine hK (0, 4, o_M_isStarted_0) (List.mem_of_getElem? (i := 0) rfl) _ _ _ _ ?_
  exact loop n 0 (by omega)
theorem c_X_clear (n : Nat) (hn : n ≤ 40) (hI : I 11 13 = nI n) (r : Int32) : Con g SHc (d + 1) 111 [.ref 0, .int r] I D (EqP (some (.int (if wi r 0 5 = true then (if usF (I 63) (I 66) r n = true then -3 else I 50 r.toNatClampNeg) else -2))) (if wi r 0 5 = true then (if usF (I 63) (I 66) r n = true then I else up2 I 50 r.toNatClampNeg 0) else I) D) := by
  refine Con.mk (LV := v_X_clear) k_X_clear (Nat.le_of_ble_eq_true rfl) (fun K hK => ?_)
  refine hK (0, 46, o_X_clear_0) (List.mem_of_getElem? (i := 0) rfl) _ _ _ _ ?_
  refine call_eq (c_X_isRoute g d I D r) ?_
  refine And.intro (fun c1 => ?_) (fun c1 => ?_)
  · have h1 := bI_n0.mp c1
    obtain ⟨j, hj, rfl⟩ := wi_nI (m := 5) (by decide) h1
    refine call_eq (c_X_useRoute g d I D n hn hI _) ?_
    refine And.intro (fun c2 => ?_) (fun c2 => ?_)
    · refine And.intro (inn_nI (by omega) (by decide)) ?_
      refine And.intro (inn_nI (by omega) (by decide)) ?_
      exact And.intro (by simp [h1, bI_0.mp c2]) (And.intro (by first | (simp [h1, bI_0.mp c2]; done) | (simp [h1, bI_0.mp c2]; rfl)) (by first | rfl | simp [h1, bI_0.mp c2]))
    · exact And.intro (by simp [h1, bI_n0.mp c2]) (And.intro (by first | (simp [h1, bI_n0.mp c2]; done) | (simp [h1, bI_n0.mp c2]; rfl)) (by first | rfl | simp [h1, bI_n0.mp c2]))
  · exact And.intro (by simp [bI_0.mp c1]) (And.intro (by first | (simp [bI_0.mp c1]; done) | (simp [bI_0.mp c1]; rfl)) (by first | rfl | simp [bI_0.mp c1]))
theorem c_M_clear (n : Nat) (hn : n ≤ 40) (hI : I 12 78 = nI n) (r : Int32) : Con g SHc (d + 2) 226 [.ref 12, .int r] I D (EqP (some (.int (if wi r 0 5 = true then (if usF (I 124) (I 128) r n = true then -3 else I 117 r.toNatClampNeg) else -2))) (if wi r 0 5 = true then (if usF (I 124) (I 128) r n = true then I else up2 I 117 r.toNatClampNeg 0) else I) D) := by
  refine Con.mk (LV := v_M_clear) k_M_clear (Nat.le_of_ble_eq_true rfl) (fun K hK => ?_)
  refine hK (0, 37, o_M_clear_0) (List.mem_of_getElem? (i := 0) rfl) _ _ _ _ ?_
  refine call_eq (c_M_isRoute g d I D r) ?_
  refine And.intro (fun c1 => ?_) (fun c1 => ?_)
  · have h1 := bI_n0.mp c1
    obtain ⟨j, hj, rfl⟩ := wi_nI (m := 5) (by decide) h1
    refine call_eq (c_M_isStarted g (d + 1) I D n hn hI _) ?_
    refine And.intro (fun c2 => ?_) (fun c2 => ?_)
    · refine And.intro (inn_nI (by omega) (by decide)) ?_
      refine And.intro (inn_nI (by omega) (by decide)) ?_
      exact And.intro (by simp [h1, bI_0.mp c2]) (And.intro (by first | (simp [h1, bI_0.mp c2]; done) | (simp [h1, bI_0.mp c2]; rfl)) (by first | rfl | simp [h1, bI_0.mp c2]))
    · exact And.intro (by simp [h1, bI_n0.mp c2]) (And.intro (by first | (simp [h1, bI_n0.mp c2]; done) | (simp [h1, bI_n0.mp c2]; rfl)) (by first | rfl | simp [h1, bI_n0.mp c2]))
  · exact And.intro (by simp [bI_0.mp c1]) (And.intro (by first | (simp [bI_0.mp c1]; done) | (simp [bI_0.mp c1]; rfl)) (by first | rfl | simp [bI_0.mp c1]))
/-- a PASSAGE is told -/
def psg (a b c w s t tk tj : Nat) (I : MI) (sh rt mi nw : Int32) : MI := up2 (agn w s t (up2 (up2 (up2 I a (I tk tj).toNatClampNeg sh) b (I tk tj).toNatClampNeg rt) c (I tk tj).toNatClampNeg mi) (I tk tj).toNatClampNeg nw) tk tj (I tk tj + 1)
theorem c_X_padd (n : Nat) (hn : n ≤ 40) (hI : I 11 13 = nI n) (sh rt mi nw : Int32) : Con g SHc (d + 1) 125 [.ref 11, .int sh, .int rt, .int mi, .int nw] I D (EqP (some (.int (if n < 40 then nI n else -4))) (if n < 40 then psg 62 63 64 67 65 66 11 13 I sh rt mi nw else I) D) := by
  refine Con.mk (LV := v_Passages_add) k_Passages_add (Nat.le_of_ble_eq_true rfl) (fun K hK => ?_)
  refine hK (0, 69, o_Passages_add_0) (List.mem_of_getElem? (i := 0) rfl) _ _ _ _ ?_
  refine And.intro (fun c1 => ?_) (fun c1 => ?_)
  · rw [hI] at c1
    have c1 : n < 40 := (nI_ltI (by omega) (by decide)).mp c1
    have hI0 : ∀ z : MI, z 11 13 = nI n → inn (z 11 13) 40 := fun z h => by rw [h]; exact inn_nI c1 (by decide)
    rw [if_pos c1, if_pos c1]
    refine And.intro (hI0 I hI) ?_
    refine And.intro (hI0 _ hI) ?_
    refine And.intro (hI0 _ hI) ?_
    have hz : ∀ (z : MI) (k : Po), z 11 13 = nI n → k none (agn 67 65 66 z (z 11 13).toNatClampNeg nw) D → CaD g SHc (d + 1) 126 [.ref 11, .int (z 11 13), .int nw] z D k := by
      intro z k h1 h2
      rw [h1] at h2 ⊢
      rw [nI_clamp (by omega)] at h2
      exact call_eq (c_X_letWait g d z D n (by omega) nw) h2
    refine hz _ _ hI ?_
    refine And.intro ?_ (And.intro rfl rfl)
    rw [up2_at]
    exact congrArg (fun z => some (Value.int z)) ((congrArg (fun z : Int32 => z + 1 - 1) hI).trans (by rw [nI_1, nI_pred]))
  · rw [hI] at c1
    have c1 : ¬ n < 40 := fun h => c1 ((nI_ltI (by omega) (by decide)).mpr h)
    rw [if_neg c1, if_neg c1]
    exact And.intro rfl (And.intro rfl rfl)
theorem c_X_passage (n m : Nat) (hn : n ≤ 40) (hm : m ≤ 40) (hI : I 11 13 = nI n) (hS : I 6 9 = nI m) (sh rt mi : Int32) : Con g SHc (d + 2) 124 [.ref 0, .int sh, .int rt, .int mi] I D (EqP (some (.int (if (ix sh (nI m) && wi rt 0 5 && wi mi 0 43199) = true then (if n < 40 then nI n else -4) else -2))) (if (ix sh (nI m) && wi rt 0 5 && wi mi 0 43199) = true then (if n < 40 then psg 62 63 64 67 65 66 11 13 I sh rt mi (I 0 11) else I) else I) D) := by
  refine Con.mk (LV := v_X_passage) k_X_passage (Nat.le_of_ble_eq_true rfl) (fun K hK => ?_)
  refine hK (0, 40, o_X_passage_0) (List.mem_of_getElem? (i := 0) rfl) _ _ _ _ ?_
  refine call_eq (c_X_isShip g (d + 1) I D sh) ?_
  rw [hS]
  refine And.intro (fun c1 => ?_) (fun c1 => ?_)
  · exact And.intro (by simp [bI_0.mp c1, ix]) (And.intro (by first | (simp [bI_0.mp c1, ix]; done) | (simp [bI_0.mp c1, ix]; rfl)) (by first | rfl | simp [bI_0.mp c1, ix]))
  refine call_eq (c_X_isRoute g (d + 1) I D rt) ?_
  refine And.intro (fun c2 => ?_) (fun c2 => ?_)
  · exact And.intro (by simp [bI_0.mp c2]) (And.intro (by first | (simp [bI_0.mp c2]; done) | (simp [bI_0.mp c2]; rfl)) (by first | rfl | simp [bI_0.mp c2]))
  refine call_eq (c_X_isMinute g (d + 1) I D mi) ?_
  have h1 : ix sh (nI m) = true := bI_n0.mp c1
  refine And.intro (fun c3 => ?_) (fun c3 => ?_)
  · refine call_eq (c_X_padd g d I D n hn hI _ _ _ _) ?_
    exact And.intro (by simp [h1, bI_n0.mp c2, bI_n0.mp c3]) (And.intro (by first | (simp [h1, bI_n0.mp c2, bI_n0.mp c3]; done) | (simp [h1, bI_n0.mp c2, bI_n0.mp c3]; rfl)) (by first | rfl | simp [h1, bI_n0.mp c2, bI_n0.mp c3]))
  · exact And.intro (by simp [bI_0.mp c3]) (And.intro (by first | (simp [bI_0.mp c3]; done) | (simp [bI_0.mp c3]; rfl)) (by first | rfl | simp [bI_0.mp c3]))
theorem c_M_passage (n m : Nat) (hn : n ≤ 40) (hm : m ≤ 40) (hI : I 12 78 = nI n) (hS : I 12 49 = nI m) (sh rt mi : Int32) : Con g SHc (d + 2) 237 [.ref 12, .int sh, .int rt, .int mi] I D (EqP (some (.int (if (ix sh (nI m) && wi rt 0 5 && wi mi 0 43199) = true then (if n < 40 then nI n else -4) else -2))) (if (ix sh (nI m) && wi rt 0 5 && wi mi 0 43199) = true then (if n < 40 then psg 123 124 125 126 127 128 12 78 I sh rt mi (I 12 0) else I) else I) D) := by
  refine Con.mk (LV := v_M_passage) k_M_passage (Nat.le_of_ble_eq_true rfl) (fun K hK => ?_)
  refine hK (0, 117, o_M_passage_0) (List.mem_of_getElem? (i := 0) rfl) _ _ _ _ ?_
  refine call_eq (c_M_isShip g d I D sh) ?_
  rw [hS, ix_wi (by omega)]
  refine And.intro (fun c1 => ?_) (fun c1 => ?_)
  · exact And.intro (by simp [bI_0.mp c1]) (And.intro (by first | (simp [bI_0.mp c1]; done) | (simp [bI_0.mp c1]; rfl)) (by first | rfl | simp [bI_0.mp c1]))
  refine call_eq (c_M_isRoute g d I D rt) ?_
  refine And.intro (fun c2 => ?_) (fun c2 => ?_)
  · exact And.intro (by simp [bI_0.mp c2]) (And.intro (by first | (simp [bI_0.mp c2]; done) | (simp [bI_0.mp c2]; rfl)) (by first | rfl | simp [bI_0.mp c2]))
  refine call_eq (c_M_isMinute g d I D mi) ?_
  refine And.intro (fun c3 => ?_) (fun c3 => ?_)
  · rw [bI_n0.mp c1, bI_n0.mp c2, bI_n0.mp c3]
    refine And.intro (fun c4 => ?_) (fun c4 => ?_)
    · rw [hI] at c4
      have c4 : n < 40 := by
        rcases Nat.lt_or_ge n 40 with h | h
        · exact h
        · exact absurd (by rw [show n = 40 by omega]; rfl) c4
      have hI0 : ∀ z : MI, z 12 78 = nI n → inn (z 12 78) 40 := fun z h => by rw [h]; exact inn_nI c4 (by decide)
      refine And.intro (hI0 I hI) ?_
      refine And.intro (hI0 _ hI) ?_
      refine And.intro (hI0 _ hI) ?_
      refine And.intro (hI0 _ hI) ?_
      refine And.intro (hI0 _ hI) ?_
      refine And.intro (hI0 _ hI) ?_
      refine And.intro ?_ (And.intro ?_ rfl)
      · rw [up2_at]
        refine (congrArg (fun z => some (Value.int z)) ((congrArg (fun z : Int32 => z + 1 - 1) hI).trans (by rw [nI_1, nI_pred]))).trans ?_
        simp [c4]
      · simp [c4]
        rfl
    · rw [hI] at c4
      have c5 : n = 40 := (nI_eq (a := n) (b := 40) (by omega) (by decide)).mp c4
      have c4 : ¬ n < 40 := by omega
      exact And.intro (by simp [c4]) (And.intro (by first | (simp [c4]; done) | (simp [c4]; rfl)) (by first | rfl | simp [c4]))
  · exact And.intro (by simp [bI_0.mp c3]) (And.intro (by first | (simp [bI_0.mp c3]; done) | (simp [bI_0.mp c3]; rfl)) (by first | rfl | simp [bI_0.mp c3]))
end S29
end
section
/-! FLOATS by their BITS -/
theorem u32_of (b : Int32) : (b.toUInt32.toNat : Int) = if 0 ≤ b.toInt then b.toInt else b.toInt + 2 ^ 32 := by
  have h1 := Int32.le_toInt b
  have h2 := Int32.toInt_lt b
  have e : b.toInt = (b.toUInt32.toNat : Int).bmod (2 ^ 32) := by
    show b.toBitVec.toInt = (b.toBitVec.toNat : Int).bmod (2 ^ 32)
    exact BitVec.toInt_eq_toNat_bmod _
  have h3 : b.toUInt32.toNat < 2 ^ 32 := b.toUInt32.toNat_lt
  rw [e]
  rw [Int.bmod_def]
  split <;> split <;> omega
theorem and_abs (b : Int32) : (b &&& 2147483647).toInt = ((b.toUInt32.toNat % 2 ^ 31 : Nat) : Int) := by
  have h := pk_and b (m := 2147483647) 31 (by decide)
  rw [h, nI_toInt (Nat.mod_lt _ (by decide))]
  rfl
theorem noF_val {b : Int32} : noF b = false ↔ FP.Core.val32 b.toUInt32 ≠ .nan := by
  rw [FP.Core.ne_nan32]
  unfold noF
  rw [decide_eq_false_iff_not, i32_lt, and_abs]
  have : ((2139095040 : Int32)).toInt = 2139095040 := by decide
  omega
/-- a whole number that stands among others as the FLOAT does -/
def ordI (b : Int32) : Int32 := if 0 ≤ b then b else -(b &&& 2147483647)
theorem ord_key (b : Int32) : (ordI b).toInt = FP.Core.fkey b.toUInt32 := by
  have h1 := u32_of b
  have h2 := and_abs b
  have h3 : b.toUInt32.toNat < 2 ^ 32 := b.toUInt32.toNat_lt
  have h4 := Int32.le_toInt b
  have h5 := Int32.toInt_lt b
  have e0 : ((0 : Int32)).toInt = 0 := by decide
  unfold ordI FP.Core.fkey
  by_cases h : 0 ≤ b
  · rw [if_pos h]
    rw [i32_le, e0] at h
    rw [if_pos h] at h1
    rw [if_neg (by omega)]
    exact h1.symm
  · rw [if_neg h]
    rw [i32_le, e0] at h
    rw [if_neg h] at h1
    rw [if_pos (by omega), Int32.toInt_neg, h2]
    rw [Int.bmod_eq_of_le (by omega) (by omega)]
    omega
theorem fcmp_ord {a b : Int32} (ha : noF a = false) (hb : noF b = false) : FP.fcmp a.toUInt32 b.toUInt32 = some (compare (ordI a).toInt (ordI b).toInt) := by
  have h := FP.Core.fcmp_key (noF_val.mp ha) (noF_val.mp hb)
  rw [ord_key, ord_key]
  exact h
theorem fcmp_no {a b : UInt32} (h : FP.Core.val32 a = .nan ∨ FP.Core.val32 b = .nan) : FP.fcmp a b = none := by
  show FP.Core.order (FP.Core.val32 a) (FP.Core.val32 b) = none
  rcases h with h | h
  · rw [h]
    cases FP.Core.val32 b <;> rfl
  · rw [h]
    cases FP.Core.val32 a <;> rfl
theorem noF_nan {b : Int32} (h : noF b = true) : FP.Core.val32 b.toUInt32 = .nan := by
  rcases Classical.em (FP.Core.val32 b.toUInt32 = .nan) with h1 | h1
  · exact h1
  · rw [noF_val.mpr h1] at h
    cases h
/-- the six questions of compare() together -/
def cmpR (a b : Int32) : Int32 := if (noF a || noF b) = true then 32 else if ordI a < ordI b then 35 else if ordI b < ordI a then 44 else 26
theorem sn_of {a : Int32} (h : noF a = true → a = 2143289344) : vn_sni2f a = false := by
  cases h1 : noF a with
  | true =>
    rw [h h1]
    decide
  | false =>
    unfold vn_sni2f
    have h2 := (FP.Core.ne_nan32 a.toUInt32).mp (noF_val.mp h1)
    have h3 : ¬ (a.toUInt32 &&& 0x7fffffff > 0x7f800000) := by
      rw [gt_iff_lt, UInt32.lt_iff_toNat_lt, UInt32.toNat_and]
      have e1 : (0x7fffffff : UInt32).toNat = 2 ^ 31 - 1 := by decide
      rw [e1, Nat.and_two_pow_sub_one_eq_mod]
      have e2 : (0x7f800000 : UInt32).toNat = 2139095040 := by decide
      omega
    simp [h3]
section S31
variable (g : Gp) (d : Nat) (I : MI) (D : MD)
theorem c_X_orderOf (a : Int32) : Con g SHc d 34 [.int a] I D (EqP (some (.int (ordI a))) I D) := by
  refine Con.mk (LV := v_X_orderOf) k_X_orderOf (Nat.le_of_ble_eq_true rfl) (fun K hK => ?_)
  refine hK (0, 15, o_X_orderOf_0) (List.mem_of_getElem? (i := 0) rfl) _ _ _ _ ?_
  refine And.intro (fun c => ?_) (fun c => ?_)
  · exact And.intro (by simp [ordI, i32_nle.mpr c]) (And.intro (by first | (simp [ordI, i32_nle.mpr c]; done) | (simp [ordI, i32_nle.mpr c]; rfl)) (by first | rfl | simp [ordI, i32_nle.mpr c]))
  · exact And.intro (by simp [ordI, i32_nlt.mp c]) (And.intro (by first | (simp [ordI, i32_nlt.mp c]; done) | (simp [ordI, i32_nlt.mp c]; rfl)) (by first | rfl | simp [ordI, i32_nlt.mp c]))
theorem c_X_relationsOf (a b : Int32) : Con g SHc (d + 1) 33 [.int a, .int b] I D (EqP (some (.int (cmpR a b))) I D) := by
  refine Con.mk (LV := v_X_relationsOf) k_X_relationsOf (Nat.le_of_ble_eq_true rfl) (fun K hK => ?_)
  refine hK (0, 48, o_X_relationsOf_0) (List.mem_of_getElem? (i := 0) rfl) _ _ _ _ ?_
  refine call_eq (c_X_isNoFloat g d I D a) ?_
  refine And.intro (fun c1 => ?_) (fun c1 => ?_)
  · exact And.intro (by simp [cmpR, bI_n0.mp c1]) (And.intro (by first | (simp [cmpR, bI_n0.mp c1]; done) | (simp [cmpR, bI_n0.mp c1]; rfl)) (by first | rfl | simp [cmpR, bI_n0.mp c1]))
  refine call_eq (c_X_isNoFloat g d I D b) ?_
  refine And.intro (fun c2 => ?_) (fun c2 => ?_)
  · refine call_eq (c_X_orderOf g d I D a) ?_
    refine call_eq (c_X_orderOf g d I D b) ?_
    refine And.intro (fun c3 => ?_) (fun c3 => ?_)
    · refine And.intro (fun c4 => ?_) (fun c4 => ?_)
      · exact And.intro (by simp [cmpR, bI_0.mp c1, bI_0.mp c2, i32_nlt.mpr c3, i32_nlt.mpr c4]) (And.intro (by first | (simp [cmpR, bI_0.mp c1, bI_0.mp c2, i32_nlt.mpr c3, i32_nlt.mpr c4]; done) | (simp [cmpR, bI_0.mp c1, bI_0.mp c2, i32_nlt.mpr c3, i32_nlt.mpr c4]; rfl)) (by first | rfl | simp [cmpR, bI_0.mp c1, bI_0.mp c2, i32_nlt.mpr c3, i32_nlt.mpr c4]))
      · exact And.intro (by simp [cmpR, bI_0.mp c1, bI_0.mp c2, i32_nlt.mpr c3, i32_nle.mp c4]) (And.intro (by first | (simp [cmpR, bI_0.mp c1, bI_0.mp c2, i32_nlt.mpr c3, i32_nle.mp c4]; done) | (simp [cmpR, bI_0.mp c1, bI_0.mp c2, i32_nlt.mpr c3, i32_nle.mp c4]; rfl)) (by first | rfl | simp [cmpR, bI_0.mp c1, bI_0.mp c2, i32_nlt.mpr c3, i32_nle.mp c4]))
    · exact And.intro (by simp [cmpR, bI_0.mp c1, bI_0.mp c2, i32_nle.mp c3]) (And.intro (by first | (simp [cmpR, bI_0.mp c1, bI_0.mp c2, i32_nle.mp c3]; done) | (simp [cmpR, bI_0.mp c1, bI_0.mp c2, i32_nle.mp c3]; rfl)) (by first | rfl | simp [cmpR, bI_0.mp c1, bI_0.mp c2, i32_nle.mp c3]))
  · exact And.intro (by simp [cmpR, bI_n0.mp c2]) (And.intro (by first | (simp [cmpR, bI_n0.mp c2]; done) | (simp [cmpR, bI_n0.mp c2]; rfl)) (by first | rfl | simp [cmpR, bI_n0.mp c2]))
/-- what the machine's compares of two FLOATS give, for the four ways they can stand -/
theorem cmp4 (a b : Int32) : (cmpR a b = 35 ∧ Op.cmpValue (FP.fcmp a.toUInt32 b.toUInt32) .g = -1 ∧ Op.cmpValue (FP.fcmp a.toUInt32 b.toUInt32) .l = -1) ∨ (cmpR a b = 44 ∧ Op.cmpValue (FP.fcmp a.toUInt32 b.toUInt32) .g = 1 ∧ Op.cmpValue (FP.fcmp a.toUInt32 b.toUInt32) .l = 1) ∨ (cmpR a b = 26 ∧ Op.cmpValue (FP.fcmp a.toUInt32 b.toUInt32) .g = 0 ∧ Op.cmpValue (FP.fcmp a.toUInt32 b.toUInt32) .l = 0) ∨ (cmpR a b = 32 ∧ Op.cmpValue (FP.fcmp a.toUInt32 b.toUInt32) .g = 1 ∧ Op.cmpValue (FP.fcmp a.toUInt32 b.toUInt32) .l = -1) := by
  unfold cmpR
  cases ha : noF a with
  | true =>
    rw [fcmp_no (Or.inl (noF_nan ha))]
    exact Or.inr (Or.inr (Or.inr ⟨rfl, rfl, rfl⟩))
  | false =>
    cases hb : noF b with
    | true =>
      rw [fcmp_no (Or.inr (noF_nan hb))]
      exact Or.inr (Or.inr (Or.inr ⟨rfl, rfl, rfl⟩))
    | false =>
      rw [fcmp_ord ha hb]
      rw [if_neg (by decide)]
      by_cases h1 : ordI a < ordI b
      · rw [if_pos h1]
        rw [i32_lt] at h1
        rw [Int.compare_eq_lt.mpr h1]
        exact Or.inl ⟨rfl, rfl, rfl⟩
      · rw [if_neg h1]
        by_cases h2 : ordI b < ordI a
        · rw [if_pos h2]
          rw [i32_lt] at h2
          rw [Int.compare_eq_gt.mpr h2]
          exact Or.inr (Or.inl ⟨rfl, rfl, rfl⟩)
        · rw [if_neg h2]
          rw [i32_lt] at h1 h2
          rw [show compare (ordI a).toInt (ordI b).toInt = .eq from Int.compare_eq_eq.mpr (by omega)]
          exact Or.inr (Or.inr (Or.inl ⟨rfl, rfl, rfl⟩))
end S31
end
section
section S32
variable (g : Gp) (d : Nat) (I : MI) (D : MD)
theorem c_X_compare (n : Nat) (hn : n ≤ 10) (hI : I 3 9 = nI n) (hs : ∀ j, j < n → ∃ r, r ≤ 120 ∧ I 26 j = nI r) (ga i k : Int32) : Con g SHc (d + 2) 32 [.ref 0, .int ga, .int i, .int k] I D (EqP (some (.int (if ix ga (nI n) = true then (if 3000 ≤ I 1 0 then -4 else (if I 25 ga.toNatClampNeg = 0 then (if ix i (I 26 ga.toNatClampNeg) = true then (if ix k (I 26 ga.toNatClampNeg) = true then cmpR (I 28 (120 * ga.toNatClampNeg + i.toNatClampNeg)) (I 28 (120 * ga.toNatClampNeg + k.toNatClampNeg)) else -12) else -12) else -11)) else -2))) (if ix ga (nI n) = true then (if 3000 ≤ I 1 0 then I else (if I 25 ga.toNatClampNeg = 0 then (if ix i (I 26 ga.toNatClampNeg) = true then (if ix k (I 26 ga.toNatClampNeg) = true then I else tellX 2 I) else tellX 2 I) else tellX 1 I)) else I) D) := by
  refine Con.mk (LV := v_X_compare) k_X_compare (Nat.le_of_ble_eq_true rfl) (fun K hK => ?_)
  refine hK (0, 98, o_X_compare_0) (List.mem_of_getElem? (i := 0) rfl) _ _ _ _ ?_
  refine call_eq (c_X_isGauge g (d + 1) I D ga) ?_
  rw [hI]
  refine And.intro (fun c1 => ?_) (fun c1 => ?_)
  · have h1 : ix ga (nI n) = true := bI_n0.mp c1
    obtain ⟨j, hj, rfl⟩ := ix_nI (by omega) h1
    have hc : (nI j).toNatClampNeg = j := nI_clamp (by omega)
    obtain ⟨r, hr, he⟩ := hs j hj
    rw [h1, hc]
    refine call_eq (c_X_areSpent g (d + 1) I D) ?_
    refine And.intro (fun c2 => ?_) (fun c2 => ?_)
    · have h2 : ¬ 3000 ≤ I 1 0 := of_decide_eq_false (bI_0.mp c2)
      refine call_eq (c_X_faultAt g (d + 1) I D j (by omega) i) ?_
      rw [he]
      by_cases c3 : I 25 j = 0
      · rw [c3]
        by_cases c4 : ix i (nI r) = true
        · obtain ⟨u, hu, rfl⟩ := ix_nI (by omega) c4
          simp only [c4, if_true, if_pos]
          refine And.intro (fun h => absurd rfl h) (fun _ => ?_)
          refine call_eq (c_X_faultAt g (d + 1) I D j (by omega) k) ?_
          rw [he, c3]
          by_cases c5 : ix k (nI r) = true
          · obtain ⟨w, hw, rfl⟩ := ix_nI (by omega) c5
            simp only [c5, if_true, if_pos]
            refine And.intro (fun _ => ?_) (fun h => absurd rfl h)
            have e1 : nI j * 120 + nI u = nI (120 * j + u) := by rw [show (120 : Int32) = nI 120 from rfl, pk_mul, nI_add, Nat.mul_comm]
            have e2 : nI j * 120 + nI w = nI (120 * j + w) := by rw [show (120 : Int32) = nI 120 from rfl, pk_mul, nI_add, Nat.mul_comm]
            refine And.intro (by rw [e1]; exact inn_nI (by omega) (by decide)) ?_
            refine And.intro (by rw [e2]; exact inn_nI (by omega) (by decide)) ?_
            rw [e1, e2, nI_clamp (show 120 * j + u < 2 ^ 31 by omega), nI_clamp (show 120 * j + w < 2 ^ 31 by omega)]
            refine call_eq (c_X_relationsOf g d I D _ _) ?_
            exact And.intro (by simp [nI_clamp (show u < 2 ^ 31 by omega), nI_clamp (show w < 2 ^ 31 by omega), c4, c5, h2]) (And.intro (by first | (simp [nI_clamp (show u < 2 ^ 31 by omega), nI_clamp (show w < 2 ^ 31 by omega), c4, c5, h2]; done) | (simp [nI_clamp (show u < 2 ^ 31 by omega), nI_clamp (show w < 2 ^ 31 by omega), c4, c5, h2]; rfl)) (by first | rfl | simp [nI_clamp (show u < 2 ^ 31 by omega), nI_clamp (show w < 2 ^ 31 by omega), c4, c5, h2]))
          · simp only [c5, if_true, if_false]
            refine And.intro (fun h => absurd h (by decide)) (fun _ => ?_)
            refine call_eq (c_X_tell g (d + 1) I D _) ?_
            exact And.intro (by simp [c4, c5, h2]) (And.intro (by first | (simp [c4, c5, h2]; done) | (simp [c4, c5, h2]; rfl)) (by first | rfl | simp [c4, c5, h2]))
        · simp only [c4, if_true, if_false]
          refine And.intro (fun _ => ?_) (fun h => absurd h (by decide))
          refine And.intro (fun h => absurd h (by decide)) (fun _ => ?_)
          refine call_eq (c_X_tell g (d + 1) I D _) ?_
          exact And.intro (by simp [c4, h2]) (And.intro (by first | (simp [c4, h2]; done) | (simp [c4, h2]; rfl)) (by first | rfl | simp [c4, h2]))
      · simp only [c3, if_false]
        refine And.intro (fun _ => ?_) (fun h => absurd h (by decide))
        refine And.intro (fun h => absurd h (by decide)) (fun _ => ?_)
        refine call_eq (c_X_tell g (d + 1) I D _) ?_
        exact And.intro (by simp [c3, h2]) (And.intro (by first | (simp [c3, h2]; done) | (simp [c3, h2]; rfl)) (by first | rfl | simp [c3, h2]))
    · exact And.intro (by simp [of_decide_eq_true (bI_n0.mp c2)]) (And.intro (by first | (simp [of_decide_eq_true (bI_n0.mp c2)]; done) | (simp [of_decide_eq_true (bI_n0.mp c2)]; rfl)) (by first | rfl | simp [of_decide_eq_true (bI_n0.mp c2)]))
  · exact And.intro (by simp [bI_0.mp c1, ix]) (And.intro (by first | (simp [bI_0.mp c1, ix]; done) | (simp [bI_0.mp c1, ix]; rfl)) (by first | rfl | simp [bI_0.mp c1, ix]))
theorem c_M_compare (n : Nat) (hn : n ≤ 10) (hI : I 12 18 = nI n) (hs : ∀ j, j < n → ∃ r, r ≤ 120 ∧ I 87 j = nI r) (ha : ∀ j k, j < n → nI k < I 87 j → k < 120 → noF (I 89 (120 * j + k)) = true → I 89 (120 * j + k) = 2143289344) (ga i k : Int32) : Con g SHc (d + 2) 175 [.ref 12, .int ga, .int i, .int k] I D (EqP (some (.int (if ix ga (nI n) = true then (if 3000 ≤ I 12 2 then -4 else (if I 86 ga.toNatClampNeg = 0 then (if ix i (I 87 ga.toNatClampNeg) = true then (if ix k (I 87 ga.toNatClampNeg) = true then cmpR (I 89 (120 * ga.toNatClampNeg + i.toNatClampNeg)) (I 89 (120 * ga.toNatClampNeg + k.toNatClampNeg)) else -12) else -12) else -11)) else -2))) (if ix ga (nI n) = true then (if 3000 ≤ I 12 2 then I else (if I 86 ga.toNatClampNeg = 0 then (if ix i (I 87 ga.toNatClampNeg) = true then (if ix k (I 87 ga.toNatClampNeg) = true then I else tellM 2 I) else tellM 2 I) else tellM 1 I)) else I) D) := by
  refine Con.mk (LV := v_M_compare) k_M_compare (Nat.le_of_ble_eq_true rfl) (fun K hK => ?_)
  refine hK (0, 182, o_M_compare_0) (List.mem_of_getElem? (i := 0) rfl) _ _ _ _ ?_
  refine call_eq (c_M_isGauge g d I D ga) ?_
  rw [hI, ix_wi (by omega)]
  refine And.intro (fun c1 => ?_) (fun c1 => ?_)
  · have h1 : ix ga (nI n) = true := bI_n0.mp c1
    obtain ⟨j, hj, rfl⟩ := ix_nI (by omega) h1
    have hc : (nI j).toNatClampNeg = j := nI_clamp (by omega)
    obtain ⟨r, hr, he⟩ := hs j hj
    rw [h1, hc]
    refine call_eq (c_M_isFull g (d + 1) I D) ?_
    refine And.intro (fun c2 => ?_) (fun c2 => ?_)
    · have h2 : ¬ 3000 ≤ I 12 2 := of_decide_eq_false (bI_0.mp c2)
      refine call_eq (c_M_reads g d I D j r (by omega) (by omega) he i) ?_
      rw [he]
      by_cases c3 : I 86 j = 0
      · rw [c3]
        by_cases c4 : ix i (nI r) = true
        · obtain ⟨u, hu, rfl⟩ := ix_nI (by omega) c4
          simp only [c4, if_true, if_pos]
          refine And.intro (fun h => absurd rfl h) (fun _ => ?_)
          refine call_eq (c_M_reads g d I D j r (by omega) (by omega) he k) ?_
          rw [he, c3]
          by_cases c5 : ix k (nI r) = true
          · obtain ⟨w, hw, rfl⟩ := ix_nI (by omega) c5
            simp only [c5, if_true, if_pos]
            refine And.intro (fun _ => ?_) (fun h => absurd rfl h)
            have e1 : 120 * nI j + nI u = nI (120 * j + u) := nI_lin' 120 j u
            have e2 : 120 * nI j + nI w = nI (120 * j + w) := nI_lin' 120 j w
            refine And.intro (by rw [e1]; exact inn_nI (by omega) (by decide)) ?_
            rw [e1, nI_clamp (show 120 * j + u < 2 ^ 31 by omega)]
            refine And.intro (sn_of (ha j u hj (by rw [he]; exact nI_lt hu (by omega)) (by omega))) ?_
            refine And.intro (by rw [e2]; exact inn_nI (by omega) (by decide)) ?_
            rw [e2, nI_clamp (show 120 * j + w < 2 ^ 31 by omega)]
            refine And.intro (sn_of (ha j w hj (by rw [he]; exact nI_lt hw (by omega)) (by omega))) ?_
            clear hK
            rcases cmp4 (I 89 (120 * j + u)) (I 89 (120 * j + w)) with ⟨z, hg, hl⟩ | ⟨z, hg, hl⟩ | ⟨z, hg, hl⟩ | ⟨z, hg, hl⟩
            all_goals (repeat' (first | (refine And.intro (fun h => absurd h (by first | (rw [hg]; decide) | (rw [hl]; decide))) (fun _ => ?_)) | (refine And.intro (fun _ => ?_) (fun h => absurd h (by first | (rw [hg]; decide) | (rw [hl]; decide)))) | fail))
            all_goals exact And.intro (by simp [z, nI_clamp (show u < 2 ^ 31 by omega), nI_clamp (show w < 2 ^ 31 by omega), c4, c5, h2]) (And.intro (by simp [c4, c5, h2]) rfl)
          · simp only [c5, if_true, if_false]
            refine And.intro (fun h => absurd h (by decide)) (fun _ => ?_)
            refine call_eq (c_M_fails g (d + 1) I D _) ?_
            exact And.intro (by simp [c4, c5, h2]) (And.intro (by first | (simp [c4, c5, h2]; done) | (simp [c4, c5, h2]; rfl)) (by first | rfl | simp [c4, c5, h2]))
        · simp only [c4, if_true, if_false]
          refine And.intro (fun _ => ?_) (fun h => absurd h (by decide))
          refine And.intro (fun h => absurd h (by decide)) (fun _ => ?_)
          refine call_eq (c_M_fails g (d + 1) I D _) ?_
          exact And.intro (by simp [c4, h2]) (And.intro (by first | (simp [c4, h2]; done) | (simp [c4, h2]; rfl)) (by first | rfl | simp [c4, h2]))
      · simp only [c3, if_false]
        refine And.intro (fun _ => ?_) (fun h => absurd h (by decide))
        refine And.intro (fun h => absurd h (by decide)) (fun _ => ?_)
        refine call_eq (c_M_fails g (d + 1) I D _) ?_
        exact And.intro (by simp [c3, h2]) (And.intro (by first | (simp [c3, h2]; done) | (simp [c3, h2]; rfl)) (by first | rfl | simp [c3, h2]))
    · exact And.intro (by simp [of_decide_eq_true (bI_n0.mp c2)]) (And.intro (by first | (simp [of_decide_eq_true (bI_n0.mp c2)]; done) | (simp [of_decide_eq_true (bI_n0.mp c2)]; rfl)) (by first | rfl | simp [of_decide_eq_true (bI_n0.mp c2)]))
  · exact And.intro (by simp [bI_0.mp c1]) (And.intro (by first | (simp [bI_0.mp c1]; done) | (simp [bI_0.mp c1]; rfl)) (by first | rfl | simp [bI_0.mp c1]))
theorem c_X_rule (w v : Int32) : Con g SHc (d + 1) 35 [.ref 0, .int w, .int v] I D (EqP (some (.int (if (decide (w = 0) && wi v 1 9) = true then I 3 10 else if (decide (w = 1) && wi v 1 48) = true then I 3 11 else if (decide (w = 2) && wi v 1 60) = true then I 5 7 else -2))) (if (decide (w = 0) && wi v 1 9) = true then up2 I 3 10 v else if (decide (w = 1) && wi v 1 48) = true then up2 I 3 11 v else if (decide (w = 2) && wi v 1 60) = true then up2 I 5 7 v else I) D) := by
  refine Con.mk (LV := v_X_rule) k_X_rule (Nat.le_of_ble_eq_true rfl) (fun K hK => ?_)
  refine hK (0, 103, o_X_rule_0) (List.mem_of_getElem? (i := 0) rfl) _ _ _ _ ?_
  clear hK
  repeat' (first | (refine And.intro (fun _ => ?_) (fun _ => ?_)) | (refine call_eq (c_X_isWithin g _ _ _ _ _ _) ?_) | (refine call_eq (c_X_isMoment g _ _ _ _) ?_) | (refine call_eq (c_X_isDay g _ _ _ _) ?_) | (refine call_eq (c_X_isMinute g _ _ _ _) ?_) | (refine call_eq (c_X_isStation g _ _ _ _) ?_) | (refine call_eq (c_X_isFleet g _ _ _ _) ?_) | (refine call_eq (c_X_isRoute g _ _ _ _) ?_) | (refine call_eq (c_X_isGauge g _ _ _ _) ?_) | (refine call_eq (c_X_isShoal g _ _ _ _) ?_) | (refine call_eq (c_X_isShip g _ _ _ _) ?_) | (refine call_eq (c_X_isPassage g _ _ _ _) ?_) | (refine call_eq (c_X_isShipOrNothing g _ _ _ _) ?_) | (refine call_eq (c_X_isPast g _ _ _ _) ?_) | (refine call_eq (c_X_isBed g _ _ _ _) ?_) | (refine call_eq (c_X_areSpent g _ _ _) ?_) | (refine call_eq (c_X_tell g _ _ _ _) ?_) | (refine call_eq (c_X_isNoFloat g _ _ _ _) ?_) | (refine call_eq (c_X_isMark g _ _ _ _) ?_) | (refine And.intro (fun _ => ?_) ?_) | intro _)
  all_goals (refine And.intro ?_ (And.intro ?_ ?_) <;> (first | rfl | (simp_all [bI_0, bI_n0]; done) | (simp_all [bI_0, bI_n0, i32_lt, i32_le] <;> omega)))
theorem c_M_rule (w v : Int32) : Con g SHc (d + 1) 176 [.ref 12, .int w, .int v] I D (EqP (some (.int (if (decide (w = 0) && wi v 1 9) = true then I 12 26 else if (decide (w = 1) && wi v 1 48) = true then I 12 27 else if (decide (w = 2) && wi v 1 60) = true then I 12 28 else -2))) (if (decide (w = 0) && wi v 1 9) = true then up2 I 12 26 v else if (decide (w = 1) && wi v 1 48) = true then up2 I 12 27 v else if (decide (w = 2) && wi v 1 60) = true then up2 I 12 28 v else I) D) := by
  refine Con.mk (LV := v_M_rule) k_M_rule (Nat.le_of_ble_eq_true rfl) (fun K hK => ?_)
  refine hK (0, 101, o_M_rule_0) (List.mem_of_getElem? (i := 0) rfl) _ _ _ _ ?_
  refine call_eq (c_M_in g d I D w 0 2) ?_
  refine And.intro (fun c1 => ?_) (fun c1 => ?_)
  · have h := bI_0.mp c1
    have h0 : ¬ w = 0 := by rintro rfl; revert h; decide
    have h1 : ¬ w = 1 := by rintro rfl; revert h; decide
    have h2 : ¬ w = 2 := by rintro rfl; revert h; decide
    exact And.intro (by simp [h0, h1, h2]) (And.intro (by first | (simp [h0, h1, h2]; done) | (simp [h0, h1, h2]; rfl)) (by first | rfl | simp [h0, h1, h2]))
  have h := wi_02.mp (bI_n0.mp c1)
  rcases h with rfl | rfl | rfl
  all_goals (clear hK; repeat' (first | (refine And.intro (fun h => absurd h (by decide)) (fun _ => ?_)) | (refine And.intro (fun _ => ?_) (fun h => absurd h (by decide))) | (refine And.intro (fun _ => ?_) (fun _ => ?_)) | (refine call_eq (c_M_in g _ _ _ _ _ _) ?_) | fail))
  all_goals (refine And.intro ?_ (And.intro ?_ ?_) <;> (first | rfl | (simp_all [bI_0, bI_n0]; done)))
theorem c_X_out (n : Nat) (hn : n ≤ 10) (hI : I 3 9 = nI n) (ga v : Int32) (hv : v = 0 ∨ v = 1) : Con g SHc (d + 1) 28 [.ref 0, .int ga, .int v] I D (EqP (some (.int (if ix ga (nI n) = true then (if I 25 ga.toNatClampNeg = v then 0 else 1) else -2))) (if ix ga (nI n) = true then (if I 25 ga.toNatClampNeg = v then I else up2 I 25 ga.toNatClampNeg v) else I) D) := by
  have hb : vp_nar .boolean v = v := by rcases hv with rfl | rfl <;> rfl
  refine Con.mk (LV := v_X_out) k_X_out (Nat.le_of_ble_eq_true rfl) (fun K hK => ?_)
  refine hK (0, 38, o_X_out_0) (List.mem_of_getElem? (i := 0) rfl) _ _ _ _ ?_
  refine call_eq (c_X_isGauge g d I D ga) ?_
  rw [hI]
  refine And.intro (fun c1 => ?_) (fun c1 => ?_)
  · have h1 : ix ga (nI n) = true := bI_n0.mp c1
    obtain ⟨j, hj, rfl⟩ := ix_nI (by omega) h1
    have hc : (nI j).toNatClampNeg = j := nI_clamp (by omega)
    have hi : inn (nI j) 10 := inn_nI (by omega) (by decide)
    rw [h1, hc]
    refine And.intro (hi) ?_
    rw [hc]
    refine And.intro (fun c2 => ?_) (fun c2 => ?_)
    · refine And.intro (hi) ?_
      rw [hc, hb]
      exact And.intro (by simp [c2]) (And.intro (by first | (simp [c2]; done) | (simp [c2]; rfl)) (by first | rfl | simp [c2]))
    · exact And.intro (by simp [c2]) (And.intro (by first | (simp [c2]; done) | (simp [c2]; rfl)) (by first | rfl | simp [c2]))
  · exact And.intro (by simp [bI_0.mp c1, ix]) (And.intro (by first | (simp [bI_0.mp c1, ix]; done) | (simp [bI_0.mp c1, ix]; rfl)) (by first | rfl | simp [bI_0.mp c1, ix]))
theorem c_M_out (n : Nat) (hn : n ≤ 10) (hI : I 12 18 = nI n) (ga v : Int32) (hv : v = 0 ∨ v = 1) : Con g SHc (d + 2) 171 [.ref 12, .int ga, .int v] I D (EqP (some (.int (if ix ga (nI n) = true then (if I 86 ga.toNatClampNeg = v then 0 else 1) else -2))) (if ix ga (nI n) = true then up2 I 86 ga.toNatClampNeg v else I) D) := by
  have hb : vp_nar .boolean v = v := by rcases hv with rfl | rfl <;> rfl
  refine Con.mk (LV := v_M_out) k_M_out (Nat.le_of_ble_eq_true rfl) (fun K hK => ?_)
  refine hK (0, 36, o_M_out_0) (List.mem_of_getElem? (i := 0) rfl) _ _ _ _ ?_
  refine call_eq (c_M_isGauge g d I D ga) ?_
  rw [hI, ix_wi (by omega)]
  refine And.intro (fun c1 => ?_) (fun c1 => ?_)
  · have h1 : ix ga (nI n) = true := bI_n0.mp c1
    obtain ⟨j, hj, rfl⟩ := ix_nI (by omega) h1
    have hc : (nI j).toNatClampNeg = j := nI_clamp (by omega)
    have hi : inn (nI j) 10 := inn_nI (by omega) (by decide)
    rw [h1, hc]
    refine And.intro (hi) ?_
    rw [hc]
    refine And.intro (hi) ?_
    rw [hc, hb]
    refine And.intro (fun c2 => ?_) (fun c2 => ?_)
    · exact And.intro (by simp [c2]) (And.intro (by first | (simp [c2]; done) | (simp [c2]; rfl)) (by first | rfl | simp [c2]))
    · exact And.intro (by simp [c2]) (And.intro (by first | (simp [c2]; done) | (simp [c2]; rfl)) (by first | rfl | simp [c2]))
  · exact And.intro (by simp [bI_0.mp c1]) (And.intro (by first | (simp [bI_0.mp c1]; done) | (simp [bI_0.mp c1]; rfl)) (by first | rfl | simp [bI_0.mp c1]))
theorem c_X_force (n : Nat) (hn : n ≤ 60) (hI : I 2 9 = nI n) (s t k : Int32) : Con g SHc (d + 1) 20 [.ref 0, .int s, .int t, .int k] I D (EqP (some (.int (if (wi s 0 11 && wi t 0 2591999 && wi k 0 (I 0 11)) = true then (if 3000 ≤ I 1 0 then -4 else if ifF (I 16) (I 17) (I 18) s t k n = -1 then -11 else I 17 (ifF (I 16) (I 17) (I 18) s t k n).toNatClampNeg) else -2))) (if (wi s 0 11 && wi t 0 2591999 && wi k 0 (I 0 11)) = true then (if 3000 ≤ I 1 0 then I else if ifF (I 16) (I 17) (I 18) s t k n = -1 then tellX 1 I else I) else I) D) := by
  refine Con.mk (LV := v_X_force) k_X_force (Nat.le_of_ble_eq_true rfl) (fun K hK => ?_)
  refine hK (0, 78, o_X_force_0) (List.mem_of_getElem? (i := 0) rfl) _ _ _ _ ?_
  refine call_eq (c_X_isStation g d I D s) ?_
  refine And.intro (fun c1 => ?_) (fun c1 => ?_)
  · exact And.intro (by simp [bI_0.mp c1]) (And.intro (by first | (simp [bI_0.mp c1]; done) | (simp [bI_0.mp c1]; rfl)) (by first | rfl | simp [bI_0.mp c1]))
  refine call_eq (c_X_isMoment g d I D t) ?_
  refine And.intro (fun c2 => ?_) (fun c2 => ?_)
  · exact And.intro (by simp [bI_0.mp c2]) (And.intro (by first | (simp [bI_0.mp c2]; done) | (simp [bI_0.mp c2]; rfl)) (by first | rfl | simp [bI_0.mp c2]))
  refine call_eq (c_X_isPast g d I D k) ?_
  have h1 := bI_n0.mp c1
  have h2 := bI_n0.mp c2
  refine And.intro (fun c3 => ?_) (fun c3 => ?_)
  · have h3 := bI_n0.mp c3
    refine call_eq (c_X_areSpent g d I D) ?_
    refine And.intro (fun c4 => ?_) (fun c4 => ?_)
    · have h4 : ¬ 3000 ≤ I 1 0 := of_decide_eq_false (bI_0.mp c4)
      refine call_eq (c_X_inForce g d I D s t k n hn hI) ?_
      rcases ifF_in (I 16) (I 17) (I 18) s t k n with h | ⟨j, hj, h⟩
      · rw [h]
        refine And.intro (fun z => absurd rfl z) (fun _ => ?_)
        refine call_eq (c_X_tell g d I D 1) ?_
        exact And.intro (by simp [h1, h2, h3, h4]) (And.intro (by first | (simp [h1, h2, h3, h4]; done) | (simp [h1, h2, h3, h4]; rfl)) (by first | rfl | simp [h1, h2, h3, h4]))
      · rw [h]
        refine And.intro (fun _ => ?_) (fun z => absurd z (nI_neg1 (by omega)))
        refine And.intro (inn_nI (by omega) (by decide)) ?_
        exact And.intro (by simp [h1, h2, h3, h4, nI_neg1 (show j < 2 ^ 31 by omega)]) (And.intro (by first | (simp [h1, h2, h3, h4, nI_neg1 (show j < 2 ^ 31 by omega)]; done) | (simp [h1, h2, h3, h4, nI_neg1 (show j < 2 ^ 31 by omega)]; rfl)) (by first | rfl | simp [h1, h2, h3, h4, nI_neg1 (show j < 2 ^ 31 by omega)]))
    · exact And.intro (by simp [h1, h2, h3, of_decide_eq_true (bI_n0.mp c4)]) (And.intro (by first | (simp [h1, h2, h3, of_decide_eq_true (bI_n0.mp c4)]; done) | (simp [h1, h2, h3, of_decide_eq_true (bI_n0.mp c4)]; rfl)) (by first | rfl | simp [h1, h2, h3, of_decide_eq_true (bI_n0.mp c4)]))
  · exact And.intro (by simp [bI_0.mp c3]) (And.intro (by first | (simp [bI_0.mp c3]; done) | (simp [bI_0.mp c3]; rfl)) (by first | rfl | simp [bI_0.mp c3]))
theorem c_M_force (n : Nat) (hn : n ≤ 60) (hI : I 12 8 = nI n) (s t k : Int32) : Con g SHc (d + 3) 165 [.ref 12, .int s, .int t, .int k] I D (EqP (some (.int (if (wi s 0 11 && wi t 0 2591999 && wi k 0 (I 12 0)) = true then (if 3000 ≤ I 12 2 then -4 else if ifF (I 75) (I 76) (I 77) s t k n = -1 then -11 else I 76 (ifF (I 75) (I 76) (I 77) s t k n).toNatClampNeg) else -2))) (if (wi s 0 11 && wi t 0 2591999 && wi k 0 (I 12 0)) = true then (if 3000 ≤ I 12 2 then I else if ifF (I 75) (I 76) (I 77) s t k n = -1 then tellM 1 I else I) else I) D) := by
  refine Con.mk (LV := v_M_force) k_M_force (Nat.le_of_ble_eq_true rfl) (fun K hK => ?_)
  refine hK (0, 60, o_M_force_0) (List.mem_of_getElem? (i := 0) rfl) _ _ _ _ ?_
  refine call_eq (c_M_isStation g (d + 1) I D s) ?_
  refine And.intro (fun c1 => ?_) (fun c1 => ?_)
  · exact And.intro (by simp [bI_0.mp c1]) (And.intro (by first | (simp [bI_0.mp c1]; done) | (simp [bI_0.mp c1]; rfl)) (by first | rfl | simp [bI_0.mp c1]))
  refine call_eq (c_M_isKnowing g d I D t k) ?_
  have h1 := bI_n0.mp c1
  refine And.intro (fun c2 => ?_) (fun c2 => ?_)
  · have h23 := bI_n0.mp c2
    have h2 := (Bool.and_eq_true _ _ ▸ h23 : wi t 0 2591999 = true ∧ wi k 0 (I 12 0) = true).1
    have h3 := (Bool.and_eq_true _ _ ▸ h23 : wi t 0 2591999 = true ∧ wi k 0 (I 12 0) = true).2
    refine call_eq (c_M_isFull g (d + 2) I D) ?_
    refine And.intro (fun c4 => ?_) (fun c4 => ?_)
    · have h4 : ¬ 3000 ≤ I 12 2 := of_decide_eq_false (bI_0.mp c4)
      refine call_eq (c_M_inForce g (d + 2) I D s t k n hn hI) ?_
      rcases ifF_in (I 75) (I 76) (I 77) s t k n with h | ⟨j, hj, h⟩
      · rw [h]
        refine And.intro (fun z => absurd rfl z) (fun _ => ?_)
        refine call_eq (c_M_fails g (d + 2) I D 1) ?_
        exact And.intro (by simp [h1, h2, h3, h4]) (And.intro (by first | (simp [h1, h2, h3, h4]; done) | (simp [h1, h2, h3, h4]; rfl)) (by first | rfl | simp [h1, h2, h3, h4]))
      · rw [h]
        refine And.intro (fun _ => ?_) (fun z => absurd z (nI_neg1 (by omega)))
        refine And.intro (inn_nI (by omega) (by decide)) ?_
        exact And.intro (by simp [h1, h2, h3, h4, nI_neg1 (show j < 2 ^ 31 by omega)]) (And.intro (by first | (simp [h1, h2, h3, h4, nI_neg1 (show j < 2 ^ 31 by omega)]; done) | (simp [h1, h2, h3, h4, nI_neg1 (show j < 2 ^ 31 by omega)]; rfl)) (by first | rfl | simp [h1, h2, h3, h4, nI_neg1 (show j < 2 ^ 31 by omega)]))
    · exact And.intro (by simp [h1, h2, h3, of_decide_eq_true (bI_n0.mp c4)]) (And.intro (by first | (simp [h1, h2, h3, of_decide_eq_true (bI_n0.mp c4)]; done) | (simp [h1, h2, h3, of_decide_eq_true (bI_n0.mp c4)]; rfl)) (by first | rfl | simp [h1, h2, h3, of_decide_eq_true (bI_n0.mp c4)]))
  · exact And.intro (by simp [Bool.and_assoc, bI_0.mp c2]) (And.intro (by first | (simp [Bool.and_assoc, bI_0.mp c2]; done) | (simp [Bool.and_assoc, bI_0.mp c2]; rfl)) (by first | rfl | simp [Bool.and_assoc, bI_0.mp c2]))
end S32
end
section
/-- a SHIP of kind k is one of KIND a -/
def ofK (k a : Int32) : Bool := decide (k = a) || (decide (k = 2) && decide (a = 0)) || (decide (k = 3) && decide (a = 1))
/-- a place of a SORT takes a SHIP -/
def tkB (kd : Nat → Int32) (so sh : Int32) : Bool := decide (sh = -1) || decide (so = 5) || ofK (kd sh.toNatClampNeg) so
/-- a SHIP of n, or NOTHING -/
def shN (sh : Int32) (n : Nat) : Bool := decide (sh = -1) || ix sh (nI n)
theorem shN_or {sh : Int32} {n : Nat} (hn : n < 2 ^ 31) : (decide (-1 ≤ sh) && decide (sh < nI n)) = shN sh n := by
  unfold shN ix
  by_cases h : sh = -1
  · subst h
    have : ((-1 : Int32)) < nI n := by
      rw [i32_lt, nI_toInt hn]
      have : ((-1 : Int32)).toInt = -1 := by decide
      omega
    simp [this]
  · have h1 : (-1 ≤ sh) ↔ 0 ≤ sh := by
      rw [i32_le, i32_le]
      have e1 : ((-1 : Int32)).toInt = -1 := by decide
      have e2 : ((0 : Int32)).toInt = 0 := by decide
      have h2 : sh.toInt ≠ -1 := fun z => h (Int32.toInt_inj.mp (by rw [z, e1]))
      omega
    simp [h, h1]
/-- what a FLEET has against its place i: fs its size, below 0: there is none -/
def ffA (sd i sz : Int32) : Int32 := if sd = 0 then 1 else if ix i sz = true then 0 else 2
section S33
variable (g : Gp) (d : Nat) (I : MI) (D : MD)
theorem c_X_isOf (j : Nat) (hj : j < 40) (a : Int32) : Con g SHc d 85 [.ref 6, .int (nI j), .int a] I D (EqP (some (.int (bI (ofK (I 42 j) a)))) I D) := by
  have hc : (nI j).toNatClampNeg = j := nI_clamp (by omega)
  have hi : inn (nI j) 40 := inn_nI hj (by decide)
  refine Con.mk (LV := v_Ships_isOf) k_Ships_isOf (Nat.le_of_ble_eq_true rfl) (fun K hK => ?_)
  refine hK (0, 45, o_Ships_isOf_0) (List.mem_of_getElem? (i := 0) rfl) _ _ _ _ ?_
  refine And.intro (hi) ?_
  rw [hc]
  refine And.intro (fun c1 => ?_) (fun c1 => ?_)
  · exact And.intro (by decide) (And.intro (by simp [ofK, c1, bI]) (And.intro rfl rfl))
  refine And.intro (hi) ?_
  rw [hc]
  refine And.intro (fun c2 => ?_) (fun c2 => ?_)
  · refine And.intro (hi) ?_
    rw [hc]
    refine And.intro (fun c3 => ?_) (fun c3 => ?_)
    · exact And.intro (by decide) (And.intro (by simp [ofK, c1, c2, c3, bI]) (And.intro rfl rfl))
    refine And.intro (fun c4 => ?_) (fun c4 => ?_)
    · exact And.intro (by decide) (And.intro (by simp [ofK, c1, c2, c4, bI]) (And.intro rfl rfl))
    · exact And.intro (by decide) (And.intro (by simp [ofK, c3, c4, bI]) (And.intro rfl rfl))
  refine And.intro (fun c3 => ?_) (fun c3 => ?_)
  · exact And.intro (by decide) (And.intro (by simp [ofK, c2, c3, bI]) (And.intro rfl rfl))
  refine And.intro (hi) ?_
  rw [hc]
  refine And.intro (fun c4 => ?_) (fun c4 => ?_)
  · exact And.intro (by decide) (And.intro (by simp [ofK, c1, c3, c4, bI]) (And.intro rfl rfl))
  · exact absurd (c2.symm.trans c4) (by decide)
theorem c_M_isOf (j : Nat) (hj : j < 40) (a : Int32) : Con g SHc d 214 [.ref 12, .int (nI j), .int a] I D (EqP (some (.int (bI (ofK (I 103 j) a)))) I D) := by
  have hc : (nI j).toNatClampNeg = j := nI_clamp (by omega)
  have hi : inn (nI j) 40 := inn_nI hj (by decide)
  refine Con.mk (LV := v_M_isOf) k_M_isOf (Nat.le_of_ble_eq_true rfl) (fun K hK => ?_)
  refine hK (0, 37, o_M_isOf_0) (List.mem_of_getElem? (i := 0) rfl) _ _ _ _ ?_
  refine And.intro (hi) ?_
  rw [hc]
  refine And.intro (fun c1 => ?_) (fun c1 => ?_)
  · exact And.intro (by decide) (And.intro (by simp [ofK, c1, bI]) (And.intro rfl rfl))
  refine And.intro (fun c2 => ?_) (fun c2 => ?_)
  · refine And.intro (fun c3 => ?_) (fun c3 => ?_)
    · exact And.intro (by decide) (And.intro (by simp [ofK, c1, c2, c3, bI]) (And.intro rfl rfl))
    refine And.intro (fun c4 => ?_) (fun c4 => ?_)
    · exact And.intro (by decide) (And.intro (by simp [ofK, c1, c2, c4, bI]) (And.intro rfl rfl))
    · exact And.intro (by decide) (And.intro (by simp [ofK, c3, c4, bI]) (And.intro rfl rfl))
  refine And.intro (fun c3 => ?_) (fun c3 => ?_)
  · exact And.intro (by decide) (And.intro (by simp [ofK, c2, c3, bI]) (And.intro rfl rfl))
  refine And.intro (fun c4 => ?_) (fun c4 => ?_)
  · exact And.intro (by decide) (And.intro (by simp [ofK, c1, c3, c4, bI]) (And.intro rfl rfl))
  · exact absurd (c2.symm.trans c4) (by decide)
theorem c_X_takes (f n : Nat) (hf : f < 4) (hn : n ≤ 40) (sh : Int32) (hs : shN sh n = true) : Con g SHc (d + 1) 97 [.ref 9, .int (nI f), .int sh] I D (EqP (some (.int (bI (tkB (I 42) (I 56 f) sh)))) I D) := by
  have hc : (nI f).toNatClampNeg = f := nI_clamp (by omega)
  have hi : inn (nI f) 4 := inn_nI hf (by decide)
  refine Con.mk (LV := v_Fleets_takes) k_Fleets_takes (Nat.le_of_ble_eq_true rfl) (fun K hK => ?_)
  refine hK (0, 38, o_Fleets_takes_0) (List.mem_of_getElem? (i := 0) rfl) _ _ _ _ ?_
  refine And.intro (fun c1 => ?_) (fun c1 => ?_)
  · exact And.intro (by decide) (And.intro (by simp [tkB, c1, bI]) (And.intro rfl rfl))
  refine And.intro (hi) ?_
  rw [hc]
  refine And.intro (fun c2 => ?_) (fun c2 => ?_)
  · exact And.intro (by decide) (And.intro (by simp [tkB, c2, bI]) (And.intro rfl rfl))
  obtain ⟨j, hj, rfl⟩ := ix_nI (n := n) (by omega) (by simpa [shN, c1] using hs)
  refine And.intro (hi) ?_
  rw [hc]
  refine call_eq (c_X_isOf g d I D j (by omega) _) ?_
  refine And.intro (fun c3 => ?_) (fun c3 => ?_)
  · exact And.intro (by decide) (And.intro (by simp [tkB, c1, c2, bI_0.mp c3, nI_clamp (show j < 2 ^ 31 by omega), bI]) (And.intro rfl rfl))
  · exact And.intro (by decide) (And.intro (by simp [tkB, bI_n0.mp c3, nI_clamp (show j < 2 ^ 31 by omega), bI]) (And.intro rfl rfl))
theorem c_M_takes (f n : Nat) (hf : f < 4) (hn : n ≤ 40) (sh : Int32) (hs : shN sh n = true) : Con g SHc (d + 1) 219 [.ref 12, .int (nI f), .int sh] I D (EqP (some (.int (bI (tkB (I 103) (I 110 f) sh)))) I D) := by
  have hc : (nI f).toNatClampNeg = f := nI_clamp (by omega)
  have hi : inn (nI f) 4 := inn_nI hf (by decide)
  refine Con.mk (LV := v_M_takes) k_M_takes (Nat.le_of_ble_eq_true rfl) (fun K hK => ?_)
  refine hK (0, 35, o_M_takes_0) (List.mem_of_getElem? (i := 0) rfl) _ _ _ _ ?_
  refine And.intro (fun c1 => ?_) (fun c1 => ?_)
  · exact And.intro (by decide) (And.intro (by simp [tkB, c1, bI]) (And.intro rfl rfl))
  refine And.intro (hi) ?_
  rw [hc]
  refine And.intro (fun c2 => ?_) (fun c2 => ?_)
  · exact And.intro (by decide) (And.intro (by simp [tkB, c2, bI]) (And.intro rfl rfl))
  obtain ⟨j, hj, rfl⟩ := ix_nI (n := n) (by omega) (by simpa [shN, c1] using hs)
  refine And.intro (hi) ?_
  rw [hc]
  refine call_eq (c_M_isOf g d I D j (by omega) _) ?_
  refine And.intro (fun c3 => ?_) (fun c3 => ?_)
  · exact And.intro (by decide) (And.intro (by simp [tkB, c1, c2, bI_0.mp c3, nI_clamp (show j < 2 ^ 31 by omega), bI]) (And.intro rfl rfl))
  · exact And.intro (by decide) (And.intro (by simp [tkB, bI_n0.mp c3, nI_clamp (show j < 2 ^ 31 by omega), bI]) (And.intro rfl rfl))
theorem c_X_ffault (j : Nat) (hj : j < 4) (i : Int32) : Con g SHc d 96 [.ref 9, .int (nI j), .int i] I D (EqP (some (.int (ffA (I 55 j) i (I 57 j)))) I D) := by
  have hc : (nI j).toNatClampNeg = j := nI_clamp (by omega)
  have hi : inn (nI j) 4 := inn_nI hj (by decide)
  refine Con.mk (LV := v_Fleets_faultAt) k_Fleets_faultAt (Nat.le_of_ble_eq_true rfl) (fun K hK => ?_)
  refine hK (0, 31, o_Fleets_faultAt_0) (List.mem_of_getElem? (i := 0) rfl) _ _ _ _ ?_
  refine And.intro (hi) ?_
  rw [hc]
  refine And.intro (fun c1 => ?_) (fun c1 => ?_)
  · refine And.intro (fun c2 => ?_) (fun c2 => ?_)
    · exact And.intro (by simp [ffA, c1, ix, i32_nle.mpr c2]) (And.intro (by first | (simp [ffA, c1, ix, i32_nle.mpr c2]; done) | (simp [ffA, c1, ix, i32_nle.mpr c2]; rfl)) (by first | rfl | simp [ffA, c1, ix, i32_nle.mpr c2]))
    refine And.intro (hi) ?_
    rw [hc]
    refine And.intro (fun c3 => ?_) (fun c3 => ?_)
    · exact And.intro (by simp [ffA, c1, ix, i32_nlt.mp c2, c3]) (And.intro (by first | (simp [ffA, c1, ix, i32_nlt.mp c2, c3]; done) | (simp [ffA, c1, ix, i32_nlt.mp c2, c3]; rfl)) (by first | rfl | simp [ffA, c1, ix, i32_nlt.mp c2, c3]))
    · exact And.intro (by simp [ffA, c1, ix, c3]) (And.intro (by first | (simp [ffA, c1, ix, c3]; done) | (simp [ffA, c1, ix, c3]; rfl)) (by first | rfl | simp [ffA, c1, ix, c3]))
  · exact And.intro (by simp [ffA, c1]) (And.intro (by first | (simp [ffA, c1]; done) | (simp [ffA, c1]; rfl)) (by first | rfl | simp [ffA, c1]))
theorem c_M_stands (j n : Nat) (hj : j < 4) (hn : n ≤ 8) (i : Int32) (hI : I 111 j = -1 ∨ I 111 j = nI n) : Con g SHc (d + 1) 218 [.ref 12, .int (nI j), .int i] I D (EqP (some (.int (ffA (bI (!decide (I 111 j = -1))) i (I 111 j)))) I D) := by
  have hc : (nI j).toNatClampNeg = j := nI_clamp (by omega)
  have hi : inn (nI j) 4 := inn_nI hj (by decide)
  refine Con.mk (LV := v_M_stands) k_M_stands (Nat.le_of_ble_eq_true rfl) (fun K hK => ?_)
  refine hK (0, 36, o_M_stands_0) (List.mem_of_getElem? (i := 0) rfl) _ _ _ _ ?_
  refine And.intro (hi) ?_
  rw [hc]
  refine And.intro (fun c1 => ?_) (fun c1 => ?_)
  · have he := hI.resolve_left c1
    refine And.intro (hi) ?_
    rw [hc]
    refine call_eq (c_M_in g d I D i 0 _) ?_
    rw [he, ix_wi (by omega)]
    have hne := nI_neg1 (show n < 2 ^ 31 by omega)
    refine And.intro (fun c2 => ?_) (fun c2 => ?_)
    · exact And.intro (by simp [ffA, hne, bI_n0.mp c2, bI]) (And.intro (by first | (simp [ffA, hne, bI_n0.mp c2, bI]; done) | (simp [ffA, hne, bI_n0.mp c2, bI]; rfl)) (by first | rfl | simp [ffA, hne, bI_n0.mp c2, bI]))
    · exact And.intro (by simp [ffA, hne, bI_0.mp c2, bI]) (And.intro (by first | (simp [ffA, hne, bI_0.mp c2, bI]; done) | (simp [ffA, hne, bI_0.mp c2, bI]; rfl)) (by first | rfl | simp [ffA, hne, bI_0.mp c2, bI]))
  · exact And.intro (by simp [ffA, c1, bI]) (And.intro (by first | (simp [ffA, c1, bI]; done) | (simp [ffA, c1, bI]; rfl)) (by first | rfl | simp [ffA, c1, bI]))
theorem ffA_0 {sd i : Int32} {n : Nat} (hn : n ≤ 8) (h : ffA sd i (nI n) = 0) : ∃ k, k < n ∧ i = nI k := by
  unfold ffA at h
  split at h
  · exact absurd h (by decide)
  · split at h
    next h1 => exact ix_nI (by omega) h1
    next => exact absurd h (by decide)
theorem ffA_M {i : Int32} {n : Nat} {sz : Int32} (hn : n ≤ 8) (hs : sz = -1 ∨ sz = nI n) (h : ffA (bI (!decide (sz = -1))) i sz = 0) : ∃ k, k < n ∧ i = nI k := by
  rcases hs with rfl | rfl
  · exact absurd (show (1 : Int32) = 0 from h) (by decide)
  · exact ffA_0 hn h
theorem c_X_member (hF : ∀ j, j < 4 → ∃ n, n ≤ 8 ∧ I 57 j = nI n) (f i : Int32) : Con g SHc (d + 1) 98 [.ref 0, .int f, .int i] I D (EqP (some (.int (if wi f 0 3 = true then (if 3000 ≤ I 1 0 then -4 else if ffA (I 55 f.toNatClampNeg) i (I 57 f.toNatClampNeg) = 0 then I 58 (8 * f.toNatClampNeg + i.toNatClampNeg) else -10 - (ffA (I 55 f.toNatClampNeg) i (I 57 f.toNatClampNeg))) else -2))) (if wi f 0 3 = true then (if 3000 ≤ I 1 0 then I else if ffA (I 55 f.toNatClampNeg) i (I 57 f.toNatClampNeg) = 0 then I else tellX (ffA (I 55 f.toNatClampNeg) i (I 57 f.toNatClampNeg)) I) else I) D) := by
  refine Con.mk (LV := v_X_member) k_X_member (Nat.le_of_ble_eq_true rfl) (fun K hK => ?_)
  refine hK (0, 63, o_X_member_0) (List.mem_of_getElem? (i := 0) rfl) _ _ _ _ ?_
  refine call_eq (c_X_isFleet g d I D f) ?_
  refine And.intro (fun c1 => ?_) (fun c1 => ?_)
  · have h1 := bI_n0.mp c1
    obtain ⟨j, hj, rfl⟩ := wi_nI (m := 3) (by decide) h1
    have hc : (nI j).toNatClampNeg = j := nI_clamp (by omega)
    rw [h1, hc]
    obtain ⟨n, hn, he⟩ := hF j (by omega)
    refine call_eq (c_X_areSpent g d I D) ?_
    refine And.intro (fun c2 => ?_) (fun c2 => ?_)
    · have h2 : ¬ 3000 ≤ I 1 0 := of_decide_eq_false (bI_0.mp c2)
      refine call_eq (c_X_ffault g d I D j (by omega) i) ?_
      refine And.intro (fun c3 => ?_) (fun c3 => ?_)
      · obtain ⟨k, hk, rfl⟩ : ∃ k, k < 8 ∧ i = nI k := by
          rw [he] at c3
          obtain ⟨k, hk, h⟩ := ffA_0 hn c3
          exact ⟨k, by omega, h⟩
        have e1 : nI j * 8 + nI k = nI (8 * j + k) := by rw [show (8 : Int32) = nI 8 from rfl, pk_mul, nI_add, Nat.mul_comm]
        refine And.intro (by rw [e1]; exact inn_nI (by omega) (by decide)) ?_
        rw [e1]
        exact And.intro (by simp [h2, c3, nI_clamp (show k < 2 ^ 31 by omega), nI_clamp (show 8 * j + k < 2 ^ 31 by omega)]) (And.intro (by first | (simp [h2, c3, nI_clamp (show k < 2 ^ 31 by omega), nI_clamp (show 8 * j + k < 2 ^ 31 by omega)]; done) | (simp [h2, c3, nI_clamp (show k < 2 ^ 31 by omega), nI_clamp (show 8 * j + k < 2 ^ 31 by omega)]; rfl)) (by first | rfl | simp [h2, c3, nI_clamp (show k < 2 ^ 31 by omega), nI_clamp (show 8 * j + k < 2 ^ 31 by omega)]))
      · refine call_eq (c_X_tell g d I D _) ?_
        exact And.intro (by simp [h2, c3]) (And.intro (by first | (simp [h2, c3]; done) | (simp [h2, c3]; rfl)) (by first | rfl | simp [h2, c3]))
    · exact And.intro (by simp [of_decide_eq_true (bI_n0.mp c2)]) (And.intro (by first | (simp [of_decide_eq_true (bI_n0.mp c2)]; done) | (simp [of_decide_eq_true (bI_n0.mp c2)]; rfl)) (by first | rfl | simp [of_decide_eq_true (bI_n0.mp c2)]))
  · exact And.intro (by simp [bI_0.mp c1]) (And.intro (by first | (simp [bI_0.mp c1]; done) | (simp [bI_0.mp c1]; rfl)) (by first | rfl | simp [bI_0.mp c1]))
theorem c_M_member (hF : ∀ j, j < 4 → ∃ n, n ≤ 8 ∧ (I 111 j = -1 ∨ I 111 j = nI n)) (f i : Int32) : Con g SHc (d + 2) 220 [.ref 12, .int f, .int i] I D (EqP (some (.int (if wi f 0 3 = true then (if 3000 ≤ I 12 2 then -4 else if ffA (bI (!decide (I 111 f.toNatClampNeg = -1))) i (I 111 f.toNatClampNeg) = 0 then I 112 (8 * f.toNatClampNeg + i.toNatClampNeg) else -10 - (ffA (bI (!decide (I 111 f.toNatClampNeg = -1))) i (I 111 f.toNatClampNeg))) else -2))) (if wi f 0 3 = true then (if 3000 ≤ I 12 2 then I else if ffA (bI (!decide (I 111 f.toNatClampNeg = -1))) i (I 111 f.toNatClampNeg) = 0 then I else tellM (ffA (bI (!decide (I 111 f.toNatClampNeg = -1))) i (I 111 f.toNatClampNeg)) I) else I) D) := by
  refine Con.mk (LV := v_M_member) k_M_member (Nat.le_of_ble_eq_true rfl) (fun K hK => ?_)
  refine hK (0, 51, o_M_member_0) (List.mem_of_getElem? (i := 0) rfl) _ _ _ _ ?_
  refine call_eq (c_M_isFleet g d I D f) ?_
  refine And.intro (fun c1 => ?_) (fun c1 => ?_)
  · have h1 := bI_n0.mp c1
    obtain ⟨j, hj, rfl⟩ := wi_nI (m := 3) (by decide) h1
    have hc : (nI j).toNatClampNeg = j := nI_clamp (by omega)
    rw [h1, hc]
    obtain ⟨n, hn, he⟩ := hF j (by omega)
    refine call_eq (c_M_isFull g (d + 1) I D) ?_
    refine And.intro (fun c2 => ?_) (fun c2 => ?_)
    · have h2 : ¬ 3000 ≤ I 12 2 := of_decide_eq_false (bI_0.mp c2)
      refine call_eq (c_M_stands g d I D j n (by omega) hn i he) ?_
      refine And.intro (fun c3 => ?_) (fun c3 => ?_)
      · obtain ⟨k, hk, rfl⟩ : ∃ k, k < 8 ∧ i = nI k := by
          obtain ⟨k, hk, h⟩ := ffA_M hn he c3
          exact ⟨k, by omega, h⟩
        have e1 : 8 * nI j + nI k = nI (8 * j + k) := nI_lin' 8 j k
        refine And.intro (by rw [e1]; exact inn_nI (by omega) (by decide)) ?_
        rw [e1]
        exact And.intro (by simp [h2, c3, nI_clamp (show k < 2 ^ 31 by omega), nI_clamp (show 8 * j + k < 2 ^ 31 by omega)]) (And.intro (by first | (simp [h2, c3, nI_clamp (show k < 2 ^ 31 by omega), nI_clamp (show 8 * j + k < 2 ^ 31 by omega)]; done) | (simp [h2, c3, nI_clamp (show k < 2 ^ 31 by omega), nI_clamp (show 8 * j + k < 2 ^ 31 by omega)]; rfl)) (by first | rfl | simp [h2, c3, nI_clamp (show k < 2 ^ 31 by omega), nI_clamp (show 8 * j + k < 2 ^ 31 by omega)]))
      · refine call_eq (c_M_fails g (d + 1) I D _) ?_
        exact And.intro (by simp [h2, c3]) (And.intro (by first | (simp [h2, c3]; done) | (simp [h2, c3]; rfl)) (by first | rfl | simp [h2, c3]))
    · exact And.intro (by simp [of_decide_eq_true (bI_n0.mp c2)]) (And.intro (by first | (simp [of_decide_eq_true (bI_n0.mp c2)]; done) | (simp [of_decide_eq_true (bI_n0.mp c2)]; rfl)) (by first | rfl | simp [of_decide_eq_true (bI_n0.mp c2)]))
  · exact And.intro (by simp [bI_0.mp c1]) (And.intro (by first | (simp [bI_0.mp c1]; done) | (simp [bI_0.mp c1]; rfl)) (by first | rfl | simp [bI_0.mp c1]))
theorem shN_M {sh : Int32} {n : Nat} (hn : n < 2 ^ 31) : (decide (sh = -1) || wi sh 0 (nI n - 1)) = shN sh n := by
  unfold shN
  rw [ix_wi hn]
theorem c_X_join (hF : ∀ j, j < 4 → ∃ n, n ≤ 8 ∧ I 57 j = nI n) (m : Nat) (hm : m ≤ 40) (hS : I 6 9 = nI m) (f i sh : Int32) : Con g SHc (d + 3) 95 [.ref 0, .int f, .int i, .int sh] I D (EqP (some (.int (if (wi f 0 3 && shN sh m) = true then (if 3000 ≤ I 1 0 then -4 else if ffA (I 55 f.toNatClampNeg) i (I 57 f.toNatClampNeg) = 0 then (if tkB (I 42) (I 56 f.toNatClampNeg) sh = true then 1 else -16) else -10 - (ffA (I 55 f.toNatClampNeg) i (I 57 f.toNatClampNeg))) else -2))) (if (wi f 0 3 && shN sh m) = true then (if 3000 ≤ I 1 0 then I else if ffA (I 55 f.toNatClampNeg) i (I 57 f.toNatClampNeg) = 0 then (if tkB (I 42) (I 56 f.toNatClampNeg) sh = true then up2 I 58 (8 * f.toNatClampNeg + i.toNatClampNeg) sh else tellX 6 I) else tellX (ffA (I 55 f.toNatClampNeg) i (I 57 f.toNatClampNeg)) I) else I) D) := by
  refine Con.mk (LV := v_X_join) k_X_join (Nat.le_of_ble_eq_true rfl) (fun K hK => ?_)
  refine hK (0, 95, o_X_join_0) (List.mem_of_getElem? (i := 0) rfl) _ _ _ _ ?_
  refine call_eq (c_X_isFleet g (d + 2) I D f) ?_
  refine And.intro (fun c1 => ?_) (fun c1 => ?_)
  · exact And.intro (by simp [bI_0.mp c1]) (And.intro (by first | (simp [bI_0.mp c1]; done) | (simp [bI_0.mp c1]; rfl)) (by first | rfl | simp [bI_0.mp c1]))
  refine call_eq (c_X_isShipOrNothing g (d + 2) I D sh) ?_
  rw [hS, shN_or (by omega)]
  have h1 := bI_n0.mp c1
  refine And.intro (fun c0 => ?_) (fun c0 => ?_)
  · have h0 : shN sh m = true := bI_n0.mp c0
    obtain ⟨j, hj, rfl⟩ := wi_nI (m := 3) (by decide) h1
    have hc : (nI j).toNatClampNeg = j := nI_clamp (by omega)
    rw [h1, h0, hc]
    obtain ⟨n, hn, he⟩ := hF j (by omega)
    refine call_eq (c_X_areSpent g (d + 2) I D) ?_
    refine And.intro (fun c2 => ?_) (fun c2 => ?_)
    · have h2 : ¬ 3000 ≤ I 1 0 := of_decide_eq_false (bI_0.mp c2)
      refine call_eq (c_X_ffault g (d + 2) I D j (by omega) i) ?_
      refine And.intro (fun c3 => ?_) (fun c3 => ?_)
      · refine And.intro (fun z => absurd z c3) (fun _ => ?_)
        refine call_eq (c_X_tell g (d + 2) I D _) ?_
        exact And.intro (by simp [h2, c3]) (And.intro (by first | (simp [h2, c3]; done) | (simp [h2, c3]; rfl)) (by first | rfl | simp [h2, c3]))
      · obtain ⟨k, hk, rfl⟩ : ∃ k, k < 8 ∧ i = nI k := by
          rw [he] at c3
          obtain ⟨k, hk, h⟩ := ffA_0 hn c3
          exact ⟨k, by omega, h⟩
        refine call_eq (c_X_takes g (d + 1) I D j m (by omega) hm sh h0) ?_
        refine And.intro (fun c4 => ?_) (fun c4 => ?_)
        · refine And.intro (fun _ => ?_) (fun z => absurd c3 z)
          have e1 : nI j * 8 + nI k = nI (8 * j + k) := by rw [show (8 : Int32) = nI 8 from rfl, pk_mul, nI_add, Nat.mul_comm]
          refine And.intro (by rw [e1]; exact inn_nI (by omega) (by decide)) ?_
          rw [e1]
          exact And.intro (by simp [h2, c3, bI_n0.mp c4, nI_clamp (show k < 2 ^ 31 by omega), nI_clamp (show 8 * j + k < 2 ^ 31 by omega)]) (And.intro (by first | (simp [h2, c3, bI_n0.mp c4, nI_clamp (show k < 2 ^ 31 by omega), nI_clamp (show 8 * j + k < 2 ^ 31 by omega)]; done) | (simp [h2, c3, bI_n0.mp c4, nI_clamp (show k < 2 ^ 31 by omega), nI_clamp (show 8 * j + k < 2 ^ 31 by omega)]; rfl)) (by first | rfl | simp [h2, c3, bI_n0.mp c4, nI_clamp (show k < 2 ^ 31 by omega), nI_clamp (show 8 * j + k < 2 ^ 31 by omega)]))
        · refine And.intro (fun z => absurd z (by decide)) (fun _ => ?_)
          refine call_eq (c_X_tell g (d + 2) I D _) ?_
          exact And.intro (by simp [h2, c3, bI_0.mp c4]) (And.intro (by first | (simp [h2, c3, bI_0.mp c4]; done) | (simp [h2, c3, bI_0.mp c4]; rfl)) (by first | rfl | simp [h2, c3, bI_0.mp c4]))
    · exact And.intro (by simp [of_decide_eq_true (bI_n0.mp c2)]) (And.intro (by first | (simp [of_decide_eq_true (bI_n0.mp c2)]; done) | (simp [of_decide_eq_true (bI_n0.mp c2)]; rfl)) (by first | rfl | simp [of_decide_eq_true (bI_n0.mp c2)]))
  · exact And.intro (by simp [bI_0.mp c0]) (And.intro (by first | (simp [bI_0.mp c0]; done) | (simp [bI_0.mp c0]; rfl)) (by first | rfl | simp [bI_0.mp c0]))
theorem c_M_join (hF : ∀ j, j < 4 → ∃ n, n ≤ 8 ∧ (I 111 j = -1 ∨ I 111 j = nI n)) (m : Nat) (hm : m ≤ 40) (hS : I 12 49 = nI m) (f i sh : Int32) : Con g SHc (d + 3) 217 [.ref 12, .int f, .int i, .int sh] I D (EqP (some (.int (if (wi f 0 3 && shN sh m) = true then (if 3000 ≤ I 12 2 then -4 else if ffA (bI (!decide (I 111 f.toNatClampNeg = -1))) i (I 111 f.toNatClampNeg) = 0 then (if tkB (I 103) (I 110 f.toNatClampNeg) sh = true then 1 else -16) else -10 - (ffA (bI (!decide (I 111 f.toNatClampNeg = -1))) i (I 111 f.toNatClampNeg))) else -2))) (if (wi f 0 3 && shN sh m) = true then (if 3000 ≤ I 12 2 then I else if ffA (bI (!decide (I 111 f.toNatClampNeg = -1))) i (I 111 f.toNatClampNeg) = 0 then (if tkB (I 103) (I 110 f.toNatClampNeg) sh = true then up2 I 112 (8 * f.toNatClampNeg + i.toNatClampNeg) sh else tellM 6 I) else tellM (ffA (bI (!decide (I 111 f.toNatClampNeg = -1))) i (I 111 f.toNatClampNeg)) I) else I) D) := by
  refine Con.mk (LV := v_M_join) k_M_join (Nat.le_of_ble_eq_true rfl) (fun K hK => ?_)
  refine hK (0, 85, o_M_join_0) (List.mem_of_getElem? (i := 0) rfl) _ _ _ _ ?_
  refine call_eq (c_M_isFleet g (d + 1) I D f) ?_
  refine And.intro (fun c1 => ?_) (fun c1 => ?_)
  · exact And.intro (by simp [bI_0.mp c1]) (And.intro (by first | (simp [bI_0.mp c1]; done) | (simp [bI_0.mp c1]; rfl)) (by first | rfl | simp [bI_0.mp c1]))
  refine call_eq (c_M_isPart g d I D sh) ?_
  rw [hS, shN_M (by omega)]
  have h1 := bI_n0.mp c1
  refine And.intro (fun c0 => ?_) (fun c0 => ?_)
  · have h0 : shN sh m = true := bI_n0.mp c0
    obtain ⟨j, hj, rfl⟩ := wi_nI (m := 3) (by decide) h1
    have hc : (nI j).toNatClampNeg = j := nI_clamp (by omega)
    rw [h1, h0, hc]
    obtain ⟨n, hn, he⟩ := hF j (by omega)
    refine call_eq (c_M_isFull g (d + 2) I D) ?_
    refine And.intro (fun c2 => ?_) (fun c2 => ?_)
    · have h2 : ¬ 3000 ≤ I 12 2 := of_decide_eq_false (bI_0.mp c2)
      refine call_eq (c_M_stands g (d + 1) I D j n (by omega) hn i he) ?_
      refine And.intro (fun c3 => ?_) (fun c3 => ?_)
      · refine And.intro (fun z => absurd z c3) (fun _ => ?_)
        refine call_eq (c_M_fails g (d + 2) I D _) ?_
        exact And.intro (by simp [h2, c3]) (And.intro (by first | (simp [h2, c3]; done) | (simp [h2, c3]; rfl)) (by first | rfl | simp [h2, c3]))
      · obtain ⟨k, hk, rfl⟩ : ∃ k, k < 8 ∧ i = nI k := by
          obtain ⟨k, hk, h⟩ := ffA_M hn he c3
          exact ⟨k, by omega, h⟩
        refine call_eq (c_M_takes g (d + 1) I D j m (by omega) hm sh h0) ?_
        refine And.intro (fun c4 => ?_) (fun c4 => ?_)
        · refine And.intro (fun _ => ?_) (fun z => absurd c3 z)
          have e1 : 8 * nI j + nI k = nI (8 * j + k) := nI_lin' 8 j k
          refine And.intro (by rw [e1]; exact inn_nI (by omega) (by decide)) ?_
          rw [e1]
          exact And.intro (by simp [h2, c3, bI_n0.mp c4, nI_clamp (show k < 2 ^ 31 by omega), nI_clamp (show 8 * j + k < 2 ^ 31 by omega)]) (And.intro (by first | (simp [h2, c3, bI_n0.mp c4, nI_clamp (show k < 2 ^ 31 by omega), nI_clamp (show 8 * j + k < 2 ^ 31 by omega)]; done) | (simp [h2, c3, bI_n0.mp c4, nI_clamp (show k < 2 ^ 31 by omega), nI_clamp (show 8 * j + k < 2 ^ 31 by omega)]; rfl)) (by first | rfl | simp [h2, c3, bI_n0.mp c4, nI_clamp (show k < 2 ^ 31 by omega), nI_clamp (show 8 * j + k < 2 ^ 31 by omega)]))
        · refine And.intro (fun z => absurd z (by decide)) (fun _ => ?_)
          refine call_eq (c_M_fails g (d + 2) I D _) ?_
          exact And.intro (by simp [h2, c3, bI_0.mp c4]) (And.intro (by first | (simp [h2, c3, bI_0.mp c4]; done) | (simp [h2, c3, bI_0.mp c4]; rfl)) (by first | rfl | simp [h2, c3, bI_0.mp c4]))
    · exact And.intro (by simp [of_decide_eq_true (bI_n0.mp c2)]) (And.intro (by first | (simp [of_decide_eq_true (bI_n0.mp c2)]; done) | (simp [of_decide_eq_true (bI_n0.mp c2)]; rfl)) (by first | rfl | simp [of_decide_eq_true (bI_n0.mp c2)]))
  · exact And.intro (by simp [bI_0.mp c0]) (And.intro (by first | (simp [bI_0.mp c0]; done) | (simp [bI_0.mp c0]; rfl)) (by first | rfl | simp [bI_0.mp c0]))
theorem c_X_as (m : Nat) (hm : m ≤ 40) (hS : I 6 9 = nI m) (sh kd : Int32) : Con g SHc (d + 3) 91 [.ref 0, .int sh, .int kd] I D (EqP (some (.int (if (shN sh m && wi kd 0 4) = true then (if 3000 ≤ I 1 0 then -4 else if sh = -1 then -11 else if ofK (I 42 sh.toNatClampNeg) kd = true then 1 else -13) else -2))) (if (shN sh m && wi kd 0 4) = true then (if 3000 ≤ I 1 0 then I else if sh = -1 then tellX 1 I else if ofK (I 42 sh.toNatClampNeg) kd = true then up2 I 0 12 (I 45 sh.toNatClampNeg) else tellX 3 I) else I) D) := by
  refine Con.mk (LV := v_X_as) k_X_as (Nat.le_of_ble_eq_true rfl) (fun K hK => ?_)
  refine hK (0, 83, o_X_as_0) (List.mem_of_getElem? (i := 0) rfl) _ _ _ _ ?_
  refine call_eq (c_X_isShipOrNothing g (d + 2) I D sh) ?_
  rw [hS, shN_or (by omega)]
  refine And.intro (fun c1 => ?_) (fun c1 => ?_)
  · exact And.intro (by simp [bI_0.mp c1]) (And.intro (by first | (simp [bI_0.mp c1]; done) | (simp [bI_0.mp c1]; rfl)) (by first | rfl | simp [bI_0.mp c1]))
  refine call_eq (c_X_isWithin g (d + 2) I D kd 0 4) ?_
  have h1 : shN sh m = true := bI_n0.mp c1
  refine And.intro (fun c2 => ?_) (fun c2 => ?_)
  · have h2 := bI_n0.mp c2
    rw [h1, h2]
    refine call_eq (c_X_areSpent g (d + 2) I D) ?_
    refine And.intro (fun c3 => ?_) (fun c3 => ?_)
    · have h3 : ¬ 3000 ≤ I 1 0 := of_decide_eq_false (bI_0.mp c3)
      refine And.intro (fun c4 => ?_) (fun c4 => ?_)
      · obtain ⟨j, hj, rfl⟩ := ix_nI (n := m) (by omega) (by simpa [shN, c4] using h1)
        have hc : (nI j).toNatClampNeg = j := nI_clamp (by omega)
        refine call_eq (c_X_isOf g (d + 2) I D j (by omega) kd) ?_
        refine And.intro (fun c5 => ?_) (fun c5 => ?_)
        · refine And.intro (inn_nI (by omega) (by decide)) ?_
          exact And.intro (by simp [h3, c4, bI_n0.mp c5, hc]) (And.intro (by first | (simp [h3, c4, bI_n0.mp c5, hc]; done) | (simp [h3, c4, bI_n0.mp c5, hc]; rfl)) (by first | rfl | simp [h3, c4, bI_n0.mp c5, hc]))
        · refine call_eq (c_X_tell g (d + 2) I D 3) ?_
          exact And.intro (by simp [h3, c4, bI_0.mp c5, hc]) (And.intro (by first | (simp [h3, c4, bI_0.mp c5, hc]; done) | (simp [h3, c4, bI_0.mp c5, hc]; rfl)) (by first | rfl | simp [h3, c4, bI_0.mp c5, hc]))
      · refine call_eq (c_X_tell g (d + 2) I D 1) ?_
        exact And.intro (by simp [h3, c4]) (And.intro (by first | (simp [h3, c4]; done) | (simp [h3, c4]; rfl)) (by first | rfl | simp [h3, c4]))
    · exact And.intro (by simp [of_decide_eq_true (bI_n0.mp c3)]) (And.intro (by first | (simp [of_decide_eq_true (bI_n0.mp c3)]; done) | (simp [of_decide_eq_true (bI_n0.mp c3)]; rfl)) (by first | rfl | simp [of_decide_eq_true (bI_n0.mp c3)]))
  · exact And.intro (by simp [bI_0.mp c2]) (And.intro (by first | (simp [bI_0.mp c2]; done) | (simp [bI_0.mp c2]; rfl)) (by first | rfl | simp [bI_0.mp c2]))
theorem c_M_as (m : Nat) (hm : m ≤ 40) (hS : I 12 49 = nI m) (sh kd : Int32) : Con g SHc (d + 3) 213 [.ref 12, .int sh, .int kd] I D (EqP (some (.int (if (shN sh m && wi kd 0 4) = true then (if 3000 ≤ I 12 2 then -4 else if sh = -1 then -11 else if ofK (I 103 sh.toNatClampNeg) kd = true then 1 else -13) else -2))) (if (shN sh m && wi kd 0 4) = true then (if 3000 ≤ I 12 2 then I else if sh = -1 then tellM 1 I else if ofK (I 103 sh.toNatClampNeg) kd = true then up2 I 12 56 (I 106 sh.toNatClampNeg) else tellM 3 I) else I) D) := by
  refine Con.mk (LV := v_M_as) k_M_as (Nat.le_of_ble_eq_true rfl) (fun K hK => ?_)
  refine hK (0, 68, o_M_as_0) (List.mem_of_getElem? (i := 0) rfl) _ _ _ _ ?_
  refine call_eq (c_M_isPart g d I D sh) ?_
  rw [hS, shN_M (by omega)]
  refine And.intro (fun c1 => ?_) (fun c1 => ?_)
  · exact And.intro (by simp [bI_0.mp c1]) (And.intro (by first | (simp [bI_0.mp c1]; done) | (simp [bI_0.mp c1]; rfl)) (by first | rfl | simp [bI_0.mp c1]))
  refine call_eq (c_M_in g (d + 2) I D kd 0 4) ?_
  have h1 : shN sh m = true := bI_n0.mp c1
  refine And.intro (fun c2 => ?_) (fun c2 => ?_)
  · have h2 := bI_n0.mp c2
    rw [h1, h2]
    refine call_eq (c_M_isFull g (d + 2) I D) ?_
    refine And.intro (fun c3 => ?_) (fun c3 => ?_)
    · have h3 : ¬ 3000 ≤ I 12 2 := of_decide_eq_false (bI_0.mp c3)
      refine And.intro (fun c4 => ?_) (fun c4 => ?_)
      · obtain ⟨j, hj, rfl⟩ := ix_nI (n := m) (by omega) (by simpa [shN, c4] using h1)
        have hc : (nI j).toNatClampNeg = j := nI_clamp (by omega)
        refine call_eq (c_M_isOf g (d + 2) I D j (by omega) kd) ?_
        refine And.intro (fun c5 => ?_) (fun c5 => ?_)
        · refine And.intro (inn_nI (by omega) (by decide)) ?_
          exact And.intro (by simp [h3, c4, bI_n0.mp c5, hc]) (And.intro (by first | (simp [h3, c4, bI_n0.mp c5, hc]; done) | (simp [h3, c4, bI_n0.mp c5, hc]; rfl)) (by first | rfl | simp [h3, c4, bI_n0.mp c5, hc]))
        · refine call_eq (c_M_fails g (d + 2) I D 3) ?_
          exact And.intro (by simp [h3, c4, bI_0.mp c5, hc]) (And.intro (by first | (simp [h3, c4, bI_0.mp c5, hc]; done) | (simp [h3, c4, bI_0.mp c5, hc]; rfl)) (by first | rfl | simp [h3, c4, bI_0.mp c5, hc]))
      · refine call_eq (c_M_fails g (d + 2) I D 1) ?_
        exact And.intro (by simp [h3, c4]) (And.intro (by first | (simp [h3, c4]; done) | (simp [h3, c4]; rfl)) (by first | rfl | simp [h3, c4]))
    · exact And.intro (by simp [of_decide_eq_true (bI_n0.mp c3)]) (And.intro (by first | (simp [of_decide_eq_true (bI_n0.mp c3)]; done) | (simp [of_decide_eq_true (bI_n0.mp c3)]; rfl)) (by first | rfl | simp [of_decide_eq_true (bI_n0.mp c3)]))
  · exact And.intro (by simp [bI_0.mp c2]) (And.intro (by first | (simp [bI_0.mp c2]; done) | (simp [bI_0.mp c2]; rfl)) (by first | rfl | simp [bI_0.mp c2]))
end S33
end
section
/-- k places of a FLEET become NOTHING -/
def clP (c f : Nat) (I : MI) : Nat → MI
  | 0 => I
  | i + 1 => up2 (clP c f I i) c (8 * f + i) (-1)
theorem clP_o (c f : Nat) (I : MI) {k : Nat} (h : k ≠ c) : ∀ i, clP c f I i k = I k
  | 0 => rfl
  | i + 1 => by
    unfold clP
    rw [up2_ne h, clP_o c f I h i]
theorem clP_r (c f : Nat) (I : MI) (j : Nat) : ∀ i, clP c f I i c j = if 8 * f ≤ j ∧ j < 8 * f + i then -1 else I c j
  | 0 => by rw [if_neg (by omega)]; rfl
  | i + 1 => by
    unfold clP
    rw [up2_at2, clP_r c f I j i]
    by_cases h : j = 8 * f + i
    · rw [if_pos ⟨rfl, h⟩, if_pos (by omega)]
    · rw [if_neg (fun z => h z.2)]
      by_cases h2 : 8 * f ≤ j ∧ j < 8 * f + i
      · rw [if_pos h2, if_pos (by omega)]
      · rw [if_neg h2, if_neg (by omega)]
def mkX (I : MI) (f n : Nat) (so : Int32) : MI := clP 58 f (up2 (up2 (up2 I 55 f 1) 56 f so) 57 f (nI n)) n
def mkM (I : MI) (f n : Nat) (so : Int32) : MI := clP 112 f (up2 (up2 I 110 f so) 111 f (nI n)) 8
section S34
variable (g : Gp) (d : Nat) (I : MI) (D : MD)
theorem c_X_make (f n : Nat) (hf : f < 4) (hn : n ≤ 8) (so : Int32) : Con g SHc d 94 [.ref 9, .int (nI f), .int so, .int (nI n)] I D (EqP none (mkX I f n so) D) := by
  have hc : (nI f).toNatClampNeg = f := nI_clamp (by omega)
  have hi : inn (nI f) 4 := inn_nI hf (by decide)
  refine Con.mk (LV := v_Fleets_make) k_Fleets_make (Nat.le_of_ble_eq_true rfl) (fun K hK => ?_)
  have loop : ∀ r i, i + r = n → K 24 [(0, .ref 9), (1, .int (nI f)), (3, .int (nI n)), (4, .int (nI i))] [] (clP 58 f (up2 (up2 (up2 I 55 f 1) 56 f so) 57 f (nI n)) i) D := by
    intro r
    induction r with
    | zero =>
      intro i hi0
      have hi0 : i = n := by omega
      subst hi0
      refine hK (24, 50, o_Fleets_make_1) (List.mem_of_getElem? (i := 1) rfl) _ _ _ _ ?_
      refine And.intro (fun c => ?_) (fun c => ?_)
      · exact And.intro rfl (And.intro rfl rfl)
      · exact absurd (nI_le (Nat.le_refl _) (by omega)) c
    | succ r ih =>
      intro i hi0
      have go := ih (i + 1) (by omega)
      rw [nI_succ] at go
      have e1 : nI f * 8 + nI i = nI (8 * f + i) := by rw [show (8 : Int32) = nI 8 from rfl, pk_mul, nI_add, Nat.mul_comm]
      refine hK (24, 50, o_Fleets_make_1) (List.mem_of_getElem? (i := 1) rfl) _ _ _ _ ?_
      refine And.intro (fun c => ?_) (fun c => ?_)
      · exact absurd c (nI_ge (by omega) (by omega))
      · refine And.intro (by rw [e1]; exact inn_nI (by omega) (by decide)) ?_
        rw [e1, nI_clamp (show 8 * f + i < 2 ^ 31 by omega)]
        exact go
  refine hK (0, 24, o_Fleets_make_0) (List.mem_of_getElem? (i := 0) rfl) _ _ _ _ ?_
  refine And.intro (hi) ?_
  refine And.intro (hi) ?_
  refine And.intro (hi) ?_
  rw [hc]
  exact loop n 0 (by omega)
theorem c_X_fleet (f so n : Int32) : Con g SHc (d + 1) 92 [.ref 0, .int f, .int so, .int n] I D (EqP (some (.int (if (wi f 0 3 && wi so 0 5 && decide (n ≤ 8)) = true then (if 3000 ≤ I 1 0 then -4 else if n < 0 then -15 else 1) else -2))) (if (wi f 0 3 && wi so 0 5 && decide (n ≤ 8)) = true then (if 3000 ≤ I 1 0 then I else if n < 0 then tellX 5 I else mkX I f.toNatClampNeg n.toNatClampNeg so) else I) D) := by
  refine Con.mk (LV := v_X_fleet) k_X_fleet (Nat.le_of_ble_eq_true rfl) (fun K hK => ?_)
  refine hK (0, 63, o_X_fleet_0) (List.mem_of_getElem? (i := 0) rfl) _ _ _ _ ?_
  refine call_eq (c_X_isFleet g d I D f) ?_
  refine And.intro (fun c1 => ?_) (fun c1 => ?_)
  · exact And.intro (by simp [bI_0.mp c1]) (And.intro (by first | (simp [bI_0.mp c1]; done) | (simp [bI_0.mp c1]; rfl)) (by first | rfl | simp [bI_0.mp c1]))
  refine call_eq (c_X_isWithin g d I D so 0 5) ?_
  refine And.intro (fun c2 => ?_) (fun c2 => ?_)
  · exact And.intro (by simp [bI_0.mp c2]) (And.intro (by first | (simp [bI_0.mp c2]; done) | (simp [bI_0.mp c2]; rfl)) (by first | rfl | simp [bI_0.mp c2]))
  have h1 := bI_n0.mp c1
  have h2 := bI_n0.mp c2
  refine And.intro (fun c3 => ?_) (fun c3 => ?_)
  · refine call_eq (c_X_areSpent g d I D) ?_
    refine And.intro (fun c4 => ?_) (fun c4 => ?_)
    · have h4 : ¬ 3000 ≤ I 1 0 := of_decide_eq_false (bI_0.mp c4)
      refine And.intro (fun c5 => ?_) (fun c5 => ?_)
      · obtain ⟨j, hj, rfl⟩ := wi_nI (m := 3) (by decide) h1
        obtain ⟨k, hk, rfl⟩ := nI_of (x := n) (i32_nlt.mpr c5)
        have hk8 : k ≤ 8 := (nI_leI hk (by decide)).mp c3
        refine call_eq (c_X_make g d I D j k (by omega) hk8 so) ?_
        exact And.intro (by simp [h1, h2, c3, h4, i32_nlt.mpr c5, nI_clamp (show j < 2 ^ 31 by omega), nI_clamp hk]) (And.intro (by first | (simp [h1, h2, c3, h4, i32_nlt.mpr c5, nI_clamp (show j < 2 ^ 31 by omega), nI_clamp hk]; done) | (simp [h1, h2, c3, h4, i32_nlt.mpr c5, nI_clamp (show j < 2 ^ 31 by omega), nI_clamp hk]; rfl)) (by first | rfl | simp [h1, h2, c3, h4, i32_nlt.mpr c5, nI_clamp (show j < 2 ^ 31 by omega), nI_clamp hk]))
      · refine call_eq (c_X_tell g d I D 5) ?_
        exact And.intro (by simp [h1, h2, c3, h4, i32_nle.mp c5]) (And.intro (by first | (simp [h1, h2, c3, h4, i32_nle.mp c5]; done) | (simp [h1, h2, c3, h4, i32_nle.mp c5]; rfl)) (by first | rfl | simp [h1, h2, c3, h4, i32_nle.mp c5]))
    · exact And.intro (by simp [h1, h2, c3, of_decide_eq_true (bI_n0.mp c4)]) (And.intro (by first | (simp [h1, h2, c3, of_decide_eq_true (bI_n0.mp c4)]; done) | (simp [h1, h2, c3, of_decide_eq_true (bI_n0.mp c4)]; rfl)) (by first | rfl | simp [h1, h2, c3, of_decide_eq_true (bI_n0.mp c4)]))
  · exact And.intro (by simp [h1, h2, c3]) (And.intro (by first | (simp [h1, h2, c3]; done) | (simp [h1, h2, c3]; rfl)) (by first | rfl | simp [h1, h2, c3]))
theorem c_M_fleet (f so n : Int32) : Con g SHc (d + 2) 215 [.ref 12, .int f, .int so, .int n] I D (EqP (some (.int (if (wi f 0 3 && wi so 0 5 && decide (n ≤ 8)) = true then (if 3000 ≤ I 12 2 then -4 else if n < 0 then -15 else 1) else -2))) (if (wi f 0 3 && wi so 0 5 && decide (n ≤ 8)) = true then (if 3000 ≤ I 12 2 then I else if n < 0 then tellM 5 I else mkM I f.toNatClampNeg n.toNatClampNeg so) else I) D) := by
  refine Con.mk (LV := v_M_fleet) k_M_fleet (Nat.le_of_ble_eq_true rfl) (fun K hK => ?_)
  refine hK (0, 62, o_M_fleet_0) (List.mem_of_getElem? (i := 0) rfl) _ _ _ _ ?_
  refine call_eq (c_M_isFleet g d I D f) ?_
  refine And.intro (fun c1 => ?_) (fun c1 => ?_)
  · exact And.intro (by simp [bI_0.mp c1]) (And.intro (by first | (simp [bI_0.mp c1]; done) | (simp [bI_0.mp c1]; rfl)) (by first | rfl | simp [bI_0.mp c1]))
  refine call_eq (c_M_in g (d + 1) I D so 0 5) ?_
  refine And.intro (fun c2 => ?_) (fun c2 => ?_)
  · exact And.intro (by simp [bI_0.mp c2]) (And.intro (by first | (simp [bI_0.mp c2]; done) | (simp [bI_0.mp c2]; rfl)) (by first | rfl | simp [bI_0.mp c2]))
  have h1 := bI_n0.mp c1
  have h2 := bI_n0.mp c2
  refine And.intro (fun c3 => ?_) (fun c3 => ?_)
  · refine call_eq (c_M_isFull g (d + 1) I D) ?_
    refine And.intro (fun c4 => ?_) (fun c4 => ?_)
    · have h4 : ¬ 3000 ≤ I 12 2 := of_decide_eq_false (bI_0.mp c4)
      refine And.intro (fun c5 => ?_) (fun c5 => ?_)
      · obtain ⟨j, hj, rfl⟩ := wi_nI (m := 3) (by decide) h1
        obtain ⟨k, hk, rfl⟩ := nI_of (x := n) (i32_nlt.mpr c5)
        have hk8 : k ≤ 8 := (nI_leI hk (by decide)).mp c3
        have hc : (nI j).toNatClampNeg = j := nI_clamp (by omega)
        have hi : inn (nI j) 4 := inn_nI (by omega) (by decide)
        have c6 := i32_nlt.mpr c5
        simp only [h1, h2, c3, h4, c6, Bool.true_and, decide_true, if_true, if_false, hc, nI_clamp hk] at hK
        have loop : ∀ r i, i + r = 8 → K 62 [(0, .ref 12), (1, .int (nI j)), (4, .int (nI i))] [] (clP 112 j (up2 (up2 I 110 j so) 111 j (nI k)) i) D := by
          intro r
          induction r with
          | zero =>
            intro i hi0
            have hi0 : i = 8 := by omega
            subst hi0
            refine hK (62, 90, o_M_fleet_1) (List.mem_of_getElem? (i := 1) rfl) _ _ _ _ ?_
            refine And.intro (fun c => ?_) (fun c => ?_)
            · exact And.intro rfl (And.intro rfl rfl)
            · exact absurd (by decide) c
          | succ r ih =>
            intro i hi0
            have go := ih (i + 1) (by omega)
            rw [nI_succ] at go
            have e1 : 8 * nI j + nI i = nI (8 * j + i) := nI_lin' 8 j i
            refine hK (62, 90, o_M_fleet_1) (List.mem_of_getElem? (i := 1) rfl) _ _ _ _ ?_
            refine And.intro (fun c => ?_) (fun c => ?_)
            · exact absurd c (nI_ge (b := 8) (by omega) (by decide))
            · refine And.intro (by rw [e1]; exact inn_nI (by omega) (by decide)) ?_
              rw [e1, nI_clamp (show 8 * j + i < 2 ^ 31 by omega)]
              exact go
        refine And.intro (hi) ?_
        refine And.intro (hi) ?_
        rw [hc]
        exact loop 8 0 (by omega)
      · refine call_eq (c_M_fails g (d + 1) I D 5) ?_
        exact And.intro (by simp [h1, h2, c3, h4, i32_nle.mp c5]) (And.intro (by first | (simp [h1, h2, c3, h4, i32_nle.mp c5]; done) | (simp [h1, h2, c3, h4, i32_nle.mp c5]; rfl)) (by first | rfl | simp [h1, h2, c3, h4, i32_nle.mp c5]))
    · exact And.intro (by simp [h1, h2, c3, of_decide_eq_true (bI_n0.mp c4)]) (And.intro (by first | (simp [h1, h2, c3, of_decide_eq_true (bI_n0.mp c4)]; done) | (simp [h1, h2, c3, of_decide_eq_true (bI_n0.mp c4)]; rfl)) (by first | rfl | simp [h1, h2, c3, of_decide_eq_true (bI_n0.mp c4)]))
  · exact And.intro (by simp [h1, h2, c3]) (And.intro (by first | (simp [h1, h2, c3]; done) | (simp [h1, h2, c3]; rfl)) (by first | rfl | simp [h1, h2, c3]))
/-- how many SHIPS stand in places -/
def stF (pl : Nat → Int32) (f : Nat) : Nat → Nat
  | 0 => 0
  | i + 1 => stF pl f i + (if pl (8 * f + i) = -1 then 0 else 1)
theorem stF_le (pl : Nat → Int32) (f : Nat) : ∀ i, stF pl f i ≤ i
  | 0 => Nat.le_refl _
  | i + 1 => by
    have := stF_le pl f i
    unfold stF
    split <;> omega
theorem stF_y {pl : Nat → Int32} {f i : Nat} (h : pl (8 * f + i) = -1) : stF pl f (i + 1) = stF pl f i := by simp [stF, h]
theorem stF_n {pl : Nat → Int32} {f i : Nat} (h : ¬ pl (8 * f + i) = -1) : stF pl f (i + 1) = stF pl f i + 1 := by simp [stF, h]
theorem c_X_standing (f n : Nat) (hf : f < 4) (hn : n ≤ 8) (hI : I 57 f = nI n) : Con g SHc d 104 [.ref 9, .int (nI f)] I D (EqP (some (.int (nI (stF (I 58) f n)))) I D) := by
  have hc : (nI f).toNatClampNeg = f := nI_clamp (by omega)
  have hi : inn (nI f) 4 := inn_nI hf (by decide)
  refine Con.mk (LV := v_Fleets_standing) k_Fleets_standing (Nat.le_of_ble_eq_true rfl) (fun K hK => ?_)
  have loop : ∀ r i, i + r = n → K 4 [(0, .ref 9), (1, .int (nI f)), (2, .int (nI (stF (I 58) f i))), (3, .int (nI i))] [] I D := by
    intro r
    induction r with
    | zero =>
      intro i hi0
      have hi0 : i = n := by omega
      subst hi0
      refine hK (4, 40, o_Fleets_standing_1) (List.mem_of_getElem? (i := 1) rfl) _ _ _ _ ?_
      refine And.intro (hi) ?_
      rw [hc, hI]
      refine And.intro (fun c => ?_) (fun c => ?_)
      · exact And.intro rfl (And.intro rfl rfl)
      · exact absurd (nI_le (Nat.le_refl _) (by omega)) c
    | succ r ih =>
      intro i hi0
      have go := ih (i + 1) (by omega)
      rw [nI_succ] at go
      have e1 : nI f * 8 + nI i = nI (8 * f + i) := by rw [show (8 : Int32) = nI 8 from rfl, pk_mul, nI_add, Nat.mul_comm]
      refine hK (4, 40, o_Fleets_standing_1) (List.mem_of_getElem? (i := 1) rfl) _ _ _ _ ?_
      refine And.intro (hi) ?_
      rw [hc, hI]
      refine And.intro (fun c => ?_) (fun c => ?_)
      · exact absurd c (nI_ge (by omega) (by omega))
      · refine And.intro (by rw [e1]; exact inn_nI (by omega) (by decide)) ?_
        rw [e1, nI_clamp (show 8 * f + i < 2 ^ 31 by omega)]
        refine And.intro (fun c2 => ?_) (fun c2 => ?_)
        · rw [stF_y c2] at go
          exact go
        · rw [stF_n c2, nI_succ] at go
          exact go
  refine hK (0, 4, o_Fleets_standing_0) (List.mem_of_getElem? (i := 0) rfl) _ _ _ _ ?_
  exact loop n 0 (by omega)
theorem c_X_isNothing (f : Nat) (hf : f < 4) : Con g SHc d 100 [.ref 9, .int (nI f)] I D (EqP (some (.int (bI (decide (I 55 f = 0))))) I D) := by
  have hc : (nI f).toNatClampNeg = f := nI_clamp (by omega)
  refine Con.mk (LV := v_Fleets_isNothing) k_Fleets_isNothing (Nat.le_of_ble_eq_true rfl) (fun K hK => ?_)
  refine hK (0, 15, o_Fleets_isNothing_0) (List.mem_of_getElem? (i := 0) rfl) _ _ _ _ ?_
  refine And.intro (inn_nI hf (by decide)) ?_
  rw [hc]
  refine And.intro (fun c1 => ?_) (fun c1 => ?_)
  · exact And.intro (by decide) (And.intro (by simp [c1, bI]) (And.intro rfl rfl))
  · exact And.intro (by decide) (And.intro (by simp [c1, bI]) (And.intro rfl rfl))
theorem c_X_shared (hF : ∀ j, j < 4 → ∃ n, n ≤ 8 ∧ I 57 j = nI n) (f c : Int32) : Con g SHc (d + 1) 103 [.ref 0, .int f, .int c] I D (EqP (some (.int (if (wi f 0 3 && wi c 0 1000000) = true then (if 3000 ≤ I 1 0 then -4 else if I 55 f.toNatClampNeg = 0 then -11 else if stF (I 58) f.toNatClampNeg (I 57 f.toNatClampNeg).toNatClampNeg = 0 then -14 else 1) else -2))) (if (wi f 0 3 && wi c 0 1000000) = true then (if 3000 ≤ I 1 0 then I else if I 55 f.toNatClampNeg = 0 then tellX 1 I else if stF (I 58) f.toNatClampNeg (I 57 f.toNatClampNeg).toNatClampNeg = 0 then tellX 4 I else up2 I 0 12 (c / nI (stF (I 58) f.toNatClampNeg (I 57 f.toNatClampNeg).toNatClampNeg))) else I) D) := by
  refine Con.mk (LV := v_X_shared) k_X_shared (Nat.le_of_ble_eq_true rfl) (fun K hK => ?_)
  refine hK (0, 85, o_X_shared_0) (List.mem_of_getElem? (i := 0) rfl) _ _ _ _ ?_
  refine call_eq (c_X_isFleet g d I D f) ?_
  refine And.intro (fun c1 => ?_) (fun c1 => ?_)
  · exact And.intro (by simp [bI_0.mp c1]) (And.intro (by first | (simp [bI_0.mp c1]; done) | (simp [bI_0.mp c1]; rfl)) (by first | rfl | simp [bI_0.mp c1]))
  refine call_eq (c_X_isWithin g d I D c 0 1000000) ?_
  have h1 := bI_n0.mp c1
  refine And.intro (fun c2 => ?_) (fun c2 => ?_)
  · have h2 := bI_n0.mp c2
    obtain ⟨j, hj, rfl⟩ := wi_nI (m := 3) (by decide) h1
    have hc : (nI j).toNatClampNeg = j := nI_clamp (by omega)
    obtain ⟨n, hn, he⟩ := hF j (by omega)
    rw [h1, h2, hc, he, nI_clamp (show n < 2 ^ 31 by omega)]
    refine call_eq (c_X_areSpent g d I D) ?_
    refine And.intro (fun c3 => ?_) (fun c3 => ?_)
    · have h3 : ¬ 3000 ≤ I 1 0 := of_decide_eq_false (bI_0.mp c3)
      refine call_eq (c_X_isNothing g d I D j (by omega)) ?_
      refine And.intro (fun c4 => ?_) (fun c4 => ?_)
      · have h4 : ¬ I 55 j = 0 := of_decide_eq_false (bI_0.mp c4)
        refine call_eq (c_X_standing g d I D j n (by omega) hn he) ?_
        have hle := stF_le (I 58) j n
        refine And.intro (fun c5 => ?_) (fun c5 => ?_)
        · have h5 : ¬ stF (I 58) j n = 0 := fun z => c5 (by rw [z]; rfl)
          refine And.intro (c5) ?_
          exact And.intro (by simp [h3, h4, h5]) (And.intro (by first | (simp [h3, h4, h5]; done) | (simp [h3, h4, h5]; rfl)) (by first | rfl | simp [h3, h4, h5]))
        · have h5 : stF (I 58) j n = 0 := (nI_eq (b := 0) (by omega) (by decide)).mp c5
          refine call_eq (c_X_tell g d I D 4) ?_
          exact And.intro (by simp [h3, h4, h5]) (And.intro (by first | (simp [h3, h4, h5]; done) | (simp [h3, h4, h5]; rfl)) (by first | rfl | simp [h3, h4, h5]))
      · have h4 : I 55 j = 0 := of_decide_eq_true (bI_n0.mp c4)
        refine call_eq (c_X_tell g d I D 1) ?_
        exact And.intro (by simp [h3, h4]) (And.intro (by first | (simp [h3, h4]; done) | (simp [h3, h4]; rfl)) (by first | rfl | simp [h3, h4]))
    · exact And.intro (by simp [of_decide_eq_true (bI_n0.mp c3)]) (And.intro (by first | (simp [of_decide_eq_true (bI_n0.mp c3)]; done) | (simp [of_decide_eq_true (bI_n0.mp c3)]; rfl)) (by first | rfl | simp [of_decide_eq_true (bI_n0.mp c3)]))
  · exact And.intro (by simp [bI_0.mp c2]) (And.intro (by first | (simp [bI_0.mp c2]; done) | (simp [bI_0.mp c2]; rfl)) (by first | rfl | simp [bI_0.mp c2]))
theorem c_M_shared (hF : ∀ j, j < 4 → ∃ n, n ≤ 8 ∧ (I 111 j = -1 ∨ I 111 j = nI n)) (f c : Int32) : Con g SHc (d + 2) 222 [.ref 12, .int f, .int c] I D (EqP (some (.int (if (wi f 0 3 && wi c 0 1000000) = true then (if 3000 ≤ I 12 2 then -4 else if I 111 f.toNatClampNeg = -1 then -11 else if stF (I 112) f.toNatClampNeg (I 111 f.toNatClampNeg).toNatClampNeg = 0 then -14 else 1) else -2))) (if (wi f 0 3 && wi c 0 1000000) = true then (if 3000 ≤ I 12 2 then I else if I 111 f.toNatClampNeg = -1 then tellM 1 I else if stF (I 112) f.toNatClampNeg (I 111 f.toNatClampNeg).toNatClampNeg = 0 then tellM 4 I else up2 I 12 56 (c / nI (stF (I 112) f.toNatClampNeg (I 111 f.toNatClampNeg).toNatClampNeg))) else I) D) := by
  refine Con.mk (LV := v_M_shared) k_M_shared (Nat.le_of_ble_eq_true rfl) (fun K hK => ?_)
  refine hK (0, 52, o_M_shared_0) (List.mem_of_getElem? (i := 0) rfl) _ _ _ _ ?_
  refine call_eq (c_M_isFleet g d I D f) ?_
  refine And.intro (fun c1 => ?_) (fun c1 => ?_)
  · exact And.intro (by simp [bI_0.mp c1]) (And.intro (by first | (simp [bI_0.mp c1]; done) | (simp [bI_0.mp c1]; rfl)) (by first | rfl | simp [bI_0.mp c1]))
  refine call_eq (c_M_in g (d + 1) I D c 0 1000000) ?_
  have h1 := bI_n0.mp c1
  refine And.intro (fun c2 => ?_) (fun c2 => ?_)
  · have h2 := bI_n0.mp c2
    obtain ⟨j, hj, rfl⟩ := wi_nI (m := 3) (by decide) h1
    have hc : (nI j).toNatClampNeg = j := nI_clamp (by omega)
    have hi : inn (nI j) 4 := inn_nI (by omega) (by decide)
    obtain ⟨n, hn, he⟩ := hF j (by omega)
    refine call_eq (c_M_isFull g (d + 1) I D) ?_
    refine And.intro (fun c3 => ?_) (fun c3 => ?_)
    · have h3 : ¬ 3000 ≤ I 12 2 := of_decide_eq_false (bI_0.mp c3)
      refine And.intro (hi) ?_
      rw [hc]
      refine And.intro (fun c4 => ?_) (fun c4 => ?_)
      · have he := he.resolve_left c4
        have hne := nI_neg1 (show n < 2 ^ 31 by omega)
        simp only [h1, h2, h3, hc, he, hne, Bool.true_and, if_true, if_false, nI_clamp (show n < 2 ^ 31 by omega)] at hK
        have loop : ∀ r i, i + r = n → K 52 [(0, .ref 12), (1, .int (nI j)), (2, .int c), (3, .int (nI (stF (I 112) j i))), (4, .int (nI i))] [] I D := by
          intro r
          induction r with
          | zero =>
            intro i hi0
            have hi0 : i = n := by omega
            subst hi0
            have hle := stF_le (I 112) j i
            refine hK (52, 112, o_M_shared_1) (List.mem_of_getElem? (i := 1) rfl) _ _ _ _ ?_
            refine And.intro (hi) ?_
            rw [hc, he]
            refine And.intro (fun cc => ?_) (fun cc => ?_)
            · refine And.intro (fun c5 => ?_) (fun c5 => ?_)
              · have h5 : ¬ stF (I 112) j i = 0 := fun z => c5 (by rw [z]; rfl)
                refine And.intro (c5) ?_
                exact And.intro (by simp [h5]) (And.intro (by first | (simp [h5]; done) | (simp [h5]; rfl)) (by first | rfl | simp [h5]))
              · have h5 : stF (I 112) j i = 0 := (nI_eq (b := 0) (by omega) (by decide)).mp c5
                refine call_eq (c_M_fails g (d + 1) I D 4) ?_
                exact And.intro (by simp [h5]) (And.intro (by first | (simp [h5]; done) | (simp [h5]; rfl)) (by first | rfl | simp [h5]))
            · exact absurd (nI_le (Nat.le_refl _) (by omega)) cc
          | succ r ih =>
            intro i hi0
            have go := ih (i + 1) (by omega)
            rw [nI_succ] at go
            have e1 : 8 * nI j + nI i = nI (8 * j + i) := nI_lin' 8 j i
            refine hK (52, 112, o_M_shared_1) (List.mem_of_getElem? (i := 1) rfl) _ _ _ _ ?_
            refine And.intro (hi) ?_
            rw [hc, he]
            refine And.intro (fun cc => ?_) (fun cc => ?_)
            · exact absurd cc (nI_ge (by omega) (by omega))
            · refine And.intro (by rw [e1]; exact inn_nI (by omega) (by decide)) ?_
              rw [e1, nI_clamp (show 8 * j + i < 2 ^ 31 by omega)]
              refine And.intro (fun c5 => ?_) (fun c5 => ?_)
              · rw [stF_n c5, nI_succ] at go
                exact go
              · rw [stF_y c5] at go
                exact go
        exact loop n 0 (by omega)
      · refine call_eq (c_M_fails g (d + 1) I D 1) ?_
        exact And.intro (by simp [h1, h2, h3, c4, hc]) (And.intro (by first | (simp [h1, h2, h3, c4, hc]; done) | (simp [h1, h2, h3, c4, hc]; rfl)) (by first | rfl | simp [h1, h2, h3, c4, hc]))
    · exact And.intro (by simp [h1, h2, of_decide_eq_true (bI_n0.mp c3)]) (And.intro (by first | (simp [h1, h2, of_decide_eq_true (bI_n0.mp c3)]; done) | (simp [h1, h2, of_decide_eq_true (bI_n0.mp c3)]; rfl)) (by first | rfl | simp [h1, h2, of_decide_eq_true (bI_n0.mp c3)]))
  · exact And.intro (by simp [bI_0.mp c2]) (And.intro (by first | (simp [bI_0.mp c2]; done) | (simp [bI_0.mp c2]; rfl)) (by first | rfl | simp [bI_0.mp c2]))
end S34
end
section
theorem up2_up2 {α : Type} (f : Nat → Nat → α) (k j : Nat) (v w : α) : up2 (up2 f k j v) k j w = up2 f k j w := by
  funext a b
  rw [up2_at2, up2_at2, up2_at2]
  split <;> rfl
section S35
variable (g : Gp) (d : Nat) (I : MI) (D : MD)
/-- a BED is laid at the place b -/
def byX (I : MI) (b : Nat) (s dy bd nw : Int32) : MI := up2 (up2 (up2 (up2 I 32 b s) 33 b dy) 34 b nw) 35 b bd
def byM (I : MI) (b : Nat) (s dy bd nw : Int32) : MI := up2 (up2 (up2 (up2 (up2 I 93 b s) 94 b dy) 95 b nw) 96 b bd) 12 37 (nI (b + 1))
theorem c_X_addBed (b : Nat) (hb : b < 76) (hI : I 4 8 + I 4 9 = nI b) (s dy bd nw : Int32) : Con g SHc d 44 [.ref 4, .int s, .int dy, .int bd, .int nw] I D (EqP none (byX I b s dy bd nw) D) := by
  have hi : inn (nI b) 76 := inn_nI hb (by decide)
  refine Con.mk (LV := v_Shoals_addBed) k_Shoals_addBed (Nat.le_of_ble_eq_true rfl) (fun K hK => ?_)
  refine hK (0, 45, o_Shoals_addBed_0) (List.mem_of_getElem? (i := 0) rfl) _ _ _ _ ?_
  refine And.intro (by rw [hI]; exact hi) ?_
  rw [hI]
  refine And.intro (hi) ?_
  refine And.intro (hi) ?_
  refine And.intro (hi) ?_
  rw [nI_clamp (show b < 2 ^ 31 by omega)]
  exact And.intro rfl (And.intro rfl rfl)
theorem c_M_lay (b : Nat) (hb : b < 76) (hI : I 12 37 = nI b) (s dy bd : Int32) : Con g SHc d 181 [.ref 12, .int s, .int dy, .int bd] I D (EqP none (byM I b s dy bd (I 12 0)) D) := by
  have hI0 : ∀ z : MI, z 12 37 = nI b → inn (z 12 37) 76 := fun z h => by rw [h]; exact inn_nI hb (by decide)
  have hc : (I 12 37).toNatClampNeg = b := by rw [hI]; exact nI_clamp (by omega)
  have e1 : I 12 37 + 1 = nI (b + 1) := by rw [hI]; exact nI_1 b
  have key : byM I b s dy bd (I 12 0) = up2 (up2 (up2 (up2 (up2 I 93 (I 12 37).toNatClampNeg s) 94 (I 12 37).toNatClampNeg dy) 95 (I 12 37).toNatClampNeg (I 12 0)) 96 (I 12 37).toNatClampNeg bd) 12 37 (I 12 37 + 1) := by rw [hc, e1]; rfl
  rw [key]
  refine Con.mk (LV := v_M_lay) k_M_lay (Nat.le_of_ble_eq_true rfl) (fun K hK => ?_)
  refine hK (0, 54, o_M_lay_0) (List.mem_of_getElem? (i := 0) rfl) _ _ _ _ ?_
  refine And.intro (hI0 I hI) ?_
  refine And.intro (hI0 _ hI) ?_
  refine And.intro (hI0 _ hI) ?_
  refine And.intro (hI0 _ hI) ?_
  exact And.intro rfl (And.intro rfl rfl)
def shX (I : MI) (n b : Nat) (s bd lk nw : Int32) : MI := up2 (byX (up2 (up2 I 30 n s) 31 n lk) b (nI n) 0 bd nw) 4 8 (nI (n + 1))
def shM (I : MI) (n b : Nat) (s bd lk : Int32) : MI := up2 (byM (up2 (up2 I 91 n s) 92 n lk) b (nI n) 0 bd (I 12 0)) 12 33 (nI (n + 1))
theorem c_X_sadd (n b : Nat) (hn : n ≤ 16) (hb : n < 16 → b < 76) (hI : I 4 8 = nI n) (hB : I 4 8 + I 4 9 = nI b) (s bd lk nw : Int32) : Con g SHc (d + 1) 43 [.ref 4, .int s, .int bd, .int lk, .int nw] I D (EqP (some (.int (if n < 16 then nI n else -4))) (if n < 16 then shX I n b s bd lk nw else I) D) := by
  have hc : (I 4 8).toNatClampNeg = n := by rw [hI]; exact nI_clamp (by omega)
  have e1 : I 4 8 + 1 = nI (n + 1) := by rw [hI]; exact nI_1 n
  refine Con.mk (LV := v_Shoals_add) k_Shoals_add (Nat.le_of_ble_eq_true rfl) (fun K hK => ?_)
  refine hK (0, 61, o_Shoals_add_0) (List.mem_of_getElem? (i := 0) rfl) _ _ _ _ ?_
  refine And.intro (fun c1 => ?_) (fun c1 => ?_)
  · rw [hI] at c1
    have c1 : n < 16 := (nI_ltI (by omega) (by decide)).mp c1
    have hI0 : ∀ z : MI, z 4 8 = nI n → inn (z 4 8) 16 := fun z h => by rw [h]; exact inn_nI c1 (by decide)
    rw [if_pos c1, if_pos c1]
    refine And.intro (hI0 I hI) ?_
    rw [hc]
    refine And.intro (hI0 _ hI) ?_
    have hc2 : (up2 I 30 n s 4 8).toNatClampNeg = n := hc
    rw [hc2]
    have hz : ∀ k : Po, k none (byX (up2 (up2 I 30 n s) 31 n lk) b (nI n) 0 bd nw) D → CaD g SHc (d + 1) 44 [.ref 4, .int (up2 (up2 I 30 n s) 31 n lk 4 8), .int 0, .int bd, .int nw] (up2 (up2 I 30 n s) 31 n lk) D k := by
      intro k hk
      have e2 : up2 (up2 I 30 n s) 31 n lk 4 8 = nI n := hI
      rw [e2]
      exact call_eq (c_X_addBed g d (up2 (up2 I 30 n s) 31 n lk) D b (hb c1) hB _ _ _ _) hk
    refine hz _ ?_
    refine And.intro ?_ (And.intro ?_ rfl)
    · rw [up2_at]
      exact congrArg (fun z => some (Value.int z)) ((congrArg (fun z : Int32 => z - 1) e1).trans (by rw [nI_pred]))
    · exact congrArg (up2 _ _ _) e1
  · rw [hI] at c1
    have c1 : ¬ n < 16 := fun h => c1 ((nI_ltI (by omega) (by decide)).mpr h)
    rw [if_neg c1, if_neg c1]
    exact And.intro rfl (And.intro rfl rfl)
def drX (I : MI) (q b : Nat) (s dy bd nw : Int32) : MI := up2 (byX I b s dy bd nw) 4 9 (nI (q + 1))
def drM (I : MI) (q b : Nat) (s dy bd : Int32) : MI := up2 (byM I b s dy bd (I 12 0)) 12 36 (nI (q + 1))
theorem c_X_addDredging (q b : Nat) (hq : q ≤ 60) (hb : q < 60 → b < 76) (hI : I 4 9 = nI q) (hB : I 4 8 + I 4 9 = nI b) (s dy bd nw : Int32) : Con g SHc (d + 1) 47 [.ref 4, .int s, .int dy, .int bd, .int nw] I D (EqP (some (.int (if q < 60 then nI (q + 1) else -4))) (if q < 60 then drX I q b s dy bd nw else I) D) := by
  have e1 : I 4 9 + 1 = nI (q + 1) := by rw [hI]; exact nI_1 q
  refine Con.mk (LV := v_Shoals_addDredging) k_Shoals_addDredging (Nat.le_of_ble_eq_true rfl) (fun K hK => ?_)
  refine hK (0, 36, o_Shoals_addDredging_0) (List.mem_of_getElem? (i := 0) rfl) _ _ _ _ ?_
  refine And.intro (fun c1 => ?_) (fun c1 => ?_)
  · rw [hI] at c1
    have c1 : q < 60 := (nI_ltI (by omega) (by decide)).mp c1
    rw [if_pos c1, if_pos c1]
    refine call_eq (c_X_addBed g d I D b (hb c1) hB s dy bd nw) ?_
    refine And.intro ?_ (And.intro ?_ rfl)
    · rw [up2_at]
      exact congrArg (fun z => some (Value.int z)) e1
    · exact congrArg (up2 _ _ _) e1
  · rw [hI] at c1
    have c1 : ¬ q < 60 := fun h => c1 ((nI_ltI (by omega) (by decide)).mpr h)
    rw [if_neg c1, if_neg c1]
    exact And.intro rfl (And.intro rfl rfl)
theorem c_X_shoal (n b : Nat) (hn : n ≤ 16) (hb : n < 16 → b < 76) (hI : I 4 8 = nI n) (hB : I 4 8 + I 4 9 = nI b) (s bd lk : Int32) : Con g SHc (d + 2) 41 [.ref 0, .int s, .int bd, .int lk] I D (EqP (some (.int (if (wi s 0 11 && wi bd (-1000) 5000 && wi lk 0 7200) = true then (if n < 16 then nI n else -4) else -2))) (if (wi s 0 11 && wi bd (-1000) 5000 && wi lk 0 7200) = true then (if n < 16 then shX I n b s bd lk (I 0 11) else I) else I) D) := by
  refine Con.mk (LV := v_X_shoal) k_X_shoal (Nat.le_of_ble_eq_true rfl) (fun K hK => ?_)
  refine hK (0, 43, o_X_shoal_0) (List.mem_of_getElem? (i := 0) rfl) _ _ _ _ ?_
  clear hK
  repeat' (first | (refine And.intro (fun _ => ?_) (fun _ => ?_)) | (refine call_eq (c_X_sadd g _ _ _ n b hn hb hI hB _ _ _ _) ?_) | (refine call_eq (c_X_isWithin g _ _ _ _ _ _) ?_) | (refine call_eq (c_X_isMoment g _ _ _ _) ?_) | (refine call_eq (c_X_isDay g _ _ _ _) ?_) | (refine call_eq (c_X_isMinute g _ _ _ _) ?_) | (refine call_eq (c_X_isStation g _ _ _ _) ?_) | (refine call_eq (c_X_isFleet g _ _ _ _) ?_) | (refine call_eq (c_X_isRoute g _ _ _ _) ?_) | (refine call_eq (c_X_isGauge g _ _ _ _) ?_) | (refine call_eq (c_X_isShoal g _ _ _ _) ?_) | (refine call_eq (c_X_isShip g _ _ _ _) ?_) | (refine call_eq (c_X_isPassage g _ _ _ _) ?_) | (refine call_eq (c_X_isShipOrNothing g _ _ _ _) ?_) | (refine call_eq (c_X_isPast g _ _ _ _) ?_) | (refine call_eq (c_X_isBed g _ _ _ _) ?_) | (refine call_eq (c_X_areSpent g _ _ _) ?_) | (refine call_eq (c_X_tell g _ _ _ _) ?_) | (refine call_eq (c_X_isNoFloat g _ _ _ _) ?_) | (refine call_eq (c_X_isMark g _ _ _ _) ?_) | (refine And.intro (fun _ => ?_) ?_) | intro _)
  all_goals (refine And.intro ?_ (And.intro ?_ ?_) <;> (first | rfl | (simp_all [bI_0, bI_n0]; done) | (simp_all [bI_0, bI_n0, i32_lt, i32_le] <;> omega)))
theorem c_X_dredge (n q b : Nat) (hn : n ≤ 16) (hq : q ≤ 60) (hb : q < 60 → b < 76) (hT : I 4 8 = nI n) (hI : I 4 9 = nI q) (hB : I 4 8 + I 4 9 = nI b) (s dy bd : Int32) : Con g SHc (d + 2) 45 [.ref 0, .int s, .int dy, .int bd] I D (EqP (some (.int (if (ix s (nI n) && wi dy 0 29 && wi bd (-1000) 5000) = true then (if q < 60 then nI (q + 1) else -4) else -2))) (if (ix s (nI n) && wi dy 0 29 && wi bd (-1000) 5000) = true then (if q < 60 then drX I q b s dy bd (I 0 11) else I) else I) D) := by
  refine Con.mk (LV := v_X_dredge) k_X_dredge (Nat.le_of_ble_eq_true rfl) (fun K hK => ?_)
  refine hK (0, 40, o_X_dredge_0) (List.mem_of_getElem? (i := 0) rfl) _ _ _ _ ?_
  refine call_eq (c_X_isShoal g (d + 1) I D s) ?_
  rw [hT]
  refine And.intro (fun c1 => ?_) (fun c1 => ?_)
  · exact And.intro (by simp [bI_0.mp c1, ix]) (And.intro (by first | (simp [bI_0.mp c1, ix]; done) | (simp [bI_0.mp c1, ix]; rfl)) (by first | rfl | simp [bI_0.mp c1, ix]))
  refine call_eq (c_X_isDay g (d + 1) I D dy) ?_
  refine And.intro (fun c2 => ?_) (fun c2 => ?_)
  · exact And.intro (by simp [bI_0.mp c2]) (And.intro (by first | (simp [bI_0.mp c2]; done) | (simp [bI_0.mp c2]; rfl)) (by first | rfl | simp [bI_0.mp c2]))
  refine call_eq (c_X_isBed g (d + 1) I D bd) ?_
  have h1 : ix s (nI n) = true := bI_n0.mp c1
  refine And.intro (fun c3 => ?_) (fun c3 => ?_)
  · refine call_eq (c_X_addDredging g d I D q b hq hb hI hB _ _ _ _) ?_
    exact And.intro (by simp [h1, bI_n0.mp c2, bI_n0.mp c3]) (And.intro (by first | (simp [h1, bI_n0.mp c2, bI_n0.mp c3]; done) | (simp [h1, bI_n0.mp c2, bI_n0.mp c3]; rfl)) (by first | rfl | simp [h1, bI_n0.mp c2, bI_n0.mp c3]))
  · exact And.intro (by simp [bI_0.mp c3]) (And.intro (by first | (simp [bI_0.mp c3]; done) | (simp [bI_0.mp c3]; rfl)) (by first | rfl | simp [bI_0.mp c3]))
theorem c_M_shoal (n b : Nat) (hn : n ≤ 16) (hb : n < 16 → b < 76) (hI : I 12 33 = nI n) (hB : I 12 37 = nI b) (s bd lk : Int32) : Con g SHc (d + 2) 180 [.ref 12, .int s, .int bd, .int lk] I D (EqP (some (.int (if (wi s 0 11 && wi bd (-1000) 5000 && wi lk 0 7200) = true then (if n < 16 then nI n else -4) else -2))) (if (wi s 0 11 && wi bd (-1000) 5000 && wi lk 0 7200) = true then (if n < 16 then shM I n b s bd lk else I) else I) D) := by
  have hc : (I 12 33).toNatClampNeg = n := by rw [hI]; exact nI_clamp (by omega)
  have e1 : I 12 33 + 1 = nI (n + 1) := by rw [hI]; exact nI_1 n
  refine Con.mk (LV := v_M_shoal) k_M_shoal (Nat.le_of_ble_eq_true rfl) (fun K hK => ?_)
  refine hK (0, 93, o_M_shoal_0) (List.mem_of_getElem? (i := 0) rfl) _ _ _ _ ?_
  refine call_eq (c_M_isStation g d I D s) ?_
  refine And.intro (fun c1 => ?_) (fun c1 => ?_)
  · exact And.intro (by simp [bI_0.mp c1]) (And.intro (by first | (simp [bI_0.mp c1]; done) | (simp [bI_0.mp c1]; rfl)) (by first | rfl | simp [bI_0.mp c1]))
  refine call_eq (c_M_in g (d + 1) I D bd (-1000) 5000) ?_
  refine And.intro (fun c2 => ?_) (fun c2 => ?_)
  · exact And.intro (by simp [bI_0.mp c2]) (And.intro (by first | (simp [bI_0.mp c2]; done) | (simp [bI_0.mp c2]; rfl)) (by first | rfl | simp [bI_0.mp c2]))
  refine call_eq (c_M_in g (d + 1) I D lk 0 7200) ?_
  refine And.intro (fun c3 => ?_) (fun c3 => ?_)
  · rw [bI_n0.mp c1, bI_n0.mp c2, bI_n0.mp c3]
    refine And.intro (fun c4 => ?_) (fun c4 => ?_)
    · rw [hI] at c4
      have c4 : n < 16 := by
        rcases Nat.lt_or_ge n 16 with h | h
        · exact h
        · exact absurd (by rw [show n = 16 by omega]; rfl) c4
      have hI0 : ∀ z : MI, z 12 33 = nI n → inn (z 12 33) 16 := fun z h => by rw [h]; exact inn_nI c4 (by decide)
      refine And.intro (hI0 I hI) ?_
      rw [hc]
      refine And.intro (hI0 _ hI) ?_
      have hc2 : (up2 I 91 n s 12 33).toNatClampNeg = n := hc
      rw [hc2]
      have hz : ∀ k : Po, k none (byM (up2 (up2 I 91 n s) 92 n lk) b (nI n) 0 bd (I 12 0)) D → CaD g SHc (d + 2) 181 [.ref 12, .int (up2 (up2 I 91 n s) 92 n lk 12 33), .int 0, .int bd] (up2 (up2 I 91 n s) 92 n lk) D k := by
        intro k hk
        have e2 : up2 (up2 I 91 n s) 92 n lk 12 33 = nI n := hI
        rw [e2]
        exact call_eq (c_M_lay g (d + 1) (up2 (up2 I 91 n s) 92 n lk) D b (hb c4) hB _ _ _) hk
      refine hz _ ?_
      refine And.intro ?_ (And.intro ?_ rfl)
      · rw [up2_at]
        refine (congrArg (fun z => some (Value.int z)) ((congrArg (fun z : Int32 => z - 1) e1).trans (by rw [nI_pred]))).trans ?_
        simp [c4]
      · refine (congrArg (up2 _ _ _) e1).trans ?_
        simp [c4]
        rfl
    · rw [hI] at c4
      have c5 : n = 16 := (nI_eq (a := n) (b := 16) (by omega) (by decide)).mp c4
      have c4 : ¬ n < 16 := by omega
      exact And.intro (by simp [c4]) (And.intro (by first | (simp [c4]; done) | (simp [c4]; rfl)) (by first | rfl | simp [c4]))
  · exact And.intro (by simp [bI_0.mp c3]) (And.intro (by first | (simp [bI_0.mp c3]; done) | (simp [bI_0.mp c3]; rfl)) (by first | rfl | simp [bI_0.mp c3]))
theorem c_M_dredge (n q b : Nat) (hn : n ≤ 16) (hq : q ≤ 60) (hb : q < 60 → b < 76) (hT : I 12 33 = nI n) (hI : I 12 36 = nI q) (hB : I 12 37 = nI b) (s dy bd : Int32) : Con g SHc (d + 2) 182 [.ref 12, .int s, .int dy, .int bd] I D (EqP (some (.int (if (ix s (nI n) && wi dy 0 29 && wi bd (-1000) 5000) = true then (if q < 60 then nI (q + 1) else -4) else -2))) (if (ix s (nI n) && wi dy 0 29 && wi bd (-1000) 5000) = true then (if q < 60 then drM I q b s dy bd else I) else I) D) := by
  have e1 : I 12 36 + 1 = nI (q + 1) := by rw [hI]; exact nI_1 q
  refine Con.mk (LV := v_M_dredge) k_M_dredge (Nat.le_of_ble_eq_true rfl) (fun K hK => ?_)
  refine hK (0, 68, o_M_dredge_0) (List.mem_of_getElem? (i := 0) rfl) _ _ _ _ ?_
  refine call_eq (c_M_isShoal g d I D s) ?_
  rw [hT, ix_wi (by omega)]
  refine And.intro (fun c1 => ?_) (fun c1 => ?_)
  · exact And.intro (by simp [bI_0.mp c1]) (And.intro (by first | (simp [bI_0.mp c1]; done) | (simp [bI_0.mp c1]; rfl)) (by first | rfl | simp [bI_0.mp c1]))
  refine call_eq (c_M_in g (d + 1) I D dy 0 29) ?_
  refine And.intro (fun c2 => ?_) (fun c2 => ?_)
  · exact And.intro (by simp [bI_0.mp c2]) (And.intro (by first | (simp [bI_0.mp c2]; done) | (simp [bI_0.mp c2]; rfl)) (by first | rfl | simp [bI_0.mp c2]))
  refine call_eq (c_M_in g (d + 1) I D bd (-1000) 5000) ?_
  refine And.intro (fun c3 => ?_) (fun c3 => ?_)
  · rw [bI_n0.mp c1, bI_n0.mp c2, bI_n0.mp c3]
    refine And.intro (fun c4 => ?_) (fun c4 => ?_)
    · rw [hI] at c4
      have c4 : q < 60 := by
        rcases Nat.lt_or_ge q 60 with h | h
        · exact h
        · exact absurd (by rw [show q = 60 by omega]; rfl) c4
      refine call_eq (c_M_lay g (d + 1) I D b (hb c4) hB _ _ _) ?_
      refine And.intro ?_ (And.intro ?_ rfl)
      · rw [up2_at]
        refine (congrArg (fun z => some (Value.int z)) e1).trans ?_
        simp [c4]
      · refine (congrArg (up2 _ _ _) e1).trans ?_
        simp [c4]
        rfl
    · rw [hI] at c4
      have c5 : q = 60 := (nI_eq (a := q) (b := 60) (by omega) (by decide)).mp c4
      have c4 : ¬ q < 60 := by omega
      exact And.intro (by simp [c4]) (And.intro (by first | (simp [c4]; done) | (simp [c4]; rfl)) (by first | rfl | simp [c4]))
  · exact And.intro (by simp [bI_0.mp c3]) (And.intro (by first | (simp [bI_0.mp c3]; done) | (simp [bI_0.mp c3]; rfl)) (by first | rfl | simp [bI_0.mp c3]))
theorem c_X_bedInForce (s t k : Int32) (n : Nat) (hn : n ≤ 76) (hI : I 4 8 + I 4 9 = nI n) : Con g SHc d 50 [.ref 4, .int s, .int t, .int k] I D (EqP (some (.int (ifF (I 32) (I 33) (I 34) s t k n))) I D) := by
  refine Con.mk (LV := v_Shoals_bedInForce) k_Shoals_bedInForce (Nat.le_of_ble_eq_true rfl) (fun K hK => ?_)
  have loop : ∀ r i, i + r = n → K 6 [(0, .ref 4), (1, .int s), (2, .int t), (3, .int k), (4, .int (ifF (I 32) (I 33) (I 34) s t k i)), (5, .int (nI i))] [] I D := by
    intro r
    induction r with
    | zero =>
      intro i hi
      have hi : i = n := by omega
      subst hi
      refine hK (6, 104, o_Shoals_bedInForce_1) (List.mem_of_getElem? (i := 1) rfl) _ _ _ _ ?_
      refine And.intro (fun c => ?_) (fun c => ?_)
      · exact And.intro rfl (And.intro rfl rfl)
      · exact absurd (by rw [hI]; exact nI_le (Nat.le_refl _) (by omega)) c
    | succ r ih =>
      intro i hi
      have h60 : inn (nI i) 76 := inn_nI (by omega) (by decide)
      have hcl : (nI i).toNatClampNeg = i := nI_clamp (by omega)
      have go := ih (i + 1) (by omega)
      rw [nI_succ] at go
      have bd : ¬ ifF (I 32) (I 33) (I 34) s t k i = -1 → inn (ifF (I 32) (I 33) (I 34) s t k i) 76 := by
        intro h
        rcases ifF_in (I 32) (I 33) (I 34) s t k i with h1 | ⟨j, h1, h2⟩
        · exact absurd h1 h
        · rw [h2]
          exact inn_nI (by omega) (by decide)
      refine hK (6, 104, o_Shoals_bedInForce_1) (List.mem_of_getElem? (i := 1) rfl) _ _ _ _ ?_
      refine And.intro (fun c => ?_) (fun c => ?_)
      · rw [hI] at c
        exact absurd c (nI_ge (by omega) (by omega))
      refine And.intro (h60) ?_
      refine And.intro (fun c1 => ?_) (fun c1 => ?_)
      · rw [hcl] at c1
        rw [ifF_n (fun h => c1 h.1.1)] at go
        exact And.intro (fun _ => go) (fun h => absurd rfl h)
      refine And.intro (h60) ?_
      refine And.intro (fun c2 => ?_) (fun c2 => ?_)
      · rw [hcl] at c2
        rw [ifF_n (fun h => absurd h.1.2.1 (i32_nle.mpr c2))] at go
        exact And.intro (fun _ => go) (fun h => absurd rfl h)
      refine And.intro (h60) ?_
      refine And.intro (by decide) ?_
      refine And.intro (fun c3 => ?_) (fun c3 => ?_)
      · rw [hcl] at c3
        rw [ifF_n (fun h => absurd h.1.2.2 (i32_nle.mpr c3))] at go
        exact And.intro (fun _ => go) (fun h => absurd rfl h)
      rw [hcl] at c1 c2 c3
      refine And.intro (fun h => absurd h (by decide)) (fun _ => ?_)
      refine And.intro (fun c4 => ?_) (fun c4 => ?_)
      · rw [ifF_y ⟨⟨c1, i32_nlt.mp c2, i32_nlt.mp c3⟩, Or.inl c4⟩] at go
        exact go
      refine And.intro (h60) ?_
      refine And.intro (bd c4) ?_
      refine And.intro (fun c5 => ?_) (fun c5 => ?_)
      · rw [hcl] at c5
        rw [ifF_n (fun h => h.2.elim (fun z => c4 z) (fun z => absurd z (i32_nle.mpr c5)))] at go
        exact go
      · rw [hcl] at c5
        rw [ifF_y ⟨⟨c1, i32_nlt.mp c2, i32_nlt.mp c3⟩, Or.inr (i32_nlt.mp c5)⟩] at go
        exact go
  refine hK (0, 6, o_Shoals_bedInForce_0) (List.mem_of_getElem? (i := 0) rfl) _ _ _ _ ?_
  exact loop n 0 (by omega)
theorem c_X_hasDepth (n b q : Nat) (hn : n ≤ 60) (hI : I 2 9 = nI n) (hb : b ≤ 76) (hB : I 4 8 + I 4 9 = nI b) (hq : q < 16) (t k : Int32) : Con g SHc (d + 1) 49 [.ref 4, .int (nI q), .int t, .int k] I D (EqP (some (.int (bI (!decide (ifF (I 32) (I 33) (I 34) (nI q) t k b = -1) && !decide (ifF (I 16) (I 17) (I 18) (I 30 q) t k n = -1))))) I D) := by
  refine Con.mk (LV := v_Shoals_hasDepth) k_Shoals_hasDepth (Nat.le_of_ble_eq_true rfl) (fun K hK => ?_)
  refine hK (0, 36, o_Shoals_hasDepth_0) (List.mem_of_getElem? (i := 0) rfl) _ _ _ _ ?_
  refine call_eq (c_X_bedInForce g d I D (nI q) t k b hb hB) ?_
  refine And.intro (fun c1 => ?_) (fun c1 => ?_)
  · exact And.intro (by decide) (And.intro (by simp [c1, bI]) (And.intro rfl rfl))
  refine And.intro (inn_nI hq (by decide)) ?_
  rw [nI_clamp (show q < 2 ^ 31 by omega)]
  refine call_eq (c_X_inForce g d I D _ t k n hn hI) ?_
  refine And.intro (fun c2 => ?_) (fun c2 => ?_)
  · exact And.intro (by decide) (And.intro (by simp [c2, bI]) (And.intro rfl rfl))
  · exact And.intro (by decide) (And.intro (by simp [c1, c2, bI]) (And.intro rfl rfl))
theorem dp_fb {v : Int32} {h : UInt64} (hh : fb 300 h) : fb 301 (FP.dadd (FP.ddiv (FP.i2d v) 4636737291354636288) h) := fb_add (E := 300) (by omega) (fb_mono (by omega) (mn_fb v)) hh
theorem hgtX_fb (n : Nat) (hn : n ≤ 60) (hw : ∀ i, i < n → ∃ w, w ≤ 8 ∧ I 20 i = nI w) (s t k : Int32) (h : ¬ ifF (I 16) (I 17) (I 18) s t k n = -1) : fb 300 (hgtX I n s t k) := by
  unfold hgtX
  rw [if_neg h]
  rcases ifF_in (I 16) (I 17) (I 18) s t k n with h1 | ⟨j, hj, h1⟩
  · exact absurd h1 h
  · obtain ⟨w, hw8, hwe⟩ := hw j hj
    rw [h1, nI_clamp (show j < 2 ^ 31 by omega), hwe, nI_clamp (show w < 2 ^ 31 by omega)]
    exact fb_mono (by omega) (hG_fb _ _ _ w (by omega))
end S35
end
section
/-! the BITS of a REAL, as the component reckons them -/
/-- a real that is n of the least reals -/
def Un (x : UInt64) (n : Nat) : Prop := ∃ c q, FP.Core.val64 x = .fin false c q ∧ c * 2 ^ (q + 1074).toNat = n
theorem qmin64 : FP.Core.b64.qmin = -1074 := by decide +kernel
theorem qmax64 : FP.Core.b64.qmax = 971 := by decide +kernel
theorem v_2 : FP.Core.val64 4611686018427387904 = .fin false (2 ^ 52) (-51) := by decide +kernel
theorem v_h : FP.Core.val64 4602678819172646912 = .fin false (2 ^ 52) (-53) := by decide +kernel
theorem v_1 : FP.Core.val64 4607182418800017408 = .fin false (2 ^ 52) (-52) := by decide +kernel
theorem v_52 : FP.Core.val64 4841369599423283200 = .fin false (2 ^ 52) 0 := by decide +kernel
theorem Un_n {x : UInt64} {n : Nat} (h : Un x n) : vf_n64 x := by
  obtain ⟨c, q, h1, -⟩ := h
  exact n64_of (by rw [h1]; intro h; cases h)
theorem un_move (c : Nat) (q : Int) : FP.Core.inUnits c q FP.Core.b64.qmin = c * 2 ^ (q + 1074).toNat := by
  unfold FP.Core.inUnits
  rw [qmin64]
  rfl
theorem un_zval {x : UInt64} {n : Nat} (h : Un x n) : FP.Core.val64 x ≠ .nan ∧ FP.Core.zval FP.Core.b64 (FP.Core.val64 x) = (n : Int) := by
  obtain ⟨c, q, h1, h2⟩ := h
  rw [h1]
  refine And.intro (by intro h; cases h) ?_
  show FP.Core.signed false (FP.Core.inUnits c q FP.Core.b64.qmin) = _
  rw [un_move, h2]
  rfl
theorem Un_cmp {x y : UInt64} {n m : Nat} (hx : Un x n) (hy : Un y m) : FP.dcmp x y = some (compare (n : Int) (m : Int)) := by
  have h := FP.Core.dcmp_zval (un_zval hx).1 (un_zval hy).1
  rw [(un_zval hx).2, (un_zval hy).2] at h
  exact h
theorem Un_1 : Un 4607182418800017408 (2 ^ 1074) := ⟨_, _, v_1, by rw [← Nat.pow_add]; rfl⟩
theorem Un_2 : Un 4611686018427387904 (2 ^ 1075) := ⟨_, _, v_2, by rw [← Nat.pow_add]; rfl⟩
theorem un_rd {x : UInt64} {s : Bool} {c A : Nat} {q e : Int} (h : FP.Core.val64 x = FP.Core.roundRatio FP.Core.b64 s A 1 e) (hc : c < 2 ^ 53) (h1 : -1074 ≤ q) (h2 : q ≤ 971) (hA : A * 2 ^ (e - q).toNat = c * 2 ^ (q - e).toNat) : ∃ c' q', FP.Core.val64 x = .fin s c' q' ∧ c' * 2 ^ (q' + 1074).toNat = c * 2 ^ (q + 1074).toNat := by
  obtain ⟨c', q', h3, h4⟩ := FP.Core.round_exact FP.Core.good_b64 s (c := c) (q := q) hc (by rw [qmin64]; exact h1) (by rw [qmax64]; exact h2)
  rw [un_move, un_move] at h4
  refine ⟨c', q', ?_, h4⟩
  rw [h, ← h3]
  exact FP.Core.roundRatio_congr (by decide) (by decide) (by rw [Nat.mul_one, Nat.mul_one]; exact hA)
theorem Un_dbl {x : UInt64} {n : Nat} (h : Un x n) (hn : n < 2 ^ 1074) : Un (FP.dmul x 4611686018427387904) (2 * n) := by
  obtain ⟨c, q, h1, h2⟩ := h
  obtain ⟨f1, f2, f3, f4⟩ := fit64 h1
  have hq : q ≤ 970 := by
    rcases f4 with f4 | f4
    · omega
    · have h3 : 2 ^ 52 * 2 ^ (q + 1074).toNat < 2 ^ 1074 := Nat.lt_of_le_of_lt (Nat.mul_le_mul_right _ f4) (by rw [h2]; exact hn)
      rw [← Nat.pow_add] at h3
      have := (Nat.pow_lt_pow_iff_right (by decide : 1 < 2)).mp h3
      omega
  have hv := FP.Core.val64_dmul x 4611686018427387904
  rw [h1, v_2] at hv
  simp only [FP.Core.exactProduct, FP.Core.round] at hv
  obtain ⟨c', q', h3, h4⟩ := un_rd hv (c := c) (q := q + 1) f1 (by omega) (by omega) (by
    rw [show (q + -51 - (q + 1)).toNat = 0 by omega, show (q + 1 - (q + -51)).toNat = 52 by omega, Nat.pow_zero, Nat.mul_one])
  refine ⟨c', q', h3, ?_⟩
  rw [h4, ← h2, show (q + 1 + 1074).toNat = (q + 1074).toNat + 1 by omega, Nat.pow_succ]
  ac_rfl
theorem Un_half {x : UInt64} {n : Nat} (h : Un x n) (hn : 2 ^ 1075 ≤ n) : ∃ k, n = 2 * k ∧ Un (FP.dmul x 4602678819172646912) k := by
  obtain ⟨c, q, h1, h2⟩ := h
  obtain ⟨f1, f2, f3, f4⟩ := fit64 h1
  have hq : -52 < q := by
    have h3 : 2 ^ 1075 < 2 ^ 53 * 2 ^ (q + 1074).toNat := Nat.lt_of_le_of_lt (h2 ▸ hn) (Nat.mul_lt_mul_of_pos_right f1 (Nat.two_pow_pos _))
    rw [← Nat.pow_add] at h3
    have := (Nat.pow_lt_pow_iff_right (by decide : 1 < 2)).mp h3
    omega
  have hv := FP.Core.val64_dmul x 4602678819172646912
  rw [h1, v_h] at hv
  simp only [FP.Core.exactProduct, FP.Core.round] at hv
  obtain ⟨c', q', h3, h4⟩ := un_rd hv (c := c) (q := q - 1) f1 (by omega) (by omega) (by
    rw [show (q + -53 - (q - 1)).toNat = 0 by omega, show (q - 1 - (q + -53)).toNat = 52 by omega, Nat.pow_zero, Nat.mul_one])
  refine ⟨_, ?_, c', q', h3, h4⟩
  rw [← h2, show (q + 1074).toNat = (q - 1 + 1074).toNat + 1 by omega, Nat.pow_succ]
  ac_rfl
theorem Un_big {x : UInt64} {n : Nat} (h : Un x n) (hn : 2 ^ 1074 ≤ n) (hn2 : n < 2 ^ 1075) : ∃ D, n = D * 2 ^ 1022 ∧ D < 2 ^ 53 := by
  obtain ⟨c, q, h1, h2⟩ := h
  obtain ⟨f1, f2, f3, f4⟩ := fit64 h1
  have hq : -52 ≤ q := by
    have h3 : 2 ^ 1074 < 2 ^ 53 * 2 ^ (q + 1074).toNat := Nat.lt_of_le_of_lt (h2 ▸ hn) (Nat.mul_lt_mul_of_pos_right f1 (Nat.two_pow_pos _))
    rw [← Nat.pow_add] at h3
    have := (Nat.pow_lt_pow_iff_right (by decide : 1 < 2)).mp h3
    omega
  refine ⟨c * 2 ^ (q + 52).toNat, ?_, ?_⟩
  · rw [← h2, Nat.mul_assoc, ← Nat.pow_add]
    congr 2
    omega
  · have h3 : c * 2 ^ (q + 52).toNat * 2 ^ 1022 < 2 ^ 53 * 2 ^ 1022 := by
      rw [Nat.mul_assoc, ← Nat.pow_add, show (q + 52).toNat + 1022 = (q + 1074).toNat by omega, h2, ← Nat.pow_add]
      exact hn2
    exact Nat.lt_of_mul_lt_mul_right h3
/-- the digits -/
theorem Un_dig {x : UInt64} {D : Nat} (h : Un x (D * 2 ^ 1022)) (hD : D < 2 ^ 53) : FP.Core.DInt ((D : Int) - 2 ^ 52) (FP.dmul (FP.dsub x 4607182418800017408) 4841369599423283200) := by
  obtain ⟨c, q, h1, h2⟩ := h
  obtain ⟨f1, f2, f3, f4⟩ := fit64 h1
  have hv := FP.Core.val64_dsub x 4607182418800017408
  rw [h1, v_1] at hv
  simp only [FP.Core.exactSum, FP.Core.negate, FP.Core.round] at hv
  have key : FP.Core.sumUnits false c q (!false) (2 ^ 52) (-52) (min q (-52)) * ((2 ^ (min q (-52) + 1074).toNat : Nat) : Int) = ((D : Int) - 2 ^ 52) * ((2 ^ 1022 : Nat) : Int) := by
    have a1 : c * 2 ^ (q - min q (-52)).toNat * 2 ^ (min q (-52) + 1074).toNat = D * 2 ^ 1022 := by
      rw [← h2, Nat.mul_assoc, ← Nat.pow_add]
      congr 2
      omega
    have a2 : 2 ^ 52 * 2 ^ ((-52) - min q (-52)).toNat * 2 ^ (min q (-52) + 1074).toNat = 2 ^ 52 * 2 ^ 1022 := by
      rw [Nat.mul_assoc, ← Nat.pow_add]
      congr 2
      omega
    unfold FP.Core.sumUnits FP.Core.signed FP.Core.inUnits
    simp only [Bool.false_eq_true, if_false, Bool.not_false, if_true]
    rw [Int.add_mul, Int.sub_mul, Int.neg_mul, ← Int.natCast_mul, ← Int.natCast_mul, ← Int.natCast_mul, a1, a2, Int.natCast_mul, Int.natCast_mul]
    rfl
  have hm : min q (-52) ≤ -52 ∧ -1074 ≤ min q (-52) := by omega
  generalize min q (-52) = e at hv key hm
  have hS := FP.Core.signed_sumSign false (!false) (FP.Core.sumUnits false c q (!false) (2 ^ 52) (-52) e)
  generalize FP.Core.sumUnits false c q (!false) (2 ^ 52) (-52) e = z at hv key hS
  have kz : z.natAbs * 2 ^ (e + 1074).toNat = ((D : Int) - 2 ^ 52).natAbs * 2 ^ 1022 := by
    have := congrArg Int.natAbs key
    rw [Int.natAbs_mul, Int.natAbs_mul] at this
    exact this
  obtain ⟨c', q', h3, h4⟩ := un_rd hv (c := ((D : Int) - 2 ^ 52).natAbs) (q := -52) (by omega) (by omega) (by omega) (by
    have p : 0 < 2 ^ (e + 1074).toNat := Nat.two_pow_pos _
    refine Nat.eq_of_mul_eq_mul_right p ?_
    rw [show (e - -52).toNat = 0 by omega, Nat.pow_zero, Nat.mul_one, kz, Nat.mul_assoc, ← Nat.pow_add]
    congr 2
    omega)
  have hS2 : FP.Core.signed (FP.Core.sumSign false (!false) z) (c' * 2 ^ (q' + 1074).toNat) = ((D : Int) - 2 ^ 52) * ((2 ^ 1022 : Nat) : Int) := by
    rw [h4]
    rw [← key]
    show FP.Core.signed _ (_ * 2 ^ 1022) = _
    rw [← kz]
    generalize FP.Core.sumSign false (!false) z = b at hS
    unfold FP.Core.signed at hS ⊢
    rw [← hS]
    split
    · rw [Int.natCast_mul, Int.neg_mul]
      congr 2
      simp
    · rw [Int.natCast_mul]
      congr 2
  unfold FP.Core.DInt
  show FP.Core.Whole _ (FP.Core.val64 (FP.Core.dmul (FP.Core.dsub x 4607182418800017408) 4841369599423283200))
  rw [FP.Core.val64_dmul]
  refine FP.Core.whole_round FP.Core.good_b64 FP.Core.wide_b64 (by show _ ≤ 2 ^ 53; omega) ?_
  rw [show FP.Core.val64 (FP.Core.dsub x 4607182418800017408) = _ from h3, v_52]
  obtain ⟨g1, g2, g3, g4⟩ := fit64 h3
  generalize FP.Core.sumSign false (!false) z = b at hS2
  simp only [FP.Core.exactProduct]
  show FP.Core.signed (b != false) (c' * 2 ^ 52 * 2 ^ (q' + 0).toNat) = ((D : Int) - 2 ^ 52) * ((2 ^ (-(q' + 0)).toNat : Nat) : Int)
  have p : (0 : Int) < ((2 ^ (if q' + 0 < 0 then (q' + 1074).toNat else 1074) : Nat) : Int) := Int.natCast_pos.mpr (Nat.two_pow_pos _)
  refine Int.eq_of_mul_eq_mul_right (Int.ne_of_gt p) ?_
  have e2 : ((D : Int) - 2 ^ 52) * ((2 ^ (-(q' + 0)).toNat : Nat) : Int) * ((2 ^ (if q' + 0 < 0 then (q' + 1074).toNat else 1074) : Nat) : Int) = ((D : Int) - 2 ^ 52) * ((2 ^ 1022 : Nat) : Int) * ((2 ^ 52 : Nat) : Int) := by
    rw [Int.mul_assoc, Int.mul_assoc, ← Int.natCast_mul, ← Int.natCast_mul, ← Nat.pow_add, ← Nat.pow_add]
    congr 3
    split <;> omega
  rw [e2, ← hS2]
  have e3 : c' * 2 ^ 52 * 2 ^ (q' + 0).toNat * 2 ^ (if q' + 0 < 0 then (q' + 1074).toNat else 1074) = c' * 2 ^ (q' + 1074).toNat * 2 ^ 52 := by
    rw [Nat.mul_assoc, Nat.mul_assoc, Nat.mul_assoc, ← Nat.pow_add, ← Nat.pow_add, ← Nat.pow_add]
    congr 2
    split <;> omega
  unfold FP.Core.signed
  cases b with
  | false =>
    simp only [bne_self_eq_false, Bool.false_eq_true, if_false]
    rw [← Int.natCast_mul, ← Int.natCast_mul, e3]
  | true =>
    simp only [show (true != false) = true from rfl, if_true]
    rw [Int.neg_mul, Int.neg_mul, ← Int.natCast_mul, ← Int.natCast_mul, e3]
/-- what the bits say -/
theorem un_bits {x : UInt64} {s : Bool} {c : Nat} {q : Int} (h : FP.Core.val64 x = .fin s c q) : c * 2 ^ (q + 1074).toNat = (if x.toNat % 2 ^ 63 < 2 ^ 52 then x.toNat % 2 ^ 63 else (2 ^ 52 + (x.toNat % 2 ^ 63) % 2 ^ 52) * 2 ^ ((x.toNat % 2 ^ 63) / 2 ^ 52 - 1)) ∧ (s = decide (2 ^ 63 ≤ x.toNat)) ∧ x.toNat % 2 ^ 63 < 2047 * 2 ^ 52 := by
  have hn : FP.Core.val64 x ≠ .nan := by rw [h]; intro h; cases h
  have h1 := FP.Core.zmag_bits hn
  rw [h] at h1
  have h2 : FP.Core.zmag FP.Core.b64 (.fin s c q) = c * 2 ^ (q + 1074).toNat := un_move c q
  rw [h2] at h1
  have h3 := FP.Core.sgn_bits hn
  rw [h] at h3
  refine ⟨h1, h3, ?_⟩
  exact (FP.Core.fin_bits x).mp ⟨s, c, q, h⟩
/-- the end of the reckoning -/
theorem un_end {w n0 n D i j : Nat} (hw : w < 2047 * 2 ^ 52) (h0 : n0 = (if w < 2 ^ 52 then w else (2 ^ 52 + w % 2 ^ 52) * 2 ^ (w / 2 ^ 52 - 1))) (hij : n * 2 ^ i = n0 * 2 ^ j) (hj : j ≤ 1022) (hn : n = D * 2 ^ 1022) (hD : D < 2 ^ 53) (hlo : 2 ^ 1074 ≤ n ∨ (i = 0 ∧ j = 1022)) : ((1023 : Int) + i - j) * 2 ^ 52 + (D - 2 ^ 52) = w := by
  by_cases hw1 : w < 2 ^ 52
  · rw [if_pos hw1] at h0
    rcases hlo with hlo | ⟨h1, h2⟩
    · exfalso
      have a1 : n * 2 ^ i < 2 ^ 52 * 2 ^ 1022 := by
        rw [hij, h0]
        refine Nat.lt_of_lt_of_le (Nat.mul_lt_mul_of_pos_right hw1 (Nat.two_pow_pos _)) ?_
        exact Nat.mul_le_mul_left _ (Nat.pow_le_pow_right (by decide) hj)
      have a2 : 2 ^ 1074 * 1 ≤ n * 2 ^ i := Nat.mul_le_mul hlo (Nat.two_pow_pos _)
      rw [← Nat.pow_add] at a1
      omega
    · subst h1
      subst h2
      rw [Nat.pow_zero, Nat.mul_one, h0, hn] at hij
      have := Nat.eq_of_mul_eq_mul_right (Nat.two_pow_pos 1022) hij
      omega
  · rw [if_neg hw1] at h0
    have hm := Nat.mod_lt w (show 0 < 2 ^ 52 by decide)
    have hd := Nat.div_add_mod w (2 ^ 52)
    have he : 1 ≤ w / 2 ^ 52 := by omega
    generalize w % 2 ^ 52 = m at *
    generalize w / 2 ^ 52 = e at *
    have e1 : D * 2 ^ (1022 + i) = (2 ^ 52 + m) * 2 ^ (e - 1 + j) := by
      rw [Nat.pow_add, Nat.pow_add, ← Nat.mul_assoc, ← Nat.mul_assoc, ← hn, ← h0]
      exact hij
    have hlo2 : 2 ^ 52 ≤ D := by
      rcases hlo with hlo | ⟨h1, h2⟩
      · rw [hn] at hlo
        rw [show (2 : Nat) ^ 1074 = 2 ^ 52 * 2 ^ 1022 from (congrArg (fun z : Nat => 2 ^ z) (show 1074 = 52 + 1022 from rfl)).trans (Nat.pow_add 2 52 1022)] at hlo
        exact Nat.le_of_mul_le_mul_right hlo (Nat.two_pow_pos _)
      · subst h1
        subst h2
        rw [Nat.add_zero, Nat.pow_add, ← Nat.mul_assoc] at e1
        have := Nat.eq_of_mul_eq_mul_right (Nat.two_pow_pos 1022) e1
        have p := Nat.two_pow_pos (e - 1)
        have : (2 ^ 52 + m) * 1 ≤ (2 ^ 52 + m) * 2 ^ (e - 1) := Nat.mul_le_mul_left _ p
        omega
    have e3 : 1022 + i = e - 1 + j := by
      have a1 : 2 ^ (52 + (1022 + i)) < 2 ^ (53 + (e - 1 + j)) := by
        rw [Nat.pow_add, Nat.pow_add 2 53]
        refine Nat.lt_of_le_of_lt (Nat.mul_le_mul_right _ hlo2) ?_
        rw [e1]
        exact Nat.mul_lt_mul_of_pos_right (by omega) (Nat.two_pow_pos _)
      have a2 : 2 ^ (52 + (e - 1 + j)) < 2 ^ (53 + (1022 + i)) := by
        rw [Nat.pow_add, Nat.pow_add 2 53]
        refine Nat.lt_of_le_of_lt (Nat.mul_le_mul_right _ (Nat.le_add_right (2 ^ 52) m)) ?_
        rw [← e1]
        exact Nat.mul_lt_mul_of_pos_right hD (Nat.two_pow_pos _)
      have a1 := (Nat.pow_lt_pow_iff_right (by decide : 1 < 2)).mp a1
      have a2 := (Nat.pow_lt_pow_iff_right (by decide : 1 < 2)).mp a2
      omega
    rw [e3] at e1
    have e4 := Nat.eq_of_mul_eq_mul_right (Nat.two_pow_pos _) e1
    omega
theorem Un_sub {x : UInt64} {D : Nat} (h : Un x (D * 2 ^ 1022)) (hD : D < 2 ^ 53) : vf_n64 (FP.dsub x 4607182418800017408) := by
  refine fb_n (E := 3) (fb_sub (E := 2) (by omega) ?_ (fb_c (by decide +kernel)))
  obtain ⟨c, q, h1, h2⟩ := h
  refine ⟨false, c, q, h1, ?_⟩
  rw [h2]
  refine Nat.le_trans (Nat.mul_le_mul_right _ (Nat.le_of_lt hD)) ?_
  rw [← Nat.pow_add]
  exact Nat.pow_le_pow_right (by decide) (by decide)
end
section
theorem shl52 (e : Nat) (h : e < 2048) : (Int64.ofInt e <<< ((52 : Int32).toInt64 &&& 63)) = Int64.ofInt (e * 2 ^ 52) := by
  revert e
  decide +kernel
theorem of_nat64 (v : UInt64) : v.toInt64 = Int64.ofInt v.toNat := by
  apply Int64.toBitVec_inj.mp
  show v.toBitVec = BitVec.ofInt 64 (v.toNat : Int)
  rw [BitVec.ofInt_natCast]
  exact BitVec.eq_of_toNat_eq (by simp)
theorem d2l_D {y : UInt64} {D : Nat} (h : FP.Core.DInt ((D : Int) - 2 ^ 52) y) (hD : D < 2 ^ 53) : FP.d2l y = Int64.ofInt ((D : Int) - 2 ^ 52) := by
  have e : (Int64.ofInt ((D : Int) - 2 ^ 52)).toInt = (D : Int) - 2 ^ 52 := by
    rw [Int64.toInt_ofInt, show Int64.size = 2 ^ 64 from rfl]
    rw [Int.bmod_eq_of_le (by omega) (by omega)]
  exact FP.Core.d2l_int (by rw [e]; exact h)
theorem bits_sum {y : UInt64} {D w : Nat} {E : Int} (hE : E * 2 ^ 52 + ((D : Int) - 2 ^ 52) = w) (hD : D < 2 ^ 53) (h : FP.Core.DInt ((D : Int) - 2 ^ 52) y) (hw : w < 2047 * 2 ^ 52) : (Int64.ofInt E <<< ((52 : Int32).toInt64 &&& 63)) + FP.d2l y = Int64.ofInt w := by
  obtain ⟨e, rfl⟩ : ∃ e : Nat, E = e := ⟨E.toNat, by omega⟩
  rw [shl52 e (by omega), d2l_D h hD, ← Int64.ofInt_add, hE]
theorem bits_pos {v y : UInt64} {D : Nat} {E : Int} (hE : E * 2 ^ 52 + ((D : Int) - 2 ^ 52) = (v.toNat % 2 ^ 63 : Nat)) (hD : D < 2 ^ 53) (h : FP.Core.DInt ((D : Int) - 2 ^ 52) y) (hW : v.toNat % 2 ^ 63 < 2047 * 2 ^ 52) (hw : v.toNat < 2 ^ 63) : (Int64.ofInt E <<< ((52 : Int32).toInt64 &&& 63)) + FP.d2l y = v.toInt64 := by
  rw [bits_sum hE hD h hW, of_nat64]
  congr 2
  omega
theorem bits_neg {v y : UInt64} {D : Nat} {E : Int} (hE : E * 2 ^ 52 + ((D : Int) - 2 ^ 52) = (v.toNat % 2 ^ 63 : Nat)) (hD : D < 2 ^ 53) (h : FP.Core.DInt ((D : Int) - 2 ^ 52) y) (hW : v.toNat % 2 ^ 63 < 2047 * 2 ^ 52) (hw : v.toNat = v.toNat % 2 ^ 63 + 2 ^ 63) : ((Int64.ofInt E <<< ((52 : Int32).toInt64 &&& 63)) + FP.d2l y) ||| -9223372036854775808 = v.toInt64 := by
  rw [bits_sum hE hD h hW]
  have hm : v.toNat % 2 ^ 63 < 2 ^ 63 := Nat.mod_lt _ (by decide)
  generalize v.toNat % 2 ^ 63 = w at hw hm
  apply Int64.toBitVec_inj.mp
  show BitVec.ofInt 64 (w : Int) ||| (-9223372036854775808 : Int64).toBitVec = v.toBitVec
  rw [BitVec.ofInt_natCast]
  apply BitVec.eq_of_toNat_eq
  rw [BitVec.toNat_or, BitVec.toNat_ofNat, Nat.mod_eq_of_lt (by omega)]
  show w ||| 2 ^ 63 = v.toNat
  rw [hw, Nat.or_comm, Nat.add_comm]
  have := Nat.two_pow_add_eq_or_of_lt hm 1
  rw [Nat.mul_one] at this
  exact this.symm
theorem cmp_z {v : UInt64} {s : Bool} {c : Nat} {q : Int} (h : FP.Core.val64 v = .fin s c q) (hc : c * 2 ^ (q + 1074).toNat ≠ 0) : FP.dcmp v 0 = some (if s = true then .lt else .gt) := by
  have h1 := FP.Core.dcmp_zval (a := v) (b := 0) (by rw [h]; intro h; cases h) (by rw [FP.Core.val64_zero]; intro h; cases h)
  rw [FP.Core.zval64_zero] at h1
  refine (show FP.dcmp v 0 = _ from h1).trans (congrArg some ?_)
  have h2 : FP.Core.zval FP.Core.b64 (FP.Core.val64 v) = FP.Core.signed s (c * 2 ^ (q + 1074).toNat) := by
    rw [h]
    show FP.Core.signed s (FP.Core.inUnits c q FP.Core.b64.qmin) = _
    rw [un_move]
  rw [h2]
  unfold FP.Core.signed
  cases s with
  | true =>
    simp only [if_true]
    exact (FP.Core.compare_lt_iff _ _).mpr (by omega)
  | false =>
    simp only [Bool.false_eq_true, if_false]
    exact (FP.Core.compare_gt_iff _ _).mpr (by omega)
section S37
variable (g : Gp) (d : Nat) (I : MI) (D : MD)
set_option maxHeartbeats 1000000 in
theorem c_X_bitsOf (v : UInt64) (hf : FP.Core.DFin v) (hv0 : v ≠ 9223372036854775808) : Con g SHc d 13 [.double v] I D (EqP (some (.long v.toInt64)) I D) := by
  obtain ⟨s, c, q, hv⟩ := hf
  obtain ⟨hu, hs2, hw⟩ := un_bits hv
  have hn0 : c * 2 ^ (q + 1074).toNat < 2 ^ 2098 := by
    obtain ⟨f1, f2, f3, f4⟩ := fit64 hv
    refine Nat.lt_of_lt_of_le (Nat.mul_lt_mul_of_pos_right f1 (Nat.two_pow_pos _)) ?_
    rw [← Nat.pow_add]
    exact Nat.pow_le_pow_right (by decide) (by omega)
  refine Con.mk (LV := v_X_bitsOf) k_X_bitsOf (Nat.le_of_ble_eq_true rfl) (fun K hK => ?_)
  by_cases hz : c * 2 ^ (q + 1074).toNat = 0
  · have e0 : v = 0 := by
      rw [hz] at hu
      have h1 : v.toNat % 2 ^ 63 = 0 := by
        split at hu
        · exact hu.symm
        · have p := Nat.two_pow_pos (v.toNat % 2 ^ 63 / 2 ^ 52 - 1)
          have := Nat.mul_pos (show 0 < 2 ^ 52 + v.toNat % 2 ^ 63 % 2 ^ 52 by omega) p
          omega
      have h2 := v.toNat_lt
      rcases Nat.lt_or_ge v.toNat (2 ^ 63) with h3 | h3
      · exact UInt64.toNat_inj.mp (by rw [show (0 : UInt64).toNat = 0 from rfl]; omega)
      · exact absurd (UInt64.toNat_inj.mp (by rw [show (9223372036854775808 : UInt64).toNat = 2 ^ 63 from rfl]; omega)) hv0
    subst e0
    refine hK (0, 29, o_X_bitsOf_0) (List.mem_of_getElem? (i := 0) rfl) _ _ _ _ ?_
    refine And.intro (fun c1 => ?_) (fun c1 => ?_)
    · exact absurd (show Op.cmpValue (FP.dcmp 0 0) .l = 0 by decide +kernel) c1
    · exact And.intro rfl (And.intro rfl rfl)
  have hS := cmp_z hv hz
  have loop2 : ∀ (r j i n : Nat) (x : UInt64), j + r = 1022 → n * 2 ^ i = c * 2 ^ (q + 1074).toNat * 2 ^ j → Un x n → n < 2 ^ 1075 → (i = 0 ∨ 2 ^ 1074 ≤ n) → K 66 [(0, .double v), (2, .double x), (4, .long (Int64.ofInt ((1023 : Int) + i - j))), (6, .int (nI j))] [] I D := by
    intro r
    induction r with
    | zero =>
      intro j i n x hj hn hx hlt hi
      have hj : j = 1022 := by omega
      subst hj
      obtain ⟨Dg, hDn, hD⟩ : ∃ D, n = D * 2 ^ 1022 ∧ D < 2 ^ 53 := by
        rcases Nat.lt_or_ge n (2 ^ 1074) with h | h
        · have hi : i = 0 := by omega
          subst hi
          rw [Nat.pow_zero, Nat.mul_one] at hn
          refine ⟨_, hn, ?_⟩
          rw [hn, show (2 : Nat) ^ 1074 = 2 ^ 52 * 2 ^ 1022 from (congrArg (fun z : Nat => 2 ^ z) (show 1074 = 52 + 1022 from rfl)).trans (Nat.pow_add 2 52 1022)] at h
          have := Nat.lt_of_mul_lt_mul_right h
          omega
        · exact Un_big hx h hlt
      have hE := un_end hw hu hn (by omega) hDn hD (by
        rcases hi with h | h
        · exact Or.inr ⟨h, rfl⟩
        · exact Or.inl h)
      rw [hDn] at hx
      have hE2 := Un_dig hx hD
      have hm : vf_n64 (FP.dmul (FP.dsub x 4607182418800017408) 4841369599423283200) := n64_of (FP.Core.DInt_ne_nan hE2)
      have hs : vf_n64 (FP.dsub x 4607182418800017408) := Un_sub hx hD
      refine hK (66, 136, o_X_bitsOf_2) (List.mem_of_getElem? (i := 2) rfl) _ _ _ _ ?_
      refine And.intro (fun c1 => ?_) (fun c1 => ?_)
      · skip
        refine And.intro (hs) ?_
        refine And.intro (hm) ?_
        refine And.intro (fun c4 => ?_) (fun c4 => ?_)
        · have c5 : ¬ s = true := by
            intro h
            rw [h] at hS
            have c4 : Op.cmpValue (FP.dcmp v 0) .g ≥ 0 := c4
            rw [hS] at c4
            exact absurd c4 (by decide)
          refine And.intro (congrArg (fun z => some (Value.long z)) ?_) (And.intro rfl rfl)
          exact bits_pos hE hD hE2 hw (by rw [Bool.eq_false_iff.mpr c5] at hs2; have := of_decide_eq_false hs2.symm; omega)
        · have c5 : s = true := by
            cases s with
            | true => rfl
            | false =>
              have c4 : ¬ Op.cmpValue (FP.dcmp v 0) .g ≥ 0 := c4
              rw [hS] at c4
              exact absurd (by decide) c4
          refine And.intro (congrArg (fun z => some (Value.long z)) ?_) (And.intro rfl rfl)
          exact bits_neg hE hD hE2 hw (by rw [c5] at hs2; have := of_decide_eq_true hs2.symm; have := v.toNat_lt; omega)
      · exact absurd (show nI 1022 ≥ 1022 by decide) c1
    | succ r ih =>
      intro j i n x hj hn hx hlt hi
      have hj31 : ¬ nI j ≥ 1022 := nI_ge (b := 1022) (by omega) (by decide)
      have hc := Un_cmp hx Un_1
      refine hK (66, 136, o_X_bitsOf_2) (List.mem_of_getElem? (i := 2) rfl) _ _ _ _ ?_
      refine And.intro (fun c1 => ?_) (fun c1 => ?_)
      · exact absurd c1 hj31
      refine And.intro (fun c2 => ?_) (fun c2 => ?_)
      · have c2 : Op.cmpValue (FP.dcmp x 4607182418800017408) .g ≥ 0 := c2
        have hge : 2 ^ 1074 ≤ n := by
          rcases Nat.lt_or_ge n (2 ^ 1074) with h | h
          · rw [hc, (FP.Core.compare_lt_iff _ _).mpr (by exact Int.ofNat_lt.mpr h)] at c2
            exact absurd c2 (by decide)
          · exact h
        obtain ⟨Dg, hDn, hD⟩ := Un_big hx hge hlt
        have hE := un_end hw hu hn (by omega) hDn hD (Or.inl hge)
        rw [hDn] at hx
        have hE2 := Un_dig hx hD
        have hm : vf_n64 (FP.dmul (FP.dsub x 4607182418800017408) 4841369599423283200) := n64_of (FP.Core.DInt_ne_nan hE2)
        have hs : vf_n64 (FP.dsub x 4607182418800017408) := Un_sub hx hD
        refine And.intro (hs) ?_
        refine And.intro (hm) ?_
        refine And.intro (fun c4 => ?_) (fun c4 => ?_)
        · have c5 : ¬ s = true := by
            intro h
            rw [h] at hS
            have c4 : Op.cmpValue (FP.dcmp v 0) .g ≥ 0 := c4
            rw [hS] at c4
            exact absurd c4 (by decide)
          refine And.intro (congrArg (fun z => some (Value.long z)) ?_) (And.intro rfl rfl)
          exact bits_pos hE hD hE2 hw (by rw [Bool.eq_false_iff.mpr c5] at hs2; have := of_decide_eq_false hs2.symm; omega)
        · have c5 : s = true := by
            cases s with
            | true => rfl
            | false =>
              have c4 : ¬ Op.cmpValue (FP.dcmp v 0) .g ≥ 0 := c4
              rw [hS] at c4
              exact absurd (by decide) c4
          refine And.intro (congrArg (fun z => some (Value.long z)) ?_) (And.intro rfl rfl)
          exact bits_neg hE hD hE2 hw (by rw [c5] at hs2; have := of_decide_eq_true hs2.symm; have := v.toNat_lt; omega)
      · have c2 : ¬ Op.cmpValue (FP.dcmp x 4607182418800017408) .g ≥ 0 := c2
        have hlt2 : n < 2 ^ 1074 := by
          rcases Nat.lt_or_ge n (2 ^ 1074) with h | h
          · exact h
          · exfalso
            rcases Nat.lt_or_ge (2 ^ 1074) n with h2 | h2
            · rw [hc, (FP.Core.compare_gt_iff _ _).mpr (by exact Int.ofNat_lt.mpr h2)] at c2
              exact absurd (by decide) c2
            · rw [hc, (FP.Core.compare_eq_iff _ _).mpr (by exact Int.ofNat_inj.mpr (Nat.le_antisymm h2 h))] at c2
              exact absurd (by decide) c2
        have hi : i = 0 := by omega
        have hy := Un_dbl hx hlt2
        refine And.intro (Un_n hy) ?_
        have go := ih (j + 1) i (2 * n) _ (by omega) (by rw [Nat.pow_succ, ← Nat.mul_assoc, ← hn]; ac_rfl) hy (by omega) (Or.inl hi)
        rw [nI_succ, show ((1023 : Int) + i - (j + 1 : Nat)) = (1023 + i - j) - 1 by omega, Int64.ofInt_sub] at go
        exact go
  have loop1 : ∀ (r i n : Nat) (x : UInt64), i + r = 1023 → n * 2 ^ i = c * 2 ^ (q + 1074).toNat → Un x n → (i = 0 ∨ 2 ^ 1074 ≤ n) → K 29 [(0, .double v), (2, .double x), (4, .long (Int64.ofInt ((1023 : Int) + i))), (6, .int (nI i))] [] I D := by
    intro r
    induction r with
    | zero =>
      intro i n x hi hn hx hlo
      have hi : i = 1023 := by omega
      subst hi
      have hlt : n < 2 ^ 1075 := by
        rw [← hn, show (2 : Nat) ^ 2098 = 2 ^ 1075 * 2 ^ 1023 from (congrArg (fun z : Nat => 2 ^ z) (show 2098 = 1075 + 1023 from rfl)).trans (Nat.pow_add 2 1075 1023)] at hn0
        exact Nat.lt_of_mul_lt_mul_right hn0
      have go := loop2 1022 0 1023 n x rfl (by rw [hn, Nat.pow_zero, Nat.mul_one]) hx hlt (by omega)
      rw [show ((1023 : Int) + (1023 : Nat) - (0 : Nat)) = 1023 + (1023 : Nat) by omega] at go
      refine hK (29, 66, o_X_bitsOf_1) (List.mem_of_getElem? (i := 1) rfl) _ _ _ _ ?_
      refine And.intro (fun c1 => ?_) (fun c1 => ?_)
      · exact go
      · exact absurd (show nI 1023 ≥ 1023 by decide) c1
    | succ r ih =>
      intro i n x hi hn hx hlo
      have hj31 : ¬ nI i ≥ 1023 := nI_ge (b := 1023) (by omega) (by decide)
      have hc := Un_cmp hx Un_2
      refine hK (29, 66, o_X_bitsOf_1) (List.mem_of_getElem? (i := 1) rfl) _ _ _ _ ?_
      refine And.intro (fun c1 => ?_) (fun c1 => ?_)
      · exact absurd c1 hj31
      refine And.intro (fun c2 => ?_) (fun c2 => ?_)
      · have c2 : Op.cmpValue (FP.dcmp x 4611686018427387904) .l < 0 := c2
        have hlt : n < 2 ^ 1075 := by
          rcases Nat.lt_or_ge n (2 ^ 1075) with h | h
          · exact h
          · exfalso
            rcases Nat.lt_or_ge (2 ^ 1075) n with h2 | h2
            · rw [hc, (FP.Core.compare_gt_iff _ _).mpr (by exact Int.ofNat_lt.mpr h2)] at c2
              exact absurd c2 (by decide)
            · rw [hc, (FP.Core.compare_eq_iff _ _).mpr (by exact Int.ofNat_inj.mpr (Nat.le_antisymm h2 h))] at c2
              exact absurd c2 (by decide)
        have go := loop2 1022 0 i n x rfl (by rw [hn, Nat.pow_zero, Nat.mul_one]) hx hlt hlo
        rw [show ((1023 : Int) + i - (0 : Nat)) = 1023 + i by omega] at go
        exact go
      · have c2 : ¬ Op.cmpValue (FP.dcmp x 4611686018427387904) .l < 0 := c2
        have hge : 2 ^ 1075 ≤ n := by
          rcases Nat.lt_or_ge n (2 ^ 1075) with h | h
          · rw [hc, (FP.Core.compare_lt_iff _ _).mpr (by exact Int.ofNat_lt.mpr h)] at c2
            exact absurd (by decide) c2
          · exact h
        obtain ⟨k, hk, hy⟩ := Un_half hx hge
        refine And.intro (Un_n hy) ?_
        have go := ih (i + 1) k _ (by omega) (by rw [← hn, hk, Nat.pow_succ]; ac_rfl) hy (Or.inr (by omega))
        rw [nI_succ, show ((1023 : Int) + (i + 1 : Nat)) = (1023 + i) + 1 by omega, Int64.ofInt_add] at go
        exact go
  refine hK (0, 29, o_X_bitsOf_0) (List.mem_of_getElem? (i := 0) rfl) _ _ _ _ ?_
  refine And.intro (fun c1 => ?_) (fun c1 => ?_)
  · refine And.intro (fun c2 => ?_) (fun c2 => ?_)
    · have c5 : s = false := by
        cases s with
        | false => rfl
        | true =>
          have c2 : Op.cmpValue (FP.dcmp v 0) .g ≥ 0 := c2
          rw [hS] at c2
          exact absurd c2 (by decide)
      exact loop1 1023 0 _ v rfl (by rw [Nat.pow_zero, Nat.mul_one]) ⟨c, q, by rw [hv, c5], rfl⟩ (Or.inl rfl)
    · have c5 : s = true := by
        cases s with
        | true => rfl
        | false =>
          have c2 : ¬ Op.cmpValue (FP.dcmp v 0) .g ≥ 0 := c2
          rw [hS] at c2
          exact absurd (by decide) c2
      exact loop1 1023 0 _ (FP.dneg v) rfl (by rw [Nat.pow_zero, Nat.mul_one]) ⟨c, q, by rw [FP.val64_dneg, hv, c5]; rfl, rfl⟩ (Or.inl rfl)
  · have c1 : Op.cmpValue (FP.dcmp v 0) .l = 0 := c1
    rw [hS] at c1
    cases s <;> exact absurd c1 (by decide)
end S37
end
section
/-! no real of the desk is the negative zero -/
def nz (x : UInt64) : Prop := x ≠ 9223372036854775808
theorem v_m0 : FP.Core.val64 9223372036854775808 = .fin true 0 (-1074) := by decide +kernel
theorem fb_fin {E : Nat} {x : UInt64} (h : fb E x) : FP.Core.DFin x := by
  obtain ⟨s, c, q, h1, -⟩ := h
  exact ⟨s, c, q, h1⟩
/-- what is not less than the least real is not rounded to zero -/
theorem rr_nz {r : UInt64} {s : Bool} {A B : Nat} {e : Int} (h : FP.Core.val64 r = FP.Core.roundRatio FP.Core.b64 s A B e) (hB : 0 < B) (he : -3000 ≤ e) (hA : B * 2 ^ 1926 ≤ A * 2 ^ (e + 3000).toNat) : r.toNat % 2 ^ 63 ≠ 0 := by
  have h1 := FP.Core.mag_ge (f := FP.Core.b64) FP.Core.good_b64 (n := r.toNat) (m := 1) (e0 := -3000) h hB (by rw [qmin64]; omega) he (by decide +kernel) (by
    unfold FP.Core.inUnits
    rw [qmin64, show FP.Core.unitsOf FP.Core.b64 1 = 1 by decide +kernel, Nat.one_mul, Nat.mul_comm]
    exact hA)
  have h2 : FP.Core.mag FP.Core.b64 r.toNat = r.toNat % 2 ^ 63 := rfl
  omega
theorem m0_bits : (9223372036854775808 : UInt64).toNat = 2 ^ 63 := rfl
theorem nz_of {x : UInt64} (h : x.toNat % 2 ^ 63 ≠ 0) : nz x := by
  intro h1
  rw [h1, m0_bits] at h
  exact h (by decide)
theorem nz_add {x y : UInt64} (hx : FP.Core.DFin x) (hy : FP.Core.DFin y) (h : nz x) : nz (FP.dadd x y) := by
  obtain ⟨s, c, q, h1⟩ := hx
  obtain ⟨t, b, r, h2⟩ := hy
  have f1 := fit64 h1
  have f2 := fit64 h2
  have hv := FP.Core.val64_dadd x y
  rw [h1, h2] at hv
  simp only [FP.Core.exactSum, FP.Core.round] at hv
  have hm : min q r ≤ q ∧ min q r ≤ r ∧ -1074 ≤ min q r := by omega
  generalize min q r = e at hv hm
  by_cases hU : FP.Core.sumUnits s c q t b r e = 0
  · rw [hU] at hv
    intro h3
    have hv2 : FP.Core.val64 9223372036854775808 = _ := (congrArg FP.Core.val64 h3.symm).trans hv
    rw [v_m0] at hv2
    have h4 : FP.Core.sumSign s t 0 = true := by
      unfold FP.Core.roundRatio at hv2
      rw [if_pos (show Int.natAbs 0 = 0 from rfl)] at hv2
      injection hv2 with h4 _ _
      exact h4.symm
    have h5 : s = true ∧ t = true := by
      unfold FP.Core.sumSign at h4
      rw [if_pos rfl] at h4
      exact Bool.and_eq_true_iff.mp h4
    rw [h5.1, h5.2] at hU
    unfold FP.Core.sumUnits FP.Core.signed FP.Core.inUnits at hU
    simp only [if_true] at hU
    have h6 : c * 2 ^ (q - e).toNat = 0 := by omega
    have h7 : c = 0 := by
      rcases Nat.mul_eq_zero.mp h6 with h | h
      · exact h
      · exact absurd h (Nat.ne_of_gt (Nat.two_pow_pos _))
    have h8 : q = -1074 := by omega
    rw [h5.1, h7, h8, ← v_m0] at h1
    exact h (FP.Core.val64_inj (by rw [h1, v_m0]; intro h; cases h) h1)
  · refine nz_of (rr_nz (r := FP.dadd x y) hv (by decide) (by omega) ?_)
    have h3 : 1 ≤ (FP.Core.sumUnits s c q t b r e).natAbs := by omega
    refine Nat.mul_le_mul h3 (Nat.pow_le_pow_right (by decide) (by omega))
theorem nz_sub {x y : UInt64} (hx : FP.Core.DFin x) (hy : FP.Core.DFin y) (h : nz x) : nz (FP.dsub x y) := by
  obtain ⟨t, b, r, h2⟩ := hy
  have e1 : FP.dsub x y = FP.dadd x (FP.Core.dneg y) := FP.Core.dsub_eq x y
  rw [e1]
  exact nz_add hx ⟨!t, b, r, by rw [FP.Core.val64_dneg, h2]; rfl⟩ h
/-- a whole number by a number that is not great -/
theorem nz_quo (v : Int32) {y : UInt64} {d : Nat} {r : Int} (hy : FP.Core.val64 y = .fin false d r) (hr : -200 ≤ r) (hr2 : r ≤ 200) (hd : d ≠ 0) : nz (FP.ddiv (FP.i2d v) y) := by
  have f2 := fit64 hy
  have hi := FP.Core.i2d_int v
  unfold FP.Core.DInt at hi
  have hv := FP.Core.val64_ddiv (FP.i2d v) y
  rw [hy] at hv
  have hs := FP.Core.val64_i2d v
  simp only [FP.Core.ofInt, FP.Core.round] at hs
  by_cases hv0 : v.toInt = 0
  · have e0 : v = 0 := Int32.toInt_inj.mp hv0
    subst e0
    have h0 : FP.Core.val64 (FP.i2d 0) = .fin false 0 (-1074) := by decide +kernel
    rw [h0] at hv
    simp only [FP.Core.quotient, if_neg hd] at hv
    intro h3
    have hv2 : FP.Core.val64 9223372036854775808 = _ := (congrArg FP.Core.val64 h3.symm).trans hv
    rw [v_m0] at hv2
    unfold FP.Core.roundRatio at hv2
    rw [if_pos rfl] at hv2
    injection hv2 with h4 _ _
    exact absurd h4 (by decide)
  · cases hq : FP.Core.val64 (FP.i2d v) with
    | nan => rw [hq] at hi; exact hi.elim
    | inf s => rw [hq] at hi; exact hi.elim
    | fin s c q =>
      have f1 := fit64 hq
      rw [hq] at hi hv
      simp only [FP.Core.quotient, if_neg hd] at hv
      have hi : FP.Core.signed s (c * 2 ^ q.toNat) = v.toInt * ((2 ^ (-q).toNat : Nat) : Int) := hi
      have hc : 2 ^ (-q).toNat ≤ c * 2 ^ q.toNat := by
        have h1 := congrArg Int.natAbs hi
        rw [Int.natAbs_mul] at h1
        have h2 : (FP.Core.signed s (c * 2 ^ q.toNat)).natAbs = c * 2 ^ q.toNat := by
          unfold FP.Core.signed
          split <;> omega
        rw [h2, Int.natAbs_natCast] at h1
        rw [h1]
        exact Nat.le_mul_of_pos_left _ (by omega)
      refine nz_of (rr_nz (r := FP.ddiv (FP.i2d v) y) hv (by omega) (by omega) ?_)
      have p : 0 < 2 ^ 2000 := Nat.two_pow_pos _
      have hc2 : 2 ^ 1074 ≤ c * 2 ^ (q + 1074).toNat := by
        by_cases hq0 : 0 ≤ q
        · rw [show (-q).toNat = 0 by omega, Nat.pow_zero] at hc
          rw [show (q + 1074).toNat = q.toNat + 1074 by omega, Nat.pow_add, ← Nat.mul_assoc]
          exact Nat.le_mul_of_pos_left _ hc
        · rw [show q.toNat = 0 by omega, Nat.pow_zero, Nat.mul_one] at hc
          refine Nat.le_trans ?_ (Nat.mul_le_mul_right _ hc)
          rw [← Nat.pow_add]
          exact Nat.pow_le_pow_right (by decide) (by omega)
      have h6 : d * 2 ^ 1926 ≤ 2 ^ 1074 * 2 ^ (1926 - r).toNat := by
        refine Nat.le_trans (Nat.mul_le_mul_right _ (Nat.le_of_lt f2.1)) ?_
        rw [← Nat.pow_add, ← Nat.pow_add]
        exact Nat.pow_le_pow_right (by decide) (by omega)
      refine Nat.le_trans h6 ?_
      refine Nat.le_trans (Nat.mul_le_mul_right _ hc2) ?_
      rw [Nat.mul_assoc, ← Nat.pow_add]
      exact Nat.mul_le_mul_left _ (Nat.pow_le_pow_right (by decide) (by omega))
theorem v_100 : FP.Core.val64 4636737291354636288 = .fin false 7036874417766400 (-46) := by decide +kernel
theorem v_1000 : FP.Core.val64 4652007308841189376 = .fin false 8796093022208000 (-43) := by decide +kernel
theorem mn_nz (v : Int32) : nz (FP.ddiv (FP.i2d v) 4636737291354636288) := nz_quo v v_100 (by decide) (by decide) (by decide)
theorem hG_nz (mean : Int32) (sz an : Nat → Int32) : ∀ w, w ≤ 500 → nz (hG mean sz an w)
  | 0, _ => mn_nz mean
  | w + 1, h => nz_add (fb_fin (hG_fb mean sz an w (by omega))) (fb_fin (wv_fb _ _)) (hG_nz mean sz an w (by omega))
theorem cosC_nz (k : Int32) : nz (cosC k) := nz_sub ⟨_, _, _, v_1⟩ (fb_fin (cosK k).2.2.2.2.2.2.2.2.1) (by unfold nz; decide)
end
section
/-! COS is not zero short of the quarter turn -/
/-- a real between lo and hi, in units of 2^-40 -/
def bw (lo hi : Nat) (x : UInt64) : Prop := ∃ c q, FP.Core.val64 x = .fin false c q ∧ lo * 2 ^ 1034 ≤ c * 2 ^ (q + 1074).toNat ∧ c * 2 ^ (q + 1074).toNat ≤ hi * 2 ^ 1034
theorem unit_of {P : Nat} (h : P < 2 ^ 53) : ∃ V, FP.Core.fits FP.Core.b64 V ∧ V ≠ .nan ∧ FP.Core.zmag FP.Core.b64 V = P * 2 ^ 1034 := by
  obtain ⟨c', q', h3, h4⟩ := FP.Core.round_exact FP.Core.good_b64 false (c := P) (q := -40) h (by rw [qmin64]; omega) (by rw [qmax64]; omega)
  refine ⟨_, FP.Core.round_fits FP.Core.good_b64 (.fin false P (-40)), ?_, ?_⟩
  · rw [h3]; intro h; cases h
  · rw [h3]
    show FP.Core.inUnits c' q' FP.Core.b64.qmin = _
    rw [h4, un_move]
    rfl
theorem bw_rr {r : UInt64} {A B lo hi : Nat} {e : Int} (h : FP.Core.val64 r = FP.Core.roundRatio FP.Core.b64 false A B e) (hB : 0 < B) (he : -3000 ≤ e) (hl : lo < 2 ^ 53) (hh : hi < 2 ^ 53) (h1 : lo * B * 2 ^ 2960 ≤ A * 2 ^ (e + 3000).toNat) (h2 : A * 2 ^ (e + 3000).toNat ≤ hi * B * 2 ^ 2960) : bw lo hi r := by
  have p0 : ∀ z : Nat, z * 2 ^ 1034 * 2 ^ 1926 * B = z * B * 2 ^ 2960 := by
    intro z
    rw [Nat.mul_assoc z, ← Nat.pow_add]
    exact Nat.mul_right_comm _ _ _
  obtain ⟨c, q, h3, -⟩ := rr_bd (s := false) (A := A) (B := B) (e := e) (E := 20) hB (by omega) he (by
    refine Nat.le_trans h2 ?_
    rw [Nat.mul_comm hi B, Nat.mul_assoc]
    refine Nat.mul_le_mul_left _ (Nat.le_trans (Nat.mul_le_mul_right _ (Nat.le_of_lt hh)) ?_)
    rw [← Nat.pow_add]
    exact Nat.pow_le_pow_right (by decide) (by decide))
  have e3 : FP.Core.zmag FP.Core.b64 (.fin false c q) = c * 2 ^ (q + 1074).toNat := un_move c q
  refine ⟨c, q, h.trans h3, ?_, ?_⟩
  · obtain ⟨V, v1, v2, v3⟩ := unit_of hl
    have := FP.Core.zmag_roundRatio_ge (f := FP.Core.b64) FP.Core.good_b64 (s := false) (A := A) (B := B) (e := e) (e0 := -3000) (V := V) hB v1 (by rw [qmin64]; omega) he (by
      rw [v3, qmin64]
      show lo * 2 ^ 1034 * 2 ^ 1926 * B ≤ A * 2 ^ (e + 3000).toNat
      rw [p0]
      exact h1)
    rw [h3, v3, e3] at this
    exact this
  · obtain ⟨V, v1, v2, v3⟩ := unit_of hh
    have := FP.Core.zmag_roundRatio_le (f := FP.Core.b64) FP.Core.good_b64 (s := false) (A := A) (B := B) (e := e) (e0 := -3000) (V := V) hB v1 v2 (by rw [qmin64]; omega) he (by
      rw [v3, qmin64]
      show A * 2 ^ (e + 3000).toNat ≤ hi * 2 ^ 1034 * 2 ^ 1926 * B
      rw [p0]
      exact h2)
    rw [h3, v3, e3] at this
    exact this
theorem bw_mul {x y : UInt64} {a b c d lo hi : Nat} (hx : bw a b x) (hy : bw c d y) (hl : lo < 2 ^ 53) (hh : hi < 2 ^ 53) (h1 : lo * 2 ^ 40 ≤ a * c) (h2 : b * d ≤ hi * 2 ^ 40) : bw lo hi (FP.dmul x y) := by
  obtain ⟨m, q, x1, x2, x3⟩ := hx
  obtain ⟨n, r, y1, y2, y3⟩ := hy
  have f1 := fit64 x1
  have f2 := fit64 y1
  have hv := FP.Core.val64_dmul x y
  rw [x1, y1] at hv
  simp only [FP.Core.exactProduct, FP.Core.round] at hv
  have e1 : m * n * 2 ^ (q + r + 3000).toNat = (m * 2 ^ (q + 1074).toNat) * (n * 2 ^ (r + 1074).toNat) * 2 ^ 852 := by
    rw [show (q + r + 3000).toNat = (q + 1074).toNat + ((r + 1074).toNat + 852) by omega, Nat.pow_add, Nat.pow_add]
    exact (mul4 _ _ _ _ _).symm
  have e2 : ∀ u v : Nat, u * 2 ^ 1034 * (v * 2 ^ 1034) * 2 ^ 852 = u * v * 2 ^ 2920 := by
    intro u v
    rw [show (2920 : Nat) = 1034 + (1034 + 852) from rfl, Nat.pow_add, Nat.pow_add]
    exact mul4 _ _ _ _ _
  have e3 : ∀ z : Nat, z * 1 * 2 ^ 2960 = z * 2 ^ 40 * 2 ^ 2920 := by
    intro z
    rw [Nat.mul_one, Nat.mul_assoc, ← Nat.pow_add]
  refine bw_rr (e := q + r) hv (by decide) (by omega) hl hh ?_ ?_
  · rw [e1, e3]
    refine Nat.le_trans (Nat.mul_le_mul_right _ h1) ?_
    rw [← e2]
    exact Nat.mul_le_mul_right _ (Nat.mul_le_mul x2 y2)
  · rw [e1, e3]
    refine Nat.le_trans ?_ (Nat.mul_le_mul_right _ h2)
    rw [← e2]
    exact Nat.mul_le_mul_right _ (Nat.mul_le_mul x3 y3)
theorem bw_sub {x y : UInt64} {a b c d : Nat} (hx : bw a b x) (hy : bw c d y) (hb : b < 2 ^ 53) (h : d ≤ a) : bw (a - d) (b - c) (FP.dsub x y) := by
  obtain ⟨m, q, x1, x2, x3⟩ := hx
  obtain ⟨n, r, y1, y2, y3⟩ := hy
  have f1 := fit64 x1
  have f2 := fit64 y1
  have hv := FP.Core.val64_dsub x y
  rw [x1, y1] at hv
  simp only [FP.Core.exactSum, FP.Core.negate, FP.Core.round] at hv
  have hm : min q r ≤ q ∧ min q r ≤ r ∧ -1074 ≤ min q r := by omega
  generalize min q r = e at hv hm
  have a1 : m * 2 ^ (q - e).toNat * 2 ^ (e + 1074).toNat = m * 2 ^ (q + 1074).toNat := by
    rw [Nat.mul_assoc, ← Nat.pow_add]
    congr 2
    omega
  have a2 : n * 2 ^ (r - e).toNat * 2 ^ (e + 1074).toNat = n * 2 ^ (r + 1074).toNat := by
    rw [Nat.mul_assoc, ← Nat.pow_add]
    congr 2
    omega
  have hle : n * 2 ^ (r + 1074).toNat ≤ m * 2 ^ (q + 1074).toNat := Nat.le_trans y3 (Nat.le_trans (Nat.mul_le_mul_right _ h) x2)
  have hle2 : n * 2 ^ (r - e).toNat ≤ m * 2 ^ (q - e).toNat := by
    rw [← a1, ← a2] at hle
    exact Nat.le_of_mul_le_mul_right hle (Nat.two_pow_pos _)
  have hU : FP.Core.sumUnits false m q (!false) n r e = ((m * 2 ^ (q - e).toNat - n * 2 ^ (r - e).toNat : Nat) : Int) := by
    unfold FP.Core.sumUnits FP.Core.signed FP.Core.inUnits
    simp only [Bool.false_eq_true, if_false, Bool.not_false, if_true]
    omega
  have hs : FP.Core.sumSign false (!false) (FP.Core.sumUnits false m q (!false) n r e) = false := by
    rw [hU]
    unfold FP.Core.sumSign
    split
    · rfl
    · exact decide_eq_false (by omega)
  rw [hs, hU, Int.natAbs_natCast] at hv
  have e1 : (m * 2 ^ (q - e).toNat - n * 2 ^ (r - e).toNat) * 2 ^ (e + 3000).toNat = (m * 2 ^ (q + 1074).toNat - n * 2 ^ (r + 1074).toNat) * 2 ^ 1926 := by
    rw [show (e + 3000).toNat = (e + 1074).toNat + 1926 by omega, Nat.pow_add, ← Nat.mul_assoc, Nat.sub_mul, a1, a2]
  have e2 : ∀ u v : Nat, (u - v) * 1 * 2 ^ 2960 = (u * 2 ^ 1034 - v * 2 ^ 1034) * 2 ^ 1926 := by
    intro u v
    rw [← Nat.sub_mul, Nat.mul_assoc (u - v) (2 ^ 1034), ← Nat.pow_add, Nat.mul_one]
  refine bw_rr hv (by decide) (by omega) (by have : a * 2 ^ 1034 ≤ b * 2 ^ 1034 := Nat.le_trans x2 x3; have := Nat.le_of_mul_le_mul_right this (Nat.two_pow_pos _); omega) (by omega) ?_ ?_
  · rw [e1, e2]
    exact Nat.mul_le_mul_right _ (Nat.le_trans (Nat.sub_le_sub_right x2 _) (Nat.sub_le_sub_left y3 _))
  · rw [e1, e2]
    exact Nat.mul_le_mul_right _ (Nat.le_trans (Nat.sub_le_sub_right x3 _) (Nat.sub_le_sub_left y2 _))
def bwOk (lo hi : Nat) (x : UInt64) : Bool := match FP.Core.val64 x with
  | .fin false c q => decide (lo * 2 ^ 1034 ≤ c * 2 ^ (q + 1074).toNat ∧ c * 2 ^ (q + 1074).toNat ≤ hi * 2 ^ 1034)
  | _ => false
theorem bw_c {lo hi : Nat} {x : UInt64} (h : bwOk lo hi x = true) : bw lo hi x := by
  unfold bwOk at h
  split at h
  next c q hq => exact ⟨c, q, hq, (of_decide_eq_true h).1, (of_decide_eq_true h).2⟩
  next => cases h
theorem bw_cx {k : Nat} (hk : k < 2 ^ 20) : bw (k * 2 ^ 26) (k * 2 ^ 26) (cx (nI k)) := by
  have hi := FP.Core.i2d_int (nI k)
  unfold FP.Core.DInt at hi
  rw [nI_toInt (by omega)] at hi
  have hv : FP.Core.val64 (cx (nI k)) = _ := FP.Core.val64_ddiv (FP.i2d (nI k)) 4670232813583204352
  have v14 : FP.Core.val64 4670232813583204352 = .fin false (2 ^ 52) (-38) := by decide +kernel
  rw [v14] at hv
  have hs := FP.Core.val64_i2d (nI k)
  simp only [FP.Core.ofInt, FP.Core.round] at hs
  cases hq : FP.Core.val64 (FP.i2d (nI k)) with
  | nan => rw [show FP.Core.val64 (FP.Core.i2d (nI k)) = _ from hq] at hi; exact hi.elim
  | inf s => rw [show FP.Core.val64 (FP.Core.i2d (nI k)) = _ from hq] at hi; exact hi.elim
  | fin s c q =>
    have f1 := fit64 hq
    have hsg : s = false := by
      rw [show FP.Core.val64 (FP.Core.i2d (nI k)) = _ from hq] at hs
      rcases FP.Core.roundRatio_cases FP.Core.b64 (decide ((nI k).toInt < 0)) (nI k).toInt.natAbs 1 0 with ⟨c1, q1, hR⟩ | hR
      · rw [hR] at hs
        injection hs with h1 _ _
        rw [h1, nI_toInt (by omega)]
        exact decide_eq_false (by omega)
      · rw [hR] at hs
        cases hs
    subst hsg
    rw [show FP.Core.val64 (FP.Core.i2d (nI k)) = _ from hq] at hi
    rw [hq] at hv
    simp only [FP.Core.quotient, if_neg (show ¬ (2 : Nat) ^ 52 = 0 by decide)] at hv
    have hi : FP.Core.signed false (c * 2 ^ q.toNat) = (k : Int) * ((2 ^ (-q).toNat : Nat) : Int) := hi
    have hi2 : c * 2 ^ q.toNat = k * 2 ^ (-q).toNat := by
      unfold FP.Core.signed at hi
      simp only [Bool.false_eq_true, if_false] at hi
      rw [← Int.natCast_mul] at hi
      exact Int.ofNat_inj.mp hi
    have hi3 : c * 2 ^ (q + 1074).toNat = k * 2 ^ 1074 := by
      by_cases hq0 : 0 ≤ q
      · rw [show (-q).toNat = 0 by omega, Nat.pow_zero, Nat.mul_one] at hi2
        rw [show (q + 1074).toNat = q.toNat + 1074 by omega, Nat.pow_add, ← Nat.mul_assoc, hi2]
      · rw [show q.toNat = 0 by omega, Nat.pow_zero, Nat.mul_one] at hi2
        rw [hi2, Nat.mul_assoc, ← Nat.pow_add]
        congr 2
        omega
    have e1 : c * 2 ^ (q - -38 + 3000).toNat = k * 2 ^ 26 * 2 ^ 52 * 2 ^ 2960 := by
      rw [show (q - -38 + 3000).toNat = (q + 1074).toNat + 1964 by omega, Nat.pow_add, ← Nat.mul_assoc, hi3, Nat.mul_assoc, Nat.mul_assoc, Nat.mul_assoc, ← Nat.pow_add, ← Nat.pow_add, ← Nat.pow_add]
    exact bw_rr hv (by decide) (by omega) (by omega) (by omega) (Nat.le_of_eq e1.symm) (Nat.le_of_eq e1)
/-- the bounds of the reckoning at k -/
def cosQ (k : Nat) : Bool :=
  let y := k * k * 2 ^ 12
  let l1 := y * 1010737361 / 2 ^ 40
  let h1 := y * 1010737362 / 2 ^ 40 + 1
  let l2 := 22939639695 - h1
  let h2 := 22939639696 - l1
  let l3 := y * l2 / 2 ^ 40
  let h3 := y * h2 / 2 ^ 40 + 1
  let l4 := 278912573549 - h3
  let h4 := 278912573550 - l3
  let l5 := y * l4 / 2 ^ 40
  let h5 := y * h4 / 2 ^ 40 + 1
  let h6 := 1356468100069 - l5
  decide (h1 ≤ 22939639695 ∧ h3 ≤ 278912573549 ∧ h5 ≤ 1356468100068 ∧ y * h6 / 2 ^ 40 + 1 < 2 ^ 40)
theorem cosQ_all : ∀ a, a < 128 → ∀ b, b < 128 → cosQ (128 * a + b) = true := by decide +kernel
theorem fl_lo (u : Nat) : u / 2 ^ 40 * 2 ^ 40 ≤ u := Nat.div_mul_le_self _ _
theorem fl_hi (u : Nat) : u ≤ (u / 2 ^ 40 + 1) * 2 ^ 40 := by
  have := Nat.div_add_mod u (2 ^ 40)
  have := Nat.mod_lt u (show 0 < 2 ^ 40 by decide)
  omega
theorem dv_le {y u : Nat} (h : y ≤ 2 ^ 40) : y * u / 2 ^ 40 ≤ u := Nat.div_le_of_le_mul (Nat.mul_le_mul_right _ h)
theorem bw_hi {lo hi hj : Nat} {x : UInt64} (h : bw lo hi x) (hh : hi ≤ hj) : bw lo hj x := by
  obtain ⟨c, q, h1, h2, h3⟩ := h
  exact ⟨c, q, h1, h2, Nat.le_trans h3 (Nat.mul_le_mul_right _ hh)⟩
theorem cos_chain {k y l1 h1 l3 h3 l5 h5 : Nat} (hY : y ≤ 2 ^ 40) (hy : bw y y (cy (nI k))) (e1 : l1 = y * 1010737361 / 2 ^ 40) (e2 : h1 = y * 1010737362 / 2 ^ 40 + 1) (e3 : l3 = y * (22939639695 - h1) / 2 ^ 40) (e4 : h3 = y * (22939639696 - l1) / 2 ^ 40 + 1) (e5 : l5 = y * (278912573549 - h3) / 2 ^ 40) (e6 : h5 = y * (278912573550 - l3) / 2 ^ 40 + 1) (q1 : h1 ≤ 22939639695) (q2 : h3 ≤ 278912573549) (q3 : h5 ≤ 1356468100068) (q4 : y * (1356468100069 - l5) / 2 ^ 40 + 1 < 2 ^ 40) : ∃ lo, 0 < lo ∧ bw lo (2 ^ 40) (cosC (nI k)) := by
  have c1 : bw l1 h1 (cc1 (nI k)) := bw_mul hy (bw_c (lo := 1010737361) (hi := 1010737362) (by decide +kernel)) (by omega) (by omega) (by rw [e1]; exact fl_lo _) (by rw [e2]; exact fl_hi _)
  have c2 : bw _ _ (cc2 (nI k)) := bw_sub (bw_c (lo := 22939639695) (hi := 22939639696) (by decide +kernel)) c1 (by decide) q1
  have d1 : l3 ≤ 22939639695 - h1 := e3 ▸ dv_le hY
  have c3 : bw l3 h3 (cc3 (nI k)) := bw_mul hy c2 (by omega) (by omega) (by rw [e3]; exact fl_lo _) (by rw [e4]; exact fl_hi _)
  have c4 : bw _ _ (cc4 (nI k)) := bw_sub (bw_c (lo := 278912573549) (hi := 278912573550) (by decide +kernel)) c3 (by decide) q2
  have d3 : l5 ≤ 278912573549 - h3 := e5 ▸ dv_le hY
  have c5 : bw l5 h5 (cc5 (nI k)) := bw_mul hy c4 (by omega) (by omega) (by rw [e5]; exact fl_lo _) (by rw [e6]; exact fl_hi _)
  have c6 : bw _ _ (cc6 (nI k)) := bw_sub (bw_c (lo := 1356468100068) (hi := 1356468100069) (by decide +kernel)) c5 (by decide) q3
  have d5 := dv_le (u := 1356468100068 - h5) hY
  have c7 : bw _ _ (cc7 (nI k)) := bw_mul (lo := y * (1356468100068 - h5) / 2 ^ 40) (hi := y * (1356468100069 - l5) / 2 ^ 40 + 1) hy c6 (by omega) (by omega) (fl_lo _) (fl_hi _)
  have c8 : bw _ _ (cosC (nI k)) := bw_sub (bw_c (lo := 2 ^ 40) (hi := 2 ^ 40) (by decide +kernel)) c7 (by decide) (by omega)
  exact ⟨_, by omega, bw_hi c8 (by omega)⟩
theorem cosC_pos {k : Nat} (hk : k < 16384) : ∃ lo, 0 < lo ∧ bw lo (2 ^ 40) (cosC (nI k)) := by
  have hq : cosQ k = true := by
    have := cosQ_all (k / 128) (by omega) (k % 128) (Nat.mod_lt _ (by decide))
    rw [Nat.div_add_mod] at this
    exact this
  have hx := bw_cx (k := k) (by omega)
  have hyb : k * k ≤ 16384 * 16384 := Nat.mul_le_mul (by omega) (by omega)
  have hy : bw (k * k * 2 ^ 12) (k * k * 2 ^ 12) (cy (nI k)) := bw_mul hx hx (by omega) (by omega) (Nat.le_of_eq (by rw [Nat.mul_mul_mul_comm k (2 ^ 26) k (2 ^ 26), Nat.mul_assoc (k * k)])) (Nat.le_of_eq (by rw [Nat.mul_mul_mul_comm k (2 ^ 26) k (2 ^ 26), Nat.mul_assoc (k * k)]))
  have hY : k * k * 2 ^ 12 ≤ 2 ^ 40 := by omega
  have hQ := of_decide_eq_true (show decide _ = true from hq)
  exact cos_chain hY hy rfl rfl rfl rfl rfl rfl hQ.1 hQ.2.1 hQ.2.2.1 hQ.2.2.2
theorem bw_n0 {lo hi : Nat} {x : UInt64} (h0 : 0 < lo) (h : bw lo hi x) : x ≠ 0 := by
  obtain ⟨c, q, h1, h2, -⟩ := h
  intro hx
  rw [hx, FP.Core.val64_zero] at h1
  injection h1 with _ h3 _
  rw [← h3, Nat.zero_mul] at h2
  have := Nat.mul_pos h0 (Nat.two_pow_pos 1034)
  omega
theorem neg_m0 {x : UInt64} (hx : FP.Core.DFin x) (h : x ≠ 0) : nz (FP.dneg x) := by
  obtain ⟨s, c, q, h1⟩ := hx
  intro h2
  have h3 := FP.val64_dneg x
  have h4 : FP.Core.val64 9223372036854775808 = FP.Core.negate (FP.Core.val64 x) := (congrArg FP.Core.val64 h2.symm).trans h3
  rw [v_m0, h1] at h4
  injection h4 with a b c
  have hs : s = false := by
    cases s with
    | false => rfl
    | true => exact absurd a (by decide)
  refine h (FP.Core.val64_inj (by rw [h1]; intro h; cases h) ?_)
  rw [h1, hs, ← b, ← c, FP.Core.val64_zero, qmin64]
theorem cosN_nz {n : Int32} (h0 : 0 ≤ n.toInt) (h1 : n.toInt < 65536) : nz (cosN n) := by
  have key : ∀ m : Int32, 0 ≤ m.toInt → m.toInt < 16384 → nz (FP.dneg (cosC m)) := by
    intro m h2 h3
    have e : m = nI m.toInt.toNat := by
      apply Int32.toInt_inj.mp
      rw [nI_toInt (by omega)]
      omega
    rw [e]
    obtain ⟨lo, h4, h5⟩ := cosC_pos (k := m.toInt.toNat) (by omega)
    exact neg_m0 (fb_fin (cosK _).2.2.2.2.2.2.2.2.2) (bw_n0 h4 h5)
  have s1 : ∀ z : Int32, 0 ≤ z.toInt → z.toInt ≤ 65536 → (65536 - z).toInt = 65536 - z.toInt := by
    intro z a b
    rw [Int32.toInt_sub, show ((65536 : Int32)).toInt = 65536 by decide, Int.bmod_eq_of_le (by omega) (by omega)]
  have s2 : ∀ z : Int32, 0 ≤ z.toInt → z.toInt ≤ 65536 → (32768 - z).toInt = 32768 - z.toInt := by
    intro z a b
    rw [Int32.toInt_sub, show ((32768 : Int32)).toInt = 32768 by decide, Int.bmod_eq_of_le (by omega) (by omega)]
  have n1 : ((32768 : Int32)).toInt = 32768 := by decide
  have n2 : ((16384 : Int32)).toInt = 16384 := by decide
  by_cases c1 : n ≤ 32768
  · by_cases c2 : n ≤ 16384
    · rw [cosN_a c1 c2]
      exact cosC_nz _
    · rw [cosN_b c1 c2]
      rw [i32_le, n1] at c1
      rw [i32_le, n2] at c2
      exact key _ (by rw [s2 _ (by omega) (by omega)]; omega) (by rw [s2 _ (by omega) (by omega)]; omega)
  · by_cases c2 : 65536 - n ≤ 16384
    · rw [cosN_c c1 c2]
      exact cosC_nz _
    · rw [cosN_d c1 c2]
      rw [i32_le, n1] at c1
      rw [i32_le, n2, s1 _ (by omega) (by omega)] at c2
      exact key _ (by rw [s2 _ (by rw [s1 _ (by omega) (by omega)]; omega) (by rw [s1 _ (by omega) (by omega)]; omega), s1 _ (by omega) (by omega)]; omega) (by rw [s2 _ (by rw [s1 _ (by omega) (by omega)]; omega) (by rw [s1 _ (by omega) (by omega)]; omega), s1 _ (by omega) (by omega)]; omega)
end
section
theorem mask64 (x : Int64) : (x &&& 65535).toInt32 = nI (x.toInt % 65536).toNat := by
  apply Int32.toBitVec_inj.mp
  show ((x &&& 65535).toBitVec.signExtend 32) = _
  apply BitVec.eq_of_toNat_eq
  rw [BitVec.signExtend_eq_setWidth_of_le _ (by decide), BitVec.toNat_setWidth]
  have h1 : (x &&& 65535).toBitVec.toNat = x.toBitVec.toNat % 65536 := by
    show (x.toBitVec &&& (65535 : Int64).toBitVec).toNat = _
    rw [BitVec.toNat_and]
    show x.toBitVec.toNat &&& (2 ^ 16 - 1) = _
    rw [Nat.and_two_pow_sub_one_eq_mod]
  have h2 : x.toInt % 65536 = ((x.toBitVec.toNat % 65536 : Nat) : Int) := by
    have e : x.toInt = (x.toBitVec.toNat : Int).bmod (2 ^ 64) := BitVec.toInt_eq_toNat_bmod _
    rw [e, Int.bmod_def]
    split <;> omega
  rw [h1, h2, Int.toNat_natCast]
  have h3 : x.toBitVec.toNat % 65536 < 65536 := Nat.mod_lt _ (by decide)
  generalize x.toBitVec.toNat % 65536 = k at h3
  have h4 : (nI k).toBitVec.toNat = k := by
    have := nI_toInt (n := k) (by omega)
    have e : (nI k).toInt = ((nI k).toBitVec.toNat : Int).bmod (2 ^ 32) := BitVec.toInt_eq_toNat_bmod _
    have e2 : (nI k).toBitVec.toNat < 2 ^ 32 := (nI k).toBitVec.isLt
    rw [e, Int.bmod_def] at this
    split at this <;> omega
  rw [h4]
  omega
theorem modN_val (a : Int32) : modN a = nI (a.toInt % 65536).toNat := by
  have h1 := Int32.le_toInt a
  have h2 := Int32.toInt_lt a
  have c0 : ((65536 : Int32)).toInt = 65536 := by decide
  have z0 : ((0 : Int32)).toInt = 0 := by decide
  have hm : a.toInt.tdiv 65536 = (if 0 ≤ a.toInt then a.toInt / 65536 else -((-a.toInt) / 65536)) := by
    split
    next h => exact Int.tdiv_eq_ediv_of_nonneg h
    next h =>
      have e : a.toInt = -(-a.toInt) := by omega
      rw [e, Int.neg_tdiv, Int.tdiv_eq_ediv_of_nonneg (by omega)]
      omega
  have hq : (a / 65536).toInt = a.toInt.tdiv 65536 := by
    rw [Int32.toInt_div, c0, hm]
    split <;> exact Int.bmod_eq_of_le (by omega) (by omega)
  have hp : (a / 65536 * 65536).toInt = a.toInt.tdiv 65536 * 65536 := by
    rw [Int32.toInt_mul, hq, c0, hm]
    split <;> exact Int.bmod_eq_of_le (by omega) (by omega)
  have hs : (a - a / 65536 * 65536).toInt = a.toInt - a.toInt.tdiv 65536 * 65536 := by
    rw [Int32.toInt_sub, hp, hm]
    split <;> exact Int.bmod_eq_of_le (by omega) (by omega)
  apply Int32.toInt_inj.mp
  rw [nI_toInt (by omega)]
  unfold modN
  by_cases h : 0 ≤ a - a / 65536 * 65536
  · rw [if_pos h]
    rw [i32_le, hs, z0] at h
    rw [hs]
    rw [hm] at h ⊢
    split at h <;> rename_i h3 <;> simp only [h3, if_true, if_false] <;> omega
  · rw [if_neg h]
    rw [i32_le, hs, z0] at h
    rw [Int32.toInt_add, hs, c0]
    rw [hm] at h ⊢
    split at h <;> rename_i h3 <;> simp only [h3, if_true, if_false] <;> rw [Int.bmod_eq_of_le (by omega) (by omega)] <;> omega
theorem mask_mod (x : Int64) : (x &&& 65535).toInt32 = modN x.toInt32 := by
  rw [mask64, modN_val]
  congr 2
  rw [Int64.toInt_toInt32, Int.bmod_def]
  split <;> omega
theorem ang_eq (sp t ph : Int32) : angX sp t ph = angM sp t ph := by
  unfold angX angM
  rw [mask_mod]
  congr 1
  rw [Int64.toInt32_add]
  congr 1
  exact Int32.toInt32_toInt64 ph
theorem cos_eq (a : Int32) : (a.toInt64 &&& 65535).toInt32 = modN a := by
  rw [mask_mod]
  congr 1
  exact Int32.toInt32_toInt64 a
theorem cosN_ok (a : Int32) : FP.Core.DFin (cosN (modN a)) ∧ nz (cosN (modN a)) := by
  refine And.intro (fb_fin (cosN_fb _)) ?_
  rw [modN_val]
  exact cosN_nz (by rw [nI_toInt (by omega)]; omega) (by rw [nI_toInt (by omega)]; omega)
section S40
variable (g : Gp) (d : Nat) (I : MI) (D : MD)
theorem c_M_dtl (v : UInt64) (hv : FP.Core.DFin v) : Con g SHc (d + 1) 157 [.double v] I D (EqP (some (.long v.toInt64)) I D) := by
  have hn : FP.dcmp v v = some .eq := by
    obtain ⟨s, c, q, h⟩ := hv
    have := FP.Core.dcmp_zval (a := v) (b := v) (by rw [h]; intro h; cases h) (by rw [h]; intro h; cases h)
    refine (show FP.dcmp v v = _ from this).trans (congrArg some ((FP.Core.compare_eq_iff _ _).mpr rfl))
  have nan : Con g SHc d 158 [.double v] I D (EqP (some (.int 0)) I D) := by
    refine Con.mk (LV := v_Double_isNaN) k_Double_isNaN (Nat.le_of_ble_eq_true rfl) (fun K hK => ?_)
    refine hK (0, 12, o_Double_isNaN_0) (List.mem_of_getElem? (i := 0) rfl) _ _ _ _ ?_
    refine And.intro (fun c => ?_) (fun c => ?_)
    · exact And.intro (Or.inl rfl) (And.intro rfl (And.intro rfl rfl))
    · have c : ¬ Op.cmpValue (FP.dcmp v v) .l = 0 := c
      rw [hn] at c
      exact absurd (by decide) c
  refine Con.mk (LV := v_Double_doubleToLongBits) k_Double_doubleToLongBits (Nat.le_of_ble_eq_true rfl) (fun K hK => ?_)
  refine hK (0, 16, o_Double_doubleToLongBits_0) (List.mem_of_getElem? (i := 0) rfl) _ _ _ _ ?_
  refine call_eq (nan) ?_
  refine And.intro (fun c => ?_) (fun c => ?_)
  · exact absurd rfl c
  · exact And.intro rfl (And.intro rfl rfl)
theorem c_X_cos (a : Int32) : Con g SHc (d + 1) 11 [.ref 0, .int a] I D (EqP (some (.long (cosN (modN a)).toInt64)) I D) := by
  refine Con.mk (LV := v_X_cos) k_X_cos (Nat.le_of_ble_eq_true rfl) (fun K hK => ?_)
  refine hK (0, 9, o_X_cos_0) (List.mem_of_getElem? (i := 0) rfl) _ _ _ _ ?_
  refine call_eq (c_X_cosine g d I D a.toInt64) ?_
  rw [cos_eq]
  refine call_eq (c_X_bitsOf g d I D _ (cosN_ok a).1 (cosN_ok a).2) ?_
  exact And.intro rfl (And.intro rfl rfl)
theorem c_M_cos (a : Int32) : Con g SHc (d + 2) 155 [.ref 12, .int a] I D (EqP (some (.long (cosN (modN a)).toInt64)) I D) := by
  refine Con.mk (LV := v_M_cos) k_M_cos (Nat.le_of_ble_eq_true rfl) (fun K hK => ?_)
  refine hK (0, 8, o_M_cos_0) (List.mem_of_getElem? (i := 0) rfl) _ _ _ _ ?_
  refine call_eq (c_M_cosine g (d + 1) I D a) ?_
  refine call_eq (c_M_dtl g d I D _ (cosN_ok a).1) ?_
  exact And.intro rfl (And.intro rfl rfl)
theorem hgtX_nz (n : Nat) (hn : n ≤ 60) (hw : ∀ i, i < n → ∃ w, w ≤ 8 ∧ I 20 i = nI w) (s t k : Int32) (h : ¬ ifF (I 16) (I 17) (I 18) s t k n = -1) : nz (hgtX I n s t k) := by
  unfold hgtX
  rw [if_neg h]
  rcases ifF_in (I 16) (I 17) (I 18) s t k n with h1 | ⟨j, hj, h1⟩
  · exact absurd h1 h
  · obtain ⟨w, hw8, hwe⟩ := hw j hj
    rw [h1, nI_clamp (show j < 2 ^ 31 by omega), hwe, nI_clamp (show w < 2 ^ 31 by omega)]
    exact hG_nz _ _ _ w (by omega)
theorem hgtM_fb (n : Nat) (hn : n ≤ 60) (hw : ∀ i, i < n → ∃ w, w ≤ 8 ∧ I 79 i = nI w) (s t k : Int32) (h : ¬ ifF (I 75) (I 76) (I 77) s t k n = -1) : fb 300 (hgtM I n s t k) := by
  unfold hgtM
  rcases ifF_in (I 75) (I 76) (I 77) s t k n with h1 | ⟨j, hj, h1⟩
  · exact absurd h1 h
  · obtain ⟨w, hw8, hwe⟩ := hw j hj
    rw [h1, nI_clamp (show j < 2 ^ 31 by omega), hwe, nI_clamp (show w < 2 ^ 31 by omega)]
    exact fb_mono (by omega) (hG_fb _ _ _ w (by omega))
def XF : Int64 := 9221120237041090560
theorem c_X_height (n : Nat) (hn : n ≤ 60) (hI : I 2 9 = nI n) (hw : ∀ i, i < n → ∃ w, w ≤ 8 ∧ I 20 i = nI w) (s t k : Int32) : Con g SHc (d + 2) 14 [.ref 0, .int s, .int t, .int k] I D (EqP (some (.long (if (wi s 0 11 && wi t 0 2591999 && wi k 0 (I 0 11)) = true then (if 3000 ≤ I 1 0 then 9221120237041090560 else if ifF (I 16) (I 17) (I 18) s t k n = -1 then 9221120237041090560 else (hgtX I n s t k).toInt64) else 9221120237041090560))) (if (wi s 0 11 && wi t 0 2591999 && wi k 0 (I 0 11)) = true then (if 3000 ≤ I 1 0 then I else if ifF (I 16) (I 17) (I 18) s t k n = -1 then tellX 1 I else I) else I) D) := by
  refine Con.mk (LV := v_X_height) k_X_height (Nat.le_of_ble_eq_true rfl) (fun K hK => ?_)
  refine hK (0, 77, o_X_height_0) (List.mem_of_getElem? (i := 0) rfl) _ _ _ _ ?_
  refine call_eq (c_X_isStation g (d + 1) I D s) ?_
  refine And.intro (fun c1 => ?_) (fun c1 => ?_)
  · exact And.intro (by simp [bI_0.mp c1]) (And.intro (by first | (simp [bI_0.mp c1]; done) | (simp [bI_0.mp c1]; rfl)) (by first | rfl | simp [bI_0.mp c1]))
  refine call_eq (c_X_isMoment g (d + 1) I D t) ?_
  refine And.intro (fun c2 => ?_) (fun c2 => ?_)
  · exact And.intro (by simp [bI_0.mp c2]) (And.intro (by first | (simp [bI_0.mp c2]; done) | (simp [bI_0.mp c2]; rfl)) (by first | rfl | simp [bI_0.mp c2]))
  refine call_eq (c_X_isPast g (d + 1) I D k) ?_
  have h1 := bI_n0.mp c1
  have h2 := bI_n0.mp c2
  refine And.intro (fun c3 => ?_) (fun c3 => ?_)
  · exact And.intro (by simp [bI_0.mp c3]) (And.intro (by first | (simp [bI_0.mp c3]; done) | (simp [bI_0.mp c3]; rfl)) (by first | rfl | simp [bI_0.mp c3]))
  have h3 := bI_n0.mp c3
  refine call_eq (c_X_areSpent g (d + 1) I D) ?_
  refine And.intro (fun c4 => ?_) (fun c4 => ?_)
  · have h4 : ¬ 3000 ≤ I 1 0 := of_decide_eq_false (bI_0.mp c4)
    refine call_eq (c_X_inForce g (d + 1) I D s t k n hn hI) ?_
    refine And.intro (fun c5 => ?_) (fun c5 => ?_)
    · refine call_eq (c_X_heightAt g d I D s t k n hn hI hw) ?_
      refine call_eq (c_X_bitsOf g (d + 1) I D _ (fb_fin (hgtX_fb I n hn hw s t k c5)) (hgtX_nz I n hn hw s t k c5)) ?_
      exact And.intro (by simp [h1, h2, h3, h4, c5]) (And.intro (by first | (simp [h1, h2, h3, h4, c5]; done) | (simp [h1, h2, h3, h4, c5]; rfl)) (by first | rfl | simp [h1, h2, h3, h4, c5]))
    · refine call_eq (c_X_tell g (d + 1) I D 1) ?_
      exact And.intro (by simp [h1, h2, h3, h4, c5]) (And.intro (by first | (simp [h1, h2, h3, h4, c5]; done) | (simp [h1, h2, h3, h4, c5]; rfl)) (by first | rfl | simp [h1, h2, h3, h4, c5]))
  · exact And.intro (by simp [h1, h2, h3, of_decide_eq_true (bI_n0.mp c4)]) (And.intro (by first | (simp [h1, h2, h3, of_decide_eq_true (bI_n0.mp c4)]; done) | (simp [h1, h2, h3, of_decide_eq_true (bI_n0.mp c4)]; rfl)) (by first | rfl | simp [h1, h2, h3, of_decide_eq_true (bI_n0.mp c4)]))
theorem c_M_height (n : Nat) (hn : n ≤ 60) (hI : I 12 8 = nI n) (hw : ∀ i, i < n → ∃ w, w ≤ 8 ∧ I 79 i = nI w) (s t k : Int32) : Con g SHc (d + 3) 159 [.ref 12, .int s, .int t, .int k] I D (EqP (some (.long (if (wi s 0 11 && wi t 0 2591999 && wi k 0 (I 12 0)) = true then (if 3000 ≤ I 12 2 then 9221120237041090560 else if ifF (I 75) (I 76) (I 77) s t k n = -1 then 9221120237041090560 else (hgtM I n s t k).toInt64) else 9221120237041090560))) (if (wi s 0 11 && wi t 0 2591999 && wi k 0 (I 12 0)) = true then (if 3000 ≤ I 12 2 then I else if ifF (I 75) (I 76) (I 77) s t k n = -1 then tellM 1 I else I) else I) (if (wi s 0 11 && wi t 0 2591999 && wi k 0 (I 12 0)) = true then (if 3000 ≤ I 12 2 then D else if ifF (I 75) (I 76) (I 77) s t k n = -1 then D else up2 D 12 17 (hgtM I n s t k)) else D)) := by
  refine Con.mk (LV := v_M_height) k_M_height (Nat.le_of_ble_eq_true rfl) (fun K hK => ?_)
  refine hK (0, 55, o_M_height_0) (List.mem_of_getElem? (i := 0) rfl) _ _ _ _ ?_
  refine call_eq (c_M_isStation g (d + 1) I D s) ?_
  refine And.intro (fun c1 => ?_) (fun c1 => ?_)
  · exact And.intro (by simp [bI_0.mp c1]) (And.intro (by first | (simp [bI_0.mp c1]; done) | (simp [bI_0.mp c1]; rfl)) (by first | rfl | simp [bI_0.mp c1]))
  refine call_eq (c_M_isKnowing g d I D t k) ?_
  have h1 := bI_n0.mp c1
  refine And.intro (fun c2 => ?_) (fun c2 => ?_)
  · exact And.intro (by simp [Bool.and_assoc, bI_0.mp c2]) (And.intro (by first | (simp [Bool.and_assoc, bI_0.mp c2]; done) | (simp [Bool.and_assoc, bI_0.mp c2]; rfl)) (by first | rfl | simp [Bool.and_assoc, bI_0.mp c2]))
  have h23 := bI_n0.mp c2
  have h2 := (Bool.and_eq_true _ _ ▸ h23 : wi t 0 2591999 = true ∧ wi k 0 (I 12 0) = true).1
  have h3 := (Bool.and_eq_true _ _ ▸ h23 : wi t 0 2591999 = true ∧ wi k 0 (I 12 0) = true).2
  refine call_eq (c_M_isFull g (d + 2) I D) ?_
  refine And.intro (fun c4 => ?_) (fun c4 => ?_)
  · have h4 : ¬ 3000 ≤ I 12 2 := of_decide_eq_false (bI_0.mp c4)
    refine call_eq (c_M_rises g (d + 1) I D s t k n hn hI hw) ?_
    by_cases c5 : ifF (I 75) (I 76) (I 77) s t k n = -1
    · rw [decide_eq_true c5, show (if ifF (I 75) (I 76) (I 77) s t k n = -1 then D else up2 D 12 17 (hgtM I n s t k)) = D from if_pos c5]
      refine And.intro (fun z => absurd rfl z) (fun _ => ?_)
      refine call_eq (c_M_fails g (d + 2) I D 1) ?_
      exact And.intro (by simp [h1, h2, h3, h4, c5]) (And.intro (by first | (simp [h1, h2, h3, h4, c5]; done) | (simp [h1, h2, h3, h4, c5]; rfl)) (by first | rfl | simp [h1, h2, h3, h4, c5]))
    · rw [decide_eq_false c5, show (if ifF (I 75) (I 76) (I 77) s t k n = -1 then D else up2 D 12 17 (hgtM I n s t k)) = up2 D 12 17 (hgtM I n s t k) from if_neg c5]
      refine And.intro (fun _ => ?_) (fun z => absurd z (by decide))
      refine call_eq (c_M_dtl g (d + 1) I (up2 D 12 17 (hgtM I n s t k)) (hgtM I n s t k) (fb_fin (hgtM_fb I n hn hw s t k c5))) ?_
      exact And.intro (by simp [h1, h2, h3, h4, c5]) (And.intro (by first | (simp [h1, h2, h3, h4, c5]; done) | (simp [h1, h2, h3, h4, c5]; rfl)) (by first | rfl | simp [h1, h2, h3, h4, c5]))
  · exact And.intro (by simp [h1, h2, h3, of_decide_eq_true (bI_n0.mp c4)]) (And.intro (by first | (simp [h1, h2, h3, of_decide_eq_true (bI_n0.mp c4)]; done) | (simp [h1, h2, h3, of_decide_eq_true (bI_n0.mp c4)]; rfl)) (by first | rfl | simp [h1, h2, h3, of_decide_eq_true (bI_n0.mp c4)]))
end S40
end
section
section S41
variable (g : Gp) (d : Nat) (I : MI) (D : MD)
abbrev bfX (I : MI) (s t k : Int32) (b : Nat) : Int32 := ifF (I 32) (I 33) (I 34) s t k b
abbrev sfX (I : MI) (s t k : Int32) (n : Nat) : Int32 := ifF (I 16) (I 17) (I 18) s t k n
abbrev bfM (I : MI) (s t k : Int32) (b : Nat) : Int32 := ifF (I 93) (I 94) (I 95) s t k b
abbrev sfM (I : MI) (s t k : Int32) (n : Nat) : Int32 := ifF (I 75) (I 76) (I 77) s t k n
def dpX (I : MI) (n b q : Nat) (t k : Int32) : UInt64 := FP.dadd (FP.ddiv (FP.i2d (I 35 (bfX I (nI q) t k b).toNatClampNeg)) 4636737291354636288) (hgtX I n (I 30 q) t k)
def dpM (I : MI) (n b q : Nat) (t k : Int32) : UInt64 := FP.dadd (FP.ddiv (FP.i2d (I 96 (bfM I (nI q) t k b).toNatClampNeg)) 4636737291354636288) (hgtM I n (I 91 q) t k)
theorem c_X_depthAt (n b q : Nat) (hn : n ≤ 60) (hI : I 2 9 = nI n) (hw : ∀ i, i < n → ∃ w, w ≤ 8 ∧ I 20 i = nI w) (hb : b ≤ 76) (hB : I 4 8 + I 4 9 = nI b) (hq : q < 16) (t k : Int32) (hsf : ¬ sfX I (I 30 q) t k n = -1) : Con g SHc (d + 2) 51 [.ref 4, .int (nI q), .int t, .int k] I D (EqP (some (.double (if bfX I (nI q) t k b = -1 then 0 else dpX I n b q t k))) I D) := by
  refine Con.mk (LV := v_Shoals_depthAt) k_Shoals_depthAt (Nat.le_of_ble_eq_true rfl) (fun K hK => ?_)
  refine hK (0, 46, o_Shoals_depthAt_0) (List.mem_of_getElem? (i := 0) rfl) _ _ _ _ ?_
  refine call_eq (c_X_bedInForce g (d + 1) I D (nI q) t k b hb hB) ?_
  refine And.intro (fun c1 => ?_) (fun c1 => ?_)
  · rw [if_neg c1]
    rcases ifF_in (I 32) (I 33) (I 34) (nI q) t k b with h1 | ⟨j, hj, h1⟩
    · exact absurd h1 c1
    · refine And.intro (by rw [h1]; exact inn_nI (by omega) (by decide)) ?_
      refine And.intro (fb_n (mn_fb _)) ?_
      refine And.intro (inn_nI hq (by decide)) ?_
      rw [nI_clamp (show q < 2 ^ 31 by omega)]
      refine call_eq (c_X_heightAt g d I D _ t k n hn hI hw) ?_
      refine And.intro (fb_n (dp_fb (hgtX_fb I n hn hw _ t k hsf))) ?_
      exact And.intro rfl (And.intro rfl rfl)
  · rw [if_pos c1]
    exact And.intro rfl (And.intro rfl rfl)
set_option maxHeartbeats 1000000 in
theorem c_M_goesDown (n b q : Nat) (hn : n ≤ 60) (hN : I 12 8 = nI n) (hw : ∀ i, i < n → ∃ w, w ≤ 8 ∧ I 79 i = nI w) (hb : b ≤ 76) (hI : I 12 37 = nI b) (hq : q < 16) (t k : Int32) : Con g SHc (d + 2) 185 [.ref 12, .int (nI q), .int t, .int k] I D (EqP (some (.int (bI (!decide (bfM I (nI q) t k b = -1) && !decide (sfM I (I 91 q) t k n = -1))))) I (if bfM I (nI q) t k b = -1 then D else if sfM I (I 91 q) t k n = -1 then D else up2 D 12 17 (dpM I n b q t k))) := by
  refine Con.mk (LV := v_M_goesDown) k_M_goesDown (Nat.le_of_ble_eq_true rfl) (fun K hK => ?_)
  have loop : ∀ r i, i + r = b → K 6 [(0, .ref 12), (1, .int (nI q)), (2, .int t), (3, .int k), (4, .int (ifF (I 93) (I 94) (I 95) (nI q) t k i)), (5, .int (nI i))] [] I D := by
    intro r
    induction r with
    | zero =>
      intro i hi
      have hi : i = b := by omega
      subst hi
      refine hK (6, 143, o_M_goesDown_1) (List.mem_of_getElem? (i := 1) rfl) _ _ _ _ ?_
      refine And.intro (fun c => ?_) (fun c => ?_)
      · refine And.intro (fun c1 => ?_) (fun c1 => ?_)
        · rw [if_pos c1]
          exact And.intro (by decide) (And.intro (by simp [c1, bI]) (And.intro rfl rfl))
        rw [if_neg c1]
        refine And.intro (inn_nI hq (by decide)) ?_
        rw [nI_clamp (show q < 2 ^ 31 by omega)]
        refine call_eq (c_M_rises g d I D _ t k n hn hN hw) ?_
        by_cases c2 : sfM I (I 91 q) t k n = -1
        · rw [show (if sfM I (I 91 q) t k n = -1 then D else up2 D 12 17 (hgtM I n (I 91 q) t k)) = D from if_pos c2, decide_eq_true c2]
          refine And.intro (fun z => absurd rfl z) (fun _ => ?_)
          rw [if_pos c2]
          exact And.intro (by decide) (And.intro (by simp [c2, bI]) (And.intro rfl rfl))
        · rw [show (if sfM I (I 91 q) t k n = -1 then D else up2 D 12 17 (hgtM I n (I 91 q) t k)) = up2 D 12 17 (hgtM I n (I 91 q) t k) from if_neg c2, decide_eq_false c2]
          refine And.intro (fun _ => ?_) (fun z => absurd z (by decide))
          rcases ifF_in (I 93) (I 94) (I 95) (nI q) t k i with h1 | ⟨j, hj, h1⟩
          · exact absurd h1 c1
          · refine And.intro (by rw [h1]; exact inn_nI (by omega) (by decide)) ?_
            refine And.intro (fb_n (mn_fb _)) ?_
            refine And.intro (fb_n (dp_fb (hgtM_fb I n hn hw _ t k c2))) ?_
            rw [if_neg c2]
            refine And.intro (Or.inr rfl) (And.intro ?_ (And.intro rfl ?_))
            · simp [c1, c2, bI]
            · exact up2_up2 _ _ _ _ _
      · exact absurd (by rw [hI]; exact nI_le (Nat.le_refl _) (by omega)) c
    | succ r ih =>
      intro i hi
      have h60 : inn (nI i) 76 := inn_nI (by omega) (by decide)
      have hcl : (nI i).toNatClampNeg = i := nI_clamp (by omega)
      have go := ih (i + 1) (by omega)
      rw [nI_succ] at go
      have bd : ¬ ifF (I 93) (I 94) (I 95) (nI q) t k i = -1 → inn (ifF (I 93) (I 94) (I 95) (nI q) t k i) 76 := by
        intro h
        rcases ifF_in (I 93) (I 94) (I 95) (nI q) t k i with h1 | ⟨j, h1, h2⟩
        · exact absurd h1 h
        · rw [h2]
          exact inn_nI (by omega) (by decide)
      refine hK (6, 143, o_M_goesDown_1) (List.mem_of_getElem? (i := 1) rfl) _ _ _ _ ?_
      refine And.intro (fun c => ?_) (fun c => ?_)
      · rw [hI] at c
        exact absurd c (nI_ge (by omega) (by omega))
      refine And.intro (h60) ?_
      refine And.intro (fun c1 => ?_) (fun c1 => ?_)
      · rw [hcl] at c1
        rw [ifF_n (fun h => c1 h.1.1)] at go
        exact And.intro (fun _ => go) (fun h => absurd rfl h)
      refine And.intro (h60) ?_
      refine And.intro (fun c2 => ?_) (fun c2 => ?_)
      · rw [hcl] at c2
        rw [ifF_n (fun h => absurd h.1.2.1 (i32_nle.mpr c2))] at go
        exact And.intro (fun _ => go) (fun h => absurd rfl h)
      refine And.intro (h60) ?_
      refine And.intro (by decide) ?_
      refine And.intro (fun c3 => ?_) (fun c3 => ?_)
      · rw [hcl] at c3
        rw [ifF_n (fun h => absurd h.1.2.2 (i32_nle.mpr c3))] at go
        exact And.intro (fun _ => go) (fun h => absurd rfl h)
      rw [hcl] at c1 c2 c3
      refine And.intro (fun h => absurd h (by decide)) (fun _ => ?_)
      refine And.intro (fun c4 => ?_) (fun c4 => ?_)
      · rw [ifF_y ⟨⟨c1, i32_nlt.mp c2, i32_nlt.mp c3⟩, Or.inl c4⟩] at go
        exact go
      refine And.intro (h60) ?_
      refine And.intro (bd c4) ?_
      refine And.intro (fun c5 => ?_) (fun c5 => ?_)
      · rw [hcl] at c5
        rw [ifF_n (fun h => h.2.elim (fun z => c4 z) (fun z => absurd z (i32_nle.mpr c5)))] at go
        exact go
      · rw [hcl] at c5
        rw [ifF_y ⟨⟨c1, i32_nlt.mp c2, i32_nlt.mp c3⟩, Or.inr (i32_nlt.mp c5)⟩] at go
        exact go
  refine hK (0, 6, o_M_goesDown_0) (List.mem_of_getElem? (i := 0) rfl) _ _ _ _ ?_
  exact loop b 0 (by omega)
def ifD (c : Bool) (x y : Int64) : Int64 := if c = true then x else y
theorem dpX_fb (n b q : Nat) (hn : n ≤ 60) (hw : ∀ i, i < n → ∃ w, w ≤ 8 ∧ I 20 i = nI w) (t k : Int32) (h : ¬ sfX I (I 30 q) t k n = -1) : fb 301 (dpX I n b q t k) ∧ nz (dpX I n b q t k) :=
  And.intro (dp_fb (hgtX_fb I n hn hw _ t k h)) (nz_add (fb_fin (mn_fb _)) (fb_fin (hgtX_fb I n hn hw _ t k h)) (mn_nz _))
theorem dpM_fb (n b q : Nat) (hn : n ≤ 60) (hw : ∀ i, i < n → ∃ w, w ≤ 8 ∧ I 79 i = nI w) (t k : Int32) (h : ¬ sfM I (I 91 q) t k n = -1) : fb 301 (dpM I n b q t k) := dp_fb (hgtM_fb I n hn hw _ t k h)
theorem c_X_depth (n b m : Nat) (hn : n ≤ 60) (hI : I 2 9 = nI n) (hw : ∀ i, i < n → ∃ w, w ≤ 8 ∧ I 20 i = nI w) (hb : b ≤ 76) (hB : I 4 8 + I 4 9 = nI b) (hm : m ≤ 16) (hM : I 4 8 = nI m) (s t k : Int32) : Con g SHc (d + 3) 48 [.ref 0, .int s, .int t, .int k] I D (EqP (some (.long (if (ix s (nI m) && wi t 0 2591999 && wi k 0 (I 0 11)) = true then (if 3000 ≤ I 1 0 then 9221120237041090560 else if bfX I s t k b = -1 ∨ sfX I (I 30 s.toNatClampNeg) t k n = -1 then 9221120237041090560 else (dpX I n b s.toNatClampNeg t k).toInt64) else 9221120237041090560))) (if (ix s (nI m) && wi t 0 2591999 && wi k 0 (I 0 11)) = true then (if 3000 ≤ I 1 0 then I else if bfX I s t k b = -1 ∨ sfX I (I 30 s.toNatClampNeg) t k n = -1 then tellX 1 I else I) else I) D) := by
  refine Con.mk (LV := v_X_depth) k_X_depth (Nat.le_of_ble_eq_true rfl) (fun K hK => ?_)
  refine hK (0, 77, o_X_depth_0) (List.mem_of_getElem? (i := 0) rfl) _ _ _ _ ?_
  refine call_eq (c_X_isShoal g (d + 2) I D s) ?_
  rw [hM]
  refine And.intro (fun c1 => ?_) (fun c1 => ?_)
  · exact And.intro (by simp [bI_0.mp c1, ix]) (And.intro (by first | (simp [bI_0.mp c1, ix]; done) | (simp [bI_0.mp c1, ix]; rfl)) (by first | rfl | simp [bI_0.mp c1, ix]))
  refine call_eq (c_X_isMoment g (d + 2) I D t) ?_
  refine And.intro (fun c2 => ?_) (fun c2 => ?_)
  · exact And.intro (by simp [bI_0.mp c2]) (And.intro (by first | (simp [bI_0.mp c2]; done) | (simp [bI_0.mp c2]; rfl)) (by first | rfl | simp [bI_0.mp c2]))
  refine call_eq (c_X_isPast g (d + 2) I D k) ?_
  have h1 : ix s (nI m) = true := bI_n0.mp c1
  obtain ⟨q, hq, rfl⟩ := ix_nI (by omega) h1
  have h2 := bI_n0.mp c2
  refine And.intro (fun c3 => ?_) (fun c3 => ?_)
  · exact And.intro (by simp [bI_0.mp c3]) (And.intro (by first | (simp [bI_0.mp c3]; done) | (simp [bI_0.mp c3]; rfl)) (by first | rfl | simp [bI_0.mp c3]))
  have h3 := bI_n0.mp c3
  refine call_eq (c_X_areSpent g (d + 2) I D) ?_
  have hc : (nI q).toNatClampNeg = q := nI_clamp (by omega)
  refine And.intro (fun c4 => ?_) (fun c4 => ?_)
  · have h4 : ¬ 3000 ≤ I 1 0 := of_decide_eq_false (bI_0.mp c4)
    refine call_eq (c_X_hasDepth g (d + 1) I D n b q hn hI hb hB (by omega) t k) ?_
    refine And.intro (fun c5 => ?_) (fun c5 => ?_)
    · have h5 := bI_n0.mp c5
      have h6 : ¬ bfX I (nI q) t k b = -1 ∧ ¬ sfX I (I 30 q) t k n = -1 := by
        simpa using h5
      refine call_eq (c_X_depthAt g d I D n b q hn hI hw hb hB (by omega) t k h6.2) ?_
      rw [if_neg h6.1]
      refine call_eq (c_X_bitsOf g (d + 2) I D _ (fb_fin (dpX_fb I n b q hn hw t k h6.2).1) (dpX_fb I n b q hn hw t k h6.2).2) ?_
      rw [hc]
      exact And.intro (by simp [h1, h2, h3, h4, h6.1, h6.2]) (And.intro (by first | (simp [h1, h2, h3, h4, h6.1, h6.2]; done) | (simp [h1, h2, h3, h4, h6.1, h6.2]; rfl)) (by first | rfl | simp [h1, h2, h3, h4, h6.1, h6.2]))
    · have h5 := bI_0.mp c5
      have h6 : bfX I (nI q) t k b = -1 ∨ sfX I (I 30 q) t k n = -1 := by
        rcases Classical.em (bfX I (nI q) t k b = -1) with h | h
        · exact Or.inl h
        · simp only [h, decide_false, Bool.not_false, Bool.true_and] at h5
          exact Or.inr (by simpa using h5)
      refine call_eq (c_X_tell g (d + 2) I D 1) ?_
      rw [hc]
      exact And.intro (by simp [h1, h2, h3, h4, h6]) (And.intro (by first | (simp [h1, h2, h3, h4, h6]; done) | (simp [h1, h2, h3, h4, h6]; rfl)) (by first | rfl | simp [h1, h2, h3, h4, h6]))
  · exact And.intro (by simp [h1, h2, h3, of_decide_eq_true (bI_n0.mp c4)]) (And.intro (by first | (simp [h1, h2, h3, of_decide_eq_true (bI_n0.mp c4)]; done) | (simp [h1, h2, h3, of_decide_eq_true (bI_n0.mp c4)]; rfl)) (by first | rfl | simp [h1, h2, h3, of_decide_eq_true (bI_n0.mp c4)]))
theorem c_M_depth (n b m : Nat) (hn : n ≤ 60) (hI : I 12 8 = nI n) (hw : ∀ i, i < n → ∃ w, w ≤ 8 ∧ I 79 i = nI w) (hb : b ≤ 76) (hB : I 12 37 = nI b) (hm : m ≤ 16) (hM : I 12 33 = nI m) (s t k : Int32) : Con g SHc (d + 3) 184 [.ref 12, .int s, .int t, .int k] I D (EqP (some (.long (if (ix s (nI m) && wi t 0 2591999 && wi k 0 (I 12 0)) = true then (if 3000 ≤ I 12 2 then 9221120237041090560 else if bfM I s t k b = -1 ∨ sfM I (I 91 s.toNatClampNeg) t k n = -1 then 9221120237041090560 else (dpM I n b s.toNatClampNeg t k).toInt64) else 9221120237041090560))) (if (ix s (nI m) && wi t 0 2591999 && wi k 0 (I 12 0)) = true then (if 3000 ≤ I 12 2 then I else if bfM I s t k b = -1 ∨ sfM I (I 91 s.toNatClampNeg) t k n = -1 then tellM 1 I else I) else I) (if (ix s (nI m) && wi t 0 2591999 && wi k 0 (I 12 0)) = true then (if 3000 ≤ I 12 2 then D else if bfM I s t k b = -1 ∨ sfM I (I 91 s.toNatClampNeg) t k n = -1 then D else up2 D 12 17 (dpM I n b s.toNatClampNeg t k)) else D)) := by
  refine Con.mk (LV := v_M_depth) k_M_depth (Nat.le_of_ble_eq_true rfl) (fun K hK => ?_)
  refine hK (0, 56, o_M_depth_0) (List.mem_of_getElem? (i := 0) rfl) _ _ _ _ ?_
  refine call_eq (c_M_isShoal g (d + 1) I D s) ?_
  rw [hM, ix_wi (by omega)]
  refine And.intro (fun c1 => ?_) (fun c1 => ?_)
  · exact And.intro (by simp [bI_0.mp c1]) (And.intro (by first | (simp [bI_0.mp c1]; done) | (simp [bI_0.mp c1]; rfl)) (by first | rfl | simp [bI_0.mp c1]))
  refine call_eq (c_M_isKnowing g d I D t k) ?_
  have h1 : ix s (nI m) = true := bI_n0.mp c1
  obtain ⟨q, hq, rfl⟩ := ix_nI (by omega) h1
  refine And.intro (fun c2 => ?_) (fun c2 => ?_)
  · exact And.intro (by simp [Bool.and_assoc, bI_0.mp c2]) (And.intro (by first | (simp [Bool.and_assoc, bI_0.mp c2]; done) | (simp [Bool.and_assoc, bI_0.mp c2]; rfl)) (by first | rfl | simp [Bool.and_assoc, bI_0.mp c2]))
  have h23 := bI_n0.mp c2
  have h2 := (Bool.and_eq_true _ _ ▸ h23 : wi t 0 2591999 = true ∧ wi k 0 (I 12 0) = true).1
  have h3 := (Bool.and_eq_true _ _ ▸ h23 : wi t 0 2591999 = true ∧ wi k 0 (I 12 0) = true).2
  refine call_eq (c_M_isFull g (d + 2) I D) ?_
  have hc : (nI q).toNatClampNeg = q := nI_clamp (by omega)
  refine And.intro (fun c4 => ?_) (fun c4 => ?_)
  · have h4 : ¬ 3000 ≤ I 12 2 := of_decide_eq_false (bI_0.mp c4)
    refine call_eq (c_M_goesDown g d I D n b q hn hI hw hb hB (by omega) t k) ?_
    rw [hc]
    by_cases c5 : bfM I (nI q) t k b = -1
    · rw [show (if bfM I (nI q) t k b = -1 then D else if sfM I (I 91 q) t k n = -1 then D else up2 D 12 17 (dpM I n b q t k)) = D from if_pos c5, decide_eq_true c5]
      refine And.intro (fun z => absurd rfl z) (fun _ => ?_)
      refine call_eq (c_M_fails g (d + 2) I D 1) ?_
      exact And.intro (by simp [h1, h2, h3, h4, c5]) (And.intro (by first | (simp [h1, h2, h3, h4, c5]; done) | (simp [h1, h2, h3, h4, c5]; rfl)) (by first | rfl | simp [h1, h2, h3, h4, c5]))
    · by_cases c6 : sfM I (I 91 q) t k n = -1
      · rw [show (if bfM I (nI q) t k b = -1 then D else if sfM I (I 91 q) t k n = -1 then D else up2 D 12 17 (dpM I n b q t k)) = D from (if_neg c5).trans (if_pos c6), decide_eq_true c6, decide_eq_false c5]
        refine And.intro (fun z => absurd rfl z) (fun _ => ?_)
        refine call_eq (c_M_fails g (d + 2) I D 1) ?_
        exact And.intro (by simp [h1, h2, h3, h4, c6]) (And.intro (by first | (simp [h1, h2, h3, h4, c6]; done) | (simp [h1, h2, h3, h4, c6]; rfl)) (by first | rfl | simp [h1, h2, h3, h4, c6]))
      · rw [show (if bfM I (nI q) t k b = -1 then D else if sfM I (I 91 q) t k n = -1 then D else up2 D 12 17 (dpM I n b q t k)) = up2 D 12 17 (dpM I n b q t k) from (if_neg c5).trans (if_neg c6), decide_eq_false c6, decide_eq_false c5]
        refine And.intro (fun _ => ?_) (fun z => absurd z (by decide))
        refine call_eq (c_M_dtl g (d + 1) I (up2 D 12 17 (dpM I n b q t k)) (dpM I n b q t k) (fb_fin (dpM_fb I n b q hn hw t k c6))) ?_
        exact And.intro (by simp [h1, h2, h3, h4, c5, c6]) (And.intro (by first | (simp [h1, h2, h3, h4, c5, c6]; done) | (simp [h1, h2, h3, h4, c5, c6]; rfl)) (by first | rfl | simp [h1, h2, h3, h4, c5, c6]))
  · exact And.intro (by simp [h1, h2, h3, of_decide_eq_true (bI_n0.mp c4)]) (And.intro (by first | (simp [h1, h2, h3, of_decide_eq_true (bI_n0.mp c4)]; done) | (simp [h1, h2, h3, of_decide_eq_true (bI_n0.mp c4)]; rfl)) (by first | rfl | simp [h1, h2, h3, of_decide_eq_true (bI_n0.mp c4)]))
end S41
end
section
/-! multiples of 2^-130, and reals that are not too small: so that no SURGE is the negative zero -/
def grd (x : UInt64) : Prop := ∃ s c q, FP.Core.val64 x = .fin s c q ∧ 2 ^ 944 ∣ c * 2 ^ (q + 1074).toNat
def lb (L : Nat) (x : UInt64) : Prop := ∃ s c q, FP.Core.val64 x = .fin s c q ∧ (c = 0 ∨ 2 ^ (1074 - L) ≤ c * 2 ^ (q + 1074).toNat)
theorem unit_2 {P k : Nat} (h : P < 2 ^ 53) (hk : k ≤ 2000) : ∃ V, FP.Core.fits FP.Core.b64 V ∧ V ≠ .nan ∧ FP.Core.zmag FP.Core.b64 V = P * 2 ^ k := by
  obtain ⟨c', q', h3, h4⟩ := FP.Core.round_exact FP.Core.good_b64 false (c := P) (q := (k : Int) - 1074) h (by rw [qmin64]; omega) (by rw [qmax64]; omega)
  refine ⟨_, FP.Core.round_fits FP.Core.good_b64 (.fin false P ((k : Int) - 1074)), ?_, ?_⟩
  · rw [h3]; intro h; cases h
  · rw [h3]
    show FP.Core.inUnits c' q' FP.Core.b64.qmin = _
    rw [h4, un_move]
    congr 2
    omega
theorem rr_ge {r : UInt64} {s t : Bool} {A B c P k : Nat} {e q : Int} (h : FP.Core.val64 r = FP.Core.roundRatio FP.Core.b64 s A B e) (hr : FP.Core.val64 r = .fin t c q) (hB : 0 < B) (he : -3000 ≤ e) (hP : P < 2 ^ 53) (hk : k ≤ 2000) (h1 : P * 2 ^ k * 2 ^ 1926 * B ≤ A * 2 ^ (e + 3000).toNat) : P * 2 ^ k ≤ c * 2 ^ (q + 1074).toNat := by
  obtain ⟨V, v1, v2, v3⟩ := unit_2 hP hk
  have := FP.Core.zmag_roundRatio_ge (f := FP.Core.b64) FP.Core.good_b64 (s := s) (A := A) (B := B) (e := e) (e0 := -3000) (V := V) hB v1 (by rw [qmin64]; omega) he (by
    rw [v3, qmin64]
    exact h1)
  rw [← h, hr, v3] at this
  rw [← un_move]
  exact this
theorem big_dvd {c : Nat} {q : Int} (hc : c < 2 ^ 53) (hq : -1074 ≤ q) (h : 2 ^ 997 ≤ c * 2 ^ (q + 1074).toNat) : 2 ^ 944 ∣ c * 2 ^ (q + 1074).toNat := by
  have h3 : 2 ^ 997 < 2 ^ 53 * 2 ^ (q + 1074).toNat := Nat.lt_of_le_of_lt h (Nat.mul_lt_mul_of_pos_right hc (Nat.two_pow_pos _))
  rw [← Nat.pow_add] at h3
  have h4 := (Nat.pow_lt_pow_iff_right (by decide : 1 < 2)).mp h3
  exact Nat.dvd_trans (Nat.pow_dvd_pow 2 (by omega)) (Nat.dvd_mul_left _ _)
theorem lb_gr {L : Nat} {x : UInt64} (hL : L ≤ 77) (h : lb L x) : grd x := by
  obtain ⟨s, c, q, h1, h2⟩ := h
  obtain ⟨f1, f2, f3, f4⟩ := fit64 h1
  refine ⟨s, c, q, h1, ?_⟩
  rcases h2 with h2 | h2
  · rw [h2, Nat.zero_mul]
    exact Nat.dvd_zero _
  · exact big_dvd f1 f2 (Nat.le_trans (Nat.pow_le_pow_right (by decide) (by omega)) h2)
theorem grd_lb {x : UInt64} (h : grd x) : lb 130 x := by
  obtain ⟨s, c, q, h1, h2⟩ := h
  refine ⟨s, c, q, h1, ?_⟩
  rcases Nat.eq_zero_or_pos c with h3 | h3
  · exact Or.inl h3
  · exact Or.inr (Nat.le_of_dvd (Nat.mul_pos h3 (Nat.two_pow_pos _)) h2)
theorem grd_add {E : Nat} {x y : UInt64} (hE : E + 1 ≤ 900) (bx : fb E x) (by' : fb E y) (hx : grd x) (hy : grd y) : grd (FP.dadd x y) := by
  obtain ⟨t0, c0, q0, r1, -⟩ := fb_add hE bx by'
  obtain ⟨s, c, q, h1, h2⟩ := hx
  obtain ⟨t, d, r, h3, h4⟩ := hy
  have f1 := fit64 h1
  have f2 := fit64 h3
  have f0 := fit64 r1
  have hv := FP.Core.val64_dadd x y
  rw [h1, h3] at hv
  simp only [FP.Core.exactSum, FP.Core.round] at hv
  have hm : min q r ≤ q ∧ min q r ≤ r ∧ -1074 ≤ min q r := by omega
  generalize min q r = e at hv hm
  have a1 : c * 2 ^ (q - e).toNat * 2 ^ (e + 1074).toNat = c * 2 ^ (q + 1074).toNat := by
    rw [Nat.mul_assoc, ← Nat.pow_add]
    congr 2
    omega
  have a2 : d * 2 ^ (r - e).toNat * 2 ^ (e + 1074).toNat = d * 2 ^ (r + 1074).toNat := by
    rw [Nat.mul_assoc, ← Nat.pow_add]
    congr 2
    omega
  have hd : 2 ^ 944 ∣ (FP.Core.sumUnits s c q t d r e).natAbs * 2 ^ (e + 1074).toNat := by
    have k1 : ((2 ^ 944 : Nat) : Int) ∣ (FP.Core.sumUnits s c q t d r e) * ((2 ^ (e + 1074).toNat : Nat) : Int) := by
      unfold FP.Core.sumUnits FP.Core.signed FP.Core.inUnits
      rw [Int.add_mul]
      refine Int.dvd_add ?_ ?_
      · split
        · rw [Int.neg_mul, ← Int.natCast_mul, a1]
          exact Int.dvd_neg.mpr (Int.natCast_dvd_natCast.mpr h2)
        · rw [← Int.natCast_mul, a1]
          exact Int.natCast_dvd_natCast.mpr h2
      · split
        · rw [Int.neg_mul, ← Int.natCast_mul, a2]
          exact Int.dvd_neg.mpr (Int.natCast_dvd_natCast.mpr h4)
        · rw [← Int.natCast_mul, a2]
          exact Int.natCast_dvd_natCast.mpr h4
    have k2 := Int.natAbs_dvd_natAbs.mpr k1
    rw [Int.natAbs_mul, Int.natAbs_natCast, Int.natAbs_natCast] at k2
    exact k2
  generalize FP.Core.sumSign s t (FP.Core.sumUnits s c q t d r e) = sg at hv
  generalize (FP.Core.sumUnits s c q t d r e).natAbs = A at hv hd
  obtain ⟨m, hm2⟩ := hd
  by_cases hs : m < 2 ^ 53
  · obtain ⟨c', q', g1, g2⟩ := un_rd (x := FP.dadd x y) hv (c := m) (q := -130) hs (by omega) (by omega) (by
      have p : 0 < 2 ^ 944 := Nat.two_pow_pos _
      have p2 : 0 < 2 ^ (e + 1074).toNat := Nat.two_pow_pos _
      by_cases he : -130 ≤ e
      · rw [show (-130 - e).toNat = 0 by omega, Nat.pow_zero, Nat.mul_one]
        refine Nat.eq_of_mul_eq_mul_right p ?_
        rw [Nat.mul_comm m, ← hm2, Nat.mul_assoc, ← Nat.pow_add]
        congr 2
        omega
      · rw [show (e - -130).toNat = 0 by omega, Nat.pow_zero, Nat.mul_one]
        refine Nat.eq_of_mul_eq_mul_right p2 ?_
        rw [hm2, Nat.mul_assoc, ← Nat.pow_add, Nat.mul_comm]
        congr 2
        omega)
    refine ⟨_, c', q', g1, ?_⟩
    rw [g2]
    exact Nat.dvd_mul_left _ _
  · refine ⟨t0, c0, q0, r1, big_dvd f0.1 f0.2.1 ?_⟩
    have := rr_ge (P := 2 ^ 52) (k := 945) hv r1 (by decide) (by omega) (by decide) (by decide) (by
      rw [show (e + 3000).toNat = (e + 1074).toNat + 1926 by omega, Nat.pow_add, ← Nat.mul_assoc, hm2, Nat.mul_one]
      refine Nat.mul_le_mul_right _ ?_
      rw [← Nat.pow_add, Nat.mul_comm]
      refine Nat.le_trans ?_ (Nat.mul_le_mul_right _ (Nat.le_of_not_lt hs))
      rw [← Nat.pow_add]
      exact Nat.pow_le_pow_right (by decide) (by decide))
    rw [← Nat.pow_add] at this
    exact this
theorem grd_neg {x : UInt64} (h : grd x) : grd (FP.Core.dneg x) := by
  obtain ⟨s, c, q, h1, h2⟩ := h
  exact ⟨!s, c, q, by rw [FP.Core.val64_dneg, h1]; rfl, h2⟩
theorem fb_neg' {E : Nat} {x : UInt64} (hx : fb E x) : fb E (FP.Core.dneg x) := by
  obtain ⟨s, c, q, h1, h2⟩ := hx
  exact ⟨!s, c, q, by rw [FP.Core.val64_dneg, h1]; rfl, h2⟩
theorem grd_sub {E : Nat} {x y : UInt64} (hE : E + 1 ≤ 900) (bx : fb E x) (by' : fb E y) (hx : grd x) (hy : grd y) : grd (FP.dsub x y) := by
  have e1 : FP.dsub x y = FP.dadd x (FP.Core.dneg y) := FP.Core.dsub_eq x y
  rw [e1]
  exact grd_add hE bx (fb_neg' by') hx (grd_neg hy)
theorem lb_mul {E F L M : Nat} {x y : UInt64} (hE : E + F ≤ 900) (bx : fb E x) (by' : fb F y) (hL : L + M ≤ 1000) (hx : lb L x) (hy : lb M y) : lb (L + M) (FP.dmul x y) := by
  obtain ⟨t0, c0, q0, r1, -⟩ := fb_mul hE bx by'
  obtain ⟨s, c, q, h1, h2⟩ := hx
  obtain ⟨t, d, r, h3, h4⟩ := hy
  have f1 := fit64 h1
  have f2 := fit64 h3
  have hv := FP.Core.val64_dmul x y
  rw [h1, h3] at hv
  simp only [FP.Core.exactProduct, FP.Core.round] at hv
  have z : ∀ A, A = 0 → FP.Core.roundRatio FP.Core.b64 (s != t) A 1 (q + r) = .fin (s != t) 0 FP.Core.b64.qmin := by
    intro A hA
    unfold FP.Core.roundRatio
    rw [if_pos hA]
  rcases h2 with h2 | h2
  · exact ⟨_, _, _, hv.trans (z _ (by rw [h2, Nat.zero_mul])), Or.inl rfl⟩
  rcases h4 with h4 | h4
  · exact ⟨_, _, _, hv.trans (z _ (by rw [h4, Nat.mul_zero])), Or.inl rfl⟩
  refine ⟨t0, c0, q0, r1, Or.inr ?_⟩
  have := rr_ge (P := 1) (k := 1074 - (L + M)) hv r1 (by decide) (by omega) (by decide) (by omega) (by
    have e1 : c * d * 2 ^ (q + r + 3000).toNat = (c * 2 ^ (q + 1074).toNat) * (d * 2 ^ (r + 1074).toNat) * 2 ^ 852 := by
      rw [show (q + r + 3000).toNat = (q + 1074).toNat + ((r + 1074).toNat + 852) by omega, Nat.pow_add, Nat.pow_add]
      exact (mul4 _ _ _ _ _).symm
    rw [e1]
    refine Nat.le_trans ?_ (Nat.mul_le_mul_right _ (Nat.mul_le_mul h2 h4))
    rw [Nat.one_mul, Nat.mul_one, ← Nat.pow_add, ← Nat.pow_add, ← Nat.pow_add]
    exact Nat.pow_le_pow_right (by decide) (by omega))
  rw [Nat.one_mul] at this
  exact this
/-- whole numbers in units -/
theorem int_un {k : Int} {y : UInt64} (h : FP.Core.DInt k y) : ∃ s c q, FP.Core.val64 y = .fin s c q ∧ c * 2 ^ (q + 1074).toNat = k.natAbs * 2 ^ 1074 ∧ (0 < k → s = false) := by
  unfold FP.Core.DInt at h
  cases hq : FP.Core.val64 y with
  | nan => rw [hq] at h; exact h.elim
  | inf s => rw [hq] at h; exact h.elim
  | fin s c q =>
    have f1 := fit64 hq
    rw [hq] at h
    have hi : FP.Core.signed s (c * 2 ^ q.toNat) = k * ((2 ^ (-q).toNat : Nat) : Int) := h
    refine ⟨s, c, q, rfl, ?_, ?_⟩
    · have h1 := congrArg Int.natAbs hi
      rw [Int.natAbs_mul] at h1
      have h2 : (FP.Core.signed s (c * 2 ^ q.toNat)).natAbs = c * 2 ^ q.toNat := by
        unfold FP.Core.signed
        split <;> omega
      rw [h2, Int.natAbs_natCast] at h1
      by_cases hq0 : 0 ≤ q
      · rw [show (-q).toNat = 0 by omega, Nat.pow_zero, Nat.mul_one] at h1
        rw [show (q + 1074).toNat = q.toNat + 1074 by omega, Nat.pow_add, ← Nat.mul_assoc, h1]
      · rw [show q.toNat = 0 by omega, Nat.pow_zero, Nat.mul_one] at h1
        rw [h1, Nat.mul_assoc, ← Nat.pow_add]
        congr 2
        omega
    · intro hk
      cases s with
      | false => rfl
      | true =>
        have p : 0 < k * ((2 ^ (-q).toNat : Nat) : Int) := Int.mul_pos hk (Int.natCast_pos.mpr (Nat.two_pow_pos _))
        rw [← hi] at p
        unfold FP.Core.signed at p
        simp only [if_true] at p
        omega
theorem ac5 (a b c e : Nat) : a * b * (c * e) = e * (a * c * b) := by ac_rfl
theorem lb_quo0 {v k : Int} {x y : UInt64} (hx : FP.Core.DInt v x) (hy : FP.Core.DInt k y) (h0 : 0 < k) (hk : k ≤ 2 ^ 20) (hv2 : v.natAbs ≤ 2 ^ 40) : (v ≠ 0 → ∃ s c q, FP.Core.val64 (FP.ddiv x y) = .fin s c q ∧ 2 ^ (1074 - 20) ≤ c * 2 ^ (q + 1074).toNat) ∧ lb 20 (FP.ddiv x y) := by
  obtain ⟨s, c, q, x1, x2, x3⟩ := int_un hx
  obtain ⟨t, d, r, y1, y2, y3⟩ := int_un hy
  have f1 := fit64 x1
  have f2 := fit64 y1
  have hd : d ≠ 0 := by
    intro h
    rw [h, Nat.zero_mul] at y2
    have := Nat.mul_pos (show 0 < k.natAbs by omega) (Nat.two_pow_pos 1074)
    omega
  have bx : fb 40 x := ⟨s, c, q, x1, by rw [x2, Nat.pow_add]; exact Nat.mul_le_mul_right _ hv2⟩
  have gy : ge1 y := ⟨t, d, r, y1, by rw [y2]; exact Nat.le_mul_of_pos_left _ (by omega)⟩
  obtain ⟨t0, c0, q0, r1, -⟩ := fb_div (by omega) bx gy
  have hv := FP.Core.val64_ddiv x y
  rw [x1, y1] at hv
  simp only [FP.Core.quotient, if_neg hd] at hv
  by_cases hv0 : v = 0
  · rw [hv0] at x2
    have hc : c = 0 := by
      have : c * 2 ^ (q + 1074).toNat = 0 := by rw [x2, Int.natAbs_zero, Nat.zero_mul]
      rcases Nat.mul_eq_zero.mp this with h | h
      · exact h
      · exact absurd h (Nat.ne_of_gt (Nat.two_pow_pos _))
    refine ⟨fun h => absurd hv0 h, s != t, 0, FP.Core.b64.qmin, hv.trans ?_, Or.inl rfl⟩
    unfold FP.Core.roundRatio
    rw [if_pos hc]
  · have key : 2 ^ (1074 - 20) ≤ c0 * 2 ^ (q0 + 1074).toNat := ?_
    refine ⟨fun _ => ⟨t0, c0, q0, r1, key⟩, t0, c0, q0, r1, Or.inr key⟩
    have := rr_ge (P := 1) (k := 1054) hv r1 (by omega) (by omega) (by decide) (by decide) (by
      have p : 0 < 2 ^ (r + 1074).toNat := Nat.two_pow_pos _
      refine Nat.le_of_mul_le_mul_right ?_ p
      have a1 : c * 2 ^ (q - r + 3000).toNat * 2 ^ (r + 1074).toNat = c * 2 ^ (q + 1074).toNat * 2 ^ 3000 := by
        rw [Nat.mul_assoc, Nat.mul_assoc, ← Nat.pow_add, ← Nat.pow_add]
        congr 2; omega
      have a2 : 1 * 2 ^ 1054 * 2 ^ 1926 * d * 2 ^ (r + 1074).toNat = 2 ^ 2980 * (d * 2 ^ (r + 1074).toNat) := by
        rw [Nat.one_mul, ← Nat.pow_add, Nat.mul_assoc]
      rw [a1, a2, x2, y2]
      have a3 : v.natAbs * 2 ^ 1074 * 2 ^ 3000 = 2 ^ 2980 * (v.natAbs * 2 ^ 20 * 2 ^ 1074) := by
        rw [show (3000 : Nat) = 20 + 2980 from rfl, Nat.pow_add 2 20 2980]
        exact ac5 _ _ _ _
      rw [a3]
      refine Nat.mul_le_mul_left _ (Nat.mul_le_mul_right _ ?_)
      exact Nat.le_trans (show k.natAbs ≤ 2 ^ 20 by omega) (Nat.le_mul_of_pos_left _ (by omega)))
    rw [Nat.one_mul] at this
    exact this
theorem lb_quo {v k : Int} {x y : UInt64} (hx : FP.Core.DInt v x) (hy : FP.Core.DInt k y) (h0 : 0 < k) (hk : k ≤ 2 ^ 20) (hv2 : v.natAbs ≤ 2 ^ 40) : lb 20 (FP.ddiv x y) := (lb_quo0 hx hy h0 hk hv2).2
theorem dint_i2d (v : Int32) : FP.Core.DInt v.toInt (FP.i2d v) := FP.Core.i2d_int v
theorem dint_of {x : UInt64} {v : Int32} (h : x = FP.i2d v) : FP.Core.DInt v.toInt x := by rw [h]; exact dint_i2d v
theorem d_100 : FP.Core.DInt 100 4636737291354636288 := dint_of (v := 100) (by decide +kernel)
theorem d_1000 : FP.Core.DInt 1000 4652007308841189376 := dint_of (v := 1000) (by decide +kernel)
theorem lb_100 (v : Int32) : lb 20 (FP.ddiv (FP.i2d v) 4636737291354636288) := lb_quo (dint_i2d v) d_100 (by decide) (by decide) (Nat.le_trans (i32_abs v) (by decide))
theorem lb_1000 (v : Int32) : lb 20 (FP.ddiv (FP.i2d v) 4652007308841189376) := lb_quo (dint_i2d v) d_1000 (by decide) (by decide) (Nat.le_trans (i32_abs v) (by decide))
def lbOk (L : Nat) (x : UInt64) : Bool := match FP.Core.val64 x with
  | .fin _ c q => decide (c = 0 ∨ 2 ^ (1074 - L) ≤ c * 2 ^ (q + 1074).toNat)
  | _ => false
theorem lb_c {L : Nat} {x : UInt64} (h : lbOk L x = true) : lb L x := by
  unfold lbOk at h
  split at h
  next s c q hq => exact ⟨s, c, q, hq, of_decide_eq_true h⟩
  next => cases h
theorem lb_neg {L : Nat} {x : UInt64} (h : lb L x) : lb L (FP.dneg x) := by
  obtain ⟨s, c, q, h1, h2⟩ := h
  exact ⟨!s, c, q, by rw [FP.val64_dneg, h1]; rfl, h2⟩
theorem lb_cosC {k : Nat} (hk : k ≤ 16384) : lb 57 (cosC (nI k)) := by
  rcases Nat.lt_or_ge k 16384 with h | h
  · obtain ⟨lo, h0, c, q, h1, h2, -⟩ := cosC_pos h
    refine ⟨false, c, q, h1, Or.inr ?_⟩
    refine Nat.le_trans ?_ h2
    refine Nat.le_trans (Nat.pow_le_pow_right (n := 2) (j := 1034) (by decide) (by decide)) (Nat.le_mul_of_pos_left _ h0)
  · rw [show k = 16384 by omega]
    exact lb_c (by decide +kernel)
theorem lb_cosN {n : Int32} (h0 : 0 ≤ n.toInt) (h1 : n.toInt < 65536) : lb 57 (cosN n) := by
  have key : ∀ m : Int32, 0 ≤ m.toInt → m.toInt ≤ 16384 → lb 57 (cosC m) := by
    intro m h2 h3
    have e : m = nI m.toInt.toNat := by
      apply Int32.toInt_inj.mp
      rw [nI_toInt (by omega)]
      omega
    rw [e]
    exact lb_cosC (by omega)
  have s1 : ∀ z : Int32, 0 ≤ z.toInt → z.toInt ≤ 65536 → (65536 - z).toInt = 65536 - z.toInt := by
    intro z a b
    rw [Int32.toInt_sub, show ((65536 : Int32)).toInt = 65536 by decide, Int.bmod_eq_of_le (by omega) (by omega)]
  have s2 : ∀ z : Int32, 0 ≤ z.toInt → z.toInt ≤ 65536 → (32768 - z).toInt = 32768 - z.toInt := by
    intro z a b
    rw [Int32.toInt_sub, show ((32768 : Int32)).toInt = 32768 by decide, Int.bmod_eq_of_le (by omega) (by omega)]
  have n1 : ((32768 : Int32)).toInt = 32768 := by decide
  have n2 : ((16384 : Int32)).toInt = 16384 := by decide
  by_cases c1 : n ≤ 32768
  · by_cases c2 : n ≤ 16384
    · rw [cosN_a c1 c2]
      rw [i32_le, n2] at c2
      exact key _ h0 c2
    · rw [cosN_b c1 c2]
      rw [i32_le, n1] at c1
      rw [i32_le, n2] at c2
      exact lb_neg (key _ (by rw [s2 _ (by omega) (by omega)]; omega) (by rw [s2 _ (by omega) (by omega)]; omega))
  · by_cases c2 : 65536 - n ≤ 16384
    · rw [cosN_c c1 c2]
      rw [i32_le, n2, s1 _ (by omega) (by omega)] at c2
      exact key _ (by rw [s1 _ (by omega) (by omega)]; omega) (by rw [s1 _ (by omega) (by omega)]; omega)
    · rw [cosN_d c1 c2]
      rw [i32_le, n1] at c1
      rw [i32_le, n2, s1 _ (by omega) (by omega)] at c2
      exact lb_neg (key _ (by rw [s2 _ (by rw [s1 _ (by omega) (by omega)]; omega) (by rw [s1 _ (by omega) (by omega)]; omega), s1 _ (by omega) (by omega)]; omega) (by rw [s2 _ (by rw [s1 _ (by omega) (by omega)]; omega) (by rw [s1 _ (by omega) (by omega)]; omega), s1 _ (by omega) (by omega)]; omega))
theorem lb_cosM (a : Int32) : lb 57 (cosN (modN a)) := by
  rw [modN_val]
  exact lb_cosN (by rw [nI_toInt (by omega)]; omega) (by rw [nI_toInt (by omega)]; omega)
theorem wv_grd (v a : Int32) : grd (FP.dmul (FP.ddiv (FP.i2d v) 4652007308841189376) (cosN (modN a))) := by
  have h := lb_mul (E := 31) (F := 252) (L := 20) (M := 57) (by omega) (sz_fb v) (cosN_fb (modN a)) (by omega) (lb_1000 v) (lb_cosM a)
  exact lb_gr (by omega) h
theorem hG_grd (mean : Int32) (sz an : Nat → Int32) : ∀ w, w ≤ 500 → grd (hG mean sz (fun i => modN (an i)) w)
  | 0, _ => lb_gr (by decide) (lb_100 mean)
  | w + 1, h => grd_add (E := 283 + w) (by omega) (hG_fb mean sz _ w (by omega)) (fb_mono (by omega) (wv_fb _ _)) (hG_grd mean sz an w (by omega)) (wv_grd _ _)
/-- a SURGE is not the negative zero -/
theorem sg_nz {E : Nat} {x f : UInt64} {v k : Int} {a b : UInt64} (hE : E ≤ 800) (bx : fb E x) (gx : grd x) (zx : nz x) (ha : FP.Core.DInt v a) (hb : FP.Core.DInt k b) (hv : 0 < v) (hv2 : v ≤ 2 ^ 40) (hk : 0 < k) (hk2 : k ≤ 2 ^ 20) (hf : f = FP.ddiv a b) : nz (FP.dmul x f) ∧ fb (E + 40) (FP.dmul x f) ∧ fb 40 f := by
  obtain ⟨s, c, q, x1, x2, x3⟩ := int_un ha
  obtain ⟨t, d, r, y1, y2, y3⟩ := int_un hb
  have hd : d ≠ 0 := by
    intro h
    rw [h, Nat.zero_mul] at y2
    have := Nat.mul_pos (show 0 < k.natAbs by omega) (Nat.two_pow_pos 1074)
    omega
  have ba : fb 40 a := ⟨s, c, q, x1, by rw [x2, Nat.pow_add]; exact Nat.mul_le_mul_right _ (by omega)⟩
  have gb : ge1 b := ⟨t, d, r, y1, by rw [y2]; exact Nat.le_mul_of_pos_left _ (by omega)⟩
  have bf : fb 40 f := by rw [hf]; exact fb_div (by omega) ba gb
  have lf : ∃ s c q, FP.Core.val64 f = .fin s c q ∧ 2 ^ (1074 - 20) ≤ c * 2 ^ (q + 1074).toNat := by rw [hf]; exact (lb_quo0 ha hb hk hk2 (by omega)).1 (by omega)
  have hv := FP.Core.val64_ddiv a b
  rw [x1, y1] at hv
  simp only [FP.Core.quotient, if_neg hd] at hv
  rw [x3 (by assumption), y3 hk] at hv
  refine ⟨?_, fb_mul (by omega) bx bf, bf⟩
  obtain ⟨s1, c1, q1, f1, f2⟩ := lf
  have hs1 : s1 = false := by
    have hf2 : FP.Core.val64 f = FP.Core.roundRatio FP.Core.b64 false c d (q - r) := by rw [hf]; exact hv
    rw [f1] at hf2
    rcases FP.Core.roundRatio_cases FP.Core.b64 false c d (q - r) with ⟨c9, q9, hR⟩ | hR
    · rw [hR] at hf2
      injection hf2 with h1 _ _
    · rw [hR] at hf2
      cases hf2
  subst hs1
  obtain ⟨s2, c2, q2, g1, g2⟩ := grd_lb gx
  have w1 := fit64 f1
  have w2 := fit64 g1
  have hm := FP.Core.val64_dmul x f
  rw [g1, f1] at hm
  simp only [FP.Core.exactProduct, FP.Core.round] at hm
  rcases g2 with g2 | g2
  · have hs2 : s2 = false := by
      cases s2 with
      | false => rfl
      | true =>
        have : q2 = -1074 := by omega
        rw [g2, this, ← v_m0] at g1
        exact absurd (FP.Core.val64_inj (by rw [g1, v_m0]; intro h; cases h) g1) zx
    intro h3
    have hm2 : FP.Core.val64 9223372036854775808 = _ := (congrArg FP.Core.val64 h3.symm).trans hm
    rw [v_m0, g2, Nat.zero_mul, hs2] at hm2
    unfold FP.Core.roundRatio at hm2
    rw [if_pos rfl] at hm2
    injection hm2 with h4 _ _
    exact absurd h4 (by decide)
  · refine nz_of (rr_nz (r := FP.dmul x f) hm (by decide) (by omega) ?_)
    have e1 : c2 * c1 * 2 ^ (q2 + q1 + 3000).toNat = (c2 * 2 ^ (q2 + 1074).toNat) * (c1 * 2 ^ (q1 + 1074).toNat) * 2 ^ 852 := by
      rw [show (q2 + q1 + 3000).toNat = (q2 + 1074).toNat + ((q1 + 1074).toNat + 852) by omega, Nat.pow_add, Nat.pow_add]
      exact (mul4 _ _ _ _ _).symm
    rw [e1]
    refine Nat.le_trans ?_ (Nat.mul_le_mul_right _ (Nat.mul_le_mul g2 f2))
    rw [Nat.one_mul, ← Nat.pow_add, ← Nat.pow_add]
    exact Nat.pow_le_pow_right (by decide) (by decide)
end
