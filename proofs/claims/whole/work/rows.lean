section
-- ===== PART A: goes FIRST, ahead of the names: the tables' words, and 'selects' of the private methods out of them =====
/-- a private method of a class that the tables say can be made, by its rows of tables_1 -/
def lw_okq (q : MethodName × Nat) : Prop := (q.1.cls ≠ "java/lang/invoke/MethodHandle" ∧ q.1.cls ≠ "java/lang/invoke/VarHandle") ∧ Cond.instantiable q.1.cls q.2 ∈ tables_1 ∧ Cond.privateMethod q.1 ∈ tables_1 ∧ Cond.instanceMethod q.1 ∈ tables_1
theorem lw_p0 : lw_okq (⟨"TideDesk", "isPast", "(I)Z"⟩, 14) := ⟨⟨by decide +kernel, by decide +kernel⟩, List.mem_of_getElem? (i := 18) (by decide +kernel), List.mem_of_getElem? (i := 574) (by decide +kernel), List.mem_of_getElem? (i := 575) (by decide +kernel)⟩
theorem lw_p1 : lw_okq (⟨"TideDesk", "isGauge", "(I)Z"⟩, 14) := ⟨⟨by decide +kernel, by decide +kernel⟩, List.mem_of_getElem? (i := 18) (by decide +kernel), List.mem_of_getElem? (i := 617) (by decide +kernel), List.mem_of_getElem? (i := 618) (by decide +kernel)⟩
theorem lw_p2 : lw_okq (⟨"TideDesk$Gauges", "keepBySize", "(D)V"⟩, 15) := ⟨⟨by decide +kernel, by decide +kernel⟩, List.mem_of_getElem? (i := 81) (by decide +kernel), List.mem_of_getElem? (i := 677) (by decide +kernel), List.mem_of_getElem? (i := 678) (by decide +kernel)⟩
theorem lw_p3 : lw_okq (⟨"TideDesk$Shoals", "addBed", "(IIII)V"⟩, 10) := ⟨⟨by decide +kernel, by decide +kernel⟩, List.mem_of_getElem? (i := 145) (by decide +kernel), List.mem_of_getElem? (i := 701) (by decide +kernel), List.mem_of_getElem? (i := 702) (by decide +kernel)⟩
theorem lw_p4 : lw_okq (⟨"TideDesk", "isShoal", "(I)Z"⟩, 14) := ⟨⟨by decide +kernel, by decide +kernel⟩, List.mem_of_getElem? (i := 18) (by decide +kernel), List.mem_of_getElem? (i := 709) (by decide +kernel), List.mem_of_getElem? (i := 710) (by decide +kernel)⟩
theorem lw_p5 : lw_okq (⟨"TideDesk$Shoals", "bedInForce", "(III)I"⟩, 10) := ⟨⟨by decide +kernel, by decide +kernel⟩, List.mem_of_getElem? (i := 145) (by decide +kernel), List.mem_of_getElem? (i := 725) (by decide +kernel), List.mem_of_getElem? (i := 726) (by decide +kernel)⟩
theorem lw_p6 : lw_okq (⟨"TideDesk$Waters", "halve", "(IIZI)I"⟩, 8) := ⟨⟨by decide +kernel, by decide +kernel⟩, List.mem_of_getElem? (i := 186) (by decide +kernel), List.mem_of_getElem? (i := 766) (by decide +kernel), List.mem_of_getElem? (i := 767) (by decide +kernel)⟩
theorem lw_p7 : lw_okq (⟨"TideDesk$Waters", "keep", "(IIZI)V"⟩, 8) := ⟨⟨by decide +kernel, by decide +kernel⟩, List.mem_of_getElem? (i := 186) (by decide +kernel), List.mem_of_getElem? (i := 770) (by decide +kernel), List.mem_of_getElem? (i := 771) (by decide +kernel)⟩
theorem lw_p8 : lw_okq (⟨"TideDesk$Waters", "nearestHigh", "(II)I"⟩, 8) := ⟨⟨by decide +kernel, by decide +kernel⟩, List.mem_of_getElem? (i := 186) (by decide +kernel), List.mem_of_getElem? (i := 813) (by decide +kernel), List.mem_of_getElem? (i := 814) (by decide +kernel)⟩
theorem lw_p9 : lw_okq (⟨"TideDesk$Ships", "deepOf", "(I)I"⟩, 11) := ⟨⟨by decide +kernel, by decide +kernel⟩, List.mem_of_getElem? (i := 223) (by decide +kernel), List.mem_of_getElem? (i := 832) (by decide +kernel), List.mem_of_getElem? (i := 833) (by decide +kernel)⟩
theorem lw_p10 : lw_okq (⟨"TideDesk", "isShipOrNothing", "(I)Z"⟩, 14) := ⟨⟨by decide +kernel, by decide +kernel⟩, List.mem_of_getElem? (i := 18) (by decide +kernel), List.mem_of_getElem? (i := 839) (by decide +kernel), List.mem_of_getElem? (i := 840) (by decide +kernel)⟩
theorem lw_p11 : lw_okq (⟨"TideDesk", "isShip", "(I)Z"⟩, 14) := ⟨⟨by decide +kernel, by decide +kernel⟩, List.mem_of_getElem? (i := 18) (by decide +kernel), List.mem_of_getElem? (i := 847) (by decide +kernel), List.mem_of_getElem? (i := 848) (by decide +kernel)⟩
theorem lw_p12 : lw_okq (⟨"TideDesk$Ships", "pairAnswer", "(III)I"⟩, 11) := ⟨⟨by decide +kernel, by decide +kernel⟩, List.mem_of_getElem? (i := 223) (by decide +kernel), List.mem_of_getElem? (i := 855) (by decide +kernel), List.mem_of_getElem? (i := 856) (by decide +kernel)⟩
theorem lw_p13 : lw_okq (⟨"TideDesk$Ships", "begin", "(I)V"⟩, 11) := ⟨⟨by decide +kernel, by decide +kernel⟩, List.mem_of_getElem? (i := 223) (by decide +kernel), List.mem_of_getElem? (i := 862) (by decide +kernel), List.mem_of_getElem? (i := 863) (by decide +kernel)⟩
theorem lw_p14 : lw_okq (⟨"TideDesk$Ships", "needOf", "(I)I"⟩, 11) := ⟨⟨by decide +kernel, by decide +kernel⟩, List.mem_of_getElem? (i := 223) (by decide +kernel), List.mem_of_getElem? (i := 870) (by decide +kernel), List.mem_of_getElem? (i := 871) (by decide +kernel)⟩
theorem lw_p15 : lw_okq (⟨"TideDesk$Ships", "keelOf", "(I)I"⟩, 11) := ⟨⟨by decide +kernel, by decide +kernel⟩, List.mem_of_getElem? (i := 223) (by decide +kernel), List.mem_of_getElem? (i := 878) (by decide +kernel), List.mem_of_getElem? (i := 879) (by decide +kernel)⟩
def lw_privs_1 : List (MethodName × Nat) := [(⟨"TideDesk", "isPast", "(I)Z"⟩, 14), (⟨"TideDesk", "isGauge", "(I)Z"⟩, 14), (⟨"TideDesk$Gauges", "keepBySize", "(D)V"⟩, 15), (⟨"TideDesk$Shoals", "addBed", "(IIII)V"⟩, 10), (⟨"TideDesk", "isShoal", "(I)Z"⟩, 14), (⟨"TideDesk$Shoals", "bedInForce", "(III)I"⟩, 10), (⟨"TideDesk$Waters", "halve", "(IIZI)I"⟩, 8), (⟨"TideDesk$Waters", "keep", "(IIZI)V"⟩, 8), (⟨"TideDesk$Waters", "nearestHigh", "(II)I"⟩, 8), (⟨"TideDesk$Ships", "deepOf", "(I)I"⟩, 11), (⟨"TideDesk", "isShipOrNothing", "(I)Z"⟩, 14), (⟨"TideDesk", "isShip", "(I)Z"⟩, 14), (⟨"TideDesk$Ships", "pairAnswer", "(III)I"⟩, 11), (⟨"TideDesk$Ships", "begin", "(I)V"⟩, 11), (⟨"TideDesk$Ships", "needOf", "(I)I"⟩, 11), (⟨"TideDesk$Ships", "keelOf", "(I)I"⟩, 11)]
theorem lw_r1 : ∀ q ∈ lw_privs_1, lw_okq q := List.forall_mem_cons.mpr ⟨lw_p0, List.forall_mem_cons.mpr ⟨lw_p1, List.forall_mem_cons.mpr ⟨lw_p2, List.forall_mem_cons.mpr ⟨lw_p3, List.forall_mem_cons.mpr ⟨lw_p4, List.forall_mem_cons.mpr ⟨lw_p5, List.forall_mem_cons.mpr ⟨lw_p6, List.forall_mem_cons.mpr ⟨lw_p7, List.forall_mem_cons.mpr ⟨lw_p8, List.forall_mem_cons.mpr ⟨lw_p9, List.forall_mem_cons.mpr ⟨lw_p10, List.forall_mem_cons.mpr ⟨lw_p11, List.forall_mem_cons.mpr ⟨lw_p12, List.forall_mem_cons.mpr ⟨lw_p13, List.forall_mem_cons.mpr ⟨lw_p14, List.forall_mem_cons.mpr ⟨lw_p15, fun _ h => absurd h List.not_mem_nil⟩⟩⟩⟩⟩⟩⟩⟩⟩⟩⟩⟩⟩⟩⟩⟩
theorem lw_p16 : lw_okq (⟨"TideDesk$Ships", "paceOf", "(I)I"⟩, 11) := ⟨⟨by decide +kernel, by decide +kernel⟩, List.mem_of_getElem? (i := 223) (by decide +kernel), List.mem_of_getElem? (i := 882) (by decide +kernel), List.mem_of_getElem? (i := 883) (by decide +kernel)⟩
theorem lw_p17 : lw_okq (⟨"TideDesk$Ships", "patienceOf", "(I)I"⟩, 11) := ⟨⟨by decide +kernel, by decide +kernel⟩, List.mem_of_getElem? (i := 223) (by decide +kernel), List.mem_of_getElem? (i := 886) (by decide +kernel), List.mem_of_getElem? (i := 887) (by decide +kernel)⟩
theorem lw_p18 : lw_okq (⟨"TideDesk$Voyages", "tryLeg", "(III)I"⟩, 11) := ⟨⟨by decide +kernel, by decide +kernel⟩, List.mem_of_getElem? (i := 295) (by decide +kernel), List.mem_of_getElem? (i := 1013) (by decide +kernel), List.mem_of_getElem? (i := 1014) (by decide +kernel)⟩
theorem lw_p19 : lw_okq (⟨"TideDesk$Passages", "meetsAny", "(I)Z"⟩, 17) := ⟨⟨by decide +kernel, by decide +kernel⟩, List.mem_of_getElem? (i := 395) (by decide +kernel), List.mem_of_getElem? (i := 1073) (by decide +kernel), List.mem_of_getElem? (i := 1074) (by decide +kernel)⟩
theorem lw_p20 : lw_okq (⟨"TideDesk$Passages", "meets", "(II)Z"⟩, 17) := ⟨⟨by decide +kernel, by decide +kernel⟩, List.mem_of_getElem? (i := 395) (by decide +kernel), List.mem_of_getElem? (i := 1077) (by decide +kernel), List.mem_of_getElem? (i := 1078) (by decide +kernel)⟩
theorem lw_p21 : lw_okq (⟨"TideDesk$Passages", "meetInLock", "(IIII)Z"⟩, 17) := ⟨⟨by decide +kernel, by decide +kernel⟩, List.mem_of_getElem? (i := 395) (by decide +kernel), List.mem_of_getElem? (i := 1081) (by decide +kernel), List.mem_of_getElem? (i := 1082) (by decide +kernel)⟩
theorem lw_p22 : lw_okq (⟨"TideDesk$Passages", "meetInReach", "(IIII)Z"⟩, 17) := ⟨⟨by decide +kernel, by decide +kernel⟩, List.mem_of_getElem? (i := 395) (by decide +kernel), List.mem_of_getElem? (i := 1085) (by decide +kernel), List.mem_of_getElem? (i := 1086) (by decide +kernel)⟩
theorem lw_p23 : lw_okq (⟨"TideDesk$Passages", "keepComing", "(I)V"⟩, 17) := ⟨⟨by decide +kernel, by decide +kernel⟩, List.mem_of_getElem? (i := 395) (by decide +kernel), List.mem_of_getElem? (i := 1089) (by decide +kernel), List.mem_of_getElem? (i := 1090) (by decide +kernel)⟩
theorem lw_p24 : lw_okq (⟨"TideDesk", "isPassage", "(I)Z"⟩, 14) := ⟨⟨by decide +kernel, by decide +kernel⟩, List.mem_of_getElem? (i := 18) (by decide +kernel), List.mem_of_getElem? (i := 1097) (by decide +kernel), List.mem_of_getElem? (i := 1098) (by decide +kernel)⟩
theorem lw_p25 : lw_okq (⟨"TideDesk$Passages", "holdLocks", "(I)Z"⟩, 17) := ⟨⟨by decide +kernel, by decide +kernel⟩, List.mem_of_getElem? (i := 395) (by decide +kernel), List.mem_of_getElem? (i := 1114) (by decide +kernel), List.mem_of_getElem? (i := 1115) (by decide +kernel)⟩
theorem lw_p26 : lw_okq (⟨"TideDesk$Passages", "askAtLast", "(I)I"⟩, 17) := ⟨⟨by decide +kernel, by decide +kernel⟩, List.mem_of_getElem? (i := 395) (by decide +kernel), List.mem_of_getElem? (i := 1118) (by decide +kernel), List.mem_of_getElem? (i := 1119) (by decide +kernel)⟩
theorem lw_p27 : lw_okq (⟨"TideDesk$Passages", "freeAll", "()V"⟩, 17) := ⟨⟨by decide +kernel, by decide +kernel⟩, List.mem_of_getElem? (i := 395) (by decide +kernel), List.mem_of_getElem? (i := 1122) (by decide +kernel), List.mem_of_getElem? (i := 1123) (by decide +kernel)⟩
theorem lw_p28 : lw_okq (⟨"TideDeskModel", "isKnowing", "(II)Z"⟩, 91) := ⟨⟨by decide +kernel, by decide +kernel⟩, List.mem_of_getElem? (i := 1146) (by decide +kernel), List.mem_of_getElem? (i := 1484) (by decide +kernel), List.mem_of_getElem? (i := 1485) (by decide +kernel)⟩
theorem lw_p29 : lw_okq (⟨"TideDeskModel", "isFull", "()Z"⟩, 91) := ⟨⟨by decide +kernel, by decide +kernel⟩, List.mem_of_getElem? (i := 1146) (by decide +kernel), List.mem_of_getElem? (i := 1488) (by decide +kernel), List.mem_of_getElem? (i := 1489) (by decide +kernel)⟩
theorem lw_p30 : lw_okq (⟨"TideDeskModel", "rises", "(III)Z"⟩, 91) := ⟨⟨by decide +kernel, by decide +kernel⟩, List.mem_of_getElem? (i := 1146) (by decide +kernel), List.mem_of_getElem? (i := 1493) (by decide +kernel), List.mem_of_getElem? (i := 1494) (by decide +kernel)⟩
theorem lw_p31 : lw_okq (⟨"TideDeskModel", "inForce", "(III)I"⟩, 91) := ⟨⟨by decide +kernel, by decide +kernel⟩, List.mem_of_getElem? (i := 1146) (by decide +kernel), List.mem_of_getElem? (i := 1497) (by decide +kernel), List.mem_of_getElem? (i := 1498) (by decide +kernel)⟩
def lw_privs_2 : List (MethodName × Nat) := [(⟨"TideDesk$Ships", "paceOf", "(I)I"⟩, 11), (⟨"TideDesk$Ships", "patienceOf", "(I)I"⟩, 11), (⟨"TideDesk$Voyages", "tryLeg", "(III)I"⟩, 11), (⟨"TideDesk$Passages", "meetsAny", "(I)Z"⟩, 17), (⟨"TideDesk$Passages", "meets", "(II)Z"⟩, 17), (⟨"TideDesk$Passages", "meetInLock", "(IIII)Z"⟩, 17), (⟨"TideDesk$Passages", "meetInReach", "(IIII)Z"⟩, 17), (⟨"TideDesk$Passages", "keepComing", "(I)V"⟩, 17), (⟨"TideDesk", "isPassage", "(I)Z"⟩, 14), (⟨"TideDesk$Passages", "holdLocks", "(I)Z"⟩, 17), (⟨"TideDesk$Passages", "askAtLast", "(I)I"⟩, 17), (⟨"TideDesk$Passages", "freeAll", "()V"⟩, 17), (⟨"TideDeskModel", "isKnowing", "(II)Z"⟩, 91), (⟨"TideDeskModel", "isFull", "()Z"⟩, 91), (⟨"TideDeskModel", "rises", "(III)Z"⟩, 91), (⟨"TideDeskModel", "inForce", "(III)I"⟩, 91)]
theorem lw_r2 : ∀ q ∈ lw_privs_2, lw_okq q := List.forall_mem_cons.mpr ⟨lw_p16, List.forall_mem_cons.mpr ⟨lw_p17, List.forall_mem_cons.mpr ⟨lw_p18, List.forall_mem_cons.mpr ⟨lw_p19, List.forall_mem_cons.mpr ⟨lw_p20, List.forall_mem_cons.mpr ⟨lw_p21, List.forall_mem_cons.mpr ⟨lw_p22, List.forall_mem_cons.mpr ⟨lw_p23, List.forall_mem_cons.mpr ⟨lw_p24, List.forall_mem_cons.mpr ⟨lw_p25, List.forall_mem_cons.mpr ⟨lw_p26, List.forall_mem_cons.mpr ⟨lw_p27, List.forall_mem_cons.mpr ⟨lw_p28, List.forall_mem_cons.mpr ⟨lw_p29, List.forall_mem_cons.mpr ⟨lw_p30, List.forall_mem_cons.mpr ⟨lw_p31, fun _ h => absurd h List.not_mem_nil⟩⟩⟩⟩⟩⟩⟩⟩⟩⟩⟩⟩⟩⟩⟩⟩
theorem lw_p32 : lw_okq (⟨"TideDeskModel", "fails", "(I)I"⟩, 91) := ⟨⟨by decide +kernel, by decide +kernel⟩, List.mem_of_getElem? (i := 1146) (by decide +kernel), List.mem_of_getElem? (i := 1505) (by decide +kernel), List.mem_of_getElem? (i := 1506) (by decide +kernel)⟩
theorem lw_p33 : lw_okq (⟨"TideDeskModel", "isGauge", "(I)Z"⟩, 91) := ⟨⟨by decide +kernel, by decide +kernel⟩, List.mem_of_getElem? (i := 1146) (by decide +kernel), List.mem_of_getElem? (i := 1521) (by decide +kernel), List.mem_of_getElem? (i := 1522) (by decide +kernel)⟩
theorem lw_p34 : lw_okq (⟨"TideDeskModel", "momentOf", "(II)I"⟩, 91) := ⟨⟨by decide +kernel, by decide +kernel⟩, List.mem_of_getElem? (i := 1146) (by decide +kernel), List.mem_of_getElem? (i := 1525) (by decide +kernel), List.mem_of_getElem? (i := 1526) (by decide +kernel)⟩
theorem lw_p35 : lw_okq (⟨"TideDeskModel", "reads", "(II)I"⟩, 91) := ⟨⟨by decide +kernel, by decide +kernel⟩, List.mem_of_getElem? (i := 1146) (by decide +kernel), List.mem_of_getElem? (i := 1543) (by decide +kernel), List.mem_of_getElem? (i := 1544) (by decide +kernel)⟩
theorem lw_p36 : lw_okq (⟨"TideDeskModel", "surges", "(II)I"⟩, 91) := ⟨⟨by decide +kernel, by decide +kernel⟩, List.mem_of_getElem? (i := 1146) (by decide +kernel), List.mem_of_getElem? (i := 1566) (by decide +kernel), List.mem_of_getElem? (i := 1567) (by decide +kernel)⟩
theorem lw_p37 : lw_okq (⟨"TideDeskModel", "lay", "(III)V"⟩, 91) := ⟨⟨by decide +kernel, by decide +kernel⟩, List.mem_of_getElem? (i := 1146) (by decide +kernel), List.mem_of_getElem? (i := 1579) (by decide +kernel), List.mem_of_getElem? (i := 1580) (by decide +kernel)⟩
theorem lw_p38 : lw_okq (⟨"TideDeskModel", "isShoal", "(I)Z"⟩, 91) := ⟨⟨by decide +kernel, by decide +kernel⟩, List.mem_of_getElem? (i := 1146) (by decide +kernel), List.mem_of_getElem? (i := 1587) (by decide +kernel), List.mem_of_getElem? (i := 1588) (by decide +kernel)⟩
theorem lw_p39 : lw_okq (⟨"TideDeskModel", "goesDown", "(III)Z"⟩, 91) := ⟨⟨by decide +kernel, by decide +kernel⟩, List.mem_of_getElem? (i := 1146) (by decide +kernel), List.mem_of_getElem? (i := 1595) (by decide +kernel), List.mem_of_getElem? (i := 1596) (by decide +kernel)⟩
theorem lw_p40 : lw_okq (⟨"TideDeskModel", "flows", "(II)Z"⟩, 91) := ⟨⟨by decide +kernel, by decide +kernel⟩, List.mem_of_getElem? (i := 1146) (by decide +kernel), List.mem_of_getElem? (i := 1603) (by decide +kernel), List.mem_of_getElem? (i := 1604) (by decide +kernel)⟩
theorem lw_p41 : lw_okq (⟨"TideDeskModel", "heightAt", "(II)D"⟩, 91) := ⟨⟨by decide +kernel, by decide +kernel⟩, List.mem_of_getElem? (i := 1146) (by decide +kernel), List.mem_of_getElem? (i := 1611) (by decide +kernel), List.mem_of_getElem? (i := 1612) (by decide +kernel)⟩
theorem lw_p42 : lw_okq (⟨"TideDeskModel", "halved", "(IIIZ)I"⟩, 91) := ⟨⟨by decide +kernel, by decide +kernel⟩, List.mem_of_getElem? (i := 1146) (by decide +kernel), List.mem_of_getElem? (i := 1615) (by decide +kernel), List.mem_of_getElem? (i := 1616) (by decide +kernel)⟩
theorem lw_p43 : lw_okq (⟨"TideDeskModel", "isRange", "(II)Z"⟩, 91) := ⟨⟨by decide +kernel, by decide +kernel⟩, List.mem_of_getElem? (i := 1146) (by decide +kernel), List.mem_of_getElem? (i := 1627) (by decide +kernel), List.mem_of_getElem? (i := 1628) (by decide +kernel)⟩
theorem lw_p44 : lw_okq (⟨"TideDeskModel", "rangeOf", "(II)D"⟩, 91) := ⟨⟨by decide +kernel, by decide +kernel⟩, List.mem_of_getElem? (i := 1146) (by decide +kernel), List.mem_of_getElem? (i := 1631) (by decide +kernel), List.mem_of_getElem? (i := 1632) (by decide +kernel)⟩
theorem lw_p45 : lw_okq (⟨"TideDeskModel", "streams", "(II)I"⟩, 91) := ⟨⟨by decide +kernel, by decide +kernel⟩, List.mem_of_getElem? (i := 1146) (by decide +kernel), List.mem_of_getElem? (i := 1649) (by decide +kernel), List.mem_of_getElem? (i := 1650) (by decide +kernel)⟩
theorem lw_p46 : lw_okq (⟨"TideDeskModel", "isPart", "(I)Z"⟩, 91) := ⟨⟨by decide +kernel, by decide +kernel⟩, List.mem_of_getElem? (i := 1146) (by decide +kernel), List.mem_of_getElem? (i := 1657) (by decide +kernel), List.mem_of_getElem? (i := 1658) (by decide +kernel)⟩
theorem lw_p47 : lw_okq (⟨"TideDeskModel", "isShip", "(I)Z"⟩, 91) := ⟨⟨by decide +kernel, by decide +kernel⟩, List.mem_of_getElem? (i := 1146) (by decide +kernel), List.mem_of_getElem? (i := 1661) (by decide +kernel), List.mem_of_getElem? (i := 1662) (by decide +kernel)⟩
def lw_privs_3 : List (MethodName × Nat) := [(⟨"TideDeskModel", "fails", "(I)I"⟩, 91), (⟨"TideDeskModel", "isGauge", "(I)Z"⟩, 91), (⟨"TideDeskModel", "momentOf", "(II)I"⟩, 91), (⟨"TideDeskModel", "reads", "(II)I"⟩, 91), (⟨"TideDeskModel", "surges", "(II)I"⟩, 91), (⟨"TideDeskModel", "lay", "(III)V"⟩, 91), (⟨"TideDeskModel", "isShoal", "(I)Z"⟩, 91), (⟨"TideDeskModel", "goesDown", "(III)Z"⟩, 91), (⟨"TideDeskModel", "flows", "(II)Z"⟩, 91), (⟨"TideDeskModel", "heightAt", "(II)D"⟩, 91), (⟨"TideDeskModel", "halved", "(IIIZ)I"⟩, 91), (⟨"TideDeskModel", "isRange", "(II)Z"⟩, 91), (⟨"TideDeskModel", "rangeOf", "(II)D"⟩, 91), (⟨"TideDeskModel", "streams", "(II)I"⟩, 91), (⟨"TideDeskModel", "isPart", "(I)Z"⟩, 91), (⟨"TideDeskModel", "isShip", "(I)Z"⟩, 91)]
theorem lw_r3 : ∀ q ∈ lw_privs_3, lw_okq q := List.forall_mem_cons.mpr ⟨lw_p32, List.forall_mem_cons.mpr ⟨lw_p33, List.forall_mem_cons.mpr ⟨lw_p34, List.forall_mem_cons.mpr ⟨lw_p35, List.forall_mem_cons.mpr ⟨lw_p36, List.forall_mem_cons.mpr ⟨lw_p37, List.forall_mem_cons.mpr ⟨lw_p38, List.forall_mem_cons.mpr ⟨lw_p39, List.forall_mem_cons.mpr ⟨lw_p40, List.forall_mem_cons.mpr ⟨lw_p41, List.forall_mem_cons.mpr ⟨lw_p42, List.forall_mem_cons.mpr ⟨lw_p43, List.forall_mem_cons.mpr ⟨lw_p44, List.forall_mem_cons.mpr ⟨lw_p45, List.forall_mem_cons.mpr ⟨lw_p46, List.forall_mem_cons.mpr ⟨lw_p47, fun _ h => absurd h List.not_mem_nil⟩⟩⟩⟩⟩⟩⟩⟩⟩⟩⟩⟩⟩⟩⟩⟩
theorem lw_p48 : lw_okq (⟨"TideDeskModel", "asks", "(II)I"⟩, 91) := ⟨⟨by decide +kernel, by decide +kernel⟩, List.mem_of_getElem? (i := 1146) (by decide +kernel), List.mem_of_getElem? (i := 1669) (by decide +kernel), List.mem_of_getElem? (i := 1670) (by decide +kernel)⟩
theorem lw_p49 : lw_okq (⟨"TideDeskModel", "begins", "(I)V"⟩, 91) := ⟨⟨by decide +kernel, by decide +kernel⟩, List.mem_of_getElem? (i := 1146) (by decide +kernel), List.mem_of_getElem? (i := 1676) (by decide +kernel), List.mem_of_getElem? (i := 1677) (by decide +kernel)⟩
theorem lw_p50 : lw_okq (⟨"TideDeskModel", "asksOne", "(II)I"⟩, 91) := ⟨⟨by decide +kernel, by decide +kernel⟩, List.mem_of_getElem? (i := 1146) (by decide +kernel), List.mem_of_getElem? (i := 1680) (by decide +kernel), List.mem_of_getElem? (i := 1681) (by decide +kernel)⟩
theorem lw_p51 : lw_okq (⟨"TideDeskModel", "needOf", "(I)V"⟩, 91) := ⟨⟨by decide +kernel, by decide +kernel⟩, List.mem_of_getElem? (i := 1146) (by decide +kernel), List.mem_of_getElem? (i := 1684) (by decide +kernel), List.mem_of_getElem? (i := 1685) (by decide +kernel)⟩
theorem lw_p52 : lw_okq (⟨"TideDeskModel", "keelOf", "(I)V"⟩, 91) := ⟨⟨by decide +kernel, by decide +kernel⟩, List.mem_of_getElem? (i := 1146) (by decide +kernel), List.mem_of_getElem? (i := 1688) (by decide +kernel), List.mem_of_getElem? (i := 1689) (by decide +kernel)⟩
theorem lw_p53 : lw_okq (⟨"TideDeskModel", "paceOf", "(I)I"⟩, 91) := ⟨⟨by decide +kernel, by decide +kernel⟩, List.mem_of_getElem? (i := 1146) (by decide +kernel), List.mem_of_getElem? (i := 1692) (by decide +kernel), List.mem_of_getElem? (i := 1693) (by decide +kernel)⟩
theorem lw_p54 : lw_okq (⟨"TideDeskModel", "patienceOf", "(I)V"⟩, 91) := ⟨⟨by decide +kernel, by decide +kernel⟩, List.mem_of_getElem? (i := 1146) (by decide +kernel), List.mem_of_getElem? (i := 1696) (by decide +kernel), List.mem_of_getElem? (i := 1697) (by decide +kernel)⟩
theorem lw_p55 : lw_okq (⟨"TideDeskModel", "isOf", "(II)Z"⟩, 91) := ⟨⟨by decide +kernel, by decide +kernel⟩, List.mem_of_getElem? (i := 1146) (by decide +kernel), List.mem_of_getElem? (i := 1712) (by decide +kernel), List.mem_of_getElem? (i := 1713) (by decide +kernel)⟩
theorem lw_p56 : lw_okq (⟨"TideDeskModel", "stands", "(II)I"⟩, 91) := ⟨⟨by decide +kernel, by decide +kernel⟩, List.mem_of_getElem? (i := 1146) (by decide +kernel), List.mem_of_getElem? (i := 1727) (by decide +kernel), List.mem_of_getElem? (i := 1728) (by decide +kernel)⟩
theorem lw_p57 : lw_okq (⟨"TideDeskModel", "takes", "(II)Z"⟩, 91) := ⟨⟨by decide +kernel, by decide +kernel⟩, List.mem_of_getElem? (i := 1146) (by decide +kernel), List.mem_of_getElem? (i := 1731) (by decide +kernel), List.mem_of_getElem? (i := 1732) (by decide +kernel)⟩
theorem lw_p58 : lw_okq (⟨"TideDeskModel", "isStarted", "(I)Z"⟩, 91) := ⟨⟨by decide +kernel, by decide +kernel⟩, List.mem_of_getElem? (i := 1146) (by decide +kernel), List.mem_of_getElem? (i := 1756) (by decide +kernel), List.mem_of_getElem? (i := 1757) (by decide +kernel)⟩
theorem lw_p59 : lw_okq (⟨"TideDeskModel", "looks", "(III)I"⟩, 91) := ⟨⟨by decide +kernel, by decide +kernel⟩, List.mem_of_getElem? (i := 1146) (by decide +kernel), List.mem_of_getElem? (i := 1783) (by decide +kernel), List.mem_of_getElem? (i := 1784) (by decide +kernel)⟩
theorem lw_p60 : lw_okq (⟨"TideDeskModel", "passes", "(IIIZ)I"⟩, 91) := ⟨⟨by decide +kernel, by decide +kernel⟩, List.mem_of_getElem? (i := 1146) (by decide +kernel), List.mem_of_getElem? (i := 1787) (by decide +kernel), List.mem_of_getElem? (i := 1788) (by decide +kernel)⟩
theorem lw_p61 : lw_okq (⟨"TideDeskModel", "plans", "(I)V"⟩, 91) := ⟨⟨by decide +kernel, by decide +kernel⟩, List.mem_of_getElem? (i := 1146) (by decide +kernel), List.mem_of_getElem? (i := 1812) (by decide +kernel), List.mem_of_getElem? (i := 1813) (by decide +kernel)⟩
theorem lw_p62 : lw_okq (⟨"TideDeskModel", "isFree", "(I)Z"⟩, 91) := ⟨⟨by decide +kernel, by decide +kernel⟩, List.mem_of_getElem? (i := 1146) (by decide +kernel), List.mem_of_getElem? (i := 1816) (by decide +kernel), List.mem_of_getElem? (i := 1817) (by decide +kernel)⟩
theorem lw_p63 : lw_okq (⟨"TideDeskModel", "isWith", "(II)Z"⟩, 91) := ⟨⟨by decide +kernel, by decide +kernel⟩, List.mem_of_getElem? (i := 1146) (by decide +kernel), List.mem_of_getElem? (i := 1820) (by decide +kernel), List.mem_of_getElem? (i := 1821) (by decide +kernel)⟩
def lw_privs_4 : List (MethodName × Nat) := [(⟨"TideDeskModel", "asks", "(II)I"⟩, 91), (⟨"TideDeskModel", "begins", "(I)V"⟩, 91), (⟨"TideDeskModel", "asksOne", "(II)I"⟩, 91), (⟨"TideDeskModel", "needOf", "(I)V"⟩, 91), (⟨"TideDeskModel", "keelOf", "(I)V"⟩, 91), (⟨"TideDeskModel", "paceOf", "(I)I"⟩, 91), (⟨"TideDeskModel", "patienceOf", "(I)V"⟩, 91), (⟨"TideDeskModel", "isOf", "(II)Z"⟩, 91), (⟨"TideDeskModel", "stands", "(II)I"⟩, 91), (⟨"TideDeskModel", "takes", "(II)Z"⟩, 91), (⟨"TideDeskModel", "isStarted", "(I)Z"⟩, 91), (⟨"TideDeskModel", "looks", "(III)I"⟩, 91), (⟨"TideDeskModel", "passes", "(IIIZ)I"⟩, 91), (⟨"TideDeskModel", "plans", "(I)V"⟩, 91), (⟨"TideDeskModel", "isFree", "(I)Z"⟩, 91), (⟨"TideDeskModel", "isWith", "(II)Z"⟩, 91)]
theorem lw_r4 : ∀ q ∈ lw_privs_4, lw_okq q := List.forall_mem_cons.mpr ⟨lw_p48, List.forall_mem_cons.mpr ⟨lw_p49, List.forall_mem_cons.mpr ⟨lw_p50, List.forall_mem_cons.mpr ⟨lw_p51, List.forall_mem_cons.mpr ⟨lw_p52, List.forall_mem_cons.mpr ⟨lw_p53, List.forall_mem_cons.mpr ⟨lw_p54, List.forall_mem_cons.mpr ⟨lw_p55, List.forall_mem_cons.mpr ⟨lw_p56, List.forall_mem_cons.mpr ⟨lw_p57, List.forall_mem_cons.mpr ⟨lw_p58, List.forall_mem_cons.mpr ⟨lw_p59, List.forall_mem_cons.mpr ⟨lw_p60, List.forall_mem_cons.mpr ⟨lw_p61, List.forall_mem_cons.mpr ⟨lw_p62, List.forall_mem_cons.mpr ⟨lw_p63, fun _ h => absurd h List.not_mem_nil⟩⟩⟩⟩⟩⟩⟩⟩⟩⟩⟩⟩⟩⟩⟩⟩
theorem lw_p64 : lw_okq (⟨"TideDeskModel", "comesTo", "(II)I"⟩, 91) := ⟨⟨by decide +kernel, by decide +kernel⟩, List.mem_of_getElem? (i := 1146) (by decide +kernel), List.mem_of_getElem? (i := 1824) (by decide +kernel), List.mem_of_getElem? (i := 1825) (by decide +kernel)⟩
theorem lw_p65 : lw_okq (⟨"TideDeskModel", "isPassage", "(I)Z"⟩, 91) := ⟨⟨by decide +kernel, by decide +kernel⟩, List.mem_of_getElem? (i := 1146) (by decide +kernel), List.mem_of_getElem? (i := 1835) (by decide +kernel), List.mem_of_getElem? (i := 1836) (by decide +kernel)⟩
theorem lw_p66 : lw_okq (⟨"TideDeskModel", "goes", "(II)I"⟩, 91) := ⟨⟨by decide +kernel, by decide +kernel⟩, List.mem_of_getElem? (i := 1146) (by decide +kernel), List.mem_of_getElem? (i := 1847) (by decide +kernel), List.mem_of_getElem? (i := 1848) (by decide +kernel)⟩
def lw_privs_5 : List (MethodName × Nat) := [(⟨"TideDeskModel", "comesTo", "(II)I"⟩, 91), (⟨"TideDeskModel", "isPassage", "(I)Z"⟩, 91), (⟨"TideDeskModel", "goes", "(II)I"⟩, 91)]
theorem lw_r5 : ∀ q ∈ lw_privs_5, lw_okq q := List.forall_mem_cons.mpr ⟨lw_p64, List.forall_mem_cons.mpr ⟨lw_p65, List.forall_mem_cons.mpr ⟨lw_p66, fun _ h => absurd h List.not_mem_nil⟩⟩⟩
def lw_privs : List (MethodName × Nat) := lw_privs_1 ++ (lw_privs_2 ++ (lw_privs_3 ++ (lw_privs_4 ++ (lw_privs_5))))
def lw_tbl : List Cond := k2_sels lw_privs ++ tables_1
theorem lw_privs_ok : ∀ q ∈ lw_privs, lw_okq q := by
  show ∀ q ∈ lw_privs_1 ++ (lw_privs_2 ++ (lw_privs_3 ++ (lw_privs_4 ++ (lw_privs_5)))), lw_okq q
  exact List.forall_mem_append.mpr ⟨lw_r1, List.forall_mem_append.mpr ⟨lw_r2, List.forall_mem_append.mpr ⟨lw_r3, List.forall_mem_append.mpr ⟨lw_r4, lw_r5⟩⟩⟩⟩
/-- the streams that the claim lets the run draw from -/
abbrev lw_cs : List Choice := [Jvm.Choice.named "NaN.bits", Jvm.Choice.named "NaN.copy"]
theorem lw_bits : nanBits ∈ lw_cs := by first | decide | exact List.mem_cons_self | simp [lw_cs, nanBits]
def RX0 : String := "TideDesk$Findings"
def TX0 : u_T := fun k => match k with
  | 0 => ("TideDesk$Findings", "ever", "I", false)
  | _ => ("TideDesk$Findings", "latest", "I", false)
def tyX0 : Nat → FieldType := fun k => match k with
  | 0 => .int
  | _ => .int
abbrev wsX00 : List Cond := u_ws RX0 TX0 2
theorem nmX0 : ∀ a, a < 2 → ∀ b, b < 2 → a ≠ b → (TX0 a).2.1 ≠ (TX0 b).2.1 := by decide +kernel
theorem tyX0_ok : ∀ k, k < 2 → parseFieldDescriptor (TX0 k).2.2.1 = some (tyX0 k) := by decide +kernel
def RX1 : String := "TideDesk$Fleets"
def TX1 : u_T := fun k => match k with
  | 0 => ("TideDesk$Fleets", "ships", "LTideDesk$Ships;", true)
  | 1 => ("TideDesk$Fleets", "stands", "[Z", true)
  | 2 => ("TideDesk$Fleets", "sort", "[I", true)
  | 3 => ("TideDesk$Fleets", "size", "[I", true)
  | 4 => ("TideDesk$Fleets", "place", "[I", true)
  | _ => ("TideDesk$Fleets", "carried", "[I", true)
def tyX1 : Nat → FieldType := fun k => match k with
  | 0 => .object "TideDesk$Ships"
  | 1 => .array .boolean
  | 2 => .array .int
  | 3 => .array .int
  | 4 => .array .int
  | _ => .array .int
abbrev wsX10 : List Cond := u_ws RX1 TX1 6
theorem nmX1 : ∀ a, a < 6 → ∀ b, b < 6 → a ≠ b → (TX1 a).2.1 ≠ (TX1 b).2.1 := by decide +kernel
theorem tyX1_ok : ∀ k, k < 6 → parseFieldDescriptor (TX1 k).2.2.1 = some (tyX1 k) := by decide +kernel
def RX2 : String := "TideDesk$Gauges"
def TX2 : u_T := fun k => match k with
  | 0 => ("TideDesk$Gauges", "surveys", "LTideDesk$Surveys;", true)
  | 1 => ("TideDesk$Gauges", "station", "[I", true)
  | 2 => ("TideDesk$Gauges", "first", "[I", true)
  | 3 => ("TideDesk$Gauges", "step", "[I", true)
  | 4 => ("TideDesk$Gauges", "isOut", "[Z", true)
  | 5 => ("TideDesk$Gauges", "size", "[I", true)
  | 6 => ("TideDesk$Gauges", "shorts", "[S", true)
  | 7 => ("TideDesk$Gauges", "airs", "[I", true)
  | 8 => ("TideDesk$Gauges", "gathered", "[D", true)
  | 9 => ("TideDesk$Gauges", "told", "I", false)
  | 10 => ("TideDesk$Gauges", "take", "I", false)
  | 11 => ("TideDesk$Gauges", "fade", "I", false)
  | 12 => ("TideDesk$Gauges", "there", "I", false)
  | 13 => ("TideDesk$Gauges", "missing", "I", false)
  | _ => ("TideDesk$Gauges", "latest", "I", false)
def tyX2 : Nat → FieldType := fun k => match k with
  | 0 => .object "TideDesk$Surveys"
  | 1 => .array .int
  | 2 => .array .int
  | 3 => .array .int
  | 4 => .array .boolean
  | 5 => .array .int
  | 6 => .array .short
  | 7 => .array .int
  | 8 => .array .double
  | 9 => .int
  | 10 => .int
  | 11 => .int
  | 12 => .int
  | 13 => .int
  | _ => .int
abbrev wsX20 : List Cond := u_ws RX2 TX2 15
theorem nmX2 : ∀ a, a < 15 → ∀ b, b < 15 → a ≠ b → (TX2 a).2.1 ≠ (TX2 b).2.1 := by decide +kernel
theorem tyX2_ok : ∀ k, k < 15 → parseFieldDescriptor (TX2 k).2.2.1 = some (tyX2 k) := by decide +kernel
def RX3 : String := "TideDesk$Passages"
def TX3 : u_T := fun k => match k with
  | 0 => ("TideDesk$Passages", "findings", "LTideDesk$Findings;", true)
  | 1 => ("TideDesk$Passages", "ships", "LTideDesk$Ships;", true)
  | 2 => ("TideDesk$Passages", "routes", "LTideDesk$Routes;", true)
  | 3 => ("TideDesk$Passages", "shoals", "LTideDesk$Shoals;", true)
  | 4 => ("TideDesk$Passages", "voyages", "LTideDesk$Voyages;", true)
  | 5 => ("TideDesk$Passages", "ship", "[I", true)
  | 6 => ("TideDesk$Passages", "route", "[I", true)
  | 7 => ("TideDesk$Passages", "minute", "[I", true)
  | 8 => ("TideDesk$Passages", "since", "[I", true)
  | 9 => ("TideDesk$Passages", "start", "[I", true)
  | 10 => ("TideDesk$Passages", "waits", "[Z", true)
  | 11 => ("TideDesk$Passages", "coming", "[I", true)
  | 12 => ("TideDesk$Passages", "isHeld", "[Z", true)
  | 13 => ("TideDesk$Passages", "told", "I", false)
  | 14 => ("TideDesk$Passages", "tried", "I", false)
  | 15 => ("TideDesk$Passages", "holding", "I", false)
  | _ => ("TideDesk$Passages", "mostHolding", "I", false)
def tyX3 : Nat → FieldType := fun k => match k with
  | 0 => .object "TideDesk$Findings"
  | 1 => .object "TideDesk$Ships"
  | 2 => .object "TideDesk$Routes"
  | 3 => .object "TideDesk$Shoals"
  | 4 => .object "TideDesk$Voyages"
  | 5 => .array .int
  | 6 => .array .int
  | 7 => .array .int
  | 8 => .array .int
  | 9 => .array .int
  | 10 => .array .boolean
  | 11 => .array .int
  | 12 => .array .boolean
  | 13 => .int
  | 14 => .int
  | 15 => .int
  | _ => .int
abbrev wsX30 : List Cond := u_ws RX3 TX3 17
theorem nmX3 : ∀ a, a < 17 → ∀ b, b < 17 → a ≠ b → (TX3 a).2.1 ≠ (TX3 b).2.1 := by decide +kernel
theorem tyX3_ok : ∀ k, k < 17 → parseFieldDescriptor (TX3 k).2.2.1 = some (tyX3 k) := by decide +kernel
def RX4 : String := "TideDesk$Routes"
def TX4 : u_T := fun k => match k with
  | 0 => ("TideDesk$Routes", "legs", "[I", true)
  | 1 => ("TideDesk$Routes", "shoal", "[I", true)
  | 2 => ("TideDesk$Routes", "distance", "[I", true)
  | _ => ("TideDesk$Routes", "mark", "[I", true)
def tyX4 : Nat → FieldType := fun k => match k with
  | 0 => .array .int
  | 1 => .array .int
  | 2 => .array .int
  | _ => .array .int
abbrev wsX40 : List Cond := u_ws RX4 TX4 4
theorem nmX4 : ∀ a, a < 4 → ∀ b, b < 4 → a ≠ b → (TX4 a).2.1 ≠ (TX4 b).2.1 := by decide +kernel
theorem tyX4_ok : ∀ k, k < 4 → parseFieldDescriptor (TX4 k).2.2.1 = some (tyX4 k) := by decide +kernel
def RX5 : String := "TideDesk$Ships"
def TX5 : u_T := fun k => match k with
  | 0 => ("TideDesk$Ships", "kind", "[I", true)
  | 1 => ("TideDesk$Ships", "draught", "[I", true)
  | 2 => ("TideDesk$Ships", "pace", "[I", true)
  | 3 => ("TideDesk$Ships", "x", "[I", true)
  | 4 => ("TideDesk$Ships", "onePart", "[I", true)
  | 5 => ("TideDesk$Ships", "otherPart", "[I", true)
  | 6 => ("TideDesk$Ships", "pairsDeep", "[I", true)
  | 7 => ("TideDesk$Ships", "trace", "[I", true)
  | 8 => ("TideDesk$Ships", "traced", "I", false)
  | 9 => ("TideDesk$Ships", "told", "I", false)
  | _ => ("TideDesk$Ships", "fault", "I", false)
def tyX5 : Nat → FieldType := fun k => match k with
  | 0 => .array .int
  | 1 => .array .int
  | 2 => .array .int
  | 3 => .array .int
  | 4 => .array .int
  | 5 => .array .int
  | 6 => .array .int
  | 7 => .array .int
  | 8 => .int
  | 9 => .int
  | _ => .int
abbrev wsX50 : List Cond := u_ws RX5 TX5 11
theorem nmX5 : ∀ a, a < 11 → ∀ b, b < 11 → a ≠ b → (TX5 a).2.1 ≠ (TX5 b).2.1 := by decide +kernel
theorem tyX5_ok : ∀ k, k < 11 → parseFieldDescriptor (TX5 k).2.2.1 = some (tyX5 k) := by decide +kernel
def RX6 : String := "TideDesk$Shoals"
def TX6 : u_T := fun k => match k with
  | 0 => ("TideDesk$Shoals", "surveys", "LTideDesk$Surveys;", true)
  | 1 => ("TideDesk$Shoals", "gauges", "LTideDesk$Gauges;", true)
  | 2 => ("TideDesk$Shoals", "station", "[I", true)
  | 3 => ("TideDesk$Shoals", "lock", "[I", true)
  | 4 => ("TideDesk$Shoals", "bedShoal", "[I", true)
  | 5 => ("TideDesk$Shoals", "bedDay", "[I", true)
  | 6 => ("TideDesk$Shoals", "bedSince", "[I", true)
  | 7 => ("TideDesk$Shoals", "bed", "[I", true)
  | 8 => ("TideDesk$Shoals", "told", "I", false)
  | _ => ("TideDesk$Shoals", "dredgings", "I", false)
def tyX6 : Nat → FieldType := fun k => match k with
  | 0 => .object "TideDesk$Surveys"
  | 1 => .object "TideDesk$Gauges"
  | 2 => .array .int
  | 3 => .array .int
  | 4 => .array .int
  | 5 => .array .int
  | 6 => .array .int
  | 7 => .array .int
  | 8 => .int
  | _ => .int
abbrev wsX60 : List Cond := u_ws RX6 TX6 10
theorem nmX6 : ∀ a, a < 10 → ∀ b, b < 10 → a ≠ b → (TX6 a).2.1 ≠ (TX6 b).2.1 := by decide +kernel
theorem tyX6_ok : ∀ k, k < 10 → parseFieldDescriptor (TX6 k).2.2.1 = some (tyX6 k) := by decide +kernel
def RX7 : String := "TideDesk$Surveys"
def TX7 : u_T := fun k => match k with
  | 0 => ("TideDesk$Surveys", "draftMean", "[I", true)
  | 1 => ("TideDesk$Surveys", "draftWaves", "[I", true)
  | 2 => ("TideDesk$Surveys", "draftRow", "[I", true)
  | 3 => ("TideDesk$Surveys", "station", "[I", true)
  | 4 => ("TideDesk$Surveys", "day", "[I", true)
  | 5 => ("TideDesk$Surveys", "since", "[I", true)
  | 6 => ("TideDesk$Surveys", "mean", "[I", true)
  | 7 => ("TideDesk$Surveys", "waves", "[I", true)
  | 8 => ("TideDesk$Surveys", "row", "[I", true)
  | _ => ("TideDesk$Surveys", "told", "I", false)
def tyX7 : Nat → FieldType := fun k => match k with
  | 0 => .array .int
  | 1 => .array .int
  | 2 => .array .int
  | 3 => .array .int
  | 4 => .array .int
  | 5 => .array .int
  | 6 => .array .int
  | 7 => .array .int
  | 8 => .array .int
  | _ => .int
abbrev wsX70 : List Cond := u_ws RX7 TX7 10
theorem nmX7 : ∀ a, a < 10 → ∀ b, b < 10 → a ≠ b → (TX7 a).2.1 ≠ (TX7 b).2.1 := by decide +kernel
theorem tyX7_ok : ∀ k, k < 10 → parseFieldDescriptor (TX7 k).2.2.1 = some (tyX7 k) := by decide +kernel
def RX8 : String := "TideDesk$Voyages"
def TX8 : u_T := fun k => match k with
  | 0 => ("TideDesk$Voyages", "findings", "LTideDesk$Findings;", true)
  | 1 => ("TideDesk$Voyages", "ships", "LTideDesk$Ships;", true)
  | 2 => ("TideDesk$Voyages", "routes", "LTideDesk$Routes;", true)
  | 3 => ("TideDesk$Voyages", "shoals", "LTideDesk$Shoals;", true)
  | 4 => ("TideDesk$Voyages", "tides", "LTideDesk$Waters;", true)
  | 5 => ("TideDesk$Voyages", "coming", "[I", true)
  | 6 => ("TideDesk$Voyages", "rise", "I", false)
  | 7 => ("TideDesk$Voyages", "set", "I", false)
  | 8 => ("TideDesk$Voyages", "need", "I", false)
  | 9 => ("TideDesk$Voyages", "pace", "I", false)
  | _ => ("TideDesk$Voyages", "byDay", "Z", false)
def tyX8 : Nat → FieldType := fun k => match k with
  | 0 => .object "TideDesk$Findings"
  | 1 => .object "TideDesk$Ships"
  | 2 => .object "TideDesk$Routes"
  | 3 => .object "TideDesk$Shoals"
  | 4 => .object "TideDesk$Waters"
  | 5 => .array .int
  | 6 => .int
  | 7 => .int
  | 8 => .int
  | 9 => .int
  | _ => .boolean
abbrev wsX80 : List Cond := u_ws RX8 TX8 11
theorem nmX8 : ∀ a, a < 11 → ∀ b, b < 11 → a ≠ b → (TX8 a).2.1 ≠ (TX8 b).2.1 := by decide +kernel
theorem tyX8_ok : ∀ k, k < 11 → parseFieldDescriptor (TX8 k).2.2.1 = some (tyX8 k) := by decide +kernel
def RX9 : String := "TideDesk$Waters"
def TX9 : u_T := fun k => match k with
  | 0 => ("TideDesk$Waters", "surveys", "LTideDesk$Surveys;", true)
  | 1 => ("TideDesk$Waters", "size", "[I", true)
  | 2 => ("TideDesk$Waters", "moment", "[I", true)
  | 3 => ("TideDesk$Waters", "isHigh", "[Z", true)
  | 4 => ("TideDesk$Waters", "height", "[D", true)
  | 5 => ("TideDesk$Waters", "measured", "[D", true)
  | 6 => ("TideDesk$Waters", "stream", "[I", true)
  | _ => ("TideDesk$Waters", "steps", "I", false)
def tyX9 : Nat → FieldType := fun k => match k with
  | 0 => .object "TideDesk$Surveys"
  | 1 => .array .int
  | 2 => .array .int
  | 3 => .array .boolean
  | 4 => .array .double
  | 5 => .array .double
  | 6 => .array .int
  | _ => .int
abbrev wsX90 : List Cond := u_ws RX9 TX9 8
theorem nmX9 : ∀ a, a < 8 → ∀ b, b < 8 → a ≠ b → (TX9 a).2.1 ≠ (TX9 b).2.1 := by decide +kernel
theorem tyX9_ok : ∀ k, k < 8 → parseFieldDescriptor (TX9 k).2.2.1 = some (tyX9 k) := by decide +kernel
def RX10 : String := "TideDesk$Windows"
def TX10 : u_T := fun k => match k with
  | 0 => ("TideDesk$Windows", "first", "[I", true)
  | 1 => ("TideDesk$Windows", "last", "[I", true)
  | 2 => ("TideDesk$Windows", "size", "I", false)
  | 3 => ("TideDesk$Windows", "wrongMinutes", "I", false)
  | 4 => ("TideDesk$Windows", "lastWrong", "I", false)
  | _ => ("TideDesk$Windows", "isOpen", "Z", false)
def tyX10 : Nat → FieldType := fun k => match k with
  | 0 => .array .int
  | 1 => .array .int
  | 2 => .int
  | 3 => .int
  | 4 => .int
  | _ => .boolean
abbrev wsX100 : List Cond := u_ws RX10 TX10 6
theorem nmX10 : ∀ a, a < 6 → ∀ b, b < 6 → a ≠ b → (TX10 a).2.1 ≠ (TX10 b).2.1 := by decide +kernel
theorem tyX10_ok : ∀ k, k < 6 → parseFieldDescriptor (TX10 k).2.2.1 = some (tyX10 k) := by decide +kernel
def RX11 : String := "TideDesk"
def TX11 : u_T := fun k => match k with
  | 0 => ("TideDesk", "findings", "LTideDesk$Findings;", true)
  | 1 => ("TideDesk", "surveys", "LTideDesk$Surveys;", true)
  | 2 => ("TideDesk", "gauges", "LTideDesk$Gauges;", true)
  | 3 => ("TideDesk", "shoals", "LTideDesk$Shoals;", true)
  | 4 => ("TideDesk", "tides", "LTideDesk$Waters;", true)
  | 5 => ("TideDesk", "ships", "LTideDesk$Ships;", true)
  | 6 => ("TideDesk", "fleets", "LTideDesk$Fleets;", true)
  | 7 => ("TideDesk", "routes", "LTideDesk$Routes;", true)
  | 8 => ("TideDesk", "voyages", "LTideDesk$Voyages;", true)
  | 9 => ("TideDesk", "kept", "LTideDesk$Windows;", true)
  | 10 => ("TideDesk", "passages", "LTideDesk$Passages;", true)
  | 11 => ("TideDesk", "now", "I", false)
  | 12 => ("TideDesk", "lastAsked", "I", false)
  | _ => ("TideDesk", "lastLacking", "I", false)
def tyX11 : Nat → FieldType := fun k => match k with
  | 0 => .object "TideDesk$Findings"
  | 1 => .object "TideDesk$Surveys"
  | 2 => .object "TideDesk$Gauges"
  | 3 => .object "TideDesk$Shoals"
  | 4 => .object "TideDesk$Waters"
  | 5 => .object "TideDesk$Ships"
  | 6 => .object "TideDesk$Fleets"
  | 7 => .object "TideDesk$Routes"
  | 8 => .object "TideDesk$Voyages"
  | 9 => .object "TideDesk$Windows"
  | 10 => .object "TideDesk$Passages"
  | 11 => .int
  | 12 => .int
  | _ => .int
abbrev wsX110 : List Cond := u_ws RX11 TX11 14
theorem nmX11 : ∀ a, a < 14 → ∀ b, b < 14 → a ≠ b → (TX11 a).2.1 ≠ (TX11 b).2.1 := by decide +kernel
theorem tyX11_ok : ∀ k, k < 14 → parseFieldDescriptor (TX11 k).2.2.1 = some (tyX11 k) := by decide +kernel
def RX12 : String := "TideDeskModel"
def TX12 : u_T := fun k => match k with
  | 0 => ("TideDeskModel", "now", "I", false)
  | 1 => ("TideDeskModel", "finding", "I", false)
  | 2 => ("TideDeskModel", "findings", "I", false)
  | 3 => ("TideDeskModel", "mean", "[I", true)
  | 4 => ("TideDeskModel", "waves", "[I", true)
  | 5 => ("TideDeskModel", "sizes", "[I", true)
  | 6 => ("TideDeskModel", "speeds", "[I", true)
  | 7 => ("TideDeskModel", "phases", "[I", true)
  | 8 => ("TideDeskModel", "surveys", "I", false)
  | 9 => ("TideDeskModel", "surveyStation", "[I", true)
  | 10 => ("TideDeskModel", "surveyDay", "[I", true)
  | 11 => ("TideDeskModel", "surveyTold", "[I", true)
  | 12 => ("TideDeskModel", "surveyMean", "[I", true)
  | 13 => ("TideDeskModel", "surveyWaves", "[I", true)
  | 14 => ("TideDeskModel", "surveySizes", "[I", true)
  | 15 => ("TideDeskModel", "surveySpeeds", "[I", true)
  | 16 => ("TideDeskModel", "surveyPhases", "[I", true)
  | 17 => ("TideDeskModel", "level", "D", false)
  | 18 => ("TideDeskModel", "gauges", "I", false)
  | 19 => ("TideDeskModel", "gaugeStation", "[I", true)
  | 20 => ("TideDeskModel", "gaugeFirst", "[I", true)
  | 21 => ("TideDeskModel", "gaugeStep", "[I", true)
  | 22 => ("TideDeskModel", "isOut", "[Z", true)
  | 23 => ("TideDeskModel", "readings", "[I", true)
  | 24 => ("TideDeskModel", "shorts", "[I", true)
  | 25 => ("TideDeskModel", "airs", "[I", true)
  | 26 => ("TideDeskModel", "take", "I", false)
  | 27 => ("TideDeskModel", "fade", "I", false)
  | 28 => ("TideDeskModel", "steps", "I", false)
  | 29 => ("TideDeskModel", "lacking", "I", false)
  | 30 => ("TideDeskModel", "offs", "[D", true)
  | 31 => ("TideDeskModel", "surge", "D", false)
  | 32 => ("TideDeskModel", "lacks", "I", false)
  | 33 => ("TideDeskModel", "shoals", "I", false)
  | 34 => ("TideDeskModel", "shoalStation", "[I", true)
  | 35 => ("TideDeskModel", "locks", "[I", true)
  | 36 => ("TideDeskModel", "dredgings", "I", false)
  | 37 => ("TideDeskModel", "beds", "I", false)
  | 38 => ("TideDeskModel", "bedShoal", "[I", true)
  | 39 => ("TideDeskModel", "bedDay", "[I", true)
  | 40 => ("TideDeskModel", "bedTold", "[I", true)
  | 41 => ("TideDeskModel", "bedDepth", "[I", true)
  | 42 => ("TideDeskModel", "waters", "[I", true)
  | 43 => ("TideDeskModel", "waterMoment", "[I", true)
  | 44 => ("TideDeskModel", "isHigh", "[Z", true)
  | 45 => ("TideDeskModel", "waterHeight", "[D", true)
  | 46 => ("TideDeskModel", "streams", "[I", true)
  | 47 => ("TideDeskModel", "heights", "[D", true)
  | 48 => ("TideDeskModel", "streamAt", "I", false)
  | 49 => ("TideDeskModel", "ships", "I", false)
  | 50 => ("TideDeskModel", "kinds", "[I", true)
  | 51 => ("TideDeskModel", "draughts", "[I", true)
  | 52 => ("TideDeskModel", "paces", "[I", true)
  | 53 => ("TideDeskModel", "xs", "[I", true)
  | 54 => ("TideDeskModel", "parts", "[I", true)
  | 55 => ("TideDeskModel", "nested", "[I", true)
  | 56 => ("TideDeskModel", "asked", "I", false)
  | 57 => ("TideDeskModel", "traced", "I", false)
  | 58 => ("TideDeskModel", "trace", "[I", true)
  | 59 => ("TideDeskModel", "fleetSort", "[I", true)
  | 60 => ("TideDeskModel", "fleetSize", "[I", true)
  | 61 => ("TideDeskModel", "places", "[I", true)
  | 62 => ("TideDeskModel", "value", "I", false)
  | 63 => ("TideDeskModel", "pile", "[I", true)
  | 64 => ("TideDeskModel", "isSecond", "[Z", true)
  | 65 => ("TideDeskModel", "firsts", "[I", true)
  | 66 => ("TideDeskModel", "moving", "[I", true)
  | 67 => ("TideDeskModel", "legs", "[I", true)
  | 68 => ("TideDeskModel", "legShoal", "[I", true)
  | 69 => ("TideDeskModel", "legDistance", "[I", true)
  | 70 => ("TideDeskModel", "legMark", "[I", true)
  | 71 => ("TideDeskModel", "rise", "I", false)
  | 72 => ("TideDeskModel", "set", "I", false)
  | 73 => ("TideDeskModel", "windows", "I", false)
  | 74 => ("TideDeskModel", "windowFirst", "[I", true)
  | 75 => ("TideDeskModel", "windowLast", "[I", true)
  | 76 => ("TideDeskModel", "wrongs", "I", false)
  | 77 => ("TideDeskModel", "wrongLast", "I", false)
  | 78 => ("TideDeskModel", "passages", "I", false)
  | 79 => ("TideDeskModel", "passShip", "[I", true)
  | 80 => ("TideDeskModel", "passRoute", "[I", true)
  | 81 => ("TideDeskModel", "passFrom", "[I", true)
  | 82 => ("TideDeskModel", "waits", "[Z", true)
  | 83 => ("TideDeskModel", "since", "[I", true)
  | 84 => ("TideDeskModel", "starts", "[I", true)
  | 85 => ("TideDeskModel", "passPace", "[I", true)
  | 86 => ("TideDeskModel", "come", "[I", true)
  | 87 => ("TideDeskModel", "paceNow", "I", false)
  | 88 => ("TideDeskModel", "tries", "I", false)
  | 89 => ("TideDeskModel", "heldMost", "I", false)
  | _ => ("TideDeskModel", "isHeld", "[Z", true)
def tyX12 : Nat → FieldType := fun k => match k with
  | 0 => .int
  | 1 => .int
  | 2 => .int
  | 3 => .array .int
  | 4 => .array .int
  | 5 => .array .int
  | 6 => .array .int
  | 7 => .array .int
  | 8 => .int
  | 9 => .array .int
  | 10 => .array .int
  | 11 => .array .int
  | 12 => .array .int
  | 13 => .array .int
  | 14 => .array .int
  | 15 => .array .int
  | 16 => .array .int
  | 17 => .double
  | 18 => .int
  | 19 => .array .int
  | 20 => .array .int
  | 21 => .array .int
  | 22 => .array .boolean
  | 23 => .array .int
  | 24 => .array .int
  | 25 => .array .int
  | 26 => .int
  | 27 => .int
  | 28 => .int
  | 29 => .int
  | 30 => .array .double
  | 31 => .double
  | 32 => .int
  | 33 => .int
  | 34 => .array .int
  | 35 => .array .int
  | 36 => .int
  | 37 => .int
  | 38 => .array .int
  | 39 => .array .int
  | 40 => .array .int
  | 41 => .array .int
  | 42 => .array .int
  | 43 => .array .int
  | 44 => .array .boolean
  | 45 => .array .double
  | 46 => .array .int
  | 47 => .array .double
  | 48 => .int
  | 49 => .int
  | 50 => .array .int
  | 51 => .array .int
  | 52 => .array .int
  | 53 => .array .int
  | 54 => .array .int
  | 55 => .array .int
  | 56 => .int
  | 57 => .int
  | 58 => .array .int
  | 59 => .array .int
  | 60 => .array .int
  | 61 => .array .int
  | 62 => .int
  | 63 => .array .int
  | 64 => .array .boolean
  | 65 => .array .int
  | 66 => .array .int
  | 67 => .array .int
  | 68 => .array .int
  | 69 => .array .int
  | 70 => .array .int
  | 71 => .int
  | 72 => .int
  | 73 => .int
  | 74 => .array .int
  | 75 => .array .int
  | 76 => .int
  | 77 => .int
  | 78 => .int
  | 79 => .array .int
  | 80 => .array .int
  | 81 => .array .int
  | 82 => .array .boolean
  | 83 => .array .int
  | 84 => .array .int
  | 85 => .array .int
  | 86 => .array .int
  | 87 => .int
  | 88 => .int
  | 89 => .int
  | _ => .array .boolean
abbrev wsX120 : List Cond := u_ws RX12 TX12 91
theorem nmX12 : ∀ a, a < 91 → ∀ b, b < 91 → a ≠ b → (TX12 a).2.1 ≠ (TX12 b).2.1 := by decide +kernel
theorem tyX12_ok : ∀ k, k < 91 → parseFieldDescriptor (TX12 k).2.2.1 = some (tyX12 k) := by decide +kernel
abbrev vwCl : List vw_C := [(RX0, TX0, 2), (RX1, TX1, 6), (RX2, TX2, 15), (RX3, TX3, 17), (RX4, TX4, 4), (RX5, TX5, 11), (RX6, TX6, 10), (RX7, TX7, 10), (RX8, TX8, 11), (RX9, TX9, 8), (RX10, TX10, 6), (RX11, TX11, 14), (RX12, TX12, 91)]
end
section
/-! THE WALK AS A FUNCTION. A list of resolved instructions is run over names for values: 'wp' says what must hold for the machine to come where it should. -/
abbrev MI : Type := Nat → Nat → Int32
abbrev MD : Type := Nat → Nat → UInt64
abbrev Lv : Type := List (Nat × Value)
/-- a cell: an object (its number among the kinds, its fields: a reference, an int, a double), or a row (its kind, its length) -/
abbrev Sh : Type := (Nat × List (Nat ⊕ Bool)) ⊕ (Nat × Nat)
/-- a place, its instruction, two numbers, a constant -/
abbrev Op : Type := Nat × Instr × Nat × Nat × Value
abbrev Nt : Type := Lv → List Value → MI → MD → Prop
abbrev Kt : Type := Nat → Nt
abbrev Po : Type := Option Value → MI → MD → Prop
abbrev Rk : Type := Instr → Nat → List Value → MI → MD → Prop
abbrev Ck : Type := Nat → List Value → MI → MD → Po → Prop
def up2 {α : Type} (f : Nat → Nat → α) (k j : Nat) (v : α) : Nat → Nat → α := fun a b => if a = k then (if b = j then v else f a b) else f a b
def nth {α : Type} : List α → Nat → Option α
  | [], _ => none
  | a :: _, 0 => some a
  | _ :: l, n + 1 => nth l n
def lk : Lv → Nat → (Value → Prop) → Prop
  | [], _, _ => False
  | q :: t, i, k => match Nat.beq q.1 i with
    | true => k q.2
    | false => lk t i k
/-- the locals that a store of one word at i leaves -/
def fl1 (i : Nat) : Lv → (Lv → Prop) → Prop
  | [], k => k []
  | q :: t, k => match (!(Nat.beq q.1 i) && !(Nat.beq (q.1 + 1) i && Nat.beq q.2.category 2)) with
    | true => fl1 i t (fun t' => k (q :: t'))
    | false => fl1 i t k
def fl2 (i : Nat) : Lv → (Lv → Prop) → Prop
  | [], k => k []
  | q :: t, k => match (!(Nat.beq q.1 i) && (!(Nat.beq q.1 (i + 1)) && !(Nat.beq (q.1 + 1) i && Nat.beq q.2.category 2))) with
    | true => fl2 i t (fun t' => k (q :: t'))
    | false => fl2 i t k
def pick : List Nat → Lv → (Lv → Prop) → Prop
  | [], _, k => k []
  | i :: is, lv, k => lk lv i (fun v => pick is lv (fun t => k ((i, v) :: t)))
def popN : Nat → List Value → List Value → (List Value → List Value → Prop) → Prop
  | 0, st, acc, k => k acc st
  | _ + 1, [], _, _ => False
  | n + 1, v :: st, acc, k => popN n st (v :: acc) k
def csum : List Value → Nat
  | [] => 0
  | v :: t => v.category + csum t
def okst (r : List Value) (P : Prop) : Prop := match Nat.ble (csum r) 8 with
  | true => P
  | false => False
def lvOf : List (Nat × List Nat) → Nat → List Nat
  | [], _ => []
  | q :: t, i => match Nat.beq q.1 i with
    | true => q.2
    | false => lvOf t i
def tI (st : List Value) (k : Int32 → List Value → Prop) : Prop := match st with
  | .int x :: r => k x r
  | _ => False
def tL (st : List Value) (k : Int64 → List Value → Prop) : Prop := match st with
  | .long x :: r => k x r
  | _ => False
def tF (st : List Value) (k : UInt32 → List Value → Prop) : Prop := match st with
  | .float x :: r => k x r
  | _ => False
def tD (st : List Value) (k : UInt64 → List Value → Prop) : Prop := match st with
  | .double x :: r => k x r
  | _ => False
def tR (st : List Value) (k : Nat → List Value → Prop) : Prop := match st with
  | .ref x :: r => k x r
  | _ => False
def t2I (st : List Value) (k : Int32 → Int32 → List Value → Prop) : Prop := match st with
  | .int y :: .int x :: r => k x y r
  | _ => False
def t2L (st : List Value) (k : Int64 → Int64 → List Value → Prop) : Prop := match st with
  | .long y :: .long x :: r => k x y r
  | _ => False
def t2F (st : List Value) (k : UInt32 → UInt32 → List Value → Prop) : Prop := match st with
  | .float y :: .float x :: r => k x y r
  | _ => False
def t2D (st : List Value) (k : UInt64 → UInt64 → List Value → Prop) : Prop := match st with
  | .double y :: .double x :: r => k x y r
  | _ => False
def isI (w : Value) (P : Prop) : Prop := match w with
  | .int _ => P
  | _ => False
def isL (w : Value) (P : Prop) : Prop := match w with
  | .long _ => P
  | _ => False
def isF (w : Value) (P : Prop) : Prop := match w with
  | .float _ => P
  | _ => False
def isD (w : Value) (P : Prop) : Prop := match w with
  | .double _ => P
  | _ => False
def isR (w : Value) (P : Prop) : Prop := match w with
  | .ref _ => P
  | _ => False
/-- an object of kind ci at k -/
def atO (SH : List Sh) (k ci : Nat) (P : List (Nat ⊕ Bool) → Prop) : Prop := match nth SH k with
  | some (.inl q) => match Nat.beq q.1 ci with
    | true => P q.2
    | false => False
  | _ => False
/-- a row of kind t at k -/
def atA (SH : List Sh) (k t : Nat) (P : Nat → Prop) : Prop := match nth SH k with
  | some (.inr q) => match Nat.beq q.1 t with
    | true => P q.2
    | false => False
  | _ => False
/-- an index within -/
def inn (i : Int32) (n : Nat) : Prop := 0 ≤ i.toInt ∧ i.toInt < n
def xget (SH : List Sh) (a b : Nat) (st : List Value) (I : MI) (D : MD) (k : List Value → Prop) : Prop :=
  tR st (fun q r => atO SH q a (fun fks => match nth fks b with
    | some (.inl t) => k (.ref t :: r)
    | some (.inr false) => k (.int (I q b) :: r)
    | some (.inr true) => k (.double (D q b) :: r)
    | none => False))
/-- a field of a boolean takes 0 and 1 alone: v is then .ref 1; of a double: .ref 2 -/
def xput (SH : List Sh) (a b : Nat) (v : Value) (st : List Value) (I : MI) (D : MD) (k : List Value → MI → MD → Prop) : Prop := match st with
  | .int x :: .ref q :: r => atO SH q a (fun fks => match nth fks b with
    | some (.inr false) => (match v with
      | .ref 1 => (x = 0 ∨ x = 1) ∧ k r (up2 I q b x) D
      | .null => k r (up2 I q b x) D
      | _ => False)
    | _ => False)
  | .double x :: .ref q :: r => atO SH q a (fun fks => match nth fks b with
    | some (.inr true) => (match v with
      | .ref 2 => k r I (up2 D q b x)
      | _ => False)
    | _ => False)
  | _ => False
def xald (SH : List Sh) (t : Nat) (st : List Value) (I : MI) (k : List Value → Prop) : Prop := match st with
  | .int i :: .ref q :: r => atA SH q t (fun n => inn i n ∧ k (.int (I q i.toNatClampNeg) :: r))
  | _ => False
def xdld (SH : List Sh) (st : List Value) (D : MD) (k : List Value → Prop) : Prop := match st with
  | .int i :: .ref q :: r => atA SH q 3 (fun n => inn i n ∧ k (.double (D q i.toNatClampNeg) :: r))
  | _ => False
/-- a load of the script (no cell of ours: its name is .ref 999), or of a row of ints -/
def xild (SH : List Sh) (SC : Option (Nat × (Nat → Int32))) (st : List Value) (I : MI) (k : List Value → Prop) : Prop := match SC with
  | none => xald SH 0 st I k
  | some c => (match st with
    | .int i :: .ref 999 :: r => inn i c.1 ∧ k (.int (c.2 i.toNatClampNeg) :: r)
    | _ => False)
def xast (SH : List Sh) (t : Nat) (nar : Int32 → Int32) (st : List Value) (I : MI) (k : List Value → MI → Prop) : Prop := match st with
  | .int x :: .int i :: .ref q :: r => atA SH q t (fun n => inn i n ∧ k r (up2 I q i.toNatClampNeg (nar x)))
  | _ => False
def xdst (SH : List Sh) (st : List Value) (D : MD) (k : List Value → MD → Prop) : Prop := match st with
  | .double x :: .int i :: .ref q :: r => atA SH q 3 (fun n => inn i n ∧ k r (up2 D q i.toNatClampNeg x))
  | _ => False
def xlen (SC : Option (Nat × (Nat → Int32))) (st : List Value) (k : List Value → Prop) : Prop := match SC, st with
  | some c, .ref 999 :: r => k (.int (Int32.ofNat c.1) :: r)
  | _, _ => False
def xif (c : ClassFile.Cond) (x : Int32) (A B : Prop) : Prop := match c with
  | .eq => (x = 0 → A) ∧ (¬ x = 0 → B)
  | .ne => (¬ x = 0 → A) ∧ (x = 0 → B)
  | .lt => (x < 0 → A) ∧ (¬ x < 0 → B)
  | .ge => (0 ≤ x → A) ∧ (¬ 0 ≤ x → B)
  | .gt => (0 < x → A) ∧ (¬ 0 < x → B)
  | .le => (x ≤ 0 → A) ∧ (¬ x ≤ 0 → B)
def xic (c : ClassFile.Cond) (x y : Int32) (A B : Prop) : Prop := match c with
  | .eq => (x = y → A) ∧ (¬ x = y → B)
  | .ne => (¬ x = y → A) ∧ (x = y → B)
  | .lt => (x < y → A) ∧ (¬ x < y → B)
  | .ge => (y ≤ x → A) ∧ (¬ y ≤ x → B)
  | .gt => (y < x → A) ∧ (¬ y < x → B)
  | .le => (x ≤ y → A) ∧ (¬ x ≤ y → B)
def tgt (pc : Nat) (o : Int) : Nat := ((pc : Int) + o).toNat
def swt (x : Int32) (jp : Int → Prop) (P : Prop) : Int → List Int → Prop
  | _, [] => P
  | n, o :: os => (x.toInt = n → jp o) ∧ swt x jp P (n + 1) os
def swl (x : Int32) (jp : Int → Prop) : List (Int × Int) → Prop → Prop
  | [], P => P
  | q :: qs, P => (x.toInt = q.1 → jp q.2) ∧ swl x jp qs (x.toInt ≠ q.1 → P)
def dup1 (st : List Value) (k : Value → List Value → Prop) : Prop := match st with
  | v :: r => (match Nat.beq v.category 1 with
    | true => k v r
    | false => False)
  | _ => False
def dup11 (st : List Value) (k : Value → Value → List Value → Prop) : Prop := match st with
  | v :: w :: r => (match Nat.beq v.category 1, Nat.beq w.category 1 with
    | true, true => k v w r
    | _, _ => False)
  | _ => False
def xcallS (Ca : Ck) (a b : Nat) (v : Value) (st : List Value) (I : MI) (D : MD) (k : List Value → MI → MD → Prop) : Prop := match v with
  | .ref 0 => popN b st [] (fun As r => okst r (Ca a As I D (fun o I' D' => k (o.toList ++ r) I' D')))
  | .ref 1 => tI st (fun x r => okst r (vn_sni2f x = false ∧ k (.float x.toUInt32 :: r) I D))
  | .ref 2 => tD st (fun x r => okst r (k (.long x.toInt64 :: r) I D))
  | _ => False
def xcallV (SH : List Sh) (Ca : Ck) (a b : Nat) (v : Value) (st : List Value) (I : MI) (D : MD) (k : List Value → MI → MD → Prop) : Prop := match v with
  | .ref ci => popN b st [] (fun As r => tR r (fun q r => atO SH q ci (fun _ => okst r (Ca a (.ref q :: As) I D (fun o I' D' => k (o.toList ++ r) I' D')))))
  | _ => False
def xinc (a : Nat) (v : Value) (lv : Lv) (k : Lv → Prop) : Prop := lk lv a (fun w => match w, v with
  | .int x, .int c => fl1 a lv (fun t => k ((a, .int (x + c)) :: t))
  | _, _ => False)
def ex (SH : List Sh) (SC : Option (Nat × (Nat → Int32))) (Rt : Rk) (Ca : Ck) (pc : Nat) (i : Instr) (a b : Nat) (v : Value) (lv : Lv) (st : List Value) (I : MI) (D : MD) (nx : Nt) (jp : Kt) : Prop := match i with
  | .iconst _ => nx lv (v :: st) I D
  | .bipush _ => nx lv (v :: st) I D
  | .sipush _ => nx lv (v :: st) I D
  | .ldc _ => nx lv (v :: st) I D
  | .ldc_w _ => nx lv (v :: st) I D
  | .ldc2_w _ => nx lv (v :: st) I D
  | .lconst _ => nx lv (v :: st) I D
  | .dconst _ => nx lv (v :: st) I D
  | .fconst _ => nx lv (v :: st) I D
  | .iload _ => lk lv a (fun w => isI w (nx lv (w :: st) I D))
  | .iload_n _ => lk lv a (fun w => isI w (nx lv (w :: st) I D))
  | .lload _ => lk lv a (fun w => isL w (nx lv (w :: st) I D))
  | .lload_n _ => lk lv a (fun w => isL w (nx lv (w :: st) I D))
  | .fload _ => lk lv a (fun w => isF w (nx lv (w :: st) I D))
  | .dload _ => lk lv a (fun w => isD w (nx lv (w :: st) I D))
  | .dload_n _ => lk lv a (fun w => isD w (nx lv (w :: st) I D))
  | .aload _ => lk lv a (fun w => isR w (nx lv (w :: st) I D))
  | .aload_n _ => lk lv a (fun w => isR w (nx lv (w :: st) I D))
  | .istore _ => tI st (fun x r => fl1 a lv (fun t => nx ((a, .int x) :: t) r I D))
  | .istore_n _ => tI st (fun x r => fl1 a lv (fun t => nx ((a, .int x) :: t) r I D))
  | .lstore _ => tL st (fun x r => fl2 a lv (fun t => nx ((a, .long x) :: t) r I D))
  | .fstore _ => tF st (fun x r => fl1 a lv (fun t => nx ((a, .float x) :: t) r I D))
  | .dstore _ => tD st (fun x r => fl2 a lv (fun t => nx ((a, .double x) :: t) r I D))
  | .dstore_n _ => tD st (fun x r => fl2 a lv (fun t => nx ((a, .double x) :: t) r I D))
  | .iinc _ _ => xinc a v lv (fun t => nx t st I D)
  | .iadd => t2I st (fun x y r => nx lv (.int (x + y) :: r) I D)
  | .isub => t2I st (fun x y r => nx lv (.int (x - y) :: r) I D)
  | .imul => t2I st (fun x y r => nx lv (.int (x * y) :: r) I D)
  | .iand => t2I st (fun x y r => nx lv (.int (x &&& y) :: r) I D)
  | .ixor => t2I st (fun x y r => nx lv (.int (x ^^^ y) :: r) I D)
  | .idiv => t2I st (fun x y r => ¬ y = 0 ∧ nx lv (.int (x / y) :: r) I D)
  | .irem => t2I st (fun x y r => ¬ y = 0 ∧ nx lv (.int (x - x / y * y) :: r) I D)
  | .ineg => tI st (fun x r => nx lv (.int (-x) :: r) I D)
  | .i2l => tI st (fun x r => nx lv (.long x.toInt64 :: r) I D)
  | .i2d => tI st (fun x r => nx lv (.double (FP.i2d x) :: r) I D)
  | .i2s => tI st (fun x r => nx lv (.int x.toInt16.toInt32 :: r) I D)
  | .l2i => tL st (fun x r => nx lv (.int x.toInt32 :: r) I D)
  | .ladd => t2L st (fun x y r => nx lv (.long (x + y) :: r) I D)
  | .lsub => t2L st (fun x y r => nx lv (.long (x - y) :: r) I D)
  | .lmul => t2L st (fun x y r => nx lv (.long (x * y) :: r) I D)
  | .land => t2L st (fun x y r => nx lv (.long (x &&& y) :: r) I D)
  | .lor => t2L st (fun x y r => nx lv (.long (x ||| y) :: r) I D)
  | .ldiv => t2L st (fun x y r => ¬ y = 0 ∧ nx lv (.long (x / y) :: r) I D)
  | .lshl => tI st (fun y r => tL r (fun x r => nx lv (.long (x <<< (y.toInt64 &&& 63)) :: r) I D))
  | .lcmp => t2L st (fun x y r => nx lv (.int (lg_cmp x y) :: r) I D)
  | .dadd => t2D st (fun x y r => vf_n64 (FP.dadd x y) ∧ nx lv (.double (FP.dadd x y) :: r) I D)
  | .dsub => t2D st (fun x y r => vf_n64 (FP.dsub x y) ∧ nx lv (.double (FP.dsub x y) :: r) I D)
  | .dmul => t2D st (fun x y r => vf_n64 (FP.dmul x y) ∧ nx lv (.double (FP.dmul x y) :: r) I D)
  | .ddiv => t2D st (fun x y r => vf_n64 (FP.ddiv x y) ∧ nx lv (.double (FP.ddiv x y) :: r) I D)
  | .dneg => tD st (fun x r => nx lv (.double (FP.dneg x) :: r) I D)
  | .fneg => tF st (fun x r => nx lv (.float (FP.fneg x) :: r) I D)
  | .d2l => tD st (fun x r => nx lv (.long (FP.d2l x) :: r) I D)
  | .dcmp o => t2D st (fun x y r => nx lv (.int (Op.cmpValue (FP.dcmp x y) o) :: r) I D)
  | .fcmp o => t2F st (fun x y r => nx lv (.int (Op.cmpValue (FP.fcmp x y) o) :: r) I D)
  | .dup => dup1 st (fun v r => nx lv (v :: v :: r) I D)
  | .pop => dup1 st (fun _ r => nx lv r I D)
  | .dup2 => dup11 st (fun v w r => nx lv (v :: w :: v :: w :: r) I D)
  | .getfield _ => xget SH a b st I D (fun r => nx lv r I D)
  | .putfield _ => xput SH a b v st I D (fun r I D => nx lv r I D)
  | .iaload => xild SH SC st I (fun r => nx lv r I D)
  | .baload => xald SH 1 st I (fun r => nx lv r I D)
  | .saload => xald SH 2 st I (fun r => nx lv r I D)
  | .daload => xdld SH st D (fun r => nx lv r I D)
  | .iastore => xast SH 0 (fun x => x) st I (fun r I => nx lv r I D)
  | .bastore => xast SH 1 (vp_nar .boolean) st I (fun r I => nx lv r I D)
  | .sastore => xast SH 2 (vp_nar .short) st I (fun r I => nx lv r I D)
  | .dastore => xdst SH st D (fun r D => nx lv r I D)
  | .arraylength => xlen SC st (fun r => nx lv r I D)
  | .goto _ => jp a lv st I D
  | .ifCond c _ => tI st (fun x r => xif c x (jp a lv r I D) (nx lv r I D))
  | .if_icmp c _ => t2I st (fun x y r => xic c x y (jp a lv r I D) (nx lv r I D))
  | .tableswitch d lo hi offs => tI st (fun x r => swt x (fun o => jp (tgt pc o) lv r I D) ((x.toInt < lo ∨ hi < x.toInt) → jp (tgt pc d) lv r I D) lo offs.toList)
  | .lookupswitch d ps => tI st (fun x r => swl x (fun o => jp (tgt pc o) lv r I D) ps.toList (jp (tgt pc d) lv r I D))
  | .invokestatic _ => xcallS Ca a b v st I D (fun r I D => nx lv r I D)
  | .invokevirtual _ => xcallV SH Ca a b v st I D (fun r I D => nx lv r I D)
  | .ireturn => Rt i a st I D
  | .lreturn => Rt i a st I D
  | .dreturn => Rt i a st I D
  | .return_ => Rt i a st I D
  | _ => False
/-- a stretch of code, run from its first place (none) or from a place within it; what leaves it goes by K, with the locals that live there -/
def wp (SH : List Sh) (SC : Option (Nat × (Nat → Int32))) (Rt : Rk) (Ca : Ck) (LV : List (Nat × List Nat)) (K : Kt) (e : Nat) : List Op → Option Nat → Nt
  | [], none, lv, st, I, D => pick (lvOf LV e) lv (fun lv' => K e lv' st I D)
  | [], some t, lv, st, I, D => pick (lvOf LV t) lv (fun lv' => K t lv' st I D)
  | q :: r, none, lv, st, I, D => ex SH SC Rt Ca q.1 q.2.1 q.2.2.1 q.2.2.2.1 q.2.2.2.2 lv st I D (fun lv st I D => wp SH SC Rt Ca LV K e r none lv st I D) (fun t lv st I D => wp SH SC Rt Ca LV K e r (some t) lv st I D)
  | q :: r, some t, lv, st, I, D => match Nat.beq q.1 t with
    | true => ex SH SC Rt Ca q.1 q.2.1 q.2.2.1 q.2.2.2.1 q.2.2.2.2 lv st I D (fun lv st I D => wp SH SC Rt Ca LV K e r none lv st I D) (fun t lv st I D => wp SH SC Rt Ca LV K e r (some t) lv st I D)
    | false => wp SH SC Rt Ca LV K e r (some t) lv st I D
end
section
/-! WHAT THE FUNCTION 'wp' SAYS IS WHAT THE MACHINE DOES: a row an instruction, then a stretch, then a method. -/
abbrev Gp : Type := Launch × (Nat → Nat) × (Nat → ClassId) × va_G × (Nat → Prop)
def cv (ad : Nat → Nat) : Value → Value
  | .ref k => .ref (ad k)
  | v => v
def cq (ad : Nat → Nat) (q : Nat × Value) : Nat × Value := (q.1, cv ad q.2)
theorem cv_cat (ad : Nat → Nat) (v : Value) : (cv ad v).category = v.category := by cases v <;> rfl
def fv (ad : Nat → Nat) (I : MI) (D : MD) (k j : Nat) : (Nat ⊕ Bool) → Value
  | .inl t => .ref (ad t)
  | .inr false => .int (I k j)
  | .inr true => .double (D k j)
def fvs (ad : Nat → Nat) (I : MI) (D : MD) (k : Nat) : Nat → List (Nat ⊕ Bool) → List Value
  | _, [] => []
  | j, f :: t => fv ad I D k j f :: fvs ad I D k (j + 1) t
def ent (ad : Nat → Nat) (dA : Nat → ClassId) (I : MI) (D : MD) (k : Nat) : Sh → va_E
  | .inl q => .inr (q.1, fvs ad I D k 0 q.2)
  | .inr q => .inl (dA q.1, q.2, if q.1 = 3 then .inr (.inr (.inr (.inl (D k)))) else .inl (I k))
def wld (ad : Nat → Nat) (dA : Nat → ClassId) (I : MI) (D : MD) : Nat → List Sh → va_W
  | _, [] => []
  | k, s :: t => (ad k, ent ad dA I D k s) :: wld ad dA I D (k + 1) t
theorem nth_eq {α : Type} : ∀ (l : List α) (i : Nat), nth l i = l[i]?
  | [], i => by simp [nth]
  | a :: l, 0 => by simp [nth]
  | a :: l, i + 1 => by simp [nth, nth_eq l i]
theorem fvs_get (ad : Nat → Nat) (I : MI) (D : MD) (k : Nat) : ∀ (l : List (Nat ⊕ Bool)) (j i : Nat), (fvs ad I D k j l)[i]? = l[i]?.map (fv ad I D k (j + i))
  | [], j, i => by simp [fvs]
  | f :: t, j, 0 => by simp [fvs]
  | f :: t, j, i + 1 => by
    have h := fvs_get ad I D k t (j + 1) i
    simp only [fvs, List.getElem?_cons_succ, h]
    rw [show j + 1 + i = j + (i + 1) by omega]
theorem fvs_len (ad : Nat → Nat) (I : MI) (D : MD) (k : Nat) : ∀ (l : List (Nat ⊕ Bool)) (j : Nat), (fvs ad I D k j l).length = l.length
  | [], j => rfl
  | f :: t, j => by simp [fvs, fvs_len ad I D k t (j + 1)]
theorem wld_get (ad : Nat → Nat) (dA : Nat → ClassId) (I : MI) (D : MD) : ∀ (l : List Sh) (k i : Nat), (wld ad dA I D k l)[i]? = l[i]?.map (fun s => (ad (k + i), ent ad dA I D (k + i) s))
  | [], k, i => by simp [wld]
  | f :: t, k, 0 => by simp [wld]
  | f :: t, k, i + 1 => by
    have h := wld_get ad dA I D t (k + 1) i
    simp only [wld, List.getElem?_cons_succ, h]
    rw [show k + 1 + i = k + (i + 1) by omega]
theorem wld_len (ad : Nat → Nat) (dA : Nat → ClassId) (I : MI) (D : MD) : ∀ (l : List Sh) (k : Nat), (wld ad dA I D k l).length = l.length
  | [], k => rfl
  | f :: t, k => by simp [wld, wld_len ad dA I D t (k + 1)]
theorem wld_at {ad : Nat → Nat} {dA : Nat → ClassId} {I : MI} {D : MD} {SH : List Sh} {q : Nat} {s : Sh} (h : nth SH q = some s) : (wld ad dA I D 0 SH)[q]? = some (ad q, ent ad dA I D q s) := by
  rw [wld_get, ← nth_eq, h]
  simp
theorem up2_ne {α : Type} {f : Nat → Nat → α} {k j : Nat} {v : α} {i : Nat} (h : i ≠ k) : up2 f k j v i = f i := by
  funext b
  simp [up2, h]
theorem up2_row {f : MI} {k j : Nat} {v : Int32} : up2 f k j v k = upd (f k) j v := by
  funext b
  simp [up2, upd]
theorem up2_rowD {f : MD} {k j : Nat} {v : UInt64} : up2 f k j v k = vf_upd (f k) j v := by
  funext b
  simp [up2, vf_upd]
theorem fvs_same {ad : Nat → Nat} {I I' : MI} {D D' : MD} {k : Nat} (h : I' k = I k) (h2 : D' k = D k) : ∀ (l : List (Nat ⊕ Bool)) (j : Nat), fvs ad I' D' k j l = fvs ad I D k j l
  | [], j => rfl
  | f :: t, j => by
    have h3 := fvs_same (ad := ad) h h2 t (j + 1)
    simp only [fvs, h3]
    congr 1
    rcases f with t | b
    · rfl
    · cases b <;> simp [fv, h, h2]
theorem ent_same {ad : Nat → Nat} {dA : Nat → ClassId} {I I' : MI} {D D' : MD} {k : Nat} (h : I' k = I k) (h2 : D' k = D k) (s : Sh) : ent ad dA I' D' k s = ent ad dA I D k s := by
  rcases s with q | q
  · simp only [ent, fvs_same h h2]
  · simp only [ent, h, h2]
/-- one cell changes -/
theorem wld_set {ad : Nat → Nat} {dA : Nat → ClassId} {I I' : MI} {D D' : MD} {SH : List Sh} {q : Nat} {s : Sh} (hq : nth SH q = some s) (hI : ∀ i, i ≠ q → I' i = I i) (hD : ∀ i, i ≠ q → D' i = D i) {en : va_E} (he : en = ent ad dA I' D' q s) : (wld ad dA I D 0 SH).set q (ad q, en) = wld ad dA I' D' 0 SH := by
  apply List.ext_getElem?
  intro i
  rw [List.getElem?_set, wld_get, wld_get, wld_len]
  have hl : q < SH.length := by
    rw [nth_eq] at hq
    exact (List.getElem?_eq_some_iff.mp hq).1
  by_cases h : q = i
  · subst h
    rw [if_pos rfl, if_pos hl, ← nth_eq, hq, he]
    simp
  · rw [if_neg h]
    cases hs : SH[i]? with
    | none => rfl
    | some z =>
      simp only [Option.map_some, Nat.zero_add]
      rw [ent_same (hI i (fun x => h x.symm)) (hD i (fun x => h x.symm))]
theorem fvs_setI {ad : Nat → Nat} {I : MI} {D : MD} {k b : Nat} {fks : List (Nat ⊕ Bool)} (hb : nth fks b = some (.inr false)) (x : Int32) : (fvs ad I D k 0 fks).set b (.int x) = fvs ad (up2 I k b x) D k 0 fks := by
  apply List.ext_getElem?
  intro i
  rw [List.getElem?_set, fvs_get, fvs_get, fvs_len]
  have hl : b < fks.length := by
    rw [nth_eq] at hb
    exact (List.getElem?_eq_some_iff.mp hb).1
  by_cases h : b = i
  · subst h
    rw [if_pos rfl, if_pos hl, ← nth_eq, hb]
    simp [fv, up2]
  · rw [if_neg h]
    cases hs : fks[i]? with
    | none => rfl
    | some z =>
      simp only [Option.map_some, Nat.zero_add]
      rcases z with t | c
      · rfl
      · cases c
        · simp [fv, up2, Ne.symm h]
        · simp [fv]
theorem fvs_setD {ad : Nat → Nat} {I : MI} {D : MD} {k b : Nat} {fks : List (Nat ⊕ Bool)} (hb : nth fks b = some (.inr true)) (x : UInt64) : (fvs ad I D k 0 fks).set b (.double x) = fvs ad I (up2 D k b x) k 0 fks := by
  apply List.ext_getElem?
  intro i
  rw [List.getElem?_set, fvs_get, fvs_get, fvs_len]
  have hl : b < fks.length := by
    rw [nth_eq] at hb
    exact (List.getElem?_eq_some_iff.mp hb).1
  by_cases h : b = i
  · subst h
    rw [if_pos rfl, if_pos hl, ← nth_eq, hb]
    simp [fv, up2]
  · rw [if_neg h]
    cases hs : fks[i]? with
    | none => rfl
    | some z =>
      simp only [Option.map_some, Nat.zero_add]
      rcases z with t | c
      · rfl
      · cases c
        · simp [fv]
        · simp [fv, up2, Ne.symm h]
-- what the small words say
theorem lk_e : ∀ {lv : Lv} {i : Nat} {k : Value → Prop}, lk lv i k → ∃ w, (i, w) ∈ lv ∧ k w
  | [], i, k, h => h.elim
  | q :: t, i, k, h => by
    unfold lk at h
    split at h
    next hb =>
      have := Nat.eq_of_beq_eq_true hb
      subst this
      exact ⟨q.2, List.mem_cons_self, h⟩
    next hb =>
      obtain ⟨w, h1, h2⟩ := lk_e h
      exact ⟨w, List.mem_cons_of_mem _ h1, h2⟩
theorem beq_same (a b : Nat) : Nat.beq a b = (a == b) := by
  cases h : Nat.beq a b with
  | true => rw [Nat.eq_of_beq_eq_true h]; simp
  | false =>
    have := Nat.ne_of_beq_eq_false h
    simp [this]
theorem fl1_e : ∀ {lv : Lv} {i : Nat} {k : Lv → Prop}, fl1 i lv k → k (lv.filter (fun q => !(q.1 == i) && !(q.1 + 1 == i && q.2.category == 2)))
  | [], i, k, h => h
  | q :: t, i, k, h => by
    unfold fl1 at h
    rw [List.filter_cons]
    split at h
    next hb =>
      simp only [beq_same] at hb
      rw [if_pos hb]
      exact fl1_e h
    next hb =>
      simp only [beq_same] at hb
      rw [if_neg (by rw [hb]; decide)]
      exact fl1_e h
theorem fl2_e : ∀ {lv : Lv} {i : Nat} {k : Lv → Prop}, fl2 i lv k → k (lv.filter (fun q => !(q.1 == i) && (!(q.1 == i + 1) && !(q.1 + 1 == i && q.2.category == 2))))
  | [], i, k, h => h
  | q :: t, i, k, h => by
    unfold fl2 at h
    rw [List.filter_cons]
    split at h
    next hb =>
      simp only [beq_same] at hb
      rw [if_pos hb]
      exact fl2_e h
    next hb =>
      simp only [beq_same] at hb
      rw [if_neg (by rw [hb]; decide)]
      exact fl2_e h
theorem pick_e : ∀ {is : List Nat} {lv : Lv} {k : Lv → Prop}, pick is lv k → ∃ lv', k lv' ∧ ∀ q ∈ lv', q ∈ lv
  | [], lv, k, h => ⟨[], h, fun q hq => by cases hq⟩
  | i :: is, lv, k, h => by
    unfold pick at h
    obtain ⟨w, h1, h2⟩ := lk_e h
    obtain ⟨t, h3, h4⟩ := pick_e h2
    refine ⟨_, h3, fun q hq => ?_⟩
    rcases List.mem_cons.mp hq with rfl | hq
    · exact h1
    · exact h4 q hq
theorem popN_e : ∀ {n : Nat} {st acc : List Value} {k : List Value → List Value → Prop}, popN n st acc k → ∃ vs r, vs.length = n ∧ st = vs ++ r ∧ k (vs.reverse ++ acc) r
  | 0, st, acc, k, h => ⟨[], st, rfl, rfl, h⟩
  | n + 1, [], acc, k, h => h.elim
  | n + 1, v :: st, acc, k, h => by
    obtain ⟨vs, r, h1, h2, h3⟩ := popN_e (n := n) (st := st) (acc := v :: acc) h
    refine ⟨v :: vs, r, by simp [h1], by simp [h2], ?_⟩
    simpa using h3
theorem csum_e : ∀ (r : List Value), csum r = (r.map fun v => v.category).sum
  | [] => rfl
  | v :: t => by simp [csum, csum_e t]
theorem okst_e {r : List Value} {P : Prop} (h : okst r P) : csum r ≤ 8 ∧ P := by
  unfold okst at h
  split at h
  next hb => exact ⟨Nat.le_of_ble_eq_true hb, h⟩
  next => exact h.elim
theorem tI_e {st : List Value} {k : Int32 → List Value → Prop} (h : tI st k) : ∃ x r, st = .int x :: r ∧ k x r := by
  unfold tI at h; split at h
  next => exact ⟨_, _, rfl, h⟩
  next => exact h.elim
theorem tL_e {st : List Value} {k : Int64 → List Value → Prop} (h : tL st k) : ∃ x r, st = .long x :: r ∧ k x r := by
  unfold tL at h; split at h
  next => exact ⟨_, _, rfl, h⟩
  next => exact h.elim
theorem tF_e {st : List Value} {k : UInt32 → List Value → Prop} (h : tF st k) : ∃ x r, st = .float x :: r ∧ k x r := by
  unfold tF at h; split at h
  next => exact ⟨_, _, rfl, h⟩
  next => exact h.elim
theorem tD_e {st : List Value} {k : UInt64 → List Value → Prop} (h : tD st k) : ∃ x r, st = .double x :: r ∧ k x r := by
  unfold tD at h; split at h
  next => exact ⟨_, _, rfl, h⟩
  next => exact h.elim
theorem tR_e {st : List Value} {k : Nat → List Value → Prop} (h : tR st k) : ∃ x r, st = .ref x :: r ∧ k x r := by
  unfold tR at h; split at h
  next => exact ⟨_, _, rfl, h⟩
  next => exact h.elim
theorem t2I_e {st : List Value} {k : Int32 → Int32 → List Value → Prop} (h : t2I st k) : ∃ x y r, st = .int y :: .int x :: r ∧ k x y r := by
  unfold t2I at h; split at h
  next => exact ⟨_, _, _, rfl, h⟩
  next => exact h.elim
theorem t2L_e {st : List Value} {k : Int64 → Int64 → List Value → Prop} (h : t2L st k) : ∃ x y r, st = .long y :: .long x :: r ∧ k x y r := by
  unfold t2L at h; split at h
  next => exact ⟨_, _, _, rfl, h⟩
  next => exact h.elim
theorem t2F_e {st : List Value} {k : UInt32 → UInt32 → List Value → Prop} (h : t2F st k) : ∃ x y r, st = .float y :: .float x :: r ∧ k x y r := by
  unfold t2F at h; split at h
  next => exact ⟨_, _, _, rfl, h⟩
  next => exact h.elim
theorem t2D_e {st : List Value} {k : UInt64 → UInt64 → List Value → Prop} (h : t2D st k) : ∃ x y r, st = .double y :: .double x :: r ∧ k x y r := by
  unfold t2D at h; split at h
  next => exact ⟨_, _, _, rfl, h⟩
  next => exact h.elim
theorem isI_e {w : Value} {P : Prop} (h : isI w P) : ∃ x, w = .int x ∧ P := by
  unfold isI at h; split at h
  next => exact ⟨_, rfl, h⟩
  next => exact h.elim
theorem isL_e {w : Value} {P : Prop} (h : isL w P) : ∃ x, w = .long x ∧ P := by
  unfold isL at h; split at h
  next => exact ⟨_, rfl, h⟩
  next => exact h.elim
theorem isF_e {w : Value} {P : Prop} (h : isF w P) : ∃ x, w = .float x ∧ P := by
  unfold isF at h; split at h
  next => exact ⟨_, rfl, h⟩
  next => exact h.elim
theorem isD_e {w : Value} {P : Prop} (h : isD w P) : ∃ x, w = .double x ∧ P := by
  unfold isD at h; split at h
  next => exact ⟨_, rfl, h⟩
  next => exact h.elim
theorem isR_e {w : Value} {P : Prop} (h : isR w P) : ∃ x, w = .ref x ∧ P := by
  unfold isR at h; split at h
  next => exact ⟨_, rfl, h⟩
  next => exact h.elim
theorem atO_e {SH : List Sh} {k ci : Nat} {P : List (Nat ⊕ Bool) → Prop} (h : atO SH k ci P) : ∃ fks, nth SH k = some (.inl (ci, fks)) ∧ P fks := by
  unfold atO at h
  split at h
  next q hq =>
    split at h
    next hb =>
      obtain ⟨c, fks⟩ := q
      have := Nat.eq_of_beq_eq_true hb
      dsimp only at this
      subst this
      exact ⟨fks, hq, h⟩
    next => exact h.elim
  next => exact h.elim
theorem atA_e {SH : List Sh} {k t : Nat} {P : Nat → Prop} (h : atA SH k t P) : ∃ n, nth SH k = some (.inr (t, n)) ∧ P n := by
  unfold atA at h
  split at h
  next q hq =>
    split at h
    next hb =>
      obtain ⟨c, fks⟩ := q
      have := Nat.eq_of_beq_eq_true hb
      dsimp only at this
      subst this
      exact ⟨fks, hq, h⟩
    next => exact h.elim
  next => exact h.elim
theorem inn_vp {i : Int32} {n : Nat} (h : inn i n) : vp_in i n := vp_in_iff.mpr h
theorem dup1_e {st : List Value} {k : Value → List Value → Prop} (h : dup1 st k) : ∃ v r, st = v :: r ∧ v.category = 1 ∧ k v r := by
  unfold dup1 at h; split at h
  next =>
    split at h
    next hb => exact ⟨_, _, rfl, Nat.eq_of_beq_eq_true hb, h⟩
    next => exact h.elim
  next => exact h.elim
theorem dup11_e {st : List Value} {k : Value → Value → List Value → Prop} (h : dup11 st k) : ∃ v w r, st = v :: w :: r ∧ v.category = 1 ∧ w.category = 1 ∧ k v w r := by
  unfold dup11 at h; split at h
  next =>
    split at h
    next hb hc => exact ⟨_, _, _, rfl, Nat.eq_of_beq_eq_true hb, Nat.eq_of_beq_eq_true hc, h⟩
    next => exact h.elim
  next => exact h.elim
end
section
/-! the program: its cells, its methods, what its constant pools name; all by program out of the Statement -/
def tb : Nat → List Cond := fun t => match t with
  | 0 => k2_sels lw_privs
  | 1 => tables_1_1
  | 2 => tables_1_2
  | 3 => tables_1_3
  | 4 => tables_1_4
  | 5 => tables_1_5
  | 6 => tables_1_6
  | 7 => tables_1_7
  | _ => tables_1_8
theorem tb_in : ∀ (t : Nat) (w : Cond), w ∈ tb t → w ∈ lw_tbl := by
  intro t w h
  unfold lw_tbl tables_1
  unfold tb at h
  split at h <;> simp only [List.mem_append] <;> simp only [h, true_or, or_true]
def gt : List Cond := lw_tbl.filter goodWord
theorem gt_in {t o : Nat} {w : Cond} (h : nth (tb t) o = some w) (hg : goodWord w = true) : w ∈ gt := List.mem_filter.mpr ⟨tb_in t w (by rw [nth_eq] at h; exact List.mem_of_getElem? h), hg⟩
def SHc : List Sh := [.inl (11, [.inl 1, .inl 2, .inl 3, .inl 4, .inl 5, .inl 6, .inl 9, .inl 7, .inl 8, .inl 10, .inl 11, .inr false, .inr false, .inr false]), .inl (0, [.inr false, .inr false]), .inl (7, [.inl 13, .inl 14, .inl 15, .inl 16, .inl 17, .inl 18, .inl 19, .inl 20, .inl 21, .inr false]), .inl (2, [.inl 2, .inl 22, .inl 23, .inl 24, .inl 25, .inl 26, .inl 27, .inl 28, .inl 29, .inr false, .inr false, .inr false, .inr false, .inr false, .inr false]), .inl (6, [.inl 2, .inl 3, .inl 30, .inl 31, .inl 32, .inl 33, .inl 34, .inl 35, .inr false, .inr false]), .inl (9, [.inl 2, .inl 36, .inl 37, .inl 38, .inl 39, .inl 40, .inl 41, .inr false]), .inl (5, [.inl 42, .inl 43, .inl 44, .inl 45, .inl 46, .inl 47, .inl 48, .inl 49, .inr false, .inr false, .inr false]), .inl (4, [.inl 50, .inl 51, .inl 52, .inl 53]), .inl (8, [.inl 1, .inl 6, .inl 7, .inl 4, .inl 5, .inl 54, .inr false, .inr false, .inr false, .inr false, .inr false]), .inl (1, [.inl 6, .inl 55, .inl 56, .inl 57, .inl 58, .inl 59]), .inl (10, [.inl 60, .inl 61, .inr false, .inr false, .inr false, .inr false]), .inl (3, [.inl 1, .inl 6, .inl 7, .inl 4, .inl 8, .inl 62, .inl 63, .inl 64, .inl 65, .inl 66, .inl 67, .inl 68, .inl 69, .inr false, .inr false, .inr false, .inr false]), .inl (12, [.inr false, .inr false, .inr false, .inl 70, .inl 71, .inl 72, .inl 73, .inl 74, .inr false, .inl 75, .inl 76, .inl 77, .inl 78, .inl 79, .inl 80, .inl 81, .inl 82, .inr true, .inr false, .inl 83, .inl 84, .inl 85, .inl 86, .inl 87, .inl 88, .inl 89, .inr false, .inr false, .inr false, .inr false, .inl 90, .inr true, .inr false, .inr false, .inl 91, .inl 92, .inr false, .inr false, .inl 93, .inl 94, .inl 95, .inl 96, .inl 97, .inl 98, .inl 99, .inl 100, .inl 101, .inl 102, .inr false, .inr false, .inl 103, .inl 104, .inl 105, .inl 106, .inl 107, .inl 108, .inr false, .inr false, .inl 109, .inl 110, .inl 111, .inl 112, .inr false, .inl 113, .inl 114, .inl 115, .inl 116, .inl 117, .inl 118, .inl 119, .inl 120, .inr false, .inr false, .inr false, .inl 121, .inl 122, .inr false, .inr false, .inr false, .inl 123, .inl 124, .inl 125, .inl 126, .inl 127, .inl 128, .inl 129, .inl 130, .inr false, .inr false, .inr false, .inl 131]), .inr (0, 12), .inr (0, 12), .inr (0, 288), .inr (0, 60), .inr (0, 60), .inr (0, 60), .inr (0, 60), .inr (0, 60), .inr (0, 1440), .inr (0, 10), .inr (0, 10), .inr (0, 10), .inr (1, 10), .inr (0, 10), .inr (2, 1200), .inr (0, 1200), .inr (3, 9), .inr (0, 16), .inr (0, 16), .inr (0, 76), .inr (0, 76), .inr (0, 76), .inr (0, 76), .inr (0, 12), .inr (0, 480), .inr (1, 480), .inr (3, 480), .inr (3, 200), .inr (0, 156), .inr (0, 40), .inr (0, 40), .inr (0, 40), .inr (0, 40), .inr (0, 40), .inr (0, 40), .inr (0, 40), .inr (0, 100), .inr (0, 6), .inr (0, 24), .inr (0, 24), .inr (0, 24), .inr (0, 4), .inr (1, 4), .inr (0, 4), .inr (0, 4), .inr (0, 32), .inr (0, 8), .inr (0, 20), .inr (0, 20), .inr (0, 40), .inr (0, 40), .inr (0, 40), .inr (0, 40), .inr (0, 40), .inr (1, 40), .inr (0, 160), .inr (1, 16), .inr (0, 12), .inr (0, 12), .inr (0, 96), .inr (0, 96), .inr (0, 96), .inr (0, 60), .inr (0, 60), .inr (0, 60), .inr (0, 60), .inr (0, 60), .inr (0, 480), .inr (0, 480), .inr (0, 480), .inr (0, 10), .inr (0, 10), .inr (0, 10), .inr (1, 10), .inr (0, 10), .inr (0, 1200), .inr (0, 1200), .inr (3, 9), .inr (0, 16), .inr (0, 16), .inr (0, 76), .inr (0, 76), .inr (0, 76), .inr (0, 76), .inr (0, 12), .inr (0, 480), .inr (1, 480), .inr (3, 480), .inr (0, 156), .inr (3, 200), .inr (0, 40), .inr (0, 40), .inr (0, 40), .inr (0, 40), .inr (0, 80), .inr (0, 40), .inr (0, 100), .inr (0, 4), .inr (0, 4), .inr (0, 32), .inr (0, 6), .inr (1, 6), .inr (0, 6), .inr (0, 8), .inr (0, 6), .inr (0, 24), .inr (0, 24), .inr (0, 24), .inr (0, 20), .inr (0, 20), .inr (0, 40), .inr (0, 40), .inr (0, 40), .inr (1, 40), .inr (0, 40), .inr (0, 40), .inr (0, 40), .inr (0, 4), .inr (1, 16)]
/-- a method: its name, code, locals, answer, arguments, whether static, the kind of its object; where its words stand -/
abbrev Me : Type := MethodName × ByteArray × Nat × Option FieldType × Nat × Bool × Nat × List (Nat × Nat)
def MT0 : List Me := [(⟨"TideDesk", "clock", "(I)I"⟩, prog_1_method_2_code, 2, (some .int), 1, false, 11, [(3, 25), (1, 1), (3, 23), (3, 24)]), (⟨"TideDesk", "isMoment", "(I)Z"⟩, prog_1_method_57_code, 1, (some .boolean), 1, true, 11, [(3, 28), (1, 1), (3, 27), (3, 27)]), (⟨"TideDesk", "mean", "(II)I"⟩, prog_1_method_3_code, 3, (some .int), 2, false, 11, [(3, 33), (1, 1), (3, 31), (3, 32)]), (⟨"TideDesk", "isStation", "(I)Z"⟩, prog_1_method_61_code, 1, (some .boolean), 1, true, 11, [(3, 36), (1, 1), (3, 35), (3, 35)]), (⟨"TideDesk", "isWithin", "(III)Z"⟩, prog_1_method_56_code, 3, (some .boolean), 3, true, 11, [(3, 39), (1, 1), (3, 38), (3, 38)]), (⟨"TideDesk$Surveys", "changeMean", "(II)I"⟩, prog_9_method_2_code, 4, (some .int), 2, false, 7, [(3, 44), (1, 3), (3, 42), (3, 43)]), (⟨"TideDesk", "wave", "(IIII)I"⟩, prog_1_method_4_code, 5, (some .int), 4, false, 11, [(3, 48), (1, 1), (3, 46), (3, 47)]), (⟨"TideDesk$Surveys", "addWave", "(IIII)I"⟩, prog_9_method_3_code, 6, (some .int), 4, false, 7, [(3, 54), (1, 3), (3, 52), (3, 53)]), (⟨"TideDesk", "survey", "(II)I"⟩, prog_1_method_5_code, 3, (some .int), 2, false, 11, [(3, 58), (1, 1), (3, 56), (3, 57)]), (⟨"TideDesk", "isDay", "(I)Z"⟩, prog_1_method_59_code, 1, (some .boolean), 1, true, 11, [(3, 61), (1, 1), (3, 60), (3, 60)]), (⟨"TideDesk$Surveys", "takeDraft", "(III)I"⟩, prog_9_method_4_code, 5, (some .int), 3, false, 7, [(3, 65), (1, 3), (3, 63), (3, 64)]), (⟨"TideDesk", "cos", "(I)J"⟩, prog_1_method_6_code, 2, (some .long), 1, false, 11, [(3, 69), (1, 1), (3, 67), (3, 68)]), (⟨"TideDesk$Surveys", "cosine", "(J)D"⟩, prog_9_method_7_code, 11, (some .double), 1, true, 7, [(3, 72), (1, 3), (3, 71), (3, 71)]), (⟨"TideDesk", "bitsOf", "(D)J"⟩, prog_1_method_74_code, 10, (some .long), 1, true, 11, [(3, 83), (1, 1), (3, 82), (3, 82)]), (⟨"TideDesk", "height", "(III)J"⟩, prog_1_method_7_code, 4, (some .long), 3, false, 11, [(3, 92), (1, 1), (3, 90), (3, 91)]), (⟨"TideDesk", "isPast", "(I)Z"⟩, prog_1_method_58_code, 2, (some .boolean), 1, false, 11, [(3, 96), (1, 1), (3, 95), (0, 0)]), (⟨"TideDesk$Findings", "areSpent", "()Z"⟩, prog_2_method_2_code, 1, (some .boolean), 0, false, 0, [(3, 100), (1, 2), (3, 98), (3, 99)]), (⟨"TideDesk$Surveys", "inForce", "(III)I"⟩, prog_9_method_5_code, 7, (some .int), 3, false, 7, [(3, 105), (1, 3), (3, 103), (3, 104)]), (⟨"TideDesk$Findings", "tell", "(I)I"⟩, prog_2_method_3_code, 2, (some .int), 1, false, 0, [(3, 110), (1, 2), (3, 108), (3, 109)]), (⟨"TideDesk$Surveys", "heightAt", "(III)D"⟩, prog_9_method_6_code, 11, (some .double), 3, false, 7, [(3, 114), (1, 3), (3, 112), (3, 113)]), (⟨"TideDesk", "force", "(III)I"⟩, prog_1_method_8_code, 5, (some .int), 3, false, 11, [(3, 123), (1, 1), (3, 121), (3, 122)]), (⟨"TideDesk", "gauge", "(III)I"⟩, prog_1_method_9_code, 4, (some .int), 3, false, 11, [(3, 127), (1, 1), (3, 125), (3, 126)]), (⟨"TideDesk$Gauges", "add", "(III)I"⟩, prog_4_method_2_code, 4, (some .int), 3, false, 2, [(3, 131), (1, 4), (3, 129), (3, 130)]), (⟨"TideDesk", "reading", "(III)I"⟩, prog_1_method_10_code, 4, (some .int), 3, false, 11, [(3, 135), (1, 1), (3, 133), (3, 134)]), (⟨"TideDesk", "isGauge", "(I)Z"⟩, prog_1_method_62_code, 2, (some .boolean), 1, false, 11, [(3, 139), (1, 1), (3, 138), (0, 1)]), (⟨"TideDesk$Gauges", "momentOf", "(II)I"⟩, prog_4_method_3_code, 3, (some .int), 2, false, 2, [(3, 143), (1, 4), (3, 141), (3, 142)]), (⟨"TideDesk", "isNoFloat", "(I)Z"⟩, prog_1_method_70_code, 1, (some .boolean), 1, true, 11, [(3, 146), (1, 1), (3, 145), (3, 145)]), (⟨"TideDesk$Gauges", "addReading", "(III)I"⟩, prog_4_method_4_code, 5, (some .int), 3, false, 2, [(3, 153), (1, 4), (3, 151), (3, 152)]), (⟨"TideDesk", "out", "(IZ)I"⟩, prog_1_method_11_code, 3, (some .int), 2, false, 11, [(3, 157), (1, 1), (3, 155), (3, 156)]), (⟨"TideDesk", "at", "(II)I"⟩, prog_1_method_12_code, 4, (some .int), 2, false, 11, [(3, 161), (1, 1), (3, 159), (3, 160)]), (⟨"TideDesk$Gauges", "faultAt", "(II)I"⟩, prog_4_method_5_code, 3, (some .int), 2, false, 2, [(3, 165), (1, 4), (3, 163), (3, 164)]), (⟨"TideDesk", "air", "(II)I"⟩, prog_1_method_13_code, 4, (some .int), 2, false, 11, [(3, 169), (1, 1), (3, 167), (3, 168)])]
def MT1 : List Me := [(⟨"TideDesk", "compare", "(III)I"⟩, prog_1_method_14_code, 5, (some .int), 3, false, 11, [(3, 173), (1, 1), (3, 171), (3, 172)]), (⟨"TideDesk", "relationsOf", "(II)I"⟩, prog_1_method_72_code, 4, (some .int), 2, true, 11, [(3, 176), (1, 1), (3, 175), (3, 175)]), (⟨"TideDesk", "orderOf", "(I)I"⟩, prog_1_method_73_code, 1, (some .int), 1, true, 11, [(3, 179), (1, 1), (3, 178), (3, 178)]), (⟨"TideDesk", "rule", "(II)I"⟩, prog_1_method_15_code, 4, (some .int), 2, false, 11, [(3, 183), (1, 1), (3, 181), (3, 182)]), (⟨"TideDesk", "surge", "(II)J"⟩, prog_1_method_16_code, 4, (some .long), 2, false, 11, [(3, 187), (1, 1), (3, 185), (3, 186)]), (⟨"TideDesk$Gauges", "gather", "(III)I"⟩, prog_4_method_7_code, 8, (some .int), 3, false, 2, [(3, 191), (1, 4), (3, 189), (3, 190)]), (⟨"TideDesk$Gauges", "keepBySize", "(D)V"⟩, prog_4_method_8_code, 4, none, 1, false, 2, [(3, 199), (1, 4), (3, 198), (0, 2)]), (⟨"TideDesk$Gauges", "fadedMiddle", "(I)D"⟩, prog_4_method_9_code, 4, (some .double), 1, false, 2, [(3, 203), (1, 4), (3, 201), (3, 202)]), (⟨"TideDesk", "lacking", "()I"⟩, prog_1_method_17_code, 1, (some .int), 0, false, 11, [(3, 208), (1, 1), (3, 206), (3, 207)]), (⟨"TideDesk", "shoal", "(III)I"⟩, prog_1_method_18_code, 4, (some .int), 3, false, 11, [(3, 212), (1, 1), (3, 210), (3, 211)]), (⟨"TideDesk", "isBed", "(I)Z"⟩, prog_1_method_64_code, 1, (some .boolean), 1, true, 11, [(3, 215), (1, 1), (3, 214), (3, 214)]), (⟨"TideDesk$Shoals", "add", "(IIII)I"⟩, prog_8_method_2_code, 5, (some .int), 4, false, 6, [(3, 219), (1, 5), (3, 217), (3, 218)]), (⟨"TideDesk$Shoals", "addBed", "(IIII)V"⟩, prog_8_method_4_code, 6, none, 4, false, 6, [(3, 223), (1, 5), (3, 222), (0, 3)]), (⟨"TideDesk", "dredge", "(III)I"⟩, prog_1_method_19_code, 4, (some .int), 3, false, 11, [(3, 227), (1, 1), (3, 225), (3, 226)]), (⟨"TideDesk", "isShoal", "(I)Z"⟩, prog_1_method_63_code, 2, (some .boolean), 1, false, 11, [(3, 231), (1, 1), (3, 230), (0, 4)]), (⟨"TideDesk$Shoals", "addDredging", "(IIII)I"⟩, prog_8_method_3_code, 5, (some .int), 4, false, 6, [(3, 235), (1, 5), (3, 233), (3, 234)]), (⟨"TideDesk", "depth", "(III)J"⟩, prog_1_method_20_code, 4, (some .long), 3, false, 11, [(3, 239), (1, 1), (3, 237), (3, 238)]), (⟨"TideDesk$Shoals", "hasDepth", "(III)Z"⟩, prog_8_method_6_code, 4, (some .boolean), 3, false, 6, [(4, 3), (1, 5), (4, 1), (4, 2)]), (⟨"TideDesk$Shoals", "bedInForce", "(III)I"⟩, prog_8_method_5_code, 7, (some .int), 3, false, 6, [(4, 7), (1, 5), (4, 6), (0, 5)]), (⟨"TideDesk$Shoals", "depthAt", "(III)D"⟩, prog_8_method_7_code, 5, (some .double), 3, false, 6, [(4, 13), (1, 5), (4, 11), (4, 12)]), (⟨"TideDesk", "water", "(II)J"⟩, prog_1_method_21_code, 3, (some .long), 2, false, 11, [(4, 19), (1, 1), (4, 17), (4, 18)]), (⟨"TideDesk$Shoals", "waterAt", "(III)D"⟩, prog_8_method_8_code, 7, (some .double), 3, false, 6, [(4, 23), (1, 5), (4, 21), (4, 22)]), (⟨"TideDesk$Gauges", "firstOf", "(I)I"⟩, prog_4_method_6_code, 3, (some .int), 1, false, 2, [(4, 28), (1, 4), (4, 26), (4, 27)]), (⟨"TideDesk", "waters", "(III)I"⟩, prog_1_method_22_code, 4, (some .int), 3, false, 11, [(4, 34), (1, 1), (4, 32), (4, 33)]), (⟨"TideDesk$Waters", "measure", "(IIII)Z"⟩, prog_11_method_2_code, 7, (some .boolean), 4, false, 9, [(4, 38), (1, 6), (4, 36), (4, 37)]), (⟨"TideDesk$Waters", "find", "(IIII)I"⟩, prog_11_method_3_code, 14, (some .int), 4, false, 9, [(4, 44), (1, 6), (4, 42), (4, 43)]), (⟨"TideDesk$Waters", "halve", "(IIZI)I"⟩, prog_11_method_5_code, 13, (some .int), 4, false, 9, [(4, 48), (1, 6), (4, 47), (0, 6)]), (⟨"TideDesk$Waters", "keep", "(IIZI)V"⟩, prog_11_method_4_code, 6, none, 4, false, 9, [(4, 52), (1, 6), (4, 51), (0, 7)]), (⟨"TideDesk", "found", "(III)I"⟩, prog_1_method_23_code, 5, (some .int), 3, false, 11, [(4, 56), (1, 1), (4, 54), (4, 55)]), (⟨"TideDesk", "range", "(II)J"⟩, prog_1_method_24_code, 3, (some .long), 2, false, 11, [(4, 60), (1, 1), (4, 58), (4, 59)]), (⟨"TideDesk$Waters", "hasRange", "(II)Z"⟩, prog_11_method_6_code, 3, (some .boolean), 2, false, 9, [(4, 64), (1, 6), (4, 62), (4, 63)]), (⟨"TideDesk$Waters", "rangeOf", "(II)D"⟩, prog_11_method_7_code, 7, (some .double), 2, false, 9, [(4, 68), (1, 6), (4, 66), (4, 67)])]
def MT2 : List Me := [(⟨"TideDesk", "spring", "(IZ)I"⟩, prog_1_method_25_code, 3, (some .int), 2, false, 11, [(4, 72), (1, 1), (4, 70), (4, 71)]), (⟨"TideDesk$Waters", "furthestRange", "(IZ)I"⟩, prog_11_method_8_code, 9, (some .int), 2, false, 9, [(4, 76), (1, 6), (4, 74), (4, 75)]), (⟨"TideDesk", "tide", "(III)I"⟩, prog_1_method_26_code, 4, (some .int), 3, false, 11, [(4, 82), (1, 1), (4, 80), (4, 81)]), (⟨"TideDesk", "stream", "(II)I"⟩, prog_1_method_27_code, 4, (some .int), 2, false, 11, [(4, 87), (1, 1), (4, 85), (4, 86)]), (⟨"TideDesk$Waters", "streamPlace", "(II)I"⟩, prog_11_method_9_code, 5, (some .int), 2, false, 9, [(4, 91), (1, 6), (4, 89), (4, 90)]), (⟨"TideDesk$Waters", "nearestHigh", "(II)I"⟩, prog_11_method_10_code, 7, (some .int), 2, false, 9, [(4, 95), (1, 6), (4, 94), (0, 8)]), (⟨"java/lang/Math", "abs", "(I)I"⟩, prog_17_method_59_code, 1, (some .int), 1, true, 99, [(4, 99), (1, 16), (4, 98), (4, 98)]), (⟨"java/lang/Math", "floorDiv", "(II)I"⟩, prog_17_method_47_code, 3, (some .int), 2, true, 99, [(4, 102), (1, 16), (4, 101), (4, 101)]), (⟨"TideDesk", "ship", "(IIIIII)I"⟩, prog_1_method_28_code, 7, (some .int), 6, false, 11, [(4, 106), (1, 1), (4, 104), (4, 105)]), (⟨"TideDesk$Ships", "add", "(IIIIII)I"⟩, prog_7_method_2_code, 8, (some .int), 6, false, 5, [(4, 110), (1, 7), (4, 108), (4, 109)]), (⟨"TideDesk$Ships", "deepOf", "(I)I"⟩, prog_7_method_3_code, 2, (some .int), 1, false, 5, [(4, 114), (1, 7), (4, 113), (0, 9)]), (⟨"java/lang/Math", "max", "(II)I"⟩, prog_17_method_65_code, 2, (some .int), 2, true, 99, [(4, 117), (1, 16), (4, 116), (4, 116)]), (⟨"TideDesk", "isShipOrNothing", "(I)Z"⟩, prog_1_method_66_code, 2, (some .boolean), 1, false, 11, [(4, 121), (1, 1), (4, 120), (0, 10)]), (⟨"TideDesk", "ask", "(II)I"⟩, prog_1_method_29_code, 4, (some .int), 2, false, 11, [(4, 125), (1, 1), (4, 123), (4, 124)]), (⟨"TideDesk", "isShip", "(I)Z"⟩, prog_1_method_65_code, 2, (some .boolean), 1, false, 11, [(4, 129), (1, 1), (4, 128), (0, 11)]), (⟨"TideDesk$Ships", "askFor", "(III)I"⟩, prog_7_method_5_code, 4, (some .int), 3, false, 5, [(4, 133), (1, 7), (4, 131), (4, 132)]), (⟨"TideDesk$Ships", "pairAnswer", "(III)I"⟩, prog_7_method_6_code, 6, (some .int), 3, false, 5, [(4, 137), (1, 7), (4, 136), (0, 12)]), (⟨"TideDesk$Ships", "pairBody", "(I)I"⟩, prog_7_method_7_code, 1, (some .int), 1, true, 5, [(4, 140), (1, 7), (4, 139), (4, 139)]), (⟨"TideDesk$Ships", "begin", "(I)V"⟩, prog_7_method_12_code, 2, none, 1, false, 5, [(4, 144), (1, 7), (4, 143), (0, 13)]), (⟨"java/lang/Math", "min", "(II)I"⟩, prog_17_method_69_code, 2, (some .int), 2, true, 99, [(4, 148), (1, 16), (4, 147), (4, 147)]), (⟨"TideDesk$Ships", "needOf", "(I)I"⟩, prog_7_method_8_code, 4, (some .int), 1, false, 5, [(4, 152), (1, 7), (4, 151), (0, 14)]), (⟨"TideDesk$Ships", "isOf", "(II)Z"⟩, prog_7_method_4_code, 3, (some .boolean), 2, false, 5, [(4, 156), (1, 7), (4, 154), (4, 155)]), (⟨"TideDesk$Ships", "keelOf", "(I)I"⟩, prog_7_method_9_code, 2, (some .int), 1, false, 5, [(4, 160), (1, 7), (4, 159), (0, 15)]), (⟨"TideDesk$Ships", "paceOf", "(I)I"⟩, prog_7_method_10_code, 2, (some .int), 1, false, 5, [(4, 164), (1, 7), (4, 163), (0, 16)]), (⟨"TideDesk$Ships", "patienceOf", "(I)I"⟩, prog_7_method_11_code, 2, (some .int), 1, false, 5, [(4, 168), (1, 7), (4, 167), (0, 17)]), (⟨"TideDesk", "asked", "()I"⟩, prog_1_method_30_code, 1, (some .int), 0, false, 11, [(4, 172), (1, 1), (4, 170), (4, 171)]), (⟨"TideDesk", "trace", "(I)I"⟩, prog_1_method_31_code, 2, (some .int), 1, false, 11, [(4, 176), (1, 1), (4, 174), (4, 175)]), (⟨"TideDesk", "as", "(II)I"⟩, prog_1_method_32_code, 3, (some .int), 2, false, 11, [(4, 180), (1, 1), (4, 178), (4, 179)]), (⟨"TideDesk", "fleet", "(III)I"⟩, prog_1_method_33_code, 4, (some .int), 3, false, 11, [(4, 185), (1, 1), (4, 183), (4, 184)]), (⟨"TideDesk", "isFleet", "(I)Z"⟩, prog_1_method_67_code, 1, (some .boolean), 1, true, 11, [(4, 188), (1, 1), (4, 187), (4, 187)]), (⟨"TideDesk$Fleets", "make", "(III)V"⟩, prog_3_method_3_code, 5, none, 3, false, 1, [(4, 192), (1, 10), (4, 190), (4, 191)]), (⟨"TideDesk", "join", "(III)I"⟩, prog_1_method_34_code, 5, (some .int), 3, false, 11, [(4, 196), (1, 1), (4, 194), (4, 195)])]
def MT3 : List Me := [(⟨"TideDesk$Fleets", "faultAt", "(II)I"⟩, prog_3_method_4_code, 3, (some .int), 2, false, 1, [(4, 200), (1, 10), (4, 198), (4, 199)]), (⟨"TideDesk$Fleets", "takes", "(II)Z"⟩, prog_3_method_5_code, 3, (some .boolean), 2, false, 1, [(4, 204), (1, 10), (4, 202), (4, 203)]), (⟨"TideDesk", "member", "(II)I"⟩, prog_1_method_35_code, 4, (some .int), 2, false, 11, [(4, 209), (1, 1), (4, 207), (4, 208)]), (⟨"TideDesk", "move", "(IIIII)I"⟩, prog_1_method_36_code, 6, (some .int), 5, false, 11, [(4, 213), (1, 1), (4, 211), (4, 212)]), (⟨"TideDesk$Fleets", "isNothing", "(I)Z"⟩, prog_3_method_2_code, 2, (some .boolean), 1, false, 1, [(4, 217), (1, 10), (4, 215), (4, 216)]), (⟨"TideDesk$Fleets", "hasSpan", "(III)Z"⟩, prog_3_method_6_code, 4, (some .boolean), 3, false, 1, [(4, 221), (1, 10), (4, 219), (4, 220)]), (⟨"TideDesk$Fleets", "copy", "(IIII)Z"⟩, prog_3_method_7_code, 6, (some .boolean), 4, false, 1, [(4, 225), (1, 10), (4, 223), (4, 224)]), (⟨"TideDesk", "shared", "(II)I"⟩, prog_1_method_37_code, 4, (some .int), 2, false, 11, [(4, 230), (1, 1), (4, 228), (4, 229)]), (⟨"TideDesk$Fleets", "standing", "(I)I"⟩, prog_3_method_8_code, 4, (some .int), 1, false, 1, [(4, 235), (1, 10), (4, 233), (4, 234)]), (⟨"TideDesk", "leg", "(IIII)I"⟩, prog_1_method_38_code, 5, (some .int), 4, false, 11, [(4, 239), (1, 1), (4, 237), (4, 238)]), (⟨"TideDesk", "isRoute", "(I)Z"⟩, prog_1_method_68_code, 1, (some .boolean), 1, true, 11, [(5, 2), (1, 1), (5, 1), (5, 1)]), (⟨"TideDesk", "isMark", "(I)Z"⟩, prog_1_method_71_code, 1, (some .boolean), 1, true, 11, [(5, 5), (1, 1), (5, 4), (5, 4)]), (⟨"TideDesk$Routes", "lastDistance", "(I)I"⟩, prog_6_method_2_code, 2, (some .int), 1, false, 4, [(5, 9), (1, 8), (5, 7), (5, 8)]), (⟨"TideDesk$Passages", "useRoute", "(I)Z"⟩, prog_5_method_4_code, 3, (some .boolean), 1, false, 3, [(5, 14), (1, 12), (5, 12), (5, 13)]), (⟨"TideDesk$Routes", "add", "(IIII)I"⟩, prog_6_method_3_code, 6, (some .int), 4, false, 4, [(5, 18), (1, 8), (5, 16), (5, 17)]), (⟨"TideDesk", "clear", "(I)I"⟩, prog_1_method_39_code, 3, (some .int), 1, false, 11, [(5, 22), (1, 1), (5, 20), (5, 21)]), (⟨"TideDesk", "sun", "(II)I"⟩, prog_1_method_40_code, 3, (some .int), 2, false, 11, [(5, 26), (1, 1), (5, 24), (5, 25)]), (⟨"TideDesk", "comes", "(IIII)I"⟩, prog_1_method_41_code, 6, (some .int), 4, false, 11, [(5, 31), (1, 1), (5, 29), (5, 30)]), (⟨"TideDesk$Routes", "comingAt", "(III)I"⟩, prog_6_method_4_code, 5, (some .int), 3, false, 4, [(5, 35), (1, 8), (5, 33), (5, 34)]), (⟨"TideDesk", "holds", "(III)I"⟩, prog_1_method_42_code, 4, (some .int), 3, false, 11, [(5, 40), (1, 1), (5, 38), (5, 39)]), (⟨"TideDesk", "isMinute", "(I)Z"⟩, prog_1_method_60_code, 1, (some .boolean), 1, true, 11, [(5, 43), (1, 1), (5, 42), (5, 42)]), (⟨"TideDesk$Voyages", "tryMinute", "(IIII)I"⟩, prog_10_method_2_code, 8, (some .int), 4, false, 8, [(5, 48), (1, 9), (5, 46), (5, 47)]), (⟨"TideDesk$Voyages", "tryLeg", "(III)I"⟩, prog_10_method_3_code, 6, (some .int), 3, false, 8, [(5, 55), (1, 9), (5, 54), (0, 18)]), (⟨"TideDesk", "windows", "(IIII)I"⟩, prog_1_method_43_code, 6, (some .int), 4, false, 11, [(5, 66), (1, 1), (5, 64), (5, 65)]), (⟨"TideDesk$Windows", "begin", "()V"⟩, prog_12_method_2_code, 1, none, 0, false, 10, [(5, 70), (1, 11), (5, 68), (5, 69)]), (⟨"TideDesk$Windows", "take", "(II)V"⟩, prog_12_method_3_code, 3, none, 2, false, 10, [(5, 74), (1, 11), (5, 72), (5, 73)]), (⟨"TideDesk", "window", "(IZ)I"⟩, prog_1_method_44_code, 3, (some .int), 2, false, 11, [(5, 78), (1, 1), (5, 76), (5, 77)]), (⟨"TideDesk", "wrong", "(I)I"⟩, prog_1_method_45_code, 2, (some .int), 1, false, 11, [(5, 82), (1, 1), (5, 80), (5, 81)]), (⟨"TideDesk", "passage", "(III)I"⟩, prog_1_method_46_code, 4, (some .int), 3, false, 11, [(5, 86), (1, 1), (5, 84), (5, 85)]), (⟨"TideDesk$Passages", "add", "(IIII)I"⟩, prog_5_method_2_code, 5, (some .int), 4, false, 3, [(5, 90), (1, 12), (5, 88), (5, 89)]), (⟨"TideDesk$Passages", "letWait", "(II)V"⟩, prog_5_method_3_code, 3, none, 2, false, 3, [(5, 94), (1, 12), (5, 92), (5, 93)]), (⟨"TideDesk", "plan", "()I"⟩, prog_1_method_47_code, 4, (some .int), 0, false, 11, [(5, 98), (1, 1), (5, 96), (5, 97)])]
def MT4 : List Me := [(⟨"TideDesk$Passages", "longestWaiting", "()I"⟩, prog_5_method_5_code, 3, (some .int), 0, false, 3, [(5, 102), (1, 12), (5, 100), (5, 101)]), (⟨"TideDesk$Passages", "settle", "(II)Z"⟩, prog_5_method_6_code, 7, (some .boolean), 2, false, 3, [(5, 106), (1, 12), (5, 104), (5, 105)]), (⟨"TideDesk$Passages", "meetsAny", "(I)Z"⟩, prog_5_method_8_code, 3, (some .boolean), 1, false, 3, [(5, 115), (1, 12), (5, 114), (0, 19)]), (⟨"TideDesk$Passages", "meets", "(II)Z"⟩, prog_5_method_9_code, 5, (some .boolean), 2, false, 3, [(5, 119), (1, 12), (5, 118), (0, 20)]), (⟨"TideDesk$Passages", "meetInLock", "(IIII)Z"⟩, prog_5_method_10_code, 9, (some .boolean), 4, false, 3, [(5, 123), (1, 12), (5, 122), (0, 21)]), (⟨"TideDesk$Passages", "meetInReach", "(IIII)Z"⟩, prog_5_method_11_code, 10, (some .boolean), 4, false, 3, [(5, 127), (1, 12), (5, 126), (0, 22)]), (⟨"TideDesk$Passages", "keepComing", "(I)V"⟩, prog_5_method_7_code, 3, none, 1, false, 3, [(5, 131), (1, 12), (5, 130), (0, 23)]), (⟨"TideDesk", "planned", "(II)I"⟩, prog_1_method_48_code, 3, (some .int), 2, false, 11, [(5, 135), (1, 1), (5, 133), (5, 134)]), (⟨"TideDesk", "isPassage", "(I)Z"⟩, prog_1_method_69_code, 2, (some .boolean), 1, false, 11, [(5, 139), (1, 1), (5, 138), (0, 24)]), (⟨"TideDesk", "again", "(I)I"⟩, prog_1_method_49_code, 2, (some .int), 1, false, 11, [(5, 143), (1, 1), (5, 141), (5, 142)]), (⟨"TideDesk", "pass", "(I)I"⟩, prog_1_method_50_code, 3, (some .int), 1, false, 11, [(5, 148), (1, 1), (5, 146), (5, 147)]), (⟨"TideDesk$Passages", "goThrough", "(I)I"⟩, prog_5_method_12_code, 3, (some .int), 1, false, 3, [(5, 152), (1, 12), (5, 150), (5, 151)]), (⟨"TideDesk$Passages", "holdLocks", "(I)Z"⟩, prog_5_method_13_code, 4, (some .boolean), 1, false, 3, [(5, 156), (1, 12), (5, 155), (0, 25)]), (⟨"TideDesk$Passages", "askAtLast", "(I)I"⟩, prog_5_method_14_code, 2, (some .int), 1, false, 3, [(5, 160), (1, 12), (5, 159), (0, 26)]), (⟨"TideDesk$Passages", "freeAll", "()V"⟩, prog_5_method_15_code, 2, none, 0, false, 3, [(5, 164), (1, 12), (5, 163), (0, 27)]), (⟨"TideDesk", "tries", "()I"⟩, prog_1_method_51_code, 1, (some .int), 0, false, 11, [(5, 168), (1, 1), (5, 166), (5, 167)]), (⟨"TideDesk", "held", "(I)I"⟩, prog_1_method_52_code, 2, (some .int), 1, false, 11, [(5, 172), (1, 1), (5, 170), (5, 171)]), (⟨"TideDesk", "count", "(I)I"⟩, prog_1_method_53_code, 2, (some .int), 1, false, 11, [(5, 176), (1, 1), (5, 174), (5, 175)]), (⟨"TideDesk", "finding", "()I"⟩, prog_1_method_54_code, 1, (some .int), 0, false, 11, [(5, 180), (1, 1), (5, 178), (5, 179)]), (⟨"TideDesk", "digest", "()I"⟩, prog_1_method_55_code, 3, (some .int), 0, false, 11, [(5, 184), (1, 1), (5, 182), (5, 183)]), (⟨"TideDeskModel", "clock", "(I)I"⟩, prog_14_method_6_code, 2, (some .int), 1, false, 12, [(6, 229), (1, 13), (6, 227), (6, 228)]), (⟨"TideDeskModel", "isMoment", "(I)Z"⟩, prog_14_method_3_code, 1, (some .boolean), 1, true, 12, [(6, 232), (1, 13), (6, 231), (6, 231)]), (⟨"TideDeskModel", "in", "(III)Z"⟩, prog_14_method_2_code, 3, (some .boolean), 3, true, 12, [(6, 236), (1, 13), (6, 235), (6, 235)]), (⟨"TideDeskModel", "mean", "(II)I"⟩, prog_14_method_8_code, 4, (some .int), 2, false, 12, [(7, 0), (1, 13), (6, 238), (6, 239)]), (⟨"TideDeskModel", "isStation", "(I)Z"⟩, prog_14_method_7_code, 1, (some .boolean), 1, true, 12, [(7, 3), (1, 13), (7, 2), (7, 2)]), (⟨"TideDeskModel", "wave", "(IIII)I"⟩, prog_14_method_9_code, 6, (some .int), 4, false, 12, [(7, 8), (1, 13), (7, 6), (7, 7)]), (⟨"TideDeskModel", "survey", "(II)I"⟩, prog_14_method_10_code, 4, (some .int), 2, false, 12, [(7, 14), (1, 13), (7, 12), (7, 13)]), (⟨"TideDeskModel", "cos", "(I)J"⟩, prog_14_method_12_code, 2, (some .long), 1, false, 12, [(7, 18), (1, 13), (7, 16), (7, 17)]), (⟨"TideDeskModel", "cosine", "(I)D"⟩, prog_14_method_11_code, 10, (some .double), 1, true, 12, [(7, 21), (1, 13), (7, 20), (7, 20)]), (⟨"java/lang/Double", "doubleToLongBits", "(D)J"⟩, prog_15_method_23_code, 2, (some .long), 1, true, 99, [(7, 31), (1, 14), (7, 30), (7, 30)]), (⟨"java/lang/Double", "isNaN", "(D)Z"⟩, prog_15_method_6_code, 2, (some .boolean), 1, true, 99, [(7, 34), (1, 14), (7, 33), (7, 33)]), (⟨"TideDeskModel", "height", "(III)J"⟩, prog_14_method_16_code, 4, (some .long), 3, false, 12, [(7, 42), (1, 13), (7, 40), (7, 41)])]
def MT5 : List Me := [(⟨"TideDeskModel", "isKnowing", "(II)Z"⟩, prog_14_method_15_code, 3, (some .boolean), 2, false, 12, [(7, 46), (1, 13), (7, 45), (0, 28)]), (⟨"TideDeskModel", "isFull", "()Z"⟩, prog_14_method_4_code, 1, (some .boolean), 0, false, 12, [(7, 50), (1, 13), (7, 49), (0, 29)]), (⟨"TideDeskModel", "rises", "(III)Z"⟩, prog_14_method_14_code, 9, (some .boolean), 3, false, 12, [(7, 55), (1, 13), (7, 54), (0, 30)]), (⟨"TideDeskModel", "inForce", "(III)I"⟩, prog_14_method_13_code, 7, (some .int), 3, false, 12, [(7, 59), (1, 13), (7, 58), (0, 31)]), (⟨"TideDeskModel", "fails", "(I)I"⟩, prog_14_method_5_code, 2, (some .int), 1, false, 12, [(7, 67), (1, 13), (7, 66), (0, 32)]), (⟨"TideDeskModel", "force", "(III)I"⟩, prog_14_method_17_code, 5, (some .int), 3, false, 12, [(7, 71), (1, 13), (7, 69), (7, 70)]), (⟨"TideDeskModel", "gauge", "(III)I"⟩, prog_14_method_20_code, 4, (some .int), 3, false, 12, [(7, 75), (1, 13), (7, 73), (7, 74)]), (⟨"TideDeskModel", "reading", "(III)I"⟩, prog_14_method_22_code, 5, (some .int), 3, false, 12, [(7, 79), (1, 13), (7, 77), (7, 78)]), (⟨"TideDeskModel", "isGauge", "(I)Z"⟩, prog_14_method_18_code, 2, (some .boolean), 1, false, 12, [(7, 83), (1, 13), (7, 82), (0, 33)]), (⟨"TideDeskModel", "momentOf", "(II)I"⟩, prog_14_method_19_code, 3, (some .int), 2, false, 12, [(7, 87), (1, 13), (7, 86), (0, 34)]), (⟨"TideDeskModel", "isNoFloat", "(I)Z"⟩, prog_14_method_21_code, 1, (some .boolean), 1, true, 12, [(7, 90), (1, 13), (7, 89), (7, 89)]), (⟨"TideDeskModel", "out", "(IZ)I"⟩, prog_14_method_23_code, 4, (some .int), 2, false, 12, [(7, 97), (1, 13), (7, 95), (7, 96)]), (⟨"TideDeskModel", "at", "(II)I"⟩, prog_14_method_25_code, 4, (some .int), 2, false, 12, [(7, 101), (1, 13), (7, 99), (7, 100)]), (⟨"TideDeskModel", "reads", "(II)I"⟩, prog_14_method_24_code, 3, (some .int), 2, false, 12, [(7, 105), (1, 13), (7, 104), (0, 35)]), (⟨"TideDeskModel", "air", "(II)I"⟩, prog_14_method_26_code, 4, (some .int), 2, false, 12, [(7, 109), (1, 13), (7, 107), (7, 108)]), (⟨"TideDeskModel", "compare", "(III)I"⟩, prog_14_method_27_code, 8, (some .int), 3, false, 12, [(7, 113), (1, 13), (7, 111), (7, 112)]), (⟨"TideDeskModel", "rule", "(II)I"⟩, prog_14_method_28_code, 4, (some .int), 2, false, 12, [(7, 120), (1, 13), (7, 118), (7, 119)]), (⟨"TideDeskModel", "surge", "(II)J"⟩, prog_14_method_30_code, 4, (some .long), 2, false, 12, [(7, 124), (1, 13), (7, 122), (7, 123)]), (⟨"TideDeskModel", "surges", "(II)I"⟩, prog_14_method_29_code, 11, (some .int), 2, false, 12, [(7, 128), (1, 13), (7, 127), (0, 36)]), (⟨"TideDeskModel", "lacking", "()I"⟩, prog_14_method_31_code, 1, (some .int), 0, false, 12, [(7, 133), (1, 13), (7, 131), (7, 132)]), (⟨"TideDeskModel", "shoal", "(III)I"⟩, prog_14_method_34_code, 4, (some .int), 3, false, 12, [(7, 137), (1, 13), (7, 135), (7, 136)]), (⟨"TideDeskModel", "lay", "(III)V"⟩, prog_14_method_33_code, 4, none, 3, false, 12, [(7, 141), (1, 13), (7, 140), (0, 37)]), (⟨"TideDeskModel", "dredge", "(III)I"⟩, prog_14_method_35_code, 4, (some .int), 3, false, 12, [(7, 145), (1, 13), (7, 143), (7, 144)]), (⟨"TideDeskModel", "isShoal", "(I)Z"⟩, prog_14_method_32_code, 2, (some .boolean), 1, false, 12, [(7, 149), (1, 13), (7, 148), (0, 38)]), (⟨"TideDeskModel", "depth", "(III)J"⟩, prog_14_method_38_code, 4, (some .long), 3, false, 12, [(7, 153), (1, 13), (7, 151), (7, 152)]), (⟨"TideDeskModel", "goesDown", "(III)Z"⟩, prog_14_method_36_code, 7, (some .boolean), 3, false, 12, [(7, 157), (1, 13), (7, 156), (0, 39)]), (⟨"TideDeskModel", "water", "(II)J"⟩, prog_14_method_39_code, 3, (some .long), 2, false, 12, [(7, 161), (1, 13), (7, 159), (7, 160)]), (⟨"TideDeskModel", "flows", "(II)Z"⟩, prog_14_method_37_code, 6, (some .boolean), 2, false, 12, [(7, 165), (1, 13), (7, 164), (0, 40)]), (⟨"TideDeskModel", "waters", "(III)I"⟩, prog_14_method_42_code, 9, (some .int), 3, false, 12, [(7, 169), (1, 13), (7, 167), (7, 168)]), (⟨"TideDeskModel", "heightAt", "(II)D"⟩, prog_14_method_40_code, 4, (some .double), 2, false, 12, [(7, 173), (1, 13), (7, 172), (0, 41)]), (⟨"TideDeskModel", "halved", "(IIIZ)I"⟩, prog_14_method_41_code, 12, (some .int), 4, false, 12, [(7, 177), (1, 13), (7, 176), (0, 42)]), (⟨"TideDeskModel", "found", "(III)I"⟩, prog_14_method_43_code, 5, (some .int), 3, false, 12, [(7, 181), (1, 13), (7, 179), (7, 180)])]
def MT6 : List Me := [(⟨"TideDeskModel", "range", "(II)J"⟩, prog_14_method_46_code, 3, (some .long), 2, false, 12, [(7, 185), (1, 13), (7, 183), (7, 184)]), (⟨"TideDeskModel", "isRange", "(II)Z"⟩, prog_14_method_44_code, 3, (some .boolean), 2, false, 12, [(7, 189), (1, 13), (7, 188), (0, 43)]), (⟨"TideDeskModel", "rangeOf", "(II)D"⟩, prog_14_method_45_code, 7, (some .double), 2, false, 12, [(7, 193), (1, 13), (7, 192), (0, 44)]), (⟨"TideDeskModel", "spring", "(IZ)I"⟩, prog_14_method_47_code, 9, (some .int), 2, false, 12, [(7, 197), (1, 13), (7, 195), (7, 196)]), (⟨"TideDeskModel", "tide", "(III)I"⟩, prog_14_method_48_code, 5, (some .int), 3, false, 12, [(7, 201), (1, 13), (7, 199), (7, 200)]), (⟨"TideDeskModel", "stream", "(II)I"⟩, prog_14_method_50_code, 4, (some .int), 2, false, 12, [(7, 207), (1, 13), (7, 205), (7, 206)]), (⟨"TideDeskModel", "streams", "(II)I"⟩, prog_14_method_49_code, 7, (some .int), 2, false, 12, [(7, 211), (1, 13), (7, 210), (0, 45)]), (⟨"TideDeskModel", "ship", "(IIIIII)I"⟩, prog_14_method_53_code, 10, (some .int), 6, false, 12, [(7, 215), (1, 13), (7, 213), (7, 214)]), (⟨"TideDeskModel", "isPart", "(I)Z"⟩, prog_14_method_52_code, 2, (some .boolean), 1, false, 12, [(7, 219), (1, 13), (7, 218), (0, 46)]), (⟨"TideDeskModel", "isShip", "(I)Z"⟩, prog_14_method_51_code, 2, (some .boolean), 1, false, 12, [(7, 223), (1, 13), (7, 222), (0, 47)]), (⟨"TideDeskModel", "ask", "(II)I"⟩, prog_14_method_62_code, 4, (some .int), 2, false, 12, [(7, 227), (1, 13), (7, 225), (7, 226)]), (⟨"TideDeskModel", "asks", "(II)I"⟩, prog_14_method_61_code, 7, (some .int), 2, false, 12, [(7, 231), (1, 13), (7, 230), (0, 48)]), (⟨"TideDeskModel", "joined", "(III)I"⟩, prog_14_method_60_code, 3, (some .int), 3, true, 12, [(7, 234), (1, 13), (7, 233), (7, 233)]), (⟨"TideDeskModel", "begins", "(I)V"⟩, prog_14_method_54_code, 2, none, 1, false, 12, [(7, 238), (1, 13), (7, 237), (0, 49)]), (⟨"TideDeskModel", "asksOne", "(II)I"⟩, prog_14_method_59_code, 3, (some .int), 2, false, 12, [(8, 2), (1, 13), (8, 1), (0, 50)]), (⟨"TideDeskModel", "needOf", "(I)V"⟩, prog_14_method_56_code, 3, none, 1, false, 12, [(8, 6), (1, 13), (8, 5), (0, 51)]), (⟨"TideDeskModel", "keelOf", "(I)V"⟩, prog_14_method_55_code, 3, none, 1, false, 12, [(8, 10), (1, 13), (8, 9), (0, 52)]), (⟨"TideDeskModel", "paceOf", "(I)I"⟩, prog_14_method_57_code, 2, (some .int), 1, false, 12, [(8, 14), (1, 13), (8, 13), (0, 53)]), (⟨"TideDeskModel", "patienceOf", "(I)V"⟩, prog_14_method_58_code, 2, none, 1, false, 12, [(8, 18), (1, 13), (8, 17), (0, 54)]), (⟨"TideDeskModel", "asked", "()I"⟩, prog_14_method_63_code, 1, (some .int), 0, false, 12, [(8, 22), (1, 13), (8, 20), (8, 21)]), (⟨"TideDeskModel", "trace", "(I)I"⟩, prog_14_method_64_code, 2, (some .int), 1, false, 12, [(8, 26), (1, 13), (8, 24), (8, 25)]), (⟨"TideDeskModel", "as", "(II)I"⟩, prog_14_method_66_code, 3, (some .int), 2, false, 12, [(8, 30), (1, 13), (8, 28), (8, 29)]), (⟨"TideDeskModel", "isOf", "(II)Z"⟩, prog_14_method_65_code, 4, (some .boolean), 2, false, 12, [(8, 34), (1, 13), (8, 33), (0, 55)]), (⟨"TideDeskModel", "fleet", "(III)I"⟩, prog_14_method_68_code, 5, (some .int), 3, false, 12, [(8, 38), (1, 13), (8, 36), (8, 37)]), (⟨"TideDeskModel", "isFleet", "(I)Z"⟩, prog_14_method_67_code, 1, (some .boolean), 1, true, 12, [(8, 41), (1, 13), (8, 40), (8, 40)]), (⟨"TideDeskModel", "join", "(III)I"⟩, prog_14_method_71_code, 5, (some .int), 3, false, 12, [(8, 45), (1, 13), (8, 43), (8, 44)]), (⟨"TideDeskModel", "stands", "(II)I"⟩, prog_14_method_69_code, 3, (some .int), 2, false, 12, [(8, 49), (1, 13), (8, 48), (0, 56)]), (⟨"TideDeskModel", "takes", "(II)Z"⟩, prog_14_method_70_code, 3, (some .boolean), 2, false, 12, [(8, 53), (1, 13), (8, 52), (0, 57)]), (⟨"TideDeskModel", "member", "(II)I"⟩, prog_14_method_72_code, 4, (some .int), 2, false, 12, [(8, 57), (1, 13), (8, 55), (8, 56)]), (⟨"TideDeskModel", "move", "(IIIII)I"⟩, prog_14_method_73_code, 7, (some .int), 5, false, 12, [(8, 61), (1, 13), (8, 59), (8, 60)]), (⟨"TideDeskModel", "shared", "(II)I"⟩, prog_14_method_74_code, 5, (some .int), 2, false, 12, [(8, 65), (1, 13), (8, 63), (8, 64)]), (⟨"TideDeskModel", "leg", "(IIII)I"⟩, prog_14_method_77_code, 7, (some .int), 4, false, 12, [(8, 70), (1, 13), (8, 68), (8, 69)])]
def MT7 : List Me := [(⟨"TideDeskModel", "isRoute", "(I)Z"⟩, prog_14_method_75_code, 1, (some .boolean), 1, true, 12, [(8, 73), (1, 13), (8, 72), (8, 72)]), (⟨"TideDeskModel", "isStarted", "(I)Z"⟩, prog_14_method_76_code, 4, (some .boolean), 1, false, 12, [(8, 78), (1, 13), (8, 77), (0, 58)]), (⟨"TideDeskModel", "clear", "(I)I"⟩, prog_14_method_78_code, 3, (some .int), 1, false, 12, [(8, 82), (1, 13), (8, 80), (8, 81)]), (⟨"TideDeskModel", "sun", "(II)I"⟩, prog_14_method_79_code, 3, (some .int), 2, false, 12, [(8, 86), (1, 13), (8, 84), (8, 85)]), (⟨"TideDeskModel", "comes", "(IIII)I"⟩, prog_14_method_81_code, 7, (some .int), 4, false, 12, [(8, 90), (1, 13), (8, 88), (8, 89)]), (⟨"TideDeskModel", "comesAt", "(III)I"⟩, prog_14_method_80_code, 3, (some .int), 3, true, 12, [(8, 93), (1, 13), (8, 92), (8, 92)]), (⟨"TideDeskModel", "holds", "(III)I"⟩, prog_14_method_85_code, 5, (some .int), 3, false, 12, [(8, 97), (1, 13), (8, 95), (8, 96)]), (⟨"TideDeskModel", "isMinute", "(I)Z"⟩, prog_14_method_84_code, 1, (some .boolean), 1, true, 12, [(8, 100), (1, 13), (8, 99), (8, 99)]), (⟨"TideDeskModel", "looks", "(III)I"⟩, prog_14_method_83_code, 10, (some .int), 3, false, 12, [(8, 105), (1, 13), (8, 104), (0, 59)]), (⟨"TideDeskModel", "passes", "(IIIZ)I"⟩, prog_14_method_82_code, 7, (some .int), 4, false, 12, [(8, 109), (1, 13), (8, 108), (0, 60)]), (⟨"TideDeskModel", "windows", "(IIII)I"⟩, prog_14_method_86_code, 8, (some .int), 4, false, 12, [(8, 113), (1, 13), (8, 111), (8, 112)]), (⟨"TideDeskModel", "window", "(IZ)I"⟩, prog_14_method_87_code, 3, (some .int), 2, false, 12, [(8, 118), (1, 13), (8, 116), (8, 117)]), (⟨"TideDeskModel", "wrong", "(I)I"⟩, prog_14_method_88_code, 2, (some .int), 1, false, 12, [(8, 122), (1, 13), (8, 120), (8, 121)]), (⟨"TideDeskModel", "passage", "(III)I"⟩, prog_14_method_89_code, 4, (some .int), 3, false, 12, [(8, 126), (1, 13), (8, 124), (8, 125)]), (⟨"TideDeskModel", "plan", "()I"⟩, prog_14_method_95_code, 5, (some .int), 0, false, 12, [(8, 130), (1, 13), (8, 128), (8, 129)]), (⟨"TideDeskModel", "plans", "(I)V"⟩, prog_14_method_94_code, 7, none, 1, false, 12, [(8, 134), (1, 13), (8, 133), (0, 61)]), (⟨"TideDeskModel", "isFree", "(I)Z"⟩, prog_14_method_93_code, 4, (some .boolean), 1, false, 12, [(8, 138), (1, 13), (8, 137), (0, 62)]), (⟨"TideDeskModel", "isWith", "(II)Z"⟩, prog_14_method_92_code, 13, (some .boolean), 2, false, 12, [(8, 142), (1, 13), (8, 141), (0, 63)]), (⟨"TideDeskModel", "comesTo", "(II)I"⟩, prog_14_method_91_code, 3, (some .int), 2, false, 12, [(8, 146), (1, 13), (8, 145), (0, 64)]), (⟨"TideDeskModel", "meet", "(IIII)Z"⟩, prog_14_method_90_code, 4, (some .boolean), 4, true, 12, [(8, 149), (1, 13), (8, 148), (8, 148)]), (⟨"TideDeskModel", "planned", "(II)I"⟩, prog_14_method_97_code, 3, (some .int), 2, false, 12, [(8, 153), (1, 13), (8, 151), (8, 152)]), (⟨"TideDeskModel", "isPassage", "(I)Z"⟩, prog_14_method_96_code, 2, (some .boolean), 1, false, 12, [(8, 157), (1, 13), (8, 156), (0, 65)]), (⟨"TideDeskModel", "again", "(I)I"⟩, prog_14_method_98_code, 2, (some .int), 1, false, 12, [(8, 161), (1, 13), (8, 159), (8, 160)]), (⟨"TideDeskModel", "pass", "(I)I"⟩, prog_14_method_100_code, 4, (some .int), 1, false, 12, [(8, 165), (1, 13), (8, 163), (8, 164)]), (⟨"TideDeskModel", "goes", "(II)I"⟩, prog_14_method_99_code, 7, (some .int), 2, false, 12, [(8, 169), (1, 13), (8, 168), (0, 66)]), (⟨"TideDeskModel", "tries", "()I"⟩, prog_14_method_101_code, 1, (some .int), 0, false, 12, [(8, 173), (1, 13), (8, 171), (8, 172)]), (⟨"TideDeskModel", "held", "(I)I"⟩, prog_14_method_102_code, 2, (some .int), 1, false, 12, [(8, 177), (1, 13), (8, 175), (8, 176)]), (⟨"TideDeskModel", "count", "(I)I"⟩, prog_14_method_103_code, 2, (some .int), 1, false, 12, [(8, 181), (1, 13), (8, 179), (8, 180)]), (⟨"TideDeskModel", "finding", "()I"⟩, prog_14_method_104_code, 1, (some .int), 0, false, 12, [(8, 185), (1, 13), (8, 183), (8, 184)]), (⟨"TideDeskModel", "digest", "()I"⟩, prog_14_method_105_code, 3, (some .int), 0, false, 12, [(8, 189), (1, 13), (8, 187), (8, 188)])]
def MT : List Me := MT0 ++ MT1 ++ MT2 ++ MT3 ++ MT4 ++ MT5 ++ MT6 ++ MT7
def plc (q : Me) (i : Nat) : Option Cond := match nth q.2.2.2.2.2.2.2 i with
  | some z => nth (tb z.1) z.2
  | none => none
def mw (q : Me) : List (Option Cond) := [plc q 0, plc q 1, plc q 2, plc q 3]
def mw' (q : Me) : List (Option Cond) := match q.2.2.2.2.2.1 with
  | true => [some (Cond.code q.1 q.2.1 q.2.2.1 q.2.2.2.1), some (Cond.initialized q.1.cls), some (Cond.static q.1), some (Cond.static q.1)]
  | false => [some (Cond.code q.1 q.2.1 q.2.2.1 q.2.2.2.1), some (Cond.initialized q.1.cls), some (Cond.instanceMethod q.1), some (Cond.selects q.1.cls q.1 q.1)]
def okM (q : Me) : Bool := decide (q.1.cls ≠ "java/lang/invoke/MethodHandle") && decide (q.1.cls ≠ "java/lang/invoke/VarHandle") && decide ((parseMethodDescriptor q.1.desc).map (fun d => d.parameters.length) = some q.2.2.2.2.1) && Nat.ble q.2.2.1 40 && plainFor q.1 && (match q.2.2.2.2.2.1 with
  | true => true
  | false => decide ((vwCl[q.2.2.2.2.2.2.1]?).map (fun z => z.1) = some q.1.cls))
set_option maxRecDepth 100000 in
theorem MT0_w : MT0.map mw = MT0.map mw' := rfl
theorem MT0_ok : MT0.all okM = true := by decide +kernel
set_option maxRecDepth 100000 in
theorem MT1_w : MT1.map mw = MT1.map mw' := rfl
theorem MT1_ok : MT1.all okM = true := by decide +kernel
set_option maxRecDepth 100000 in
theorem MT2_w : MT2.map mw = MT2.map mw' := rfl
theorem MT2_ok : MT2.all okM = true := by decide +kernel
set_option maxRecDepth 100000 in
theorem MT3_w : MT3.map mw = MT3.map mw' := rfl
theorem MT3_ok : MT3.all okM = true := by decide +kernel
set_option maxRecDepth 100000 in
theorem MT4_w : MT4.map mw = MT4.map mw' := rfl
theorem MT4_ok : MT4.all okM = true := by decide +kernel
set_option maxRecDepth 100000 in
theorem MT5_w : MT5.map mw = MT5.map mw' := rfl
theorem MT5_ok : MT5.all okM = true := by decide +kernel
set_option maxRecDepth 100000 in
theorem MT6_w : MT6.map mw = MT6.map mw' := rfl
theorem MT6_ok : MT6.all okM = true := by decide +kernel
set_option maxRecDepth 100000 in
theorem MT7_w : MT7.map mw = MT7.map mw' := rfl
theorem MT7_ok : MT7.all okM = true := by decide +kernel
theorem MT_ok : MT.all okM = true := by simp only [MT, List.all_append, MT0_ok, MT1_ok, MT2_ok, MT3_ok, MT4_ok, MT5_ok, MT6_ok, MT7_ok]; rfl
theorem MT_w : MT.map mw = MT.map mw' := by simp only [MT, List.map_append, MT0_w, MT1_w, MT2_w, MT3_w, MT4_w, MT5_w, MT6_w, MT7_w]
def cT (ci : Nat) : vw_C := match nth vwCl ci with
  | some z => z
  | none => (RX0, TX0, 0)
/-- a field that a pool names: place in the pool, kind, number, whether by the nest, where its word stands -/
abbrev Pf : Type := Nat × Nat × Nat × Bool × Nat × Nat
def wF (own : String) (q : Pf) : Cond := match q.2.2.2.1 with
  | true => .fieldLinkNest own q.1 ((cT q.2.1).2.1 q.2.2.1).1 ((cT q.2.1).2.1 q.2.2.1).2.1 ((cT q.2.1).2.1 q.2.2.1).2.2.1 "TideDesk"
  | false => .fieldLink own q.1 ((cT q.2.1).2.1 q.2.2.1).1 ((cT q.2.1).2.1 q.2.2.1).2.1 ((cT q.2.1).2.1 q.2.2.1).2.2.1
abbrev Pc : Type := Nat × Value × Nat × Nat
def wC (own : String) (q : Pc) : Cond := match q.2.1 with
  | .int x => .constant own q.1 x
  | .long x => .constantLong own q.1 x
  | .float x => .constantFloat own q.1 x
  | .double x => .constantDouble own q.1 x
  | _ => .initialized own
abbrev Pm : Type := Nat × Nat × Nat × Nat
def wM (own : String) (q : Pm) : Cond := match nth MT q.2.1 with
  | some z => .methodLink own q.1 z.1
  | none => .initialized own
def yN (t : Nat) : MethodName := match t with
  | 1 => ⟨"java/lang/Float", "intBitsToFloat", "(I)F"⟩
  | _ => ⟨"java/lang/Double", "doubleToRawLongBits", "(D)J"⟩
def wN (own : String) (q : Pm) : Cond := .methodLink own q.1 (yN q.2.1)
/-- a class's pool: fields, constants, methods, natives -/
abbrev Pl : Type := String × List Pf × List Pc × List Pm × List Pm
def PlOk (P : Pl) : Prop := P.2.1.map (fun q => nth (tb q.2.2.2.2.1) q.2.2.2.2.2) = P.2.1.map (fun q => some (wF P.1 q)) ∧ P.2.2.1.map (fun q => nth (tb q.2.2.1) q.2.2.2) = P.2.2.1.map (fun q => some (wC P.1 q)) ∧ P.2.2.2.1.map (fun q => nth (tb q.2.2.1) q.2.2.2) = P.2.2.2.1.map (fun q => some (wM P.1 q)) ∧ P.2.2.2.2.map (fun q => nth (tb q.2.2.1) q.2.2.2) = P.2.2.2.2.map (fun q => some (wN P.1 q))
set_option maxRecDepth 100000 in
theorem nat_ok : (Cond.native (yN 1) ∈ gt ∧ Cond.static (yN 1) ∈ gt ∧ Cond.initialized "java/lang/Float" ∈ gt) ∧ Cond.native (yN 2) ∈ gt ∧ Cond.static (yN 2) ∈ gt ∧ Cond.initialized "java/lang/Double" ∈ gt := ⟨⟨gt_in (t := 7) (o := 116) rfl rfl, gt_in (t := 7) (o := 115) rfl rfl, gt_in (t := 1) (o := 15) rfl rfl⟩, gt_in (t := 7) (o := 37) rfl rfl, gt_in (t := 7) (o := 36) rfl rfl, gt_in (t := 1) (o := 14) rfl rfl⟩
def P_X : Pl := ("TideDesk", [(39, 11, 0, false, 2, 219), (43, 11, 1, false, 2, 220), (47, 11, 2, false, 2, 221), (51, 11, 3, false, 2, 222), (55, 11, 4, false, 2, 223), (59, 11, 5, false, 2, 224), (68, 11, 6, false, 2, 225), (72, 11, 7, false, 2, 226), (76, 11, 8, false, 2, 227), (83, 11, 9, false, 2, 228), (92, 11, 10, false, 2, 229), (100, 11, 11, false, 2, 230), (157, 7, 4, true, 1, 51), (167, 2, 5, true, 1, 94), (173, 2, 4, true, 1, 92), (187, 2, 6, true, 1, 96), (191, 2, 7, true, 1, 98), (197, 2, 10, true, 1, 103), (200, 2, 11, true, 1, 105), (203, 9, 7, true, 1, 204), (209, 2, 13, true, 1, 108), (212, 11, 13, false, 2, 232), (246, 9, 1, true, 1, 193), (247, 9, 2, true, 1, 195), (250, 9, 3, true, 1, 197), (267, 9, 6, true, 1, 202), (282, 5, 8, true, 1, 239), (288, 5, 10, true, 2, 5), (291, 11, 12, false, 2, 231), (294, 5, 7, true, 1, 237), (300, 5, 3, true, 1, 232), (314, 1, 4, true, 2, 109), (344, 4, 0, true, 2, 38), (348, 8, 6, true, 2, 69), (351, 8, 7, true, 2, 71), (369, 10, 2, true, 2, 135), (371, 10, 1, true, 2, 133), (374, 10, 0, true, 2, 131), (377, 10, 3, true, 2, 137), (380, 10, 4, true, 2, 139), (394, 3, 10, true, 2, 173), (397, 3, 9, true, 2, 171), (400, 3, 8, true, 2, 169), (409, 3, 14, true, 2, 179), (412, 3, 15, true, 2, 181), (415, 3, 16, true, 2, 183), (418, 7, 9, true, 1, 57), (421, 2, 9, true, 1, 101), (422, 6, 8, true, 1, 161), (423, 6, 9, true, 1, 163), (426, 5, 9, true, 2, 1), (427, 3, 13, true, 2, 177), (428, 0, 0, true, 1, 32), (431, 0, 1, true, 1, 34)], [(111, .int (-100000), 3, 40), (116, .int 60000, 3, 49), (117, .int 65535, 3, 50), (144, .long 9221120237041090560, 3, 101), (180, .int 2143289344, 3, 149), (265, .int 2147483647, 3, 147), (266, .int 1101004800, 4, 83), (326, .int 1000000, 4, 231), (339, .int 50000, 5, 10), (347, .int 86400, 5, 27), (434, .int 2592000, 3, 29), (435, .int 43200, 5, 44), (436, .int 2139095040, 3, 148), (440, .long 1023, 3, 84), (442, .double 4611686018427387904, 3, 85), (444, .double 4602678819172646912, 3, 86), (446, .double 4841369599423283200, 3, 87), (448, .long (-9223372036854775808), 3, 88)], [(96, 1, 3, 26), (104, 3, 3, 34), (107, 4, 3, 37), (112, 5, 3, 41), (118, 7, 3, 51), (122, 9, 3, 59), (125, 10, 3, 62), (129, 12, 3, 70), (133, 13, 3, 81), (137, 15, 3, 93), (140, 16, 3, 97), (146, 17, 3, 102), (149, 18, 3, 107), (153, 19, 3, 111), (161, 22, 3, 128), (164, 24, 3, 136), (170, 25, 3, 140), (177, 26, 3, 144), (181, 27, 3, 150), (184, 30, 3, 162), (194, 33, 3, 174), (206, 37, 3, 188), (215, 39, 3, 200), (219, 42, 3, 213), (222, 43, 3, 216), (224, 46, 3, 228), (227, 47, 3, 232), (230, 49, 4, 0), (233, 51, 4, 10), (236, 53, 4, 20), (239, 56, 4, 35), (243, 57, 4, 41), (253, 62, 4, 61), (257, 63, 4, 65), (261, 65, 4, 73), (270, 68, 4, 88), (273, 73, 4, 107), (276, 76, 4, 118), (279, 78, 4, 126), (285, 79, 4, 130), (297, 85, 4, 181), (303, 93, 4, 186), (306, 94, 4, 189), (310, 96, 4, 197), (311, 97, 4, 201), (317, 100, 4, 214), (320, 101, 4, 218), (323, 102, 4, 222), (327, 104, 4, 232), (330, 106, 5, 0), (333, 107, 5, 3), (336, 108, 5, 6), (340, 109, 5, 11), (343, 110, 5, 15), (354, 114, 5, 32), (357, 116, 5, 41), (360, 117, 5, 45), (363, 120, 5, 67), (366, 121, 5, 71), (383, 125, 5, 87), (384, 128, 5, 99), (388, 129, 5, 103), (391, 136, 5, 136), (403, 126, 5, 144), (406, 139, 5, 149), (437, 34, 3, 177)], [])
set_option maxRecDepth 100000 in
theorem P_X_ok : PlOk P_X := ⟨rfl, rfl, rfl, rfl⟩
def P_Findings : Pl := ("TideDesk$Findings", [(9, 0, 0, false, 1, 31), (15, 0, 1, false, 1, 33)], [], [], [])
set_option maxRecDepth 100000 in
theorem P_Findings_ok : PlOk P_Findings := ⟨rfl, rfl, rfl, rfl⟩
def P_Fleets : Pl := ("TideDesk$Fleets", [(9, 1, 1, false, 2, 105), (15, 1, 2, false, 2, 106), (19, 1, 3, false, 2, 107), (22, 1, 4, false, 2, 108), (25, 1, 5, false, 2, 110), (28, 1, 0, false, 2, 104)], [], [(32, 85, 4, 205), (38, 97, 4, 226)], [])
set_option maxRecDepth 100000 in
theorem P_Fleets_ok : PlOk P_Fleets := ⟨rfl, rfl, rfl, rfl⟩
def P_Gauges : Pl := ("TideDesk$Gauges", [(9, 2, 1, false, 1, 87), (15, 2, 2, false, 1, 88), (18, 2, 3, false, 1, 89), (21, 2, 4, false, 1, 90), (25, 2, 5, false, 1, 93), (28, 2, 6, false, 1, 95), (32, 2, 7, false, 1, 97), (35, 2, 8, false, 1, 99), (39, 2, 10, false, 1, 102), (43, 2, 11, false, 1, 104), (46, 2, 0, false, 1, 86), (50, 2, 9, false, 1, 100), (57, 2, 12, false, 1, 106), (60, 2, 13, false, 1, 107), (79, 2, 14, false, 1, 109)], [(69, .double 4636737291354636288, 3, 194), (82, .double 4660134898793709568, 3, 204)], [(53, 25, 3, 192), (63, 17, 3, 193), (71, 19, 3, 195), (75, 38, 3, 196)], [])
set_option maxRecDepth 100000 in
theorem P_Gauges_ok : PlOk P_Gauges := ⟨rfl, rfl, rfl, rfl⟩
def P_Passages : Pl := ("TideDesk$Passages", [(9, 3, 5, false, 2, 165), (15, 3, 6, false, 2, 166), (18, 3, 7, false, 2, 167), (21, 3, 8, false, 2, 168), (24, 3, 9, false, 2, 170), (27, 3, 10, false, 2, 172), (31, 3, 11, false, 2, 174), (34, 3, 12, false, 2, 175), (37, 3, 0, false, 2, 160), (41, 3, 1, false, 2, 161), (45, 3, 2, false, 2, 162), (49, 3, 3, false, 2, 163), (53, 3, 4, false, 2, 164), (57, 3, 13, false, 2, 176), (71, 5, 10, true, 2, 4), (101, 8, 5, true, 2, 67), (106, 4, 0, true, 2, 37), (118, 4, 1, true, 2, 41), (121, 6, 3, true, 1, 155), (126, 3, 14, false, 2, 178), (129, 3, 16, false, 2, 182), (141, 3, 15, false, 2, 180)], [(80, .int 43200, 5, 109)], [(61, 126, 5, 91), (65, 79, 5, 107), (74, 18, 5, 108), (81, 83, 5, 110), (87, 117, 5, 111), (93, 130, 5, 112), (97, 134, 5, 128), (102, 131, 5, 116), (111, 132, 5, 120), (115, 133, 5, 124), (132, 140, 5, 153), (135, 141, 5, 157), (138, 142, 5, 161)], [])
set_option maxRecDepth 100000 in
theorem P_Passages_ok : PlOk P_Passages := ⟨rfl, rfl, rfl, rfl⟩
def P_Routes : Pl := ("TideDesk$Routes", [(9, 4, 0, false, 2, 35), (15, 4, 1, false, 2, 39), (18, 4, 2, false, 2, 42), (21, 4, 3, false, 2, 43)], [(24, .int 2592000, 5, 36)], [], [])
set_option maxRecDepth 100000 in
theorem P_Routes_ok : PlOk P_Routes := ⟨rfl, rfl, rfl, rfl⟩
def P_Ships : Pl := ("TideDesk$Ships", [(9, 5, 0, false, 1, 228), (15, 5, 1, false, 1, 229), (18, 5, 2, false, 1, 230), (21, 5, 3, false, 1, 231), (24, 5, 4, false, 1, 233), (27, 5, 5, false, 1, 234), (30, 5, 6, false, 1, 235), (33, 5, 7, false, 1, 236), (46, 5, 9, false, 2, 0), (50, 5, 10, false, 2, 3), (86, 5, 8, false, 1, 238)], [], [(36, 74, 4, 111), (40, 75, 4, 115), (53, 80, 4, 134), (57, 84, 4, 149), (60, 86, 4, 157), (63, 87, 4, 161), (66, 88, 4, 165), (69, 82, 4, 141), (73, 81, 4, 138), (76, 79, 4, 145), (79, 83, 4, 146), (82, 85, 4, 153)], [])
set_option maxRecDepth 100000 in
theorem P_Ships_ok : PlOk P_Ships := ⟨rfl, rfl, rfl, rfl⟩
def P_Shoals : Pl := ("TideDesk$Shoals", [(9, 6, 2, false, 1, 152), (15, 6, 3, false, 1, 154), (18, 6, 4, false, 1, 156), (21, 6, 5, false, 1, 157), (24, 6, 6, false, 1, 158), (27, 6, 7, false, 1, 159), (30, 6, 0, false, 1, 150), (34, 6, 1, false, 1, 151), (38, 6, 8, false, 1, 160), (46, 6, 9, false, 1, 162), (74, 2, 4, true, 1, 91)], [(49, .int 86400, 4, 8), (59, .double 4636737291354636288, 4, 14)], [(42, 44, 3, 220), (50, 50, 4, 4), (54, 17, 4, 9), (61, 19, 4, 15), (65, 51, 4, 24), (68, 54, 4, 25), (78, 37, 4, 29), (81, 39, 4, 30)], [])
set_option maxRecDepth 100000 in
theorem P_Shoals_ok : PlOk P_Shoals := ⟨rfl, rfl, rfl, rfl⟩
def P_Surveys : Pl := ("TideDesk$Surveys", [(9, 7, 0, false, 1, 46), (15, 7, 1, false, 1, 47), (18, 7, 2, false, 1, 48), (21, 7, 3, false, 1, 49), (24, 7, 4, false, 1, 50), (27, 7, 5, false, 1, 52), (30, 7, 6, false, 1, 53), (33, 7, 7, false, 1, 54), (36, 7, 8, false, 1, 55), (39, 7, 9, false, 1, 56)], [(43, .int 86400, 3, 106), (48, .double 4636737291354636288, 3, 116), (50, .long 1000, 3, 117), (52, .double 4652007308841189376, 3, 118), (58, .long 65535, 3, 73), (60, .int 32768, 3, 74), (61, .int 65536, 3, 75), (62, .double 4670232813583204352, 3, 76), (64, .double 4608234912510526942, 3, 77), (66, .double 4598241323522939587, 3, 78), (68, .double 4581670710316679173, 3, 79), (70, .double 4561617902785116854, 3, 80)], [(44, 17, 3, 115), (54, 12, 3, 119)], [])
set_option maxRecDepth 100000 in
theorem P_Surveys_ok : PlOk P_Surveys := ⟨rfl, rfl, rfl, rfl⟩
def P_Voyages : Pl := ("TideDesk$Voyages", [(9, 8, 5, false, 2, 66), (15, 8, 6, false, 2, 68), (20, 8, 7, false, 2, 70), (23, 8, 0, false, 2, 61), (27, 8, 1, false, 2, 62), (31, 8, 2, false, 2, 63), (35, 8, 3, false, 2, 64), (39, 8, 4, false, 2, 65), (49, 8, 8, false, 2, 72), (52, 5, 10, true, 2, 2), (55, 8, 9, false, 2, 73), (58, 8, 10, false, 2, 74), (68, 4, 0, true, 2, 36), (80, 4, 1, true, 2, 40), (95, 4, 3, true, 2, 44), (99, 6, 2, true, 1, 153), (108, 9, 6, true, 1, 201)], [(79, .int 86400, 5, 56), (93, .double 4636737291354636288, 5, 59), (98, .int 2143289344, 5, 60), (111, .int 2147483647, 5, 62)], [(43, 79, 5, 49), (62, 18, 5, 50), (73, 114, 5, 51), (76, 118, 5, 52), (83, 49, 5, 57), (89, 53, 5, 58), (102, 68, 5, 61)], [])
set_option maxRecDepth 100000 in
theorem P_Voyages_ok : PlOk P_Voyages := ⟨rfl, rfl, rfl, rfl⟩
def P_Waters : Pl := ("TideDesk$Waters", [(9, 9, 1, false, 1, 192), (15, 9, 2, false, 1, 194), (18, 9, 3, false, 1, 196), (22, 9, 4, false, 1, 198), (26, 9, 5, false, 1, 199), (32, 9, 7, false, 1, 203), (36, 9, 0, false, 1, 191)], [(75, .int 2592000, 4, 96)], [(40, 17, 4, 39), (46, 19, 4, 40), (50, 58, 4, 45), (54, 59, 4, 49), (58, 62, 4, 77), (62, 63, 4, 78), (66, 69, 4, 92), (70, 71, 4, 100), (76, 70, 4, 97)], [])
set_option maxRecDepth 100000 in
theorem P_Waters_ok : PlOk P_Waters := ⟨rfl, rfl, rfl, rfl⟩
def P_Windows : Pl := ("TideDesk$Windows", [(9, 10, 0, false, 2, 130), (15, 10, 1, false, 2, 132), (18, 10, 2, false, 2, 134), (22, 10, 3, false, 2, 136), (25, 10, 4, false, 2, 138), (28, 10, 5, false, 2, 140)], [], [], [])
set_option maxRecDepth 100000 in
theorem P_Windows_ok : PlOk P_Windows := ⟨rfl, rfl, rfl, rfl⟩
def P_M : Pl := ("TideDeskModel", [(7, 12, 3, false, 5, 195), (13, 12, 4, false, 5, 196), (16, 12, 5, false, 5, 197), (19, 12, 6, false, 5, 198), (22, 12, 7, false, 5, 199), (25, 12, 9, false, 5, 201), (28, 12, 10, false, 5, 202), (31, 12, 11, false, 5, 203), (34, 12, 12, false, 5, 204), (37, 12, 13, false, 5, 205), (40, 12, 14, false, 5, 206), (43, 12, 15, false, 5, 207), (46, 12, 16, false, 5, 208), (49, 12, 19, false, 5, 211), (52, 12, 20, false, 5, 212), (55, 12, 21, false, 5, 213), (58, 12, 22, false, 5, 214), (62, 12, 23, false, 5, 215), (65, 12, 24, false, 5, 216), (68, 12, 25, false, 5, 217), (71, 12, 26, false, 5, 218), (75, 12, 27, false, 5, 219), (78, 12, 28, false, 5, 220), (81, 12, 30, false, 5, 222), (85, 12, 34, false, 5, 226), (88, 12, 35, false, 5, 227), (91, 12, 38, false, 5, 230), (94, 12, 39, false, 5, 231), (97, 12, 40, false, 5, 232), (100, 12, 41, false, 5, 233), (103, 12, 42, false, 5, 234), (106, 12, 43, false, 5, 235), (109, 12, 44, false, 5, 236), (112, 12, 45, false, 5, 237), (115, 12, 46, false, 5, 238), (118, 12, 47, false, 5, 239), (121, 12, 50, false, 6, 2), (124, 12, 51, false, 6, 3), (127, 12, 52, false, 6, 4), (130, 12, 53, false, 6, 5), (133, 12, 54, false, 6, 6), (136, 12, 55, false, 6, 7), (139, 12, 58, false, 6, 10), (142, 12, 59, false, 6, 11), (145, 12, 60, false, 6, 12), (148, 12, 61, false, 6, 13), (151, 12, 63, false, 6, 15), (154, 12, 64, false, 6, 16), (157, 12, 65, false, 6, 17), (160, 12, 66, false, 6, 18), (163, 12, 67, false, 6, 19), (166, 12, 68, false, 6, 20), (169, 12, 69, false, 6, 21), (172, 12, 70, false, 6, 22), (175, 12, 71, false, 6, 23), (179, 12, 72, false, 6, 24), (182, 12, 74, false, 6, 26), (185, 12, 75, false, 6, 27), (188, 12, 79, false, 6, 31), (191, 12, 80, false, 6, 32), (194, 12, 81, false, 6, 33), (197, 12, 82, false, 6, 34), (200, 12, 83, false, 6, 35), (203, 12, 84, false, 6, 36), (206, 12, 85, false, 6, 37), (209, 12, 86, false, 6, 38), (212, 12, 90, false, 6, 42), (220, 12, 2, false, 5, 194), (223, 12, 1, false, 5, 193), (230, 12, 0, false, 5, 192), (239, 12, 8, false, 5, 200), (275, 12, 17, false, 5, 209), (296, 12, 18, false, 5, 210), (321, 12, 32, false, 5, 224), (326, 12, 31, false, 5, 223), (332, 12, 29, false, 5, 221), (335, 12, 33, false, 5, 225), (338, 12, 37, false, 5, 229), (348, 12, 36, false, 5, 228), (373, 12, 48, false, 6, 0), (378, 12, 49, false, 6, 1), (387, 12, 57, false, 6, 9), (394, 12, 62, false, 6, 14), (418, 12, 56, false, 6, 8), (434, 12, 78, false, 6, 30), (447, 12, 87, false, 6, 39), (461, 12, 73, false, 6, 25), (464, 12, 76, false, 6, 28), (467, 12, 77, false, 6, 29), (489, 12, 89, false, 6, 41), (492, 12, 88, false, 6, 40)], [(215, .int 2591999, 6, 233), (236, .int (-100000), 7, 4), (237, .int 60000, 7, 9), (238, .int 65535, 7, 10), (242, .int 65536, 7, 22), (243, .int 32768, 7, 23), (244, .double 4670232813583204352, 7, 24), (246, .double 4608234912510526942, 7, 25), (248, .double 4598241323522939587, 7, 26), (250, .double 4581670710316679173, 7, 27), (252, .double 4561617902785116854, 7, 28), (264, .int 86400, 7, 60), (269, .double 4636737291354636288, 7, 61), (271, .long 1000, 7, 62), (273, .double 4652007308841189376, 7, 63), (287, .long 9221120237041090560, 7, 51), (299, .int 2147483647, 7, 91), (300, .int 2139095040, 7, 92), (311, .int 2143289344, 7, 93), (324, .double 4660134898793709568, 7, 129), (371, .float 3248488448, 7, 202), (372, .float 1101004800, 7, 203), (433, .int 1000000, 8, 66), (440, .int 50000, 8, 74), (453, .int 43199, 8, 101), (460, .int 43200, 8, 114)], [(216, 150, 6, 234), (226, 149, 6, 230), (233, 152, 7, 1), (254, 156, 7, 19), (258, 157, 7, 29), (265, 163, 7, 56), (279, 160, 7, 43), (283, 161, 7, 47), (289, 162, 7, 52), (292, 164, 7, 64), (301, 168, 7, 80), (304, 169, 7, 84), (308, 170, 7, 88), (312, 173, 7, 102), (329, 178, 7, 125), (341, 181, 7, 138), (345, 183, 7, 146), (351, 185, 7, 154), (354, 187, 7, 162), (357, 189, 7, 170), (361, 190, 7, 174), (365, 193, 7, 186), (368, 194, 7, 190), (376, 198, 7, 208), (381, 201, 7, 220), (384, 200, 7, 216), (390, 205, 7, 235), (397, 208, 8, 7), (400, 207, 8, 3), (403, 209, 8, 11), (406, 210, 8, 15), (409, 204, 7, 232), (412, 206, 7, 239), (415, 203, 7, 228), (421, 214, 8, 31), (424, 216, 8, 39), (427, 218, 8, 46), (430, 219, 8, 50), (437, 224, 8, 71), (441, 225, 8, 75), (444, 229, 8, 91), (450, 233, 8, 106), (454, 231, 8, 98), (457, 232, 8, 102), (470, 242, 8, 143), (473, 243, 8, 147), (477, 241, 8, 139), (480, 240, 8, 135), (483, 239, 8, 131), (486, 245, 8, 154), (495, 248, 8, 166)], [(315, 1, 7, 114)])
set_option maxRecDepth 100000 in
theorem P_M_ok : PlOk P_M := ⟨rfl, rfl, rfl, rfl⟩
def P_Double : Pl := ("java/lang/Double", [], [(137, .long 9221120237041090560, 7, 38)], [(122, 158, 7, 32)], [(134, 2, 7, 35)])
set_option maxRecDepth 100000 in
theorem P_Double_ok : PlOk P_Double := ⟨rfl, rfl, rfl, rfl⟩
def P_Math : Pl := ("java/lang/Math", [], [], [], [])
set_option maxRecDepth 100000 in
theorem P_Math_ok : PlOk P_Math := ⟨rfl, rfl, rfl, rfl⟩
def P_L : Pl := ("TideDeskLaw", [], [], [(13, 0, 3, 22), (17, 148, 6, 226), (18, 2, 3, 30), (22, 151, 6, 237), (23, 6, 3, 45), (27, 153, 7, 5), (28, 8, 3, 55), (31, 154, 7, 11), (32, 11, 3, 66), (36, 155, 7, 15), (37, 14, 3, 89), (41, 159, 7, 39), (42, 20, 3, 120), (46, 165, 7, 68), (47, 21, 3, 124), (50, 166, 7, 72), (51, 23, 3, 132), (54, 167, 7, 76), (55, 28, 3, 154), (59, 171, 7, 94), (60, 29, 3, 158), (63, 172, 7, 98), (64, 31, 3, 166), (67, 174, 7, 106), (68, 32, 3, 170), (71, 175, 7, 110), (72, 35, 3, 180), (75, 176, 7, 117), (76, 36, 3, 184), (80, 177, 7, 121), (81, 40, 3, 205), (85, 179, 7, 130), (86, 41, 3, 209), (89, 180, 7, 134), (90, 45, 3, 224), (93, 182, 7, 142), (94, 48, 3, 236), (97, 184, 7, 150), (98, 52, 4, 16), (101, 186, 7, 158), (102, 55, 4, 31), (105, 188, 7, 166), (106, 60, 4, 53), (109, 191, 7, 178), (110, 61, 4, 57), (113, 192, 7, 182), (114, 64, 4, 69), (117, 195, 7, 194), (118, 66, 4, 79), (121, 196, 7, 198), (122, 67, 4, 84), (125, 197, 7, 204), (126, 72, 4, 103), (130, 199, 7, 212), (131, 77, 4, 122), (134, 202, 7, 224), (135, 89, 4, 169), (138, 211, 8, 19), (139, 90, 4, 173), (142, 212, 8, 23), (143, 91, 4, 177), (146, 213, 8, 27), (147, 92, 4, 182), (150, 215, 8, 35), (151, 95, 4, 193), (154, 217, 8, 42), (155, 98, 4, 206), (158, 220, 8, 54), (159, 99, 4, 210), (163, 221, 8, 58), (164, 103, 4, 227), (167, 222, 8, 62), (168, 105, 4, 236), (171, 223, 8, 67), (172, 111, 5, 19), (175, 226, 8, 79), (176, 112, 5, 23), (179, 227, 8, 83), (180, 113, 5, 28), (183, 228, 8, 87), (184, 115, 5, 37), (187, 230, 8, 94), (188, 119, 5, 63), (191, 234, 8, 110), (192, 122, 5, 75), (195, 235, 8, 115), (196, 123, 5, 79), (199, 236, 8, 119), (200, 124, 5, 83), (203, 237, 8, 123), (204, 127, 5, 95), (207, 238, 8, 127), (208, 135, 5, 132), (211, 244, 8, 150), (212, 137, 5, 140), (215, 246, 8, 158), (216, 138, 5, 145), (219, 247, 8, 162), (220, 143, 5, 165), (223, 249, 8, 170), (224, 144, 5, 169), (227, 250, 8, 174), (228, 145, 5, 173), (231, 251, 8, 178), (232, 146, 5, 177), (235, 252, 8, 182), (236, 147, 5, 181), (239, 253, 8, 186)], [])
set_option maxRecDepth 100000 in
theorem P_L_ok : PlOk P_L := ⟨rfl, rfl, rfl, rfl⟩
def clOk (q : vw_C) : Prop := (∀ w ∈ u_ws q.1 q.2.1 q.2.2, w ∈ gt) ∧ (∃ ty0 : Nat → FieldType, ∀ k, k < q.2.2 → parseFieldDescriptor (q.2.1 k).2.2.1 = some (ty0 k)) ∧ (∀ a, a < q.2.2 → ∀ b, b < q.2.2 → a ≠ b → (q.2.1 a).2.1 ≠ (q.2.1 b).2.1)
theorem lays_in (C : String) (T : u_T) (N : Nat) (ps : List (Nat × Nat)) (h : ps.map (fun q => nth (tb q.1) q.2) = (u_ws C T N).map some) : ∀ w ∈ u_ws C T N, w ∈ gt := by
  intro w hw
  have h1 : some w ∈ ps.map (fun q => nth (tb q.1) q.2) := by rw [h]; exact List.mem_map.mpr ⟨w, hw, rfl⟩
  obtain ⟨q, -, hq⟩ := List.mem_map.mp h1
  refine gt_in hq ?_
  unfold u_ws at hw
  obtain ⟨k, -, rfl⟩ := List.mem_map.mp hw
  unfold u_lay
  split <;> rfl
set_option maxRecDepth 100000 in
theorem clOk_0 : clOk (RX0, TX0, 2) := ⟨lays_in _ _ _ [(1, 35), (1, 37)] rfl, ⟨tyX0, tyX0_ok⟩, nmX0⟩
set_option maxRecDepth 100000 in
theorem clOk_1 : clOk (RX1, TX1, 6) := ⟨lays_in _ _ _ [(2, 111), (2, 113), (2, 115), (2, 117), (2, 119), (2, 121)] rfl, ⟨tyX1, tyX1_ok⟩, nmX1⟩
set_option maxRecDepth 100000 in
theorem clOk_2 : clOk (RX2, TX2, 15) := ⟨lays_in _ _ _ [(1, 110), (1, 112), (1, 114), (1, 116), (1, 118), (1, 120), (1, 122), (1, 124), (1, 126), (1, 128), (1, 130), (1, 132), (1, 134), (1, 136), (1, 138)] rfl, ⟨tyX2, tyX2_ok⟩, nmX2⟩
set_option maxRecDepth 100000 in
theorem clOk_3 : clOk (RX3, TX3, 17) := ⟨lays_in _ _ _ [(2, 184), (2, 186), (2, 188), (2, 190), (2, 192), (2, 194), (2, 196), (2, 198), (2, 200), (2, 202), (2, 204), (2, 206), (2, 208), (2, 210), (2, 212), (2, 214), (2, 216)] rfl, ⟨tyX3, tyX3_ok⟩, nmX3⟩
set_option maxRecDepth 100000 in
theorem clOk_4 : clOk (RX4, TX4, 4) := ⟨lays_in _ _ _ [(2, 45), (2, 47), (2, 49), (2, 51)] rfl, ⟨tyX4, tyX4_ok⟩, nmX4⟩
set_option maxRecDepth 100000 in
theorem clOk_5 : clOk (RX5, TX5, 11) := ⟨lays_in _ _ _ [(2, 6), (2, 8), (2, 10), (2, 12), (2, 14), (2, 16), (2, 18), (2, 20), (2, 22), (2, 24), (2, 26)] rfl, ⟨tyX5, tyX5_ok⟩, nmX5⟩
set_option maxRecDepth 100000 in
theorem clOk_6 : clOk (RX6, TX6, 10) := ⟨lays_in _ _ _ [(1, 164), (1, 166), (1, 168), (1, 170), (1, 172), (1, 174), (1, 176), (1, 178), (1, 180), (1, 182)] rfl, ⟨tyX6, tyX6_ok⟩, nmX6⟩
set_option maxRecDepth 100000 in
theorem clOk_7 : clOk (RX7, TX7, 10) := ⟨lays_in _ _ _ [(1, 58), (1, 60), (1, 62), (1, 64), (1, 66), (1, 68), (1, 70), (1, 72), (1, 74), (1, 76)] rfl, ⟨tyX7, tyX7_ok⟩, nmX7⟩
set_option maxRecDepth 100000 in
theorem clOk_8 : clOk (RX8, TX8, 11) := ⟨lays_in _ _ _ [(2, 75), (2, 77), (2, 79), (2, 81), (2, 83), (2, 85), (2, 87), (2, 89), (2, 91), (2, 93), (2, 95)] rfl, ⟨tyX8, tyX8_ok⟩, nmX8⟩
set_option maxRecDepth 100000 in
theorem clOk_9 : clOk (RX9, TX9, 8) := ⟨lays_in _ _ _ [(1, 205), (1, 207), (1, 209), (1, 211), (1, 213), (1, 215), (1, 217), (1, 219)] rfl, ⟨tyX9, tyX9_ok⟩, nmX9⟩
set_option maxRecDepth 100000 in
theorem clOk_10 : clOk (RX10, TX10, 6) := ⟨lays_in _ _ _ [(2, 141), (2, 143), (2, 145), (2, 147), (2, 149), (2, 151)] rfl, ⟨tyX10, tyX10_ok⟩, nmX10⟩
set_option maxRecDepth 100000 in
theorem clOk_11 : clOk (RX11, TX11, 14) := ⟨lays_in _ _ _ [(2, 233), (2, 235), (2, 237), (2, 239), (3, 1), (3, 3), (3, 5), (3, 7), (3, 9), (3, 11), (3, 13), (3, 15), (3, 17), (3, 19)] rfl, ⟨tyX11, tyX11_ok⟩, nmX11⟩
set_option maxRecDepth 100000 in
theorem clOk_12 : clOk (RX12, TX12, 91) := ⟨lays_in _ _ _ [(6, 43), (6, 45), (6, 47), (6, 49), (6, 51), (6, 53), (6, 55), (6, 57), (6, 59), (6, 61), (6, 63), (6, 65), (6, 67), (6, 69), (6, 71), (6, 73), (6, 75), (6, 77), (6, 79), (6, 81), (6, 83), (6, 85), (6, 87), (6, 89), (6, 91), (6, 93), (6, 95), (6, 97), (6, 99), (6, 101), (6, 103), (6, 105), (6, 107), (6, 109), (6, 111), (6, 113), (6, 115), (6, 117), (6, 119), (6, 121), (6, 123), (6, 125), (6, 127), (6, 129), (6, 131), (6, 133), (6, 135), (6, 137), (6, 139), (6, 141), (6, 143), (6, 145), (6, 147), (6, 149), (6, 151), (6, 153), (6, 155), (6, 157), (6, 159), (6, 161), (6, 163), (6, 165), (6, 167), (6, 169), (6, 171), (6, 173), (6, 175), (6, 177), (6, 179), (6, 181), (6, 183), (6, 185), (6, 187), (6, 189), (6, 191), (6, 193), (6, 195), (6, 197), (6, 199), (6, 201), (6, 203), (6, 205), (6, 207), (6, 209), (6, 211), (6, 213), (6, 215), (6, 217), (6, 219), (6, 221), (6, 223)] rfl, ⟨tyX12, tyX12_ok⟩, nmX12⟩
theorem vw_ok : ∀ q ∈ vwCl, clOk q := by
  intro q hq
  simp only [vwCl, List.mem_cons, List.not_mem_nil, or_false] at hq
  rcases hq with rfl | rfl | rfl | rfl | rfl | rfl | rfl | rfl | rfl | rfl | rfl | rfl | rfl
  · exact clOk_0
  · exact clOk_1
  · exact clOk_2
  · exact clOk_3
  · exact clOk_4
  · exact clOk_5
  · exact clOk_6
  · exact clOk_7
  · exact clOk_8
  · exact clOk_9
  · exact clOk_10
  · exact clOk_11
  · exact clOk_12
end
section
/-- the kinds of rows that the cells have -/
def tysOf (dA : Nat → ClassId) : List (ClassId × FieldType) := [(dA 0, .int), (dA 1, .boolean), (dA 2, .short), (dA 3, .double)]
/-- links to fields of nest mates -/
def NwOk (U : State) : Prop := ∀ (a : String) (i : Nat) (b n d h : String), Cond.fieldLinkNest a i b n d h ∈ lw_tbl → va_Nw (.fieldLinkNest a i b n d h) U
theorem NwOk.warm {s U : State} (hW : s.WarmedH U.vm) (h : NwOk s) : NwOk U := fun a i b n d x hm => va_Nw.warmF hW (h a i b n d x hm)
theorem NwOk.same {s U : State} (hW : s.vm = U.vm) (h : NwOk s) : NwOk U := fun a i b n d x hm => va_Nw.same rfl hW (h a i b n d x hm)
section RW
variable {p : Program} {l : Launch} {e : Env} {R : Room} {s : State} {m : MethodId} {args : Array Value} {below : List Frame} {meth : Method} {c : Code} {cells slots : Nat} {Q : State → Prop}
variable {ad : Nat → Nat} {dA : Nat → ClassId} {G : va_G} {A : Nat → Prop} {SH : List Sh} {H0 : Heap} {nL : Nat} {cc : ByteArray} {own : String} {d : Nat} {SC : Option (Nat × (Nat → Int32))}
/-- the machine at a place of the method, over any heap that holds the cells' contents -/
def AtM (p : Program) (l : Launch) (e : Env) (R : Room) (s : State) (m : MethodId) (args : Array Value) (below : List Frame) (meth : Method) (c : Code) (cells slots : Nat) (Q : State → Prop) (ad : Nat → Nat) (dA : Nat → ClassId) (G : va_G) (A : Nat → Prop) (SH : List Sh) (H0 : Heap) (nL : Nat) : Kt := fun pc lv st I D =>
  ∀ (H : Heap) (locs : List Loc) (ls : Array Slot), lv_has ls nL (lv.map (cq ad)) → va_P G vwCl (wld ad dA I D 0 SH) H → va_S A H0 H locs → W p l e R s m args below meth c H locs cells slots Q (F0 m pc ls (st.map (cv ad)))
/-- what holds all through a method -/
def Bd (p : Program) (R : Room) (s : State) (m : MethodId) (args : Array Value) (c : Code) (cells slots : Nat) (ad : Nat → Nat) (dA : Nat → ClassId) (G : va_G) (A : Nat → Prop) (SH : List Sh) (H0 : Heap) (nL : Nat) (cc : ByteArray) (own : String) (d : Nat) (SC : Option (Nat × (Nat → Int32))) : Prop :=
  p.tables.exec = Jvm.exec ∧ c.code = cc ∧ c.maxLocals = nL ∧ s.vm.findClass own = some m.cls ∧ (∀ w ∈ gt, w.before args s = true) ∧ va_K G vwCl (tysOf dA) s ∧ (∀ I D, va_D A (wld ad dA I D 0 SH)) ∧
  (∀ q, SC = some q → va_X (ad 999) q.1 q.2 s H0 ∧ ad 999 < H0.size ∧ ¬ A (ad 999)) ∧ (d + 1 ≤ R.frames ∧ 64 * (d + 1) ≤ R.locals ∧ cells ≤ R.cells ∧ slots ≤ R.slots) ∧ NwOk s
abbrev BdX (p : Program) (R : Room) (s : State) (m : MethodId) (args : Array Value) (c : Code) (cells slots : Nat) (ad : Nat → Nat) (dA : Nat → ClassId) (G : va_G) (A : Nat → Prop) (SH : List Sh) (H0 : Heap) (nL : Nat) (cc : ByteArray) (own : String) (d : Nat) (SC : Option (Nat × (Nat → Int32))) : Prop := Bd p R s m args c cells slots ad dA G A SH H0 nL cc own d SC
theorem lv_in {ls : Array Slot} {lv : Lv} {i : Nat} {w : Value} (hl : lv_has ls nL (lv.map (cq ad))) (h : (i, w) ∈ lv) : ls[i]? = some (.val (cv ad w)) :=
  hl.2.2 (i, cv ad w) (List.mem_map.mpr ⟨(i, w), h, rfl⟩)
theorem fl1_map (i : Nat) (lv : Lv) : (lv.map (cq ad)).filter (fun q => !(q.1 == i) && !(q.1 + 1 == i && q.2.category == 2)) = (lv.filter (fun q => !(q.1 == i) && !(q.1 + 1 == i && q.2.category == 2))).map (cq ad) := by
  rw [List.filter_map]
  congr 1
  apply List.filter_congr
  intro q _
  simp [cq, cv_cat]
theorem fl2_map (i : Nat) (lv : Lv) : (lv.map (cq ad)).filter (fun q => !(q.1 == i) && (!(q.1 == i + 1) && !(q.1 + 1 == i && q.2.category == 2))) = (lv.filter (fun q => !(q.1 == i) && (!(q.1 == i + 1) && !(q.1 + 1 == i && q.2.category == 2)))).map (cq ad) := by
  rw [List.filter_map]
  congr 1
  apply List.filter_congr
  intro q _
  simp [cq, cv_cat]
theorem AtM.pick {K : Kt} {is : List Nat} {pc : Nat} {lv : Lv} {st : List Value} {I : MI} {D : MD} (hK : ∀ pc lv st I D, K pc lv st I D → AtM p l e R s m args below meth c cells slots Q ad dA G A SH H0 nL pc lv st I D)
    (h : pick is lv (fun lv' => K pc lv' st I D)) : AtM p l e R s m args below meth c cells slots Q ad dA G A SH H0 nL pc lv st I D := by
  obtain ⟨lv', h1, h2⟩ := pick_e h
  intro H locs ls hl hP hS
  refine hK _ _ _ _ _ h1 H locs ls ⟨hl.1, hl.2.1, fun q hq => ?_⟩ hP hS
  obtain ⟨z, hz, rfl⟩ := List.mem_map.mp hq
  exact hl.2.2 _ (List.mem_map.mpr ⟨z, h2 z hz, rfl⟩)
variable {pc : Nat} {lv : Lv} {st : List Value} {I : MI} {D : MD} {k : Nt} {a b : Nat} {v : Value}
-- constants
theorem x_iconst {n : Int} {x : Int32} (B : BdX p R s m args c cells slots ad dA G A SH H0 nL cc own d SC) (hd : decode cc pc = .ok (.iconst n, 1)) (hv : Int32.ofInt n = x) (h : AtM p l e R s m args below meth c cells slots Q ad dA G A SH H0 nL (pc + 1) lv (.int x :: st) I D) : AtM p l e R s m args below meth c cells slots Q ad dA G A SH H0 nL pc lv st I D :=
  fun H locs ls hl hP hS => lv_iconst B.1 B.2.1 hd hv (h H locs ls hl hP hS)
theorem x_bipush {n : Int} {x : Int32} (B : BdX p R s m args c cells slots ad dA G A SH H0 nL cc own d SC) (hd : decode cc pc = .ok (.bipush n, 2)) (hv : (Int8.ofInt n).toInt32 = x) (h : AtM p l e R s m args below meth c cells slots Q ad dA G A SH H0 nL (pc + 2) lv (.int x :: st) I D) : AtM p l e R s m args below meth c cells slots Q ad dA G A SH H0 nL pc lv st I D :=
  fun H locs ls hl hP hS => lv_bipush B.1 B.2.1 hd hv (h H locs ls hl hP hS)
theorem x_sipush {n : Int} {x : Int32} (B : BdX p R s m args c cells slots ad dA G A SH H0 nL cc own d SC) (hd : decode cc pc = .ok (.sipush n, 3)) (hv : (Int16.ofInt n).toInt32 = x) (h : AtM p l e R s m args below meth c cells slots Q ad dA G A SH H0 nL (pc + 3) lv (.int x :: st) I D) : AtM p l e R s m args below meth c cells slots Q ad dA G A SH H0 nL pc lv st I D :=
  fun H locs ls hl hP hS => lv_sipush B.1 B.2.1 hd hv (h H locs ls hl hP hS)
theorem x_lconst {n : Fin 2} {x : Int64} (B : BdX p R s m args c cells slots ad dA G A SH H0 nL cc own d SC) (hd : decode cc pc = .ok (.lconst n, 1)) (hv : Int64.ofNat (n : Nat) = x) (h : AtM p l e R s m args below meth c cells slots Q ad dA G A SH H0 nL (pc + 1) lv (.long x :: st) I D) : AtM p l e R s m args below meth c cells slots Q ad dA G A SH H0 nL pc lv st I D :=
  fun H locs ls hl hP hS => lv_lconst B.1 B.2.1 hd hv (h H locs ls hl hP hS)
theorem x_dconst {n : Fin 2} {x : UInt64} (B : BdX p R s m args c cells slots ad dA G A SH H0 nL cc own d SC) (hd : decode cc pc = .ok (.dconst n, 1)) (hv : (if n = 0 then FP.dconst0 else FP.dconst1) = x) (h : AtM p l e R s m args below meth c cells slots Q ad dA G A SH H0 nL (pc + 1) lv (.double x :: st) I D) : AtM p l e R s m args below meth c cells slots Q ad dA G A SH H0 nL pc lv st I D := by
  intro H locs ls hl hP hS
  subst hv
  rcases (show n = 0 ∨ n = 1 by omega) with rfl | rfl
  · exact lv_dconst0 B.1 B.2.1 hd (h H locs ls hl hP hS)
  · exact lv_dconst1 B.1 B.2.1 hd (h H locs ls hl hP hS)
theorem x_fconst {x : UInt32} (B : BdX p R s m args c cells slots ad dA G A SH H0 nL cc own d SC) (hd : decode cc pc = .ok (.fconst 0, 1)) (hv : FP.fconst0 = x) (h : AtM p l e R s m args below meth c cells slots Q ad dA G A SH H0 nL (pc + 1) lv (.float x :: st) I D) : AtM p l e R s m args below meth c cells slots Q ad dA G A SH H0 nL pc lv st I D := by
  subst hv
  exact fun H locs ls hl hP hS => lv_fconst0 B.1 B.2.1 hd (h H locs ls hl hP hS)
theorem x_ldc {n : Nat} {x : Int32} (B : BdX p R s m args c cells slots ad dA G A SH H0 nL cc own d SC) (hd : decode cc pc = .ok (.ldc n, 2)) (hv : Cond.constant own n x ∈ gt) (h : AtM p l e R s m args below meth c cells slots Q ad dA G A SH H0 nL (pc + 2) lv (.int x :: st) I D) : AtM p l e R s m args below meth c cells slots Q ad dA G A SH H0 nL pc lv st I D :=
  fun H locs ls hl hP hS => lv_ldc B.1 B.2.1 B.2.2.2.1 (B.2.2.2.2.1 _ hv) hd (h H locs ls hl hP hS)
theorem x_ldcw {n : Nat} {x : Int32} (B : BdX p R s m args c cells slots ad dA G A SH H0 nL cc own d SC) (hd : decode cc pc = .ok (.ldc_w n, 3)) (hv : Cond.constant own n x ∈ gt) (h : AtM p l e R s m args below meth c cells slots Q ad dA G A SH H0 nL (pc + 3) lv (.int x :: st) I D) : AtM p l e R s m args below meth c cells slots Q ad dA G A SH H0 nL pc lv st I D :=
  fun H locs ls hl hP hS => lv_ldcw B.1 B.2.1 B.2.2.2.1 (B.2.2.2.2.1 _ hv) hd (h H locs ls hl hP hS)
theorem lv_ldcwf {H : Heap} {locs : List Loc} {ls : Array Slot} {rest : List Value} (hexec : p.tables.exec = Jvm.exec) (hb : c.code = cc) {own : String} {index : Nat} {v : UInt32} (hown : s.vm.findClass own = some m.cls) (hconst : (Jvm.Cond.constantFloat own index v).before args s = true) (hdg : decode cc pc = .ok (.ldc_w index, 3)) (k : W p l e R s m args below meth c H locs cells slots Q (F0 m (pc + 3) ls (.float v :: rest))) : W p l e R s m args below meth c H locs cells slots Q (F0 m pc ls rest) := by
  intro T hT X
  obtain ⟨t, a, b⟩ := k T hT X
  refine ⟨t, ?_, b⟩
  subst hb
  obtain ⟨k0, cf, hk, hcf, hcp⟩ := Cond.constantFloat_spec hown hconst
  obtain ⟨k', hk', he⟩ := X.warmed.alike.2.2 _ _ hk
  have hrest := a
  jvm_step X.here [hexec, hdg, ldc_w.wp_float (s := T) (f := F0 m pc ls rest) X.here.top hk' (by rw [he]; exact hcf) hcp]
  exact hrest
theorem x_ldcf {n : Nat} {x : UInt32} (B : BdX p R s m args c cells slots ad dA G A SH H0 nL cc own d SC) (hd : decode cc pc = .ok (.ldc n, 2)) (hv : Cond.constantFloat own n x ∈ gt) (h : AtM p l e R s m args below meth c cells slots Q ad dA G A SH H0 nL (pc + 2) lv (.float x :: st) I D) : AtM p l e R s m args below meth c cells slots Q ad dA G A SH H0 nL pc lv st I D :=
  fun H locs ls hl hP hS => lv_ldcf B.1 B.2.1 B.2.2.2.1 (B.2.2.2.2.1 _ hv) hd (h H locs ls hl hP hS)
theorem x_ldcwf {n : Nat} {x : UInt32} (B : BdX p R s m args c cells slots ad dA G A SH H0 nL cc own d SC) (hd : decode cc pc = .ok (.ldc_w n, 3)) (hv : Cond.constantFloat own n x ∈ gt) (h : AtM p l e R s m args below meth c cells slots Q ad dA G A SH H0 nL (pc + 3) lv (.float x :: st) I D) : AtM p l e R s m args below meth c cells slots Q ad dA G A SH H0 nL pc lv st I D :=
  fun H locs ls hl hP hS => lv_ldcwf B.1 B.2.1 B.2.2.2.1 (B.2.2.2.2.1 _ hv) hd (h H locs ls hl hP hS)
theorem x_ldc2 {n : Nat} {x : Int64} (B : BdX p R s m args c cells slots ad dA G A SH H0 nL cc own d SC) (hd : decode cc pc = .ok (.ldc2_w n, 3)) (hv : Cond.constantLong own n x ∈ gt) (h : AtM p l e R s m args below meth c cells slots Q ad dA G A SH H0 nL (pc + 3) lv (.long x :: st) I D) : AtM p l e R s m args below meth c cells slots Q ad dA G A SH H0 nL pc lv st I D :=
  fun H locs ls hl hP hS => lv_ldc2 B.1 B.2.1 B.2.2.2.1 (B.2.2.2.2.1 _ hv) hd (h H locs ls hl hP hS)
theorem x_ldc2d {n : Nat} {x : UInt64} (B : BdX p R s m args c cells slots ad dA G A SH H0 nL cc own d SC) (hd : decode cc pc = .ok (.ldc2_w n, 3)) (hv : Cond.constantDouble own n x ∈ gt) (h : AtM p l e R s m args below meth c cells slots Q ad dA G A SH H0 nL (pc + 3) lv (.double x :: st) I D) : AtM p l e R s m args below meth c cells slots Q ad dA G A SH H0 nL pc lv st I D :=
  fun H locs ls hl hP hS => lv_ldc2d B.1 B.2.1 B.2.2.2.1 (B.2.2.2.2.1 _ hv) hd (h H locs ls hl hP hS)
theorem x_iload {i : Nat} (B : BdX p R s m args c cells slots ad dA G A SH H0 nL cc own d SC) (hd : decode cc pc = .ok (.iload i, 2)) (hi : i = a) (h : lk lv a (fun w => isI w (k lv (w :: st) I D))) (hk : ∀ lv st I D, k lv st I D → AtM p l e R s m args below meth c cells slots Q ad dA G A SH H0 nL (pc + 2) lv st I D) : AtM p l e R s m args below meth c cells slots Q ad dA G A SH H0 nL pc lv st I D := by
  obtain ⟨w, h1, h2⟩ := lk_e h
  obtain ⟨x, rfl, h3⟩ := isI_e h2
  intro H locs ls hl hP hS
  exact lv_iload B.1 B.2.1 hd (by rw [hi]; exact lv_in hl h1) (hk _ _ _ _ h3 H locs ls hl hP hS)
theorem x_iload_n {i : Fin 4} (B : BdX p R s m args c cells slots ad dA G A SH H0 nL cc own d SC) (hd : decode cc pc = .ok (.iload_n i, 1)) (hi : (i : Nat) = a) (h : lk lv a (fun w => isI w (k lv (w :: st) I D))) (hk : ∀ lv st I D, k lv st I D → AtM p l e R s m args below meth c cells slots Q ad dA G A SH H0 nL (pc + 1) lv st I D) : AtM p l e R s m args below meth c cells slots Q ad dA G A SH H0 nL pc lv st I D := by
  obtain ⟨w, h1, h2⟩ := lk_e h
  obtain ⟨x, rfl, h3⟩ := isI_e h2
  intro H locs ls hl hP hS
  exact lv_iload_n B.1 B.2.1 hd hi (lv_in hl h1) (hk _ _ _ _ h3 H locs ls hl hP hS)
theorem x_lload {i : Nat} (B : BdX p R s m args c cells slots ad dA G A SH H0 nL cc own d SC) (hd : decode cc pc = .ok (.lload i, 2)) (hi : i = a) (h : lk lv a (fun w => isL w (k lv (w :: st) I D))) (hk : ∀ lv st I D, k lv st I D → AtM p l e R s m args below meth c cells slots Q ad dA G A SH H0 nL (pc + 2) lv st I D) : AtM p l e R s m args below meth c cells slots Q ad dA G A SH H0 nL pc lv st I D := by
  obtain ⟨w, h1, h2⟩ := lk_e h
  obtain ⟨x, rfl, h3⟩ := isL_e h2
  intro H locs ls hl hP hS
  exact lv_lload B.1 B.2.1 hd (by rw [hi]; exact lv_in hl h1) (hk _ _ _ _ h3 H locs ls hl hP hS)
theorem x_lload_n {i : Fin 4} (B : BdX p R s m args c cells slots ad dA G A SH H0 nL cc own d SC) (hd : decode cc pc = .ok (.lload_n i, 1)) (hi : (i : Nat) = a) (h : lk lv a (fun w => isL w (k lv (w :: st) I D))) (hk : ∀ lv st I D, k lv st I D → AtM p l e R s m args below meth c cells slots Q ad dA G A SH H0 nL (pc + 1) lv st I D) : AtM p l e R s m args below meth c cells slots Q ad dA G A SH H0 nL pc lv st I D := by
  obtain ⟨w, h1, h2⟩ := lk_e h
  obtain ⟨x, rfl, h3⟩ := isL_e h2
  intro H locs ls hl hP hS
  exact lv_lload_n B.1 B.2.1 hd hi (lv_in hl h1) (hk _ _ _ _ h3 H locs ls hl hP hS)
theorem x_fload {i : Nat} (B : BdX p R s m args c cells slots ad dA G A SH H0 nL cc own d SC) (hd : decode cc pc = .ok (.fload i, 2)) (hi : i = a) (h : lk lv a (fun w => isF w (k lv (w :: st) I D))) (hk : ∀ lv st I D, k lv st I D → AtM p l e R s m args below meth c cells slots Q ad dA G A SH H0 nL (pc + 2) lv st I D) : AtM p l e R s m args below meth c cells slots Q ad dA G A SH H0 nL pc lv st I D := by
  obtain ⟨w, h1, h2⟩ := lk_e h
  obtain ⟨x, rfl, h3⟩ := isF_e h2
  intro H locs ls hl hP hS
  exact lv_fload B.1 B.2.1 hd (by rw [hi]; exact lv_in hl h1) (hk _ _ _ _ h3 H locs ls hl hP hS)
theorem x_dload {i : Nat} (B : BdX p R s m args c cells slots ad dA G A SH H0 nL cc own d SC) (hd : decode cc pc = .ok (.dload i, 2)) (hi : i = a) (h : lk lv a (fun w => isD w (k lv (w :: st) I D))) (hk : ∀ lv st I D, k lv st I D → AtM p l e R s m args below meth c cells slots Q ad dA G A SH H0 nL (pc + 2) lv st I D) : AtM p l e R s m args below meth c cells slots Q ad dA G A SH H0 nL pc lv st I D := by
  obtain ⟨w, h1, h2⟩ := lk_e h
  obtain ⟨x, rfl, h3⟩ := isD_e h2
  intro H locs ls hl hP hS
  exact lv_dload B.1 B.2.1 hd (by rw [hi]; exact lv_in hl h1) (hk _ _ _ _ h3 H locs ls hl hP hS)
theorem x_dload_n {i : Fin 4} (B : BdX p R s m args c cells slots ad dA G A SH H0 nL cc own d SC) (hd : decode cc pc = .ok (.dload_n i, 1)) (hi : (i : Nat) = a) (h : lk lv a (fun w => isD w (k lv (w :: st) I D))) (hk : ∀ lv st I D, k lv st I D → AtM p l e R s m args below meth c cells slots Q ad dA G A SH H0 nL (pc + 1) lv st I D) : AtM p l e R s m args below meth c cells slots Q ad dA G A SH H0 nL pc lv st I D := by
  obtain ⟨w, h1, h2⟩ := lk_e h
  obtain ⟨x, rfl, h3⟩ := isD_e h2
  intro H locs ls hl hP hS
  exact lv_dload_n B.1 B.2.1 hd hi (lv_in hl h1) (hk _ _ _ _ h3 H locs ls hl hP hS)
theorem x_aload {i : Nat} (B : BdX p R s m args c cells slots ad dA G A SH H0 nL cc own d SC) (hd : decode cc pc = .ok (.aload i, 2)) (hi : i = a) (h : lk lv a (fun w => isR w (k lv (w :: st) I D))) (hk : ∀ lv st I D, k lv st I D → AtM p l e R s m args below meth c cells slots Q ad dA G A SH H0 nL (pc + 2) lv st I D) : AtM p l e R s m args below meth c cells slots Q ad dA G A SH H0 nL pc lv st I D := by
  obtain ⟨w, h1, h2⟩ := lk_e h
  obtain ⟨x, rfl, h3⟩ := isR_e h2
  intro H locs ls hl hP hS
  exact lv_aload B.1 B.2.1 hd (by rw [hi]; exact lv_in hl h1) (hk _ _ _ _ h3 H locs ls hl hP hS)
theorem x_aload_n {i : Fin 4} (B : BdX p R s m args c cells slots ad dA G A SH H0 nL cc own d SC) (hd : decode cc pc = .ok (.aload_n i, 1)) (hi : (i : Nat) = a) (h : lk lv a (fun w => isR w (k lv (w :: st) I D))) (hk : ∀ lv st I D, k lv st I D → AtM p l e R s m args below meth c cells slots Q ad dA G A SH H0 nL (pc + 1) lv st I D) : AtM p l e R s m args below meth c cells slots Q ad dA G A SH H0 nL pc lv st I D := by
  obtain ⟨w, h1, h2⟩ := lk_e h
  obtain ⟨x, rfl, h3⟩ := isR_e h2
  intro H locs ls hl hP hS
  exact lv_aload_n B.1 B.2.1 hd hi (lv_in hl h1) (hk _ _ _ _ h3 H locs ls hl hP hS)
theorem x_istore {i : Nat} (B : BdX p R s m args c cells slots ad dA G A SH H0 nL cc own d SC) (hd : decode cc pc = .ok (.istore i, 2)) (hi : i = a) (hn : a < nL) (h : tI st (fun x r => fl1 a lv (fun t => k ((a, .int x) :: t) r I D))) (hk : ∀ lv st I D, k lv st I D → AtM p l e R s m args below meth c cells slots Q ad dA G A SH H0 nL (pc + 2) lv st I D) : AtM p l e R s m args below meth c cells slots Q ad dA G A SH H0 nL pc lv st I D := by
  obtain ⟨x, r, rfl, h1⟩ := tI_e h
  have h2 := fl1_e h1
  intro H locs ls hl hP hS
  exact (by subst hi; exact lv_istore B.1 B.2.1 hd hl hn (by rw [fl1_map]; rfl) (fun ls hl => hk _ _ _ _ h2 H locs ls hl hP hS))
theorem x_istore_n {i : Fin 4} (B : BdX p R s m args c cells slots ad dA G A SH H0 nL cc own d SC) (hd : decode cc pc = .ok (.istore_n i, 1)) (hi : (i : Nat) = a) (hn : a < nL) (h : tI st (fun x r => fl1 a lv (fun t => k ((a, .int x) :: t) r I D))) (hk : ∀ lv st I D, k lv st I D → AtM p l e R s m args below meth c cells slots Q ad dA G A SH H0 nL (pc + 1) lv st I D) : AtM p l e R s m args below meth c cells slots Q ad dA G A SH H0 nL pc lv st I D := by
  obtain ⟨x, r, rfl, h1⟩ := tI_e h
  have h2 := fl1_e h1
  intro H locs ls hl hP hS
  exact lv_istore_n B.1 B.2.1 hd hi hl hn (by rw [fl1_map]; rfl) (fun ls hl => hk _ _ _ _ h2 H locs ls hl hP hS)
theorem x_lstore {i : Nat} (B : BdX p R s m args c cells slots ad dA G A SH H0 nL cc own d SC) (hd : decode cc pc = .ok (.lstore i, 2)) (hi : i = a) (hn : a + 1 < nL) (h : tL st (fun x r => fl2 a lv (fun t => k ((a, .long x) :: t) r I D))) (hk : ∀ lv st I D, k lv st I D → AtM p l e R s m args below meth c cells slots Q ad dA G A SH H0 nL (pc + 2) lv st I D) : AtM p l e R s m args below meth c cells slots Q ad dA G A SH H0 nL pc lv st I D := by
  obtain ⟨x, r, rfl, h1⟩ := tL_e h
  have h2 := fl2_e h1
  intro H locs ls hl hP hS
  exact (by subst hi; exact lv_lstore B.1 B.2.1 hd hl hn (by rw [fl2_map]; rfl) (fun ls hl => hk _ _ _ _ h2 H locs ls hl hP hS))
theorem x_fstore {i : Nat} (B : BdX p R s m args c cells slots ad dA G A SH H0 nL cc own d SC) (hd : decode cc pc = .ok (.fstore i, 2)) (hi : i = a) (hn : a < nL) (h : tF st (fun x r => fl1 a lv (fun t => k ((a, .float x) :: t) r I D))) (hk : ∀ lv st I D, k lv st I D → AtM p l e R s m args below meth c cells slots Q ad dA G A SH H0 nL (pc + 2) lv st I D) : AtM p l e R s m args below meth c cells slots Q ad dA G A SH H0 nL pc lv st I D := by
  obtain ⟨x, r, rfl, h1⟩ := tF_e h
  have h2 := fl1_e h1
  intro H locs ls hl hP hS
  exact (by subst hi; exact lv_fstore B.1 B.2.1 hd hl hn (by rw [fl1_map]; rfl) (fun ls hl => hk _ _ _ _ h2 H locs ls hl hP hS))
theorem x_dstore {i : Nat} (B : BdX p R s m args c cells slots ad dA G A SH H0 nL cc own d SC) (hd : decode cc pc = .ok (.dstore i, 2)) (hi : i = a) (hn : a + 1 < nL) (h : tD st (fun x r => fl2 a lv (fun t => k ((a, .double x) :: t) r I D))) (hk : ∀ lv st I D, k lv st I D → AtM p l e R s m args below meth c cells slots Q ad dA G A SH H0 nL (pc + 2) lv st I D) : AtM p l e R s m args below meth c cells slots Q ad dA G A SH H0 nL pc lv st I D := by
  obtain ⟨x, r, rfl, h1⟩ := tD_e h
  have h2 := fl2_e h1
  intro H locs ls hl hP hS
  exact (by subst hi; exact lv_dstore B.1 B.2.1 hd hl hn (by rw [fl2_map]; rfl) (fun ls hl => hk _ _ _ _ h2 H locs ls hl hP hS))
theorem x_dstore_n {i : Fin 4} (B : BdX p R s m args c cells slots ad dA G A SH H0 nL cc own d SC) (hd : decode cc pc = .ok (.dstore_n i, 1)) (hi : (i : Nat) = a) (hn : a + 1 < nL) (h : tD st (fun x r => fl2 a lv (fun t => k ((a, .double x) :: t) r I D))) (hk : ∀ lv st I D, k lv st I D → AtM p l e R s m args below meth c cells slots Q ad dA G A SH H0 nL (pc + 1) lv st I D) : AtM p l e R s m args below meth c cells slots Q ad dA G A SH H0 nL pc lv st I D := by
  obtain ⟨x, r, rfl, h1⟩ := tD_e h
  have h2 := fl2_e h1
  intro H locs ls hl hP hS
  exact lv_dstore_n B.1 B.2.1 hd hi hl hn (by rw [fl2_map]; rfl) (fun ls hl => hk _ _ _ _ h2 H locs ls hl hP hS)
theorem x_iadd (B : BdX p R s m args c cells slots ad dA G A SH H0 nL cc own d SC) (hd : decode cc pc = .ok (.iadd, 1)) (h : t2I st (fun x y r => k lv (.int (x + y) :: r) I D)) (hk : ∀ lv st I D, k lv st I D → AtM p l e R s m args below meth c cells slots Q ad dA G A SH H0 nL (pc + 1) lv st I D) : AtM p l e R s m args below meth c cells slots Q ad dA G A SH H0 nL pc lv st I D := by
  obtain ⟨x, y, r, rfl, h1⟩ := t2I_e h
  exact fun H locs ls hl hP hS => lv_iadd B.1 B.2.1 hd (hk _ _ _ _ h1 H locs ls hl hP hS)
theorem x_isub (B : BdX p R s m args c cells slots ad dA G A SH H0 nL cc own d SC) (hd : decode cc pc = .ok (.isub, 1)) (h : t2I st (fun x y r => k lv (.int (x - y) :: r) I D)) (hk : ∀ lv st I D, k lv st I D → AtM p l e R s m args below meth c cells slots Q ad dA G A SH H0 nL (pc + 1) lv st I D) : AtM p l e R s m args below meth c cells slots Q ad dA G A SH H0 nL pc lv st I D := by
  obtain ⟨x, y, r, rfl, h1⟩ := t2I_e h
  exact fun H locs ls hl hP hS => lv_isub B.1 B.2.1 hd (hk _ _ _ _ h1 H locs ls hl hP hS)
theorem x_imul (B : BdX p R s m args c cells slots ad dA G A SH H0 nL cc own d SC) (hd : decode cc pc = .ok (.imul, 1)) (h : t2I st (fun x y r => k lv (.int (x * y) :: r) I D)) (hk : ∀ lv st I D, k lv st I D → AtM p l e R s m args below meth c cells slots Q ad dA G A SH H0 nL (pc + 1) lv st I D) : AtM p l e R s m args below meth c cells slots Q ad dA G A SH H0 nL pc lv st I D := by
  obtain ⟨x, y, r, rfl, h1⟩ := t2I_e h
  exact fun H locs ls hl hP hS => lv_imul B.1 B.2.1 hd (hk _ _ _ _ h1 H locs ls hl hP hS)
theorem x_iand (B : BdX p R s m args c cells slots ad dA G A SH H0 nL cc own d SC) (hd : decode cc pc = .ok (.iand, 1)) (h : t2I st (fun x y r => k lv (.int (x &&& y) :: r) I D)) (hk : ∀ lv st I D, k lv st I D → AtM p l e R s m args below meth c cells slots Q ad dA G A SH H0 nL (pc + 1) lv st I D) : AtM p l e R s m args below meth c cells slots Q ad dA G A SH H0 nL pc lv st I D := by
  obtain ⟨x, y, r, rfl, h1⟩ := t2I_e h
  exact fun H locs ls hl hP hS => lv_iand B.1 B.2.1 hd (hk _ _ _ _ h1 H locs ls hl hP hS)
theorem x_ixor (B : BdX p R s m args c cells slots ad dA G A SH H0 nL cc own d SC) (hd : decode cc pc = .ok (.ixor, 1)) (h : t2I st (fun x y r => k lv (.int (x ^^^ y) :: r) I D)) (hk : ∀ lv st I D, k lv st I D → AtM p l e R s m args below meth c cells slots Q ad dA G A SH H0 nL (pc + 1) lv st I D) : AtM p l e R s m args below meth c cells slots Q ad dA G A SH H0 nL pc lv st I D := by
  obtain ⟨x, y, r, rfl, h1⟩ := t2I_e h
  exact fun H locs ls hl hP hS => lv_ixor B.1 B.2.1 hd (hk _ _ _ _ h1 H locs ls hl hP hS)
theorem x_idiv (B : BdX p R s m args c cells slots ad dA G A SH H0 nL cc own d SC) (hd : decode cc pc = .ok (.idiv, 1)) (h : t2I st (fun x y r => ¬ y = 0 ∧ k lv (.int (x / y) :: r) I D)) (hk : ∀ lv st I D, k lv st I D → AtM p l e R s m args below meth c cells slots Q ad dA G A SH H0 nL (pc + 1) lv st I D) : AtM p l e R s m args below meth c cells slots Q ad dA G A SH H0 nL pc lv st I D := by
  obtain ⟨x, y, r, rfl, h0, h1⟩ := t2I_e h
  exact fun H locs ls hl hP hS => lv_idiv B.1 B.2.1 hd h0 (hk _ _ _ _ h1 H locs ls hl hP hS)
theorem x_irem (B : BdX p R s m args c cells slots ad dA G A SH H0 nL cc own d SC) (hd : decode cc pc = .ok (.irem, 1)) (h : t2I st (fun x y r => ¬ y = 0 ∧ k lv (.int (x - x / y * y) :: r) I D)) (hk : ∀ lv st I D, k lv st I D → AtM p l e R s m args below meth c cells slots Q ad dA G A SH H0 nL (pc + 1) lv st I D) : AtM p l e R s m args below meth c cells slots Q ad dA G A SH H0 nL pc lv st I D := by
  obtain ⟨x, y, r, rfl, h0, h1⟩ := t2I_e h
  exact fun H locs ls hl hP hS => lv_irem B.1 B.2.1 hd h0 (hk _ _ _ _ h1 H locs ls hl hP hS)
theorem x_ladd (B : BdX p R s m args c cells slots ad dA G A SH H0 nL cc own d SC) (hd : decode cc pc = .ok (.ladd, 1)) (h : t2L st (fun x y r => k lv (.long (x + y) :: r) I D)) (hk : ∀ lv st I D, k lv st I D → AtM p l e R s m args below meth c cells slots Q ad dA G A SH H0 nL (pc + 1) lv st I D) : AtM p l e R s m args below meth c cells slots Q ad dA G A SH H0 nL pc lv st I D := by
  obtain ⟨x, y, r, rfl, h1⟩ := t2L_e h
  exact fun H locs ls hl hP hS => lv_ladd B.1 B.2.1 hd (hk _ _ _ _ h1 H locs ls hl hP hS)
theorem x_lsub (B : BdX p R s m args c cells slots ad dA G A SH H0 nL cc own d SC) (hd : decode cc pc = .ok (.lsub, 1)) (h : t2L st (fun x y r => k lv (.long (x - y) :: r) I D)) (hk : ∀ lv st I D, k lv st I D → AtM p l e R s m args below meth c cells slots Q ad dA G A SH H0 nL (pc + 1) lv st I D) : AtM p l e R s m args below meth c cells slots Q ad dA G A SH H0 nL pc lv st I D := by
  obtain ⟨x, y, r, rfl, h1⟩ := t2L_e h
  exact fun H locs ls hl hP hS => lv_lsub B.1 B.2.1 hd (hk _ _ _ _ h1 H locs ls hl hP hS)
theorem x_lmul (B : BdX p R s m args c cells slots ad dA G A SH H0 nL cc own d SC) (hd : decode cc pc = .ok (.lmul, 1)) (h : t2L st (fun x y r => k lv (.long (x * y) :: r) I D)) (hk : ∀ lv st I D, k lv st I D → AtM p l e R s m args below meth c cells slots Q ad dA G A SH H0 nL (pc + 1) lv st I D) : AtM p l e R s m args below meth c cells slots Q ad dA G A SH H0 nL pc lv st I D := by
  obtain ⟨x, y, r, rfl, h1⟩ := t2L_e h
  exact fun H locs ls hl hP hS => lv_lmul B.1 B.2.1 hd (hk _ _ _ _ h1 H locs ls hl hP hS)
theorem x_land (B : BdX p R s m args c cells slots ad dA G A SH H0 nL cc own d SC) (hd : decode cc pc = .ok (.land, 1)) (h : t2L st (fun x y r => k lv (.long (x &&& y) :: r) I D)) (hk : ∀ lv st I D, k lv st I D → AtM p l e R s m args below meth c cells slots Q ad dA G A SH H0 nL (pc + 1) lv st I D) : AtM p l e R s m args below meth c cells slots Q ad dA G A SH H0 nL pc lv st I D := by
  obtain ⟨x, y, r, rfl, h1⟩ := t2L_e h
  exact fun H locs ls hl hP hS => lv_land B.1 B.2.1 hd (hk _ _ _ _ h1 H locs ls hl hP hS)
theorem x_lor (B : BdX p R s m args c cells slots ad dA G A SH H0 nL cc own d SC) (hd : decode cc pc = .ok (.lor, 1)) (h : t2L st (fun x y r => k lv (.long (x ||| y) :: r) I D)) (hk : ∀ lv st I D, k lv st I D → AtM p l e R s m args below meth c cells slots Q ad dA G A SH H0 nL (pc + 1) lv st I D) : AtM p l e R s m args below meth c cells slots Q ad dA G A SH H0 nL pc lv st I D := by
  obtain ⟨x, y, r, rfl, h1⟩ := t2L_e h
  exact fun H locs ls hl hP hS => lv_lor B.1 B.2.1 hd (hk _ _ _ _ h1 H locs ls hl hP hS)
theorem x_ldiv (B : BdX p R s m args c cells slots ad dA G A SH H0 nL cc own d SC) (hd : decode cc pc = .ok (.ldiv, 1)) (h : t2L st (fun x y r => ¬ y = 0 ∧ k lv (.long (x / y) :: r) I D)) (hk : ∀ lv st I D, k lv st I D → AtM p l e R s m args below meth c cells slots Q ad dA G A SH H0 nL (pc + 1) lv st I D) : AtM p l e R s m args below meth c cells slots Q ad dA G A SH H0 nL pc lv st I D := by
  obtain ⟨x, y, r, rfl, h0, h1⟩ := t2L_e h
  exact fun H locs ls hl hP hS => lv_ldiv B.1 B.2.1 hd h0 (hk _ _ _ _ h1 H locs ls hl hP hS)
theorem x_lcmp (B : BdX p R s m args c cells slots ad dA G A SH H0 nL cc own d SC) (hd : decode cc pc = .ok (.lcmp, 1)) (h : t2L st (fun x y r => k lv (.int (lg_cmp x y) :: r) I D)) (hk : ∀ lv st I D, k lv st I D → AtM p l e R s m args below meth c cells slots Q ad dA G A SH H0 nL (pc + 1) lv st I D) : AtM p l e R s m args below meth c cells slots Q ad dA G A SH H0 nL pc lv st I D := by
  obtain ⟨x, y, r, rfl, h1⟩ := t2L_e h
  exact fun H locs ls hl hP hS => W.lcmp B.1 B.2.1 hd (hk _ _ _ _ h1 H locs ls hl hP hS)
theorem x_dadd (B : BdX p R s m args c cells slots ad dA G A SH H0 nL cc own d SC) (hd : decode cc pc = .ok (.dadd, 1)) (h : t2D st (fun x y r => vf_n64 (FP.dadd x y) ∧ k lv (.double (FP.dadd x y) :: r) I D)) (hk : ∀ lv st I D, k lv st I D → AtM p l e R s m args below meth c cells slots Q ad dA G A SH H0 nL (pc + 1) lv st I D) : AtM p l e R s m args below meth c cells slots Q ad dA G A SH H0 nL pc lv st I D := by
  obtain ⟨x, y, r, rfl, h0, h1⟩ := t2D_e h
  exact fun H locs ls hl hP hS => lv_dadd B.1 B.2.1 hd h0 (hk _ _ _ _ h1 H locs ls hl hP hS)
theorem x_dsub (B : BdX p R s m args c cells slots ad dA G A SH H0 nL cc own d SC) (hd : decode cc pc = .ok (.dsub, 1)) (h : t2D st (fun x y r => vf_n64 (FP.dsub x y) ∧ k lv (.double (FP.dsub x y) :: r) I D)) (hk : ∀ lv st I D, k lv st I D → AtM p l e R s m args below meth c cells slots Q ad dA G A SH H0 nL (pc + 1) lv st I D) : AtM p l e R s m args below meth c cells slots Q ad dA G A SH H0 nL pc lv st I D := by
  obtain ⟨x, y, r, rfl, h0, h1⟩ := t2D_e h
  exact fun H locs ls hl hP hS => lv_dsub B.1 B.2.1 hd h0 (hk _ _ _ _ h1 H locs ls hl hP hS)
theorem x_dmul (B : BdX p R s m args c cells slots ad dA G A SH H0 nL cc own d SC) (hd : decode cc pc = .ok (.dmul, 1)) (h : t2D st (fun x y r => vf_n64 (FP.dmul x y) ∧ k lv (.double (FP.dmul x y) :: r) I D)) (hk : ∀ lv st I D, k lv st I D → AtM p l e R s m args below meth c cells slots Q ad dA G A SH H0 nL (pc + 1) lv st I D) : AtM p l e R s m args below meth c cells slots Q ad dA G A SH H0 nL pc lv st I D := by
  obtain ⟨x, y, r, rfl, h0, h1⟩ := t2D_e h
  exact fun H locs ls hl hP hS => lv_dmul B.1 B.2.1 hd h0 (hk _ _ _ _ h1 H locs ls hl hP hS)
theorem x_ddiv (B : BdX p R s m args c cells slots ad dA G A SH H0 nL cc own d SC) (hd : decode cc pc = .ok (.ddiv, 1)) (h : t2D st (fun x y r => vf_n64 (FP.ddiv x y) ∧ k lv (.double (FP.ddiv x y) :: r) I D)) (hk : ∀ lv st I D, k lv st I D → AtM p l e R s m args below meth c cells slots Q ad dA G A SH H0 nL (pc + 1) lv st I D) : AtM p l e R s m args below meth c cells slots Q ad dA G A SH H0 nL pc lv st I D := by
  obtain ⟨x, y, r, rfl, h0, h1⟩ := t2D_e h
  exact fun H locs ls hl hP hS => lv_ddiv B.1 B.2.1 hd h0 (hk _ _ _ _ h1 H locs ls hl hP hS)
theorem x_ineg (B : BdX p R s m args c cells slots ad dA G A SH H0 nL cc own d SC) (hd : decode cc pc = .ok (.ineg, 1)) (h : tI st (fun x r => k lv (.int (-x) :: r) I D)) (hk : ∀ lv st I D, k lv st I D → AtM p l e R s m args below meth c cells slots Q ad dA G A SH H0 nL (pc + 1) lv st I D) : AtM p l e R s m args below meth c cells slots Q ad dA G A SH H0 nL pc lv st I D := by
  obtain ⟨x, r, rfl, h1⟩ := tI_e h
  exact fun H locs ls hl hP hS => lv_ineg B.1 B.2.1 hd (hk _ _ _ _ h1 H locs ls hl hP hS)
theorem x_i2l (B : BdX p R s m args c cells slots ad dA G A SH H0 nL cc own d SC) (hd : decode cc pc = .ok (.i2l, 1)) (h : tI st (fun x r => k lv (.long (x.toInt64) :: r) I D)) (hk : ∀ lv st I D, k lv st I D → AtM p l e R s m args below meth c cells slots Q ad dA G A SH H0 nL (pc + 1) lv st I D) : AtM p l e R s m args below meth c cells slots Q ad dA G A SH H0 nL pc lv st I D := by
  obtain ⟨x, r, rfl, h1⟩ := tI_e h
  exact fun H locs ls hl hP hS => lv_i2l B.1 B.2.1 hd rfl (hk _ _ _ _ h1 H locs ls hl hP hS)
theorem x_i2d (B : BdX p R s m args c cells slots ad dA G A SH H0 nL cc own d SC) (hd : decode cc pc = .ok (.i2d, 1)) (h : tI st (fun x r => k lv (.double (FP.i2d x) :: r) I D)) (hk : ∀ lv st I D, k lv st I D → AtM p l e R s m args below meth c cells slots Q ad dA G A SH H0 nL (pc + 1) lv st I D) : AtM p l e R s m args below meth c cells slots Q ad dA G A SH H0 nL pc lv st I D := by
  obtain ⟨x, r, rfl, h1⟩ := tI_e h
  exact fun H locs ls hl hP hS => lv_i2d B.1 B.2.1 hd (hk _ _ _ _ h1 H locs ls hl hP hS)
theorem x_i2s (B : BdX p R s m args c cells slots ad dA G A SH H0 nL cc own d SC) (hd : decode cc pc = .ok (.i2s, 1)) (h : tI st (fun x r => k lv (.int (x.toInt16.toInt32) :: r) I D)) (hk : ∀ lv st I D, k lv st I D → AtM p l e R s m args below meth c cells slots Q ad dA G A SH H0 nL (pc + 1) lv st I D) : AtM p l e R s m args below meth c cells slots Q ad dA G A SH H0 nL pc lv st I D := by
  obtain ⟨x, r, rfl, h1⟩ := tI_e h
  exact fun H locs ls hl hP hS => lv_i2s B.1 B.2.1 hd rfl (hk _ _ _ _ h1 H locs ls hl hP hS)
theorem x_l2i (B : BdX p R s m args c cells slots ad dA G A SH H0 nL cc own d SC) (hd : decode cc pc = .ok (.l2i, 1)) (h : tL st (fun x r => k lv (.int (x.toInt32) :: r) I D)) (hk : ∀ lv st I D, k lv st I D → AtM p l e R s m args below meth c cells slots Q ad dA G A SH H0 nL (pc + 1) lv st I D) : AtM p l e R s m args below meth c cells slots Q ad dA G A SH H0 nL pc lv st I D := by
  obtain ⟨x, r, rfl, h1⟩ := tL_e h
  exact fun H locs ls hl hP hS => lv_l2i B.1 B.2.1 hd rfl (hk _ _ _ _ h1 H locs ls hl hP hS)
theorem x_dneg (B : BdX p R s m args c cells slots ad dA G A SH H0 nL cc own d SC) (hd : decode cc pc = .ok (.dneg, 1)) (h : tD st (fun x r => k lv (.double (FP.dneg x) :: r) I D)) (hk : ∀ lv st I D, k lv st I D → AtM p l e R s m args below meth c cells slots Q ad dA G A SH H0 nL (pc + 1) lv st I D) : AtM p l e R s m args below meth c cells slots Q ad dA G A SH H0 nL pc lv st I D := by
  obtain ⟨x, r, rfl, h1⟩ := tD_e h
  exact fun H locs ls hl hP hS => lv_dneg B.1 B.2.1 hd (hk _ _ _ _ h1 H locs ls hl hP hS)
theorem x_fneg (B : BdX p R s m args c cells slots ad dA G A SH H0 nL cc own d SC) (hd : decode cc pc = .ok (.fneg, 1)) (h : tF st (fun x r => k lv (.float (FP.fneg x) :: r) I D)) (hk : ∀ lv st I D, k lv st I D → AtM p l e R s m args below meth c cells slots Q ad dA G A SH H0 nL (pc + 1) lv st I D) : AtM p l e R s m args below meth c cells slots Q ad dA G A SH H0 nL pc lv st I D := by
  obtain ⟨x, r, rfl, h1⟩ := tF_e h
  exact fun H locs ls hl hP hS => lv_fneg B.1 B.2.1 hd (hk _ _ _ _ h1 H locs ls hl hP hS)
theorem x_d2l (B : BdX p R s m args c cells slots ad dA G A SH H0 nL cc own d SC) (hd : decode cc pc = .ok (.d2l, 1)) (h : tD st (fun x r => k lv (.long (FP.d2l x) :: r) I D)) (hk : ∀ lv st I D, k lv st I D → AtM p l e R s m args below meth c cells slots Q ad dA G A SH H0 nL (pc + 1) lv st I D) : AtM p l e R s m args below meth c cells slots Q ad dA G A SH H0 nL pc lv st I D := by
  obtain ⟨x, r, rfl, h1⟩ := tD_e h
  exact fun H locs ls hl hP hS => lv_d2l B.1 B.2.1 hd (hk _ _ _ _ h1 H locs ls hl hP hS)
theorem x_dcmp {o : CmpOp} (B : BdX p R s m args c cells slots ad dA G A SH H0 nL cc own d SC) (hd : decode cc pc = .ok (.dcmp o, 1)) (h : t2D st (fun x y r => k lv (.int (Op.cmpValue (FP.dcmp x y) o) :: r) I D)) (hk : ∀ lv st I D, k lv st I D → AtM p l e R s m args below meth c cells slots Q ad dA G A SH H0 nL (pc + 1) lv st I D) : AtM p l e R s m args below meth c cells slots Q ad dA G A SH H0 nL pc lv st I D := by
  obtain ⟨x, y, r, rfl, h1⟩ := t2D_e h
  exact fun H locs ls hl hP hS => lv_dcmp B.1 B.2.1 hd (hk _ _ _ _ h1 H locs ls hl hP hS)
theorem x_fcmp {o : CmpOp} (B : BdX p R s m args c cells slots ad dA G A SH H0 nL cc own d SC) (hd : decode cc pc = .ok (.fcmp o, 1)) (h : t2F st (fun x y r => k lv (.int (Op.cmpValue (FP.fcmp x y) o) :: r) I D)) (hk : ∀ lv st I D, k lv st I D → AtM p l e R s m args below meth c cells slots Q ad dA G A SH H0 nL (pc + 1) lv st I D) : AtM p l e R s m args below meth c cells slots Q ad dA G A SH H0 nL pc lv st I D := by
  obtain ⟨x, y, r, rfl, h1⟩ := t2F_e h
  exact fun H locs ls hl hP hS => lv_fcmp B.1 B.2.1 hd (hk _ _ _ _ h1 H locs ls hl hP hS)
theorem x_lshl (B : BdX p R s m args c cells slots ad dA G A SH H0 nL cc own d SC) (hd : decode cc pc = .ok (.lshl, 1)) (h : tI st (fun y r => tL r (fun x r => k lv (.long (x <<< (y.toInt64 &&& 63)) :: r) I D))) (hk : ∀ lv st I D, k lv st I D → AtM p l e R s m args below meth c cells slots Q ad dA G A SH H0 nL (pc + 1) lv st I D) : AtM p l e R s m args below meth c cells slots Q ad dA G A SH H0 nL pc lv st I D := by
  obtain ⟨y, r, rfl, h1⟩ := tI_e h
  obtain ⟨x, r, rfl, h1⟩ := tL_e h1
  exact fun H locs ls hl hP hS => lv_lshl B.1 B.2.1 hd rfl (hk _ _ _ _ h1 H locs ls hl hP hS)
theorem x_dup (B : BdX p R s m args c cells slots ad dA G A SH H0 nL cc own d SC) (hd : decode cc pc = .ok (.dup, 1)) (h : dup1 st (fun v r => k lv (v :: v :: r) I D)) (hk : ∀ lv st I D, k lv st I D → AtM p l e R s m args below meth c cells slots Q ad dA G A SH H0 nL (pc + 1) lv st I D) : AtM p l e R s m args below meth c cells slots Q ad dA G A SH H0 nL pc lv st I D := by
  obtain ⟨v, r, rfl, hc, h1⟩ := dup1_e h
  exact fun H locs ls hl hP hS => lv_dup B.1 B.2.1 hd (by rw [cv_cat]; exact hc) (hk _ _ _ _ h1 H locs ls hl hP hS)
theorem x_pop (B : BdX p R s m args c cells slots ad dA G A SH H0 nL cc own d SC) (hd : decode cc pc = .ok (.pop, 1)) (h : dup1 st (fun _ r => k lv r I D)) (hk : ∀ lv st I D, k lv st I D → AtM p l e R s m args below meth c cells slots Q ad dA G A SH H0 nL (pc + 1) lv st I D) : AtM p l e R s m args below meth c cells slots Q ad dA G A SH H0 nL pc lv st I D := by
  obtain ⟨v, r, rfl, hc, h1⟩ := dup1_e h
  exact fun H locs ls hl hP hS => lv_pop B.1 B.2.1 hd (by rw [cv_cat]; exact hc) (hk _ _ _ _ h1 H locs ls hl hP hS)
theorem x_dup2 (B : BdX p R s m args c cells slots ad dA G A SH H0 nL cc own d SC) (hd : decode cc pc = .ok (.dup2, 1)) (h : dup11 st (fun v w r => k lv (v :: w :: v :: w :: r) I D)) (hk : ∀ lv st I D, k lv st I D → AtM p l e R s m args below meth c cells slots Q ad dA G A SH H0 nL (pc + 1) lv st I D) : AtM p l e R s m args below meth c cells slots Q ad dA G A SH H0 nL pc lv st I D := by
  obtain ⟨v, w, r, rfl, hc, hc2, h1⟩ := dup11_e h
  exact fun H locs ls hl hP hS => lv_dup2_11 B.1 B.2.1 hd (by rw [cv_cat]; exact hc) (by rw [cv_cat]; exact hc2) (hk _ _ _ _ h1 H locs ls hl hP hS)
theorem x_goto {o : Int} (B : BdX p R s m args c cells slots ad dA G A SH H0 nL cc own d SC) (hd : decode cc pc = .ok (.goto o, 3)) (ht : (pc : Int) + o = (a : Int)) (h : AtM p l e R s m args below meth c cells slots Q ad dA G A SH H0 nL a lv st I D) : AtM p l e R s m args below meth c cells slots Q ad dA G A SH H0 nL pc lv st I D :=
  fun H locs ls hl hP hS => lv_goto B.1 B.2.1 hd ht (h H locs ls hl hP hS)
theorem x_if {cd : ClassFile.Cond} {o : Int} {jp : Kt} (B : BdX p R s m args c cells slots ad dA G A SH H0 nL cc own d SC) (hd : decode cc pc = .ok (.ifCond cd o, 3)) (ht : (pc : Int) + o = (a : Int)) (h : tI st (fun x r => xif cd x (jp a lv r I D) (k lv r I D))) (hj : ∀ t lv st I D, jp t lv st I D → AtM p l e R s m args below meth c cells slots Q ad dA G A SH H0 nL t lv st I D) (hk : ∀ lv st I D, k lv st I D → AtM p l e R s m args below meth c cells slots Q ad dA G A SH H0 nL (pc + 3) lv st I D) : AtM p l e R s m args below meth c cells slots Q ad dA G A SH H0 nL pc lv st I D := by
  obtain ⟨x, r, rfl, h1⟩ := tI_e h
  intro H locs ls hl hP hS
  cases cd
  · exact lv_if_eq B.1 B.2.1 hd ht (fun q => hj _ _ _ _ _ (h1.1 q) H locs ls hl hP hS) (fun q => hk _ _ _ _ (h1.2 q) H locs ls hl hP hS)
  · exact lv_if_ne B.1 B.2.1 hd ht (fun q => hj _ _ _ _ _ (h1.1 q) H locs ls hl hP hS) (fun q => hk _ _ _ _ (h1.2 q) H locs ls hl hP hS)
  · exact lv_if_lt B.1 B.2.1 hd ht (fun q => hj _ _ _ _ _ (h1.1 q) H locs ls hl hP hS) (fun q => hk _ _ _ _ (h1.2 q) H locs ls hl hP hS)
  · exact lv_if_ge B.1 B.2.1 hd ht (fun q => hj _ _ _ _ _ (h1.1 q) H locs ls hl hP hS) (fun q => hk _ _ _ _ (h1.2 q) H locs ls hl hP hS)
  · exact lv_if_gt B.1 B.2.1 hd ht (fun q => hj _ _ _ _ _ (h1.1 q) H locs ls hl hP hS) (fun q => hk _ _ _ _ (h1.2 q) H locs ls hl hP hS)
  · exact lv_if_le B.1 B.2.1 hd ht (fun q => hj _ _ _ _ _ (h1.1 q) H locs ls hl hP hS) (fun q => hk _ _ _ _ (h1.2 q) H locs ls hl hP hS)
theorem x_icmp {cd : ClassFile.Cond} {o : Int} {jp : Kt} (B : BdX p R s m args c cells slots ad dA G A SH H0 nL cc own d SC) (hd : decode cc pc = .ok (.if_icmp cd o, 3)) (ht : (pc : Int) + o = (a : Int)) (h : t2I st (fun x y r => xic cd x y (jp a lv r I D) (k lv r I D))) (hj : ∀ t lv st I D, jp t lv st I D → AtM p l e R s m args below meth c cells slots Q ad dA G A SH H0 nL t lv st I D) (hk : ∀ lv st I D, k lv st I D → AtM p l e R s m args below meth c cells slots Q ad dA G A SH H0 nL (pc + 3) lv st I D) : AtM p l e R s m args below meth c cells slots Q ad dA G A SH H0 nL pc lv st I D := by
  obtain ⟨x, y, r, rfl, h1⟩ := t2I_e h
  intro H locs ls hl hP hS
  cases cd
  · exact lv_icmp_eq B.1 B.2.1 hd ht (fun q => hj _ _ _ _ _ (h1.1 q) H locs ls hl hP hS) (fun q => hk _ _ _ _ (h1.2 q) H locs ls hl hP hS)
  · exact lv_icmp_ne B.1 B.2.1 hd ht (fun q => hj _ _ _ _ _ (h1.1 q) H locs ls hl hP hS) (fun q => hk _ _ _ _ (h1.2 q) H locs ls hl hP hS)
  · exact lv_icmp_lt B.1 B.2.1 hd ht (fun q => hj _ _ _ _ _ (h1.1 q) H locs ls hl hP hS) (fun q => hk _ _ _ _ (h1.2 q) H locs ls hl hP hS)
  · exact lv_icmp_ge B.1 B.2.1 hd ht (fun q => hj _ _ _ _ _ (h1.1 q) H locs ls hl hP hS) (fun q => hk _ _ _ _ (h1.2 q) H locs ls hl hP hS)
  · exact lv_icmp_gt B.1 B.2.1 hd ht (fun q => hj _ _ _ _ _ (h1.1 q) H locs ls hl hP hS) (fun q => hk _ _ _ _ (h1.2 q) H locs ls hl hP hS)
  · exact lv_icmp_le B.1 B.2.1 hd ht (fun q => hj _ _ _ _ _ (h1.1 q) H locs ls hl hP hS) (fun q => hk _ _ _ _ (h1.2 q) H locs ls hl hP hS)
theorem x_iinc {i : Nat} {n : Int} {cst : Int32} (B : BdX p R s m args c cells slots ad dA G A SH H0 nL cc own d SC) (hd : decode cc pc = .ok (.iinc i n, 3)) (hi : i = a) (hv : Int32.ofInt n = cst) (hn : a < nL) (h : xinc a (.int cst) lv (fun t => k t st I D)) (hk : ∀ lv st I D, k lv st I D → AtM p l e R s m args below meth c cells slots Q ad dA G A SH H0 nL (pc + 3) lv st I D) : AtM p l e R s m args below meth c cells slots Q ad dA G A SH H0 nL pc lv st I D := by
  obtain ⟨w, h1, h2⟩ := lk_e h
  subst hi
  cases w with
  | int x =>
    have h3 := fl1_e h2
    intro H locs ls hl hP hS
    have hm : (i, Value.int x) ∈ lv.map (cq ad) := List.mem_map.mpr ⟨_, h1, rfl⟩
    obtain ⟨j, hj⟩ := List.getElem?_of_mem hm
    exact lv_iinc (k := j) B.1 B.2.1 hd hl hj (by rw [hv]) hn (by rw [fl1_map]; rfl) (fun ls hl => hk _ _ _ _ h3 H locs ls hl hP hS)
  | _ => exact h2.elim
end RW
end
section
/-! cells: fields, rows, the script; calls -/
theorem pl_f {P : Pl} (hP : PlOk P) {q : Pf} (hq : q ∈ P.2.1) : wF P.1 q ∈ lw_tbl := by
  have h := List.map_inj_left.mp hP.1 q hq
  rw [nth_eq] at h
  exact tb_in _ _ (List.mem_of_getElem? h)
theorem pl_c {P : Pl} (hP : PlOk P) {q : Pc} (hq : q ∈ P.2.2.1) : wC P.1 q ∈ gt := by
  have h := List.map_inj_left.mp hP.2.1 q hq
  refine gt_in h ?_
  unfold wC
  split <;> rfl
theorem pl_m {P : Pl} (hP : PlOk P) {q : Pm} (hq : q ∈ P.2.2.2.1) : wM P.1 q ∈ gt := by
  have h := List.map_inj_left.mp hP.2.2.1 q hq
  refine gt_in h ?_
  unfold wM
  split <;> rfl
theorem pl_n {P : Pl} (hP : PlOk P) {q : Pm} (hq : q ∈ P.2.2.2.2) : wN P.1 q ∈ gt := by
  have h := List.map_inj_left.mp hP.2.2.2 q hq
  exact gt_in h rfl
theorem cT_at {a : Nat} (h : a < 13) : vwCl[a]? = some (cT a) := by
  have h1 : a < vwCl.length := h
  unfold cT
  rw [nth_eq, List.getElem?_eq_getElem h1]
theorem cT_ok {a : Nat} (h : a < 13) : clOk (cT a) := vw_ok _ (List.mem_of_getElem? (cT_at h))
theorem mt_good {mid : Nat} {q : Me} (h : nth MT mid = some q) : okM q = true := List.all_eq_true.mp MT_ok q (by rw [nth_eq] at h; exact List.mem_of_getElem? h)
theorem plc_in {q : Me} {i : Nat} {w : Cond} (h : plc q i = some w) (hg : goodWord w = true) : w ∈ gt := by
  unfold plc at h
  split at h
  next z _ => exact gt_in h hg
  next => cases h
theorem mt_words {mid : Nat} {q : Me} (h : nth MT mid = some q) : Cond.code q.1 q.2.1 q.2.2.1 q.2.2.2.1 ∈ gt ∧ Cond.initialized q.1.cls ∈ gt ∧ (q.2.2.2.2.2.1 = true → Cond.static q.1 ∈ gt) ∧ (q.2.2.2.2.2.1 = false → Cond.instanceMethod q.1 ∈ gt ∧ Cond.selects q.1.cls q.1 q.1 ∈ gt) := by
  have h1 := List.map_inj_left.mp MT_w q (by rw [nth_eq] at h; exact List.mem_of_getElem? h)
  unfold mw mw' at h1
  cases hs : q.2.2.2.2.2.1 with
  | true =>
    rw [hs] at h1
    simp only [List.cons.injEq, and_true] at h1
    exact ⟨plc_in h1.1 rfl, plc_in h1.2.1 rfl, ⟨fun _ => plc_in h1.2.2.1 rfl, nofun⟩⟩
  | false =>
    rw [hs] at h1
    simp only [List.cons.injEq, and_true] at h1
    exact ⟨plc_in h1.1 rfl, plc_in h1.2.1 rfl, ⟨nofun, fun _ => ⟨plc_in h1.2.2.1 rfl, plc_in h1.2.2.2 rfl⟩⟩⟩
section RH
variable {p : Program} {l : Launch} {e : Env} {R : Room} {s : State} {m : MethodId} {args : Array Value} {below : List Frame} {meth : Method} {c : Code} {cells slots : Nat} {Q : State → Prop}
variable {ad : Nat → Nat} {dA : Nat → ClassId} {G : va_G} {A : Nat → Prop} {SH : List Sh} {H0 : Heap} {nL : Nat} {cc : ByteArray} {own : String} {d : Nat} {SC : Option (Nat × (Nat → Int32))}
variable {pc : Nat} {lv : Lv} {st : List Value} {I : MI} {D : MD} {k : Nt} {a b : Nat} {v : Value}
theorem x_get {n : Nat} {z : Bool} {t o : Nat} (B : BdX p R s m args c cells slots ad dA G A SH H0 nL cc own d SC) (hd : decode cc pc = .ok (.getfield n, 3)) (ha : a < 13) (hn : b < (cT a).2.2) (hw : wF own (n, a, b, z, t, o) ∈ lw_tbl) (h : xget SH a b st I D (fun r => k lv r I D)) (hk : ∀ lv st I D, k lv st I D → AtM p l e R s m args below meth c cells slots Q ad dA G A SH H0 nL (pc + 3) lv st I D) : AtM p l e R s m args below meth c cells slots Q ad dA G A SH H0 nL pc lv st I D := by
  obtain ⟨q, r, rfl, h1⟩ := tR_e h
  obtain ⟨fks, hs, h2⟩ := atO_e h1
  intro H locs ls hl hP hS
  have key : ∀ f : Nat ⊕ Bool, nth fks b = some f → W p l e R s m args below meth c H locs cells slots Q (F0 m (pc + 3) ls (fv ad I D q b f :: r.map (cv ad))) → W p l e R s m args below meth c H locs cells slots Q (F0 m pc ls ((Value.ref q :: r).map (cv ad))) := by
    intro f hf kk
    have hv : (fvs ad I D q 0 fks)[b]? = some (fv ad I D q b f) := by rw [fvs_get, ← nth_eq, hf]; simp
    cases z with
    | false => exact va_get (D := G) (ci := a) (C := (cT a).1) (T := (cT a).2.1) (N := (cT a).2.2) B.1 B.2.1 B.2.2.2.2.1 (cT_ok ha).1 B.2.2.2.1 B.2.2.2.2.2.1 hP q (wld_at hs) (cT_at ha) b hn (B.2.2.2.2.1 _ (List.mem_filter.mpr ⟨hw, rfl⟩)) (fun _ h9 => h9) hv hd kk
    | true => exact va_getN (D := G) (ci := a) (C := (cT a).1) (T := (cT a).2.1) (N := (cT a).2.2) B.1 B.2.1 B.2.2.2.2.1 (cT_ok ha).1 B.2.2.2.1 B.2.2.2.2.2.1 hP q (wld_at hs) (cT_at ha) b hn (va_Nw.use rfl (B.2.2.2.2.2.2.2.2.2 _ _ _ _ _ _ hw)) (fun _ h9 => h9) hv hd kk
  cases hf : nth fks b with
  | none => rw [hf] at h2; exact h2.elim
  | some f =>
    rw [hf] at h2
    refine key f hf ?_
    rcases f with t | (_ | _)
    · exact hk _ _ _ _ h2 H locs ls hl hP hS
    · exact hk _ _ _ _ h2 H locs ls hl hP hS
    · exact hk _ _ _ _ h2 H locs ls hl hP hS
/-- a field is written: its type is int, boolean (then 0 or 1) or double -/
theorem x_put {n : Nat} {z : Bool} {t o : Nat} {ty : FieldType} (B : BdX p R s m args c cells slots ad dA G A SH H0 nL cc own d SC) (hd : decode cc pc = .ok (.putfield n, 3)) (ha : a < 13) (hn : b < (cT a).2.2) (hw : wF own (n, a, b, z, t, o) ∈ lw_tbl) (hfin : ((cT a).2.1 b).2.2.2 = false) (hty : parseFieldDescriptor ((cT a).2.1 b).2.2.1 = some ty)
    (hok : (ty = .int ∧ v = .null) ∨ (ty = .boolean ∧ v = .ref 1) ∨ (ty = .double ∧ v = .ref 2)) (h : xput SH a b v st I D (fun r I D => k lv r I D)) (hk : ∀ lv st I D, k lv st I D → AtM p l e R s m args below meth c cells slots Q ad dA G A SH H0 nL (pc + 3) lv st I D) : AtM p l e R s m args below meth c cells slots Q ad dA G A SH H0 nL pc lv st I D := by
  intro H locs ls hl hP hS
  obtain ⟨hin, ⟨ty0, hty0⟩, hnm⟩ := cT_ok ha
  have key : ∀ (w : Value) (q : Nat) (r : List Value) (fks : List (Nat ⊕ Bool)) (I' : MI) (D' : MD), nth SH q = some (.inl (a, fks)) → b < fks.length → narrow ty w = w → fits ty w = true → ((wld ad dA I D 0 SH).set q (ad q, .inr (a, (fvs ad I D q 0 fks).set b w)) = wld ad dA I' D' 0 SH) → AtM p l e R s m args below meth c cells slots Q ad dA G A SH H0 nL (pc + 3) lv r I' D' → W p l e R s m args below meth c H locs cells slots Q (F0 m pc ls (w :: .ref (ad q) :: r.map (cv ad))) := by
    intro w q r fks I' D' hs hb hnar hfit hset hK
    have hlen : b < (fvs ad I D q 0 fks).length := by rw [fvs_len]; exact hb
    cases z with
    | false =>
      refine va_put (D := G) (ci := a) (C := (cT a).1) (T := (cT a).2.1) (N := (cT a).2.2) B.1 B.2.1 B.2.2.2.2.1 hin ty0 hty0 hnm B.2.2.2.1 B.2.2.2.2.2.1 hP (B.2.2.2.2.2.2.1 I D) hS q (wld_at hs) (cT_at ha) b hn (B.2.2.2.2.1 _ (List.mem_filter.mpr ⟨hw, rfl⟩)) (fun _ h9 => h9) hfin hty hnar hfit hlen hd (fun H1 locs1 hP1 _ hS1 => ?_)
      rw [hset] at hP1
      exact hK H1 locs1 ls hl hP1 hS1
    | true =>
      refine va_putN (D := G) (ci := a) (C := (cT a).1) (T := (cT a).2.1) (N := (cT a).2.2) B.1 B.2.1 B.2.2.2.2.1 hin ty0 hty0 hnm B.2.2.2.1 B.2.2.2.2.2.1 hP (B.2.2.2.2.2.2.1 I D) hS q (wld_at hs) (cT_at ha) b hn (va_Nw.use rfl (B.2.2.2.2.2.2.2.2.2 _ _ _ _ _ _ hw)) (fun _ h9 => h9) hfin hty hnar hfit hlen hd (fun H1 locs1 hP1 _ hS1 => ?_)
      rw [hset] at hP1
      exact hK H1 locs1 ls hl hP1 hS1
  have lenOf : ∀ {fks : List (Nat ⊕ Bool)} {f : Nat ⊕ Bool}, nth fks b = some f → b < fks.length := by
    intro fks f hf
    rw [nth_eq] at hf
    exact (List.getElem?_eq_some_iff.mp hf).1
  unfold xput at h
  split at h
  next x q r =>
    obtain ⟨fks, hs, h2⟩ := atO_e h
    split at h2
    next hf =>
      have hset : (wld ad dA I D 0 SH).set q (ad q, .inr (a, (fvs ad I D q 0 fks).set b (.int x))) = wld ad dA (up2 I q b x) D 0 SH :=
        wld_set hs (fun i hi => up2_ne hi) (fun _ _ => rfl) (by rw [fvs_setI hf]; rfl)
      rcases hok with ⟨rfl, rfl⟩ | ⟨rfl, rfl⟩ | ⟨rfl, rfl⟩
      · exact key (.int x) q r fks _ _ hs (lenOf hf) rfl rfl hset (hk _ _ _ _ h2)
      · refine key (.int x) q r fks _ _ hs (lenOf hf) ?_ ?_ hset (hk _ _ _ _ h2.2)
        · rcases h2.1 with rfl | rfl <;> rfl
        · rcases h2.1 with rfl | rfl <;> rfl
      · exact h2.elim
    next => exact h2.elim
  next x q r =>
    obtain ⟨fks, hs, h2⟩ := atO_e h
    split at h2
    next hf =>
      have hset : (wld ad dA I D 0 SH).set q (ad q, .inr (a, (fvs ad I D q 0 fks).set b (.double x))) = wld ad dA I (up2 D q b x) 0 SH :=
        wld_set hs (fun _ _ => rfl) (fun i hi => up2_ne hi) (by rw [fvs_setD hf]; rfl)
      rcases hok with ⟨rfl, rfl⟩ | ⟨rfl, rfl⟩ | ⟨rfl, rfl⟩
      · exact h2.elim
      · exact h2.elim
      · exact key (.double x) q r fks _ _ hs (lenOf hf) rfl rfl hset (hk _ _ _ _ h2)
    next => exact h2.elim
  next => exact h.elim
theorem x_iald (B : BdX p R s m args c cells slots ad dA G A SH H0 nL cc own d SC) (hd : decode cc pc = .ok (.iaload, 1)) (h : xald SH 0 st I (fun r => k lv r I D)) (hk : ∀ lv st I D, k lv st I D → AtM p l e R s m args below meth c cells slots Q ad dA G A SH H0 nL (pc + 1) lv st I D) : AtM p l e R s m args below meth c cells slots Q ad dA G A SH H0 nL pc lv st I D := by
  intro H locs ls hl hP hS
  unfold xald at h
  split at h
  next i q r =>
    obtain ⟨n, hs, hi, h2⟩ := atA_e h
    exact va_iald B.1 B.2.1 B.2.2.2.2.2.1 hP q 0 (wld_at hs) rfl (inn_vp hi) hd (hk _ _ _ _ h2 H locs ls hl hP hS)
  next => exact h.elim
theorem x_zald (B : BdX p R s m args c cells slots ad dA G A SH H0 nL cc own d SC) (hd : decode cc pc = .ok (.baload, 1)) (h : xald SH 1 st I (fun r => k lv r I D)) (hk : ∀ lv st I D, k lv st I D → AtM p l e R s m args below meth c cells slots Q ad dA G A SH H0 nL (pc + 1) lv st I D) : AtM p l e R s m args below meth c cells slots Q ad dA G A SH H0 nL pc lv st I D := by
  intro H locs ls hl hP hS
  unfold xald at h
  split at h
  next i q r =>
    obtain ⟨n, hs, hi, h2⟩ := atA_e h
    exact va_zald B.1 B.2.1 B.2.2.2.2.2.1 hP q 1 (wld_at hs) rfl (inn_vp hi) hd (hk _ _ _ _ h2 H locs ls hl hP hS)
  next => exact h.elim
theorem x_sald (B : BdX p R s m args c cells slots ad dA G A SH H0 nL cc own d SC) (hd : decode cc pc = .ok (.saload, 1)) (h : xald SH 2 st I (fun r => k lv r I D)) (hk : ∀ lv st I D, k lv st I D → AtM p l e R s m args below meth c cells slots Q ad dA G A SH H0 nL (pc + 1) lv st I D) : AtM p l e R s m args below meth c cells slots Q ad dA G A SH H0 nL pc lv st I D := by
  intro H locs ls hl hP hS
  unfold xald at h
  split at h
  next i q r =>
    obtain ⟨n, hs, hi, h2⟩ := atA_e h
    exact va_sald B.1 B.2.1 B.2.2.2.2.2.1 hP q 2 (wld_at hs) rfl (inn_vp hi) hd (hk _ _ _ _ h2 H locs ls hl hP hS)
  next => exact h.elim
theorem x_ild (B : BdX p R s m args c cells slots ad dA G A SH H0 nL cc own d SC) (hd : decode cc pc = .ok (.iaload, 1)) (h : xild SH SC st I (fun r => k lv r I D)) (hk : ∀ lv st I D, k lv st I D → AtM p l e R s m args below meth c cells slots Q ad dA G A SH H0 nL (pc + 1) lv st I D) : AtM p l e R s m args below meth c cells slots Q ad dA G A SH H0 nL pc lv st I D := by
  unfold xild at h
  split at h
  next => exact x_iald B hd h hk
  next z =>
    intro H locs ls hl hP hS
    split at h
    next i r =>
      obtain ⟨h1, h2, h3⟩ := B.2.2.2.2.2.2.2.1 z rfl
      exact va_sld B.1 B.2.1 h1 h2 h3 hS (inn_vp h.1) hd (hk _ _ _ _ h.2 H locs ls hl hP hS)
    next => exact h.elim
theorem x_len (B : BdX p R s m args c cells slots ad dA G A SH H0 nL cc own d SC) (hd : decode cc pc = .ok (.arraylength, 1)) (h : xlen SC st (fun r => k lv r I D)) (hk : ∀ lv st I D, k lv st I D → AtM p l e R s m args below meth c cells slots Q ad dA G A SH H0 nL (pc + 1) lv st I D) : AtM p l e R s m args below meth c cells slots Q ad dA G A SH H0 nL pc lv st I D := by
  intro H locs ls hl hP hS
  unfold xlen at h
  split at h
  next z r =>
    obtain ⟨h1, h2, h3⟩ := B.2.2.2.2.2.2.2.1 z rfl
    exact va_slen B.1 B.2.1 h1 h2 h3 hS hd (hk _ _ _ _ h H locs ls hl hP hS)
  next => exact h.elim
theorem x_dald (B : BdX p R s m args c cells slots ad dA G A SH H0 nL cc own d SC) (hd : decode cc pc = .ok (.daload, 1)) (h : xdld SH st D (fun r => k lv r I D)) (hk : ∀ lv st I D, k lv st I D → AtM p l e R s m args below meth c cells slots Q ad dA G A SH H0 nL (pc + 1) lv st I D) : AtM p l e R s m args below meth c cells slots Q ad dA G A SH H0 nL pc lv st I D := by
  intro H locs ls hl hP hS
  unfold xdld at h
  split at h
  next i q r =>
    obtain ⟨n, hs, hi, h2⟩ := atA_e h
    exact va_dald B.1 B.2.1 B.2.2.2.2.2.1 hP q 3 (wld_at hs) rfl (inn_vp hi) hd (hk _ _ _ _ h2 H locs ls hl hP hS)
  next => exact h.elim
theorem x_iast (B : BdX p R s m args c cells slots ad dA G A SH H0 nL cc own d SC) (hd : decode cc pc = .ok (.iastore, 1)) (h : xast SH 0 (fun x => x) st I (fun r I => k lv r I D)) (hk : ∀ lv st I D, k lv st I D → AtM p l e R s m args below meth c cells slots Q ad dA G A SH H0 nL (pc + 1) lv st I D) : AtM p l e R s m args below meth c cells slots Q ad dA G A SH H0 nL pc lv st I D := by
  intro H locs ls hl hP hS
  unfold xast at h
  split at h
  next x i q r =>
    obtain ⟨n, hs, hi, h2⟩ := atA_e h
    refine va_iast B.1 B.2.1 B.2.2.2.2.2.1 hP (B.2.2.2.2.2.2.1 I D) hS q 0 (wld_at hs) rfl (inn_vp hi) hd (fun H1 locs1 hP1 _ hS1 => ?_)
    rw [wld_set (I' := up2 I q i.toNatClampNeg ((fun x => x) x)) (D' := D) hs (fun i hi => up2_ne hi) (fun _ _ => rfl) (by simp only [ent, up2_row]; rfl)] at hP1
    exact hk _ _ _ _ h2 H1 locs1 ls hl hP1 hS1
  next => exact h.elim
theorem x_zast (B : BdX p R s m args c cells slots ad dA G A SH H0 nL cc own d SC) (hd : decode cc pc = .ok (.bastore, 1)) (h : xast SH 1 (vp_nar .boolean) st I (fun r I => k lv r I D)) (hk : ∀ lv st I D, k lv st I D → AtM p l e R s m args below meth c cells slots Q ad dA G A SH H0 nL (pc + 1) lv st I D) : AtM p l e R s m args below meth c cells slots Q ad dA G A SH H0 nL pc lv st I D := by
  intro H locs ls hl hP hS
  unfold xast at h
  split at h
  next x i q r =>
    obtain ⟨n, hs, hi, h2⟩ := atA_e h
    refine va_zast B.1 B.2.1 B.2.2.2.2.2.1 hP (B.2.2.2.2.2.2.1 I D) hS q 1 (wld_at hs) rfl (inn_vp hi) hd (fun H1 locs1 hP1 _ hS1 => ?_)
    rw [wld_set (I' := up2 I q i.toNatClampNeg ((vp_nar .boolean) x)) (D' := D) hs (fun i hi => up2_ne hi) (fun _ _ => rfl) (by simp only [ent, up2_row]; rfl)] at hP1
    exact hk _ _ _ _ h2 H1 locs1 ls hl hP1 hS1
  next => exact h.elim
theorem x_sast (B : BdX p R s m args c cells slots ad dA G A SH H0 nL cc own d SC) (hd : decode cc pc = .ok (.sastore, 1)) (h : xast SH 2 (vp_nar .short) st I (fun r I => k lv r I D)) (hk : ∀ lv st I D, k lv st I D → AtM p l e R s m args below meth c cells slots Q ad dA G A SH H0 nL (pc + 1) lv st I D) : AtM p l e R s m args below meth c cells slots Q ad dA G A SH H0 nL pc lv st I D := by
  intro H locs ls hl hP hS
  unfold xast at h
  split at h
  next x i q r =>
    obtain ⟨n, hs, hi, h2⟩ := atA_e h
    refine va_sast B.1 B.2.1 B.2.2.2.2.2.1 hP (B.2.2.2.2.2.2.1 I D) hS q 2 (wld_at hs) rfl (inn_vp hi) hd (fun H1 locs1 hP1 _ hS1 => ?_)
    rw [wld_set (I' := up2 I q i.toNatClampNeg ((vp_nar .short) x)) (D' := D) hs (fun i hi => up2_ne hi) (fun _ _ => rfl) (by simp only [ent, up2_row]; rfl)] at hP1
    exact hk _ _ _ _ h2 H1 locs1 ls hl hP1 hS1
  next => exact h.elim
theorem x_dast (B : BdX p R s m args c cells slots ad dA G A SH H0 nL cc own d SC) (hd : decode cc pc = .ok (.dastore, 1)) (h : xdst SH st D (fun r D => k lv r I D)) (hk : ∀ lv st I D, k lv st I D → AtM p l e R s m args below meth c cells slots Q ad dA G A SH H0 nL (pc + 1) lv st I D) : AtM p l e R s m args below meth c cells slots Q ad dA G A SH H0 nL pc lv st I D := by
  intro H locs ls hl hP hS
  unfold xdst at h
  split at h
  next x i q r =>
    obtain ⟨n, hs, hi, h2⟩ := atA_e h
    refine va_dast B.1 B.2.1 B.2.2.2.2.2.1 hP (B.2.2.2.2.2.2.1 I D) hS q 3 (wld_at hs) rfl (inn_vp hi) hd (fun H1 locs1 hP1 _ hS1 => ?_)
    rw [wld_set (I' := I) (D' := up2 D q i.toNatClampNeg x) hs (fun _ _ => rfl) (fun i hi => up2_ne hi) (by simp only [ent, up2_rowD]; rfl)] at hP1
    exact hk _ _ _ _ h2 H1 locs1 ls hl hP1 hS1
  next => exact h.elim
end RH
end
section
/-! a method's contract, and calls by it -/
def rmd (d : Nat) : Room := { frames := d + 1, cells := 0, slots := 0, locals := 64 * (d + 1) }
def AdOk (ad : Nat → Nat) (A : Nat → Prop) (n : Nat) : Prop := (∀ i j, i < n → j < n → ad i = ad j → i = j) ∧ ∀ i, i < n → A (ad i)
def PcM (g : Gp) (SH : List Sh) (As : List Value) (I : MI) (D : MD) : Array Value → State → Prop := va_Pc (As.map (cv g.2.1)) (fun U => AdOk g.2.1 g.2.2.2.2 SH.length ∧ va_K g.2.2.2.1 vwCl (tysOf g.2.2.1) U ∧ NwOk U ∧ va_P g.2.2.2.1 vwCl (wld g.2.1 g.2.2.1 I D 0 SH) U.heap)
def QcM (g : Gp) (SH : List Sh) (Post : Po) : Array Value → State → Outcome → State → Prop := fun _ st oc t => (∃ r I D, oc = .returned (r.map (cv g.2.1)) ∧ Post r I D ∧ va_P g.2.2.2.1 vwCl (wld g.2.1 g.2.2.1 I D 0 SH) t.heap) ∧ va_F g.2.2.2.2 st t
/-- method mid, called with As over the contents I, D, with room for d calls one in the other, answers and leaves contents as Post says -/
def Con (g : Gp) (SH : List Sh) (d mid : Nat) (As : List Value) (I : MI) (D : MD) (Post : Po) : Prop :=
  ∀ q : Me, nth MT mid = some q → Met g.1 q.1 (Cond.code q.1 q.2.1 q.2.2.1 q.2.2.2.1 :: gt) (rmd d) (PcM g SH As I D) (QcM g SH Post) 0 0 g.2.2.2.2
def CaD (g : Gp) (SH : List Sh) : Nat → Ck
  | 0 => fun _ _ _ _ _ => False
  | d + 1 => fun mid As I D k => ∃ Post, Con g SH d mid As I D Post ∧ ∀ o I' D', Post o I' D' → k o I' D'
theorem wld_D {ad : Nat → Nat} {dA : Nat → ClassId} {A : Nat → Prop} {SH : List Sh} (h : AdOk ad A SH.length) (I : MI) (D : MD) : va_D A (wld ad dA I D 0 SH) := by
  have e : ∀ (k : Nat) (q : Nat × va_E), (wld ad dA I D 0 SH)[k]? = some q → k < SH.length ∧ q.1 = ad k := by
    intro k q hq
    have hl : k < (wld ad dA I D 0 SH).length := (List.getElem?_eq_some_iff.mp hq).1
    rw [wld_len] at hl
    rw [wld_get, List.getElem?_eq_getElem hl] at hq
    simp only [Option.map_some, Option.some.injEq, Nat.zero_add] at hq
    exact ⟨hl, by rw [← hq]⟩
  refine ⟨fun i j x y hi hj hxy => ?_, fun k q hq => ?_⟩
  · obtain ⟨h1, h2⟩ := e i x hi
    obtain ⟨h3, h4⟩ := e j y hj
    exact h.1 i j h1 h3 (by rw [← h2, ← h4]; exact hxy)
  · obtain ⟨h1, h2⟩ := e k q hq
    rw [h2]
    exact h.2 k h1
theorem PcM_blind (g : Gp) (SH : List Sh) (As : List Value) (I : MI) (D : MD) : FrameBlind (PcM g SH As I D) := by
  intro a U gf mk q
  obtain ⟨q0, q1, qK, qN, qP⟩ := q
  exact ⟨q0, q1, va_K.moved (u := U) (U := U.calling gf mk a) (Vm.Alike.refl U.vm) qK, NwOk.same (s := U) rfl qN, qP⟩
theorem gt_goodIn {w : Cond} (hw : w ∈ gt) : GoodIn gt (w :: gt) := by
  intro x hx
  have hm : x ∈ gt := (List.mem_cons.mp hx).elim (fun e => by rw [e]; exact hw) (fun h => h)
  exact ⟨hm, good_of_word (List.mem_filter.mp hm).2⟩
section RC
variable {p : Program} {l : Launch} {e : Env} {R : Room} {s : State} {m : MethodId} {args : Array Value} {below : List Frame} {meth : Method} {c : Code} {cells slots : Nat} {Q : State → Prop}
variable {ad : Nat → Nat} {dA : Nat → ClassId} {G : va_G} {A : Nat → Prop} {SH : List Sh} {H0 : Heap} {nL : Nat} {cc : ByteArray} {own : String} {d : Nat} {SC : Option (Nat × (Nat → Int32))}
variable {pc : Nat} {lv : Lv} {st : List Value} {I : MI} {D : MD} {k : Nt} {a b : Nat} {v : Value}
theorem cl_go {H : Heap} {locs : List Loc} {ls : Array Slot} {st0 rest : List Value} {Post : Po} {av : Array Value} (hr : va_Run p l e R s m args below meth c H locs cells slots 0 0 (F0 m pc ls st0) rest (QcM (l, ad, dA, G, A) SH Post av) A) (hS : va_S A H0 H locs)
    (kk : ∀ r I' D' H1 locs1, Post r I' D' → va_P G vwCl (wld ad dA I' D' 0 SH) H1 → va_S A H0 H1 locs1 → W p l e R s m args below meth c H1 locs1 cells slots Q (F0 m (pc + 3) ls ((r.map (cv ad)).toList ++ rest))) : W p l e R s m args below meth c H locs cells slots Q (F0 m pc ls st0) := by
  intro T hT X
  obtain ⟨v, st₀, t, T', L, h0, X', hL, e1, e2, ⟨⟨r, I', D', hv, hp, hb⟩, hz, hk⟩, st⟩ := hr T hT X
  cases hv
  rw [h0] at hz hk
  obtain ⟨t2, a1, b1⟩ := kk r I' D' T'.heap (locs ++ L) hp (by rw [e1]; exact hb)
    ⟨Nat.le_trans hS.1 (by rw [e1]; exact hz), fun q h1 h2 => by rw [e1, hk q (Nat.lt_of_lt_of_le h1 hS.1) h2]; exact hS.2.1 q h1 h2, fun q hq => by
      rcases List.mem_append.mp hq with h | h
      · exact hS.2.2 q h
      · exact hL q h⟩ T' rfl X'
  exact ⟨t2, st t2 a1, b1⟩
theorem okM_e {q : Me} (h : okM q = true) : q.1.cls ≠ "java/lang/invoke/MethodHandle" ∧ q.1.cls ≠ "java/lang/invoke/VarHandle" ∧ (parseMethodDescriptor q.1.desc).map (fun d => d.parameters.length) = some q.2.2.2.2.1 ∧ q.2.2.1 ≤ 40 ∧ plainFor q.1 = true ∧ (q.2.2.2.2.2.1 = false → (vwCl[q.2.2.2.2.2.2.1]?).map (fun z => z.1) = some q.1.cls) := by
  unfold okM at h
  simp only [Bool.and_eq_true, decide_eq_true_eq] at h
  obtain ⟨⟨⟨⟨⟨h1, h2⟩, h3⟩, h4⟩, h5⟩, h6⟩ := h
  refine ⟨h1, h2, h3, Nat.le_of_ble_eq_true h4, h5, fun hs => ?_⟩
  rw [hs] at h6
  simpa using h6
theorem map_cv_cat (r : List Value) : ((r.map (cv ad)).map fun v => v.category).sum = csum r := by
  rw [csum_e, List.map_map]
  congr 1
  apply List.map_congr_left
  intro x _
  exact cv_cat ad x
theorem opt_map (r : Option Value) (rest : List Value) : (r.map (cv ad)).toList ++ rest.map (cv ad) = (r.toList ++ rest).map (cv ad) := by
  cases r <;> simp
theorem x_callS {n : Nat} {q : Me} (B : BdX p R s m args c cells slots ad dA G A SH H0 nL cc own d SC) (hAd : AdOk ad A SH.length) (hd : decode cc pc = .ok (.invokestatic n, 3)) (hq : nth MT a = some q) (hst : q.2.2.2.2.2.1 = true) (hb : q.2.2.2.2.1 = b) (hw : Cond.methodLink own n q.1 ∈ gt)
    (h : popN b st [] (fun As r => okst r (CaD (l, ad, dA, G, A) SH d a As I D (fun o I' D' => k lv (o.toList ++ r) I' D')))) (hk : ∀ lv st I D, k lv st I D → AtM p l e R s m args below meth c cells slots Q ad dA G A SH H0 nL (pc + 3) lv st I D) : AtM p l e R s m args below meth c cells slots Q ad dA G A SH H0 nL pc lv st I D := by
  obtain ⟨vs, r, hn, rfl, h1⟩ := popN_e h
  rw [List.append_nil] at h1
  obtain ⟨hcs, h2⟩ := okst_e h1
  cases d with
  | zero => exact h2.elim
  | succ d =>
    obtain ⟨Post, hC, hkon⟩ := h2
    intro H locs ls hl hP hS
    obtain ⟨o1, o2, o3, o4, o5, -⟩ := okM_e (mt_good hq)
    obtain ⟨w1, w2, w3, -⟩ := mt_words hq
    obtain ⟨hx, hbb, hml, hown, hts, hK, -, -, ⟨r1, r2, r3, r4⟩, hN⟩ := id B
    have hM := hC q hq
    refine cl_go (hr := va_runS (As := (vs.reverse).map (cv ad)) (rest := r.map (cv ad)) ⟨hx, hbb, hml, hown, hts⟩ hM ⟨callB_of b hts (gt_goodIn w1) rfl rfl rfl (hts _ w2) (hts _ hw) ⟨o1, o2, by rw [← hb]; exact o3⟩ ⟨?_, ?_⟩, hts _ (w3 hst)⟩ ⟨PcM_blind _ _ _ _ _, fun U hU hW => ⟨rfl, hAd, va_K.moved hW.alike hK, NwOk.warm hW hN, by rw [hU]; exact hP⟩⟩ rfl ?_ hl.1 ?_ ?_ hd ⟨r3, r4⟩) hS (fun r I' D' H1 locs1 hp hP1 hS1 => ?_)
    · show d + 1 + 1 ≤ R.frames
      omega
    · show 8 + (q.2.2.1 + 11) + 64 * (d + 1) ≤ R.locals
      omega
    · simp [hn]
    · simp
    · refine lv_room ?_
      rw [map_cv_cat]
      exact hcs
    · have h5 := hk _ _ _ _ (hkon r I' D' hp) H1 locs1 ls hl hP1 hS1
      rw [← opt_map] at h5
      exact h5
theorem x_callV {n ci : Nat} {q : Me} (B : BdX p R s m args c cells slots ad dA G A SH H0 nL cc own d SC) (hAd : AdOk ad A SH.length) (hd : decode cc pc = .ok (.invokevirtual n, 3)) (hq : nth MT a = some q) (hst : q.2.2.2.2.2.1 = false) (hb : q.2.2.2.2.1 = b) (hci : q.2.2.2.2.2.2.1 = ci) (hw : Cond.methodLink own n q.1 ∈ gt)
    (h : popN b st [] (fun As r => tR r (fun t r => atO SH t ci (fun _ => okst r (CaD (l, ad, dA, G, A) SH d a (.ref t :: As) I D (fun o I' D' => k lv (o.toList ++ r) I' D')))))) (hk : ∀ lv st I D, k lv st I D → AtM p l e R s m args below meth c cells slots Q ad dA G A SH H0 nL (pc + 3) lv st I D) : AtM p l e R s m args below meth c cells slots Q ad dA G A SH H0 nL pc lv st I D := by
  obtain ⟨vs, r, hn, rfl, h1⟩ := popN_e h
  rw [List.append_nil] at h1
  obtain ⟨t, r, rfl, h3⟩ := tR_e h1
  obtain ⟨fks, hs, h4⟩ := atO_e h3
  obtain ⟨hcs, h2⟩ := okst_e h4
  cases d with
  | zero => exact h2.elim
  | succ d =>
    obtain ⟨Post, hC, hkon⟩ := h2
    intro H locs ls hl hP hS
    obtain ⟨o1, o2, o3, o4, o5, o6⟩ := okM_e (mt_good hq)
    obtain ⟨w1, w2, -, w3⟩ := mt_words hq
    obtain ⟨hx, hbb, hml, hown, hts, hK, -, -, ⟨r1, r2, r3, r4⟩, hN⟩ := id B
    have hM := hC q hq
    have hrecv : ∃ cellB : Cell, H[ad t]? = some cellB ∧ cellB.vm.isStatics = false ∧ s.vm.findClass q.1.cls = some cellB.cls := by
      have h6 := o6 hst
      rw [hci] at h6
      cases hz : vwCl[ci]? with
      | none => rw [hz] at h6; cases h6
      | some z =>
        rw [hz] at h6
        have h7 : z.1 = q.1.cls := by simpa using h6
        obtain ⟨cell, g1, g2, g3⟩ := va_recv hK hP hz (wld_at hs)
        exact ⟨cell, g1, g2, by rw [← h7]; exact g3⟩
    refine cl_go (hr := va_runV (C := q.1.cls) (b := ad t) (As := (vs.reverse).map (cv ad)) (rest := r.map (cv ad)) ⟨hx, hbb, hml, hown, hts⟩ hM ⟨callB_of b hts (gt_goodIn w1) rfl rfl rfl (hts _ w2) (hts _ hw) ⟨o1, o2, by rw [← hb]; exact o3⟩ ⟨?_, ?_⟩, hts _ (w3 hst).1, hts _ (w3 hst).2⟩ ⟨PcM_blind _ _ _ _ _, hrecv, fun U hU hW => ⟨rfl, hAd, va_K.moved hW.alike hK, NwOk.warm hW hN, by rw [hU]; exact hP⟩⟩ rfl ?_ hl.1 ?_ ?_ hd ⟨r3, r4⟩) hS (fun r I' D' H1 locs1 hp hP1 hS1 => ?_)
    · show d + 1 + 1 ≤ R.frames
      omega
    · show 8 + (q.2.2.1 + 11) + 64 * (d + 1) ≤ R.locals
      omega
    · simp [hn]
    · simp [cv]
    · refine lv_room ?_
      rw [map_cv_cat]
      exact hcs
    · have h5 := hk _ _ _ _ (hkon r I' D' hp) H1 locs1 ls hl hP1 hS1
      rw [← opt_map] at h5
      exact h5
theorem x_nat1 {n : Nat} (B : BdX p R s m args c cells slots ad dA G A SH H0 nL cc own d SC) (hd : decode cc pc = .ok (.invokestatic n, 3)) (hw : Cond.methodLink own n (yN 1) ∈ gt) (h : tI st (fun x r => okst r (vn_sni2f x = false ∧ k lv (.float x.toUInt32 :: r) I D))) (hk : ∀ lv st I D, k lv st I D → AtM p l e R s m args below meth c cells slots Q ad dA G A SH H0 nL (pc + 3) lv st I D) : AtM p l e R s m args below meth c cells slots Q ad dA G A SH H0 nL pc lv st I D := by
  obtain ⟨x, r, rfl, h1⟩ := tI_e h
  obtain ⟨hcs, h2, h3⟩ := okst_e h1
  intro H locs ls hl hP hS
  obtain ⟨hx, hbb, hml, hown, hts, hK, -, -, ⟨r1, r2, r3, r4⟩, hN⟩ := id B
  exact vn_i2f hx hbb (by rw [hml, hl.1]) hown (hts _ hw) (hts _ nat_ok.1.1) (hts _ nat_ok.1.2.1) (hts _ nat_ok.1.2.2) h2 (by omega) (by rw [map_cv_cat]; omega) hd (hk _ _ _ _ h3 H locs ls hl hP hS)
theorem x_nat2 {n : Nat} (B : BdX p R s m args c cells slots ad dA G A SH H0 nL cc own d SC) (hd : decode cc pc = .ok (.invokestatic n, 3)) (hw : Cond.methodLink own n (yN 2) ∈ gt) (h : tD st (fun x r => okst r (k lv (.long x.toInt64 :: r) I D))) (hk : ∀ lv st I D, k lv st I D → AtM p l e R s m args below meth c cells slots Q ad dA G A SH H0 nL (pc + 3) lv st I D) : AtM p l e R s m args below meth c cells slots Q ad dA G A SH H0 nL pc lv st I D := by
  obtain ⟨x, r, rfl, h1⟩ := tD_e h
  obtain ⟨hcs, h3⟩ := okst_e h1
  intro H locs ls hl hP hS
  obtain ⟨hx, hbb, hml, hown, hts, hK, -, -, ⟨r1, r2, r3, r4⟩, hN⟩ := id B
  exact vn_d2l hx hbb (by rw [hml, hl.1]) hown (hts _ hw) (hts _ nat_ok.2.1) (hts _ nat_ok.2.2.1) (hts _ nat_ok.2.2.2) (by omega) (by rw [map_cv_cat]; omega) hd (hk _ _ _ _ h3 H locs ls hl hP hS)
theorem swt_e {x : Int32} {jp : Int → Prop} {P : Prop} : ∀ {os : List Int} {n : Int}, swt x jp P n os → (∀ (i : Nat) (o : Int), os[i]? = some o → x.toInt = n + i → jp o) ∧ P
  | [], n, h => ⟨fun i o hi => by simp at hi, h⟩
  | o :: os, n, h => by
    obtain ⟨h1, h2⟩ := h
    obtain ⟨h3, h4⟩ := swt_e h2
    refine ⟨fun i o' hi hx => ?_, h4⟩
    cases i with
    | zero =>
      simp only [List.getElem?_cons_zero, Option.some.injEq] at hi
      subst hi
      exact h1 (by simpa using hx)
    | succ i =>
      simp only [List.getElem?_cons_succ] at hi
      exact h3 i o' hi (by rw [hx]; push_cast; omega)
theorem tgt_e {pc : Nat} {o : Int} (h : 0 ≤ (pc : Int) + o) : (pc : Int) + o = (tgt pc o : Int) := by
  unfold tgt
  omega
theorem x_tsw {dflt lo hi : Int} {offs : Array Int} {len : Nat} {jp : Kt} (B : BdX p R s m args c cells slots ad dA G A SH H0 nL cc own d SC) (hd : decode cc pc = .ok (.tableswitch dflt lo hi offs, len)) (hsz : (offs.toList.length : Int) = hi - lo + 1) (ht : ∀ o ∈ dflt :: offs.toList, 0 ≤ (pc : Int) + o)
    (h : tI st (fun x r => swt x (fun o => jp (tgt pc o) lv r I D) ((x.toInt < lo ∨ hi < x.toInt) → jp (tgt pc dflt) lv r I D) lo offs.toList)) (hj : ∀ t lv st I D, jp t lv st I D → AtM p l e R s m args below meth c cells slots Q ad dA G A SH H0 nL t lv st I D) : AtM p l e R s m args below meth c cells slots Q ad dA G A SH H0 nL pc lv st I D := by
  obtain ⟨x, r, rfl, h1⟩ := tI_e h
  obtain ⟨h2, h3⟩ := swt_e h1
  intro H locs ls hl hP hS
  by_cases hx : x.toInt < lo ∨ hi < x.toInt
  · exact lv_tableOut B.1 B.2.1 hd hx (tgt_e (ht _ List.mem_cons_self)) (hj _ _ _ _ _ (h3 hx) H locs ls hl hP hS)
  · have hx1 : ¬ x.toInt < lo := fun q => hx (Or.inl q)
    have hx2 : ¬ hi < x.toInt := fun q => hx (Or.inr q)
    have hlt : (x.toInt - lo).toNat < offs.toList.length := by omega
    have ho : offs.toList[(x.toInt - lo).toNat]? = some offs.toList[(x.toInt - lo).toNat] := List.getElem?_eq_getElem hlt
    exact lv_tableIn B.1 B.2.1 hd hx1 hx2 (by rw [← Array.getElem?_toList]; exact ho) (tgt_e (ht _ (List.mem_cons_of_mem _ (List.getElem_mem hlt)))) (hj _ _ _ _ _ (h2 _ _ ho (by omega)) H locs ls hl hP hS)
theorem swl_e {x : Int32} {jp : Int → Prop} {dflt : Int} : ∀ {ps : List (Int × Int)} {P : Prop}, (P → jp dflt) → swl x jp ps P → jp (Op.lookupswitch.offset ps dflt x.toInt)
  | [], P, hP, h => by
    have e : Op.lookupswitch.offset [] dflt x.toInt = dflt := by rfl
    rw [e]
    exact hP h
  | q :: qs, P, hP, h => by
    obtain ⟨h1, h2⟩ := h
    rw [Op.lookupswitch.offset_cons]
    split
    next he => exact h1 he.symm
    next he => exact swl_e (fun h => hP (h (fun z => he z.symm))) h2
theorem x_lsw {dflt : Int} {ps : Array (Int × Int)} {len : Nat} {jp : Kt} (B : BdX p R s m args c cells slots ad dA G A SH H0 nL cc own d SC) (hd : decode cc pc = .ok (.lookupswitch dflt ps, len)) (hp : (ps.toList.zip (ps.toList.drop 1)).all (fun (a, next) => a.1 < next.1) = true) (ht : ∀ o ∈ dflt :: ps.toList.map (fun q => q.2), 0 ≤ (pc : Int) + o)
    (h : tI st (fun x r => swl x (fun o => jp (tgt pc o) lv r I D) ps.toList (jp (tgt pc dflt) lv r I D))) (hj : ∀ t lv st I D, jp t lv st I D → AtM p l e R s m args below meth c cells slots Q ad dA G A SH H0 nL t lv st I D) : AtM p l e R s m args below meth c cells slots Q ad dA G A SH H0 nL pc lv st I D := by
  obtain ⟨x, r, rfl, h1⟩ := tI_e h
  have h2 := swl_e (dflt := dflt) (fun q => q) h1
  intro H locs ls hl hP hS
  refine lv_lookup B.1 B.2.1 hd hp rfl (tgt_e ?_) (hj _ _ _ _ _ h2 H locs ls hl hP hS)
  have : ∀ (qs : List (Int × Int)), (∀ o ∈ dflt :: qs.map (fun q => q.2), 0 ≤ (pc : Int) + o) → 0 ≤ (pc : Int) + Op.lookupswitch.offset qs dflt x.toInt := by
    intro qs
    induction qs with
    | nil => intro hh; exact hh _ List.mem_cons_self
    | cons q qs ih =>
      intro hh
      rw [Op.lookupswitch.offset_cons]
      split
      next => exact hh _ (List.mem_cons_of_mem _ (by simp))
      next => exact ih (fun o ho => hh o ((List.mem_cons.mp ho).elim (fun e => by rw [e]; exact List.mem_cons_self) (fun h => List.mem_cons_of_mem _ (by simp only [List.map_cons]; exact List.mem_cons_of_mem _ h))))
  exact this _ ht
end RC
end
section
/-! the check of a resolved instruction against the bytes, and the walk of a stretch -/
def okv (own : String) (P : Pl) (n : Nat) (v : Value) : Bool := P.2.2.1.any (fun q => Nat.beq q.1 n && decide (q.2.1 = v))
def isIF (v : Value) : Bool := match v with
  | .int _ => true
  | .float _ => true
  | _ => false
def isLD (v : Value) : Bool := match v with
  | .long _ => true
  | .double _ => true
  | _ => false
def okf (P : Pl) (n a b : Nat) : Bool := Nat.blt a 13 && Nat.blt b (cT a).2.2 && P.2.1.any (fun q => Nat.beq q.1 n && Nat.beq q.2.1 a && Nat.beq q.2.2.1 b)
def okc (P : Pl) (n a b : Nat) (st : Bool) (ci : Nat) : Bool := match nth MT a with
  | some q => Nat.beq q.2.2.2.2.1 b && (q.2.2.2.2.2.1 == st) && Nat.beq q.2.2.2.2.2.2.1 ci && P.2.2.2.1.any (fun z => Nat.beq z.1 n && Nat.beq z.2.1 a)
  | none => false
def okn (P : Pl) (n t : Nat) : Bool := P.2.2.2.2.any (fun z => Nat.beq z.1 n && Nat.beq z.2.1 t)
/-- pc: the place; nx: the place behind it -/
def okI (P : Pl) (rt : Option FieldType) (nL pc nx : Nat) (i : Instr) (a b : Nat) (v : Value) : Bool := match i with
  | .iconst n => Nat.beq nx (pc + 1) && decide (v = .int (Int32.ofInt n))
  | .bipush n => Nat.beq nx (pc + 2) && decide (v = .int (Int8.ofInt n).toInt32)
  | .sipush n => Nat.beq nx (pc + 3) && decide (v = .int (Int16.ofInt n).toInt32)
  | .lconst n => Nat.beq nx (pc + 1) && decide (v = .long (Int64.ofNat n.val))
  | .dconst n => Nat.beq nx (pc + 1) && decide (v = .double (if n = 0 then FP.dconst0 else FP.dconst1))
  | .fconst n => Nat.beq nx (pc + 1) && decide (n = 0) && decide (v = .float FP.fconst0)
  | .ldc n => Nat.beq nx (pc + 2) && okv P.1 P n v && isIF v
  | .ldc_w n => Nat.beq nx (pc + 3) && okv P.1 P n v && isIF v
  | .ldc2_w n => Nat.beq nx (pc + 3) && okv P.1 P n v && isLD v
  | .iload n => Nat.beq nx (pc + 2) && Nat.beq n a
  | .iload_n n => Nat.beq nx (pc + 1) && Nat.beq n.val a
  | .lload n => Nat.beq nx (pc + 2) && Nat.beq n a
  | .lload_n n => Nat.beq nx (pc + 1) && Nat.beq n.val a
  | .fload n => Nat.beq nx (pc + 2) && Nat.beq n a
  | .dload n => Nat.beq nx (pc + 2) && Nat.beq n a
  | .dload_n n => Nat.beq nx (pc + 1) && Nat.beq n.val a
  | .aload n => Nat.beq nx (pc + 2) && Nat.beq n a
  | .aload_n n => Nat.beq nx (pc + 1) && Nat.beq n.val a
  | .istore n => Nat.beq nx (pc + 2) && Nat.beq n a && Nat.blt a nL
  | .istore_n n => Nat.beq nx (pc + 1) && Nat.beq n.val a && Nat.blt a nL
  | .lstore n => Nat.beq nx (pc + 2) && Nat.beq n a && Nat.blt (a + 1) nL
  | .fstore n => Nat.beq nx (pc + 2) && Nat.beq n a && Nat.blt a nL
  | .dstore n => Nat.beq nx (pc + 2) && Nat.beq n a && Nat.blt (a + 1) nL
  | .dstore_n n => Nat.beq nx (pc + 1) && Nat.beq n.val a && Nat.blt (a + 1) nL
  | .iinc n c => Nat.beq nx (pc + 3) && Nat.beq n a && Nat.blt a nL && decide (v = .int (Int32.ofInt c))
  | .getfield n => Nat.beq nx (pc + 3) && okf P n a b
  | .putfield n => Nat.beq nx (pc + 3) && okf P n a b && !((cT a).2.1 b).2.2.2 && (match v with
    | .null => decide (parseFieldDescriptor ((cT a).2.1 b).2.2.1 = some .int)
    | .ref 1 => decide (parseFieldDescriptor ((cT a).2.1 b).2.2.1 = some .boolean)
    | .ref 2 => decide (parseFieldDescriptor ((cT a).2.1 b).2.2.1 = some .double)
    | _ => false)
  | .goto o => Nat.beq nx (pc + 3) && decide ((pc : Int) + o = (a : Int))
  | .ifCond _ o => Nat.beq nx (pc + 3) && decide ((pc : Int) + o = (a : Int))
  | .if_icmp _ o => Nat.beq nx (pc + 3) && decide ((pc : Int) + o = (a : Int))
  | .tableswitch d lo hi offs => decide ((offs.toList.length : Int) = hi - lo + 1) && (d :: offs.toList).all (fun o => decide (0 ≤ (pc : Int) + o))
  | .lookupswitch d ps => (ps.toList.zip (ps.toList.drop 1)).all (fun (a, next) => a.1 < next.1) && (d :: ps.toList.map (fun q => q.2)).all (fun o => decide (0 ≤ (pc : Int) + o))
  | .invokestatic n => Nat.beq nx (pc + 3) && (match v with
    | .ref 0 => okc P n a b true 99 || okc P n a b true (match nth MT a with
      | some q => q.2.2.2.2.2.2.1
      | none => 0)
    | .ref 1 => okn P n 1
    | .ref 2 => okn P n 2
    | _ => false)
  | .invokevirtual n => Nat.beq nx (pc + 3) && (match v with
    | .ref ci => okc P n a b false ci
    | _ => false)
  | .ireturn => Nat.beq nx (pc + 1) && (match a with
    | 1 => decide (rt = some .boolean)
    | _ => decide (rt = some .int))
  | .lreturn => Nat.beq nx (pc + 1) && decide (rt = some .long)
  | .dreturn => Nat.beq nx (pc + 1) && decide (rt = some .double)
  | .return_ => Nat.beq nx (pc + 1) && decide (rt = none)
  | _ => Nat.beq nx (pc + 1)
def hdp (e : Nat) : List Op → Nat
  | [] => e
  | q :: _ => q.1
def okS (P : Pl) (rt : Option FieldType) (nL : Nat) (cc : ByteArray) (e : Nat) : List Op → Bool
  | [] => true
  | q :: r => decide (decode cc q.1 = .ok (q.2.1, hdp e r - q.1)) && okI P rt nL q.1 (hdp e r) q.2.1 q.2.2.1 q.2.2.2.1 q.2.2.2.2 && okS P rt nL cc e r
theorem okv_e {P : Pl} (hP : PlOk P) {n : Nat} {v : Value} (h : okv P.1 P n v = true) : ∃ t o, wC P.1 (n, v, t, o) ∈ gt := by
  unfold okv at h
  obtain ⟨q, hq, h1⟩ := List.any_eq_true.mp h
  simp only [Bool.and_eq_true, decide_eq_true_eq] at h1
  have e1 := Nat.eq_of_beq_eq_true h1.1
  obtain ⟨n', v', t, o⟩ := q
  dsimp only at e1 h1
  obtain ⟨-, rfl⟩ := h1
  subst e1
  exact ⟨t, o, pl_c hP hq⟩
theorem okf_e {P : Pl} (hP : PlOk P) {n a b : Nat} (h : okf P n a b = true) : a < 13 ∧ b < (cT a).2.2 ∧ ∃ z t o, wF P.1 (n, a, b, z, t, o) ∈ lw_tbl := by
  unfold okf at h
  simp only [Bool.and_eq_true] at h
  obtain ⟨⟨h1, h2⟩, h3⟩ := h
  refine ⟨by simpa [Nat.blt_eq] using h1, by simpa [Nat.blt_eq] using h2, ?_⟩
  obtain ⟨q, hq, h4⟩ := List.any_eq_true.mp h3
  simp only [Bool.and_eq_true] at h4
  obtain ⟨⟨h5, h6⟩, h7⟩ := h4
  obtain ⟨n', a', b', z, t, o⟩ := q
  have e1 := Nat.eq_of_beq_eq_true h5
  have e2 := Nat.eq_of_beq_eq_true h6
  have e3 := Nat.eq_of_beq_eq_true h7
  dsimp only at e1 e2 e3
  subst e1; subst e2; subst e3
  exact ⟨z, t, o, pl_f hP hq⟩
theorem okc_e {P : Pl} (hP : PlOk P) {n a b ci : Nat} {st : Bool} (h : okc P n a b st ci = true) : ∃ q, nth MT a = some q ∧ q.2.2.2.2.1 = b ∧ q.2.2.2.2.2.1 = st ∧ q.2.2.2.2.2.2.1 = ci ∧ Cond.methodLink P.1 n q.1 ∈ gt := by
  unfold okc at h
  cases hq : nth MT a with
  | none => rw [hq] at h; cases h
  | some q =>
    rw [hq] at h
    simp only [Bool.and_eq_true, beq_iff_eq] at h
    obtain ⟨⟨⟨h1, h2⟩, h3⟩, h4⟩ := h
    obtain ⟨z, hz, h5⟩ := List.any_eq_true.mp h4
    simp only [Bool.and_eq_true] at h5
    obtain ⟨n', a', t, o⟩ := z
    have e1 := Nat.eq_of_beq_eq_true h5.1
    have e2 := Nat.eq_of_beq_eq_true h5.2
    dsimp only at e1 e2
    subst e1; subst e2
    have h6 := pl_m hP hz
    unfold wM at h6
    dsimp only at h6
    rw [hq] at h6
    exact ⟨q, rfl, Nat.eq_of_beq_eq_true h1, h2, Nat.eq_of_beq_eq_true h3, h6⟩
theorem okn_e {P : Pl} (hP : PlOk P) {n t : Nat} (h : okn P n t = true) : Cond.methodLink P.1 n (yN t) ∈ gt := by
  unfold okn at h
  obtain ⟨z, hz, h5⟩ := List.any_eq_true.mp h
  simp only [Bool.and_eq_true] at h5
  obtain ⟨n', a', t', o⟩ := z
  have e1 := Nat.eq_of_beq_eq_true h5.1
  have e2 := Nat.eq_of_beq_eq_true h5.2
  dsimp only at e1 e2
  subst e1; subst e2
  exact pl_n hP hz
theorem dec_at {cc : ByteArray} {pc nx n : Nat} {i : Instr} (hd : decode cc pc = .ok (i, nx - pc)) (h : nx = pc + n) : decode cc pc = .ok (i, n) := by
  rw [hd, h, Nat.add_sub_cancel_left]
section RX
variable {p : Program} {l : Launch} {e : Env} {R : Room} {s : State} {m : MethodId} {args : Array Value} {below : List Frame} {meth : Method} {c : Code} {cells slots : Nat} {Q : State → Prop}
variable {ad : Nat → Nat} {dA : Nat → ClassId} {G : va_G} {A : Nat → Prop} {SH : List Sh} {H0 : Heap} {nL : Nat} {cc : ByteArray} {d : Nat} {SC : Option (Nat × (Nat → Int32))} {P : Pl} {rt : Option FieldType}
set_option maxHeartbeats 4000000 in
theorem ex_sound {Rt : Rk} {pc nx : Nat} {i : Instr} {a b : Nat} {v : Value} {lv : Lv} {st : List Value} {I : MI} {D : MD} {nk : Nt} {jk : Kt} (hP : PlOk P) (B : BdX p R s m args c cells slots ad dA G A SH H0 nL cc P.1 d SC) (hAd : AdOk ad A SH.length)
    (hd : decode cc pc = .ok (i, nx - pc)) (hok : okI P rt nL pc nx i a b v = true)
    (h : ex SH SC Rt (CaD (l, ad, dA, G, A) SH d) pc i a b v lv st I D nk jk) (hn : ∀ lv st I D, nk lv st I D → AtM p l e R s m args below meth c cells slots Q ad dA G A SH H0 nL nx lv st I D) (hj : ∀ t lv st I D, jk t lv st I D → AtM p l e R s m args below meth c cells slots Q ad dA G A SH H0 nL t lv st I D)
    (hR : ∀ pc i a lv st I D, (i = .ireturn ∨ i = .lreturn ∨ i = .dreturn ∨ i = .return_) → decode cc pc = .ok (i, 1) → okI P rt nL pc (pc + 1) i a 0 .null = true → Rt i a st I D → AtM p l e R s m args below meth c cells slots Q ad dA G A SH H0 nL pc lv st I D) : AtM p l e R s m args below meth c cells slots Q ad dA G A SH H0 nL pc lv st I D := by
  cases i
  case iconst n =>
    simp only [okI, Bool.and_eq_true, decide_eq_true_eq] at hok
    have e1 := Nat.eq_of_beq_eq_true hok.1
    rw [hok.2] at h
    exact x_iconst B (dec_at hd e1) rfl (e1 ▸ hn _ _ _ _ h)
  case bipush n =>
    simp only [okI, Bool.and_eq_true, decide_eq_true_eq] at hok
    have e1 := Nat.eq_of_beq_eq_true hok.1
    rw [hok.2] at h
    exact x_bipush B (dec_at hd e1) rfl (e1 ▸ hn _ _ _ _ h)
  case sipush n =>
    simp only [okI, Bool.and_eq_true, decide_eq_true_eq] at hok
    have e1 := Nat.eq_of_beq_eq_true hok.1
    rw [hok.2] at h
    exact x_sipush B (dec_at hd e1) rfl (e1 ▸ hn _ _ _ _ h)
  case lconst n =>
    simp only [okI, Bool.and_eq_true, decide_eq_true_eq] at hok
    have e1 := Nat.eq_of_beq_eq_true hok.1
    rw [hok.2] at h
    exact x_lconst B (dec_at hd e1) rfl (e1 ▸ hn _ _ _ _ h)
  case dconst n =>
    simp only [okI, Bool.and_eq_true, decide_eq_true_eq] at hok
    have e1 := Nat.eq_of_beq_eq_true hok.1
    rw [hok.2] at h
    exact x_dconst B (dec_at hd e1) rfl (e1 ▸ hn _ _ _ _ h)
  case fconst n =>
    simp only [okI, Bool.and_eq_true, decide_eq_true_eq] at hok
    obtain ⟨⟨h1, rfl⟩, h3⟩ := hok
    have e1 := Nat.eq_of_beq_eq_true h1
    rw [h3] at h
    exact x_fconst B (dec_at hd e1) rfl (e1 ▸ hn _ _ _ _ h)
  case ldc n =>
    simp only [okI, Bool.and_eq_true] at hok
    have e1 := Nat.eq_of_beq_eq_true hok.1.1
    obtain ⟨t, o, hw⟩ := okv_e hP hok.1.2
    cases v with
    | int x => exact x_ldc B (dec_at hd e1) hw (e1 ▸ hn _ _ _ _ h)
    | float x => exact x_ldcf B (dec_at hd e1) hw (e1 ▸ hn _ _ _ _ h)
    | _ => cases hok.2
  case ldc_w n =>
    simp only [okI, Bool.and_eq_true] at hok
    have e1 := Nat.eq_of_beq_eq_true hok.1.1
    obtain ⟨t, o, hw⟩ := okv_e hP hok.1.2
    cases v with
    | int x => exact x_ldcw B (dec_at hd e1) hw (e1 ▸ hn _ _ _ _ h)
    | float x => exact x_ldcwf B (dec_at hd e1) hw (e1 ▸ hn _ _ _ _ h)
    | _ => cases hok.2
  case ldc2_w n =>
    simp only [okI, Bool.and_eq_true] at hok
    have e1 := Nat.eq_of_beq_eq_true hok.1.1
    obtain ⟨t, o, hw⟩ := okv_e hP hok.1.2
    cases v with
    | long x => exact x_ldc2 B (dec_at hd e1) hw (e1 ▸ hn _ _ _ _ h)
    | double x => exact x_ldc2d B (dec_at hd e1) hw (e1 ▸ hn _ _ _ _ h)
    | _ => cases hok.2
  case iload n =>
    simp only [okI, Bool.and_eq_true] at hok
    have e1 := Nat.eq_of_beq_eq_true hok.1
    exact x_iload B (dec_at hd e1) (Nat.eq_of_beq_eq_true hok.2) h (fun _ _ _ _ q => e1 ▸ hn _ _ _ _ q)
  case iload_n n =>
    simp only [okI, Bool.and_eq_true] at hok
    have e1 := Nat.eq_of_beq_eq_true hok.1
    exact x_iload_n B (dec_at hd e1) (Nat.eq_of_beq_eq_true hok.2) h (fun _ _ _ _ q => e1 ▸ hn _ _ _ _ q)
  case lload n =>
    simp only [okI, Bool.and_eq_true] at hok
    have e1 := Nat.eq_of_beq_eq_true hok.1
    exact x_lload B (dec_at hd e1) (Nat.eq_of_beq_eq_true hok.2) h (fun _ _ _ _ q => e1 ▸ hn _ _ _ _ q)
  case lload_n n =>
    simp only [okI, Bool.and_eq_true] at hok
    have e1 := Nat.eq_of_beq_eq_true hok.1
    exact x_lload_n B (dec_at hd e1) (Nat.eq_of_beq_eq_true hok.2) h (fun _ _ _ _ q => e1 ▸ hn _ _ _ _ q)
  case fload n =>
    simp only [okI, Bool.and_eq_true] at hok
    have e1 := Nat.eq_of_beq_eq_true hok.1
    exact x_fload B (dec_at hd e1) (Nat.eq_of_beq_eq_true hok.2) h (fun _ _ _ _ q => e1 ▸ hn _ _ _ _ q)
  case dload n =>
    simp only [okI, Bool.and_eq_true] at hok
    have e1 := Nat.eq_of_beq_eq_true hok.1
    exact x_dload B (dec_at hd e1) (Nat.eq_of_beq_eq_true hok.2) h (fun _ _ _ _ q => e1 ▸ hn _ _ _ _ q)
  case dload_n n =>
    simp only [okI, Bool.and_eq_true] at hok
    have e1 := Nat.eq_of_beq_eq_true hok.1
    exact x_dload_n B (dec_at hd e1) (Nat.eq_of_beq_eq_true hok.2) h (fun _ _ _ _ q => e1 ▸ hn _ _ _ _ q)
  case aload n =>
    simp only [okI, Bool.and_eq_true] at hok
    have e1 := Nat.eq_of_beq_eq_true hok.1
    exact x_aload B (dec_at hd e1) (Nat.eq_of_beq_eq_true hok.2) h (fun _ _ _ _ q => e1 ▸ hn _ _ _ _ q)
  case aload_n n =>
    simp only [okI, Bool.and_eq_true] at hok
    have e1 := Nat.eq_of_beq_eq_true hok.1
    exact x_aload_n B (dec_at hd e1) (Nat.eq_of_beq_eq_true hok.2) h (fun _ _ _ _ q => e1 ▸ hn _ _ _ _ q)
  case istore n =>
    simp only [okI, Bool.and_eq_true] at hok
    have e1 := Nat.eq_of_beq_eq_true hok.1.1
    exact x_istore B (dec_at hd e1) (Nat.eq_of_beq_eq_true hok.1.2) (by simpa [Nat.blt_eq] using hok.2) h (fun _ _ _ _ q => e1 ▸ hn _ _ _ _ q)
  case istore_n n =>
    simp only [okI, Bool.and_eq_true] at hok
    have e1 := Nat.eq_of_beq_eq_true hok.1.1
    exact x_istore_n B (dec_at hd e1) (Nat.eq_of_beq_eq_true hok.1.2) (by simpa [Nat.blt_eq] using hok.2) h (fun _ _ _ _ q => e1 ▸ hn _ _ _ _ q)
  case lstore n =>
    simp only [okI, Bool.and_eq_true] at hok
    have e1 := Nat.eq_of_beq_eq_true hok.1.1
    exact x_lstore B (dec_at hd e1) (Nat.eq_of_beq_eq_true hok.1.2) (by simpa [Nat.blt_eq] using hok.2) h (fun _ _ _ _ q => e1 ▸ hn _ _ _ _ q)
  case fstore n =>
    simp only [okI, Bool.and_eq_true] at hok
    have e1 := Nat.eq_of_beq_eq_true hok.1.1
    exact x_fstore B (dec_at hd e1) (Nat.eq_of_beq_eq_true hok.1.2) (by simpa [Nat.blt_eq] using hok.2) h (fun _ _ _ _ q => e1 ▸ hn _ _ _ _ q)
  case dstore n =>
    simp only [okI, Bool.and_eq_true] at hok
    have e1 := Nat.eq_of_beq_eq_true hok.1.1
    exact x_dstore B (dec_at hd e1) (Nat.eq_of_beq_eq_true hok.1.2) (by simpa [Nat.blt_eq] using hok.2) h (fun _ _ _ _ q => e1 ▸ hn _ _ _ _ q)
  case dstore_n n =>
    simp only [okI, Bool.and_eq_true] at hok
    have e1 := Nat.eq_of_beq_eq_true hok.1.1
    exact x_dstore_n B (dec_at hd e1) (Nat.eq_of_beq_eq_true hok.1.2) (by simpa [Nat.blt_eq] using hok.2) h (fun _ _ _ _ q => e1 ▸ hn _ _ _ _ q)
  case iinc n z =>
    simp only [okI, Bool.and_eq_true, decide_eq_true_eq] at hok
    have e1 := Nat.eq_of_beq_eq_true hok.1.1.1
    rw [hok.2] at h
    exact x_iinc B (dec_at hd e1) (Nat.eq_of_beq_eq_true hok.1.1.2) rfl (by simpa [Nat.blt_eq] using hok.1.2) h (fun _ _ _ _ q => e1 ▸ hn _ _ _ _ q)
  case iadd =>
    have e1 := Nat.eq_of_beq_eq_true hok
    exact x_iadd B (dec_at hd e1) h (fun _ _ _ _ q => e1 ▸ hn _ _ _ _ q)
  case isub =>
    have e1 := Nat.eq_of_beq_eq_true hok
    exact x_isub B (dec_at hd e1) h (fun _ _ _ _ q => e1 ▸ hn _ _ _ _ q)
  case imul =>
    have e1 := Nat.eq_of_beq_eq_true hok
    exact x_imul B (dec_at hd e1) h (fun _ _ _ _ q => e1 ▸ hn _ _ _ _ q)
  case iand =>
    have e1 := Nat.eq_of_beq_eq_true hok
    exact x_iand B (dec_at hd e1) h (fun _ _ _ _ q => e1 ▸ hn _ _ _ _ q)
  case ixor =>
    have e1 := Nat.eq_of_beq_eq_true hok
    exact x_ixor B (dec_at hd e1) h (fun _ _ _ _ q => e1 ▸ hn _ _ _ _ q)
  case idiv =>
    have e1 := Nat.eq_of_beq_eq_true hok
    exact x_idiv B (dec_at hd e1) h (fun _ _ _ _ q => e1 ▸ hn _ _ _ _ q)
  case irem =>
    have e1 := Nat.eq_of_beq_eq_true hok
    exact x_irem B (dec_at hd e1) h (fun _ _ _ _ q => e1 ▸ hn _ _ _ _ q)
  case ineg =>
    have e1 := Nat.eq_of_beq_eq_true hok
    exact x_ineg B (dec_at hd e1) h (fun _ _ _ _ q => e1 ▸ hn _ _ _ _ q)
  case i2l =>
    have e1 := Nat.eq_of_beq_eq_true hok
    exact x_i2l B (dec_at hd e1) h (fun _ _ _ _ q => e1 ▸ hn _ _ _ _ q)
  case i2d =>
    have e1 := Nat.eq_of_beq_eq_true hok
    exact x_i2d B (dec_at hd e1) h (fun _ _ _ _ q => e1 ▸ hn _ _ _ _ q)
  case i2s =>
    have e1 := Nat.eq_of_beq_eq_true hok
    exact x_i2s B (dec_at hd e1) h (fun _ _ _ _ q => e1 ▸ hn _ _ _ _ q)
  case l2i =>
    have e1 := Nat.eq_of_beq_eq_true hok
    exact x_l2i B (dec_at hd e1) h (fun _ _ _ _ q => e1 ▸ hn _ _ _ _ q)
  case ladd =>
    have e1 := Nat.eq_of_beq_eq_true hok
    exact x_ladd B (dec_at hd e1) h (fun _ _ _ _ q => e1 ▸ hn _ _ _ _ q)
  case lsub =>
    have e1 := Nat.eq_of_beq_eq_true hok
    exact x_lsub B (dec_at hd e1) h (fun _ _ _ _ q => e1 ▸ hn _ _ _ _ q)
  case lmul =>
    have e1 := Nat.eq_of_beq_eq_true hok
    exact x_lmul B (dec_at hd e1) h (fun _ _ _ _ q => e1 ▸ hn _ _ _ _ q)
  case land =>
    have e1 := Nat.eq_of_beq_eq_true hok
    exact x_land B (dec_at hd e1) h (fun _ _ _ _ q => e1 ▸ hn _ _ _ _ q)
  case lor =>
    have e1 := Nat.eq_of_beq_eq_true hok
    exact x_lor B (dec_at hd e1) h (fun _ _ _ _ q => e1 ▸ hn _ _ _ _ q)
  case ldiv =>
    have e1 := Nat.eq_of_beq_eq_true hok
    exact x_ldiv B (dec_at hd e1) h (fun _ _ _ _ q => e1 ▸ hn _ _ _ _ q)
  case lshl =>
    have e1 := Nat.eq_of_beq_eq_true hok
    exact x_lshl B (dec_at hd e1) h (fun _ _ _ _ q => e1 ▸ hn _ _ _ _ q)
  case lcmp =>
    have e1 := Nat.eq_of_beq_eq_true hok
    exact x_lcmp B (dec_at hd e1) h (fun _ _ _ _ q => e1 ▸ hn _ _ _ _ q)
  case dadd =>
    have e1 := Nat.eq_of_beq_eq_true hok
    exact x_dadd B (dec_at hd e1) h (fun _ _ _ _ q => e1 ▸ hn _ _ _ _ q)
  case dsub =>
    have e1 := Nat.eq_of_beq_eq_true hok
    exact x_dsub B (dec_at hd e1) h (fun _ _ _ _ q => e1 ▸ hn _ _ _ _ q)
  case dmul =>
    have e1 := Nat.eq_of_beq_eq_true hok
    exact x_dmul B (dec_at hd e1) h (fun _ _ _ _ q => e1 ▸ hn _ _ _ _ q)
  case ddiv =>
    have e1 := Nat.eq_of_beq_eq_true hok
    exact x_ddiv B (dec_at hd e1) h (fun _ _ _ _ q => e1 ▸ hn _ _ _ _ q)
  case dneg =>
    have e1 := Nat.eq_of_beq_eq_true hok
    exact x_dneg B (dec_at hd e1) h (fun _ _ _ _ q => e1 ▸ hn _ _ _ _ q)
  case fneg =>
    have e1 := Nat.eq_of_beq_eq_true hok
    exact x_fneg B (dec_at hd e1) h (fun _ _ _ _ q => e1 ▸ hn _ _ _ _ q)
  case d2l =>
    have e1 := Nat.eq_of_beq_eq_true hok
    exact x_d2l B (dec_at hd e1) h (fun _ _ _ _ q => e1 ▸ hn _ _ _ _ q)
  case dup =>
    have e1 := Nat.eq_of_beq_eq_true hok
    exact x_dup B (dec_at hd e1) h (fun _ _ _ _ q => e1 ▸ hn _ _ _ _ q)
  case pop =>
    have e1 := Nat.eq_of_beq_eq_true hok
    exact x_pop B (dec_at hd e1) h (fun _ _ _ _ q => e1 ▸ hn _ _ _ _ q)
  case dup2 =>
    have e1 := Nat.eq_of_beq_eq_true hok
    exact x_dup2 B (dec_at hd e1) h (fun _ _ _ _ q => e1 ▸ hn _ _ _ _ q)
  case iaload =>
    have e1 := Nat.eq_of_beq_eq_true hok
    exact x_ild B (dec_at hd e1) h (fun _ _ _ _ q => e1 ▸ hn _ _ _ _ q)
  case baload =>
    have e1 := Nat.eq_of_beq_eq_true hok
    exact x_zald B (dec_at hd e1) h (fun _ _ _ _ q => e1 ▸ hn _ _ _ _ q)
  case saload =>
    have e1 := Nat.eq_of_beq_eq_true hok
    exact x_sald B (dec_at hd e1) h (fun _ _ _ _ q => e1 ▸ hn _ _ _ _ q)
  case daload =>
    have e1 := Nat.eq_of_beq_eq_true hok
    exact x_dald B (dec_at hd e1) h (fun _ _ _ _ q => e1 ▸ hn _ _ _ _ q)
  case iastore =>
    have e1 := Nat.eq_of_beq_eq_true hok
    exact x_iast B (dec_at hd e1) h (fun _ _ _ _ q => e1 ▸ hn _ _ _ _ q)
  case bastore =>
    have e1 := Nat.eq_of_beq_eq_true hok
    exact x_zast B (dec_at hd e1) h (fun _ _ _ _ q => e1 ▸ hn _ _ _ _ q)
  case sastore =>
    have e1 := Nat.eq_of_beq_eq_true hok
    exact x_sast B (dec_at hd e1) h (fun _ _ _ _ q => e1 ▸ hn _ _ _ _ q)
  case dastore =>
    have e1 := Nat.eq_of_beq_eq_true hok
    exact x_dast B (dec_at hd e1) h (fun _ _ _ _ q => e1 ▸ hn _ _ _ _ q)
  case arraylength =>
    have e1 := Nat.eq_of_beq_eq_true hok
    exact x_len B (dec_at hd e1) h (fun _ _ _ _ q => e1 ▸ hn _ _ _ _ q)
  case dcmp o =>
    have e1 := Nat.eq_of_beq_eq_true hok
    exact x_dcmp B (dec_at hd e1) h (fun _ _ _ _ q => e1 ▸ hn _ _ _ _ q)
  case fcmp o =>
    have e1 := Nat.eq_of_beq_eq_true hok
    exact x_fcmp B (dec_at hd e1) h (fun _ _ _ _ q => e1 ▸ hn _ _ _ _ q)
  case getfield n =>
    simp only [okI, Bool.and_eq_true] at hok
    have e1 := Nat.eq_of_beq_eq_true hok.1
    obtain ⟨h1, h2, z, t, o, h3⟩ := okf_e hP hok.2
    exact x_get B (dec_at hd e1) h1 h2 h3 h (fun _ _ _ _ q => e1 ▸ hn _ _ _ _ q)
  case putfield n =>
    simp only [okI, Bool.and_eq_true] at hok
    have e1 := Nat.eq_of_beq_eq_true hok.1.1.1
    obtain ⟨h1, h2, z, t, o, h3⟩ := okf_e hP hok.1.1.2
    have h4 : ((cT a).2.1 b).2.2.2 = false := by simpa using hok.1.2
    have h5 := hok.2
    split at h5
    next => exact x_put B (dec_at hd e1) h1 h2 h3 h4 (of_decide_eq_true h5) (Or.inl ⟨rfl, rfl⟩) h (fun _ _ _ _ q => e1 ▸ hn _ _ _ _ q)
    next => exact x_put B (dec_at hd e1) h1 h2 h3 h4 (of_decide_eq_true h5) (Or.inr (Or.inl ⟨rfl, rfl⟩)) h (fun _ _ _ _ q => e1 ▸ hn _ _ _ _ q)
    next => exact x_put B (dec_at hd e1) h1 h2 h3 h4 (of_decide_eq_true h5) (Or.inr (Or.inr ⟨rfl, rfl⟩)) h (fun _ _ _ _ q => e1 ▸ hn _ _ _ _ q)
    next => cases h5
  case goto o =>
    simp only [okI, Bool.and_eq_true, decide_eq_true_eq] at hok
    exact x_goto B (dec_at hd (Nat.eq_of_beq_eq_true hok.1)) hok.2 (hj _ _ _ _ _ h)
  case ifCond cd o =>
    simp only [okI, Bool.and_eq_true, decide_eq_true_eq] at hok
    have e1 := Nat.eq_of_beq_eq_true hok.1
    exact x_if B (dec_at hd e1) hok.2 h hj (fun _ _ _ _ q => e1 ▸ hn _ _ _ _ q)
  case if_icmp cd o =>
    simp only [okI, Bool.and_eq_true, decide_eq_true_eq] at hok
    have e1 := Nat.eq_of_beq_eq_true hok.1
    exact x_icmp B (dec_at hd e1) hok.2 h hj (fun _ _ _ _ q => e1 ▸ hn _ _ _ _ q)
  case tableswitch dflt lo hi offs =>
    simp only [okI, Bool.and_eq_true, decide_eq_true_eq, List.all_eq_true] at hok
    exact x_tsw B hd hok.1 hok.2 h hj
  case lookupswitch dflt ps =>
    simp only [okI, Bool.and_eq_true] at hok
    exact x_lsw B hd hok.1 (fun o ho => of_decide_eq_true (List.all_eq_true.mp hok.2 o ho)) h hj
  case invokestatic n =>
    simp only [okI, Bool.and_eq_true] at hok
    have e1 := Nat.eq_of_beq_eq_true hok.1
    have h5 := hok.2
    split at h5
    next =>
      have h6 : ∃ q, nth MT a = some q ∧ q.2.2.2.2.1 = b ∧ q.2.2.2.2.2.1 = true ∧ Cond.methodLink P.1 n q.1 ∈ gt := by
        rcases Bool.or_eq_true_iff.mp h5 with h6 | h6
        · obtain ⟨q, w1, w2, w3, -, w4⟩ := okc_e hP h6
          exact ⟨q, w1, w2, w3, w4⟩
        · obtain ⟨q, w1, w2, w3, -, w4⟩ := okc_e hP h6
          exact ⟨q, w1, w2, w3, w4⟩
      obtain ⟨q, w1, w2, w3, w4⟩ := h6
      exact x_callS B hAd (dec_at hd e1) w1 w3 w2 w4 h (fun _ _ _ _ q => e1 ▸ hn _ _ _ _ q)
    next => exact x_nat1 B (dec_at hd e1) (okn_e hP h5) h (fun _ _ _ _ q => e1 ▸ hn _ _ _ _ q)
    next => exact x_nat2 B (dec_at hd e1) (okn_e hP h5) h (fun _ _ _ _ q => e1 ▸ hn _ _ _ _ q)
    next => cases h5
  case invokevirtual n =>
    simp only [okI, Bool.and_eq_true] at hok
    have e1 := Nat.eq_of_beq_eq_true hok.1
    have h5 := hok.2
    split at h5
    next ci =>
      obtain ⟨q, w1, w2, w3, w5, w4⟩ := okc_e hP h5
      exact x_callV B hAd (dec_at hd e1) w1 w3 w2 w5 w4 h (fun _ _ _ _ q => e1 ▸ hn _ _ _ _ q)
    next => cases h5
  case ireturn =>
    have h0 := hok
    simp only [okI, Bool.and_eq_true] at hok
    have e1 := Nat.eq_of_beq_eq_true hok.1
    subst e1
    exact hR pc .ireturn a lv st I D (Or.inl rfl) (dec_at hd rfl) h0 h
  case lreturn =>
    have h0 := hok
    simp only [okI, Bool.and_eq_true] at hok
    have e1 := Nat.eq_of_beq_eq_true hok.1
    subst e1
    exact hR pc .lreturn a lv st I D (Or.inr (Or.inl rfl)) (dec_at hd rfl) h0 h
  case dreturn =>
    have h0 := hok
    simp only [okI, Bool.and_eq_true] at hok
    have e1 := Nat.eq_of_beq_eq_true hok.1
    subst e1
    exact hR pc .dreturn a lv st I D (Or.inr (Or.inr (Or.inl rfl))) (dec_at hd rfl) h0 h
  case return_ =>
    have h0 := hok
    simp only [okI, Bool.and_eq_true] at hok
    have e1 := Nat.eq_of_beq_eq_true hok.1
    subst e1
    exact hR pc .return_ a lv st I D (Or.inr (Or.inr (Or.inr rfl))) (dec_at hd rfl) h0 h
  all_goals exact h.elim
end RX
end
section
/-! a stretch, then a method -/
section RS
variable {p : Program} {l : Launch} {e : Env} {R : Room} {s : State} {m : MethodId} {args : Array Value} {below : List Frame} {meth : Method} {c : Code} {cells slots : Nat} {Q : State → Prop}
variable {ad : Nat → Nat} {dA : Nat → ClassId} {G : va_G} {A : Nat → Prop} {SH : List Sh} {H0 : Heap} {nL : Nat} {cc : ByteArray} {d : Nat} {SC : Option (Nat × (Nat → Int32))} {P : Pl} {rt : Option FieldType}
theorem wp_sound {Rt : Rk} {LV : List (Nat × List Nat)} {K : Kt} {en : Nat} (hP : PlOk P) (B : BdX p R s m args c cells slots ad dA G A SH H0 nL cc P.1 d SC) (hAd : AdOk ad A SH.length)
    (hK : ∀ t lv st I D, K t lv st I D → AtM p l e R s m args below meth c cells slots Q ad dA G A SH H0 nL t lv st I D)
    (hR : ∀ pc i a lv st I D, (i = .ireturn ∨ i = .lreturn ∨ i = .dreturn ∨ i = .return_) → decode cc pc = .ok (i, 1) → okI P rt nL pc (pc + 1) i a 0 .null = true → Rt i a st I D → AtM p l e R s m args below meth c cells slots Q ad dA G A SH H0 nL pc lv st I D) :
    ∀ (ops : List Op), okS P rt nL cc en ops = true → ∀ (lv : Lv) (st : List Value) (I : MI) (D : MD),
      (wp SH SC Rt (CaD (l, ad, dA, G, A) SH d) LV K en ops none lv st I D → AtM p l e R s m args below meth c cells slots Q ad dA G A SH H0 nL (hdp en ops) lv st I D) ∧
      (∀ t, wp SH SC Rt (CaD (l, ad, dA, G, A) SH d) LV K en ops (some t) lv st I D → AtM p l e R s m args below meth c cells slots Q ad dA G A SH H0 nL t lv st I D) := by
  intro ops
  induction ops with
  | nil =>
    intro _ lv st I D
    exact ⟨fun h => AtM.pick hK h, fun t h => AtM.pick hK h⟩
  | cons q r ih =>
    intro hok lv st I D
    simp only [okS, Bool.and_eq_true, decide_eq_true_eq] at hok
    obtain ⟨⟨h1, h2⟩, h3⟩ := hok
    have ih' := ih h3
    have go : ∀ lv st I D, ex SH SC Rt (CaD (l, ad, dA, G, A) SH d) q.1 q.2.1 q.2.2.1 q.2.2.2.1 q.2.2.2.2 lv st I D (fun lv st I D => wp SH SC Rt (CaD (l, ad, dA, G, A) SH d) LV K en r none lv st I D) (fun t lv st I D => wp SH SC Rt (CaD (l, ad, dA, G, A) SH d) LV K en r (some t) lv st I D) → AtM p l e R s m args below meth c cells slots Q ad dA G A SH H0 nL q.1 lv st I D :=
      fun lv st I D h => ex_sound hP B hAd h1 h2 h (fun lv st I D h => (ih' lv st I D).1 h) (fun t lv st I D h => (ih' lv st I D).2 t h) hR
    refine ⟨fun h => go lv st I D h, fun t h => ?_⟩
    unfold wp at h
    split at h
    next hb =>
      have := Nat.eq_of_beq_eq_true hb
      subst this
      exact go lv st I D h
    next => exact (ih' lv st I D).2 t h
end RS
/-- a method's answer -/
def retP (Post : Po) : Rk := fun i a st I D => match i, st with
  | .ireturn, [.int x] => (match a with
    | 1 => (x = 0 ∨ x = 1) ∧ Post (some (.int x)) I D
    | _ => Post (some (.int x)) I D)
  | .lreturn, [.long x] => Post (some (.long x)) I D
  | .dreturn, [.double x] => Post (some (.double x)) I D
  | .return_, [] => Post none I D
  | _, _ => False
theorem Met.ofWF {l : Launch} {y : MethodName} {ws ws' : List Cond} {rm : Room} {Pc : Array Value → State → Prop} {Qc : Array Value → State → Outcome → State → Prop} {mc ms : Nat} {free : Addr → Prop} {cc : ByteArray} {maxL : Nat} {ret : Option FieldType}
    (hy : plainFor y = true) (hw : ws = Cond.code y cc maxL ret :: ws')
    (body : ∀ p e s m args below meth c s₁, BodyLoose p l y (headSpec ws rm) cc maxL ret e s m args below meth c s₁ → c.maxLocals = maxL → Pc args s →
      W p l e (headSpec ws rm).room s m args below meth c s.heap [] 0 0 (MQ below Qc args s mc ms free) (entryFrame m args maxL)) : Met l y ws rm Pc Qc mc ms free := by
  refine MetFree.of_bodySF (code := cc) (maxLocals := maxL) (ret := ret) hy ?_ ?_
  · intro args s m h hn
    obtain ⟨meth, c, h1, h2, h3, h4, h5, h6, -, -⟩ := Cond.code_spec hn (atoms_spec (ws := ws) h _ (by rw [hw]; exact List.mem_cons_self))
    exact ⟨meth, c, h1, h2, h3, h4, h5, h6⟩
  · intro p e s m args below meth c s₁ B hml hP _
    have hh0 : s₁.heap = s.heap := by rw [B.state]; rfl
    obtain ⟨t, a1, o, b1, b2, b3⟩ := body p e s m args below meth c s₁ B hml hP s₁ hh0 (Stand.of_body B)
    exact ⟨t, o, a1, b1, b2, ⟨b3.1, b3.2⟩⟩
theorem lv_args_map (ad : Nat → Nat) : ∀ (vs : List Value) (i : Nat), (lv_args i vs).map (cq ad) = lv_args i (vs.map (cv ad))
  | [], i => rfl
  | v :: vs, i => by
    simp only [lv_args, List.map_cons, cv_cat]
    rw [lv_args_map ad vs]
    rfl
/-- the stretches of a method: their first places, their ends, their instructions -/
abbrev Sg : Type := List (Nat × Nat × List Op)
def slen : List Value → Nat
  | [] => 0
  | v :: t => v.category + slen t
theorem slen_e : ∀ (vs : List Value), (lg_sl vs).length = slen vs
  | [] => rfl
  | v :: t => by
    have h := slen_e t
    unfold lg_sl at h ⊢
    simp only [List.flatMap_cons, List.length_append, h, slen]
    rcases lv_cat v with hc | hc <;> simp [hc]
theorem slen_map (ad : Nat → Nat) : ∀ (vs : List Value), slen (vs.map (cv ad)) = slen vs
  | [] => rfl
  | v :: t => by simp [slen, cv_cat, slen_map ad t]
def okG (P : Pl) (rt : Option FieldType) (nL : Nat) (cc : ByteArray) (S : Sg) : Bool := S.all (fun q => okS P rt nL cc q.2.1 q.2.2 && Nat.beq (hdp q.2.1 q.2.2) q.1)
/-- all that a method's bytes were checked for -/
def MOk (P : Pl) (S : Sg) (mid : Nat) : Prop := PlOk P ∧ ∃ q : Me, nth MT mid = some q ∧ P.1 = q.1.cls ∧ okG P q.2.2.2.1 q.2.2.1 q.2.1 S = true
set_option maxHeartbeats 1000000 in
/-- THE CONTRACT OF A METHOD OUT OF ITS STRETCHES: K is the machine at a place; each stretch gives K at its first place -/
theorem Con.mk {g : Gp} {SH : List Sh} {d mid : Nat} {As : List Value} {I : MI} {D : MD} {Post : Po} {P : Pl} {S : Sg} {LV : List (Nat × List Nat)} (hM : MOk P S mid) (hsl : ∀ q, nth MT mid = some q → slen As ≤ q.2.2.1)
    (h : ∀ K : Kt, (∀ q ∈ S, ∀ lv st I D, wp SH none (retP Post) (CaD g SH d) LV K q.2.1 q.2.2 none lv st I D → K q.1 lv st I D) → K 0 (lv_args 0 As) [] I D) : Con g SH d mid As I D Post := by
  obtain ⟨l, ad, dA, G, A⟩ := g
  intro q hq
  obtain ⟨hPl, q', hq', hown0, hG⟩ := hM
  cases hq.symm.trans hq'
  obtain ⟨o1, o2, o3, o4, o5, -⟩ := okM_e (mt_good hq)
  refine Met.ofWF (cc := q.2.1) (maxL := q.2.2.1) (ret := q.2.2.2.1) o5 rfl ?_
  intro p e s m args below meth c s₁ B hml hv
  obtain ⟨rfl, hAd, hK, hN, hP⟩ := hv
  have hts := atoms_spec (ws := Cond.code q.1 q.2.1 q.2.2.1 q.2.2.2.1 :: gt) B.pre
  have hown : s.vm.findClass P.1 = some m.cls := by rw [hown0]; exact findClass_of_methodNamed B.named
  have hlocks := B.notSynchronized
  have hr := B.returns
  have Bd0 : BdX p (rmd d) s m (As.map (cv ad)).toArray c 0 0 ad dA G A SH s.heap q.2.2.1 q.2.1 P.1 d none :=
    ⟨B.exec, B.bytes, hml, hown, fun w hw => hts w (List.mem_cons_of_mem _ hw), hK, wld_D hAd, (fun z hz => nomatch hz), ⟨Nat.le_refl _, Nat.le_refl _, Nat.le_refl _, Nat.le_refl _⟩, hN⟩
  have hent : ∀ K : Kt, (∀ t lv st I D, K t lv st I D → AtM p l e (rmd d) s m (As.map (cv ad)).toArray below meth c 0 0 (MQ below (QcM (l, ad, dA, G, A) SH Post) (As.map (cv ad)).toArray s 0 0 A) ad dA G A SH s.heap q.2.2.1 t lv st I D) → K 0 (lv_args 0 As) [] I D → W p l e (rmd d) s m (As.map (cv ad)).toArray below meth c s.heap [] 0 0 (MQ below (QcM (l, ad, dA, G, A) SH Post) (As.map (cv ad)).toArray s 0 0 A) (entryFrame m (As.map (cv ad)).toArray q.2.2.1) := by
    intro K hK0 hK1
    have hl := lv_entry (As.map (cv ad)) (n := q.2.2.1) (by rw [slen_e, slen_map]; exact hsl q hq)
    rw [lg_entry_eq]
    exact hK0 _ _ _ _ _ hK1 s.heap [] _ (by rw [lv_args_map]; exact hl) hP va_S.rf
  refine hent _ (fun t lv st I D h => h) (h _ ?_)
  intro z hz lv st I' D' hwp
  have hzok := List.all_eq_true.mp hG z hz
  simp only [Bool.and_eq_true] at hzok
  have e1 := Nat.eq_of_beq_eq_true hzok.2
  have := (wp_sound (rt := q.2.2.2.1) hPl Bd0 hAd (fun t lv st I D h => h) ?_ z.2.2 hzok.1 lv st I' D').1 hwp
  · rw [e1] at this
    exact this
  · intro pc i a lv st I D hi hdec hok hret H locs ls hl hP hS
    have fin : ∀ (r : Option Value), Post r I D → ∀ t : State, t.heap = H → s.WarmedH t.vm → QcM (l, ad, dA, G, A) SH Post (As.map (cv ad)).toArray s (.returned (r.map (cv ad))) t :=
      fun r hp t ht _ => ⟨⟨r, I, D, rfl, hp, by rw [ht]; exact hP⟩, hS.F ht⟩
    unfold retP at hret
    split at hret
    next x =>
      simp only [okI, Bool.and_eq_true] at hok
      split at hret
      next =>
        have hrt : meth.sig.returnType = some .boolean := by rw [hr]; exact of_decide_eq_true hok.2
        refine W.zret (ty := .boolean) B.exec B.bytes hrt ?_ (fin _ hret.2) hS.2.2 hdec
        rcases hret.1 with rfl | rfl <;> rfl
      next hne =>
        have hrt : meth.sig.returnType = some .int := by
          rw [hr]
          have h5 := hok.2
          split at h5
          next => exact absurd rfl hne
          next => exact of_decide_eq_true h5
        exact W.iret B.exec B.bytes hrt (fin _ hret) hS.2.2 hdec
    next x =>
      simp only [okI, Bool.and_eq_true] at hok
      have hrt : meth.sig.returnType = some .long := by rw [hr]; exact of_decide_eq_true hok.2
      exact W.lret B.exec B.bytes hrt (fin _ hret) hS.2.2 hdec
    next x =>
      simp only [okI, Bool.and_eq_true] at hok
      have hrt : meth.sig.returnType = some .double := by rw [hr]; exact of_decide_eq_true hok.2
      exact W.dret B.exec B.bytes hrt (fin _ hret) hS.2.2 hdec
    next =>
      simp only [okI, Bool.and_eq_true] at hok
      have hrt : meth.sig.returnType = none := by rw [hr]; exact of_decide_eq_true hok.2
      exact W.vret B.exec B.bytes hrt (fin _ hret) hS.2.2 hdec
    next => exact hret.elim
end
