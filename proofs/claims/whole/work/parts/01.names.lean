/-- a private method of a class that the tables say can be made, by its rows of tables_1 -/
def lw_okq (q : MethodName × Nat) : Prop := (q.1.cls ≠ "java/lang/invoke/MethodHandle" ∧ q.1.cls ≠ "java/lang/invoke/VarHandle") ∧ Cond.instantiable q.1.cls q.2 ∈ tables_1 ∧ Cond.privateMethod q.1 ∈ tables_1 ∧ Cond.instanceMethod q.1 ∈ tables_1
theorem lw_p0 : lw_okq (⟨"GlassLacesModel", "four", "(I)V"⟩, 62) := ⟨⟨by decide +kernel, by decide +kernel⟩, List.mem_of_getElem? (i := 1224) (by decide +kernel), List.mem_of_getElem? (i := 1421) (by decide +kernel), List.mem_of_getElem? (i := 1422) (by decide +kernel)⟩
theorem lw_p1 : lw_okq (⟨"GlassLacesModel", "is", "(II)Z"⟩, 62) := ⟨⟨by decide +kernel, by decide +kernel⟩, List.mem_of_getElem? (i := 1224) (by decide +kernel), List.mem_of_getElem? (i := 1436) (by decide +kernel), List.mem_of_getElem? (i := 1437) (by decide +kernel)⟩
theorem lw_p2 : lw_okq (⟨"GlassLacesModel", "readText", "(I)Z"⟩, 62) := ⟨⟨by decide +kernel, by decide +kernel⟩, List.mem_of_getElem? (i := 1224) (by decide +kernel), List.mem_of_getElem? (i := 1440) (by decide +kernel), List.mem_of_getElem? (i := 1441) (by decide +kernel)⟩
theorem lw_p3 : lw_okq (⟨"GlassLacesModel", "token", "()V"⟩, 62) := ⟨⟨by decide +kernel, by decide +kernel⟩, List.mem_of_getElem? (i := 1224) (by decide +kernel), List.mem_of_getElem? (i := 1444) (by decide +kernel), List.mem_of_getElem? (i := 1445) (by decide +kernel)⟩
theorem lw_p4 : lw_okq (⟨"GlassLacesModel", "see", "()I"⟩, 62) := ⟨⟨by decide +kernel, by decide +kernel⟩, List.mem_of_getElem? (i := 1224) (by decide +kernel), List.mem_of_getElem? (i := 1448) (by decide +kernel), List.mem_of_getElem? (i := 1449) (by decide +kernel)⟩
theorem lw_p5 : lw_okq (⟨"GlassLacesModel", "lines", "(I)Z"⟩, 62) := ⟨⟨by decide +kernel, by decide +kernel⟩, List.mem_of_getElem? (i := 1224) (by decide +kernel), List.mem_of_getElem? (i := 1452) (by decide +kernel), List.mem_of_getElem? (i := 1453) (by decide +kernel)⟩
theorem lw_p6 : lw_okq (⟨"GlassLacesModel", "lineOf", "(IJI)Z"⟩, 62) := ⟨⟨by decide +kernel, by decide +kernel⟩, List.mem_of_getElem? (i := 1224) (by decide +kernel), List.mem_of_getElem? (i := 1456) (by decide +kernel), List.mem_of_getElem? (i := 1457) (by decide +kernel)⟩
theorem lw_p7 : lw_okq (⟨"GlassLacesModel", "courtLine", "(JI)Z"⟩, 62) := ⟨⟨by decide +kernel, by decide +kernel⟩, List.mem_of_getElem? (i := 1224) (by decide +kernel), List.mem_of_getElem? (i := 1460) (by decide +kernel), List.mem_of_getElem? (i := 1461) (by decide +kernel)⟩
theorem lw_p8 : lw_okq (⟨"GlassLacesModel", "fails", "()Z"⟩, 62) := ⟨⟨by decide +kernel, by decide +kernel⟩, List.mem_of_getElem? (i := 1224) (by decide +kernel), List.mem_of_getElem? (i := 1471) (by decide +kernel), List.mem_of_getElem? (i := 1472) (by decide +kernel)⟩
theorem lw_p9 : lw_okq (⟨"GlassLacesModel", "full", "(III)V"⟩, 62) := ⟨⟨by decide +kernel, by decide +kernel⟩, List.mem_of_getElem? (i := 1224) (by decide +kernel), List.mem_of_getElem? (i := 1475) (by decide +kernel), List.mem_of_getElem? (i := 1476) (by decide +kernel)⟩
theorem lw_p10 : lw_okq (⟨"GlassLacesModel", "later", "(II)V"⟩, 62) := ⟨⟨by decide +kernel, by decide +kernel⟩, List.mem_of_getElem? (i := 1224) (by decide +kernel), List.mem_of_getElem? (i := 1479) (by decide +kernel), List.mem_of_getElem? (i := 1480) (by decide +kernel)⟩
theorem lw_p11 : lw_okq (⟨"GlassLacesModel", "ladyLine", "()Z"⟩, 62) := ⟨⟨by decide +kernel, by decide +kernel⟩, List.mem_of_getElem? (i := 1224) (by decide +kernel), List.mem_of_getElem? (i := 1483) (by decide +kernel), List.mem_of_getElem? (i := 1484) (by decide +kernel)⟩
theorem lw_p12 : lw_okq (⟨"GlassLacesModel", "take", "(III)Z"⟩, 62) := ⟨⟨by decide +kernel, by decide +kernel⟩, List.mem_of_getElem? (i := 1224) (by decide +kernel), List.mem_of_getElem? (i := 1487) (by decide +kernel), List.mem_of_getElem? (i := 1488) (by decide +kernel)⟩
theorem lw_p13 : lw_okq (⟨"GlassLacesModel", "takeBut", "(IIII)Z"⟩, 62) := ⟨⟨by decide +kernel, by decide +kernel⟩, List.mem_of_getElem? (i := 1224) (by decide +kernel), List.mem_of_getElem? (i := 1491) (by decide +kernel), List.mem_of_getElem? (i := 1492) (by decide +kernel)⟩
theorem lw_p14 : lw_okq (⟨"GlassLacesModel", "keep", "(IIII)V"⟩, 62) := ⟨⟨by decide +kernel, by decide +kernel⟩, List.mem_of_getElem? (i := 1224) (by decide +kernel), List.mem_of_getElem? (i := 1498) (by decide +kernel), List.mem_of_getElem? (i := 1499) (by decide +kernel)⟩
theorem lw_p15 : lw_okq (⟨"GlassLacesModel", "properLine", "()Z"⟩, 62) := ⟨⟨by decide +kernel, by decide +kernel⟩, List.mem_of_getElem? (i := 1224) (by decide +kernel), List.mem_of_getElem? (i := 1502) (by decide +kernel), List.mem_of_getElem? (i := 1503) (by decide +kernel)⟩
def lw_privs_1 : List (MethodName × Nat) := [(⟨"GlassLacesModel", "four", "(I)V"⟩, 62), (⟨"GlassLacesModel", "is", "(II)Z"⟩, 62), (⟨"GlassLacesModel", "readText", "(I)Z"⟩, 62), (⟨"GlassLacesModel", "token", "()V"⟩, 62), (⟨"GlassLacesModel", "see", "()I"⟩, 62), (⟨"GlassLacesModel", "lines", "(I)Z"⟩, 62), (⟨"GlassLacesModel", "lineOf", "(IJI)Z"⟩, 62), (⟨"GlassLacesModel", "courtLine", "(JI)Z"⟩, 62), (⟨"GlassLacesModel", "fails", "()Z"⟩, 62), (⟨"GlassLacesModel", "full", "(III)V"⟩, 62), (⟨"GlassLacesModel", "later", "(II)V"⟩, 62), (⟨"GlassLacesModel", "ladyLine", "()Z"⟩, 62), (⟨"GlassLacesModel", "take", "(III)Z"⟩, 62), (⟨"GlassLacesModel", "takeBut", "(IIII)Z"⟩, 62), (⟨"GlassLacesModel", "keep", "(IIII)V"⟩, 62), (⟨"GlassLacesModel", "properLine", "()Z"⟩, 62)]
theorem lw_r1 : ∀ q ∈ lw_privs_1, lw_okq q := List.forall_mem_cons.mpr ⟨lw_p0, List.forall_mem_cons.mpr ⟨lw_p1, List.forall_mem_cons.mpr ⟨lw_p2, List.forall_mem_cons.mpr ⟨lw_p3, List.forall_mem_cons.mpr ⟨lw_p4, List.forall_mem_cons.mpr ⟨lw_p5, List.forall_mem_cons.mpr ⟨lw_p6, List.forall_mem_cons.mpr ⟨lw_p7, List.forall_mem_cons.mpr ⟨lw_p8, List.forall_mem_cons.mpr ⟨lw_p9, List.forall_mem_cons.mpr ⟨lw_p10, List.forall_mem_cons.mpr ⟨lw_p11, List.forall_mem_cons.mpr ⟨lw_p12, List.forall_mem_cons.mpr ⟨lw_p13, List.forall_mem_cons.mpr ⟨lw_p14, List.forall_mem_cons.mpr ⟨lw_p15, fun _ h => absurd h List.not_mem_nil⟩⟩⟩⟩⟩⟩⟩⟩⟩⟩⟩⟩⟩⟩⟩⟩
theorem lw_p16 : lw_okq (⟨"GlassLacesModel", "ballLine", "(JI)Z"⟩, 62) := ⟨⟨by decide +kernel, by decide +kernel⟩, List.mem_of_getElem? (i := 1224) (by decide +kernel), List.mem_of_getElem? (i := 1506) (by decide +kernel), List.mem_of_getElem? (i := 1507) (by decide +kernel)⟩
theorem lw_p17 : lw_okq (⟨"GlassLacesModel", "ballNumbers", "(I)Z"⟩, 62) := ⟨⟨by decide +kernel, by decide +kernel⟩, List.mem_of_getElem? (i := 1224) (by decide +kernel), List.mem_of_getElem? (i := 1521) (by decide +kernel), List.mem_of_getElem? (i := 1522) (by decide +kernel)⟩
theorem lw_p18 : lw_okq (⟨"GlassLacesModel", "forecastLine", "(J)Z"⟩, 62) := ⟨⟨by decide +kernel, by decide +kernel⟩, List.mem_of_getElem? (i := 1224) (by decide +kernel), List.mem_of_getElem? (i := 1525) (by decide +kernel), List.mem_of_getElem? (i := 1526) (by decide +kernel)⟩
theorem lw_p19 : lw_okq (⟨"GlassLacesModel", "sightLine", "(JI)Z"⟩, 62) := ⟨⟨by decide +kernel, by decide +kernel⟩, List.mem_of_getElem? (i := 1224) (by decide +kernel), List.mem_of_getElem? (i := 1530) (by decide +kernel), List.mem_of_getElem? (i := 1531) (by decide +kernel)⟩
theorem lw_p20 : lw_okq (⟨"GlassLacesModel", "ledgerLine", "(JI)Z"⟩, 62) := ⟨⟨by decide +kernel, by decide +kernel⟩, List.mem_of_getElem? (i := 1224) (by decide +kernel), List.mem_of_getElem? (i := 1537) (by decide +kernel), List.mem_of_getElem? (i := 1538) (by decide +kernel)⟩
theorem lw_p21 : lw_okq (⟨"GlassLacesModel", "shiftLine", "(JI)Z"⟩, 62) := ⟨⟨by decide +kernel, by decide +kernel⟩, List.mem_of_getElem? (i := 1224) (by decide +kernel), List.mem_of_getElem? (i := 1542) (by decide +kernel), List.mem_of_getElem? (i := 1543) (by decide +kernel)⟩
theorem lw_p22 : lw_okq (⟨"GlassLacesModel", "storeAll", "(II)V"⟩, 62) := ⟨⟨by decide +kernel, by decide +kernel⟩, List.mem_of_getElem? (i := 1224) (by decide +kernel), List.mem_of_getElem? (i := 1547) (by decide +kernel), List.mem_of_getElem? (i := 1548) (by decide +kernel)⟩
theorem lw_p23 : lw_okq (⟨"GlassLacesModel", "store", "([III)V"⟩, 62) := ⟨⟨by decide +kernel, by decide +kernel⟩, List.mem_of_getElem? (i := 1224) (by decide +kernel), List.mem_of_getElem? (i := 1551) (by decide +kernel), List.mem_of_getElem? (i := 1552) (by decide +kernel)⟩
theorem lw_p24 : lw_okq (⟨"GlassLacesModel", "hand", "(I)Z"⟩, 62) := ⟨⟨by decide +kernel, by decide +kernel⟩, List.mem_of_getElem? (i := 1224) (by decide +kernel), List.mem_of_getElem? (i := 1563) (by decide +kernel), List.mem_of_getElem? (i := 1564) (by decide +kernel)⟩
theorem lw_p25 : lw_okq (⟨"GlassLacesModel", "ofCourt", "(I)I"⟩, 62) := ⟨⟨by decide +kernel, by decide +kernel⟩, List.mem_of_getElem? (i := 1224) (by decide +kernel), List.mem_of_getElem? (i := 1567) (by decide +kernel), List.mem_of_getElem? (i := 1568) (by decide +kernel)⟩
theorem lw_p26 : lw_okq (⟨"GlassLacesModel", "properAt", "(I)I"⟩, 62) := ⟨⟨by decide +kernel, by decide +kernel⟩, List.mem_of_getElem? (i := 1224) (by decide +kernel), List.mem_of_getElem? (i := 1571) (by decide +kernel), List.mem_of_getElem? (i := 1572) (by decide +kernel)⟩
theorem lw_p27 : lw_okq (⟨"GlassLacesModel", "isLady", "(I)Z"⟩, 62) := ⟨⟨by decide +kernel, by decide +kernel⟩, List.mem_of_getElem? (i := 1224) (by decide +kernel), List.mem_of_getElem? (i := 1579) (by decide +kernel), List.mem_of_getElem? (i := 1580) (by decide +kernel)⟩
theorem lw_p28 : lw_okq (⟨"GlassLacesModel", "ofLady", "(II)I"⟩, 62) := ⟨⟨by decide +kernel, by decide +kernel⟩, List.mem_of_getElem? (i := 1224) (by decide +kernel), List.mem_of_getElem? (i := 1583) (by decide +kernel), List.mem_of_getElem? (i := 1584) (by decide +kernel)⟩
theorem lw_p29 : lw_okq (⟨"GlassLacesModel", "does", "(III)I"⟩, 62) := ⟨⟨by decide +kernel, by decide +kernel⟩, List.mem_of_getElem? (i := 1224) (by decide +kernel), List.mem_of_getElem? (i := 1591) (by decide +kernel), List.mem_of_getElem? (i := 1592) (by decide +kernel)⟩
theorem lw_p30 : lw_okq (⟨"GlassLacesModel", "hasBall", "(I)Z"⟩, 62) := ⟨⟨by decide +kernel, by decide +kernel⟩, List.mem_of_getElem? (i := 1224) (by decide +kernel), List.mem_of_getElem? (i := 1599) (by decide +kernel), List.mem_of_getElem? (i := 1600) (by decide +kernel)⟩
theorem lw_p31 : lw_okq (⟨"GlassLacesModel", "deeds", "()I"⟩, 62) := ⟨⟨by decide +kernel, by decide +kernel⟩, List.mem_of_getElem? (i := 1224) (by decide +kernel), List.mem_of_getElem? (i := 1603) (by decide +kernel), List.mem_of_getElem? (i := 1604) (by decide +kernel)⟩
def lw_privs_2 : List (MethodName × Nat) := [(⟨"GlassLacesModel", "ballLine", "(JI)Z"⟩, 62), (⟨"GlassLacesModel", "ballNumbers", "(I)Z"⟩, 62), (⟨"GlassLacesModel", "forecastLine", "(J)Z"⟩, 62), (⟨"GlassLacesModel", "sightLine", "(JI)Z"⟩, 62), (⟨"GlassLacesModel", "ledgerLine", "(JI)Z"⟩, 62), (⟨"GlassLacesModel", "shiftLine", "(JI)Z"⟩, 62), (⟨"GlassLacesModel", "storeAll", "(II)V"⟩, 62), (⟨"GlassLacesModel", "store", "([III)V"⟩, 62), (⟨"GlassLacesModel", "hand", "(I)Z"⟩, 62), (⟨"GlassLacesModel", "ofCourt", "(I)I"⟩, 62), (⟨"GlassLacesModel", "properAt", "(I)I"⟩, 62), (⟨"GlassLacesModel", "isLady", "(I)Z"⟩, 62), (⟨"GlassLacesModel", "ofLady", "(II)I"⟩, 62), (⟨"GlassLacesModel", "does", "(III)I"⟩, 62), (⟨"GlassLacesModel", "hasBall", "(I)Z"⟩, 62), (⟨"GlassLacesModel", "deeds", "()I"⟩, 62)]
theorem lw_r2 : ∀ q ∈ lw_privs_2, lw_okq q := List.forall_mem_cons.mpr ⟨lw_p16, List.forall_mem_cons.mpr ⟨lw_p17, List.forall_mem_cons.mpr ⟨lw_p18, List.forall_mem_cons.mpr ⟨lw_p19, List.forall_mem_cons.mpr ⟨lw_p20, List.forall_mem_cons.mpr ⟨lw_p21, List.forall_mem_cons.mpr ⟨lw_p22, List.forall_mem_cons.mpr ⟨lw_p23, List.forall_mem_cons.mpr ⟨lw_p24, List.forall_mem_cons.mpr ⟨lw_p25, List.forall_mem_cons.mpr ⟨lw_p26, List.forall_mem_cons.mpr ⟨lw_p27, List.forall_mem_cons.mpr ⟨lw_p28, List.forall_mem_cons.mpr ⟨lw_p29, List.forall_mem_cons.mpr ⟨lw_p30, List.forall_mem_cons.mpr ⟨lw_p31, fun _ h => absurd h List.not_mem_nil⟩⟩⟩⟩⟩⟩⟩⟩⟩⟩⟩⟩⟩⟩⟩⟩
theorem lw_p32 : lw_okq (⟨"GlassLacesModel", "deedOf", "(II)I"⟩, 62) := ⟨⟨by decide +kernel, by decide +kernel⟩, List.mem_of_getElem? (i := 1224) (by decide +kernel), List.mem_of_getElem? (i := 1607) (by decide +kernel), List.mem_of_getElem? (i := 1608) (by decide +kernel)⟩
theorem lw_p33 : lw_okq (⟨"GlassLacesModel", "play", "(I)I"⟩, 62) := ⟨⟨by decide +kernel, by decide +kernel⟩, List.mem_of_getElem? (i := 1224) (by decide +kernel), List.mem_of_getElem? (i := 1615) (by decide +kernel), List.mem_of_getElem? (i := 1616) (by decide +kernel)⟩
theorem lw_p34 : lw_okq (⟨"GlassLacesModel", "begin", "()V"⟩, 62) := ⟨⟨by decide +kernel, by decide +kernel⟩, List.mem_of_getElem? (i := 1224) (by decide +kernel), List.mem_of_getElem? (i := 1619) (by decide +kernel), List.mem_of_getElem? (i := 1620) (by decide +kernel)⟩
theorem lw_p35 : lw_okq (⟨"GlassLacesModel", "doesDeed", "(I)Z"⟩, 62) := ⟨⟨by decide +kernel, by decide +kernel⟩, List.mem_of_getElem? (i := 1224) (by decide +kernel), List.mem_of_getElem? (i := 1623) (by decide +kernel), List.mem_of_getElem? (i := 1624) (by decide +kernel)⟩
theorem lw_p36 : lw_okq (⟨"GlassLacesModel", "opensOr", "(IZ)Z"⟩, 62) := ⟨⟨by decide +kernel, by decide +kernel⟩, List.mem_of_getElem? (i := 1224) (by decide +kernel), List.mem_of_getElem? (i := 1627) (by decide +kernel), List.mem_of_getElem? (i := 1628) (by decide +kernel)⟩
theorem lw_p37 : lw_okq (⟨"GlassLacesModel", "isRoom", "(I)Z"⟩, 62) := ⟨⟨by decide +kernel, by decide +kernel⟩, List.mem_of_getElem? (i := 1224) (by decide +kernel), List.mem_of_getElem? (i := 1631) (by decide +kernel), List.mem_of_getElem? (i := 1632) (by decide +kernel)⟩
theorem lw_p38 : lw_okq (⟨"GlassLacesModel", "sighs", "(I)Z"⟩, 62) := ⟨⟨by decide +kernel, by decide +kernel⟩, List.mem_of_getElem? (i := 1224) (by decide +kernel), List.mem_of_getElem? (i := 1638) (by decide +kernel), List.mem_of_getElem? (i := 1639) (by decide +kernel)⟩
theorem lw_p39 : lw_okq (⟨"GlassLacesModel", "laces", "(II)Z"⟩, 62) := ⟨⟨by decide +kernel, by decide +kernel⟩, List.mem_of_getElem? (i := 1224) (by decide +kernel), List.mem_of_getElem? (i := 1645) (by decide +kernel), List.mem_of_getElem? (i := 1646) (by decide +kernel)⟩
theorem lw_p40 : lw_okq (⟨"GlassLacesModel", "goes", "(II)Z"⟩, 62) := ⟨⟨by decide +kernel, by decide +kernel⟩, List.mem_of_getElem? (i := 1224) (by decide +kernel), List.mem_of_getElem? (i := 1652) (by decide +kernel), List.mem_of_getElem? (i := 1653) (by decide +kernel)⟩
theorem lw_p41 : lw_okq (⟨"GlassLacesModel", "countOf", "(I)I"⟩, 62) := ⟨⟨by decide +kernel, by decide +kernel⟩, List.mem_of_getElem? (i := 1224) (by decide +kernel), List.mem_of_getElem? (i := 1656) (by decide +kernel), List.mem_of_getElem? (i := 1657) (by decide +kernel)⟩
theorem lw_p42 : lw_okq (⟨"GlassLacesModel", "minute", "()V"⟩, 62) := ⟨⟨by decide +kernel, by decide +kernel⟩, List.mem_of_getElem? (i := 1224) (by decide +kernel), List.mem_of_getElem? (i := 1660) (by decide +kernel), List.mem_of_getElem? (i := 1661) (by decide +kernel)⟩
theorem lw_p43 : lw_okq (⟨"GlassLacesModel", "looksAt", "(I)V"⟩, 62) := ⟨⟨by decide +kernel, by decide +kernel⟩, List.mem_of_getElem? (i := 1224) (by decide +kernel), List.mem_of_getElem? (i := 1664) (by decide +kernel), List.mem_of_getElem? (i := 1665) (by decide +kernel)⟩
theorem lw_p44 : lw_okq (⟨"GlassLacesModel", "pressureOf", "(I)I"⟩, 62) := ⟨⟨by decide +kernel, by decide +kernel⟩, List.mem_of_getElem? (i := 1224) (by decide +kernel), List.mem_of_getElem? (i := 1668) (by decide +kernel), List.mem_of_getElem? (i := 1669) (by decide +kernel)⟩
theorem lw_p45 : lw_okq (⟨"GlassLacesModel", "airOf", "(I)I"⟩, 62) := ⟨⟨by decide +kernel, by decide +kernel⟩, List.mem_of_getElem? (i := 1224) (by decide +kernel), List.mem_of_getElem? (i := 1672) (by decide +kernel), List.mem_of_getElem? (i := 1673) (by decide +kernel)⟩
theorem lw_p46 : lw_okq (⟨"GlassLacesModel", "heightOf", "(I)I"⟩, 62) := ⟨⟨by decide +kernel, by decide +kernel⟩, List.mem_of_getElem? (i := 1224) (by decide +kernel), List.mem_of_getElem? (i := 1676) (by decide +kernel), List.mem_of_getElem? (i := 1677) (by decide +kernel)⟩
theorem lw_p47 : lw_okq (⟨"GlassLacesModel", "tells", "(I)Z"⟩, 62) := ⟨⟨by decide +kernel, by decide +kernel⟩, List.mem_of_getElem? (i := 1224) (by decide +kernel), List.mem_of_getElem? (i := 1680) (by decide +kernel), List.mem_of_getElem? (i := 1681) (by decide +kernel)⟩
def lw_privs_3 : List (MethodName × Nat) := [(⟨"GlassLacesModel", "deedOf", "(II)I"⟩, 62), (⟨"GlassLacesModel", "play", "(I)I"⟩, 62), (⟨"GlassLacesModel", "begin", "()V"⟩, 62), (⟨"GlassLacesModel", "doesDeed", "(I)Z"⟩, 62), (⟨"GlassLacesModel", "opensOr", "(IZ)Z"⟩, 62), (⟨"GlassLacesModel", "isRoom", "(I)Z"⟩, 62), (⟨"GlassLacesModel", "sighs", "(I)Z"⟩, 62), (⟨"GlassLacesModel", "laces", "(II)Z"⟩, 62), (⟨"GlassLacesModel", "goes", "(II)Z"⟩, 62), (⟨"GlassLacesModel", "countOf", "(I)I"⟩, 62), (⟨"GlassLacesModel", "minute", "()V"⟩, 62), (⟨"GlassLacesModel", "looksAt", "(I)V"⟩, 62), (⟨"GlassLacesModel", "pressureOf", "(I)I"⟩, 62), (⟨"GlassLacesModel", "airOf", "(I)I"⟩, 62), (⟨"GlassLacesModel", "heightOf", "(I)I"⟩, 62), (⟨"GlassLacesModel", "tells", "(I)Z"⟩, 62)]
theorem lw_r3 : ∀ q ∈ lw_privs_3, lw_okq q := List.forall_mem_cons.mpr ⟨lw_p32, List.forall_mem_cons.mpr ⟨lw_p33, List.forall_mem_cons.mpr ⟨lw_p34, List.forall_mem_cons.mpr ⟨lw_p35, List.forall_mem_cons.mpr ⟨lw_p36, List.forall_mem_cons.mpr ⟨lw_p37, List.forall_mem_cons.mpr ⟨lw_p38, List.forall_mem_cons.mpr ⟨lw_p39, List.forall_mem_cons.mpr ⟨lw_p40, List.forall_mem_cons.mpr ⟨lw_p41, List.forall_mem_cons.mpr ⟨lw_p42, List.forall_mem_cons.mpr ⟨lw_p43, List.forall_mem_cons.mpr ⟨lw_p44, List.forall_mem_cons.mpr ⟨lw_p45, List.forall_mem_cons.mpr ⟨lw_p46, List.forall_mem_cons.mpr ⟨lw_p47, fun _ h => absurd h List.not_mem_nil⟩⟩⟩⟩⟩⟩⟩⟩⟩⟩⟩⟩⟩⟩⟩⟩
theorem lw_p48 : lw_okq (⟨"GlassLacesModel", "layState", "(III)Z"⟩, 62) := ⟨⟨by decide +kernel, by decide +kernel⟩, List.mem_of_getElem? (i := 1224) (by decide +kernel), List.mem_of_getElem? (i := 1688) (by decide +kernel), List.mem_of_getElem? (i := 1689) (by decide +kernel)⟩
theorem lw_p49 : lw_okq (⟨"GlassLacesModel", "improper", "()I"⟩, 62) := ⟨⟨by decide +kernel, by decide +kernel⟩, List.mem_of_getElem? (i := 1224) (by decide +kernel), List.mem_of_getElem? (i := 1692) (by decide +kernel), List.mem_of_getElem? (i := 1693) (by decide +kernel)⟩
theorem lw_p50 : lw_okq (⟨"GlassLacesModel", "hasForecast", "(I)Z"⟩, 62) := ⟨⟨by decide +kernel, by decide +kernel⟩, List.mem_of_getElem? (i := 1224) (by decide +kernel), List.mem_of_getElem? (i := 1704) (by decide +kernel), List.mem_of_getElem? (i := 1705) (by decide +kernel)⟩
theorem lw_p51 : lw_okq (⟨"GlassLacesModel", "marks", "()I"⟩, 62) := ⟨⟨by decide +kernel, by decide +kernel⟩, List.mem_of_getElem? (i := 1224) (by decide +kernel), List.mem_of_getElem? (i := 1708) (by decide +kernel), List.mem_of_getElem? (i := 1709) (by decide +kernel)⟩
theorem lw_p52 : lw_okq (⟨"GlassLacesModel", "markOf", "(I)I"⟩, 62) := ⟨⟨by decide +kernel, by decide +kernel⟩, List.mem_of_getElem? (i := 1224) (by decide +kernel), List.mem_of_getElem? (i := 1712) (by decide +kernel), List.mem_of_getElem? (i := 1713) (by decide +kernel)⟩
theorem lw_p53 : lw_okq (⟨"GlassLacesModel", "stands", "(III)Z"⟩, 62) := ⟨⟨by decide +kernel, by decide +kernel⟩, List.mem_of_getElem? (i := 1224) (by decide +kernel), List.mem_of_getElem? (i := 1720) (by decide +kernel), List.mem_of_getElem? (i := 1721) (by decide +kernel)⟩
theorem lw_p54 : lw_okq (⟨"GlassLacesModel", "knotsOf", "(IZ)I"⟩, 62) := ⟨⟨by decide +kernel, by decide +kernel⟩, List.mem_of_getElem? (i := 1224) (by decide +kernel), List.mem_of_getElem? (i := 1728) (by decide +kernel), List.mem_of_getElem? (i := 1729) (by decide +kernel)⟩
theorem lw_p55 : lw_okq (⟨"GlassLacesModel", "findNeed", "(IZ)V"⟩, 62) := ⟨⟨by decide +kernel, by decide +kernel⟩, List.mem_of_getElem? (i := 1224) (by decide +kernel), List.mem_of_getElem? (i := 1732) (by decide +kernel), List.mem_of_getElem? (i := 1733) (by decide +kernel)⟩
theorem lw_p56 : lw_okq (⟨"GlassLacesModel", "laceBy", "(IIIZ)I"⟩, 62) := ⟨⟨by decide +kernel, by decide +kernel⟩, List.mem_of_getElem? (i := 1224) (by decide +kernel), List.mem_of_getElem? (i := 1736) (by decide +kernel), List.mem_of_getElem? (i := 1737) (by decide +kernel)⟩
theorem lw_p57 : lw_okq (⟨"GlassLacesModel", "canHave", "(IIIZ)Z"⟩, 62) := ⟨⟨by decide +kernel, by decide +kernel⟩, List.mem_of_getElem? (i := 1224) (by decide +kernel), List.mem_of_getElem? (i := 1741) (by decide +kernel), List.mem_of_getElem? (i := 1742) (by decide +kernel)⟩
theorem lw_p58 : lw_okq (⟨"GlassLacesModel", "still", "()V"⟩, 62) := ⟨⟨by decide +kernel, by decide +kernel⟩, List.mem_of_getElem? (i := 1224) (by decide +kernel), List.mem_of_getElem? (i := 1758) (by decide +kernel), List.mem_of_getElem? (i := 1759) (by decide +kernel)⟩
theorem lw_p59 : lw_okq (⟨"GlassLacesModel", "windOf", "(I)I"⟩, 62) := ⟨⟨by decide +kernel, by decide +kernel⟩, List.mem_of_getElem? (i := 1224) (by decide +kernel), List.mem_of_getElem? (i := 1762) (by decide +kernel), List.mem_of_getElem? (i := 1763) (by decide +kernel)⟩
theorem lw_p60 : lw_okq (⟨"GlassLacesModel", "blows", "()V"⟩, 62) := ⟨⟨by decide +kernel, by decide +kernel⟩, List.mem_of_getElem? (i := 1224) (by decide +kernel), List.mem_of_getElem? (i := 1766) (by decide +kernel), List.mem_of_getElem? (i := 1767) (by decide +kernel)⟩
theorem lw_p61 : lw_okq (⟨"GlassLacesModel", "after", "(II)I"⟩, 62) := ⟨⟨by decide +kernel, by decide +kernel⟩, List.mem_of_getElem? (i := 1224) (by decide +kernel), List.mem_of_getElem? (i := 1770) (by decide +kernel), List.mem_of_getElem? (i := 1771) (by decide +kernel)⟩
theorem lw_p62 : lw_okq (⟨"GlassLacesModel", "bestLace", "(III)I"⟩, 62) := ⟨⟨by decide +kernel, by decide +kernel⟩, List.mem_of_getElem? (i := 1224) (by decide +kernel), List.mem_of_getElem? (i := 1788) (by decide +kernel), List.mem_of_getElem? (i := 1789) (by decide +kernel)⟩
theorem lw_p63 : lw_okq (⟨"GlassLacesModel", "costOf", "(IIII)I"⟩, 62) := ⟨⟨by decide +kernel, by decide +kernel⟩, List.mem_of_getElem? (i := 1224) (by decide +kernel), List.mem_of_getElem? (i := 1792) (by decide +kernel), List.mem_of_getElem? (i := 1793) (by decide +kernel)⟩
def lw_privs_4 : List (MethodName × Nat) := [(⟨"GlassLacesModel", "layState", "(III)Z"⟩, 62), (⟨"GlassLacesModel", "improper", "()I"⟩, 62), (⟨"GlassLacesModel", "hasForecast", "(I)Z"⟩, 62), (⟨"GlassLacesModel", "marks", "()I"⟩, 62), (⟨"GlassLacesModel", "markOf", "(I)I"⟩, 62), (⟨"GlassLacesModel", "stands", "(III)Z"⟩, 62), (⟨"GlassLacesModel", "knotsOf", "(IZ)I"⟩, 62), (⟨"GlassLacesModel", "findNeed", "(IZ)V"⟩, 62), (⟨"GlassLacesModel", "laceBy", "(IIIZ)I"⟩, 62), (⟨"GlassLacesModel", "canHave", "(IIIZ)Z"⟩, 62), (⟨"GlassLacesModel", "still", "()V"⟩, 62), (⟨"GlassLacesModel", "windOf", "(I)I"⟩, 62), (⟨"GlassLacesModel", "blows", "()V"⟩, 62), (⟨"GlassLacesModel", "after", "(II)I"⟩, 62), (⟨"GlassLacesModel", "bestLace", "(III)I"⟩, 62), (⟨"GlassLacesModel", "costOf", "(IIII)I"⟩, 62)]
theorem lw_r4 : ∀ q ∈ lw_privs_4, lw_okq q := List.forall_mem_cons.mpr ⟨lw_p48, List.forall_mem_cons.mpr ⟨lw_p49, List.forall_mem_cons.mpr ⟨lw_p50, List.forall_mem_cons.mpr ⟨lw_p51, List.forall_mem_cons.mpr ⟨lw_p52, List.forall_mem_cons.mpr ⟨lw_p53, List.forall_mem_cons.mpr ⟨lw_p54, List.forall_mem_cons.mpr ⟨lw_p55, List.forall_mem_cons.mpr ⟨lw_p56, List.forall_mem_cons.mpr ⟨lw_p57, List.forall_mem_cons.mpr ⟨lw_p58, List.forall_mem_cons.mpr ⟨lw_p59, List.forall_mem_cons.mpr ⟨lw_p60, List.forall_mem_cons.mpr ⟨lw_p61, List.forall_mem_cons.mpr ⟨lw_p62, List.forall_mem_cons.mpr ⟨lw_p63, fun _ h => absurd h List.not_mem_nil⟩⟩⟩⟩⟩⟩⟩⟩⟩⟩⟩⟩⟩⟩⟩⟩
theorem lw_p64 : lw_okq (⟨"GlassLacesModel", "hasSight", "(I)Z"⟩, 62) := ⟨⟨by decide +kernel, by decide +kernel⟩, List.mem_of_getElem? (i := 1224) (by decide +kernel), List.mem_of_getElem? (i := 1800) (by decide +kernel), List.mem_of_getElem? (i := 1801) (by decide +kernel)⟩
theorem lw_p65 : lw_okq (⟨"GlassLacesModel", "seenMany", "()I"⟩, 62) := ⟨⟨by decide +kernel, by decide +kernel⟩, List.mem_of_getElem? (i := 1224) (by decide +kernel), List.mem_of_getElem? (i := 1804) (by decide +kernel), List.mem_of_getElem? (i := 1805) (by decide +kernel)⟩
theorem lw_p66 : lw_okq (⟨"GlassLacesModel", "shotMany", "()I"⟩, 62) := ⟨⟨by decide +kernel, by decide +kernel⟩, List.mem_of_getElem? (i := 1224) (by decide +kernel), List.mem_of_getElem? (i := 1808) (by decide +kernel), List.mem_of_getElem? (i := 1809) (by decide +kernel)⟩
theorem lw_p67 : lw_okq (⟨"GlassLacesModel", "seenOf", "(II)I"⟩, 62) := ⟨⟨by decide +kernel, by decide +kernel⟩, List.mem_of_getElem? (i := 1224) (by decide +kernel), List.mem_of_getElem? (i := 1812) (by decide +kernel), List.mem_of_getElem? (i := 1813) (by decide +kernel)⟩
theorem lw_p68 : lw_okq (⟨"GlassLacesModel", "shotOf", "(II)I"⟩, 62) := ⟨⟨by decide +kernel, by decide +kernel⟩, List.mem_of_getElem? (i := 1224) (by decide +kernel), List.mem_of_getElem? (i := 1816) (by decide +kernel), List.mem_of_getElem? (i := 1817) (by decide +kernel)⟩
theorem lw_p69 : lw_okq (⟨"GlassLacesModel", "laySight", "(II)Z"⟩, 62) := ⟨⟨by decide +kernel, by decide +kernel⟩, List.mem_of_getElem? (i := 1224) (by decide +kernel), List.mem_of_getElem? (i := 1824) (by decide +kernel), List.mem_of_getElem? (i := 1825) (by decide +kernel)⟩
theorem lw_p70 : lw_okq (⟨"GlassLacesModel", "fits", "(II)Z"⟩, 62) := ⟨⟨by decide +kernel, by decide +kernel⟩, List.mem_of_getElem? (i := 1224) (by decide +kernel), List.mem_of_getElem? (i := 1828) (by decide +kernel), List.mem_of_getElem? (i := 1829) (by decide +kernel)⟩
theorem lw_p71 : lw_okq (⟨"GlassLacesModel", "around", "([JIII)J"⟩, 62) := ⟨⟨by decide +kernel, by decide +kernel⟩, List.mem_of_getElem? (i := 1224) (by decide +kernel), List.mem_of_getElem? (i := 1832) (by decide +kernel), List.mem_of_getElem? (i := 1833) (by decide +kernel)⟩
theorem lw_p72 : lw_okq (⟨"GlassLacesModel", "hasLedger", "(I)Z"⟩, 62) := ⟨⟨by decide +kernel, by decide +kernel⟩, List.mem_of_getElem? (i := 1224) (by decide +kernel), List.mem_of_getElem? (i := 1848) (by decide +kernel), List.mem_of_getElem? (i := 1849) (by decide +kernel)⟩
theorem lw_p73 : lw_okq (⟨"GlassLacesModel", "pawns", "()I"⟩, 62) := ⟨⟨by decide +kernel, by decide +kernel⟩, List.mem_of_getElem? (i := 1224) (by decide +kernel), List.mem_of_getElem? (i := 1852) (by decide +kernel), List.mem_of_getElem? (i := 1853) (by decide +kernel)⟩
theorem lw_p74 : lw_okq (⟨"GlassLacesModel", "pawnOf", "(II)I"⟩, 62) := ⟨⟨by decide +kernel, by decide +kernel⟩, List.mem_of_getElem? (i := 1224) (by decide +kernel), List.mem_of_getElem? (i := 1856) (by decide +kernel), List.mem_of_getElem? (i := 1857) (by decide +kernel)⟩
theorem lw_p75 : lw_okq (⟨"GlassLacesModel", "findNets", "()V"⟩, 62) := ⟨⟨by decide +kernel, by decide +kernel⟩, List.mem_of_getElem? (i := 1224) (by decide +kernel), List.mem_of_getElem? (i := 1864) (by decide +kernel), List.mem_of_getElem? (i := 1865) (by decide +kernel)⟩
theorem lw_p76 : lw_okq (⟨"GlassLacesModel", "chained", "()I"⟩, 62) := ⟨⟨by decide +kernel, by decide +kernel⟩, List.mem_of_getElem? (i := 1224) (by decide +kernel), List.mem_of_getElem? (i := 1872) (by decide +kernel), List.mem_of_getElem? (i := 1873) (by decide +kernel)⟩
theorem lw_p77 : lw_okq (⟨"GlassLacesModel", "owedBy", "(I)I"⟩, 62) := ⟨⟨by decide +kernel, by decide +kernel⟩, List.mem_of_getElem? (i := 1224) (by decide +kernel), List.mem_of_getElem? (i := 1876) (by decide +kernel), List.mem_of_getElem? (i := 1877) (by decide +kernel)⟩
theorem lw_p78 : lw_okq (⟨"GlassLacesModel", "payments", "()I"⟩, 62) := ⟨⟨by decide +kernel, by decide +kernel⟩, List.mem_of_getElem? (i := 1224) (by decide +kernel), List.mem_of_getElem? (i := 1880) (by decide +kernel), List.mem_of_getElem? (i := 1881) (by decide +kernel)⟩
theorem lw_p79 : lw_okq (⟨"GlassLacesModel", "isOwing", "(I)Z"⟩, 62) := ⟨⟨by decide +kernel, by decide +kernel⟩, List.mem_of_getElem? (i := 1224) (by decide +kernel), List.mem_of_getElem? (i := 1884) (by decide +kernel), List.mem_of_getElem? (i := 1885) (by decide +kernel)⟩
def lw_privs_5 : List (MethodName × Nat) := [(⟨"GlassLacesModel", "hasSight", "(I)Z"⟩, 62), (⟨"GlassLacesModel", "seenMany", "()I"⟩, 62), (⟨"GlassLacesModel", "shotMany", "()I"⟩, 62), (⟨"GlassLacesModel", "seenOf", "(II)I"⟩, 62), (⟨"GlassLacesModel", "shotOf", "(II)I"⟩, 62), (⟨"GlassLacesModel", "laySight", "(II)Z"⟩, 62), (⟨"GlassLacesModel", "fits", "(II)Z"⟩, 62), (⟨"GlassLacesModel", "around", "([JIII)J"⟩, 62), (⟨"GlassLacesModel", "hasLedger", "(I)Z"⟩, 62), (⟨"GlassLacesModel", "pawns", "()I"⟩, 62), (⟨"GlassLacesModel", "pawnOf", "(II)I"⟩, 62), (⟨"GlassLacesModel", "findNets", "()V"⟩, 62), (⟨"GlassLacesModel", "chained", "()I"⟩, 62), (⟨"GlassLacesModel", "owedBy", "(I)I"⟩, 62), (⟨"GlassLacesModel", "payments", "()I"⟩, 62), (⟨"GlassLacesModel", "isOwing", "(I)Z"⟩, 62)]
theorem lw_r5 : ∀ q ∈ lw_privs_5, lw_okq q := List.forall_mem_cons.mpr ⟨lw_p64, List.forall_mem_cons.mpr ⟨lw_p65, List.forall_mem_cons.mpr ⟨lw_p66, List.forall_mem_cons.mpr ⟨lw_p67, List.forall_mem_cons.mpr ⟨lw_p68, List.forall_mem_cons.mpr ⟨lw_p69, List.forall_mem_cons.mpr ⟨lw_p70, List.forall_mem_cons.mpr ⟨lw_p71, List.forall_mem_cons.mpr ⟨lw_p72, List.forall_mem_cons.mpr ⟨lw_p73, List.forall_mem_cons.mpr ⟨lw_p74, List.forall_mem_cons.mpr ⟨lw_p75, List.forall_mem_cons.mpr ⟨lw_p76, List.forall_mem_cons.mpr ⟨lw_p77, List.forall_mem_cons.mpr ⟨lw_p78, List.forall_mem_cons.mpr ⟨lw_p79, fun _ h => absurd h List.not_mem_nil⟩⟩⟩⟩⟩⟩⟩⟩⟩⟩⟩⟩⟩⟩⟩⟩
theorem lw_p80 : lw_okq (⟨"GlassLacesModel", "hasShifts", "(I)Z"⟩, 62) := ⟨⟨by decide +kernel, by decide +kernel⟩, List.mem_of_getElem? (i := 1224) (by decide +kernel), List.mem_of_getElem? (i := 1892) (by decide +kernel), List.mem_of_getElem? (i := 1893) (by decide +kernel)⟩
theorem lw_p81 : lw_okq (⟨"GlassLacesModel", "maids", "()I"⟩, 62) := ⟨⟨by decide +kernel, by decide +kernel⟩, List.mem_of_getElem? (i := 1224) (by decide +kernel), List.mem_of_getElem? (i := 1896) (by decide +kernel), List.mem_of_getElem? (i := 1897) (by decide +kernel)⟩
theorem lw_p82 : lw_okq (⟨"GlassLacesModel", "maidOf", "(II)I"⟩, 62) := ⟨⟨by decide +kernel, by decide +kernel⟩, List.mem_of_getElem? (i := 1224) (by decide +kernel), List.mem_of_getElem? (i := 1900) (by decide +kernel), List.mem_of_getElem? (i := 1901) (by decide +kernel)⟩
theorem lw_p83 : lw_okq (⟨"GlassLacesModel", "gapOf", "(IIII)I"⟩, 62) := ⟨⟨by decide +kernel, by decide +kernel⟩, List.mem_of_getElem? (i := 1224) (by decide +kernel), List.mem_of_getElem? (i := 1908) (by decide +kernel), List.mem_of_getElem? (i := 1909) (by decide +kernel)⟩
theorem lw_p84 : lw_okq (⟨"GlassLacesModel", "thereAt", "(II)I"⟩, 62) := ⟨⟨by decide +kernel, by decide +kernel⟩, List.mem_of_getElem? (i := 1224) (by decide +kernel), List.mem_of_getElem? (i := 1912) (by decide +kernel), List.mem_of_getElem? (i := 1913) (by decide +kernel)⟩
theorem lw_p85 : lw_okq (⟨"GlassLacesModel", "draw", "(I)I"⟩, 62) := ⟨⟨by decide +kernel, by decide +kernel⟩, List.mem_of_getElem? (i := 1224) (by decide +kernel), List.mem_of_getElem? (i := 1927) (by decide +kernel), List.mem_of_getElem? (i := 1928) (by decide +kernel)⟩
theorem lw_p86 : lw_okq (⟨"GlassLacesModel", "calmOf", "(II)I"⟩, 62) := ⟨⟨by decide +kernel, by decide +kernel⟩, List.mem_of_getElem? (i := 1224) (by decide +kernel), List.mem_of_getElem? (i := 1940) (by decide +kernel), List.mem_of_getElem? (i := 1941) (by decide +kernel)⟩
theorem lw_p87 : lw_okq (⟨"GlassLacesModel", "copyAll", "(II)V"⟩, 62) := ⟨⟨by decide +kernel, by decide +kernel⟩, List.mem_of_getElem? (i := 1224) (by decide +kernel), List.mem_of_getElem? (i := 1952) (by decide +kernel), List.mem_of_getElem? (i := 1953) (by decide +kernel)⟩
def lw_privs_6 : List (MethodName × Nat) := [(⟨"GlassLacesModel", "hasShifts", "(I)Z"⟩, 62), (⟨"GlassLacesModel", "maids", "()I"⟩, 62), (⟨"GlassLacesModel", "maidOf", "(II)I"⟩, 62), (⟨"GlassLacesModel", "gapOf", "(IIII)I"⟩, 62), (⟨"GlassLacesModel", "thereAt", "(II)I"⟩, 62), (⟨"GlassLacesModel", "draw", "(I)I"⟩, 62), (⟨"GlassLacesModel", "calmOf", "(II)I"⟩, 62), (⟨"GlassLacesModel", "copyAll", "(II)V"⟩, 62)]
theorem lw_r6 : ∀ q ∈ lw_privs_6, lw_okq q := List.forall_mem_cons.mpr ⟨lw_p80, List.forall_mem_cons.mpr ⟨lw_p81, List.forall_mem_cons.mpr ⟨lw_p82, List.forall_mem_cons.mpr ⟨lw_p83, List.forall_mem_cons.mpr ⟨lw_p84, List.forall_mem_cons.mpr ⟨lw_p85, List.forall_mem_cons.mpr ⟨lw_p86, List.forall_mem_cons.mpr ⟨lw_p87, fun _ h => absurd h List.not_mem_nil⟩⟩⟩⟩⟩⟩⟩⟩
def lw_privs : List (MethodName × Nat) := lw_privs_1 ++ (lw_privs_2 ++ (lw_privs_3 ++ (lw_privs_4 ++ (lw_privs_5 ++ (lw_privs_6)))))
def lw_tbl : List Cond := k2_sels lw_privs ++ tables_1
theorem lw_privs_ok : ∀ q ∈ lw_privs, lw_okq q := by
  show ∀ q ∈ lw_privs_1 ++ (lw_privs_2 ++ (lw_privs_3 ++ (lw_privs_4 ++ (lw_privs_5 ++ (lw_privs_6))))), lw_okq q
  exact List.forall_mem_append.mpr ⟨lw_r1, List.forall_mem_append.mpr ⟨lw_r2, List.forall_mem_append.mpr ⟨lw_r3, List.forall_mem_append.mpr ⟨lw_r4, List.forall_mem_append.mpr ⟨lw_r5, lw_r6⟩⟩⟩⟩⟩
def RX0 : String := "GlassLaces$Court"
def TX0 : u_T := fun k => match k with
  | 0 => ("GlassLaces$Court", "rooms", "LGlassLaces$Rows;", true)
  | 1 => ("GlassLaces$Court", "ladies", "LGlassLaces$Rows;", true)
  | 2 => ("GlassLaces$Court", "steps", "LGlassLaces$Rows;", true)
  | 3 => ("GlassLaces$Court", "wind", "[I", true)
  | 4 => ("GlassLaces$Court", "slack", "I", false)
  | 5 => ("GlassLaces$Court", "rest", "I", false)
  | _ => ("GlassLaces$Court", "glass", "I", false)
def tyX0 : Nat → FieldType := fun k => match k with
  | 0 => .object "GlassLaces$Rows"
  | 1 => .object "GlassLaces$Rows"
  | 2 => .object "GlassLaces$Rows"
  | 3 => .array .int
  | 4 => .int
  | 5 => .int
  | _ => .int
abbrev wsX00 : List Cond := u_ws RX0 TX0 7
theorem nmX0 : ∀ a, a < 7 → ∀ b, b < 7 → a ≠ b → (TX0 a).2.1 ≠ (TX0 b).2.1 := by decide +kernel
theorem tyX0_ok : ∀ k, k < 7 → parseFieldDescriptor (TX0 k).2.2.1 = some (tyX0 k) := by decide +kernel
abbrev cX0_init : ByteArray := prog_2_method_1_code
def yX0_init : MethodName := ⟨RX0, "<init>", "()V"⟩
abbrev cX0_clear : ByteArray := prog_2_method_2_code
def yX0_clear : MethodName := ⟨RX0, "clear", "()V"⟩
abbrev cX0_copyFrom : ByteArray := prog_2_method_3_code
def yX0_copyFrom : MethodName := ⟨RX0, "copyFrom", "(LGlassLaces$Court;)V"⟩
abbrev cX0_tell : ByteArray := prog_2_method_4_code
def yX0_tell : MethodName := ⟨RX0, "tell", "(I)I"⟩
abbrev cX0_tellWhole : ByteArray := prog_2_method_5_code
def yX0_tellWhole : MethodName := ⟨RX0, "tellWhole", "(I)I"⟩
abbrev cX0_roomsOfAllAreThere : ByteArray := prog_2_method_6_code
def yX0_roomsOfAllAreThere : MethodName := ⟨RX0, "roomsOfAllAreThere", "()Z"⟩
abbrev cX0_allWeights : ByteArray := prog_2_method_7_code
def yX0_allWeights : MethodName := ⟨RX0, "allWeights", "()I"⟩
abbrev cX0_markAfter : ByteArray := prog_2_method_8_code
def yX0_markAfter : MethodName := ⟨RX0, "markAfter", "(II)I"⟩
abbrev cX0_properAt : ByteArray := prog_2_method_9_code
def yX0_properAt : MethodName := ⟨RX0, "properAt", "(I)I"⟩
abbrev cX0_isNear : ByteArray := prog_2_method_10_code
def yX0_isNear : MethodName := ⟨RX0, "isNear", "(II)Z"⟩
abbrev cX0_fate : ByteArray := prog_2_method_11_code
def yX0_fate : MethodName := ⟨RX0, "fate", "(III)I"⟩
abbrev cX0_stands : ByteArray := prog_2_method_12_code
def yX0_stands : MethodName := ⟨RX0, "stands", "(III)Z"⟩
abbrev cX0_pressureOf : ByteArray := prog_2_method_13_code
def yX0_pressureOf : MethodName := ⟨RX0, "pressureOf", "(II)I"⟩
abbrev cX0_standsAt : ByteArray := prog_2_method_14_code
def yX0_standsAt : MethodName := ⟨RX0, "standsAt", "(III)Z"⟩
abbrev cX0_highestStand : ByteArray := prog_2_method_15_code
def yX0_highestStand : MethodName := ⟨RX0, "highestStand", "(II)I"⟩
abbrev cX0_roomsToStand : ByteArray := prog_2_method_16_code
def yX0_roomsToStand : MethodName := ⟨RX0, "roomsToStand", "(II)I"⟩
abbrev cX0_freeLaces : ByteArray := prog_2_method_17_code
def yX0_freeLaces : MethodName := ⟨RX0, "freeLaces", "(II)I"⟩
abbrev cX0_leastFree : ByteArray := prog_2_method_18_code
def yX0_leastFree : MethodName := ⟨RX0, "leastFree", "(II)I"⟩
abbrev cX0_mostFree : ByteArray := prog_2_method_19_code
def yX0_mostFree : MethodName := ⟨RX0, "mostFree", "(II)I"⟩
abbrev cX0_calmRow : ByteArray := prog_2_method_20_code
def yX0_calmRow : MethodName := ⟨RX0, "calmRow", "(II)I"⟩
abbrev cX0_calmestLace : ByteArray := prog_2_method_21_code
def yX0_calmestLace : MethodName := ⟨RX0, "calmestLace", "(I)I"⟩
def RX1 : String := "GlassLaces$Debts"
def TX1 : u_T := fun k => match k with
  | 0 => ("GlassLaces$Debts", "sums", "[I", true)
  | _ => ("GlassLaces$Debts", "groups", "[I", true)
def tyX1 : Nat → FieldType := fun k => match k with
  | 0 => .array .int
  | _ => .array .int
abbrev wsX10 : List Cond := u_ws RX1 TX1 2
theorem nmX1 : ∀ a, a < 2 → ∀ b, b < 2 → a ≠ b → (TX1 a).2.1 ≠ (TX1 b).2.1 := by decide +kernel
theorem tyX1_ok : ∀ k, k < 2 → parseFieldDescriptor (TX1 k).2.2.1 = some (tyX1 k) := by decide +kernel
abbrev cX1_init : ByteArray := prog_3_method_1_code
def yX1_init : MethodName := ⟨RX1, "<init>", "()V"⟩
abbrev cX1_netOf : ByteArray := prog_3_method_2_code
def yX1_netOf : MethodName := ⟨RX1, "netOf", "(LGlassLaces$Rows;I)I"⟩
abbrev cX1_fewestPayments : ByteArray := prog_3_method_3_code
def yX1_fewestPayments : MethodName := ⟨RX1, "fewestPayments", "(LGlassLaces$Rows;)I"⟩
abbrev cX1_mostGroupsWithoutOne : ByteArray := prog_3_method_4_code
def yX1_mostGroupsWithoutOne : MethodName := ⟨RX1, "mostGroupsWithoutOne", "(I)I"⟩
abbrev cX1_chainOf : ByteArray := prog_3_method_5_code
def yX1_chainOf : MethodName := ⟨RX1, "chainOf", "(LGlassLaces$Rows;)I"⟩
abbrev cX1_deepestInDebt : ByteArray := prog_3_method_6_code
def yX1_deepestInDebt : MethodName := ⟨RX1, "deepestInDebt", "(LGlassLaces$Rows;)I"⟩
def RX2 : String := "GlassLaces$Hall"
def TX2 : u_T := fun k => match k with
  | 0 => ("GlassLaces$Hall", "air", "[I", true)
  | 1 => ("GlassLaces$Hall", "isShut", "[Z", true)
  | 2 => ("GlassLaces$Hall", "room", "[I", true)
  | 3 => ("GlassLaces$Hall", "lace", "[I", true)
  | 4 => ("GlassLaces$Hall", "restLeft", "[I", true)
  | 5 => ("GlassLaces$Hall", "isBurst", "[Z", true)
  | 6 => ("GlassLaces$Hall", "fainted", "[I", true)
  | 7 => ("GlassLaces$Hall", "fallMinute", "[I", true)
  | 8 => ("GlassLaces$Hall", "court", "LGlassLaces$Court;", false)
  | 9 => ("GlassLaces$Hall", "done", "I", false)
  | 10 => ("GlassLaces$Hall", "glass", "I", false)
  | 11 => ("GlassLaces$Hall", "minutes", "I", false)
  | 12 => ("GlassLaces$Hall", "knots", "I", false)
  | 13 => ("GlassLaces$Hall", "tales", "I", false)
  | 14 => ("GlassLaces$Hall", "toasts", "I", false)
  | _ => ("GlassLaces$Hall", "toasted", "I", false)
def tyX2 : Nat → FieldType := fun k => match k with
  | 0 => .array .int
  | 1 => .array .boolean
  | 2 => .array .int
  | 3 => .array .int
  | 4 => .array .int
  | 5 => .array .boolean
  | 6 => .array .int
  | 7 => .array .int
  | 8 => .object "GlassLaces$Court"
  | 9 => .int
  | 10 => .int
  | 11 => .int
  | 12 => .int
  | 13 => .int
  | 14 => .int
  | _ => .int
abbrev wsX20 : List Cond := u_ws RX2 TX2 16
theorem nmX2 : ∀ a, a < 16 → ∀ b, b < 16 → a ≠ b → (TX2 a).2.1 ≠ (TX2 b).2.1 := by decide +kernel
theorem tyX2_ok : ∀ k, k < 16 → parseFieldDescriptor (TX2 k).2.2.1 = some (tyX2 k) := by decide +kernel
abbrev cX2_init : ByteArray := prog_4_method_1_code
def yX2_init : MethodName := ⟨RX2, "<init>", "()V"⟩
abbrev cX2_begin : ByteArray := prog_4_method_2_code
def yX2_begin : MethodName := ⟨RX2, "begin", "(LGlassLaces$Court;)V"⟩
abbrev cX2_play : ByteArray := prog_4_method_3_code
def yX2_play : MethodName := ⟨RX2, "play", "(LGlassLaces$Court;LGlassLaces$Rows;I)Z"⟩
abbrev cX2_doDeed : ByteArray := prog_4_method_4_code
def yX2_doDeed : MethodName := ⟨RX2, "doDeed", "(III)Z"⟩
abbrev cX2_hasLady : ByteArray := prog_4_method_5_code
def yX2_hasLady : MethodName := ⟨RX2, "hasLady", "(I)Z"⟩
abbrev cX2_hasRoom : ByteArray := prog_4_method_6_code
def yX2_hasRoom : MethodName := ⟨RX2, "hasRoom", "(I)Z"⟩
abbrev cX2_turnDoor : ByteArray := prog_4_method_7_code
def yX2_turnDoor : MethodName := ⟨RX2, "turnDoor", "(IZ)Z"⟩
abbrev cX2_sighs : ByteArray := prog_4_method_8_code
def yX2_sighs : MethodName := ⟨RX2, "sighs", "(I)Z"⟩
abbrev cX2_knot : ByteArray := prog_4_method_9_code
def yX2_knot : MethodName := ⟨RX2, "knot", "(II)Z"⟩
abbrev cX2_goTo : ByteArray := prog_4_method_10_code
def yX2_goTo : MethodName := ⟨RX2, "goTo", "(II)Z"⟩
abbrev cX2_passMinute : ByteArray := prog_4_method_11_code
def yX2_passMinute : MethodName := ⟨RX2, "passMinute", "()V"⟩
abbrev cX2_meetFate : ByteArray := prog_4_method_12_code
def yX2_meetFate : MethodName := ⟨RX2, "meetFate", "(I)V"⟩
abbrev cX2_tellersIn : ByteArray := prog_4_method_13_code
def yX2_tellersIn : MethodName := ⟨RX2, "tellersIn", "(I)I"⟩
abbrev cX2_pressureIn : ByteArray := prog_4_method_14_code
def yX2_pressureIn : MethodName := ⟨RX2, "pressureIn", "(I)I"⟩
abbrev cX2_isUp : ByteArray := prog_4_method_15_code
def yX2_isUp : MethodName := ⟨RX2, "isUp", "(I)Z"⟩
abbrev cX2_isOne : ByteArray := prog_4_method_16_code
def yX2_isOne : MethodName := ⟨RX2, "isOne", "(II)Z"⟩
abbrev cX2_ladiesWho : ByteArray := prog_4_method_17_code
def yX2_ladiesWho : MethodName := ⟨RX2, "ladiesWho", "(I)I"⟩
abbrev cX2_improper : ByteArray := prog_4_method_18_code
def yX2_improper : MethodName := ⟨RX2, "improper", "()I"⟩
abbrev cX2_openRooms : ByteArray := prog_4_method_19_code
def yX2_openRooms : MethodName := ⟨RX2, "openRooms", "()I"⟩
abbrev cX2_tell : ByteArray := prog_4_method_20_code
def yX2_tell : MethodName := ⟨RX2, "tell", "(I)I"⟩
abbrev cX2_tellOf : ByteArray := prog_4_method_21_code
def yX2_tellOf : MethodName := ⟨RX2, "tellOf", "(II)I"⟩
abbrev cX2_tellWeather : ByteArray := prog_4_method_22_code
def yX2_tellWeather : MethodName := ⟨RX2, "tellWeather", "(LGlassLaces$Court;III)I"⟩
abbrev cX2_gustOf : ByteArray := prog_4_method_23_code
def yX2_gustOf : MethodName := ⟨RX2, "gustOf", "(I)I"⟩
def RX3 : String := "GlassLaces$Lacing"
def TX3 : u_T := fun k => match k with
  | 0 => ("GlassLaces$Lacing", "need", "[[I", true)
  | 1 => ("GlassLaces$Lacing", "isFit", "[Z", true)
  | 2 => ("GlassLaces$Lacing", "knots", "[I", true)
  | _ => ("GlassLaces$Lacing", "firstLace", "I", false)
def tyX3 : Nat → FieldType := fun k => match k with
  | 0 => .array (.array .int)
  | 1 => .array .boolean
  | 2 => .array .int
  | _ => .int
abbrev wsX30 : List Cond := u_ws RX3 TX3 4
theorem nmX3 : ∀ a, a < 4 → ∀ b, b < 4 → a ≠ b → (TX3 a).2.1 ≠ (TX3 b).2.1 := by decide +kernel
theorem tyX3_ok : ∀ k, k < 4 → parseFieldDescriptor (TX3 k).2.2.1 = some (tyX3 k) := by decide +kernel
abbrev cX3_init : ByteArray := prog_5_method_1_code
def yX3_init : MethodName := ⟨RX3, "<init>", "()V"⟩
abbrev cX3_fewest : ByteArray := prog_5_method_2_code
def yX3_fewest : MethodName := ⟨RX3, "fewest", "(LGlassLaces$Court;LGlassLaces$Rows;IZ)I"⟩
abbrev cX3_spreadKnots : ByteArray := prog_5_method_3_code
def yX3_spreadKnots : MethodName := ⟨RX3, "spreadKnots", "(I)V"⟩
abbrev cX3_laceAt : ByteArray := prog_5_method_4_code
def yX3_laceAt : MethodName := ⟨RX3, "laceAt", "(I)I"⟩
abbrev cX3_leastNextLace : ByteArray := prog_5_method_5_code
def yX3_leastNextLace : MethodName := ⟨RX3, "leastNextLace", "(II)I"⟩
abbrev cX3_leastOf : ByteArray := prog_5_method_6_code
def yX3_leastOf : MethodName := ⟨RX3, "leastOf", "(LGlassLaces$Court;LGlassLaces$Rows;IZ)I"⟩
abbrev cX3_knotsOf : ByteArray := prog_5_method_7_code
def yX3_knotsOf : MethodName := ⟨RX3, "knotsOf", "(I)I"⟩
def RX4 : String := "GlassLaces$Odds"
def TX4 : u_T := fun k => match k with
  | 0 => ("GlassLaces$Odds", "now", "[J", true)
  | 1 => ("GlassLaces$Odds", "next", "[J", true)
  | 2 => ("GlassLaces$Odds", "top", "J", false)
  | _ => ("GlassLaces$Odds", "bottom", "J", false)
def tyX4 : Nat → FieldType := fun k => match k with
  | 0 => .array .long
  | 1 => .array .long
  | 2 => .long
  | _ => .long
abbrev wsX40 : List Cond := u_ws RX4 TX4 4
theorem nmX4 : ∀ a, a < 4 → ∀ b, b < 4 → a ≠ b → (TX4 a).2.1 ≠ (TX4 b).2.1 := by decide +kernel
theorem tyX4_ok : ∀ k, k < 4 → parseFieldDescriptor (TX4 k).2.2.1 = some (tyX4 k) := by decide +kernel
abbrev cX4_init : ByteArray := prog_6_method_1_code
def yX4_init : MethodName := ⟨RX4, "<init>", "()V"⟩
abbrev cX4_begin : ByteArray := prog_6_method_2_code
def yX4_begin : MethodName := ⟨RX4, "begin", "(LGlassLaces$Court;)V"⟩
abbrev cX4_blow : ByteArray := prog_6_method_3_code
def yX4_blow : MethodName := ⟨RX4, "blow", "(LGlassLaces$Court;)V"⟩
abbrev cX4_thenAt : ByteArray := prog_6_method_4_code
def yX4_thenAt : MethodName := ⟨RX4, "thenAt", "(LGlassLaces$Court;II)V"⟩
abbrev cX4_everAt : ByteArray := prog_6_method_5_code
def yX4_everAt : MethodName := ⟨RX4, "everAt", "(LGlassLaces$Court;II)V"⟩
abbrev cX4_everFallen : ByteArray := prog_6_method_6_code
def yX4_everFallen : MethodName := ⟨RX4, "everFallen", "(LGlassLaces$Court;II)V"⟩
abbrev cX4_strike : ByteArray := prog_6_method_7_code
def yX4_strike : MethodName := ⟨RX4, "strike", "(I)V"⟩
abbrev cX4_setOddsOfStruck : ByteArray := prog_6_method_8_code
def yX4_setOddsOfStruck : MethodName := ⟨RX4, "setOddsOfStruck", "(J)V"⟩
abbrev cX4_worthOf : ByteArray := prog_6_method_9_code
def yX4_worthOf : MethodName := ⟨RX4, "worthOf", "(LGlassLaces$Court;II)I"⟩
abbrev cX4_costUnknown : ByteArray := prog_6_method_10_code
def yX4_costUnknown : MethodName := ⟨RX4, "costUnknown", "(LGlassLaces$Court;III)I"⟩
abbrev cX4_leastCostAfter : ByteArray := prog_6_method_11_code
def yX4_leastCostAfter : MethodName := ⟨RX4, "leastCostAfter", "(LGlassLaces$Court;III)I"⟩
abbrev cX4_costAfter : ByteArray := prog_6_method_12_code
def yX4_costAfter : MethodName := ⟨RX4, "costAfter", "(LGlassLaces$Court;IIII)I"⟩
abbrev cX4_setOdds : ByteArray := prog_6_method_13_code
def yX4_setOdds : MethodName := ⟨RX4, "setOdds", "(JJ)V"⟩
abbrev cX4_commonDivisor : ByteArray := prog_6_method_14_code
def yX4_commonDivisor : MethodName := ⟨RX4, "commonDivisor", "(JJ)J"⟩
abbrev cX4_power : ByteArray := prog_6_method_15_code
def yX4_power : MethodName := ⟨RX4, "power", "(JI)J"⟩
def RX5 : String := "GlassLaces$Reader"
def TX5 : u_T := fun k => match k with
  | 0 => ("GlassLaces$Reader", "tape", "[B", true)
  | 1 => ("GlassLaces$Reader", "court", "LGlassLaces$Court;", true)
  | 2 => ("GlassLaces$Reader", "sight", "LGlassLaces$Sight;", true)
  | 3 => ("GlassLaces$Reader", "ball", "LGlassLaces$Rows;", true)
  | 4 => ("GlassLaces$Reader", "forecast", "LGlassLaces$Rows;", true)
  | 5 => ("GlassLaces$Reader", "ledger", "LGlassLaces$Rows;", true)
  | 6 => ("GlassLaces$Reader", "shifts", "LGlassLaces$Rows;", true)
  | 7 => ("GlassLaces$Reader", "length", "I", false)
  | 8 => ("GlassLaces$Reader", "token", "I", false)
  | 9 => ("GlassLaces$Reader", "tokenStart", "I", false)
  | 10 => ("GlassLaces$Reader", "tokenEnd", "I", false)
  | 11 => ("GlassLaces$Reader", "fault", "I", false)
  | _ => ("GlassLaces$Reader", "place", "I", false)
def tyX5 : Nat → FieldType := fun k => match k with
  | 0 => .array .byte
  | 1 => .object "GlassLaces$Court"
  | 2 => .object "GlassLaces$Sight"
  | 3 => .object "GlassLaces$Rows"
  | 4 => .object "GlassLaces$Rows"
  | 5 => .object "GlassLaces$Rows"
  | 6 => .object "GlassLaces$Rows"
  | 7 => .int
  | 8 => .int
  | 9 => .int
  | 10 => .int
  | 11 => .int
  | _ => .int
abbrev wsX50 : List Cond := u_ws RX5 TX5 13
theorem nmX5 : ∀ a, a < 13 → ∀ b, b < 13 → a ≠ b → (TX5 a).2.1 ≠ (TX5 b).2.1 := by decide +kernel
theorem tyX5_ok : ∀ k, k < 13 → parseFieldDescriptor (TX5 k).2.2.1 = some (tyX5 k) := by decide +kernel
abbrev cX5_init : ByteArray := prog_7_method_1_code
def yX5_init : MethodName := ⟨RX5, "<init>", "()V"⟩
abbrev cX5_readAll : ByteArray := prog_7_method_2_code
def yX5_readAll : MethodName := ⟨RX5, "readAll", "(ILGlassLaces$Told;)V"⟩
abbrev cX5_begin : ByteArray := prog_7_method_3_code
def yX5_begin : MethodName := ⟨RX5, "begin", "(LGlassLaces$Told;)V"⟩
abbrev cX5_rowsOf : ByteArray := prog_7_method_4_code
def yX5_rowsOf : MethodName := ⟨RX5, "rowsOf", "(I)LGlassLaces$Rows;"⟩
abbrev cX5_readCourtLine : ByteArray := prog_7_method_5_code
def yX5_readCourtLine : MethodName := ⟨RX5, "readCourtLine", "()V"⟩
abbrev cX5_readProper : ByteArray := prog_7_method_6_code
def yX5_readProper : MethodName := ⟨RX5, "readProper", "()V"⟩
abbrev cX5_readCourtSetting : ByteArray := prog_7_method_7_code
def yX5_readCourtSetting : MethodName := ⟨RX5, "readCourtSetting", "()V"⟩
abbrev cX5_readBallLine : ByteArray := prog_7_method_8_code
def yX5_readBallLine : MethodName := ⟨RX5, "readBallLine", "()V"⟩
abbrev cX5_deedOfWord : ByteArray := prog_7_method_9_code
def yX5_deedOfWord : MethodName := ⟨RX5, "deedOfWord", "()I"⟩
abbrev cX5_readForecastLine : ByteArray := prog_7_method_10_code
def yX5_readForecastLine : MethodName := ⟨RX5, "readForecastLine", "()V"⟩
abbrev cX5_readMark : ByteArray := prog_7_method_11_code
def yX5_readMark : MethodName := ⟨RX5, "readMark", "()V"⟩
abbrev cX5_readSightLine : ByteArray := prog_7_method_12_code
def yX5_readSightLine : MethodName := ⟨RX5, "readSightLine", "()V"⟩
abbrev cX5_readLedgerLine : ByteArray := prog_7_method_13_code
def yX5_readLedgerLine : MethodName := ⟨RX5, "readLedgerLine", "()V"⟩
abbrev cX5_readShiftsLine : ByteArray := prog_7_method_14_code
def yX5_readShiftsLine : MethodName := ⟨RX5, "readShiftsLine", "()V"⟩
abbrev cX5_closeLine : ByteArray := prog_7_method_15_code
def yX5_closeLine : MethodName := ⟨RX5, "closeLine", "()V"⟩
abbrev cX5_openLine : ByteArray := prog_7_method_16_code
def yX5_openLine : MethodName := ⟨RX5, "openLine", "(LGlassLaces$Rows;)V"⟩
abbrev cX5_addRowAt : ByteArray := prog_7_method_17_code
def yX5_addRowAt : MethodName := ⟨RX5, "addRowAt", "(LGlassLaces$Rows;I)V"⟩
abbrev cX5_takeNumber : ByteArray := prog_7_method_18_code
def yX5_takeNumber : MethodName := ⟨RX5, "takeNumber", "(II)I"⟩
abbrev cX5_isBroken : ByteArray := prog_7_method_19_code
def yX5_isBroken : MethodName := ⟨RX5, "isBroken", "()Z"⟩
abbrev cX5_breakHere : ByteArray := prog_7_method_20_code
def yX5_breakHere : MethodName := ⟨RX5, "breakHere", "()V"⟩
abbrev cX5_noteFault : ByteArray := prog_7_method_21_code
def yX5_noteFault : MethodName := ⟨RX5, "noteFault", "(II)V"⟩
abbrev cX5_nextToken : ByteArray := prog_7_method_22_code
def yX5_nextToken : MethodName := ⟨RX5, "nextToken", "()V"⟩
abbrev cX5_byteAt : ByteArray := prog_7_method_23_code
def yX5_byteAt : MethodName := ⟨RX5, "byteAt", "(I)I"⟩
abbrev cX5_tokenValue : ByteArray := prog_7_method_24_code
def yX5_tokenValue : MethodName := ⟨RX5, "tokenValue", "()I"⟩
abbrev cX5_isWord : ByteArray := prog_7_method_25_code
def yX5_isWord : MethodName := ⟨RX5, "isWord", "(Ljava/lang/String;)Z"⟩
abbrev cX5_isBlank : ByteArray := prog_7_method_26_code
def yX5_isBlank : MethodName := ⟨RX5, "isBlank", "(I)Z"⟩
abbrev cX5_isLetter : ByteArray := prog_7_method_27_code
def yX5_isLetter : MethodName := ⟨RX5, "isLetter", "(I)Z"⟩
abbrev cX5_isDigit : ByteArray := prog_7_method_28_code
def yX5_isDigit : MethodName := ⟨RX5, "isDigit", "(I)Z"⟩
def RX6 : String := "GlassLaces$Rota"
def TX6 : u_T := fun k => match k with
  | _ => ("GlassLaces$Rota", "there", "[I", true)
def tyX6 : Nat → FieldType := fun k => match k with
  | _ => .array .int
abbrev wsX60 : List Cond := u_ws RX6 TX6 1
theorem nmX6 : ∀ a, a < 1 → ∀ b, b < 1 → a ≠ b → (TX6 a).2.1 ≠ (TX6 b).2.1 := by decide +kernel
theorem tyX6_ok : ∀ k, k < 1 → parseFieldDescriptor (TX6 k).2.2.1 = some (tyX6 k) := by decide +kernel
abbrev cX6_init : ByteArray := prog_8_method_1_code
def yX6_init : MethodName := ⟨RX6, "<init>", "()V"⟩
abbrev cX6_begin : ByteArray := prog_8_method_2_code
def yX6_begin : MethodName := ⟨RX6, "begin", "(LGlassLaces$Rows;)V"⟩
abbrev cX6_firstGapOf : ByteArray := prog_8_method_3_code
def yX6_firstGapOf : MethodName := ⟨RX6, "firstGapOf", "(IIII)I"⟩
abbrev cX6_firstGap : ByteArray := prog_8_method_4_code
def yX6_firstGap : MethodName := ⟨RX6, "firstGap", "(III)I"⟩
abbrev cX6_fewestMaids : ByteArray := prog_8_method_5_code
def yX6_fewestMaids : MethodName := ⟨RX6, "fewestMaids", "(IIII)I"⟩
abbrev cX6_longestRow : ByteArray := prog_8_method_6_code
def yX6_longestRow : MethodName := ⟨RX6, "longestRow", "(I)I"⟩
def RX7 : String := "GlassLaces$Rows"
def TX7 : u_T := fun k => match k with
  | 0 => ("GlassLaces$Rows", "max", "I", true)
  | 1 => ("GlassLaces$Rows", "width", "I", true)
  | 2 => ("GlassLaces$Rows", "cells", "[I", true)
  | _ => ("GlassLaces$Rows", "rows", "I", false)
def tyX7 : Nat → FieldType := fun k => match k with
  | 0 => .int
  | 1 => .int
  | 2 => .array .int
  | _ => .int
abbrev wsX70 : List Cond := u_ws RX7 TX7 4
theorem nmX7 : ∀ a, a < 4 → ∀ b, b < 4 → a ≠ b → (TX7 a).2.1 ≠ (TX7 b).2.1 := by decide +kernel
theorem tyX7_ok : ∀ k, k < 4 → parseFieldDescriptor (TX7 k).2.2.1 = some (tyX7 k) := by decide +kernel
abbrev cX7_init : ByteArray := prog_9_method_1_code
def yX7_init : MethodName := ⟨RX7, "<init>", "(II)V"⟩
abbrev cX7_clear : ByteArray := prog_9_method_2_code
def yX7_clear : MethodName := ⟨RX7, "clear", "()V"⟩
abbrev cX7_has : ByteArray := prog_9_method_3_code
def yX7_has : MethodName := ⟨RX7, "has", "(I)Z"⟩
abbrev cX7_cell : ByteArray := prog_9_method_4_code
def yX7_cell : MethodName := ⟨RX7, "cell", "(II)I"⟩
abbrev cX7_addRow : ByteArray := prog_9_method_5_code
def yX7_addRow : MethodName := ⟨RX7, "addRow", "()V"⟩
abbrev cX7_setLast : ByteArray := prog_9_method_6_code
def yX7_setLast : MethodName := ⟨RX7, "setLast", "(II)V"⟩
abbrev cX7_hasInColumn : ByteArray := prog_9_method_7_code
def yX7_hasInColumn : MethodName := ⟨RX7, "hasInColumn", "(II)Z"⟩
abbrev cX7_copyFrom : ByteArray := prog_9_method_8_code
def yX7_copyFrom : MethodName := ⟨RX7, "copyFrom", "(LGlassLaces$Rows;)V"⟩
def RX8 : String := "GlassLaces$Sight"
def TX8 : u_T := fun k => match k with
  | 0 => ("GlassLaces$Sight", "seen", "LGlassLaces$Rows;", true)
  | _ => ("GlassLaces$Sight", "shots", "LGlassLaces$Rows;", true)
def tyX8 : Nat → FieldType := fun k => match k with
  | 0 => .object "GlassLaces$Rows"
  | _ => .object "GlassLaces$Rows"
abbrev wsX80 : List Cond := u_ws RX8 TX8 2
theorem nmX8 : ∀ a, a < 2 → ∀ b, b < 2 → a ≠ b → (TX8 a).2.1 ≠ (TX8 b).2.1 := by decide +kernel
theorem tyX8_ok : ∀ k, k < 2 → parseFieldDescriptor (TX8 k).2.2.1 = some (tyX8 k) := by decide +kernel
abbrev cX8_init : ByteArray := prog_10_method_1_code
def yX8_init : MethodName := ⟨RX8, "<init>", "()V"⟩
abbrev cX8_clear : ByteArray := prog_10_method_2_code
def yX8_clear : MethodName := ⟨RX8, "clear", "()V"⟩
abbrev cX8_copyFrom : ByteArray := prog_10_method_3_code
def yX8_copyFrom : MethodName := ⟨RX8, "copyFrom", "(LGlassLaces$Sight;)V"⟩
abbrev cX8_tell : ByteArray := prog_10_method_4_code
def yX8_tell : MethodName := ⟨RX8, "tell", "(I)I"⟩
abbrev cX8_lastMinute : ByteArray := prog_10_method_5_code
def yX8_lastMinute : MethodName := ⟨RX8, "lastMinute", "()I"⟩
abbrev cX8_seenAreIn : ByteArray := prog_10_method_6_code
def yX8_seenAreIn : MethodName := ⟨RX8, "seenAreIn", "(LGlassLaces$Court;)Z"⟩
abbrev cX8_seenAgree : ByteArray := prog_10_method_7_code
def yX8_seenAgree : MethodName := ⟨RX8, "seenAgree", "(LGlassLaces$Court;II)Z"⟩
abbrev cX8_shotsAgree : ByteArray := prog_10_method_8_code
def yX8_shotsAgree : MethodName := ⟨RX8, "shotsAgree", "(LGlassLaces$Court;II)Z"⟩
def RX9 : String := "GlassLaces$Told"
def TX9 : u_T := fun k => match k with
  | 0 => ("GlassLaces$Told", "tape", "[B", true)
  | 1 => ("GlassLaces$Told", "counts", "[I", true)
  | 2 => ("GlassLaces$Told", "courts", "[LGlassLaces$Court;", true)
  | 3 => ("GlassLaces$Told", "sights", "[LGlassLaces$Sight;", true)
  | 4 => ("GlassLaces$Told", "balls", "[LGlassLaces$Rows;", true)
  | 5 => ("GlassLaces$Told", "forecasts", "[LGlassLaces$Rows;", true)
  | 6 => ("GlassLaces$Told", "ledgers", "[LGlassLaces$Rows;", true)
  | 7 => ("GlassLaces$Told", "shifts", "[LGlassLaces$Rows;", true)
  | 8 => ("GlassLaces$Told", "length", "I", false)
  | 9 => ("GlassLaces$Told", "fault", "I", false)
  | _ => ("GlassLaces$Told", "place", "I", false)
def tyX9 : Nat → FieldType := fun k => match k with
  | 0 => .array .byte
  | 1 => .array .int
  | 2 => .array (.object "GlassLaces$Court")
  | 3 => .array (.object "GlassLaces$Sight")
  | 4 => .array (.object "GlassLaces$Rows")
  | 5 => .array (.object "GlassLaces$Rows")
  | 6 => .array (.object "GlassLaces$Rows")
  | 7 => .array (.object "GlassLaces$Rows")
  | 8 => .int
  | 9 => .int
  | _ => .int
abbrev wsX90 : List Cond := u_ws RX9 TX9 11
theorem nmX9 : ∀ a, a < 11 → ∀ b, b < 11 → a ≠ b → (TX9 a).2.1 ≠ (TX9 b).2.1 := by decide +kernel
theorem tyX9_ok : ∀ k, k < 11 → parseFieldDescriptor (TX9 k).2.2.1 = some (tyX9 k) := by decide +kernel
abbrev cX9_init : ByteArray := prog_11_method_1_code
def yX9_init : MethodName := ⟨RX9, "<init>", "()V"⟩
abbrev cX9_addNumber : ByteArray := prog_11_method_2_code
def yX9_addNumber : MethodName := ⟨RX9, "addNumber", "(I)V"⟩
abbrev cX9_closeTape : ByteArray := prog_11_method_3_code
def yX9_closeTape : MethodName := ⟨RX9, "closeTape", "(II)V"⟩
abbrev cX9_numberFor : ByteArray := prog_11_method_4_code
def yX9_numberFor : MethodName := ⟨RX9, "numberFor", "(II)I"⟩
abbrev cX9_isThere : ByteArray := prog_11_method_5_code
def yX9_isThere : MethodName := ⟨RX9, "isThere", "(II)Z"⟩
abbrev cX9_courtAt : ByteArray := prog_11_method_6_code
def yX9_courtAt : MethodName := ⟨RX9, "courtAt", "(I)LGlassLaces$Court;"⟩
abbrev cX9_sightAt : ByteArray := prog_11_method_7_code
def yX9_sightAt : MethodName := ⟨RX9, "sightAt", "(I)LGlassLaces$Sight;"⟩
abbrev cX9_rowsAt : ByteArray := prog_11_method_8_code
def yX9_rowsAt : MethodName := ⟨RX9, "rowsAt", "(II)LGlassLaces$Rows;"⟩
abbrev cX9_rowsIn : ByteArray := prog_11_method_9_code
def yX9_rowsIn : MethodName := ⟨RX9, "rowsIn", "(II)LGlassLaces$Rows;"⟩
abbrev cX9_keep : ByteArray := prog_11_method_10_code
def yX9_keep : MethodName := ⟨RX9, "keep", "(IILGlassLaces$Reader;)V"⟩
abbrev cX9_copyFrom : ByteArray := prog_11_method_11_code
def yX9_copyFrom : MethodName := ⟨RX9, "copyFrom", "(LGlassLaces$Told;)V"⟩
def RX10 : String := "GlassLaces$Watch"
def TX10 : u_T := fun k => match k with
  | 0 => ("GlassLaces$Watch", "coming", "[[I", true)
  | 1 => ("GlassLaces$Watch", "going", "[[I", true)
  | _ => ("GlassLaces$Watch", "last", "I", false)
def tyX10 : Nat → FieldType := fun k => match k with
  | 0 => .array (.array .int)
  | 1 => .array (.array .int)
  | _ => .int
abbrev wsX100 : List Cond := u_ws RX10 TX10 3
theorem nmX10 : ∀ a, a < 3 → ∀ b, b < 3 → a ≠ b → (TX10 a).2.1 ≠ (TX10 b).2.1 := by decide +kernel
theorem tyX10_ok : ∀ k, k < 3 → parseFieldDescriptor (TX10 k).2.2.1 = some (tyX10 k) := by decide +kernel
abbrev cX10_init : ByteArray := prog_12_method_1_code
def yX10_init : MethodName := ⟨RX10, "<init>", "()V"⟩
abbrev cX10_waysOf : ByteArray := prog_12_method_2_code
def yX10_waysOf : MethodName := ⟨RX10, "waysOf", "(LGlassLaces$Court;LGlassLaces$Sight;)I"⟩
abbrev cX10_come : ByteArray := prog_12_method_3_code
def yX10_come : MethodName := ⟨RX10, "come", "(LGlassLaces$Court;LGlassLaces$Sight;)V"⟩
abbrev cX10_goOn : ByteArray := prog_12_method_4_code
def yX10_goOn : MethodName := ⟨RX10, "goOn", "()V"⟩
abbrev cX10_nearTo : ByteArray := prog_12_method_5_code
def yX10_nearTo : MethodName := ⟨RX10, "nearTo", "([II)I"⟩
abbrev cX10_leastMark : ByteArray := prog_12_method_6_code
def yX10_leastMark : MethodName := ⟨RX10, "leastMark", "(I)I"⟩
abbrev cX10_mostMark : ByteArray := prog_12_method_7_code
def yX10_mostMark : MethodName := ⟨RX10, "mostMark", "(I)I"⟩
def RX11 : String := "GlassLaces"
def TX11 : u_T := fun k => match k with
  | 0 => ("GlassLaces", "told", "LGlassLaces$Told;", true)
  | 1 => ("GlassLaces", "images", "[LGlassLaces$Told;", true)
  | 2 => ("GlassLaces", "imaged", "[Z", true)
  | 3 => ("GlassLaces", "reader", "LGlassLaces$Reader;", true)
  | 4 => ("GlassLaces", "hall", "LGlassLaces$Hall;", true)
  | 5 => ("GlassLaces", "lacing", "LGlassLaces$Lacing;", true)
  | 6 => ("GlassLaces", "odds", "LGlassLaces$Odds;", true)
  | 7 => ("GlassLaces", "watch", "LGlassLaces$Watch;", true)
  | 8 => ("GlassLaces", "debts", "LGlassLaces$Debts;", true)
  | _ => ("GlassLaces", "rota", "LGlassLaces$Rota;", true)
def tyX11 : Nat → FieldType := fun k => match k with
  | 0 => .object "GlassLaces$Told"
  | 1 => .array (.object "GlassLaces$Told")
  | 2 => .array .boolean
  | 3 => .object "GlassLaces$Reader"
  | 4 => .object "GlassLaces$Hall"
  | 5 => .object "GlassLaces$Lacing"
  | 6 => .object "GlassLaces$Odds"
  | 7 => .object "GlassLaces$Watch"
  | 8 => .object "GlassLaces$Debts"
  | _ => .object "GlassLaces$Rota"
abbrev wsX110 : List Cond := u_ws RX11 TX11 10
theorem nmX11 : ∀ a, a < 10 → ∀ b, b < 10 → a ≠ b → (TX11 a).2.1 ≠ (TX11 b).2.1 := by decide +kernel
theorem tyX11_ok : ∀ k, k < 10 → parseFieldDescriptor (TX11 k).2.2.1 = some (tyX11 k) := by decide +kernel
abbrev cX11_init : ByteArray := prog_1_method_1_code
def yX11_init : MethodName := ⟨RX11, "<init>", "()V"⟩
abbrev cX11_feed : ByteArray := prog_1_method_2_code
def yX11_feed : MethodName := ⟨RX11, "feed", "(IIIII)I"⟩
abbrev cX11_end : ByteArray := prog_1_method_3_code
def yX11_end : MethodName := ⟨RX11, "end", "(I)I"⟩
abbrev cX11_text : ByteArray := prog_1_method_4_code
def yX11_text : MethodName := ⟨RX11, "text", "(II)I"⟩
abbrev cX11_fault : ByteArray := prog_1_method_5_code
def yX11_fault : MethodName := ⟨RX11, "fault", "(I)I"⟩
abbrev cX11_court : ByteArray := prog_1_method_6_code
def yX11_court : MethodName := ⟨RX11, "court", "(II)I"⟩
abbrev cX11_lady : ByteArray := prog_1_method_7_code
def yX11_lady : MethodName := ⟨RX11, "lady", "(III)I"⟩
abbrev cX11_under : ByteArray := prog_1_method_8_code
def yX11_under : MethodName := ⟨RX11, "under", "(IIII)I"⟩
abbrev cX11_deed : ByteArray := prog_1_method_9_code
def yX11_deed : MethodName := ⟨RX11, "deed", "(III)I"⟩
abbrev cX11_stop : ByteArray := prog_1_method_10_code
def yX11_stop : MethodName := ⟨RX11, "stop", "(II)I"⟩
abbrev cX11_state : ByteArray := prog_1_method_11_code
def yX11_state : MethodName := ⟨RX11, "state", "(IIII)I"⟩
abbrev cX11_of : ByteArray := prog_1_method_12_code
def yX11_of : MethodName := ⟨RX11, "of", "(IIIII)I"⟩
abbrev cX11_mark : ByteArray := prog_1_method_13_code
def yX11_mark : MethodName := ⟨RX11, "mark", "(II)I"⟩
abbrev cX11_falls : ByteArray := prog_1_method_14_code
def yX11_falls : MethodName := ⟨RX11, "falls", "(III)I"⟩
abbrev cX11_laced : ByteArray := prog_1_method_15_code
def yX11_laced : MethodName := ⟨RX11, "laced", "(IIIZI)I"⟩
abbrev cX11_least : ByteArray := prog_1_method_16_code
def yX11_least : MethodName := ⟨RX11, "least", "(IIIZZ)I"⟩
abbrev cX11_dance : ByteArray := prog_1_method_17_code
def yX11_dance : MethodName := ⟨RX11, "dance", "(II)I"⟩
abbrev cX11_reach : ByteArray := prog_1_method_18_code
def yX11_reach : MethodName := ⟨RX11, "reach", "(IIIZZ)J"⟩
abbrev cX11_drop : ByteArray := prog_1_method_19_code
def yX11_drop : MethodName := ⟨RX11, "drop", "(IIIZ)J"⟩
abbrev cX11_worth : ByteArray := prog_1_method_20_code
def yX11_worth : MethodName := ⟨RX11, "worth", "(IIII)I"⟩
abbrev cX11_sight : ByteArray := prog_1_method_21_code
def yX11_sight : MethodName := ⟨RX11, "sight", "(II)I"⟩
abbrev cX11_ways : ByteArray := prog_1_method_22_code
def yX11_ways : MethodName := ⟨RX11, "ways", "(II)J"⟩
abbrev cX11_may : ByteArray := prog_1_method_23_code
def yX11_may : MethodName := ⟨RX11, "may", "(IIII)I"⟩
abbrev cX11_spy : ByteArray := prog_1_method_24_code
def yX11_spy : MethodName := ⟨RX11, "spy", "(III)I"⟩
abbrev cX11_pawn : ByteArray := prog_1_method_25_code
def yX11_pawn : MethodName := ⟨RX11, "pawn", "(III)I"⟩
abbrev cX11_net : ByteArray := prog_1_method_26_code
def yX11_net : MethodName := ⟨RX11, "net", "(II)I"⟩
abbrev cX11_pays : ByteArray := prog_1_method_27_code
def yX11_pays : MethodName := ⟨RX11, "pays", "(IZ)I"⟩
abbrev cX11_maid : ByteArray := prog_1_method_28_code
def yX11_maid : MethodName := ⟨RX11, "maid", "(III)I"⟩
abbrev cX11_cover : ByteArray := prog_1_method_29_code
def yX11_cover : MethodName := ⟨RX11, "cover", "(IIIIZ)I"⟩
abbrev cX11_longest : ByteArray := prog_1_method_30_code
def yX11_longest : MethodName := ⟨RX11, "longest", "(II)I"⟩
abbrev cX11_drawn : ByteArray := prog_1_method_31_code
def yX11_drawn : MethodName := ⟨RX11, "drawn", "(IIII)I"⟩
abbrev cX11_climb : ByteArray := prog_1_method_32_code
def yX11_climb : MethodName := ⟨RX11, "climb", "(IIII)I"⟩
abbrev cX11_calm : ByteArray := prog_1_method_33_code
def yX11_calm : MethodName := ⟨RX11, "calm", "(III)I"⟩
abbrev cX11_count : ByteArray := prog_1_method_34_code
def yX11_count : MethodName := ⟨RX11, "count", "(I)I"⟩
abbrev cX11_image : ByteArray := prog_1_method_35_code
def yX11_image : MethodName := ⟨RX11, "image", "(I)Z"⟩
abbrev cX11_again : ByteArray := prog_1_method_36_code
def yX11_again : MethodName := ⟨RX11, "again", "(I)Z"⟩
abbrev cX11_rowCell : ByteArray := prog_1_method_37_code
def yX11_rowCell : MethodName := ⟨RX11, "rowCell", "(LGlassLaces$Rows;II)I"⟩
abbrev cX11_isLace : ByteArray := prog_1_method_38_code
def yX11_isLace : MethodName := ⟨RX11, "isLace", "(I)Z"⟩
abbrev cX11_isMark : ByteArray := prog_1_method_39_code
def yX11_isMark : MethodName := ⟨RX11, "isMark", "(I)Z"⟩
abbrev cX11_isMaidNumber : ByteArray := prog_1_method_40_code
def yX11_isMaidNumber : MethodName := ⟨RX11, "isMaidNumber", "(I)Z"⟩
def RX12 : String := "GlassLacesModel"
def TX12 : u_T := fun k => match k with
  | 0 => ("GlassLacesModel", "code", "I", false)
  | 1 => ("GlassLacesModel", "tape", "[B", true)
  | 2 => ("GlassLacesModel", "size", "[I", true)
  | 3 => ("GlassLacesModel", "fault", "[I", true)
  | 4 => ("GlassLacesModel", "faultPlace", "[I", true)
  | 5 => ("GlassLacesModel", "many", "[I", true)
  | 6 => ("GlassLacesModel", "courts", "[I", true)
  | 7 => ("GlassLacesModel", "balls", "[I", true)
  | 8 => ("GlassLacesModel", "forecasts", "[I", true)
  | 9 => ("GlassLacesModel", "sights", "[I", true)
  | 10 => ("GlassLacesModel", "ledgers", "[I", true)
  | 11 => ("GlassLacesModel", "shifts", "[I", true)
  | 12 => ("GlassLacesModel", "reached", "I", false)
  | 13 => ("GlassLacesModel", "length", "I", false)
  | 14 => ("GlassLacesModel", "begins", "I", false)
  | 15 => ("GlassLacesModel", "sort", "I", false)
  | 16 => ("GlassLacesModel", "value", "I", false)
  | 17 => ("GlassLacesModel", "word", "J", false)
  | 18 => ("GlassLacesModel", "wrongAt", "I", false)
  | 19 => ("GlassLacesModel", "laterFault", "I", false)
  | 20 => ("GlassLacesModel", "laterPlace", "I", false)
  | 21 => ("GlassLacesModel", "told", "[I", true)
  | 22 => ("GlassLacesModel", "read", "[I", true)
  | 23 => ("GlassLacesModel", "farRoom", "I", false)
  | 24 => ("GlassLacesModel", "marksTold", "J", false)
  | 25 => ("GlassLacesModel", "court", "I", false)
  | 26 => ("GlassLacesModel", "rooms", "I", false)
  | 27 => ("GlassLacesModel", "ladies", "I", false)
  | 28 => ("GlassLacesModel", "ball", "I", false)
  | 29 => ("GlassLacesModel", "glass", "I", false)
  | 30 => ("GlassLacesModel", "minutes", "I", false)
  | 31 => ("GlassLacesModel", "up", "I", false)
  | 32 => ("GlassLacesModel", "down", "I", false)
  | 33 => ("GlassLacesModel", "burst", "I", false)
  | 34 => ("GlassLacesModel", "knots", "I", false)
  | 35 => ("GlassLacesModel", "tales", "I", false)
  | 36 => ("GlassLacesModel", "toasts", "I", false)
  | 37 => ("GlassLacesModel", "toasted", "I", false)
  | 38 => ("GlassLacesModel", "opens", "I", false)
  | 39 => ("GlassLacesModel", "air", "[I", true)
  | 40 => ("GlassLacesModel", "roomNow", "[I", true)
  | 41 => ("GlassLacesModel", "laceNow", "[I", true)
  | 42 => ("GlassLacesModel", "restLeft", "[I", true)
  | 43 => ("GlassLacesModel", "fainted", "[I", true)
  | 44 => ("GlassLacesModel", "lastAt", "[I", true)
  | 45 => ("GlassLacesModel", "forecast", "I", false)
  | 46 => ("GlassLacesModel", "need", "[I", true)
  | 47 => ("GlassLacesModel", "each", "[I", true)
  | 48 => ("GlassLacesModel", "ways", "[J", true)
  | 49 => ("GlassLacesModel", "then", "[J", true)
  | 50 => ("GlassLacesModel", "allWind", "I", false)
  | 51 => ("GlassLacesModel", "sight", "I", false)
  | 52 => ("GlassLacesModel", "lastMinute", "I", false)
  | 53 => ("GlassLacesModel", "ahead", "[J", true)
  | 54 => ("GlassLacesModel", "behind", "[J", true)
  | 55 => ("GlassLacesModel", "ledger", "I", false)
  | 56 => ("GlassLacesModel", "nets", "[I", true)
  | 57 => ("GlassLacesModel", "sums", "[I", true)
  | 58 => ("GlassLacesModel", "parts", "[I", true)
  | 59 => ("GlassLacesModel", "shift", "I", false)
  | 60 => ("GlassLacesModel", "seed", "I", false)
  | _ => ("GlassLacesModel", "kept", "[Z", true)
def tyX12 : Nat → FieldType := fun k => match k with
  | 0 => .int
  | 1 => .array .byte
  | 2 => .array .int
  | 3 => .array .int
  | 4 => .array .int
  | 5 => .array .int
  | 6 => .array .int
  | 7 => .array .int
  | 8 => .array .int
  | 9 => .array .int
  | 10 => .array .int
  | 11 => .array .int
  | 12 => .int
  | 13 => .int
  | 14 => .int
  | 15 => .int
  | 16 => .int
  | 17 => .long
  | 18 => .int
  | 19 => .int
  | 20 => .int
  | 21 => .array .int
  | 22 => .array .int
  | 23 => .int
  | 24 => .long
  | 25 => .int
  | 26 => .int
  | 27 => .int
  | 28 => .int
  | 29 => .int
  | 30 => .int
  | 31 => .int
  | 32 => .int
  | 33 => .int
  | 34 => .int
  | 35 => .int
  | 36 => .int
  | 37 => .int
  | 38 => .int
  | 39 => .array .int
  | 40 => .array .int
  | 41 => .array .int
  | 42 => .array .int
  | 43 => .array .int
  | 44 => .array .int
  | 45 => .int
  | 46 => .array .int
  | 47 => .array .int
  | 48 => .array .long
  | 49 => .array .long
  | 50 => .int
  | 51 => .int
  | 52 => .int
  | 53 => .array .long
  | 54 => .array .long
  | 55 => .int
  | 56 => .array .int
  | 57 => .array .int
  | 58 => .array .int
  | 59 => .int
  | 60 => .int
  | _ => .array .boolean
abbrev wsX120 : List Cond := u_ws RX12 TX12 62
theorem nmX12 : ∀ a, a < 62 → ∀ b, b < 62 → a ≠ b → (TX12 a).2.1 ≠ (TX12 b).2.1 := by decide +kernel
theorem tyX12_ok : ∀ k, k < 62 → parseFieldDescriptor (TX12 k).2.2.1 = some (tyX12 k) := by decide +kernel
abbrev cX12_init : ByteArray := prog_14_method_1_code
def yX12_init : MethodName := ⟨RX12, "<init>", "()V"⟩
abbrev cX12_in : ByteArray := prog_14_method_3_code
def yX12_in : MethodName := ⟨RX12, "in", "(III)Z"⟩
abbrev cX12_has : ByteArray := prog_14_method_4_code
def yX12_has : MethodName := ⟨RX12, "has", "(II)Z"⟩
abbrev cX12_greater : ByteArray := prog_14_method_5_code
def yX12_greater : MethodName := ⟨RX12, "greater", "(II)I"⟩
abbrev cX12_lesser : ByteArray := prog_14_method_6_code
def yX12_lesser : MethodName := ⟨RX12, "lesser", "(II)I"⟩
abbrev cX12_size : ByteArray := prog_14_method_7_code
def yX12_size : MethodName := ⟨RX12, "size", "(I)I"⟩
abbrev cX12_ones : ByteArray := prog_14_method_8_code
def yX12_ones : MethodName := ⟨RX12, "ones", "(I)I"⟩
abbrev cX12_copyRow : ByteArray := prog_14_method_9_code
def yX12_copyRow : MethodName := ⟨RX12, "copyRow", "([IIII)V"⟩
abbrev cX12_copyAll : ByteArray := prog_14_method_10_code
def yX12_copyAll : MethodName := ⟨RX12, "copyAll", "(II)V"⟩
abbrev cX12_is : ByteArray := prog_14_method_11_code
def yX12_is : MethodName := ⟨RX12, "is", "(II)Z"⟩
abbrev cX12_feed : ByteArray := prog_14_method_12_code
def yX12_feed : MethodName := ⟨RX12, "feed", "(IIIII)I"⟩
abbrev cX12_four : ByteArray := prog_14_method_13_code
def yX12_four : MethodName := ⟨RX12, "four", "(I)V"⟩
abbrev cX12_end : ByteArray := prog_14_method_14_code
def yX12_end : MethodName := ⟨RX12, "end", "(I)I"⟩
abbrev cX12_see : ByteArray := prog_14_method_15_code
def yX12_see : MethodName := ⟨RX12, "see", "()I"⟩
abbrev cX12_token : ByteArray := prog_14_method_16_code
def yX12_token : MethodName := ⟨RX12, "token", "()V"⟩
abbrev cX12_fails : ByteArray := prog_14_method_17_code
def yX12_fails : MethodName := ⟨RX12, "fails", "()Z"⟩
abbrev cX12_later : ByteArray := prog_14_method_18_code
def yX12_later : MethodName := ⟨RX12, "later", "(II)V"⟩
abbrev cX12_takeBut : ByteArray := prog_14_method_19_code
def yX12_takeBut : MethodName := ⟨RX12, "takeBut", "(IIII)Z"⟩
abbrev cX12_take : ByteArray := prog_14_method_20_code
def yX12_take : MethodName := ⟨RX12, "take", "(III)Z"⟩
abbrev cX12_full : ByteArray := prog_14_method_21_code
def yX12_full : MethodName := ⟨RX12, "full", "(III)V"⟩
abbrev cX12_keep : ByteArray := prog_14_method_22_code
def yX12_keep : MethodName := ⟨RX12, "keep", "(IIII)V"⟩
abbrev cX12_ladyLine : ByteArray := prog_14_method_23_code
def yX12_ladyLine : MethodName := ⟨RX12, "ladyLine", "()Z"⟩
abbrev cX12_properLine : ByteArray := prog_14_method_24_code
def yX12_properLine : MethodName := ⟨RX12, "properLine", "()Z"⟩
abbrev cX12_courtLine : ByteArray := prog_14_method_25_code
def yX12_courtLine : MethodName := ⟨RX12, "courtLine", "(JI)Z"⟩
abbrev cX12_deedBy : ByteArray := prog_14_method_26_code
def yX12_deedBy : MethodName := ⟨RX12, "deedBy", "(J)I"⟩
abbrev cX12_ballNumbers : ByteArray := prog_14_method_27_code
def yX12_ballNumbers : MethodName := ⟨RX12, "ballNumbers", "(I)Z"⟩
abbrev cX12_ballLine : ByteArray := prog_14_method_28_code
def yX12_ballLine : MethodName := ⟨RX12, "ballLine", "(JI)Z"⟩
abbrev cX12_forecastLine : ByteArray := prog_14_method_29_code
def yX12_forecastLine : MethodName := ⟨RX12, "forecastLine", "(J)Z"⟩
abbrev cX12_sightLine : ByteArray := prog_14_method_30_code
def yX12_sightLine : MethodName := ⟨RX12, "sightLine", "(JI)Z"⟩
abbrev cX12_ledgerLine : ByteArray := prog_14_method_31_code
def yX12_ledgerLine : MethodName := ⟨RX12, "ledgerLine", "(JI)Z"⟩
abbrev cX12_shiftLine : ByteArray := prog_14_method_32_code
def yX12_shiftLine : MethodName := ⟨RX12, "shiftLine", "(JI)Z"⟩
abbrev cX12_lineOf : ByteArray := prog_14_method_33_code
def yX12_lineOf : MethodName := ⟨RX12, "lineOf", "(IJI)Z"⟩
abbrev cX12_lines : ByteArray := prog_14_method_34_code
def yX12_lines : MethodName := ⟨RX12, "lines", "(I)Z"⟩
abbrev cX12_readText : ByteArray := prog_14_method_35_code
def yX12_readText : MethodName := ⟨RX12, "readText", "(I)Z"⟩
abbrev cX12_store : ByteArray := prog_14_method_36_code
def yX12_store : MethodName := ⟨RX12, "store", "([III)V"⟩
abbrev cX12_storeAll : ByteArray := prog_14_method_37_code
def yX12_storeAll : MethodName := ⟨RX12, "storeAll", "(II)V"⟩
abbrev cX12_text : ByteArray := prog_14_method_38_code
def yX12_text : MethodName := ⟨RX12, "text", "(II)I"⟩
abbrev cX12_fault : ByteArray := prog_14_method_39_code
def yX12_fault : MethodName := ⟨RX12, "fault", "(I)I"⟩
abbrev cX12_ofCourt : ByteArray := prog_14_method_40_code
def yX12_ofCourt : MethodName := ⟨RX12, "ofCourt", "(I)I"⟩
abbrev cX12_ofLady : ByteArray := prog_14_method_41_code
def yX12_ofLady : MethodName := ⟨RX12, "ofLady", "(II)I"⟩
abbrev cX12_heightOf : ByteArray := prog_14_method_42_code
def yX12_heightOf : MethodName := ⟨RX12, "heightOf", "(I)I"⟩
abbrev cX12_hand : ByteArray := prog_14_method_43_code
def yX12_hand : MethodName := ⟨RX12, "hand", "(I)Z"⟩
abbrev cX12_isLady : ByteArray := prog_14_method_44_code
def yX12_isLady : MethodName := ⟨RX12, "isLady", "(I)Z"⟩
abbrev cX12_isRoom : ByteArray := prog_14_method_45_code
def yX12_isRoom : MethodName := ⟨RX12, "isRoom", "(I)Z"⟩
abbrev cX12_properAt : ByteArray := prog_14_method_46_code
def yX12_properAt : MethodName := ⟨RX12, "properAt", "(I)I"⟩
abbrev cX12_court : ByteArray := prog_14_method_47_code
def yX12_court : MethodName := ⟨RX12, "court", "(II)I"⟩
abbrev cX12_lady : ByteArray := prog_14_method_48_code
def yX12_lady : MethodName := ⟨RX12, "lady", "(III)I"⟩
abbrev cX12_does : ByteArray := prog_14_method_49_code
def yX12_does : MethodName := ⟨RX12, "does", "(III)I"⟩
abbrev cX12_under : ByteArray := prog_14_method_50_code
def yX12_under : MethodName := ⟨RX12, "under", "(IIII)I"⟩
abbrev cX12_deeds : ByteArray := prog_14_method_51_code
def yX12_deeds : MethodName := ⟨RX12, "deeds", "()I"⟩
abbrev cX12_deedOf : ByteArray := prog_14_method_52_code
def yX12_deedOf : MethodName := ⟨RX12, "deedOf", "(II)I"⟩
abbrev cX12_hasBall : ByteArray := prog_14_method_53_code
def yX12_hasBall : MethodName := ⟨RX12, "hasBall", "(I)Z"⟩
abbrev cX12_deed : ByteArray := prog_14_method_54_code
def yX12_deed : MethodName := ⟨RX12, "deed", "(III)I"⟩
abbrev cX12_begin : ByteArray := prog_14_method_55_code
def yX12_begin : MethodName := ⟨RX12, "begin", "()V"⟩
abbrev cX12_airOf : ByteArray := prog_14_method_56_code
def yX12_airOf : MethodName := ⟨RX12, "airOf", "(I)I"⟩
abbrev cX12_pressureOf : ByteArray := prog_14_method_57_code
def yX12_pressureOf : MethodName := ⟨RX12, "pressureOf", "(I)I"⟩
abbrev cX12_opensOr : ByteArray := prog_14_method_58_code
def yX12_opensOr : MethodName := ⟨RX12, "opensOr", "(IZ)Z"⟩
abbrev cX12_sighs : ByteArray := prog_14_method_59_code
def yX12_sighs : MethodName := ⟨RX12, "sighs", "(I)Z"⟩
abbrev cX12_laces : ByteArray := prog_14_method_60_code
def yX12_laces : MethodName := ⟨RX12, "laces", "(II)Z"⟩
abbrev cX12_goes : ByteArray := prog_14_method_61_code
def yX12_goes : MethodName := ⟨RX12, "goes", "(II)Z"⟩
abbrev cX12_looksAt : ByteArray := prog_14_method_62_code
def yX12_looksAt : MethodName := ⟨RX12, "looksAt", "(I)V"⟩
abbrev cX12_minute : ByteArray := prog_14_method_63_code
def yX12_minute : MethodName := ⟨RX12, "minute", "()V"⟩
abbrev cX12_tells : ByteArray := prog_14_method_64_code
def yX12_tells : MethodName := ⟨RX12, "tells", "(I)Z"⟩
abbrev cX12_countOf : ByteArray := prog_14_method_65_code
def yX12_countOf : MethodName := ⟨RX12, "countOf", "(I)I"⟩
abbrev cX12_doesDeed : ByteArray := prog_14_method_66_code
def yX12_doesDeed : MethodName := ⟨RX12, "doesDeed", "(I)Z"⟩
abbrev cX12_play : ByteArray := prog_14_method_67_code
def yX12_play : MethodName := ⟨RX12, "play", "(I)I"⟩
abbrev cX12_layState : ByteArray := prog_14_method_68_code
def yX12_layState : MethodName := ⟨RX12, "layState", "(III)Z"⟩
abbrev cX12_stop : ByteArray := prog_14_method_69_code
def yX12_stop : MethodName := ⟨RX12, "stop", "(II)I"⟩
abbrev cX12_improper : ByteArray := prog_14_method_70_code
def yX12_improper : MethodName := ⟨RX12, "improper", "()I"⟩
abbrev cX12_state : ByteArray := prog_14_method_71_code
def yX12_state : MethodName := ⟨RX12, "state", "(IIII)I"⟩
abbrev cX12_of : ByteArray := prog_14_method_72_code
def yX12_of : MethodName := ⟨RX12, "of", "(IIIII)I"⟩
abbrev cX12_marks : ByteArray := prog_14_method_73_code
def yX12_marks : MethodName := ⟨RX12, "marks", "()I"⟩
abbrev cX12_markOf : ByteArray := prog_14_method_74_code
def yX12_markOf : MethodName := ⟨RX12, "markOf", "(I)I"⟩
abbrev cX12_hasForecast : ByteArray := prog_14_method_75_code
def yX12_hasForecast : MethodName := ⟨RX12, "hasForecast", "(I)Z"⟩
abbrev cX12_mark : ByteArray := prog_14_method_76_code
def yX12_mark : MethodName := ⟨RX12, "mark", "(II)I"⟩
abbrev cX12_stands : ByteArray := prog_14_method_77_code
def yX12_stands : MethodName := ⟨RX12, "stands", "(III)Z"⟩
abbrev cX12_falls : ByteArray := prog_14_method_78_code
def yX12_falls : MethodName := ⟨RX12, "falls", "(III)I"⟩
abbrev cX12_canHave : ByteArray := prog_14_method_79_code
def yX12_canHave : MethodName := ⟨RX12, "canHave", "(IIIZ)Z"⟩
abbrev cX12_laceBy : ByteArray := prog_14_method_80_code
def yX12_laceBy : MethodName := ⟨RX12, "laceBy", "(IIIZ)I"⟩
abbrev cX12_findNeed : ByteArray := prog_14_method_81_code
def yX12_findNeed : MethodName := ⟨RX12, "findNeed", "(IZ)V"⟩
abbrev cX12_knotsOf : ByteArray := prog_14_method_82_code
def yX12_knotsOf : MethodName := ⟨RX12, "knotsOf", "(IZ)I"⟩
abbrev cX12_laced : ByteArray := prog_14_method_83_code
def yX12_laced : MethodName := ⟨RX12, "laced", "(IIIZI)I"⟩
abbrev cX12_least : ByteArray := prog_14_method_84_code
def yX12_least : MethodName := ⟨RX12, "least", "(IIIZZ)I"⟩
abbrev cX12_dance : ByteArray := prog_14_method_85_code
def yX12_dance : MethodName := ⟨RX12, "dance", "(II)I"⟩
abbrev cX12_after : ByteArray := prog_14_method_86_code
def yX12_after : MethodName := ⟨RX12, "after", "(II)I"⟩
abbrev cX12_windOf : ByteArray := prog_14_method_87_code
def yX12_windOf : MethodName := ⟨RX12, "windOf", "(I)I"⟩
abbrev cX12_still : ByteArray := prog_14_method_88_code
def yX12_still : MethodName := ⟨RX12, "still", "()V"⟩
abbrev cX12_blows : ByteArray := prog_14_method_89_code
def yX12_blows : MethodName := ⟨RX12, "blows", "()V"⟩
abbrev cX12_common : ByteArray := prog_14_method_90_code
def yX12_common : MethodName := ⟨RX12, "common", "(JJ)J"⟩
abbrev cX12_terms : ByteArray := prog_14_method_91_code
def yX12_terms : MethodName := ⟨RX12, "terms", "(JJZ)J"⟩
abbrev cX12_reach : ByteArray := prog_14_method_92_code
def yX12_reach : MethodName := ⟨RX12, "reach", "(IIIZZ)J"⟩
abbrev cX12_drop : ByteArray := prog_14_method_93_code
def yX12_drop : MethodName := ⟨RX12, "drop", "(IIIZ)J"⟩
abbrev cX12_costOf : ByteArray := prog_14_method_94_code
def yX12_costOf : MethodName := ⟨RX12, "costOf", "(IIII)I"⟩
abbrev cX12_bestLace : ByteArray := prog_14_method_95_code
def yX12_bestLace : MethodName := ⟨RX12, "bestLace", "(III)I"⟩
abbrev cX12_worth : ByteArray := prog_14_method_96_code
def yX12_worth : MethodName := ⟨RX12, "worth", "(IIII)I"⟩
abbrev cX12_seenOf : ByteArray := prog_14_method_97_code
def yX12_seenOf : MethodName := ⟨RX12, "seenOf", "(II)I"⟩
abbrev cX12_shotOf : ByteArray := prog_14_method_98_code
def yX12_shotOf : MethodName := ⟨RX12, "shotOf", "(II)I"⟩
abbrev cX12_seenMany : ByteArray := prog_14_method_99_code
def yX12_seenMany : MethodName := ⟨RX12, "seenMany", "()I"⟩
abbrev cX12_shotMany : ByteArray := prog_14_method_100_code
def yX12_shotMany : MethodName := ⟨RX12, "shotMany", "()I"⟩
abbrev cX12_hasSight : ByteArray := prog_14_method_101_code
def yX12_hasSight : MethodName := ⟨RX12, "hasSight", "(I)Z"⟩
abbrev cX12_sight : ByteArray := prog_14_method_102_code
def yX12_sight : MethodName := ⟨RX12, "sight", "(II)I"⟩
abbrev cX12_fits : ByteArray := prog_14_method_103_code
def yX12_fits : MethodName := ⟨RX12, "fits", "(II)Z"⟩
abbrev cX12_laySight : ByteArray := prog_14_method_104_code
def yX12_laySight : MethodName := ⟨RX12, "laySight", "(II)Z"⟩
abbrev cX12_around : ByteArray := prog_14_method_105_code
def yX12_around : MethodName := ⟨RX12, "around", "([JIII)J"⟩
abbrev cX12_ways : ByteArray := prog_14_method_106_code
def yX12_ways : MethodName := ⟨RX12, "ways", "(II)J"⟩
abbrev cX12_may : ByteArray := prog_14_method_107_code
def yX12_may : MethodName := ⟨RX12, "may", "(IIII)I"⟩
abbrev cX12_spy : ByteArray := prog_14_method_108_code
def yX12_spy : MethodName := ⟨RX12, "spy", "(III)I"⟩
abbrev cX12_pawns : ByteArray := prog_14_method_109_code
def yX12_pawns : MethodName := ⟨RX12, "pawns", "()I"⟩
abbrev cX12_pawnOf : ByteArray := prog_14_method_110_code
def yX12_pawnOf : MethodName := ⟨RX12, "pawnOf", "(II)I"⟩
abbrev cX12_hasLedger : ByteArray := prog_14_method_111_code
def yX12_hasLedger : MethodName := ⟨RX12, "hasLedger", "(I)Z"⟩
abbrev cX12_pawn : ByteArray := prog_14_method_112_code
def yX12_pawn : MethodName := ⟨RX12, "pawn", "(III)I"⟩
abbrev cX12_findNets : ByteArray := prog_14_method_113_code
def yX12_findNets : MethodName := ⟨RX12, "findNets", "()V"⟩
abbrev cX12_net : ByteArray := prog_14_method_114_code
def yX12_net : MethodName := ⟨RX12, "net", "(II)I"⟩
abbrev cX12_payments : ByteArray := prog_14_method_115_code
def yX12_payments : MethodName := ⟨RX12, "payments", "()I"⟩
abbrev cX12_isOwing : ByteArray := prog_14_method_116_code
def yX12_isOwing : MethodName := ⟨RX12, "isOwing", "(I)Z"⟩
abbrev cX12_owedBy : ByteArray := prog_14_method_117_code
def yX12_owedBy : MethodName := ⟨RX12, "owedBy", "(I)I"⟩
abbrev cX12_chained : ByteArray := prog_14_method_118_code
def yX12_chained : MethodName := ⟨RX12, "chained", "()I"⟩
abbrev cX12_pays : ByteArray := prog_14_method_119_code
def yX12_pays : MethodName := ⟨RX12, "pays", "(IZ)I"⟩
abbrev cX12_maids : ByteArray := prog_14_method_120_code
def yX12_maids : MethodName := ⟨RX12, "maids", "()I"⟩
abbrev cX12_maidOf : ByteArray := prog_14_method_121_code
def yX12_maidOf : MethodName := ⟨RX12, "maidOf", "(II)I"⟩
abbrev cX12_hasShifts : ByteArray := prog_14_method_122_code
def yX12_hasShifts : MethodName := ⟨RX12, "hasShifts", "(I)Z"⟩
abbrev cX12_maid : ByteArray := prog_14_method_123_code
def yX12_maid : MethodName := ⟨RX12, "maid", "(III)I"⟩
abbrev cX12_thereAt : ByteArray := prog_14_method_124_code
def yX12_thereAt : MethodName := ⟨RX12, "thereAt", "(II)I"⟩
abbrev cX12_gapOf : ByteArray := prog_14_method_125_code
def yX12_gapOf : MethodName := ⟨RX12, "gapOf", "(IIII)I"⟩
abbrev cX12_cover : ByteArray := prog_14_method_126_code
def yX12_cover : MethodName := ⟨RX12, "cover", "(IIIIZ)I"⟩
abbrev cX12_longest : ByteArray := prog_14_method_127_code
def yX12_longest : MethodName := ⟨RX12, "longest", "(II)I"⟩
abbrev cX12_draw : ByteArray := prog_14_method_128_code
def yX12_draw : MethodName := ⟨RX12, "draw", "(I)I"⟩
abbrev cX12_drawn : ByteArray := prog_14_method_129_code
def yX12_drawn : MethodName := ⟨RX12, "drawn", "(IIII)I"⟩
abbrev cX12_climb : ByteArray := prog_14_method_130_code
def yX12_climb : MethodName := ⟨RX12, "climb", "(IIII)I"⟩
abbrev cX12_calmOf : ByteArray := prog_14_method_131_code
def yX12_calmOf : MethodName := ⟨RX12, "calmOf", "(II)I"⟩
abbrev cX12_calm : ByteArray := prog_14_method_132_code
def yX12_calm : MethodName := ⟨RX12, "calm", "(III)I"⟩
abbrev cX12_count : ByteArray := prog_14_method_133_code
def yX12_count : MethodName := ⟨RX12, "count", "(I)I"⟩
abbrev cX12_image : ByteArray := prog_14_method_134_code
def yX12_image : MethodName := ⟨RX12, "image", "(I)Z"⟩
abbrev cX12_again : ByteArray := prog_14_method_135_code
def yX12_again : MethodName := ⟨RX12, "again", "(I)Z"⟩
def RJx145de : String := "java/io/Serializable"
def RJx9f9b0 : String := "java/lang/CharSequence"
def RJxb160c : String := "java/lang/Comparable"
def RJ6 : String := "java/lang/Integer"
abbrev cJ6_compare_7cf53 : ByteArray := prog_15_method_40_code
def yJ6_compare_7cf53 : MethodName := ⟨RJ6, "compare", "(II)I"⟩
abbrev cJ6_bitCount_0f7a4 : ByteArray := prog_15_method_49_code
def yJ6_bitCount_0f7a4 : MethodName := ⟨RJ6, "bitCount", "(I)I"⟩
def RJ9 : String := "java/lang/Math"
abbrev cJ9_abs_0f7a4 : ByteArray := prog_16_method_59_code
def yJ9_abs_0f7a4 : MethodName := ⟨RJ9, "abs", "(I)I"⟩
abbrev cJ9_max_7cf53 : ByteArray := prog_16_method_65_code
def yJ9_max_7cf53 : MethodName := ⟨RJ9, "max", "(II)I"⟩
abbrev cJ9_min_7cf53 : ByteArray := prog_16_method_69_code
def yJ9_min_7cf53 : MethodName := ⟨RJ9, "min", "(II)I"⟩
def RJ0 : String := "java/lang/String"
abbrev cJ0_length_8abf5 : ByteArray := prog_17_method_54_code
def yJ0_length_8abf5 : MethodName := ⟨RJ0, "length", "()I"⟩
abbrev cJ0_charAt_5068e : ByteArray := prog_17_method_56_code
def yJ0_charAt_5068e : MethodName := ⟨RJ0, "charAt", "(I)C"⟩
abbrev cJ0_coder_7d493 : ByteArray := prog_17_method_152_code
def yJ0_coder_7d493 : MethodName := ⟨RJ0, "coder", "()B"⟩
abbrev cJ0_isLatin1_aae02 : ByteArray := prog_17_method_154_code
def yJ0_isLatin1_aae02 : MethodName := ⟨RJ0, "isLatin1", "()Z"⟩
abbrev cJ0_checkIndex_df160 : ByteArray := prog_17_method_155_code
def yJ0_checkIndex_df160 : MethodName := ⟨RJ0, "checkIndex", "(II)V"⟩
def RJ1 : String := "java/lang/StringLatin1"
abbrev cJ1_charAt_3b067 : ByteArray := prog_18_method_2_code
def yJ1_charAt_3b067 : MethodName := ⟨RJ1, "charAt", "([BI)C"⟩
def RJ2 : String := "java/lang/StringUTF16"
abbrev cJ2_getChar_3b067 : ByteArray := prog_19_method_5_code
def yJ2_getChar_3b067 : MethodName := ⟨RJ2, "getChar", "([BI)C"⟩
abbrev cJ2_length_9d52b : ByteArray := prog_19_method_6_code
def yJ2_length_9d52b : MethodName := ⟨RJ2, "length", "([B)I"⟩
abbrev cJ2_charAt_3b067 : ByteArray := prog_19_method_83_code
def yJ2_charAt_3b067 : MethodName := ⟨RJ2, "charAt", "([BI)C"⟩
abbrev cJ2_checkIndex_2214a : ByteArray := prog_19_method_91_code
def yJ2_checkIndex_2214a : MethodName := ⟨RJ2, "checkIndex", "(I[B)V"⟩
def RJ10 : String := "java/lang/System"
def RJxfd54e : String := "java/lang/constant/Constable"
def RJx3cf43 : String := "java/lang/constant/ConstantDesc"
def RJ7 : String := "java/util/Arrays"
abbrev cJ7_fill_d0a16 : ByteArray := prog_21_method_101_code
def yJ7_fill_d0a16 : MethodName := ⟨RJ7, "fill", "([JJ)V"⟩
abbrev cJ7_fill_53178 : ByteArray := prog_21_method_103_code
def yJ7_fill_53178 : MethodName := ⟨RJ7, "fill", "([II)V"⟩
def RJ3 : String := "jdk/internal/util/Preconditions"
abbrev cJ3_checkIndex_8e157 : ByteArray := prog_22_method_11_code
def yJ3_checkIndex_8e157 : MethodName := ⟨RJ3, "checkIndex", "(IILjava/util/function/BiFunction;)I"⟩
def RL : String := "GlassLacesLaw"
abbrev cL_law : ByteArray := code
def yL_law : MethodName := ⟨RL, "law", "([I)Z"⟩
abbrev vwCl : List vw_C := [(RX0, TX0, 7), (RX1, TX1, 2), (RX2, TX2, 16), (RX3, TX3, 4), (RX4, TX4, 4), (RX5, TX5, 13), (RX6, TX6, 1), (RX7, TX7, 4), (RX8, TX8, 2), (RX9, TX9, 11), (RX10, TX10, 3), (RX11, TX11, 10), (RX12, TX12, 62)]
