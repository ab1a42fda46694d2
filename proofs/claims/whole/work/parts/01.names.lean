-- ===== PART A: goes FIRST, ahead of the names: the tables' words, and 'selects' of the private methods out of them =====
/-- a private method of a class that the tables say can be made, by its rows of tables_1 -/
def lw_okq (q : MethodName × Nat) : Prop := (q.1.cls ≠ "java/lang/invoke/MethodHandle" ∧ q.1.cls ≠ "java/lang/invoke/VarHandle") ∧ Cond.instantiable q.1.cls q.2 ∈ tables_1 ∧ Cond.privateMethod q.1 ∈ tables_1 ∧ Cond.instanceMethod q.1 ∈ tables_1
theorem lw_p0 : lw_okq (⟨"SweptGrantsModel", "begins", "()V"⟩, 82) := ⟨⟨by decide +kernel, by decide +kernel⟩, List.mem_of_getElem? (i := 1134) (by decide +kernel), List.mem_of_getElem? (i := 1141) (by decide +kernel), List.mem_of_getElem? (i := 1142) (by decide +kernel)⟩
theorem lw_p1 : lw_okq (⟨"SweptGrantsModel", "nothing", "(I)V"⟩, 82) := ⟨⟨by decide +kernel, by decide +kernel⟩, List.mem_of_getElem? (i := 1134) (by decide +kernel), List.mem_of_getElem? (i := 1145) (by decide +kernel), List.mem_of_getElem? (i := 1146) (by decide +kernel)⟩
theorem lw_p2 : lw_okq (⟨"SweptGrantsModel", "make", "(IIIIIIZ)V"⟩, 82) := ⟨⟨by decide +kernel, by decide +kernel⟩, List.mem_of_getElem? (i := 1134) (by decide +kernel), List.mem_of_getElem? (i := 1149) (by decide +kernel), List.mem_of_getElem? (i := 1150) (by decide +kernel)⟩
theorem lw_p3 : lw_okq (⟨"SweptGrantsModel", "word", "(I)V"⟩, 82) := ⟨⟨by decide +kernel, by decide +kernel⟩, List.mem_of_getElem? (i := 1134) (by decide +kernel), List.mem_of_getElem? (i := 1405) (by decide +kernel), List.mem_of_getElem? (i := 1406) (by decide +kernel)⟩
theorem lw_p4 : lw_okq (⟨"SweptGrantsModel", "readAll", "()V"⟩, 82) := ⟨⟨by decide +kernel, by decide +kernel⟩, List.mem_of_getElem? (i := 1134) (by decide +kernel), List.mem_of_getElem? (i := 1413) (by decide +kernel), List.mem_of_getElem? (i := 1414) (by decide +kernel)⟩
theorem lw_p5 : lw_okq (⟨"SweptGrantsModel", "next", "(III)I"⟩, 82) := ⟨⟨by decide +kernel, by decide +kernel⟩, List.mem_of_getElem? (i := 1134) (by decide +kernel), List.mem_of_getElem? (i := 1417) (by decide +kernel), List.mem_of_getElem? (i := 1418) (by decide +kernel)⟩
theorem lw_p6 : lw_okq (⟨"SweptGrantsModel", "fails", "(II)V"⟩, 82) := ⟨⟨by decide +kernel, by decide +kernel⟩, List.mem_of_getElem? (i := 1134) (by decide +kernel), List.mem_of_getElem? (i := 1421) (by decide +kernel), List.mem_of_getElem? (i := 1422) (by decide +kernel)⟩
theorem lw_p7 : lw_okq (⟨"SweptGrantsModel", "readCompartment", "(I)V"⟩, 82) := ⟨⟨by decide +kernel, by decide +kernel⟩, List.mem_of_getElem? (i := 1134) (by decide +kernel), List.mem_of_getElem? (i := 1425) (by decide +kernel), List.mem_of_getElem? (i := 1426) (by decide +kernel)⟩
theorem lw_p8 : lw_okq (⟨"SweptGrantsModel", "layout", "()V"⟩, 82) := ⟨⟨by decide +kernel, by decide +kernel⟩, List.mem_of_getElem? (i := 1134) (by decide +kernel), List.mem_of_getElem? (i := 1429) (by decide +kernel), List.mem_of_getElem? (i := 1430) (by decide +kernel)⟩
theorem lw_p9 : lw_okq (⟨"SweptGrantsModel", "fill", "(I)V"⟩, 82) := ⟨⟨by decide +kernel, by decide +kernel⟩, List.mem_of_getElem? (i := 1134) (by decide +kernel), List.mem_of_getElem? (i := 1433) (by decide +kernel), List.mem_of_getElem? (i := 1434) (by decide +kernel)⟩
theorem lw_p10 : lw_okq (⟨"SweptGrantsModel", "putCapability", "(IIZ)V"⟩, 82) := ⟨⟨by decide +kernel, by decide +kernel⟩, List.mem_of_getElem? (i := 1134) (by decide +kernel), List.mem_of_getElem? (i := 1439) (by decide +kernel), List.mem_of_getElem? (i := 1440) (by decide +kernel)⟩
theorem lw_p11 : lw_okq (⟨"SweptGrantsModel", "put", "(III)V"⟩, 82) := ⟨⟨by decide +kernel, by decide +kernel⟩, List.mem_of_getElem? (i := 1134) (by decide +kernel), List.mem_of_getElem? (i := 1443) (by decide +kernel), List.mem_of_getElem? (i := 1444) (by decide +kernel)⟩
theorem lw_p12 : lw_okq (⟨"SweptGrantsModel", "starts", "(I)V"⟩, 82) := ⟨⟨by decide +kernel, by decide +kernel⟩, List.mem_of_getElem? (i := 1134) (by decide +kernel), List.mem_of_getElem? (i := 1447) (by decide +kernel), List.mem_of_getElem? (i := 1448) (by decide +kernel)⟩
theorem lw_p13 : lw_okq (⟨"SweptGrantsModel", "code", "(III)V"⟩, 82) := ⟨⟨by decide +kernel, by decide +kernel⟩, List.mem_of_getElem? (i := 1134) (by decide +kernel), List.mem_of_getElem? (i := 1454) (by decide +kernel), List.mem_of_getElem? (i := 1455) (by decide +kernel)⟩
theorem lw_p14 : lw_okq (⟨"SweptGrantsModel", "stack", "(III)V"⟩, 82) := ⟨⟨by decide +kernel, by decide +kernel⟩, List.mem_of_getElem? (i := 1134) (by decide +kernel), List.mem_of_getElem? (i := 1458) (by decide +kernel), List.mem_of_getElem? (i := 1459) (by decide +kernel)⟩
theorem lw_p15 : lw_okq (⟨"SweptGrantsModel", "globals", "(II)V"⟩, 82) := ⟨⟨by decide +kernel, by decide +kernel⟩, List.mem_of_getElem? (i := 1134) (by decide +kernel), List.mem_of_getElem? (i := 1462) (by decide +kernel), List.mem_of_getElem? (i := 1463) (by decide +kernel)⟩
def lw_privs_1 : List (MethodName × Nat) := [(⟨"SweptGrantsModel", "begins", "()V"⟩, 82), (⟨"SweptGrantsModel", "nothing", "(I)V"⟩, 82), (⟨"SweptGrantsModel", "make", "(IIIIIIZ)V"⟩, 82), (⟨"SweptGrantsModel", "word", "(I)V"⟩, 82), (⟨"SweptGrantsModel", "readAll", "()V"⟩, 82), (⟨"SweptGrantsModel", "next", "(III)I"⟩, 82), (⟨"SweptGrantsModel", "fails", "(II)V"⟩, 82), (⟨"SweptGrantsModel", "readCompartment", "(I)V"⟩, 82), (⟨"SweptGrantsModel", "layout", "()V"⟩, 82), (⟨"SweptGrantsModel", "fill", "(I)V"⟩, 82), (⟨"SweptGrantsModel", "putCapability", "(IIZ)V"⟩, 82), (⟨"SweptGrantsModel", "put", "(III)V"⟩, 82), (⟨"SweptGrantsModel", "starts", "(I)V"⟩, 82), (⟨"SweptGrantsModel", "code", "(III)V"⟩, 82), (⟨"SweptGrantsModel", "stack", "(III)V"⟩, 82), (⟨"SweptGrantsModel", "globals", "(II)V"⟩, 82)]
theorem lw_r1 : ∀ q ∈ lw_privs_1, lw_okq q := List.forall_mem_cons.mpr ⟨lw_p0, List.forall_mem_cons.mpr ⟨lw_p1, List.forall_mem_cons.mpr ⟨lw_p2, List.forall_mem_cons.mpr ⟨lw_p3, List.forall_mem_cons.mpr ⟨lw_p4, List.forall_mem_cons.mpr ⟨lw_p5, List.forall_mem_cons.mpr ⟨lw_p6, List.forall_mem_cons.mpr ⟨lw_p7, List.forall_mem_cons.mpr ⟨lw_p8, List.forall_mem_cons.mpr ⟨lw_p9, List.forall_mem_cons.mpr ⟨lw_p10, List.forall_mem_cons.mpr ⟨lw_p11, List.forall_mem_cons.mpr ⟨lw_p12, List.forall_mem_cons.mpr ⟨lw_p13, List.forall_mem_cons.mpr ⟨lw_p14, List.forall_mem_cons.mpr ⟨lw_p15, fun _ h => absurd h List.not_mem_nil⟩⟩⟩⟩⟩⟩⟩⟩⟩⟩⟩⟩⟩⟩⟩⟩
theorem lw_p16 : lw_okq (⟨"SweptGrantsModel", "areEnded", "()Z"⟩, 82) := ⟨⟨by decide +kernel, by decide +kernel⟩, List.mem_of_getElem? (i := 1134) (by decide +kernel), List.mem_of_getElem? (i := 1474) (by decide +kernel), List.mem_of_getElem? (i := 1475) (by decide +kernel)⟩
theorem lw_p17 : lw_okq (⟨"SweptGrantsModel", "step", "()V"⟩, 82) := ⟨⟨by decide +kernel, by decide +kernel⟩, List.mem_of_getElem? (i := 1134) (by decide +kernel), List.mem_of_getElem? (i := 1478) (by decide +kernel), List.mem_of_getElem? (i := 1479) (by decide +kernel)⟩
theorem lw_p18 : lw_okq (⟨"SweptGrantsModel", "chooses", "()V"⟩, 82) := ⟨⟨by decide +kernel, by decide +kernel⟩, List.mem_of_getElem? (i := 1134) (by decide +kernel), List.mem_of_getElem? (i := 1482) (by decide +kernel), List.mem_of_getElem? (i := 1483) (by decide +kernel)⟩
theorem lw_p19 : lw_okq (⟨"SweptGrantsModel", "isAhead", "(II)Z"⟩, 82) := ⟨⟨by decide +kernel, by decide +kernel⟩, List.mem_of_getElem? (i := 1134) (by decide +kernel), List.mem_of_getElem? (i := 1486) (by decide +kernel), List.mem_of_getElem? (i := 1487) (by decide +kernel)⟩
theorem lw_p20 : lw_okq (⟨"SweptGrantsModel", "filter", "(I)V"⟩, 82) := ⟨⟨by decide +kernel, by decide +kernel⟩, List.mem_of_getElem? (i := 1134) (by decide +kernel), List.mem_of_getElem? (i := 1490) (by decide +kernel), List.mem_of_getElem? (i := 1491) (by decide +kernel)⟩
theorem lw_p21 : lw_okq (⟨"SweptGrantsModel", "isGone", "(I)Z"⟩, 82) := ⟨⟨by decide +kernel, by decide +kernel⟩, List.mem_of_getElem? (i := 1134) (by decide +kernel), List.mem_of_getElem? (i := 1494) (by decide +kernel), List.mem_of_getElem? (i := 1495) (by decide +kernel)⟩
theorem lw_p22 : lw_okq (⟨"SweptGrantsModel", "does", "()I"⟩, 82) := ⟨⟨by decide +kernel, by decide +kernel⟩, List.mem_of_getElem? (i := 1134) (by decide +kernel), List.mem_of_getElem? (i := 1498) (by decide +kernel), List.mem_of_getElem? (i := 1499) (by decide +kernel)⟩
theorem lw_p23 : lw_okq (⟨"SweptGrantsModel", "pcc", "()I"⟩, 82) := ⟨⟨by decide +kernel, by decide +kernel⟩, List.mem_of_getElem? (i := 1134) (by decide +kernel), List.mem_of_getElem? (i := 1502) (by decide +kernel), List.mem_of_getElem? (i := 1503) (by decide +kernel)⟩
theorem lw_p24 : lw_okq (⟨"SweptGrantsModel", "refuses", "(IIII)I"⟩, 82) := ⟨⟨by decide +kernel, by decide +kernel⟩, List.mem_of_getElem? (i := 1134) (by decide +kernel), List.mem_of_getElem? (i := 1506) (by decide +kernel), List.mem_of_getElem? (i := 1507) (by decide +kernel)⟩
theorem lw_p25 : lw_okq (⟨"SweptGrantsModel", "get", "(II)I"⟩, 82) := ⟨⟨by decide +kernel, by decide +kernel⟩, List.mem_of_getElem? (i := 1134) (by decide +kernel), List.mem_of_getElem? (i := 1514) (by decide +kernel), List.mem_of_getElem? (i := 1515) (by decide +kernel)⟩
theorem lw_p26 : lw_okq (⟨"SweptGrantsModel", "isRight", "()Z"⟩, 82) := ⟨⟨by decide +kernel, by decide +kernel⟩, List.mem_of_getElem? (i := 1134) (by decide +kernel), List.mem_of_getElem? (i := 1518) (by decide +kernel), List.mem_of_getElem? (i := 1519) (by decide +kernel)⟩
theorem lw_p27 : lw_okq (⟨"SweptGrantsModel", "d", "()I"⟩, 82) := ⟨⟨by decide +kernel, by decide +kernel⟩, List.mem_of_getElem? (i := 1134) (by decide +kernel), List.mem_of_getElem? (i := 1522) (by decide +kernel), List.mem_of_getElem? (i := 1523) (by decide +kernel)⟩
theorem lw_p28 : lw_okq (⟨"SweptGrantsModel", "a", "()I"⟩, 82) := ⟨⟨by decide +kernel, by decide +kernel⟩, List.mem_of_getElem? (i := 1134) (by decide +kernel), List.mem_of_getElem? (i := 1526) (by decide +kernel), List.mem_of_getElem? (i := 1527) (by decide +kernel)⟩
theorem lw_p29 : lw_okq (⟨"SweptGrantsModel", "b", "()I"⟩, 82) := ⟨⟨by decide +kernel, by decide +kernel⟩, List.mem_of_getElem? (i := 1134) (by decide +kernel), List.mem_of_getElem? (i := 1530) (by decide +kernel), List.mem_of_getElem? (i := 1531) (by decide +kernel)⟩
theorem lw_p30 : lw_okq (⟨"SweptGrantsModel", "f", "()I"⟩, 82) := ⟨⟨by decide +kernel, by decide +kernel⟩, List.mem_of_getElem? (i := 1134) (by decide +kernel), List.mem_of_getElem? (i := 1534) (by decide +kernel), List.mem_of_getElem? (i := 1535) (by decide +kernel)⟩
theorem lw_p31 : lw_okq (⟨"SweptGrantsModel", "g", "()I"⟩, 82) := ⟨⟨by decide +kernel, by decide +kernel⟩, List.mem_of_getElem? (i := 1134) (by decide +kernel), List.mem_of_getElem? (i := 1538) (by decide +kernel), List.mem_of_getElem? (i := 1539) (by decide +kernel)⟩
def lw_privs_2 : List (MethodName × Nat) := [(⟨"SweptGrantsModel", "areEnded", "()Z"⟩, 82), (⟨"SweptGrantsModel", "step", "()V"⟩, 82), (⟨"SweptGrantsModel", "chooses", "()V"⟩, 82), (⟨"SweptGrantsModel", "isAhead", "(II)Z"⟩, 82), (⟨"SweptGrantsModel", "filter", "(I)V"⟩, 82), (⟨"SweptGrantsModel", "isGone", "(I)Z"⟩, 82), (⟨"SweptGrantsModel", "does", "()I"⟩, 82), (⟨"SweptGrantsModel", "pcc", "()I"⟩, 82), (⟨"SweptGrantsModel", "refuses", "(IIII)I"⟩, 82), (⟨"SweptGrantsModel", "get", "(II)I"⟩, 82), (⟨"SweptGrantsModel", "isRight", "()Z"⟩, 82), (⟨"SweptGrantsModel", "d", "()I"⟩, 82), (⟨"SweptGrantsModel", "a", "()I"⟩, 82), (⟨"SweptGrantsModel", "b", "()I"⟩, 82), (⟨"SweptGrantsModel", "f", "()I"⟩, 82), (⟨"SweptGrantsModel", "g", "()I"⟩, 82)]
theorem lw_r2 : ∀ q ∈ lw_privs_2, lw_okq q := List.forall_mem_cons.mpr ⟨lw_p16, List.forall_mem_cons.mpr ⟨lw_p17, List.forall_mem_cons.mpr ⟨lw_p18, List.forall_mem_cons.mpr ⟨lw_p19, List.forall_mem_cons.mpr ⟨lw_p20, List.forall_mem_cons.mpr ⟨lw_p21, List.forall_mem_cons.mpr ⟨lw_p22, List.forall_mem_cons.mpr ⟨lw_p23, List.forall_mem_cons.mpr ⟨lw_p24, List.forall_mem_cons.mpr ⟨lw_p25, List.forall_mem_cons.mpr ⟨lw_p26, List.forall_mem_cons.mpr ⟨lw_p27, List.forall_mem_cons.mpr ⟨lw_p28, List.forall_mem_cons.mpr ⟨lw_p29, List.forall_mem_cons.mpr ⟨lw_p30, List.forall_mem_cons.mpr ⟨lw_p31, fun _ h => absurd h List.not_mem_nil⟩⟩⟩⟩⟩⟩⟩⟩⟩⟩⟩⟩⟩⟩⟩⟩
theorem lw_p32 : lw_okq (⟨"SweptGrantsModel", "writes", "(II)V"⟩, 82) := ⟨⟨by decide +kernel, by decide +kernel⟩, List.mem_of_getElem? (i := 1134) (by decide +kernel), List.mem_of_getElem? (i := 1542) (by decide +kernel), List.mem_of_getElem? (i := 1543) (by decide +kernel)⟩
theorem lw_p33 : lw_okq (⟨"SweptGrantsModel", "number", "(II)V"⟩, 82) := ⟨⟨by decide +kernel, by decide +kernel⟩, List.mem_of_getElem? (i := 1134) (by decide +kernel), List.mem_of_getElem? (i := 1546) (by decide +kernel), List.mem_of_getElem? (i := 1547) (by decide +kernel)⟩
theorem lw_p34 : lw_okq (⟨"SweptGrantsModel", "goesOn", "()V"⟩, 82) := ⟨⟨by decide +kernel, by decide +kernel⟩, List.mem_of_getElem? (i := 1134) (by decide +kernel), List.mem_of_getElem? (i := 1550) (by decide +kernel), List.mem_of_getElem? (i := 1551) (by decide +kernel)⟩
theorem lw_p35 : lw_okq (⟨"SweptGrantsModel", "copy", "(II)V"⟩, 82) := ⟨⟨by decide +kernel, by decide +kernel⟩, List.mem_of_getElem? (i := 1134) (by decide +kernel), List.mem_of_getElem? (i := 1554) (by decide +kernel), List.mem_of_getElem? (i := 1555) (by decide +kernel)⟩
theorem lw_p36 : lw_okq (⟨"SweptGrantsModel", "comes", "(II)V"⟩, 82) := ⟨⟨by decide +kernel, by decide +kernel⟩, List.mem_of_getElem? (i := 1134) (by decide +kernel), List.mem_of_getElem? (i := 1558) (by decide +kernel), List.mem_of_getElem? (i := 1559) (by decide +kernel)⟩
theorem lw_p37 : lw_okq (⟨"SweptGrantsModel", "link", "()V"⟩, 82) := ⟨⟨by decide +kernel, by decide +kernel⟩, List.mem_of_getElem? (i := 1134) (by decide +kernel), List.mem_of_getElem? (i := 1563) (by decide +kernel), List.mem_of_getElem? (i := 1564) (by decide +kernel)⟩
theorem lw_p38 : lw_okq (⟨"SweptGrantsModel", "value", "(I)I"⟩, 82) := ⟨⟨by decide +kernel, by decide +kernel⟩, List.mem_of_getElem? (i := 1134) (by decide +kernel), List.mem_of_getElem? (i := 1567) (by decide +kernel), List.mem_of_getElem? (i := 1568) (by decide +kernel)⟩
theorem lw_p39 : lw_okq (⟨"SweptGrantsModel", "loads", "(I)I"⟩, 82) := ⟨⟨by decide +kernel, by decide +kernel⟩, List.mem_of_getElem? (i := 1134) (by decide +kernel), List.mem_of_getElem? (i := 1580) (by decide +kernel), List.mem_of_getElem? (i := 1581) (by decide +kernel)⟩
theorem lw_p40 : lw_okq (⟨"SweptGrantsModel", "isDevice", "(I)Z"⟩, 82) := ⟨⟨by decide +kernel, by decide +kernel⟩, List.mem_of_getElem? (i := 1134) (by decide +kernel), List.mem_of_getElem? (i := 1584) (by decide +kernel), List.mem_of_getElem? (i := 1585) (by decide +kernel)⟩
theorem lw_p41 : lw_okq (⟨"SweptGrantsModel", "device", "(I)I"⟩, 82) := ⟨⟨by decide +kernel, by decide +kernel⟩, List.mem_of_getElem? (i := 1134) (by decide +kernel), List.mem_of_getElem? (i := 1589) (by decide +kernel), List.mem_of_getElem? (i := 1590) (by decide +kernel)⟩
theorem lw_p42 : lw_okq (⟨"SweptGrantsModel", "getCapability", "(II)V"⟩, 82) := ⟨⟨by decide +kernel, by decide +kernel⟩, List.mem_of_getElem? (i := 1134) (by decide +kernel), List.mem_of_getElem? (i := 1593) (by decide +kernel), List.mem_of_getElem? (i := 1594) (by decide +kernel)⟩
theorem lw_p43 : lw_okq (⟨"SweptGrantsModel", "stores", "(I)I"⟩, 82) := ⟨⟨by decide +kernel, by decide +kernel⟩, List.mem_of_getElem? (i := 1134) (by decide +kernel), List.mem_of_getElem? (i := 1597) (by decide +kernel), List.mem_of_getElem? (i := 1598) (by decide +kernel)⟩
theorem lw_p44 : lw_okq (⟨"SweptGrantsModel", "writesOut", "(I)V"⟩, 82) := ⟨⟨by decide +kernel, by decide +kernel⟩, List.mem_of_getElem? (i := 1134) (by decide +kernel), List.mem_of_getElem? (i := 1601) (by decide +kernel), List.mem_of_getElem? (i := 1602) (by decide +kernel)⟩
theorem lw_p45 : lw_okq (⟨"SweptGrantsModel", "shapes", "(I)V"⟩, 82) := ⟨⟨by decide +kernel, by decide +kernel⟩, List.mem_of_getElem? (i := 1134) (by decide +kernel), List.mem_of_getElem? (i := 1605) (by decide +kernel), List.mem_of_getElem? (i := 1606) (by decide +kernel)⟩
theorem lw_p46 : lw_okq (⟨"SweptGrantsModel", "asks", "(I)V"⟩, 82) := ⟨⟨by decide +kernel, by decide +kernel⟩, List.mem_of_getElem? (i := 1134) (by decide +kernel), List.mem_of_getElem? (i := 1609) (by decide +kernel), List.mem_of_getElem? (i := 1610) (by decide +kernel)⟩
theorem lw_p47 : lw_okq (⟨"SweptGrantsModel", "bounds", "(IJZ)V"⟩, 82) := ⟨⟨by decide +kernel, by decide +kernel⟩, List.mem_of_getElem? (i := 1134) (by decide +kernel), List.mem_of_getElem? (i := 1613) (by decide +kernel), List.mem_of_getElem? (i := 1614) (by decide +kernel)⟩
def lw_privs_3 : List (MethodName × Nat) := [(⟨"SweptGrantsModel", "writes", "(II)V"⟩, 82), (⟨"SweptGrantsModel", "number", "(II)V"⟩, 82), (⟨"SweptGrantsModel", "goesOn", "()V"⟩, 82), (⟨"SweptGrantsModel", "copy", "(II)V"⟩, 82), (⟨"SweptGrantsModel", "comes", "(II)V"⟩, 82), (⟨"SweptGrantsModel", "link", "()V"⟩, 82), (⟨"SweptGrantsModel", "value", "(I)I"⟩, 82), (⟨"SweptGrantsModel", "loads", "(I)I"⟩, 82), (⟨"SweptGrantsModel", "isDevice", "(I)Z"⟩, 82), (⟨"SweptGrantsModel", "device", "(I)I"⟩, 82), (⟨"SweptGrantsModel", "getCapability", "(II)V"⟩, 82), (⟨"SweptGrantsModel", "stores", "(I)I"⟩, 82), (⟨"SweptGrantsModel", "writesOut", "(I)V"⟩, 82), (⟨"SweptGrantsModel", "shapes", "(I)V"⟩, 82), (⟨"SweptGrantsModel", "asks", "(I)V"⟩, 82), (⟨"SweptGrantsModel", "bounds", "(IJZ)V"⟩, 82)]
theorem lw_r3 : ∀ q ∈ lw_privs_3, lw_okq q := List.forall_mem_cons.mpr ⟨lw_p32, List.forall_mem_cons.mpr ⟨lw_p33, List.forall_mem_cons.mpr ⟨lw_p34, List.forall_mem_cons.mpr ⟨lw_p35, List.forall_mem_cons.mpr ⟨lw_p36, List.forall_mem_cons.mpr ⟨lw_p37, List.forall_mem_cons.mpr ⟨lw_p38, List.forall_mem_cons.mpr ⟨lw_p39, List.forall_mem_cons.mpr ⟨lw_p40, List.forall_mem_cons.mpr ⟨lw_p41, List.forall_mem_cons.mpr ⟨lw_p42, List.forall_mem_cons.mpr ⟨lw_p43, List.forall_mem_cons.mpr ⟨lw_p44, List.forall_mem_cons.mpr ⟨lw_p45, List.forall_mem_cons.mpr ⟨lw_p46, List.forall_mem_cons.mpr ⟨lw_p47, fun _ h => absurd h List.not_mem_nil⟩⟩⟩⟩⟩⟩⟩⟩⟩⟩⟩⟩⟩⟩⟩⟩
theorem lw_p48 : lw_okq (⟨"SweptGrantsModel", "seals", "(IIZ)V"⟩, 82) := ⟨⟨by decide +kernel, by decide +kernel⟩, List.mem_of_getElem? (i := 1134) (by decide +kernel), List.mem_of_getElem? (i := 1617) (by decide +kernel), List.mem_of_getElem? (i := 1618) (by decide +kernel)⟩
theorem lw_p49 : lw_okq (⟨"SweptGrantsModel", "isWithin", "(II)Z"⟩, 82) := ⟨⟨by decide +kernel, by decide +kernel⟩, List.mem_of_getElem? (i := 1134) (by decide +kernel), List.mem_of_getElem? (i := 1623) (by decide +kernel), List.mem_of_getElem? (i := 1624) (by decide +kernel)⟩
theorem lw_p50 : lw_okq (⟨"SweptGrantsModel", "isLike", "(II)Z"⟩, 82) := ⟨⟨by decide +kernel, by decide +kernel⟩, List.mem_of_getElem? (i := 1134) (by decide +kernel), List.mem_of_getElem? (i := 1627) (by decide +kernel), List.mem_of_getElem? (i := 1628) (by decide +kernel)⟩
theorem lw_p51 : lw_okq (⟨"SweptGrantsModel", "jumps", "(I)I"⟩, 82) := ⟨⟨by decide +kernel, by decide +kernel⟩, List.mem_of_getElem? (i := 1134) (by decide +kernel), List.mem_of_getElem? (i := 1631) (by decide +kernel), List.mem_of_getElem? (i := 1632) (by decide +kernel)⟩
theorem lw_p52 : lw_okq (⟨"SweptGrantsModel", "isStack", "()Z"⟩, 82) := ⟨⟨by decide +kernel, by decide +kernel⟩, List.mem_of_getElem? (i := 1134) (by decide +kernel), List.mem_of_getElem? (i := 1635) (by decide +kernel), List.mem_of_getElem? (i := 1636) (by decide +kernel)⟩
theorem lw_p53 : lw_okq (⟨"SweptGrantsModel", "call", "(I)V"⟩, 82) := ⟨⟨by decide +kernel, by decide +kernel⟩, List.mem_of_getElem? (i := 1134) (by decide +kernel), List.mem_of_getElem? (i := 1639) (by decide +kernel), List.mem_of_getElem? (i := 1640) (by decide +kernel)⟩
theorem lw_p54 : lw_okq (⟨"SweptGrantsModel", "wipe", "(II)V"⟩, 82) := ⟨⟨by decide +kernel, by decide +kernel⟩, List.mem_of_getElem? (i := 1134) (by decide +kernel), List.mem_of_getElem? (i := 1646) (by decide +kernel), List.mem_of_getElem? (i := 1647) (by decide +kernel)⟩
theorem lw_p55 : lw_okq (⟨"SweptGrantsModel", "returns", "()V"⟩, 82) := ⟨⟨by decide +kernel, by decide +kernel⟩, List.mem_of_getElem? (i := 1134) (by decide +kernel), List.mem_of_getElem? (i := 1650) (by decide +kernel), List.mem_of_getElem? (i := 1651) (by decide +kernel)⟩
theorem lw_p56 : lw_okq (⟨"SweptGrantsModel", "empties", "()V"⟩, 82) := ⟨⟨by decide +kernel, by decide +kernel⟩, List.mem_of_getElem? (i := 1134) (by decide +kernel), List.mem_of_getElem? (i := 1654) (by decide +kernel), List.mem_of_getElem? (i := 1655) (by decide +kernel)⟩
theorem lw_p57 : lw_okq (⟨"SweptGrantsModel", "service", "(I)V"⟩, 82) := ⟨⟨by decide +kernel, by decide +kernel⟩, List.mem_of_getElem? (i := 1134) (by decide +kernel), List.mem_of_getElem? (i := 1658) (by decide +kernel), List.mem_of_getElem? (i := 1659) (by decide +kernel)⟩
theorem lw_p58 : lw_okq (⟨"SweptGrantsModel", "serves", "(IIII)V"⟩, 82) := ⟨⟨by decide +kernel, by decide +kernel⟩, List.mem_of_getElem? (i := 1134) (by decide +kernel), List.mem_of_getElem? (i := 1662) (by decide +kernel), List.mem_of_getElem? (i := 1663) (by decide +kernel)⟩
theorem lw_p59 : lw_okq (⟨"SweptGrantsModel", "alloc", "(I)V"⟩, 82) := ⟨⟨by decide +kernel, by decide +kernel⟩, List.mem_of_getElem? (i := 1134) (by decide +kernel), List.mem_of_getElem? (i := 1666) (by decide +kernel), List.mem_of_getElem? (i := 1667) (by decide +kernel)⟩
theorem lw_p60 : lw_okq (⟨"SweptGrantsModel", "gets", "(II)Z"⟩, 82) := ⟨⟨by decide +kernel, by decide +kernel⟩, List.mem_of_getElem? (i := 1134) (by decide +kernel), List.mem_of_getElem? (i := 1670) (by decide +kernel), List.mem_of_getElem? (i := 1671) (by decide +kernel)⟩
theorem lw_p61 : lw_okq (⟨"SweptGrantsModel", "takes", "(I)I"⟩, 82) := ⟨⟨by decide +kernel, by decide +kernel⟩, List.mem_of_getElem? (i := 1134) (by decide +kernel), List.mem_of_getElem? (i := 1674) (by decide +kernel), List.mem_of_getElem? (i := 1675) (by decide +kernel)⟩
theorem lw_p62 : lw_okq (⟨"SweptGrantsModel", "anyFreed", "()Z"⟩, 82) := ⟨⟨by decide +kernel, by decide +kernel⟩, List.mem_of_getElem? (i := 1134) (by decide +kernel), List.mem_of_getElem? (i := 1678) (by decide +kernel), List.mem_of_getElem? (i := 1679) (by decide +kernel)⟩
theorem lw_p63 : lw_okq (⟨"SweptGrantsModel", "free", "(I)Z"⟩, 82) := ⟨⟨by decide +kernel, by decide +kernel⟩, List.mem_of_getElem? (i := 1134) (by decide +kernel), List.mem_of_getElem? (i := 1682) (by decide +kernel), List.mem_of_getElem? (i := 1683) (by decide +kernel)⟩
def lw_privs_4 : List (MethodName × Nat) := [(⟨"SweptGrantsModel", "seals", "(IIZ)V"⟩, 82), (⟨"SweptGrantsModel", "isWithin", "(II)Z"⟩, 82), (⟨"SweptGrantsModel", "isLike", "(II)Z"⟩, 82), (⟨"SweptGrantsModel", "jumps", "(I)I"⟩, 82), (⟨"SweptGrantsModel", "isStack", "()Z"⟩, 82), (⟨"SweptGrantsModel", "call", "(I)V"⟩, 82), (⟨"SweptGrantsModel", "wipe", "(II)V"⟩, 82), (⟨"SweptGrantsModel", "returns", "()V"⟩, 82), (⟨"SweptGrantsModel", "empties", "()V"⟩, 82), (⟨"SweptGrantsModel", "service", "(I)V"⟩, 82), (⟨"SweptGrantsModel", "serves", "(IIII)V"⟩, 82), (⟨"SweptGrantsModel", "alloc", "(I)V"⟩, 82), (⟨"SweptGrantsModel", "gets", "(II)Z"⟩, 82), (⟨"SweptGrantsModel", "takes", "(I)I"⟩, 82), (⟨"SweptGrantsModel", "anyFreed", "()Z"⟩, 82), (⟨"SweptGrantsModel", "free", "(I)Z"⟩, 82)]
theorem lw_r4 : ∀ q ∈ lw_privs_4, lw_okq q := List.forall_mem_cons.mpr ⟨lw_p48, List.forall_mem_cons.mpr ⟨lw_p49, List.forall_mem_cons.mpr ⟨lw_p50, List.forall_mem_cons.mpr ⟨lw_p51, List.forall_mem_cons.mpr ⟨lw_p52, List.forall_mem_cons.mpr ⟨lw_p53, List.forall_mem_cons.mpr ⟨lw_p54, List.forall_mem_cons.mpr ⟨lw_p55, List.forall_mem_cons.mpr ⟨lw_p56, List.forall_mem_cons.mpr ⟨lw_p57, List.forall_mem_cons.mpr ⟨lw_p58, List.forall_mem_cons.mpr ⟨lw_p59, List.forall_mem_cons.mpr ⟨lw_p60, List.forall_mem_cons.mpr ⟨lw_p61, List.forall_mem_cons.mpr ⟨lw_p62, List.forall_mem_cons.mpr ⟨lw_p63, fun _ h => absurd h List.not_mem_nil⟩⟩⟩⟩⟩⟩⟩⟩⟩⟩⟩⟩⟩⟩⟩⟩
theorem lw_p64 : lw_okq (⟨"SweptGrantsModel", "answers", "(I)V"⟩, 82) := ⟨⟨by decide +kernel, by decide +kernel⟩, List.mem_of_getElem? (i := 1134) (by decide +kernel), List.mem_of_getElem? (i := 1686) (by decide +kernel), List.mem_of_getElem? (i := 1687) (by decide +kernel)⟩
theorem lw_p65 : lw_okq (⟨"SweptGrantsModel", "sleeps", "(I)V"⟩, 82) := ⟨⟨by decide +kernel, by decide +kernel⟩, List.mem_of_getElem? (i := 1134) (by decide +kernel), List.mem_of_getElem? (i := 1690) (by decide +kernel), List.mem_of_getElem? (i := 1691) (by decide +kernel)⟩
theorem lw_p66 : lw_okq (⟨"SweptGrantsModel", "waits", "(III)V"⟩, 82) := ⟨⟨by decide +kernel, by decide +kernel⟩, List.mem_of_getElem? (i := 1134) (by decide +kernel), List.mem_of_getElem? (i := 1694) (by decide +kernel), List.mem_of_getElem? (i := 1695) (by decide +kernel)⟩
theorem lw_p67 : lw_okq (⟨"SweptGrantsModel", "isWord", "(II)Z"⟩, 82) := ⟨⟨by decide +kernel, by decide +kernel⟩, List.mem_of_getElem? (i := 1134) (by decide +kernel), List.mem_of_getElem? (i := 1698) (by decide +kernel), List.mem_of_getElem? (i := 1699) (by decide +kernel)⟩
theorem lw_p68 : lw_okq (⟨"SweptGrantsModel", "wakes", "(IJ)I"⟩, 82) := ⟨⟨by decide +kernel, by decide +kernel⟩, List.mem_of_getElem? (i := 1134) (by decide +kernel), List.mem_of_getElem? (i := 1702) (by decide +kernel), List.mem_of_getElem? (i := 1703) (by decide +kernel)⟩
theorem lw_p69 : lw_okq (⟨"SweptGrantsModel", "freeBytes", "()I"⟩, 82) := ⟨⟨by decide +kernel, by decide +kernel⟩, List.mem_of_getElem? (i := 1134) (by decide +kernel), List.mem_of_getElem? (i := 1706) (by decide +kernel), List.mem_of_getElem? (i := 1707) (by decide +kernel)⟩
theorem lw_p70 : lw_okq (⟨"SweptGrantsModel", "sweep", "()V"⟩, 82) := ⟨⟨by decide +kernel, by decide +kernel⟩, List.mem_of_getElem? (i := 1134) (by decide +kernel), List.mem_of_getElem? (i := 1710) (by decide +kernel), List.mem_of_getElem? (i := 1711) (by decide +kernel)⟩
theorem lw_p71 : lw_okq (⟨"SweptGrantsModel", "isMore", "(I)Z"⟩, 82) := ⟨⟨by decide +kernel, by decide +kernel⟩, List.mem_of_getElem? (i := 1134) (by decide +kernel), List.mem_of_getElem? (i := 1755) (by decide +kernel), List.mem_of_getElem? (i := 1756) (by decide +kernel)⟩
theorem lw_p72 : lw_okq (⟨"SweptGrantsModel", "isStray", "(I)Z"⟩, 82) := ⟨⟨by decide +kernel, by decide +kernel⟩, List.mem_of_getElem? (i := 1134) (by decide +kernel), List.mem_of_getElem? (i := 1760) (by decide +kernel), List.mem_of_getElem? (i := 1761) (by decide +kernel)⟩
def lw_privs_5 : List (MethodName × Nat) := [(⟨"SweptGrantsModel", "answers", "(I)V"⟩, 82), (⟨"SweptGrantsModel", "sleeps", "(I)V"⟩, 82), (⟨"SweptGrantsModel", "waits", "(III)V"⟩, 82), (⟨"SweptGrantsModel", "isWord", "(II)Z"⟩, 82), (⟨"SweptGrantsModel", "wakes", "(IJ)I"⟩, 82), (⟨"SweptGrantsModel", "freeBytes", "()I"⟩, 82), (⟨"SweptGrantsModel", "sweep", "()V"⟩, 82), (⟨"SweptGrantsModel", "isMore", "(I)Z"⟩, 82), (⟨"SweptGrantsModel", "isStray", "(I)Z"⟩, 82)]
theorem lw_r5 : ∀ q ∈ lw_privs_5, lw_okq q := List.forall_mem_cons.mpr ⟨lw_p64, List.forall_mem_cons.mpr ⟨lw_p65, List.forall_mem_cons.mpr ⟨lw_p66, List.forall_mem_cons.mpr ⟨lw_p67, List.forall_mem_cons.mpr ⟨lw_p68, List.forall_mem_cons.mpr ⟨lw_p69, List.forall_mem_cons.mpr ⟨lw_p70, List.forall_mem_cons.mpr ⟨lw_p71, List.forall_mem_cons.mpr ⟨lw_p72, fun _ h => absurd h List.not_mem_nil⟩⟩⟩⟩⟩⟩⟩⟩⟩
def lw_privs : List (MethodName × Nat) := lw_privs_1 ++ (lw_privs_2 ++ (lw_privs_3 ++ (lw_privs_4 ++ (lw_privs_5))))
def lw_tbl : List Cond := k2_sels lw_privs ++ tables_1
theorem lw_privs_ok : ∀ q ∈ lw_privs, lw_okq q := by
  show ∀ q ∈ lw_privs_1 ++ (lw_privs_2 ++ (lw_privs_3 ++ (lw_privs_4 ++ (lw_privs_5)))), lw_okq q
  exact List.forall_mem_append.mpr ⟨lw_r1, List.forall_mem_append.mpr ⟨lw_r2, List.forall_mem_append.mpr ⟨lw_r3, List.forall_mem_append.mpr ⟨lw_r4, lw_r5⟩⟩⟩⟩
def RX0 : String := "SweptGrants$Cap"
def TX0 : u_T := fun k => match k with
  | 0 => ("SweptGrants$Cap", "cursor", "I", false)
  | 1 => ("SweptGrants$Cap", "base", "I", false)
  | 2 => ("SweptGrants$Cap", "top", "I", false)
  | 3 => ("SweptGrants$Cap", "perms", "I", false)
  | 4 => ("SweptGrants$Cap", "type", "I", false)
  | _ => ("SweptGrants$Cap", "tagged", "Z", false)
def tyX0 : Nat → FieldType := fun k => match k with
  | 0 => .int
  | 1 => .int
  | 2 => .int
  | 3 => .int
  | 4 => .int
  | _ => .boolean
abbrev wsX00 : List Cond := u_ws RX0 TX0 6
theorem nmX0 : ∀ a, a < 6 → ∀ b, b < 6 → a ≠ b → (TX0 a).2.1 ≠ (TX0 b).2.1 := by decide +kernel
theorem tyX0_ok : ∀ k, k < 6 → parseFieldDescriptor (TX0 k).2.2.1 = some (tyX0 k) := by decide +kernel
abbrev cX0_init : ByteArray := prog_2_method_1_code
def yX0_init : MethodName := ⟨RX0, "<init>", "()V"⟩
abbrev cX0_set : ByteArray := prog_2_method_2_code
def yX0_set : MethodName := ⟨RX0, "set", "(IIIIIZ)V"⟩
abbrev cX0_copy : ByteArray := prog_2_method_3_code
def yX0_copy : MethodName := ⟨RX0, "copy", "(LSweptGrants$Cap;)V"⟩
abbrev cX0_number : ByteArray := prog_2_method_4_code
def yX0_number : MethodName := ⟨RX0, "number", "(I)V"⟩
abbrev cX0_clear : ByteArray := prog_2_method_5_code
def yX0_clear : MethodName := ⟨RX0, "clear", "()V"⟩
abbrev cX0_has : ByteArray := prog_2_method_6_code
def yX0_has : MethodName := ⟨RX0, "has", "(I)Z"⟩
abbrev cX0_isPlainWith : ByteArray := prog_2_method_7_code
def yX0_isPlainWith : MethodName := ⟨RX0, "isPlainWith", "(I)Z"⟩
abbrev cX0_holds : ByteArray := prog_2_method_8_code
def yX0_holds : MethodName := ⟨RX0, "holds", "(II)Z"⟩
abbrev cX0_faultFor : ByteArray := prog_2_method_9_code
def yX0_faultFor : MethodName := ⟨RX0, "faultFor", "(III)I"⟩
abbrev cX0_moveTo : ByteArray := prog_2_method_10_code
def yX0_moveTo : MethodName := ⟨RX0, "moveTo", "(I)V"⟩
abbrev cX0_narrow : ByteArray := prog_2_method_11_code
def yX0_narrow : MethodName := ⟨RX0, "narrow", "(J)V"⟩
abbrev cX0_limit : ByteArray := prog_2_method_12_code
def yX0_limit : MethodName := ⟨RX0, "limit", "(I)V"⟩
abbrev cX0_canSeal : ByteArray := prog_2_method_13_code
def yX0_canSeal : MethodName := ⟨RX0, "canSeal", "()Z"⟩
abbrev cX0_seal : ByteArray := prog_2_method_14_code
def yX0_seal : MethodName := ⟨RX0, "seal", "(LSweptGrants$Cap;)V"⟩
abbrev cX0_unseal : ByteArray := prog_2_method_15_code
def yX0_unseal : MethodName := ⟨RX0, "unseal", "(LSweptGrants$Cap;)V"⟩
abbrev cX0_becomeEntry : ByteArray := prog_2_method_16_code
def yX0_becomeEntry : MethodName := ⟨RX0, "becomeEntry", "(I)V"⟩
abbrev cX0_isWithin : ByteArray := prog_2_method_17_code
def yX0_isWithin : MethodName := ⟨RX0, "isWithin", "(LSweptGrants$Cap;)Z"⟩
abbrev cX0_isLike : ByteArray := prog_2_method_18_code
def yX0_isLike : MethodName := ⟨RX0, "isLike", "(LSweptGrants$Cap;)Z"⟩
abbrev cX0_part : ByteArray := prog_2_method_19_code
def yX0_part : MethodName := ⟨RX0, "part", "(I)J"⟩
def RX1 : String := "SweptGrants$Compartment"
def TX1 : u_T := fun k => match k with
  | 0 => ("SweptGrants$Compartment", "entries", "[I", true)
  | 1 => ("SweptGrants$Compartment", "interrupts", "[I", true)
  | 2 => ("SweptGrants$Compartment", "words", "I", false)
  | 3 => ("SweptGrants$Compartment", "globals", "I", false)
  | 4 => ("SweptGrants$Compartment", "exports", "I", false)
  | 5 => ("SweptGrants$Compartment", "imports", "I", false)
  | 6 => ("SweptGrants$Compartment", "importsText", "I", false)
  | 7 => ("SweptGrants$Compartment", "codeText", "I", false)
  | 8 => ("SweptGrants$Compartment", "codeAt", "I", false)
  | 9 => ("SweptGrants$Compartment", "importsAt", "I", false)
  | 10 => ("SweptGrants$Compartment", "globalsAt", "I", false)
  | _ => ("SweptGrants$Compartment", "behind", "I", false)
def tyX1 : Nat → FieldType := fun k => match k with
  | 0 => .array .int
  | 1 => .array .int
  | 2 => .int
  | 3 => .int
  | 4 => .int
  | 5 => .int
  | 6 => .int
  | 7 => .int
  | 8 => .int
  | 9 => .int
  | 10 => .int
  | _ => .int
abbrev wsX10 : List Cond := u_ws RX1 TX1 12
theorem nmX1 : ∀ a, a < 12 → ∀ b, b < 12 → a ≠ b → (TX1 a).2.1 ≠ (TX1 b).2.1 := by decide +kernel
theorem tyX1_ok : ∀ k, k < 12 → parseFieldDescriptor (TX1 k).2.2.1 = some (tyX1 k) := by decide +kernel
abbrev cX1_init : ByteArray := prog_3_method_1_code
def yX1_init : MethodName := ⟨RX1, "<init>", "()V"⟩
abbrev cX1_arrange : ByteArray := prog_3_method_2_code
def yX1_arrange : MethodName := ⟨RX1, "arrange", "(I)I"⟩
abbrev cX1_hasExport : ByteArray := prog_3_method_3_code
def yX1_hasExport : MethodName := ⟨RX1, "hasExport", "(I)Z"⟩
abbrev cX1_codeTo : ByteArray := prog_3_method_4_code
def yX1_codeTo : MethodName := ⟨RX1, "codeTo", "(LSweptGrants$Cap;I)V"⟩
abbrev cX1_globalsTo : ByteArray := prog_3_method_5_code
def yX1_globalsTo : MethodName := ⟨RX1, "globalsTo", "(LSweptGrants$Cap;I)V"⟩
abbrev cX1_interruptsAt : ByteArray := prog_3_method_6_code
def yX1_interruptsAt : MethodName := ⟨RX1, "interruptsAt", "(IZ)Z"⟩
abbrev cX1_part : ByteArray := prog_3_method_7_code
def yX1_part : MethodName := ⟨RX1, "part", "(I)I"⟩
def RX2 : String := "SweptGrants$Cpu"
def TX2 : u_T := fun k => match k with
  | _ => ("", "", "", false)
def tyX2 : Nat → FieldType := fun k => match k with
  | _ => .int
abbrev wsX20 : List Cond := u_ws RX2 TX2 0
theorem nmX2 : ∀ a, a < 0 → ∀ b, b < 0 → a ≠ b → (TX2 a).2.1 ≠ (TX2 b).2.1 := by decide +kernel
theorem tyX2_ok : ∀ k, k < 0 → parseFieldDescriptor (TX2 k).2.2.1 = some (tyX2 k) := by decide +kernel
abbrev cX2_f : ByteArray := prog_4_method_2_code
def yX2_f : MethodName := ⟨RX2, "f", "(I)I"⟩
abbrev cX2_g : ByteArray := prog_4_method_3_code
def yX2_g : MethodName := ⟨RX2, "g", "(I)I"⟩
abbrev cX2_dField : ByteArray := prog_4_method_4_code
def yX2_dField : MethodName := ⟨RX2, "dField", "(I)I"⟩
abbrev cX2_aField : ByteArray := prog_4_method_5_code
def yX2_aField : MethodName := ⟨RX2, "aField", "(I)I"⟩
abbrev cX2_bField : ByteArray := prog_4_method_6_code
def yX2_bField : MethodName := ⟨RX2, "bField", "(I)I"⟩
abbrev cX2_immediate : ByteArray := prog_4_method_7_code
def yX2_immediate : MethodName := ⟨RX2, "immediate", "(I)I"⟩
abbrev cX2_storeOffset : ByteArray := prog_4_method_8_code
def yX2_storeOffset : MethodName := ⟨RX2, "storeOffset", "(I)I"⟩
abbrev cX2_branchOffset : ByteArray := prog_4_method_9_code
def yX2_branchOffset : MethodName := ⟨RX2, "branchOffset", "(I)I"⟩
abbrev cX2_jumpOffset : ByteArray := prog_4_method_10_code
def yX2_jumpOffset : MethodName := ⟨RX2, "jumpOffset", "(I)I"⟩
abbrev cX2_instruction : ByteArray := prog_4_method_11_code
def yX2_instruction : MethodName := ⟨RX2, "instruction", "(LSweptGrants$World;)V"⟩
abbrev cX2_isLegal : ByteArray := prog_4_method_12_code
def yX2_isLegal : MethodName := ⟨RX2, "isLegal", "(I)Z"⟩
abbrev cX2_isLegalCapability : ByteArray := prog_4_method_13_code
def yX2_isLegalCapability : MethodName := ⟨RX2, "isLegalCapability", "(III)Z"⟩
abbrev cX2_execute : ByteArray := prog_4_method_14_code
def yX2_execute : MethodName := ⟨RX2, "execute", "(LSweptGrants$World;LSweptGrants$Task;I)I"⟩
abbrev cX2_link : ByteArray := prog_4_method_15_code
def yX2_link : MethodName := ⟨RX2, "link", "(LSweptGrants$Task;LSweptGrants$Cap;)V"⟩
abbrev cX2_branches : ByteArray := prog_4_method_16_code
def yX2_branches : MethodName := ⟨RX2, "branches", "(LSweptGrants$Task;I)Z"⟩
abbrev cX2_withImmediate : ByteArray := prog_4_method_17_code
def yX2_withImmediate : MethodName := ⟨RX2, "withImmediate", "(LSweptGrants$Task;I)I"⟩
abbrev cX2_withRegisters : ByteArray := prog_4_method_18_code
def yX2_withRegisters : MethodName := ⟨RX2, "withRegisters", "(LSweptGrants$Task;I)I"⟩
abbrev cX2_combine : ByteArray := prog_4_method_19_code
def yX2_combine : MethodName := ⟨RX2, "combine", "(IIIZ)I"⟩
abbrev cX2_multiply : ByteArray := prog_4_method_20_code
def yX2_multiply : MethodName := ⟨RX2, "multiply", "(III)I"⟩
abbrev cX2_divide : ByteArray := prog_4_method_21_code
def yX2_divide : MethodName := ⟨RX2, "divide", "(III)I"⟩
abbrev cX2_sizeOf : ByteArray := prog_4_method_22_code
def yX2_sizeOf : MethodName := ⟨RX2, "sizeOf", "(I)I"⟩
abbrev cX2_isDevice : ByteArray := prog_4_method_23_code
def yX2_isDevice : MethodName := ⟨RX2, "isDevice", "(I)Z"⟩
abbrev cX2_load : ByteArray := prog_4_method_24_code
def yX2_load : MethodName := ⟨RX2, "load", "(LSweptGrants$World;LSweptGrants$Task;I)I"⟩
abbrev cX2_withSign : ByteArray := prog_4_method_25_code
def yX2_withSign : MethodName := ⟨RX2, "withSign", "(II)I"⟩
abbrev cX2_write : ByteArray := prog_4_method_26_code
def yX2_write : MethodName := ⟨RX2, "write", "(LSweptGrants$World;LSweptGrants$Task;I)I"⟩
abbrev cX2_capability : ByteArray := prog_4_method_27_code
def yX2_capability : MethodName := ⟨RX2, "capability", "(LSweptGrants$World;LSweptGrants$Task;I)V"⟩
abbrev cX2_derive : ByteArray := prog_4_method_28_code
def yX2_derive : MethodName := ⟨RX2, "derive", "(LSweptGrants$Cap;LSweptGrants$Cap;I)V"⟩
abbrev cX2_inspect : ByteArray := prog_4_method_29_code
def yX2_inspect : MethodName := ⟨RX2, "inspect", "(LSweptGrants$Cap;IZ)V"⟩
abbrev cX2_jumpFault : ByteArray := prog_4_method_30_code
def yX2_jumpFault : MethodName := ⟨RX2, "jumpFault", "(LSweptGrants$Cap;I)I"⟩
abbrev cX2_jumpTo : ByteArray := prog_4_method_31_code
def yX2_jumpTo : MethodName := ⟨RX2, "jumpTo", "(LSweptGrants$World;LSweptGrants$Task;I)I"⟩
abbrev cX2_enter : ByteArray := prog_4_method_32_code
def yX2_enter : MethodName := ⟨RX2, "enter", "(LSweptGrants$Task;LSweptGrants$Cap;I)V"⟩
abbrev cX2_call : ByteArray := prog_4_method_33_code
def yX2_call : MethodName := ⟨RX2, "call", "(LSweptGrants$World;LSweptGrants$Task;I)I"⟩
def RX3 : String := "SweptGrants$Frame"
def TX3 : u_T := fun k => match k with
  | 0 => ("SweptGrants$Frame", "pcc", "LSweptGrants$Cap;", true)
  | 1 => ("SweptGrants$Frame", "c2", "LSweptGrants$Cap;", true)
  | 2 => ("SweptGrants$Frame", "c3", "LSweptGrants$Cap;", true)
  | 3 => ("SweptGrants$Frame", "c8", "LSweptGrants$Cap;", true)
  | 4 => ("SweptGrants$Frame", "c9", "LSweptGrants$Cap;", true)
  | 5 => ("SweptGrants$Frame", "interrupts", "Z", false)
  | _ => ("SweptGrants$Frame", "compartment", "I", false)
def tyX3 : Nat → FieldType := fun k => match k with
  | 0 => .object "SweptGrants$Cap"
  | 1 => .object "SweptGrants$Cap"
  | 2 => .object "SweptGrants$Cap"
  | 3 => .object "SweptGrants$Cap"
  | 4 => .object "SweptGrants$Cap"
  | 5 => .boolean
  | _ => .int
abbrev wsX30 : List Cond := u_ws RX3 TX3 7
theorem nmX3 : ∀ a, a < 7 → ∀ b, b < 7 → a ≠ b → (TX3 a).2.1 ≠ (TX3 b).2.1 := by decide +kernel
theorem tyX3_ok : ∀ k, k < 7 → parseFieldDescriptor (TX3 k).2.2.1 = some (tyX3 k) := by decide +kernel
abbrev cX3_init : ByteArray := prog_5_method_1_code
def yX3_init : MethodName := ⟨RX3, "<init>", "()V"⟩
abbrev cX3_filterBy : ByteArray := prog_5_method_2_code
def yX3_filterBy : MethodName := ⟨RX3, "filterBy", "(LSweptGrants$Store;)V"⟩
def RX4 : String := "SweptGrants$Heap"
def TX4 : u_T := fun k => match k with
  | 0 => ("SweptGrants$Heap", "sizes", "[I", true)
  | 1 => ("SweptGrants$Heap", "uses", "[I", true)
  | 2 => ("SweptGrants$Heap", "first", "I", false)
  | 3 => ("SweptGrants$Heap", "objects", "I", false)
  | 4 => ("SweptGrants$Heap", "given", "I", false)
  | 5 => ("SweptGrants$Heap", "held", "I", false)
  | 6 => ("SweptGrants$Heap", "sweeps", "I", false)
  | 7 => ("SweptGrants$Heap", "next", "I", false)
  | _ => ("SweptGrants$Heap", "asked", "Z", false)
def tyX4 : Nat → FieldType := fun k => match k with
  | 0 => .array .int
  | 1 => .array .int
  | 2 => .int
  | 3 => .int
  | 4 => .int
  | 5 => .int
  | 6 => .int
  | 7 => .int
  | _ => .boolean
abbrev wsX40 : List Cond := u_ws RX4 TX4 9
theorem nmX4 : ∀ a, a < 9 → ∀ b, b < 9 → a ≠ b → (TX4 a).2.1 ≠ (TX4 b).2.1 := by decide +kernel
theorem tyX4_ok : ∀ k, k < 9 → parseFieldDescriptor (TX4 k).2.2.1 = some (tyX4 k) := by decide +kernel
abbrev cX4_init : ByteArray := prog_6_method_1_code
def yX4_init : MethodName := ⟨RX4, "<init>", "(I)V"⟩
abbrev cX4_reset : ByteArray := prog_6_method_2_code
def yX4_reset : MethodName := ⟨RX4, "reset", "(I)V"⟩
abbrev cX4_has : ByteArray := prog_6_method_3_code
def yX4_has : MethodName := ⟨RX4, "has", "(I)Z"⟩
abbrev cX4_bytes : ByteArray := prog_6_method_4_code
def yX4_bytes : MethodName := ⟨RX4, "bytes", "()I"⟩
abbrev cX4_freeBytes : ByteArray := prog_6_method_5_code
def yX4_freeBytes : MethodName := ⟨RX4, "freeBytes", "()I"⟩
abbrev cX4_reserve : ByteArray := prog_6_method_6_code
def yX4_reserve : MethodName := ⟨RX4, "reserve", "(I)I"⟩
abbrev cX4_room : ByteArray := prog_6_method_7_code
def yX4_room : MethodName := ⟨RX4, "room", "(I)I"⟩
abbrev cX4_isObject : ByteArray := prog_6_method_8_code
def yX4_isObject : MethodName := ⟨RX4, "isObject", "(II)Z"⟩
abbrev cX4_hold : ByteArray := prog_6_method_9_code
def yX4_hold : MethodName := ⟨RX4, "hold", "(I)V"⟩
abbrev cX4_beginSweepIfDue : ByteArray := prog_6_method_10_code
def yX4_beginSweepIfDue : MethodName := ⟨RX4, "beginSweepIfDue", "()V"⟩
abbrev cX4_endSweep : ByteArray := prog_6_method_11_code
def yX4_endSweep : MethodName := ⟨RX4, "endSweep", "(LSweptGrants$Store;)V"⟩
abbrev cX4_revoke : ByteArray := prog_6_method_12_code
def yX4_revoke : MethodName := ⟨RX4, "revoke", "(LSweptGrants$Store;IIZ)V"⟩
abbrev cX4_placeOf : ByteArray := prog_6_method_13_code
def yX4_placeOf : MethodName := ⟨RX4, "placeOf", "(I)I"⟩
abbrev cX4_part : ByteArray := prog_6_method_14_code
def yX4_part : MethodName := ⟨RX4, "part", "(I)I"⟩
def RX5 : String := "SweptGrants$Loader"
def TX5 : u_T := fun k => match k with
  | 0 => ("SweptGrants$Loader", "tape", "[B", true)
  | 1 => ("SweptGrants$Loader", "length", "I", false)
  | 2 => ("SweptGrants$Loader", "at", "I", false)
  | 3 => ("SweptGrants$Loader", "end", "I", false)
  | 4 => ("SweptGrants$Loader", "fault", "I", false)
  | 5 => ("SweptGrants$Loader", "place", "I", false)
  | 6 => ("SweptGrants$Loader", "compartments", "I", false)
  | 7 => ("SweptGrants$Loader", "tasks", "I", false)
  | 8 => ("SweptGrants$Loader", "tasksText", "I", false)
  | _ => ("SweptGrants$Loader", "heapAt", "I", false)
def tyX5 : Nat → FieldType := fun k => match k with
  | 0 => .array .byte
  | 1 => .int
  | 2 => .int
  | 3 => .int
  | 4 => .int
  | 5 => .int
  | 6 => .int
  | 7 => .int
  | 8 => .int
  | _ => .int
abbrev wsX50 : List Cond := u_ws RX5 TX5 10
theorem nmX5 : ∀ a, a < 10 → ∀ b, b < 10 → a ≠ b → (TX5 a).2.1 ≠ (TX5 b).2.1 := by decide +kernel
theorem tyX5_ok : ∀ k, k < 10 → parseFieldDescriptor (TX5 k).2.2.1 = some (tyX5 k) := by decide +kernel
abbrev cX5_init : ByteArray := prog_7_method_1_code
def yX5_init : MethodName := ⟨RX5, "<init>", "()V"⟩
abbrev cX5_hasRoom : ByteArray := prog_7_method_2_code
def yX5_hasRoom : MethodName := ⟨RX5, "hasRoom", "(I)Z"⟩
abbrev cX5_append : ByteArray := prog_7_method_3_code
def yX5_append : MethodName := ⟨RX5, "append", "(I)V"⟩
abbrev cX5_byteAt : ByteArray := prog_7_method_4_code
def yX5_byteAt : MethodName := ⟨RX5, "byteAt", "(I)I"⟩
abbrev cX5_load : ByteArray := prog_7_method_5_code
def yX5_load : MethodName := ⟨RX5, "load", "(LSweptGrants$World;I)I"⟩
abbrev cX5_fail : ByteArray := prog_7_method_6_code
def yX5_fail : MethodName := ⟨RX5, "fail", "(II)V"⟩
abbrev cX5_number : ByteArray := prog_7_method_7_code
def yX5_number : MethodName := ⟨RX5, "number", "(III)I"⟩
abbrev cX5_readImage : ByteArray := prog_7_method_8_code
def yX5_readImage : MethodName := ⟨RX5, "readImage", "(LSweptGrants$World;)V"⟩
abbrev cX5_readCompartment : ByteArray := prog_7_method_9_code
def yX5_readCompartment : MethodName := ⟨RX5, "readCompartment", "(LSweptGrants$Compartment;)V"⟩
abbrev cX5_readImport : ByteArray := prog_7_method_10_code
def yX5_readImport : MethodName := ⟨RX5, "readImport", "()V"⟩
abbrev cX5_readGlobalsPerms : ByteArray := prog_7_method_11_code
def yX5_readGlobalsPerms : MethodName := ⟨RX5, "readGlobalsPerms", "()V"⟩
abbrev cX5_skip : ByteArray := prog_7_method_12_code
def yX5_skip : MethodName := ⟨RX5, "skip", "(I)V"⟩
abbrev cX5_checkTargets : ByteArray := prog_7_method_13_code
def yX5_checkTargets : MethodName := ⟨RX5, "checkTargets", "(LSweptGrants$World;)V"⟩
abbrev cX5_checkCompartment : ByteArray := prog_7_method_14_code
def yX5_checkCompartment : MethodName := ⟨RX5, "checkCompartment", "(I)V"⟩
abbrev cX5_checkExport : ByteArray := prog_7_method_15_code
def yX5_checkExport : MethodName := ⟨RX5, "checkExport", "(LSweptGrants$World;I)V"⟩
abbrev cX5_arrange : ByteArray := prog_7_method_16_code
def yX5_arrange : MethodName := ⟨RX5, "arrange", "(LSweptGrants$World;)V"⟩
abbrev cX5_build : ByteArray := prog_7_method_17_code
def yX5_build : MethodName := ⟨RX5, "build", "(LSweptGrants$World;)V"⟩
abbrev cX5_makeImport : ByteArray := prog_7_method_18_code
def yX5_makeImport : MethodName := ⟨RX5, "makeImport", "(LSweptGrants$World;I)V"⟩
abbrev cX5_makeTask : ByteArray := prog_7_method_19_code
def yX5_makeTask : MethodName := ⟨RX5, "makeTask", "(LSweptGrants$World;LSweptGrants$Task;I)V"⟩
def RX6 : String := "SweptGrants$Ring"
def TX6 : u_T := fun k => match k with
  | 0 => ("SweptGrants$Ring", "bytes", "[B", true)
  | 1 => ("SweptGrants$Ring", "first", "I", false)
  | _ => ("SweptGrants$Ring", "length", "I", false)
def tyX6 : Nat → FieldType := fun k => match k with
  | 0 => .array .byte
  | 1 => .int
  | _ => .int
abbrev wsX60 : List Cond := u_ws RX6 TX6 3
theorem nmX6 : ∀ a, a < 3 → ∀ b, b < 3 → a ≠ b → (TX6 a).2.1 ≠ (TX6 b).2.1 := by decide +kernel
theorem tyX6_ok : ∀ k, k < 3 → parseFieldDescriptor (TX6 k).2.2.1 = some (tyX6 k) := by decide +kernel
abbrev cX6_init : ByteArray := prog_8_method_1_code
def yX6_init : MethodName := ⟨RX6, "<init>", "(I)V"⟩
abbrev cX6_reset : ByteArray := prog_8_method_2_code
def yX6_reset : MethodName := ⟨RX6, "reset", "()V"⟩
abbrev cX6_at : ByteArray := prog_8_method_3_code
def yX6_at : MethodName := ⟨RX6, "at", "(I)I"⟩
abbrev cX6_push : ByteArray := prog_8_method_4_code
def yX6_push : MethodName := ⟨RX6, "push", "(I)V"⟩
abbrev cX6_pull : ByteArray := prog_8_method_5_code
def yX6_pull : MethodName := ⟨RX6, "pull", "()I"⟩
def RX7 : String := "SweptGrants$Services"
def TX7 : u_T := fun k => match k with
  | _ => ("", "", "", false)
def tyX7 : Nat → FieldType := fun k => match k with
  | _ => .int
abbrev wsX70 : List Cond := u_ws RX7 TX7 0
theorem nmX7 : ∀ a, a < 0 → ∀ b, b < 0 → a ≠ b → (TX7 a).2.1 ≠ (TX7 b).2.1 := by decide +kernel
theorem tyX7_ok : ∀ k, k < 0 → parseFieldDescriptor (TX7 k).2.2.1 = some (tyX7 k) := by decide +kernel
abbrev cX7_serve : ByteArray := prog_9_method_2_code
def yX7_serve : MethodName := ⟨RX7, "serve", "(LSweptGrants$World;LSweptGrants$Task;I)V"⟩
abbrev cX7_allocate : ByteArray := prog_9_method_3_code
def yX7_allocate : MethodName := ⟨RX7, "allocate", "(LSweptGrants$World;LSweptGrants$Task;)V"⟩
abbrev cX7_release : ByteArray := prog_9_method_4_code
def yX7_release : MethodName := ⟨RX7, "release", "(LSweptGrants$World;LSweptGrants$Cap;)I"⟩
abbrev cX7_sleep : ByteArray := prog_9_method_5_code
def yX7_sleep : MethodName := ⟨RX7, "sleep", "(LSweptGrants$World;LSweptGrants$Task;)I"⟩
abbrev cX7_isWordFor : ByteArray := prog_9_method_6_code
def yX7_isWordFor : MethodName := ⟨RX7, "isWordFor", "(LSweptGrants$World;LSweptGrants$Cap;I)Z"⟩
abbrev cX7_await : ByteArray := prog_9_method_7_code
def yX7_await : MethodName := ⟨RX7, "await", "(LSweptGrants$World;LSweptGrants$Task;)I"⟩
abbrev cX7_wake : ByteArray := prog_9_method_8_code
def yX7_wake : MethodName := ⟨RX7, "wake", "(LSweptGrants$World;LSweptGrants$Task;)I"⟩
abbrev cX7_nextToWake : ByteArray := prog_9_method_9_code
def yX7_nextToWake : MethodName := ⟨RX7, "nextToWake", "(LSweptGrants$World;I)LSweptGrants$Task;"⟩
def RX8 : String := "SweptGrants$Store"
def TX8 : u_T := fun k => match k with
  | 0 => ("SweptGrants$Store", "bytes", "[B", true)
  | _ => ("SweptGrants$Store", "marks", "[B", true)
def tyX8 : Nat → FieldType := fun k => match k with
  | 0 => .array .byte
  | _ => .array .byte
abbrev wsX80 : List Cond := u_ws RX8 TX8 2
theorem nmX8 : ∀ a, a < 2 → ∀ b, b < 2 → a ≠ b → (TX8 a).2.1 ≠ (TX8 b).2.1 := by decide +kernel
theorem tyX8_ok : ∀ k, k < 2 → parseFieldDescriptor (TX8 k).2.2.1 = some (tyX8 k) := by decide +kernel
abbrev cX8_init : ByteArray := prog_10_method_1_code
def yX8_init : MethodName := ⟨RX8, "<init>", "(I)V"⟩
abbrev cX8_reset : ByteArray := prog_10_method_2_code
def yX8_reset : MethodName := ⟨RX8, "reset", "()V"⟩
abbrev cX8_has : ByteArray := prog_10_method_3_code
def yX8_has : MethodName := ⟨RX8, "has", "(II)Z"⟩
abbrev cX8_load : ByteArray := prog_10_method_4_code
def yX8_load : MethodName := ⟨RX8, "load", "(II)I"⟩
abbrev cX8_write : ByteArray := prog_10_method_5_code
def yX8_write : MethodName := ⟨RX8, "write", "(III)V"⟩
abbrev cX8_loadCap : ByteArray := prog_10_method_6_code
def yX8_loadCap : MethodName := ⟨RX8, "loadCap", "(ILSweptGrants$Cap;Z)V"⟩
abbrev cX8_writeCap : ByteArray := prog_10_method_7_code
def yX8_writeCap : MethodName := ⟨RX8, "writeCap", "(ILSweptGrants$Cap;Z)V"⟩
abbrev cX8_erase : ByteArray := prog_10_method_8_code
def yX8_erase : MethodName := ⟨RX8, "erase", "(II)V"⟩
abbrev cX8_isMarked : ByteArray := prog_10_method_9_code
def yX8_isMarked : MethodName := ⟨RX8, "isMarked", "(II)Z"⟩
abbrev cX8_mark : ByteArray := prog_10_method_10_code
def yX8_mark : MethodName := ⟨RX8, "mark", "(IIZ)V"⟩
abbrev cX8_filter : ByteArray := prog_10_method_11_code
def yX8_filter : MethodName := ⟨RX8, "filter", "(LSweptGrants$Cap;)V"⟩
abbrev cX8_filterGranule : ByteArray := prog_10_method_12_code
def yX8_filterGranule : MethodName := ⟨RX8, "filterGranule", "(I)V"⟩
def RX9 : String := "SweptGrants$Task"
def TX9 : u_T := fun k => match k with
  | 0 => ("SweptGrants$Task", "number", "I", true)
  | 1 => ("SweptGrants$Task", "regs", "[LSweptGrants$Cap;", true)
  | 2 => ("SweptGrants$Task", "pcc", "LSweptGrants$Cap;", true)
  | 3 => ("SweptGrants$Task", "frames", "[LSweptGrants$Frame;", true)
  | 4 => ("SweptGrants$Task", "frameCount", "I", false)
  | 5 => ("SweptGrants$Task", "frameLimit", "I", false)
  | 6 => ("SweptGrants$Task", "priority", "I", false)
  | 7 => ("SweptGrants$Task", "stackBase", "I", false)
  | 8 => ("SweptGrants$Task", "stackTop", "I", false)
  | 9 => ("SweptGrants$Task", "compartment", "I", false)
  | 10 => ("SweptGrants$Task", "interrupts", "Z", false)
  | 11 => ("SweptGrants$Task", "state", "I", false)
  | 12 => ("SweptGrants$Task", "readyAt", "I", false)
  | 13 => ("SweptGrants$Task", "waitAddress", "I", false)
  | 14 => ("SweptGrants$Task", "waitSince", "I", false)
  | 15 => ("SweptGrants$Task", "wanted", "I", false)
  | 16 => ("SweptGrants$Task", "latestFault", "I", false)
  | 17 => ("SweptGrants$Task", "done", "I", false)
  | _ => ("SweptGrants$Task", "lastCurrent", "I", false)
def tyX9 : Nat → FieldType := fun k => match k with
  | 0 => .int
  | 1 => .array (.object "SweptGrants$Cap")
  | 2 => .object "SweptGrants$Cap"
  | 3 => .array (.object "SweptGrants$Frame")
  | 4 => .int
  | 5 => .int
  | 6 => .int
  | 7 => .int
  | 8 => .int
  | 9 => .int
  | 10 => .boolean
  | 11 => .int
  | 12 => .int
  | 13 => .int
  | 14 => .int
  | 15 => .int
  | 16 => .int
  | 17 => .int
  | _ => .int
abbrev wsX90 : List Cond := u_ws RX9 TX9 19
theorem nmX9 : ∀ a, a < 19 → ∀ b, b < 19 → a ≠ b → (TX9 a).2.1 ≠ (TX9 b).2.1 := by decide +kernel
theorem tyX9_ok : ∀ k, k < 19 → parseFieldDescriptor (TX9 k).2.2.1 = some (tyX9 k) := by decide +kernel
abbrev cX9_init : ByteArray := prog_11_method_1_code
def yX9_init : MethodName := ⟨RX9, "<init>", "(I)V"⟩
abbrev cX9_reg : ByteArray := prog_11_method_2_code
def yX9_reg : MethodName := ⟨RX9, "reg", "(I)LSweptGrants$Cap;"⟩
abbrev cX9_begin : ByteArray := prog_11_method_3_code
def yX9_begin : MethodName := ⟨RX9, "begin", "(II)V"⟩
abbrev cX9_end : ByteArray := prog_11_method_4_code
def yX9_end : MethodName := ⟨RX9, "end", "()V"⟩
abbrev cX9_forgetAll : ByteArray := prog_11_method_5_code
def yX9_forgetAll : MethodName := ⟨RX9, "forgetAll", "()V"⟩
abbrev cX9_forget : ByteArray := prog_11_method_6_code
def yX9_forget : MethodName := ⟨RX9, "forget", "(II)V"⟩
abbrev cX9_forgetOthers : ByteArray := prog_11_method_7_code
def yX9_forgetOthers : MethodName := ⟨RX9, "forgetOthers", "()V"⟩
abbrev cX9_enter : ByteArray := prog_11_method_8_code
def yX9_enter : MethodName := ⟨RX9, "enter", "(LSweptGrants$Compartment;III)V"⟩
abbrev cX9_stackIsAsGiven : ByteArray := prog_11_method_9_code
def yX9_stackIsAsGiven : MethodName := ⟨RX9, "stackIsAsGiven", "()Z"⟩
abbrev cX9_hasFrameLeft : ByteArray := prog_11_method_10_code
def yX9_hasFrameLeft : MethodName := ⟨RX9, "hasFrameLeft", "()Z"⟩
abbrev cX9_keepFrame : ByteArray := prog_11_method_11_code
def yX9_keepFrame : MethodName := ⟨RX9, "keepFrame", "()V"⟩
abbrev cX9_giveBack : ByteArray := prog_11_method_12_code
def yX9_giveBack : MethodName := ⟨RX9, "giveBack", "(LSweptGrants$Store;)V"⟩
abbrev cX9_fail : ByteArray := prog_11_method_13_code
def yX9_fail : MethodName := ⟨RX9, "fail", "(LSweptGrants$Store;I)V"⟩
abbrev cX9_filterBy : ByteArray := prog_11_method_14_code
def yX9_filterBy : MethodName := ⟨RX9, "filterBy", "(LSweptGrants$Store;)V"⟩
abbrev cX9_filterFramesBy : ByteArray := prog_11_method_15_code
def yX9_filterFramesBy : MethodName := ⟨RX9, "filterFramesBy", "(LSweptGrants$Store;)V"⟩
abbrev cX9_restUntil : ByteArray := prog_11_method_16_code
def yX9_restUntil : MethodName := ⟨RX9, "restUntil", "(II)V"⟩
abbrev cX9_becomeReady : ByteArray := prog_11_method_17_code
def yX9_becomeReady : MethodName := ⟨RX9, "becomeReady", "()V"⟩
abbrev cX9_isDue : ByteArray := prog_11_method_18_code
def yX9_isDue : MethodName := ⟨RX9, "isDue", "(I)Z"⟩
abbrev cX9_goesBefore : ByteArray := prog_11_method_19_code
def yX9_goesBefore : MethodName := ⟨RX9, "goesBefore", "(LSweptGrants$Task;)Z"⟩
abbrev cX9_isWokenBefore : ByteArray := prog_11_method_20_code
def yX9_isWokenBefore : MethodName := ⟨RX9, "isWokenBefore", "(LSweptGrants$Task;)Z"⟩
abbrev cX9_part : ByteArray := prog_11_method_21_code
def yX9_part : MethodName := ⟨RX9, "part", "(I)I"⟩
def RX10 : String := "SweptGrants$World"
def TX10 : u_T := fun k => match k with
  | 0 => ("SweptGrants$World", "store", "LSweptGrants$Store;", true)
  | 1 => ("SweptGrants$World", "heap", "LSweptGrants$Heap;", true)
  | 2 => ("SweptGrants$World", "input", "LSweptGrants$Ring;", true)
  | 3 => ("SweptGrants$World", "output", "LSweptGrants$Ring;", true)
  | 4 => ("SweptGrants$World", "compartments", "[LSweptGrants$Compartment;", true)
  | 5 => ("SweptGrants$World", "tasks", "[LSweptGrants$Task;", true)
  | 6 => ("SweptGrants$World", "scratch", "LSweptGrants$Cap;", true)
  | 7 => ("SweptGrants$World", "compartmentCount", "I", false)
  | 8 => ("SweptGrants$World", "taskCount", "I", false)
  | 9 => ("SweptGrants$World", "booted", "Z", false)
  | 10 => ("SweptGrants$World", "time", "I", false)
  | 11 => ("SweptGrants$World", "current", "I", false)
  | 12 => ("SweptGrants$World", "ran", "I", false)
  | 13 => ("SweptGrants$World", "faults", "I", false)
  | 14 => ("SweptGrants$World", "calls", "I", false)
  | 15 => ("SweptGrants$World", "services", "I", false)
  | _ => ("SweptGrants$World", "switches", "I", false)
def tyX10 : Nat → FieldType := fun k => match k with
  | 0 => .object "SweptGrants$Store"
  | 1 => .object "SweptGrants$Heap"
  | 2 => .object "SweptGrants$Ring"
  | 3 => .object "SweptGrants$Ring"
  | 4 => .array (.object "SweptGrants$Compartment")
  | 5 => .array (.object "SweptGrants$Task")
  | 6 => .object "SweptGrants$Cap"
  | 7 => .int
  | 8 => .int
  | 9 => .boolean
  | 10 => .int
  | 11 => .int
  | 12 => .int
  | 13 => .int
  | 14 => .int
  | 15 => .int
  | _ => .int
abbrev wsX100 : List Cond := u_ws RX10 TX10 17
theorem nmX10 : ∀ a, a < 17 → ∀ b, b < 17 → a ≠ b → (TX10 a).2.1 ≠ (TX10 b).2.1 := by decide +kernel
theorem tyX10_ok : ∀ k, k < 17 → parseFieldDescriptor (TX10 k).2.2.1 = some (tyX10 k) := by decide +kernel
abbrev cX10_init : ByteArray := prog_12_method_1_code
def yX10_init : MethodName := ⟨RX10, "<init>", "(I)V"⟩
abbrev cX10_reset : ByteArray := prog_12_method_2_code
def yX10_reset : MethodName := ⟨RX10, "reset", "()V"⟩
abbrev cX10_open : ByteArray := prog_12_method_3_code
def yX10_open : MethodName := ⟨RX10, "open", "(II)V"⟩
abbrev cX10_taskAt : ByteArray := prog_12_method_4_code
def yX10_taskAt : MethodName := ⟨RX10, "taskAt", "(I)LSweptGrants$Task;"⟩
abbrev cX10_compartmentAt : ByteArray := prog_12_method_5_code
def yX10_compartmentAt : MethodName := ⟨RX10, "compartmentAt", "(I)LSweptGrants$Compartment;"⟩
abbrev cX10_stands : ByteArray := prog_12_method_6_code
def yX10_stands : MethodName := ⟨RX10, "stands", "()Z"⟩
abbrev cX10_tick : ByteArray := prog_12_method_7_code
def yX10_tick : MethodName := ⟨RX10, "tick", "()V"⟩
abbrev cX10_mustLeave : ByteArray := prog_12_method_8_code
def yX10_mustLeave : MethodName := ⟨RX10, "mustLeave", "(LSweptGrants$Task;)Z"⟩
abbrev cX10_best : ByteArray := prog_12_method_9_code
def yX10_best : MethodName := ⟨RX10, "best", "()I"⟩
abbrev cX10_makeCurrent : ByteArray := prog_12_method_10_code
def yX10_makeCurrent : MethodName := ⟨RX10, "makeCurrent", "(I)V"⟩
abbrev cX10_sweep : ByteArray := prog_12_method_11_code
def yX10_sweep : MethodName := ⟨RX10, "sweep", "()V"⟩
abbrev cX10_endSweep : ByteArray := prog_12_method_12_code
def yX10_endSweep : MethodName := ⟨RX10, "endSweep", "()V"⟩
abbrev cX10_grant : ByteArray := prog_12_method_13_code
def yX10_grant : MethodName := ⟨RX10, "grant", "(ILSweptGrants$Cap;)Z"⟩
abbrev cX10_readDevice : ByteArray := prog_12_method_14_code
def yX10_readDevice : MethodName := ⟨RX10, "readDevice", "(LSweptGrants$Task;I)I"⟩
abbrev cX10_writeDevice : ByteArray := prog_12_method_15_code
def yX10_writeDevice : MethodName := ⟨RX10, "writeDevice", "(II)V"⟩
abbrev cX10_part : ByteArray := prog_12_method_16_code
def yX10_part : MethodName := ⟨RX10, "part", "(I)I"⟩
def RX11 : String := "SweptGrants"
def TX11 : u_T := fun k => match k with
  | 0 => ("SweptGrants", "world", "LSweptGrants$World;", true)
  | _ => ("SweptGrants", "loader", "LSweptGrants$Loader;", true)
def tyX11 : Nat → FieldType := fun k => match k with
  | 0 => .object "SweptGrants$World"
  | _ => .object "SweptGrants$Loader"
abbrev wsX110 : List Cond := u_ws RX11 TX11 2
theorem nmX11 : ∀ a, a < 2 → ∀ b, b < 2 → a ≠ b → (TX11 a).2.1 ≠ (TX11 b).2.1 := by decide +kernel
theorem tyX11_ok : ∀ k, k < 2 → parseFieldDescriptor (TX11 k).2.2.1 = some (tyX11 k) := by decide +kernel
abbrev cX11_init : ByteArray := prog_1_method_1_code
def yX11_init : MethodName := ⟨RX11, "<init>", "(I)V"⟩
abbrev cX11_feed : ByteArray := prog_1_method_2_code
def yX11_feed : MethodName := ⟨RX11, "feed", "(IIIII)Z"⟩
abbrev cX11_boot : ByteArray := prog_1_method_3_code
def yX11_boot : MethodName := ⟨RX11, "boot", "(I)I"⟩
abbrev cX11_place : ByteArray := prog_1_method_4_code
def yX11_place : MethodName := ⟨RX11, "place", "()I"⟩
abbrev cX11_run : ByteArray := prog_1_method_5_code
def yX11_run : MethodName := ⟨RX11, "run", "(I)I"⟩
abbrev cX11_input : ByteArray := prog_1_method_6_code
def yX11_input : MethodName := ⟨RX11, "input", "(I)Z"⟩
abbrev cX11_fetch : ByteArray := prog_1_method_7_code
def yX11_fetch : MethodName := ⟨RX11, "fetch", "()J"⟩
abbrev cX11_register : ByteArray := prog_1_method_8_code
def yX11_register : MethodName := ⟨RX11, "register", "(III)J"⟩
abbrev cX11_memory : ByteArray := prog_1_method_9_code
def yX11_memory : MethodName := ⟨RX11, "memory", "(II)J"⟩
abbrev cX11_tag : ByteArray := prog_1_method_10_code
def yX11_tag : MethodName := ⟨RX11, "tag", "(I)I"⟩
abbrev cX11_thread : ByteArray := prog_1_method_11_code
def yX11_thread : MethodName := ⟨RX11, "thread", "(II)I"⟩
abbrev cX11_compartment : ByteArray := prog_1_method_12_code
def yX11_compartment : MethodName := ⟨RX11, "compartment", "(II)I"⟩
abbrev cX11_heap : ByteArray := prog_1_method_13_code
def yX11_heap : MethodName := ⟨RX11, "heap", "(I)I"⟩
abbrev cX11_count : ByteArray := prog_1_method_14_code
def yX11_count : MethodName := ⟨RX11, "count", "(I)I"⟩
abbrev cX11_broken : ByteArray := prog_1_method_15_code
def yX11_broken : MethodName := ⟨RX11, "broken", "(I)I"⟩
abbrev cX11_unsigned : ByteArray := prog_1_method_16_code
def yX11_unsigned : MethodName := ⟨RX11, "unsigned", "(I)J"⟩
def RX12 : String := "SweptGrantsModel"
def TX12 : u_T := fun k => match k with
  | 0 => ("SweptGrantsModel", "size", "I", true)
  | 1 => ("SweptGrantsModel", "memory", "[B", true)
  | 2 => ("SweptGrantsModel", "tags", "[Z", true)
  | 3 => ("SweptGrantsModel", "revoked", "[Z", true)
  | 4 => ("SweptGrantsModel", "cursor", "[I", true)
  | 5 => ("SweptGrantsModel", "base", "[I", true)
  | 6 => ("SweptGrantsModel", "top", "[I", true)
  | 7 => ("SweptGrantsModel", "perms", "[I", true)
  | 8 => ("SweptGrantsModel", "type", "[I", true)
  | 9 => ("SweptGrantsModel", "tag", "[Z", true)
  | 10 => ("SweptGrantsModel", "tape", "[B", true)
  | 11 => ("SweptGrantsModel", "tapeSize", "I", false)
  | 12 => ("SweptGrantsModel", "image", "[B", true)
  | 13 => ("SweptGrantsModel", "imageSize", "I", false)
  | 14 => ("SweptGrantsModel", "at", "I", false)
  | 15 => ("SweptGrantsModel", "fault", "I", false)
  | 16 => ("SweptGrantsModel", "place", "I", false)
  | 17 => ("SweptGrantsModel", "booted", "Z", false)
  | 18 => ("SweptGrantsModel", "compartments", "I", false)
  | 19 => ("SweptGrantsModel", "threads", "I", false)
  | 20 => ("SweptGrantsModel", "codeAt", "[I", true)
  | 21 => ("SweptGrantsModel", "importsAt", "[I", true)
  | 22 => ("SweptGrantsModel", "globalsAt", "[I", true)
  | 23 => ("SweptGrantsModel", "endAt", "[I", true)
  | 24 => ("SweptGrantsModel", "exports", "[I", true)
  | 25 => ("SweptGrantsModel", "exportWord", "[I", true)
  | 26 => ("SweptGrantsModel", "exportKind", "[I", true)
  | 27 => ("SweptGrantsModel", "state", "[I", true)
  | 28 => ("SweptGrantsModel", "wake", "[I", true)
  | 29 => ("SweptGrantsModel", "home", "[I", true)
  | 30 => ("SweptGrantsModel", "depth", "[I", true)
  | 31 => ("SweptGrantsModel", "most", "[I", true)
  | 32 => ("SweptGrantsModel", "on", "[Z", true)
  | 33 => ("SweptGrantsModel", "lastFault", "[I", true)
  | 34 => ("SweptGrantsModel", "done", "[I", true)
  | 35 => ("SweptGrantsModel", "priority", "[I", true)
  | 36 => ("SweptGrantsModel", "stackAt", "[I", true)
  | 37 => ("SweptGrantsModel", "stackEnd", "[I", true)
  | 38 => ("SweptGrantsModel", "given", "[I", true)
  | 39 => ("SweptGrantsModel", "became", "[I", true)
  | 40 => ("SweptGrantsModel", "began", "[I", true)
  | 41 => ("SweptGrantsModel", "waitAt", "[I", true)
  | 42 => ("SweptGrantsModel", "waitOrder", "[I", true)
  | 43 => ("SweptGrantsModel", "wants", "[I", true)
  | 44 => ("SweptGrantsModel", "frameHome", "[I", true)
  | 45 => ("SweptGrantsModel", "frameOn", "[Z", true)
  | 46 => ("SweptGrantsModel", "frameGiven", "[I", true)
  | 47 => ("SweptGrantsModel", "time", "I", false)
  | 48 => ("SweptGrantsModel", "current", "I", false)
  | 49 => ("SweptGrantsModel", "faults", "I", false)
  | 50 => ("SweptGrantsModel", "calls", "I", false)
  | 51 => ("SweptGrantsModel", "services", "I", false)
  | 52 => ("SweptGrantsModel", "turns", "I", false)
  | 53 => ("SweptGrantsModel", "orders", "I", false)
  | 54 => ("SweptGrantsModel", "heapAt", "I", false)
  | 55 => ("SweptGrantsModel", "objects", "I", false)
  | 56 => ("SweptGrantsModel", "objectAt", "[I", true)
  | 57 => ("SweptGrantsModel", "objectSize", "[I", true)
  | 58 => ("SweptGrantsModel", "isFreed", "[Z", true)
  | 59 => ("SweptGrantsModel", "isSwept", "[Z", true)
  | 60 => ("SweptGrantsModel", "asked", "Z", false)
  | 61 => ("SweptGrantsModel", "sweeper", "I", false)
  | 62 => ("SweptGrantsModel", "sweeps", "I", false)
  | 63 => ("SweptGrantsModel", "waiting", "[I", true)
  | 64 => ("SweptGrantsModel", "waitingMany", "I", false)
  | 65 => ("SweptGrantsModel", "out", "[I", true)
  | 66 => ("SweptGrantsModel", "outFirst", "I", false)
  | 67 => ("SweptGrantsModel", "outMany", "I", false)
  | 68 => ("SweptGrantsModel", "words", "[I", true)
  | 69 => ("SweptGrantsModel", "globalSize", "[I", true)
  | 70 => ("SweptGrantsModel", "imports", "[I", true)
  | 71 => ("SweptGrantsModel", "importKind", "[I", true)
  | 72 => ("SweptGrantsModel", "importX", "[I", true)
  | 73 => ("SweptGrantsModel", "importY", "[I", true)
  | 74 => ("SweptGrantsModel", "importPlace", "[I", true)
  | 75 => ("SweptGrantsModel", "codePlace", "[I", true)
  | 76 => ("SweptGrantsModel", "threadPlace", "[I", true)
  | 77 => ("SweptGrantsModel", "threadHome", "[I", true)
  | 78 => ("SweptGrantsModel", "threadExport", "[I", true)
  | 79 => ("SweptGrantsModel", "stackSize", "[I", true)
  | 80 => ("SweptGrantsModel", "t0", "I", false)
  | _ => ("SweptGrantsModel", "word", "I", false)
def tyX12 : Nat → FieldType := fun k => match k with
  | 0 => .int
  | 1 => .array .byte
  | 2 => .array .boolean
  | 3 => .array .boolean
  | 4 => .array .int
  | 5 => .array .int
  | 6 => .array .int
  | 7 => .array .int
  | 8 => .array .int
  | 9 => .array .boolean
  | 10 => .array .byte
  | 11 => .int
  | 12 => .array .byte
  | 13 => .int
  | 14 => .int
  | 15 => .int
  | 16 => .int
  | 17 => .boolean
  | 18 => .int
  | 19 => .int
  | 20 => .array .int
  | 21 => .array .int
  | 22 => .array .int
  | 23 => .array .int
  | 24 => .array .int
  | 25 => .array .int
  | 26 => .array .int
  | 27 => .array .int
  | 28 => .array .int
  | 29 => .array .int
  | 30 => .array .int
  | 31 => .array .int
  | 32 => .array .boolean
  | 33 => .array .int
  | 34 => .array .int
  | 35 => .array .int
  | 36 => .array .int
  | 37 => .array .int
  | 38 => .array .int
  | 39 => .array .int
  | 40 => .array .int
  | 41 => .array .int
  | 42 => .array .int
  | 43 => .array .int
  | 44 => .array .int
  | 45 => .array .boolean
  | 46 => .array .int
  | 47 => .int
  | 48 => .int
  | 49 => .int
  | 50 => .int
  | 51 => .int
  | 52 => .int
  | 53 => .int
  | 54 => .int
  | 55 => .int
  | 56 => .array .int
  | 57 => .array .int
  | 58 => .array .boolean
  | 59 => .array .boolean
  | 60 => .boolean
  | 61 => .int
  | 62 => .int
  | 63 => .array .int
  | 64 => .int
  | 65 => .array .int
  | 66 => .int
  | 67 => .int
  | 68 => .array .int
  | 69 => .array .int
  | 70 => .array .int
  | 71 => .array .int
  | 72 => .array .int
  | 73 => .array .int
  | 74 => .array .int
  | 75 => .array .int
  | 76 => .array .int
  | 77 => .array .int
  | 78 => .array .int
  | 79 => .array .int
  | 80 => .int
  | _ => .int
abbrev wsX120 : List Cond := u_ws RX12 TX12 82
theorem nmX12 : ∀ a, a < 82 → ∀ b, b < 82 → a ≠ b → (TX12 a).2.1 ≠ (TX12 b).2.1 := by decide +kernel
theorem tyX12_ok : ∀ k, k < 82 → parseFieldDescriptor (TX12 k).2.2.1 = some (tyX12 k) := by decide +kernel
abbrev cX12_init : ByteArray := prog_14_method_1_code
def yX12_init : MethodName := ⟨RX12, "<init>", "(I)V"⟩
abbrev cX12_begins : ByteArray := prog_14_method_2_code
def yX12_begins : MethodName := ⟨RX12, "begins", "()V"⟩
abbrev cX12_nothing : ByteArray := prog_14_method_3_code
def yX12_nothing : MethodName := ⟨RX12, "nothing", "(I)V"⟩
abbrev cX12_number : ByteArray := prog_14_method_4_code
def yX12_number : MethodName := ⟨RX12, "number", "(II)V"⟩
abbrev cX12_make : ByteArray := prog_14_method_5_code
def yX12_make : MethodName := ⟨RX12, "make", "(IIIIIIZ)V"⟩
abbrev cX12_copy : ByteArray := prog_14_method_6_code
def yX12_copy : MethodName := ⟨RX12, "copy", "(II)V"⟩
abbrev cX12_plain : ByteArray := prog_14_method_7_code
def yX12_plain : MethodName := ⟨RX12, "plain", "(I)J"⟩
abbrev cX12_isGone : ByteArray := prog_14_method_8_code
def yX12_isGone : MethodName := ⟨RX12, "isGone", "(I)Z"⟩
abbrev cX12_filter : ByteArray := prog_14_method_9_code
def yX12_filter : MethodName := ⟨RX12, "filter", "(I)V"⟩
abbrev cX12_reg : ByteArray := prog_14_method_10_code
def yX12_reg : MethodName := ⟨RX12, "reg", "(II)I"⟩
abbrev cX12_frame : ByteArray := prog_14_method_11_code
def yX12_frame : MethodName := ⟨RX12, "frame", "(III)I"⟩
abbrev cX12_refuses : ByteArray := prog_14_method_12_code
def yX12_refuses : MethodName := ⟨RX12, "refuses", "(IIII)I"⟩
abbrev cX12_get : ByteArray := prog_14_method_13_code
def yX12_get : MethodName := ⟨RX12, "get", "(II)I"⟩
abbrev cX12_put : ByteArray := prog_14_method_14_code
def yX12_put : MethodName := ⟨RX12, "put", "(III)V"⟩
abbrev cX12_getCapability : ByteArray := prog_14_method_15_code
def yX12_getCapability : MethodName := ⟨RX12, "getCapability", "(II)V"⟩
abbrev cX12_putCapability : ByteArray := prog_14_method_16_code
def yX12_putCapability : MethodName := ⟨RX12, "putCapability", "(IIZ)V"⟩
abbrev cX12_wipe : ByteArray := prog_14_method_17_code
def yX12_wipe : MethodName := ⟨RX12, "wipe", "(II)V"⟩
abbrev cX12_code : ByteArray := prog_14_method_18_code
def yX12_code : MethodName := ⟨RX12, "code", "(III)V"⟩
abbrev cX12_globals : ByteArray := prog_14_method_19_code
def yX12_globals : MethodName := ⟨RX12, "globals", "(II)V"⟩
abbrev cX12_stack : ByteArray := prog_14_method_20_code
def yX12_stack : MethodName := ⟨RX12, "stack", "(III)V"⟩
abbrev cX12_feed : ByteArray := prog_14_method_21_code
def yX12_feed : MethodName := ⟨RX12, "feed", "(IIIII)Z"⟩
abbrev cX12_word : ByteArray := prog_14_method_22_code
def yX12_word : MethodName := ⟨RX12, "word", "(I)V"⟩
abbrev cX12_fails : ByteArray := prog_14_method_23_code
def yX12_fails : MethodName := ⟨RX12, "fails", "(II)V"⟩
abbrev cX12_next : ByteArray := prog_14_method_24_code
def yX12_next : MethodName := ⟨RX12, "next", "(III)I"⟩
abbrev cX12_readCompartment : ByteArray := prog_14_method_25_code
def yX12_readCompartment : MethodName := ⟨RX12, "readCompartment", "(I)V"⟩
abbrev cX12_readAll : ByteArray := prog_14_method_26_code
def yX12_readAll : MethodName := ⟨RX12, "readAll", "()V"⟩
abbrev cX12_layout : ByteArray := prog_14_method_27_code
def yX12_layout : MethodName := ⟨RX12, "layout", "()V"⟩
abbrev cX12_fill : ByteArray := prog_14_method_28_code
def yX12_fill : MethodName := ⟨RX12, "fill", "(I)V"⟩
abbrev cX12_starts : ByteArray := prog_14_method_29_code
def yX12_starts : MethodName := ⟨RX12, "starts", "(I)V"⟩
abbrev cX12_boot : ByteArray := prog_14_method_30_code
def yX12_boot : MethodName := ⟨RX12, "boot", "(I)I"⟩
abbrev cX12_place : ByteArray := prog_14_method_31_code
def yX12_place : MethodName := ⟨RX12, "place", "()I"⟩
abbrev cX12_d : ByteArray := prog_14_method_32_code
def yX12_d : MethodName := ⟨RX12, "d", "()I"⟩
abbrev cX12_f : ByteArray := prog_14_method_33_code
def yX12_f : MethodName := ⟨RX12, "f", "()I"⟩
abbrev cX12_a : ByteArray := prog_14_method_34_code
def yX12_a : MethodName := ⟨RX12, "a", "()I"⟩
abbrev cX12_b : ByteArray := prog_14_method_35_code
def yX12_b : MethodName := ⟨RX12, "b", "()I"⟩
abbrev cX12_g : ByteArray := prog_14_method_36_code
def yX12_g : MethodName := ⟨RX12, "g", "()I"⟩
abbrev cX12_value : ByteArray := prog_14_method_37_code
def yX12_value : MethodName := ⟨RX12, "value", "(I)I"⟩
abbrev cX12_writes : ByteArray := prog_14_method_38_code
def yX12_writes : MethodName := ⟨RX12, "writes", "(II)V"⟩
abbrev cX12_comes : ByteArray := prog_14_method_39_code
def yX12_comes : MethodName := ⟨RX12, "comes", "(II)V"⟩
abbrev cX12_pcc : ByteArray := prog_14_method_40_code
def yX12_pcc : MethodName := ⟨RX12, "pcc", "()I"⟩
abbrev cX12_goesOn : ByteArray := prog_14_method_41_code
def yX12_goesOn : MethodName := ⟨RX12, "goesOn", "()V"⟩
abbrev cX12_isRight : ByteArray := prog_14_method_42_code
def yX12_isRight : MethodName := ⟨RX12, "isRight", "()Z"⟩
abbrev cX12_does : ByteArray := prog_14_method_43_code
def yX12_does : MethodName := ⟨RX12, "does", "()I"⟩
abbrev cX12_branches : ByteArray := prog_14_method_44_code
def yX12_branches : MethodName := ⟨RX12, "branches", "(III)Z"⟩
abbrev cX12_sums : ByteArray := prog_14_method_45_code
def yX12_sums : MethodName := ⟨RX12, "sums", "(IIIZ)I"⟩
abbrev cX12_products : ByteArray := prog_14_method_46_code
def yX12_products : MethodName := ⟨RX12, "products", "(III)I"⟩
abbrev cX12_isDevice : ByteArray := prog_14_method_47_code
def yX12_isDevice : MethodName := ⟨RX12, "isDevice", "(I)Z"⟩
abbrev cX12_loads : ByteArray := prog_14_method_48_code
def yX12_loads : MethodName := ⟨RX12, "loads", "(I)I"⟩
abbrev cX12_device : ByteArray := prog_14_method_49_code
def yX12_device : MethodName := ⟨RX12, "device", "(I)I"⟩
abbrev cX12_stores : ByteArray := prog_14_method_50_code
def yX12_stores : MethodName := ⟨RX12, "stores", "(I)I"⟩
abbrev cX12_writesOut : ByteArray := prog_14_method_51_code
def yX12_writesOut : MethodName := ⟨RX12, "writesOut", "(I)V"⟩
abbrev cX12_shapes : ByteArray := prog_14_method_52_code
def yX12_shapes : MethodName := ⟨RX12, "shapes", "(I)V"⟩
abbrev cX12_bounds : ByteArray := prog_14_method_53_code
def yX12_bounds : MethodName := ⟨RX12, "bounds", "(IJZ)V"⟩
abbrev cX12_seals : ByteArray := prog_14_method_54_code
def yX12_seals : MethodName := ⟨RX12, "seals", "(IIZ)V"⟩
abbrev cX12_isWithin : ByteArray := prog_14_method_55_code
def yX12_isWithin : MethodName := ⟨RX12, "isWithin", "(II)Z"⟩
abbrev cX12_isLike : ByteArray := prog_14_method_56_code
def yX12_isLike : MethodName := ⟨RX12, "isLike", "(II)Z"⟩
abbrev cX12_asks : ByteArray := prog_14_method_57_code
def yX12_asks : MethodName := ⟨RX12, "asks", "(I)V"⟩
abbrev cX12_link : ByteArray := prog_14_method_58_code
def yX12_link : MethodName := ⟨RX12, "link", "()V"⟩
abbrev cX12_jumps : ByteArray := prog_14_method_59_code
def yX12_jumps : MethodName := ⟨RX12, "jumps", "(I)I"⟩
abbrev cX12_isStack : ByteArray := prog_14_method_60_code
def yX12_isStack : MethodName := ⟨RX12, "isStack", "()Z"⟩
abbrev cX12_call : ByteArray := prog_14_method_61_code
def yX12_call : MethodName := ⟨RX12, "call", "(I)V"⟩
abbrev cX12_empties : ByteArray := prog_14_method_62_code
def yX12_empties : MethodName := ⟨RX12, "empties", "()V"⟩
abbrev cX12_returns : ByteArray := prog_14_method_63_code
def yX12_returns : MethodName := ⟨RX12, "returns", "()V"⟩
abbrev cX12_answers : ByteArray := prog_14_method_64_code
def yX12_answers : MethodName := ⟨RX12, "answers", "(I)V"⟩
abbrev cX12_service : ByteArray := prog_14_method_65_code
def yX12_service : MethodName := ⟨RX12, "service", "(I)V"⟩
abbrev cX12_serves : ByteArray := prog_14_method_66_code
def yX12_serves : MethodName := ⟨RX12, "serves", "(IIII)V"⟩
abbrev cX12_sleeps : ByteArray := prog_14_method_67_code
def yX12_sleeps : MethodName := ⟨RX12, "sleeps", "(I)V"⟩
abbrev cX12_isWord : ByteArray := prog_14_method_68_code
def yX12_isWord : MethodName := ⟨RX12, "isWord", "(II)Z"⟩
abbrev cX12_waits : ByteArray := prog_14_method_69_code
def yX12_waits : MethodName := ⟨RX12, "waits", "(III)V"⟩
abbrev cX12_wakes : ByteArray := prog_14_method_70_code
def yX12_wakes : MethodName := ⟨RX12, "wakes", "(IJ)I"⟩
abbrev cX12_anyFreed : ByteArray := prog_14_method_71_code
def yX12_anyFreed : MethodName := ⟨RX12, "anyFreed", "()Z"⟩
abbrev cX12_freeBytes : ByteArray := prog_14_method_72_code
def yX12_freeBytes : MethodName := ⟨RX12, "freeBytes", "()I"⟩
abbrev cX12_takes : ByteArray := prog_14_method_73_code
def yX12_takes : MethodName := ⟨RX12, "takes", "(I)I"⟩
abbrev cX12_gets : ByteArray := prog_14_method_74_code
def yX12_gets : MethodName := ⟨RX12, "gets", "(II)Z"⟩
abbrev cX12_alloc : ByteArray := prog_14_method_75_code
def yX12_alloc : MethodName := ⟨RX12, "alloc", "(I)V"⟩
abbrev cX12_free : ByteArray := prog_14_method_76_code
def yX12_free : MethodName := ⟨RX12, "free", "(I)Z"⟩
abbrev cX12_sweep : ByteArray := prog_14_method_77_code
def yX12_sweep : MethodName := ⟨RX12, "sweep", "()V"⟩
abbrev cX12_areEnded : ByteArray := prog_14_method_78_code
def yX12_areEnded : MethodName := ⟨RX12, "areEnded", "()Z"⟩
abbrev cX12_isAhead : ByteArray := prog_14_method_79_code
def yX12_isAhead : MethodName := ⟨RX12, "isAhead", "(II)Z"⟩
abbrev cX12_chooses : ByteArray := prog_14_method_80_code
def yX12_chooses : MethodName := ⟨RX12, "chooses", "()V"⟩
abbrev cX12_step : ByteArray := prog_14_method_81_code
def yX12_step : MethodName := ⟨RX12, "step", "()V"⟩
abbrev cX12_run : ByteArray := prog_14_method_82_code
def yX12_run : MethodName := ⟨RX12, "run", "(I)I"⟩
abbrev cX12_input : ByteArray := prog_14_method_83_code
def yX12_input : MethodName := ⟨RX12, "input", "(I)Z"⟩
abbrev cX12_fetch : ByteArray := prog_14_method_84_code
def yX12_fetch : MethodName := ⟨RX12, "fetch", "()J"⟩
abbrev cX12_register : ByteArray := prog_14_method_85_code
def yX12_register : MethodName := ⟨RX12, "register", "(III)J"⟩
abbrev cX12_memory : ByteArray := prog_14_method_86_code
def yX12_memory : MethodName := ⟨RX12, "memory", "(II)J"⟩
abbrev cX12_tag : ByteArray := prog_14_method_87_code
def yX12_tag : MethodName := ⟨RX12, "tag", "(I)I"⟩
abbrev cX12_thread : ByteArray := prog_14_method_88_code
def yX12_thread : MethodName := ⟨RX12, "thread", "(II)I"⟩
abbrev cX12_compartment : ByteArray := prog_14_method_89_code
def yX12_compartment : MethodName := ⟨RX12, "compartment", "(II)I"⟩
abbrev cX12_heap : ByteArray := prog_14_method_90_code
def yX12_heap : MethodName := ⟨RX12, "heap", "(I)I"⟩
abbrev cX12_count : ByteArray := prog_14_method_91_code
def yX12_count : MethodName := ⟨RX12, "count", "(I)I"⟩
abbrev cX12_isMore : ByteArray := prog_14_method_92_code
def yX12_isMore : MethodName := ⟨RX12, "isMore", "(I)Z"⟩
abbrev cX12_broken : ByteArray := prog_14_method_93_code
def yX12_broken : MethodName := ⟨RX12, "broken", "(I)I"⟩
abbrev cX12_isStray : ByteArray := prog_14_method_94_code
def yX12_isStray : MethodName := ⟨RX12, "isStray", "(I)Z"⟩
def RJ9 : String := "java/lang/Math"
def TJ9 : u_T := fun k => match k with
  | _ => ("", "", "", false)
def tyJ9 : Nat → FieldType := fun k => match k with
  | _ => .int
abbrev wsJ90 : List Cond := u_ws RJ9 TJ9 0
theorem nmJ9 : ∀ a, a < 0 → ∀ b, b < 0 → a ≠ b → (TJ9 a).2.1 ≠ (TJ9 b).2.1 := by decide +kernel
theorem tyJ9_ok : ∀ k, k < 0 → parseFieldDescriptor (TJ9 k).2.2.1 = some (tyJ9 k) := by decide +kernel
abbrev cJ9_max_7cf53 : ByteArray := prog_15_method_65_code
def yJ9_max_7cf53 : MethodName := ⟨RJ9, "max", "(II)I"⟩
abbrev cJ9_min_7cf53 : ByteArray := prog_15_method_69_code
def yJ9_min_7cf53 : MethodName := ⟨RJ9, "min", "(II)I"⟩
abbrev cJ9_min_f86c9 : ByteArray := prog_15_method_70_code
def yJ9_min_f86c9 : MethodName := ⟨RJ9, "min", "(JJ)J"⟩
def RJ7 : String := "java/util/Arrays"
def TJ7 : u_T := fun k => match k with
  | _ => ("", "", "", false)
def tyJ7 : Nat → FieldType := fun k => match k with
  | _ => .int
abbrev wsJ70 : List Cond := u_ws RJ7 TJ7 0
theorem nmJ7 : ∀ a, a < 0 → ∀ b, b < 0 → a ≠ b → (TJ7 a).2.1 ≠ (TJ7 b).2.1 := by decide +kernel
theorem tyJ7_ok : ∀ k, k < 0 → parseFieldDescriptor (TJ7 k).2.2.1 = some (tyJ7 k) := by decide +kernel
abbrev cJ7_fill_53178 : ByteArray := prog_16_method_103_code
def yJ7_fill_53178 : MethodName := ⟨RJ7, "fill", "([II)V"⟩
abbrev cJ7_fill_031fb : ByteArray := prog_16_method_109_code
def yJ7_fill_031fb : MethodName := ⟨RJ7, "fill", "([BB)V"⟩
def RL : String := "SweptGrantsLaw"
abbrev cL_cell : ByteArray := method_2_code
def yL_cell : MethodName := ⟨RL, "cell", "([II)I"⟩
abbrev cL_law : ByteArray := code
def yL_law : MethodName := ⟨RL, "law", "([I)Z"⟩
abbrev vwCl : List vw_C := [(RX0, TX0, 6), (RX1, TX1, 12), (RX3, TX3, 7), (RX4, TX4, 9), (RX5, TX5, 10), (RX6, TX6, 3), (RX8, TX8, 2), (RX9, TX9, 19), (RX10, TX10, 17), (RX11, TX11, 2), (RX12, TX12, 82)]
