section
-- ===== PART A: goes FIRST, ahead of the names: the tables' words, and 'selects' of the private methods out of them =====
/-- a private method of a class that the tables say can be made, by its rows of tables_1 -/
def lw_okq (q : MethodName × Nat) : Prop := (q.1.cls ≠ "java/lang/invoke/MethodHandle" ∧ q.1.cls ≠ "java/lang/invoke/VarHandle") ∧ Cond.instantiable q.1.cls q.2 ∈ tables_1 ∧ Cond.privateMethod q.1 ∈ tables_1 ∧ Cond.instanceMethod q.1 ∈ tables_1
theorem lw_p0 : lw_okq (⟨"EchoCouncil", "bothWaysAgree", "(I)Z"⟩, 8) := ⟨⟨by decide +kernel, by decide +kernel⟩, List.mem_of_getElem? (i := 37) (by decide +kernel), List.mem_of_getElem? (i := 380) (by decide +kernel), List.mem_of_getElem? (i := 381) (by decide +kernel)⟩
theorem lw_p1 : lw_okq (⟨"EchoCouncil", "change", "(LEchoCouncil$OrderKind;III)I"⟩, 8) := ⟨⟨by decide +kernel, by decide +kernel⟩, List.mem_of_getElem? (i := 37) (by decide +kernel), List.mem_of_getElem? (i := 443) (by decide +kernel), List.mem_of_getElem? (i := 444) (by decide +kernel)⟩
theorem lw_p2 : lw_okq (⟨"EchoCouncil", "isRefused", "(LEchoCouncil$OrderKind;III)Z"⟩, 8) := ⟨⟨by decide +kernel, by decide +kernel⟩, List.mem_of_getElem? (i := 37) (by decide +kernel), List.mem_of_getElem? (i := 447) (by decide +kernel), List.mem_of_getElem? (i := 448) (by decide +kernel)⟩
theorem lw_p3 : lw_okq (⟨"EchoCouncil", "isRoomRefused", "(I)Z"⟩, 8) := ⟨⟨by decide +kernel, by decide +kernel⟩, List.mem_of_getElem? (i := 37) (by decide +kernel), List.mem_of_getElem? (i := 459) (by decide +kernel), List.mem_of_getElem? (i := 460) (by decide +kernel)⟩
theorem lw_p4 : lw_okq (⟨"EchoCouncil", "isEchoRefused", "(II)Z"⟩, 8) := ⟨⟨by decide +kernel, by decide +kernel⟩, List.mem_of_getElem? (i := 37) (by decide +kernel), List.mem_of_getElem? (i := 467) (by decide +kernel), List.mem_of_getElem? (i := 468) (by decide +kernel)⟩
theorem lw_p5 : lw_okq (⟨"EchoCouncil", "isSingerRefused", "(II)Z"⟩, 8) := ⟨⟨by decide +kernel, by decide +kernel⟩, List.mem_of_getElem? (i := 37) (by decide +kernel), List.mem_of_getElem? (i := 475) (by decide +kernel), List.mem_of_getElem? (i := 476) (by decide +kernel)⟩
theorem lw_p6 : lw_okq (⟨"EchoCouncil", "isEnteringRefused", "(II)Z"⟩, 8) := ⟨⟨by decide +kernel, by decide +kernel⟩, List.mem_of_getElem? (i := 37) (by decide +kernel), List.mem_of_getElem? (i := 479) (by decide +kernel), List.mem_of_getElem? (i := 480) (by decide +kernel)⟩
theorem lw_p7 : lw_okq (⟨"EchoCouncil", "isGoingOutRefused", "(I)Z"⟩, 8) := ⟨⟨by decide +kernel, by decide +kernel⟩, List.mem_of_getElem? (i := 37) (by decide +kernel), List.mem_of_getElem? (i := 507) (by decide +kernel), List.mem_of_getElem? (i := 508) (by decide +kernel)⟩
theorem lw_p8 : lw_okq (⟨"EchoCouncil", "isCarryingRefused", "(II)Z"⟩, 8) := ⟨⟨by decide +kernel, by decide +kernel⟩, List.mem_of_getElem? (i := 37) (by decide +kernel), List.mem_of_getElem? (i := 511) (by decide +kernel), List.mem_of_getElem? (i := 512) (by decide +kernel)⟩
theorem lw_p9 : lw_okq (⟨"EchoCouncil", "isRentingRefused", "(III)Z"⟩, 8) := ⟨⟨by decide +kernel, by decide +kernel⟩, List.mem_of_getElem? (i := 37) (by decide +kernel), List.mem_of_getElem? (i := 523) (by decide +kernel), List.mem_of_getElem? (i := 524) (by decide +kernel)⟩
theorem lw_p10 : lw_okq (⟨"EchoCouncil", "isGivingBackRefused", "(II)Z"⟩, 8) := ⟨⟨by decide +kernel, by decide +kernel⟩, List.mem_of_getElem? (i := 37) (by decide +kernel), List.mem_of_getElem? (i := 535) (by decide +kernel), List.mem_of_getElem? (i := 536) (by decide +kernel)⟩
theorem lw_p11 : lw_okq (⟨"EchoCouncil", "isSingingRefused", "(I)Z"⟩, 8) := ⟨⟨by decide +kernel, by decide +kernel⟩, List.mem_of_getElem? (i := 37) (by decide +kernel), List.mem_of_getElem? (i := 539) (by decide +kernel), List.mem_of_getElem? (i := 540) (by decide +kernel)⟩
theorem lw_p12 : lw_okq (⟨"java/lang/Throwable", "fillInStackTrace", "(I)Ljava/lang/Throwable;"⟩, 6) := ⟨⟨by decide +kernel, by decide +kernel⟩, List.mem_of_getElem? (i := 586) (by decide +kernel), List.mem_of_getElem? (i := 584) (by decide +kernel), List.mem_of_getElem? (i := 585) (by decide +kernel)⟩
theorem lw_p13 : lw_okq (⟨"EchoCouncil", "doOrder", "(LEchoCouncil$OrderKind;III)I"⟩, 8) := ⟨⟨by decide +kernel, by decide +kernel⟩, List.mem_of_getElem? (i := 37) (by decide +kernel), List.mem_of_getElem? (i := 615) (by decide +kernel), List.mem_of_getElem? (i := 616) (by decide +kernel)⟩
theorem lw_p14 : lw_okq (⟨"EchoCouncil", "checkRoom", "(I)V"⟩, 8) := ⟨⟨by decide +kernel, by decide +kernel⟩, List.mem_of_getElem? (i := 37) (by decide +kernel), List.mem_of_getElem? (i := 764) (by decide +kernel), List.mem_of_getElem? (i := 765) (by decide +kernel)⟩
theorem lw_p15 : lw_okq (⟨"EchoCouncil", "checkEcho", "(I)V"⟩, 8) := ⟨⟨by decide +kernel, by decide +kernel⟩, List.mem_of_getElem? (i := 37) (by decide +kernel), List.mem_of_getElem? (i := 813) (by decide +kernel), List.mem_of_getElem? (i := 814) (by decide +kernel)⟩
def lw_privs_1 : List (MethodName × Nat) := [(⟨"EchoCouncil", "bothWaysAgree", "(I)Z"⟩, 8), (⟨"EchoCouncil", "change", "(LEchoCouncil$OrderKind;III)I"⟩, 8), (⟨"EchoCouncil", "isRefused", "(LEchoCouncil$OrderKind;III)Z"⟩, 8), (⟨"EchoCouncil", "isRoomRefused", "(I)Z"⟩, 8), (⟨"EchoCouncil", "isEchoRefused", "(II)Z"⟩, 8), (⟨"EchoCouncil", "isSingerRefused", "(II)Z"⟩, 8), (⟨"EchoCouncil", "isEnteringRefused", "(II)Z"⟩, 8), (⟨"EchoCouncil", "isGoingOutRefused", "(I)Z"⟩, 8), (⟨"EchoCouncil", "isCarryingRefused", "(II)Z"⟩, 8), (⟨"EchoCouncil", "isRentingRefused", "(III)Z"⟩, 8), (⟨"EchoCouncil", "isGivingBackRefused", "(II)Z"⟩, 8), (⟨"EchoCouncil", "isSingingRefused", "(I)Z"⟩, 8), (⟨"java/lang/Throwable", "fillInStackTrace", "(I)Ljava/lang/Throwable;"⟩, 6), (⟨"EchoCouncil", "doOrder", "(LEchoCouncil$OrderKind;III)I"⟩, 8), (⟨"EchoCouncil", "checkRoom", "(I)V"⟩, 8), (⟨"EchoCouncil", "checkEcho", "(I)V"⟩, 8)]
theorem lw_r1 : ∀ q ∈ lw_privs_1, lw_okq q := List.forall_mem_cons.mpr ⟨lw_p0, List.forall_mem_cons.mpr ⟨lw_p1, List.forall_mem_cons.mpr ⟨lw_p2, List.forall_mem_cons.mpr ⟨lw_p3, List.forall_mem_cons.mpr ⟨lw_p4, List.forall_mem_cons.mpr ⟨lw_p5, List.forall_mem_cons.mpr ⟨lw_p6, List.forall_mem_cons.mpr ⟨lw_p7, List.forall_mem_cons.mpr ⟨lw_p8, List.forall_mem_cons.mpr ⟨lw_p9, List.forall_mem_cons.mpr ⟨lw_p10, List.forall_mem_cons.mpr ⟨lw_p11, List.forall_mem_cons.mpr ⟨lw_p12, List.forall_mem_cons.mpr ⟨lw_p13, List.forall_mem_cons.mpr ⟨lw_p14, List.forall_mem_cons.mpr ⟨lw_p15, fun _ h => absurd h List.not_mem_nil⟩⟩⟩⟩⟩⟩⟩⟩⟩⟩⟩⟩⟩⟩⟩⟩
theorem lw_p16 : lw_okq (⟨"EchoCouncil", "checkSinger", "(I)V"⟩, 8) := ⟨⟨by decide +kernel, by decide +kernel⟩, List.mem_of_getElem? (i := 37) (by decide +kernel), List.mem_of_getElem? (i := 826) (by decide +kernel), List.mem_of_getElem? (i := 827) (by decide +kernel)⟩
theorem lw_p17 : lw_okq (⟨"EchoCouncil", "checkSingerInside", "(I)V"⟩, 8) := ⟨⟨by decide +kernel, by decide +kernel⟩, List.mem_of_getElem? (i := 37) (by decide +kernel), List.mem_of_getElem? (i := 845) (by decide +kernel), List.mem_of_getElem? (i := 846) (by decide +kernel)⟩
theorem lw_p18 : lw_okq (⟨"EchoCouncil", "countRoomsAhead", "(I)I"⟩, 8) := ⟨⟨by decide +kernel, by decide +kernel⟩, List.mem_of_getElem? (i := 37) (by decide +kernel), List.mem_of_getElem? (i := 952) (by decide +kernel), List.mem_of_getElem? (i := 953) (by decide +kernel)⟩
theorem lw_p19 : lw_okq (⟨"EchoCouncil", "isDamperThan", "(II)Z"⟩, 8) := ⟨⟨by decide +kernel, by decide +kernel⟩, List.mem_of_getElem? (i := 37) (by decide +kernel), List.mem_of_getElem? (i := 956) (by decide +kernel), List.mem_of_getElem? (i := 957) (by decide +kernel)⟩
theorem lw_p20 : lw_okq (⟨"EchoCouncil", "countSingersAhead", "(II)I"⟩, 8) := ⟨⟨by decide +kernel, by decide +kernel⟩, List.mem_of_getElem? (i := 37) (by decide +kernel), List.mem_of_getElem? (i := 969) (by decide +kernel), List.mem_of_getElem? (i := 970) (by decide +kernel)⟩
theorem lw_p21 : lw_okq (⟨"EchoCouncil", "rankedValue", "(II)I"⟩, 8) := ⟨⟨by decide +kernel, by decide +kernel⟩, List.mem_of_getElem? (i := 37) (by decide +kernel), List.mem_of_getElem? (i := 973) (by decide +kernel), List.mem_of_getElem? (i := 974) (by decide +kernel)⟩
theorem lw_p22 : lw_okq (⟨"EchoCouncil", "countEchoesAhead", "(I)I"⟩, 8) := ⟨⟨by decide +kernel, by decide +kernel⟩, List.mem_of_getElem? (i := 37) (by decide +kernel), List.mem_of_getElem? (i := 985) (by decide +kernel), List.mem_of_getElem? (i := 986) (by decide +kernel)⟩
theorem lw_p23 : lw_okq (⟨"EchoCouncil", "isStrongerThan", "(II)Z"⟩, 8) := ⟨⟨by decide +kernel, by decide +kernel⟩, List.mem_of_getElem? (i := 37) (by decide +kernel), List.mem_of_getElem? (i := 989) (by decide +kernel), List.mem_of_getElem? (i := 990) (by decide +kernel)⟩
theorem lw_p24 : lw_okq (⟨"EchoCouncil", "doesAllOrders", "()Z"⟩, 8) := ⟨⟨by decide +kernel, by decide +kernel⟩, List.mem_of_getElem? (i := 37) (by decide +kernel), List.mem_of_getElem? (i := 1109) (by decide +kernel), List.mem_of_getElem? (i := 1110) (by decide +kernel)⟩
theorem lw_p25 : lw_okq (⟨"EchoCouncil", "writeEchoesIn", "(I)V"⟩, 8) := ⟨⟨by decide +kernel, by decide +kernel⟩, List.mem_of_getElem? (i := 37) (by decide +kernel), List.mem_of_getElem? (i := 1378) (by decide +kernel), List.mem_of_getElem? (i := 1379) (by decide +kernel)⟩
theorem lw_p26 : lw_okq (⟨"EchoCouncil", "writeSingersIn", "(I)V"⟩, 8) := ⟨⟨by decide +kernel, by decide +kernel⟩, List.mem_of_getElem? (i := 37) (by decide +kernel), List.mem_of_getElem? (i := 1382) (by decide +kernel), List.mem_of_getElem? (i := 1383) (by decide +kernel)⟩
theorem lw_p27 : lw_okq (⟨"EchoCouncilModel", "goes", "(ZZ)Z"⟩, 23) := ⟨⟨by decide +kernel, by decide +kernel⟩, List.mem_of_getElem? (i := 1499) (by decide +kernel), List.mem_of_getElem? (i := 1586) (by decide +kernel), List.mem_of_getElem? (i := 1587) (by decide +kernel)⟩
theorem lw_p28 : lw_okq (⟨"EchoCouncilModel", "begins", "()V"⟩, 23) := ⟨⟨by decide +kernel, by decide +kernel⟩, List.mem_of_getElem? (i := 1499) (by decide +kernel), List.mem_of_getElem? (i := 1609) (by decide +kernel), List.mem_of_getElem? (i := 1610) (by decide +kernel)⟩
theorem lw_p29 : lw_okq (⟨"EchoCouncilModel", "opens", "(I)I"⟩, 23) := ⟨⟨by decide +kernel, by decide +kernel⟩, List.mem_of_getElem? (i := 1499) (by decide +kernel), List.mem_of_getElem? (i := 1613) (by decide +kernel), List.mem_of_getElem? (i := 1614) (by decide +kernel)⟩
theorem lw_p30 : lw_okq (⟨"EchoCouncilModel", "hinders", "(ZII)V"⟩, 23) := ⟨⟨by decide +kernel, by decide +kernel⟩, List.mem_of_getElem? (i := 1499) (by decide +kernel), List.mem_of_getElem? (i := 1617) (by decide +kernel), List.mem_of_getElem? (i := 1618) (by decide +kernel)⟩
theorem lw_p31 : lw_okq (⟨"EchoCouncilModel", "ends", "(I)I"⟩, 23) := ⟨⟨by decide +kernel, by decide +kernel⟩, List.mem_of_getElem? (i := 1499) (by decide +kernel), List.mem_of_getElem? (i := 1624) (by decide +kernel), List.mem_of_getElem? (i := 1625) (by decide +kernel)⟩
def lw_privs_2 : List (MethodName × Nat) := [(⟨"EchoCouncil", "checkSinger", "(I)V"⟩, 8), (⟨"EchoCouncil", "checkSingerInside", "(I)V"⟩, 8), (⟨"EchoCouncil", "countRoomsAhead", "(I)I"⟩, 8), (⟨"EchoCouncil", "isDamperThan", "(II)Z"⟩, 8), (⟨"EchoCouncil", "countSingersAhead", "(II)I"⟩, 8), (⟨"EchoCouncil", "rankedValue", "(II)I"⟩, 8), (⟨"EchoCouncil", "countEchoesAhead", "(I)I"⟩, 8), (⟨"EchoCouncil", "isStrongerThan", "(II)Z"⟩, 8), (⟨"EchoCouncil", "doesAllOrders", "()Z"⟩, 8), (⟨"EchoCouncil", "writeEchoesIn", "(I)V"⟩, 8), (⟨"EchoCouncil", "writeSingersIn", "(I)V"⟩, 8), (⟨"EchoCouncilModel", "goes", "(ZZ)Z"⟩, 23), (⟨"EchoCouncilModel", "begins", "()V"⟩, 23), (⟨"EchoCouncilModel", "opens", "(I)I"⟩, 23), (⟨"EchoCouncilModel", "hinders", "(ZII)V"⟩, 23), (⟨"EchoCouncilModel", "ends", "(I)I"⟩, 23)]
theorem lw_r2 : ∀ q ∈ lw_privs_2, lw_okq q := List.forall_mem_cons.mpr ⟨lw_p16, List.forall_mem_cons.mpr ⟨lw_p17, List.forall_mem_cons.mpr ⟨lw_p18, List.forall_mem_cons.mpr ⟨lw_p19, List.forall_mem_cons.mpr ⟨lw_p20, List.forall_mem_cons.mpr ⟨lw_p21, List.forall_mem_cons.mpr ⟨lw_p22, List.forall_mem_cons.mpr ⟨lw_p23, List.forall_mem_cons.mpr ⟨lw_p24, List.forall_mem_cons.mpr ⟨lw_p25, List.forall_mem_cons.mpr ⟨lw_p26, List.forall_mem_cons.mpr ⟨lw_p27, List.forall_mem_cons.mpr ⟨lw_p28, List.forall_mem_cons.mpr ⟨lw_p29, List.forall_mem_cons.mpr ⟨lw_p30, List.forall_mem_cons.mpr ⟨lw_p31, fun _ h => absurd h List.not_mem_nil⟩⟩⟩⟩⟩⟩⟩⟩⟩⟩⟩⟩⟩⟩⟩⟩
theorem lw_p32 : lw_okq (⟨"EchoCouncilModel", "refuses", "(IIIII)I"⟩, 23) := ⟨⟨by decide +kernel, by decide +kernel⟩, List.mem_of_getElem? (i := 1499) (by decide +kernel), List.mem_of_getElem? (i := 1628) (by decide +kernel), List.mem_of_getElem? (i := 1629) (by decide +kernel)⟩
theorem lw_p33 : lw_okq (⟨"EchoCouncilModel", "remembers", "()V"⟩, 23) := ⟨⟨by decide +kernel, by decide +kernel⟩, List.mem_of_getElem? (i := 1499) (by decide +kernel), List.mem_of_getElem? (i := 1632) (by decide +kernel), List.mem_of_getElem? (i := 1633) (by decide +kernel)⟩
theorem lw_p34 : lw_okq (⟨"EchoCouncilModel", "sounds", "(II)I"⟩, 23) := ⟨⟨by decide +kernel, by decide +kernel⟩, List.mem_of_getElem? (i := 1499) (by decide +kernel), List.mem_of_getElem? (i := 1640) (by decide +kernel), List.mem_of_getElem? (i := 1641) (by decide +kernel)⟩
theorem lw_p35 : lw_okq (⟨"EchoCouncilModel", "isRoom", "(I)Z"⟩, 23) := ⟨⟨by decide +kernel, by decide +kernel⟩, List.mem_of_getElem? (i := 1499) (by decide +kernel), List.mem_of_getElem? (i := 1644) (by decide +kernel), List.mem_of_getElem? (i := 1645) (by decide +kernel)⟩
theorem lw_p36 : lw_okq (⟨"EchoCouncilModel", "arrives", "(II)I"⟩, 23) := ⟨⟨by decide +kernel, by decide +kernel⟩, List.mem_of_getElem? (i := 1499) (by decide +kernel), List.mem_of_getElem? (i := 1655) (by decide +kernel), List.mem_of_getElem? (i := 1656) (by decide +kernel)⟩
theorem lw_p37 : lw_okq (⟨"EchoCouncilModel", "comesIn", "(II)I"⟩, 23) := ⟨⟨by decide +kernel, by decide +kernel⟩, List.mem_of_getElem? (i := 1499) (by decide +kernel), List.mem_of_getElem? (i := 1666) (by decide +kernel), List.mem_of_getElem? (i := 1667) (by decide +kernel)⟩
theorem lw_p38 : lw_okq (⟨"EchoCouncilModel", "isSinger", "(I)Z"⟩, 23) := ⟨⟨by decide +kernel, by decide +kernel⟩, List.mem_of_getElem? (i := 1499) (by decide +kernel), List.mem_of_getElem? (i := 1670) (by decide +kernel), List.mem_of_getElem? (i := 1671) (by decide +kernel)⟩
theorem lw_p39 : lw_okq (⟨"EchoCouncilModel", "asksRoom", "(II)V"⟩, 23) := ⟨⟨by decide +kernel, by decide +kernel⟩, List.mem_of_getElem? (i := 1499) (by decide +kernel), List.mem_of_getElem? (i := 1674) (by decide +kernel), List.mem_of_getElem? (i := 1675) (by decide +kernel)⟩
theorem lw_p40 : lw_okq (⟨"EchoCouncilModel", "othersIn", "(I)I"⟩, 23) := ⟨⟨by decide +kernel, by decide +kernel⟩, List.mem_of_getElem? (i := 1499) (by decide +kernel), List.mem_of_getElem? (i := 1678) (by decide +kernel), List.mem_of_getElem? (i := 1679) (by decide +kernel)⟩
theorem lw_p41 : lw_okq (⟨"EchoCouncilModel", "singersIn", "(I)I"⟩, 23) := ⟨⟨by decide +kernel, by decide +kernel⟩, List.mem_of_getElem? (i := 1499) (by decide +kernel), List.mem_of_getElem? (i := 1682) (by decide +kernel), List.mem_of_getElem? (i := 1683) (by decide +kernel)⟩
theorem lw_p42 : lw_okq (⟨"EchoCouncilModel", "goesOut", "(I)I"⟩, 23) := ⟨⟨by decide +kernel, by decide +kernel⟩, List.mem_of_getElem? (i := 1499) (by decide +kernel), List.mem_of_getElem? (i := 1691) (by decide +kernel), List.mem_of_getElem? (i := 1692) (by decide +kernel)⟩
theorem lw_p43 : lw_okq (⟨"EchoCouncilModel", "carries", "(II)I"⟩, 23) := ⟨⟨by decide +kernel, by decide +kernel⟩, List.mem_of_getElem? (i := 1499) (by decide +kernel), List.mem_of_getElem? (i := 1699) (by decide +kernel), List.mem_of_getElem? (i := 1700) (by decide +kernel)⟩
theorem lw_p44 : lw_okq (⟨"EchoCouncilModel", "isEcho", "(I)Z"⟩, 23) := ⟨⟨by decide +kernel, by decide +kernel⟩, List.mem_of_getElem? (i := 1499) (by decide +kernel), List.mem_of_getElem? (i := 1703) (by decide +kernel), List.mem_of_getElem? (i := 1704) (by decide +kernel)⟩
theorem lw_p45 : lw_okq (⟨"EchoCouncilModel", "rents", "(III)I"⟩, 23) := ⟨⟨by decide +kernel, by decide +kernel⟩, List.mem_of_getElem? (i := 1499) (by decide +kernel), List.mem_of_getElem? (i := 1711) (by decide +kernel), List.mem_of_getElem? (i := 1712) (by decide +kernel)⟩
theorem lw_p46 : lw_okq (⟨"EchoCouncilModel", "asksEcho", "(II)V"⟩, 23) := ⟨⟨by decide +kernel, by decide +kernel⟩, List.mem_of_getElem? (i := 1499) (by decide +kernel), List.mem_of_getElem? (i := 1715) (by decide +kernel), List.mem_of_getElem? (i := 1716) (by decide +kernel)⟩
theorem lw_p47 : lw_okq (⟨"EchoCouncilModel", "gives", "(II)I"⟩, 23) := ⟨⟨by decide +kernel, by decide +kernel⟩, List.mem_of_getElem? (i := 1499) (by decide +kernel), List.mem_of_getElem? (i := 1723) (by decide +kernel), List.mem_of_getElem? (i := 1724) (by decide +kernel)⟩
def lw_privs_3 : List (MethodName × Nat) := [(⟨"EchoCouncilModel", "refuses", "(IIIII)I"⟩, 23), (⟨"EchoCouncilModel", "remembers", "()V"⟩, 23), (⟨"EchoCouncilModel", "sounds", "(II)I"⟩, 23), (⟨"EchoCouncilModel", "isRoom", "(I)Z"⟩, 23), (⟨"EchoCouncilModel", "arrives", "(II)I"⟩, 23), (⟨"EchoCouncilModel", "comesIn", "(II)I"⟩, 23), (⟨"EchoCouncilModel", "isSinger", "(I)Z"⟩, 23), (⟨"EchoCouncilModel", "asksRoom", "(II)V"⟩, 23), (⟨"EchoCouncilModel", "othersIn", "(I)I"⟩, 23), (⟨"EchoCouncilModel", "singersIn", "(I)I"⟩, 23), (⟨"EchoCouncilModel", "goesOut", "(I)I"⟩, 23), (⟨"EchoCouncilModel", "carries", "(II)I"⟩, 23), (⟨"EchoCouncilModel", "isEcho", "(I)Z"⟩, 23), (⟨"EchoCouncilModel", "rents", "(III)I"⟩, 23), (⟨"EchoCouncilModel", "asksEcho", "(II)V"⟩, 23), (⟨"EchoCouncilModel", "gives", "(II)I"⟩, 23)]
theorem lw_r3 : ∀ q ∈ lw_privs_3, lw_okq q := List.forall_mem_cons.mpr ⟨lw_p32, List.forall_mem_cons.mpr ⟨lw_p33, List.forall_mem_cons.mpr ⟨lw_p34, List.forall_mem_cons.mpr ⟨lw_p35, List.forall_mem_cons.mpr ⟨lw_p36, List.forall_mem_cons.mpr ⟨lw_p37, List.forall_mem_cons.mpr ⟨lw_p38, List.forall_mem_cons.mpr ⟨lw_p39, List.forall_mem_cons.mpr ⟨lw_p40, List.forall_mem_cons.mpr ⟨lw_p41, List.forall_mem_cons.mpr ⟨lw_p42, List.forall_mem_cons.mpr ⟨lw_p43, List.forall_mem_cons.mpr ⟨lw_p44, List.forall_mem_cons.mpr ⟨lw_p45, List.forall_mem_cons.mpr ⟨lw_p46, List.forall_mem_cons.mpr ⟨lw_p47, fun _ h => absurd h List.not_mem_nil⟩⟩⟩⟩⟩⟩⟩⟩⟩⟩⟩⟩⟩⟩⟩⟩
theorem lw_p48 : lw_okq (⟨"EchoCouncilModel", "stops", "(I)I"⟩, 23) := ⟨⟨by decide +kernel, by decide +kernel⟩, List.mem_of_getElem? (i := 1499) (by decide +kernel), List.mem_of_getElem? (i := 1729) (by decide +kernel), List.mem_of_getElem? (i := 1730) (by decide +kernel)⟩
theorem lw_p49 : lw_okq (⟨"EchoCouncilModel", "worthOf", "(I)I"⟩, 23) := ⟨⟨by decide +kernel, by decide +kernel⟩, List.mem_of_getElem? (i := 1499) (by decide +kernel), List.mem_of_getElem? (i := 1733) (by decide +kernel), List.mem_of_getElem? (i := 1734) (by decide +kernel)⟩
theorem lw_p50 : lw_okq (⟨"EchoCouncilModel", "sings", "(I)I"⟩, 23) := ⟨⟨by decide +kernel, by decide +kernel⟩, List.mem_of_getElem? (i := 1499) (by decide +kernel), List.mem_of_getElem? (i := 1741) (by decide +kernel), List.mem_of_getElem? (i := 1742) (by decide +kernel)⟩
theorem lw_p51 : lw_okq (⟨"EchoCouncilModel", "passes", "()I"⟩, 23) := ⟨⟨by decide +kernel, by decide +kernel⟩, List.mem_of_getElem? (i := 1499) (by decide +kernel), List.mem_of_getElem? (i := 1749) (by decide +kernel), List.mem_of_getElem? (i := 1750) (by decide +kernel)⟩
theorem lw_p52 : lw_okq (⟨"EchoCouncilModel", "echoesIn", "(IZ)I"⟩, 23) := ⟨⟨by decide +kernel, by decide +kernel⟩, List.mem_of_getElem? (i := 1499) (by decide +kernel), List.mem_of_getElem? (i := 1757) (by decide +kernel), List.mem_of_getElem? (i := 1758) (by decide +kernel)⟩
theorem lw_p53 : lw_okq (⟨"EchoCouncilModel", "letTo", "(IZ)I"⟩, 23) := ⟨⟨by decide +kernel, by decide +kernel⟩, List.mem_of_getElem? (i := 1499) (by decide +kernel), List.mem_of_getElem? (i := 1769) (by decide +kernel), List.mem_of_getElem? (i := 1770) (by decide +kernel)⟩
theorem lw_p54 : lw_okq (⟨"EchoCouncilModel", "tonesNow", "(I)I"⟩, 23) := ⟨⟨by decide +kernel, by decide +kernel⟩, List.mem_of_getElem? (i := 1499) (by decide +kernel), List.mem_of_getElem? (i := 1777) (by decide +kernel), List.mem_of_getElem? (i := 1778) (by decide +kernel)⟩
theorem lw_p55 : lw_okq (⟨"EchoCouncilModel", "isInside", "(I)Z"⟩, 23) := ⟨⟨by decide +kernel, by decide +kernel⟩, List.mem_of_getElem? (i := 1499) (by decide +kernel), List.mem_of_getElem? (i := 1781) (by decide +kernel), List.mem_of_getElem? (i := 1782) (by decide +kernel)⟩
theorem lw_p56 : lw_okq (⟨"EchoCouncilModel", "tonesIn", "(III)I"⟩, 23) := ⟨⟨by decide +kernel, by decide +kernel⟩, List.mem_of_getElem? (i := 1499) (by decide +kernel), List.mem_of_getElem? (i := 1785) (by decide +kernel), List.mem_of_getElem? (i := 1786) (by decide +kernel)⟩
theorem lw_p57 : lw_okq (⟨"EchoCouncilModel", "versesNow", "(I)I"⟩, 23) := ⟨⟨by decide +kernel, by decide +kernel⟩, List.mem_of_getElem? (i := 1499) (by decide +kernel), List.mem_of_getElem? (i := 1797) (by decide +kernel), List.mem_of_getElem? (i := 1798) (by decide +kernel)⟩
theorem lw_p58 : lw_okq (⟨"EchoCouncilModel", "rankOf", "(II)I"⟩, 23) := ⟨⟨by decide +kernel, by decide +kernel⟩, List.mem_of_getElem? (i := 1499) (by decide +kernel), List.mem_of_getElem? (i := 1845) (by decide +kernel), List.mem_of_getElem? (i := 1846) (by decide +kernel)⟩
theorem lw_p59 : lw_okq (⟨"EchoCouncilModel", "writesNumber", "(II)I"⟩, 23) := ⟨⟨by decide +kernel, by decide +kernel⟩, List.mem_of_getElem? (i := 1499) (by decide +kernel), List.mem_of_getElem? (i := 1861) (by decide +kernel), List.mem_of_getElem? (i := 1862) (by decide +kernel)⟩
theorem lw_p60 : lw_okq (⟨"EchoCouncilModel", "put", "(II)I"⟩, 23) := ⟨⟨by decide +kernel, by decide +kernel⟩, List.mem_of_getElem? (i := 1499) (by decide +kernel), List.mem_of_getElem? (i := 1865) (by decide +kernel), List.mem_of_getElem? (i := 1866) (by decide +kernel)⟩
theorem lw_p61 : lw_okq (⟨"EchoCouncilModel", "allLet", "()I"⟩, 23) := ⟨⟨by decide +kernel, by decide +kernel⟩, List.mem_of_getElem? (i := 1499) (by decide +kernel), List.mem_of_getElem? (i := 1885) (by decide +kernel), List.mem_of_getElem? (i := 1886) (by decide +kernel)⟩
theorem lw_p62 : lw_okq (⟨"EchoCouncilModel", "allDamp", "()I"⟩, 23) := ⟨⟨by decide +kernel, by decide +kernel⟩, List.mem_of_getElem? (i := 1499) (by decide +kernel), List.mem_of_getElem? (i := 1889) (by decide +kernel), List.mem_of_getElem? (i := 1890) (by decide +kernel)⟩
theorem lw_p63 : lw_okq (⟨"EchoCouncilModel", "readsAll", "()V"⟩, 23) := ⟨⟨by decide +kernel, by decide +kernel⟩, List.mem_of_getElem? (i := 1499) (by decide +kernel), List.mem_of_getElem? (i := 1913) (by decide +kernel), List.mem_of_getElem? (i := 1914) (by decide +kernel)⟩
def lw_privs_4 : List (MethodName × Nat) := [(⟨"EchoCouncilModel", "stops", "(I)I"⟩, 23), (⟨"EchoCouncilModel", "worthOf", "(I)I"⟩, 23), (⟨"EchoCouncilModel", "sings", "(I)I"⟩, 23), (⟨"EchoCouncilModel", "passes", "()I"⟩, 23), (⟨"EchoCouncilModel", "echoesIn", "(IZ)I"⟩, 23), (⟨"EchoCouncilModel", "letTo", "(IZ)I"⟩, 23), (⟨"EchoCouncilModel", "tonesNow", "(I)I"⟩, 23), (⟨"EchoCouncilModel", "isInside", "(I)Z"⟩, 23), (⟨"EchoCouncilModel", "tonesIn", "(III)I"⟩, 23), (⟨"EchoCouncilModel", "versesNow", "(I)I"⟩, 23), (⟨"EchoCouncilModel", "rankOf", "(II)I"⟩, 23), (⟨"EchoCouncilModel", "writesNumber", "(II)I"⟩, 23), (⟨"EchoCouncilModel", "put", "(II)I"⟩, 23), (⟨"EchoCouncilModel", "allLet", "()I"⟩, 23), (⟨"EchoCouncilModel", "allDamp", "()I"⟩, 23), (⟨"EchoCouncilModel", "readsAll", "()V"⟩, 23)]
theorem lw_r4 : ∀ q ∈ lw_privs_4, lw_okq q := List.forall_mem_cons.mpr ⟨lw_p48, List.forall_mem_cons.mpr ⟨lw_p49, List.forall_mem_cons.mpr ⟨lw_p50, List.forall_mem_cons.mpr ⟨lw_p51, List.forall_mem_cons.mpr ⟨lw_p52, List.forall_mem_cons.mpr ⟨lw_p53, List.forall_mem_cons.mpr ⟨lw_p54, List.forall_mem_cons.mpr ⟨lw_p55, List.forall_mem_cons.mpr ⟨lw_p56, List.forall_mem_cons.mpr ⟨lw_p57, List.forall_mem_cons.mpr ⟨lw_p58, List.forall_mem_cons.mpr ⟨lw_p59, List.forall_mem_cons.mpr ⟨lw_p60, List.forall_mem_cons.mpr ⟨lw_p61, List.forall_mem_cons.mpr ⟨lw_p62, List.forall_mem_cons.mpr ⟨lw_p63, fun _ h => absurd h List.not_mem_nil⟩⟩⟩⟩⟩⟩⟩⟩⟩⟩⟩⟩⟩⟩⟩⟩
theorem lw_p64 : lw_okq (⟨"EchoCouncilModel", "readsCommand", "()V"⟩, 23) := ⟨⟨by decide +kernel, by decide +kernel⟩, List.mem_of_getElem? (i := 1499) (by decide +kernel), List.mem_of_getElem? (i := 1917) (by decide +kernel), List.mem_of_getElem? (i := 1918) (by decide +kernel)⟩
theorem lw_p65 : lw_okq (⟨"EchoCouncilModel", "kindHere", "()I"⟩, 23) := ⟨⟨by decide +kernel, by decide +kernel⟩, List.mem_of_getElem? (i := 1499) (by decide +kernel), List.mem_of_getElem? (i := 1921) (by decide +kernel), List.mem_of_getElem? (i := 1922) (by decide +kernel)⟩
theorem lw_p66 : lw_okq (⟨"EchoCouncilModel", "digit", "()I"⟩, 23) := ⟨⟨by decide +kernel, by decide +kernel⟩, List.mem_of_getElem? (i := 1499) (by decide +kernel), List.mem_of_getElem? (i := 1930) (by decide +kernel), List.mem_of_getElem? (i := 1931) (by decide +kernel)⟩
theorem lw_p67 : lw_okq (⟨"EchoCouncilModel", "reads", "(II)I"⟩, 23) := ⟨⟨by decide +kernel, by decide +kernel⟩, List.mem_of_getElem? (i := 1499) (by decide +kernel), List.mem_of_getElem? (i := 1934) (by decide +kernel), List.mem_of_getElem? (i := 1935) (by decide +kernel)⟩
theorem lw_p68 : lw_okq (⟨"EchoCouncilModel", "letterHere", "()I"⟩, 23) := ⟨⟨by decide +kernel, by decide +kernel⟩, List.mem_of_getElem? (i := 1499) (by decide +kernel), List.mem_of_getElem? (i := 1938) (by decide +kernel), List.mem_of_getElem? (i := 1939) (by decide +kernel)⟩
theorem lw_p69 : lw_okq (⟨"EchoCouncilModel", "behind", "()I"⟩, 23) := ⟨⟨by decide +kernel, by decide +kernel⟩, List.mem_of_getElem? (i := 1499) (by decide +kernel), List.mem_of_getElem? (i := 1942) (by decide +kernel), List.mem_of_getElem? (i := 1943) (by decide +kernel)⟩
theorem lw_p70 : lw_okq (⟨"EchoCouncilModel", "does", "(I)I"⟩, 23) := ⟨⟨by decide +kernel, by decide +kernel⟩, List.mem_of_getElem? (i := 1499) (by decide +kernel), List.mem_of_getElem? (i := 1946) (by decide +kernel), List.mem_of_getElem? (i := 1947) (by decide +kernel)⟩
def lw_privs_5 : List (MethodName × Nat) := [(⟨"EchoCouncilModel", "readsCommand", "()V"⟩, 23), (⟨"EchoCouncilModel", "kindHere", "()I"⟩, 23), (⟨"EchoCouncilModel", "digit", "()I"⟩, 23), (⟨"EchoCouncilModel", "reads", "(II)I"⟩, 23), (⟨"EchoCouncilModel", "letterHere", "()I"⟩, 23), (⟨"EchoCouncilModel", "behind", "()I"⟩, 23), (⟨"EchoCouncilModel", "does", "(I)I"⟩, 23)]
theorem lw_r5 : ∀ q ∈ lw_privs_5, lw_okq q := List.forall_mem_cons.mpr ⟨lw_p64, List.forall_mem_cons.mpr ⟨lw_p65, List.forall_mem_cons.mpr ⟨lw_p66, List.forall_mem_cons.mpr ⟨lw_p67, List.forall_mem_cons.mpr ⟨lw_p68, List.forall_mem_cons.mpr ⟨lw_p69, List.forall_mem_cons.mpr ⟨lw_p70, fun _ h => absurd h List.not_mem_nil⟩⟩⟩⟩⟩⟩⟩
def lw_privs : List (MethodName × Nat) := lw_privs_1 ++ (lw_privs_2 ++ (lw_privs_3 ++ (lw_privs_4 ++ (lw_privs_5))))
def lw_tbl : List Cond := k2_sels lw_privs ++ tables_1
theorem lw_privs_ok : ∀ q ∈ lw_privs, lw_okq q := by
  show ∀ q ∈ lw_privs_1 ++ (lw_privs_2 ++ (lw_privs_3 ++ (lw_privs_4 ++ (lw_privs_5)))), lw_okq q
  exact List.forall_mem_append.mpr ⟨lw_r1, List.forall_mem_append.mpr ⟨lw_r2, List.forall_mem_append.mpr ⟨lw_r3, List.forall_mem_append.mpr ⟨lw_r4, lw_r5⟩⟩⟩⟩
/-- the streams that the claim lets the run draw from -/
abbrev lw_cs : List Choice := [Jvm.Choice.named "NaN.bits"]
theorem lw_bits : nanBits ∈ lw_cs := by first | decide | exact List.mem_cons_self | simp [lw_cs, nanBits]
-- ===== end of PART A; then your names; then what follows =====
end
section
/-- the tables' word of an array over arrays -/
def va_AOA (ty : FieldType) (U : State) : Prop := (Cond.arrayOver (.array ty)).before #[] U = true
theorem va_AOA.use {ty : FieldType} {A : Array Value} {U : State} (h : va_AOA ty U) : (Cond.arrayOver (.array ty)).before A U = true := h
/-! ===== BEGIN words of one list among another's, by their places ===== -/
theorem goodIn_r {big : List Cond} (ws : List Cond) (ps : List Nat) (hp : ws = ps.filterMap (fun i => big[i]?)) (h : ws.all goodWord = true) : GoodIn big ws := by
  intro w hw
  have h1 := List.all_eq_true.mp h w hw
  rw [hp] at hw
  obtain ⟨i, -, hi⟩ := List.mem_filterMap.mp hw
  have hm : w ∈ big := by first | exact List.mem_of_getElem? hi | exact List.getElem?_mem hi
  exact ⟨hm, good_of_word h1⟩
theorem goodIn_app {big a b : List Cond} (ha : GoodIn big a) (hb : GoodIn big b) : GoodIn big (a ++ b) := fun w h => (List.mem_append.mp h).elim (ha w) (hb w)
theorem goodIn_ca {big a b : List Cond} {c : Cond} (ha : GoodIn big (c :: a)) (hb : GoodIn big b) : GoodIn big (c :: (a ++ b)) := fun w h => (List.mem_cons.mp h).elim (fun e => ha w (List.mem_cons.mpr (Or.inl e))) (fun h => (List.mem_append.mp h).elim (fun h => ha w (List.mem_cons.mpr (Or.inr h))) (hb w))
theorem goodIn_sub {big ws : List Cond} (hm : ∀ w ∈ ws, w ∈ big) (h : ws.all goodWord = true) : GoodIn big ws := fun w hw => ⟨hm w hw, good_of_word (List.all_eq_true.mp h w hw)⟩
/-! ===== END ===== -/

/-! ===== BEGIN new T[n][m]: the outer array a place, the inner ones among the pooled ===== -/
/-- f, but v at every address of l -/
def vr_up {α : Type} (f : Nat → α) (l : List Nat) (v : α) : Nat → α := fun a => if a ∈ l then v else f a
theorem vr_up_in {α : Type} {f : Nat → α} {l : List Nat} {v : α} {a : Nat} (h : a ∈ l) : vr_up f l v a = v := if_pos h
theorem vr_up_ne {α : Type} {f : Nat → α} {l : List Nat} {v : α} {a : Nat} (h : a ∉ l) : vr_up f l v a = f a := if_neg h
theorem vr_rows {L l : List Nat} {f : Nat → va_E} {e : va_E} (h : ∀ a, a ∈ l → a ∉ L) : va_pl L f ++ l.map (fun a => (a, e)) = va_pl (L ++ l) (vr_up f l e) := by
  unfold va_pl
  rw [List.map_append]
  congr 1
  · apply List.map_congr_left
    intro a ha
    rw [vr_up_ne (fun q => h a q ha)]
  · apply List.map_congr_left
    intro a ha
    rw [vr_up_in ha]
theorem vr_lay {X rows : va_W} {x : Nat × va_E} {pl : va_W} {D : va_G} {cl : List vw_C} {H : Heap} (hP : va_P D cl (((X ++ pl) ++ [x]) ++ rows) H) : va_P D cl ((X ++ [x]) ++ (pl ++ rows)) H := by
  rw [List.append_assoc (X ++ pl)] at hP
  have h := va_P.swap hP
  rw [← List.append_assoc X] at h
  have h2 := va_P.swap h
  rw [List.append_assoc (X ++ [x])] at h2
  exact h2
theorem vr_layD {X rows : va_W} {x : Nat × va_E} {pl : va_W} {A : Nat → Prop} (hD : va_D A (((X ++ pl) ++ [x]) ++ rows)) : va_D A ((X ++ [x]) ++ (pl ++ rows)) := by
  rw [List.append_assoc (X ++ pl)] at hD
  have h := va_D.swap hD
  rw [← List.append_assoc X] at h
  have h2 := va_D.swap h
  rw [List.append_assoc (X ++ [x])] at h2
  exact h2
theorem vr_outer (c : ClassId) (N h0 : Nat) : ∀ i : Nat, Jvm.Free.Multi.outerC c N h0 i = arrV c N (fun j => va_rf (if j < i then some (h0 + 1 + j) else none))
  | 0 => by
    show ({ cls := c, slots := Array.replicate N .null, vm := .none } : Cell) = _
    rw [arrV_new]
    refine congrArg (arrV c N) (funext fun j => ?_)
    simp [va_rf]
  | i + 1 => by
    show (Jvm.Free.Multi.outerC c N h0 i).setSlot i (.ref (h0 + 1 + i)) = _
    rw [vr_outer c N h0 i, arrV_store]
    refine congrArg (arrV c N) (funext fun j => ?_)
    by_cases e : j = i
    · subst e
      simp [updV, va_rf]
    · by_cases h : j < i
      · simp [updV, e, h, Nat.lt_succ_of_lt h]
      · simp [updV, e, h, show ¬ j < i + 1 by omega]
section VGM
variable {p : Program} {l : Launch} {e : Env} {R : Room} {s : State} {m : MethodId} {args : Array Value} {below : List Frame} {meth : Method} {c : Code} {H : Heap} {locs : List Loc} {cells slots : Nat} {Q : State → Prop}
variable {cc : ByteArray} {pc : Nat} {ls : Array Slot} {rest : List Value} {D : va_G} {cl : List vw_C} {A : Nat → Prop} {a : Nat} {tys : List (ClassId × FieldType)} {ws : va_W} {H0 : Heap}
theorem va_mna {X : va_W} {L : List Nat} {f : Nat → va_E} {cc : ByteArray} (hexec : p.tables.exec = Jvm.exec) (hb : c.code = cc) {own : String} {index : Nat} {ty : FieldType} {cy : ClassId} (hown : s.vm.findClass own = some m.cls) (hclink : (Cond.classLink own index ("[" ++ (FieldType.array ty).toString)).before args s = true) (hover : va_AOA ty s) (harr : (Cond.arrayClass ty).before args s = true) (hcy : s.vm.findClass (FieldType.array ty).toString = some cy)
    (hK : va_K D cl tys s) (hP : va_P D cl (X ++ va_pl L f) H) (hD : va_D A (X ++ va_pl L f)) (hS : va_S A H0 H locs) (hA : ∀ q, H0.size ≤ q → A q) {n k : Int32} {N' K' : Nat} {z : vp_A} (hn : ¬ n < 0) (hk : ¬ k < 0) (hN : n.toNatClampNeg = N') (hM : k.toNatClampNeg = K')
    (hb1 : N' * 4 ≤ 536870912) (hb2 : K' * componentBytes ty ≤ 536870912) (hb3 : K' ≤ 536870912) (hdf : fits ty (defaultValue ty) = true) (hdd : (defaultValue ty).isDefault = true) (hcells : cells + (1 + N') ≤ R.cells) (hslots : slots + (N' + N' * K') ≤ R.slots) (hz : ∀ c : ClassId, Jvm.Free.Multi.innerC c K' (defaultValue ty) = vp_cell c z) (hdg : decode cc pc = .ok (.multianewarray index 2, 4))
    (kk : ∀ (q : Nat) (r : Nat → Nat) (cA : ClassId) (H1 : Heap), (∀ i j : Nat, i < N' → j < N' → r i = r j → i = j) → (∀ i : Nat, i < N' → r i ∉ L) → va_K D cl (tys ++ [(cA, .array ty)]) s →
      va_P D cl ((X ++ [(q, .inl (cA, N', .inr (.inr (.inr (.inr (fun i => if i < N' then some (r i) else none))))))]) ++ va_pl (L ++ (List.range N').map r) (vr_up f ((List.range N').map r) (.inl (cy, z)))) H1 → va_D A ((X ++ [(q, .inl (cA, N', .inr (.inr (.inr (.inr (fun i => if i < N' then some (r i) else none))))))]) ++ va_pl (L ++ (List.range N').map r) (vr_up f ((List.range N').map r) (.inl (cy, z)))) → va_S A H0 H1 locs →
      W p l e R s m args below meth c H1 locs (cells + 1 + N') (slots + N' + N' * K') Q (F0 m (pc + 4) ls (.ref q :: rest))) : W p l e R s m args below meth c H locs cells slots Q (F0 m pc ls (.int k :: .int n :: rest)) := by
  subst hN
  subst hM
  intro T hT Xs
  obtain ⟨vm₁, cA, comp, -, fA, fC, hO, -, X', step⟩ := Xs.multianewarray2F hexec hown hclink (va_AOA.use hover) harr (g := F0 m pc ls (.int k :: .int n :: rest)) rfl (by rw [hb]; exact hdg) rfl hn hk hb1 hb2 hb3 hdf hdd hcells hslots
  have ec : some cy = some comp := hcy.symm.trans fC
  cases ec
  generalize hF : Jvm.Free.Multi.fill (T.setVm vm₁) cA cy n.toNatClampNeg k.toNatClampNeg (defaultValue ty) n.toNatClampNeg = F at X' step
  have hTh : (T.setVm vm₁).heap = H := hT
  obtain ⟨f1, f2, -, -⟩ := Jvm.Free.Multi.fill_facts (T.setVm vm₁) cA cy n.toNatClampNeg k.toNatClampNeg (defaultValue ty) n.toNatClampNeg
  rw [hF, hTh] at f1 f2
  have hold : ∀ x : Nat, x < H.size → F.heap[x]? = H[x]? := fun x hx => by
    have := Jvm.Free.Multi.fill_old (T.setVm vm₁) cA cy n.toNatClampNeg k.toNatClampNeg (defaultValue ty) (a := x) (by rw [hTh]; exact hx) n.toNatClampNeg
    rw [hF, hTh] at this
    exact this
  have hrow : ∀ j : Nat, j < n.toNatClampNeg → F.heap[H.size + 1 + j]? = some (vp_cell cy z) := fun j hj => by
    have := Jvm.Free.Multi.fill_inner (T.setVm vm₁) cA cy n.toNatClampNeg k.toNatClampNeg (defaultValue ty) n.toNatClampNeg j hj
    rw [hF, hTh, hz] at this
    exact this
  have hout : Jvm.Free.Multi.outerC cA n.toNatClampNeg H.size n.toNatClampNeg = vp_cell cA (n.toNatClampNeg, .inr (.inr (.inr (.inr (fun i => if i < n.toNatClampNeg then some (H.size + 1 + i) else none))))) := by
    rw [vp_cell_q]
    exact vr_outer cA n.toNatClampNeg H.size n.toNatClampNeg
  rw [hout] at f2
  have hlt : ∀ a, a ∈ L → a < H.size := fun a ha => by
    obtain ⟨k9, hk9⟩ := va_pl_get (X := X) (f := f) ha
    exact (hP k9 _ hk9).lt
  have hnl : ∀ i : Nat, i < n.toNatClampNeg → H.size + 1 + i ∉ L := fun i _ h => by
    have := hlt _ h
    omega
  have hnm : ∀ a, a ∈ (List.range n.toNatClampNeg).map (fun i => H.size + 1 + i) → a ∉ L := fun a ha h => by
    obtain ⟨i, -, rfl⟩ := List.mem_map.mp ha
    have := hlt _ h
    omega
  have hP0 : va_P D cl (X ++ va_pl L f) F.heap := hP.kept (fun k9 x hx => hold x.1 ((hP k9 x hx).lt))
  have hP1 : va_P D cl ((X ++ va_pl L f) ++ [(H.size, .inl (cA, n.toNatClampNeg, .inr (.inr (.inr (.inr (fun i => if i < n.toNatClampNeg then some (H.size + 1 + i) else none))))))]) F.heap := hP0.app (fun k9 x hx => by
    have h0 : k9 < 1 := (List.getElem?_eq_some_iff.mp hx).1
    rw [show k9 = 0 by omega] at hx
    cases hx
    exact f2)
  have hP2 : va_P D cl (((X ++ va_pl L f) ++ [(H.size, .inl (cA, n.toNatClampNeg, .inr (.inr (.inr (.inr (fun i => if i < n.toNatClampNeg then some (H.size + 1 + i) else none))))))]) ++ ((List.range n.toNatClampNeg).map (fun i => H.size + 1 + i)).map (fun a => (a, .inl (cy, z)))) F.heap := hP1.app (fun k9 x hx => by
    obtain ⟨a, ha, rfl⟩ := List.mem_map.mp (List.mem_of_getElem? hx)
    obtain ⟨i, hi, rfl⟩ := List.mem_map.mp ha
    exact hrow i (List.mem_range.mp hi))
  have hD2 : va_D A (((X ++ va_pl L f) ++ [(H.size, .inl (cA, n.toNatClampNeg, .inr (.inr (.inr (.inr (fun i => if i < n.toNatClampNeg then some (H.size + 1 + i) else none))))))]) ++ ((List.range n.toNatClampNeg).map (fun i => H.size + 1 + i)).map (fun a => (a, .inl (cy, z)))) := by
    have hD1 := hD.push (e := .inl (cA, n.toNatClampNeg, .inr (.inr (.inr (.inr (fun i => if i < n.toNatClampNeg then some (H.size + 1 + i) else none)))))) hP rfl (hA _ hS.1)
    generalize hW1 : (X ++ va_pl L f) ++ [(H.size, .inl (cA, n.toNatClampNeg, .inr (.inr (.inr (.inr (fun i => if i < n.toNatClampNeg then some (H.size + 1 + i) else none))))))] = W1 at hD1 hP1 ⊢
    have hle : ∀ (k9 : Nat) (x : Nat × va_E), W1[k9]? = some x → x.1 ≤ H.size := fun k9 x hx => by
      rw [← hW1] at hx
      by_cases hl : k9 < (X ++ va_pl L f).length
      · rw [List.getElem?_append_left hl] at hx
        exact Nat.le_of_lt ((hP k9 x hx).lt)
      · rw [List.getElem?_append_right (by omega)] at hx
        have h0 : k9 - (X ++ va_pl L f).length < 1 := (List.getElem?_eq_some_iff.mp hx).1
        rw [show k9 - (X ++ va_pl L f).length = 0 by omega] at hx
        cases hx
        exact Nat.le_refl _
    have hr : ∀ (k9 : Nat) (x : Nat × va_E), (((List.range n.toNatClampNeg).map (fun i => H.size + 1 + i)).map (fun a => ((a, .inl (cy, z)) : Nat × va_E)))[k9]? = some x → x.1 = H.size + 1 + k9 := fun k9 x hx => by
      rw [List.getElem?_map, List.getElem?_map] at hx
      by_cases h9 : k9 < n.toNatClampNeg
      · rw [List.getElem?_range h9] at hx
        cases hx
        rfl
      · have hn0 : (List.range n.toNatClampNeg)[k9]? = none := List.getElem?_eq_none (by rw [List.length_range]; omega)
        rw [hn0] at hx
        cases hx
    refine ⟨fun i j x y hi hj hxy => ?_, fun k9 x hx => ?_⟩
    · by_cases h1 : i < W1.length <;> by_cases h2 : j < W1.length
      · rw [List.getElem?_append_left h1] at hi
        rw [List.getElem?_append_left h2] at hj
        exact hD1.1 i j x y hi hj hxy
      · rw [List.getElem?_append_left h1] at hi
        rw [List.getElem?_append_right (by omega)] at hj
        have := hle _ _ hi
        have := hr _ _ hj
        omega
      · rw [List.getElem?_append_right (by omega)] at hi
        rw [List.getElem?_append_left h2] at hj
        have := hle _ _ hj
        have := hr _ _ hi
        omega
      · rw [List.getElem?_append_right (by omega)] at hi hj
        have := hr _ _ hi
        have := hr _ _ hj
        omega
    · by_cases h1 : k9 < W1.length
      · rw [List.getElem?_append_left h1] at hx
        exact hD1.2 k9 x hx
      · rw [List.getElem?_append_right (by omega)] at hx
        have := hr _ _ hx
        exact hA _ (by have := hS.1; omega)
  have hAr : ArrOfT s cA (.array ty) := fun N9 z9 => by
    obtain ⟨-, k9, hk9, cm9, hkk9⟩ := (hO 0 0 0).1
    exact ⟨(fun q hq => by cases hq), k9, hk9, cm9, hkk9⟩
  have hK2 : va_K D cl (tys ++ [(cA, .array ty)]) s := ⟨hK.1, fun k9 x hx => by
    by_cases hl : k9 < tys.length
    · rw [List.getElem?_append_left hl] at hx
      exact hK.2 k9 x hx
    · rw [List.getElem?_append_right (by omega)] at hx
      have h0 : k9 - tys.length < 1 := (List.getElem?_eq_some_iff.mp hx).1
      rw [show k9 - tys.length = 0 by omega] at hx
      cases hx
      exact ⟨hAr, fA⟩⟩
  obtain ⟨t, a1, b1⟩ := kk H.size (fun i => H.size + 1 + i) cA F.heap (fun i j _ _ h => by have h9 : H.size + 1 + i = H.size + 1 + j := h; omega) hnl hK2 (by rw [← vr_rows hnm]; exact vr_lay hP2) (by rw [← vr_rows hnm]; exact vr_layD hD2) ⟨by rw [f1]; have := hS.1; omega, fun x h1 h2 => (hold x (Nat.lt_of_lt_of_le h1 hS.1)).trans (hS.2.1 x h1 h2), hS.2.2⟩ F rfl X'
  refine ⟨t, step t ?_, b1⟩
  have e : T.heap.size = H.size := by rw [hT]
  rw [e]
  exact a1
end VGM
/-! ===== END ===== -/

/-! ===== BEGIN exceptions that leave a method, and their catching by the caller (launches without stack traces) ===== -/
section VXA
/-! The laws vx_back, vx_callV, vx_callS, vx_callSW, vx_throw0, vx_throwS follow proofs of the library, with one case more: JvmDerived/Free/Laws.lean (Back.of_free), Shelf42/LK1.lean (callV, callS), Shelf/KitTraced.lean (throwNew0V, throwNewS). -/
/-- where a method has thrown q: the class by its name, the cell, what was written, the world -/
def vx_T (XC : String → State → State → Prop) (st : State) (q : Addr) (t : State) (mc ms : Nat) (free : Addr → Prop) : Prop :=
  ∃ (E : String) (ce : Cell) (L : List Loc), XC E st t ∧ t.heap[q]? = some ce ∧ ce.vm = .none ∧ st.vm.findClass E = some ce.cls ∧ st.WarmedH t.vm ∧ st.sameButNew ({ t with vm := st.vm } : State) L mc ms ∧ ∀ z ∈ L, free z.base
def vx_Q (Qc : Array Value → State → Outcome → State → Prop) (XC : String → State → State → Prop) (mc ms : Nat) (free : Addr → Prop) : Array Value → State → Outcome → State → Prop := fun a st o t =>
  (Qc a st o t ∧ ∃ L, FrameEnd st o t L mc ms ∧ ∀ q ∈ L, free q.base) ∨ ∃ q, o = .threw q ∧ vx_T XC st q t mc ms free
/-- a callee that returns or throws -/
def vx_Met (l : Launch) (y : MethodName) (ws : List Cond) (rm : Room) (Pc : Array Value → State → Prop) (Qc : Array Value → State → Outcome → State → Prop) (XC : String → State → State → Prop) (mc ms : Nat) (free : Addr → Prop) : Prop :=
  MetFree l y (headSpec ws rm) Pc (fun _ _ _ _ _ => True) (vx_Q Qc XC mc ms free)
def vx_Post (XC : String → State → State → Prop) (mc ms : Nat) (free : Addr → Prop) : Pt → Array Value → Addr → Pt → Prop := fun A a q B =>
  ∃ (g : JFrame) (mk : MethodId) (t : State) (L : List Loc) (E : String) (ce : Cell), B.U.heap = t.heap ∧ B.U.vm = t.vm ∧ XC E (A.U.calling g mk a) t ∧ t.heap[q]? = some ce ∧ ce.vm = .none ∧ A.U.vm.findClass E = some ce.cls ∧ B.locs = A.locs ++ L ∧ (∀ z ∈ L, free z.base) ∧ B.cells = A.cells + mc ∧ B.slots = A.slots + ms
def vx_Back (l : Launch) (R : Room) (p : Program) (e : Env) (below : List Frame) (s : State) (sargs : Array Value) (y : MethodName) (len W9 : Nat)
    (Pre : Pt → Array Value → Prop) (Post : Pt → Array Value → Option Value → Pt → Prop) (PostX : Pt → Array Value → Addr → Pt → Prop) : Prop :=
  ∀ (m : MethodId) (meth : Method) (c : Code) (A : Pt) (g : JFrame) (ig : Instr) (mk : MethodId) (a : Array Value),
    Stand p l e R s m sargs below meth c A.U A.locs A.cells A.slots → g.method = m → g.locals.size = c.maxLocals → decode c.code g.pc = .ok (ig, len) →
    2 * g.monitorRoom + (g.stack.map fun v => v.category).sum ≤ W9 → A.U.methodNamed? y = some mk → Pre A a →
    (∃ (v : Option Value) (B : Pt), Stand p l e R s m sargs below meth c B.U B.locs B.cells B.slots ∧ Post A a v B ∧
      Steps p.tables e below (doInvoke e (A.U.setTop g) [] mk a).1 (B.U.setTop { g with pc := g.pc + len, stack := v.toList ++ g.stack })) ∨
    (∃ (q : Addr) (B : Pt), Stand p l e R s m sargs below meth c B.U B.locs B.cells B.slots ∧ PostX A a q B ∧
      Steps p.tables e below (doInvoke e (A.U.setTop g) [] mk a).1 ((B.U.setTop g).pushFrame (.throwing q)))
section Payer
variable {l : Launch} {R : Room} {p : Program} {e : Env} {below : List Frame} {s : State} {sargs : Array Value} {y : MethodName} {len W9 : Nat}
theorem vx_back {ws : List Cond} {rm : Room} {Pc : Array Value → State → Prop} {Qc : Array Value → State → Outcome → State → Prop} {XC : String → State → State → Prop} {mc ms : Nat} {free : Addr → Prop} {bytes : ByteArray} {maxL : Nat} {ret : Option FieldType}
    (hM : vx_Met l y ws rm Pc Qc XC mc ms free) (hblind : FrameBlind Pc) (hrc : rm.cells = mc) (hrs : rm.slots = ms)
    (hframes : rm.frames + 1 ≤ R.frames) (hlocals : W9 + (maxL + 11) + rm.locals ≤ R.locals)
    (hws : ∀ w ∈ ws, ∀ a' U, s.WarmedH U.vm → w.before a' U = true) (hcode : Cond.code y bytes maxL ret ∈ ws) (hinit : ∀ a' U, s.WarmedH U.vm → (Cond.initialized y.cls).before a' U = true) :
    vx_Back l R p e below s sargs y len W9 (PreOf R mc ms Pc) (PostOf Qc mc ms free) (vx_Post XC mc ms free) := by
  intro m meth c A g ig mk a X hg hsize hdg hW hn hp
  have h1 : (headSpec ws rm).pre.before a A.U = true := atoms_intro fun w hw => hws w hw _ _ X.warmed
  have h2 : (Cond.code y bytes maxL ret).before a A.U = true := hws _ hcode _ _ X.warmed
  have h3 : (Cond.initialized y.cls).before a A.U = true := hinit _ _ X.warmed
  have h4 : A.cells + (headSpec ws rm).room.cells ≤ R.cells := by rw [show (headSpec ws rm).room.cells = mc from hrc]; exact hp.1
  have h5 : A.slots + (headSpec ws rm).room.slots ≤ R.slots := by rw [show (headSpec ws rm).room.slots = ms from hrs]; exact hp.2.1
  have hPc : Pc a (A.U.calling g mk a) := hblind _ _ _ _ hp.2.2
  obtain ⟨U, Ls, c0, s0⟩ := A
  dsimp only [Pt.U, Pt.locs, Pt.cells, Pt.slots] at h1 h2 h3 h4 h5 X hn hPc ⊢
  obtain ⟨methY, cY, hmY, hcY, -, hlY, -, -, -, -⟩ := Cond.code_spec hn h2
  obtain ⟨kY, hkY, -⟩ := className_of_methodNamed hn
  have hinitY : kY.init = .initialized := Cond.initialized_spec (findClass_of_methodNamed hn) hkY h3
  have h : At U g.method c below := by rw [hg]; exact X.here
  have hlocals9 : W9 + (maxL + 11) + (headSpec ws rm).room.locals ≤ R.locals := hlocals
  have happ : (headSpec ws rm).appliesLoose y e.platform (U.calling g mk a) = true :=
    Spec.appliesLoose_calling (g := g) h hdg hn hkY hinitY
      (X.room_calling (g := g) (R' := (headSpec ws rm).room) hsize hmY hcY hframes (by rw [hlY]; omega) h4 h5) h1
  obtain ⟨mid, hmid⟩ := h.above
  have hfr : (U.setTop g).frames = (.java g :: mid) ++ below := by rw [State.frames_setTop' g h.top, hmid]; rfl
  obtain ⟨o, s₂, hsteps, -, hend, hq⟩ := Steps.callFree hM p X.admits X.cas X.clock (acts := []) hfr happ hPc trivial
  have hq' : vx_Q Qc XC mc ms free a (U.calling g mk a) o s₂ := hq
  rw [State.frames_setTop' g h.top] at hend
  obtain ⟨g₀, hg0⟩ := Option.isSome_iff_exists.mp h.top
  obtain ⟨r, hr⟩ := State.topJava?_eq_some.mp hg0
  have hr' : (({ U with heap := s₂.heap, slotsUsed := s₂.slotsUsed } : State).setVm s₂.vm).frames = .java g₀ :: r := hr
  rcases hq' with ⟨hqc, L, hfe, hL⟩ | ⟨q, rfl, E, ce, L, hx, hce, hcv, hcl, hW₂, hsm, hL⟩
  · obtain ⟨⟨v, rfl⟩, hW₂, e2, q2, q3, q4, q5, q6⟩ := id hfe
    have e3 : s₂ = ({ (U.calling g mk a).setFrames s₂.frames with heap := s₂.heap, slotsUsed := s₂.slotsUsed } : State).setVm s₂.vm := by
      have : s₂ = ({ s₂ with vm := (U.calling g mk a).vm } : State).setVm s₂.vm := rfl
      rw [e2] at this
      exact this
    obtain ⟨c₂, i₂, len₂, hc₂, hd₂, hf₂⟩ := hend
    have hW' : U.WarmedH s₂.vm := hW₂
    have hcc : c₂ = c := by
      have h1 : s₂.code? g.method = U.code? g.method := by
        rw [State.code?_eq, State.code?_eq, hW'.alike.method?]
      exact Option.some.inj (hc₂.symm.trans (h1.trans h.code))
    subst hcc
    have hlen : len₂ = len := by rw [hdg] at hd₂; cases hd₂; rfl
    subst hlen
    have hs₂ : s₂ = (({ U with heap := s₂.heap, slotsUsed := s₂.slotsUsed } : State).setVm s₂.vm).setTop { g with pc := g.pc + len₂, stack := v.toList ++ g.stack } := by
      refine e3.trans ?_
      rw [hf₂, State.calling_eq h.top, State.setFrames_setFrames, State.setTop_of_frames _ hr', hr]
      rfl
    have hsame : U.sameButNew ({ U with heap := s₂.heap, slotsUsed := s₂.slotsUsed } : State) L mc ms := by
      refine ⟨?_, q2, q3, q4, q5, q6⟩
      obtain ⟨t, ht, -⟩ := State.frames_cons hr
      show ({ U with heap := s₂.heap, slotsUsed := s₂.slotsUsed } : State) = { U.setFrames U.frames with heap := s₂.heap, slotsUsed := s₂.slotsUsed }
      rw [State.setFrames_self ht]
    subst hg
    refine Or.inl ⟨v, ⟨(({ U with heap := s₂.heap, slotsUsed := s₂.slotsUsed } : State).setVm s₂.vm), Ls ++ L, c0 + mc, s0 + ms⟩,
      ⟨X.admits, X.cas, X.clock, X.frames, X.room, X.hears, X.method, X.code, (X.here.setHeapUsed s₂.heap s₂.slotsUsed).setVm hW'.alike, X.tail, State.WarmedH.trans X.warmed hW', X.limits, X.bytes, X.same.trans (hsame.setVm s.vm)⟩,
      ⟨g, mk, s₂, L, rfl, rfl, hqc, rfl, hL, rfl, rfl⟩, ?_⟩
    show Steps p.tables e below _ ((({ U with heap := s₂.heap, slotsUsed := s₂.slotsUsed } : State).setVm s₂.vm).setTop { g with pc := g.pc + len₂, stack := v.toList ++ g.stack })
    rw [← hs₂]
    exact hsteps
  · obtain ⟨e2, q2, q3, q4, q5, q6⟩ := id hsm
    have e3 : s₂ = ({ (U.calling g mk a).setFrames s₂.frames with heap := s₂.heap, slotsUsed := s₂.slotsUsed } : State).setVm s₂.vm := by
      have : s₂ = ({ s₂ with vm := (U.calling g mk a).vm } : State).setVm s₂.vm := rfl
      rw [e2] at this
      exact this
    have hf₂ : s₂.frames = .throwing q :: .java g :: U.frames.tail := hend
    have hW' : U.WarmedH s₂.vm := hW₂
    have hs₂ : s₂ = ((({ U with heap := s₂.heap, slotsUsed := s₂.slotsUsed } : State).setVm s₂.vm).setTop g).pushFrame (.throwing q) := by
      refine e3.trans ?_
      rw [hf₂, State.calling_eq h.top, State.setFrames_setFrames, State.pushFrame, State.frames_setTop _ hr', State.setTop_of_frames _ hr', State.setFrames_setFrames, hr]
      rfl
    have hsame : U.sameButNew ({ U with heap := s₂.heap, slotsUsed := s₂.slotsUsed } : State) L mc ms := by
      refine ⟨?_, q2, q3, q4, q5, q6⟩
      obtain ⟨t, ht, -⟩ := State.frames_cons hr
      show ({ U with heap := s₂.heap, slotsUsed := s₂.slotsUsed } : State) = { U.setFrames U.frames with heap := s₂.heap, slotsUsed := s₂.slotsUsed }
      rw [State.setFrames_self ht]
    subst hg
    refine Or.inr ⟨q, ⟨(({ U with heap := s₂.heap, slotsUsed := s₂.slotsUsed } : State).setVm s₂.vm), Ls ++ L, c0 + mc, s0 + ms⟩,
      ⟨X.admits, X.cas, X.clock, X.frames, X.room, X.hears, X.method, X.code, (X.here.setHeapUsed s₂.heap s₂.slotsUsed).setVm hW'.alike, X.tail, State.WarmedH.trans X.warmed hW', X.limits, X.bytes, X.same.trans (hsame.setVm s.vm)⟩,
      ⟨g, mk, s₂, L, E, ce, rfl, rfl, hx, hce, hcv, hcl, rfl, hL, rfl, rfl⟩, ?_⟩
    show Steps p.tables e below _ (((({ U with heap := s₂.heap, slotsUsed := s₂.slotsUsed } : State).setVm s₂.vm).setTop g).pushFrame (.throwing q))
    rw [← hs₂]
    exact hsteps
end Payer
section Calls
variable {p : Program} {l : Launch} {e : Env} {R : Room} {s : State} {m : MethodId} {args : Array Value} {below : List Frame} {meth : Method} {c : Code} {T : State} {locs : List Loc} {cells slots : Nat}
theorem vx_callV (X : Stand p l e R s m args below meth c T locs cells slots) (hexec : p.tables.exec = Jvm.exec) {own C : String} {index : Nat} {y : MethodName} {bytes : ByteArray} {maxL : Nat} {ret : Option FieldType}
    (hown : s.vm.findClass own = some m.cls) (hlink : (Cond.methodLink own index y).before args s = true) (hinst : (Cond.instanceMethod y).before args s = true) (hsel : (Cond.selects C y y).before args s = true)
    (hcode : (Cond.code y bytes maxL ret).before args s = true) (hy : y.cls ≠ "java/lang/invoke/MethodHandle" ∧ y.cls ≠ "java/lang/invoke/VarHandle")
    {W9 : Nat} {Pre : Pt → Array Value → Prop} {Post : Pt → Array Value → Option Value → Pt → Prop} {PostX : Pt → Array Value → Addr → Pt → Prop} (hK : vx_Back l R p e below s args y 3 W9 Pre Post PostX)
    {b : Addr} {cellB : Cell} (hcell : T.heap[b]? = some cellB) (hobj : cellB.vm.isStatics = false) (hcls : s.vm.findClass C = some cellB.cls)
    {g : JFrame} (hg : g.method = m) (hsize : g.locals.size = c.maxLocals) {argsL rest : List Value} (hlen : ∀ sig, parseMethodDescriptor y.desc = some sig → argsL.length = sig.parameters.length)
    (hstack : g.stack = argsL.reverse ++ .ref b :: rest) (hW : 2 * g.monitorRoom + (rest.map fun v => v.category).sum ≤ W9) (hdg : decode c.code g.pc = .ok (.invokevirtual index, 3))
    (hpre : ∀ vm₁, s.WarmedH vm₁ → Pre ⟨T.setVm vm₁, locs, cells, slots⟩ (Value.ref b :: argsL).toArray) :
    (∃ (v : Option Value) (vm₁ : Vm) (B : Pt), s.WarmedH vm₁ ∧ Stand p l e R s m args below meth c B.U B.locs B.cells B.slots ∧ Post ⟨T.setVm vm₁, locs, cells, slots⟩ (Value.ref b :: argsL).toArray v B ∧
      ∀ target, Steps p.tables e below (B.U.setTop { g with pc := g.pc + 3, stack := v.toList ++ rest }) target → Steps p.tables e below (T.setTop g) target) ∨
    (∃ (q : Addr) (vm₁ : Vm) (B : Pt), s.WarmedH vm₁ ∧ Stand p l e R s m args below meth c B.U B.locs B.cells B.slots ∧ PostX ⟨T.setVm vm₁, locs, cells, slots⟩ (Value.ref b :: argsL).toArray q B ∧
      Steps p.tables e below (T.setTop g) ((B.U.setTop { g with stack := rest }).pushFrame (.throwing q))) := by
  obtain ⟨mk, methM, hnamed, hmethM, hstM, habM⟩ := Cond.instanceMethod_spec hinst
  obtain ⟨methM', cM, hmethM', -, -, -, -, -, -, hsigM⟩ := Cond.code_spec hnamed hcode
  cases hmethM.symm.trans hmethM'
  obtain ⟨c2, r2, m2, q1, q2, q3, q4, kP, hkP, hkPi⟩ := Cond.selects_spec hsel
  cases hcls.symm.trans q1
  cases (State.methodFound?_of_named hnamed hy).symm.trans q2
  cases hnamed.symm.trans q3
  have hselP : selectMethod e.platform s.vm cellB.cls mk = .method mk := by rw [Launch.admits_selectMethod X.admits]; exact q4
  obtain ⟨vm₁, X₁, hstep₁⟩ := X.invokevirtual hexec hown hlink hnamed hmethM hstM hkP hkPi hy (a := b) (cell := cellB) hcell
    (fun z h => by rw [h] at hobj; cases hobj) hselP hmethM habM hkP hkPi (g := g) hg (argsL := argsL) (rest := rest) (hlen _ hsigM) hstack hdg
  rcases hK m meth c ⟨T.setVm vm₁, locs, cells, slots⟩ { g with stack := rest } (.invokevirtual index) mk (Value.ref b :: argsL).toArray X₁ hg hsize hdg hW (X₁.named hnamed) (hpre vm₁ X₁.warmed) with ⟨v, B, X', hpost, hsteps⟩ | ⟨q, B, X', hpost, hsteps⟩
  · exact Or.inl ⟨v, vm₁, B, X₁.warmed, X', hpost, fun target h => hstep₁ _ fun acts => by rw [doInvoke_state]; exact hsteps.trans h⟩
  · exact Or.inr ⟨q, vm₁, B, X₁.warmed, X', hpost, hstep₁ _ fun acts => by rw [doInvoke_state]; exact hsteps⟩
theorem vx_callS (X : Stand p l e R s m args below meth c T locs cells slots) (hexec : p.tables.exec = Jvm.exec) {own : String} {index : Nat} {y : MethodName} {bytes : ByteArray} {maxL : Nat} {ret : Option FieldType}
    (hown : s.vm.findClass own = some m.cls) (hlink : (Cond.methodLink own index y).before args s = true) (hstat : (Cond.static y).before args s = true) (hinit : (Cond.initialized y.cls).before args s = true)
    (hcode : (Cond.code y bytes maxL ret).before args s = true) (hy : y.cls ≠ "java/lang/invoke/MethodHandle" ∧ y.cls ≠ "java/lang/invoke/VarHandle")
    {W9 : Nat} {Pre : Pt → Array Value → Prop} {Post : Pt → Array Value → Option Value → Pt → Prop} {PostX : Pt → Array Value → Addr → Pt → Prop} (hK : vx_Back l R p e below s args y 3 W9 Pre Post PostX)
    {g : JFrame} (hg : g.method = m) (hsize : g.locals.size = c.maxLocals) {argsL rest : List Value} (hlen : ∀ sig, parseMethodDescriptor y.desc = some sig → argsL.length = sig.parameters.length)
    (hstack : g.stack = argsL.reverse ++ rest) (hW : 2 * g.monitorRoom + (rest.map fun v => v.category).sum ≤ W9) (hdg : decode c.code g.pc = .ok (.invokestatic index, 3))
    (hpre : ∀ vm₁, s.WarmedH vm₁ → Pre ⟨T.setVm vm₁, locs, cells, slots⟩ argsL.toArray) :
    (∃ (v : Option Value) (vm₁ : Vm) (B : Pt), s.WarmedH vm₁ ∧ Stand p l e R s m args below meth c B.U B.locs B.cells B.slots ∧ Post ⟨T.setVm vm₁, locs, cells, slots⟩ argsL.toArray v B ∧
      ∀ target, Steps p.tables e below (B.U.setTop { g with pc := g.pc + 3, stack := v.toList ++ rest }) target → Steps p.tables e below (T.setTop g) target) ∨
    (∃ (q : Addr) (vm₁ : Vm) (B : Pt), s.WarmedH vm₁ ∧ Stand p l e R s m args below meth c B.U B.locs B.cells B.slots ∧ PostX ⟨T.setVm vm₁, locs, cells, slots⟩ argsL.toArray q B ∧
      Steps p.tables e below (T.setTop g) ((B.U.setTop { g with stack := rest }).pushFrame (.throwing q))) := by
  obtain ⟨mk, hnamed⟩ := Cond.code_named hcode
  obtain ⟨methM, cM, hmethM, -, -, -, -, -, -, hsigM⟩ := Cond.code_spec hnamed hcode
  have hstatic : methM.isStatic = true := Cond.static_spec hnamed hmethM hstat
  obtain ⟨kP, hkP, -⟩ := className_of_methodNamed hnamed
  have hinitP : kP.init = .initialized := Cond.initialized_spec (findClass_of_methodNamed hnamed) hkP hinit
  obtain ⟨vm₁, X₁, hstep₁⟩ := X.invokestatic hexec hown hlink hnamed hmethM hstatic hkP hinitP hy (g := g) hg (argsL := argsL) (rest := rest) (hlen _ hsigM) hstack hdg
  rcases hK m meth c ⟨T.setVm vm₁, locs, cells, slots⟩ { g with stack := rest } (.invokestatic index) mk argsL.toArray X₁ hg hsize hdg hW (X₁.named hnamed) (hpre vm₁ X₁.warmed) with ⟨v, B, X', hpost, hsteps⟩ | ⟨q, B, X', hpost, hsteps⟩
  · exact Or.inl ⟨v, vm₁, B, X₁.warmed, X', hpost, fun target h => hstep₁ _ fun acts => by rw [doInvoke_state]; exact hsteps.trans h⟩
  · exact Or.inr ⟨q, vm₁, B, X₁.warmed, X', hpost, hstep₁ _ fun acts => by rw [doInvoke_state]; exact hsteps⟩
end Calls
theorem vx_cls {s : State} {T : State} {vm₁ : Vm} {E : String} {k : ClassId} (hW : s.WarmedH vm₁) (h : (T.setVm vm₁).vm.findClass E = some k) : s.vm.findClass E = some k := by
  have h1 : vm₁.findClass E = some k := h
  rw [hW.alike.findClass] at h1
  exact h1
/-- the method's frame g, with q thrown over it -/
def vx_W (p : Program) (l : Launch) (e : Env) (R : Room) (s : State) (m : MethodId) (args : Array Value) (below : List Frame) (meth : Method) (c : Code) (H : Heap) (locs : List Loc) (cells slots : Nat) (Q : State → Prop) (g : JFrame) (q : Addr) : Prop :=
  ∀ T : State, T.heap = H → Stand p l e R s m args below meth c T locs cells slots → ∃ t, Steps p.tables e below ((T.setTop g).pushFrame (.throwing q)) t ∧ Q t
def vx_Run (p : Program) (l : Launch) (e : Env) (R : Room) (s : State) (m : MethodId) (args : Array Value) (below : List Frame) (meth : Method) (c : Code) (H : Heap) (locs : List Loc) (cells slots mc ms : Nat) (g : JFrame) (rest : List Value) (Qa : State → Outcome → State → Prop) (XC : String → State → State → Prop) (free : Addr → Prop) : Prop :=
  ∀ T : State, T.heap = H → Stand p l e R s m args below meth c T locs cells slots →
    (∃ (v : Option Value) (st₀ t T' : State) (L : List Loc), st₀.heap = H ∧ Stand p l e R s m args below meth c T' (locs ++ L) (cells + mc) (slots + ms) ∧ (∀ q ∈ L, free q.base) ∧ T'.heap = t.heap ∧ T'.vm = t.vm ∧ Qa st₀ (.returned v) t ∧
      Goes p e below T g T' { g with pc := g.pc + 3, stack := v.toList ++ rest }) ∨
    (∃ (q : Addr) (st₀ t T' : State) (L : List Loc) (E : String) (ce : Cell), st₀.heap = H ∧ Stand p l e R s m args below meth c T' (locs ++ L) (cells + mc) (slots + ms) ∧ (∀ z ∈ L, free z.base) ∧ T'.heap = t.heap ∧ T'.vm = t.vm ∧ XC E st₀ t ∧ t.heap[q]? = some ce ∧ ce.vm = .none ∧ s.vm.findClass E = some ce.cls ∧
      Steps p.tables e below (T.setTop g) ((T'.setTop { g with stack := rest }).pushFrame (.throwing q)))
def vx_X {S : Type} (px : S → Prop) (B : String → S → State → Prop) (A : Nat → Prop) : String → State → State → Prop := fun E st t => ∃ u : S, px u ∧ B E u t ∧ va_F A st t
section Runs
variable {p : Program} {l : Launch} {e : Env} {R : Room} {s : State} {m : MethodId} {args : Array Value} {below : List Frame} {meth : Method} {c : Code} {H : Heap} {locs : List Loc} {cells slots : Nat}
variable {y : MethodName} {bytes cc : ByteArray} {maxL nL mc ms n index : Nat} {ret : Option FieldType} {ws : List Cond} {rm : Room} {Pc : Array Value → State → Prop} {Qc : Array Value → State → Outcome → State → Prop} {XC : String → State → State → Prop} {free : Addr → Prop} {Ts : List Cond} {own C : String} {b : Addr} {As rest : List Value} {g : JFrame}
theorem vx_callBack (cb : CallB R s args own index y bytes maxL ret ws rm mc ms n) (hM : vx_Met l y ws rm Pc Qc XC mc ms free) (hbl : FrameBlind Pc) : vx_Back l R p e below s args y 3 8 (PreOf R mc ms Pc) (PostOf Qc mc ms free) (vx_Post XC mc ms free) := by
  obtain ⟨hrc, hrs, hfr, hlo, hws, hcw, -, hini, -⟩ := cb
  exact vx_back (bytes := bytes) (maxL := maxL) (ret := ret) hM hbl hrc hrs hfr hlo hws hcw (fun a' U hW => word_at hW (Or.inl (by first | rfl | simp [Cond.onTables, Cond.keeps, Cond.steady])) hini)
theorem vx_runV (S : CallFix p m c cc nL s args Ts own) (hM : vx_Met l y ws rm Pc Qc XC mc ms free) (cw : CallW R s args own C index y bytes maxL ret ws rm mc ms n) (hp : PreV s H C b Pc As)
    (hg : g.method = m) (hn : As.length = n) (hsize : g.locals.size = nL) (hstack : g.stack = As.reverse ++ .ref b :: rest) (hW : 2 * g.monitorRoom + (rest.map fun v => v.category).sum ≤ 8) (hdg : decode cc g.pc = .ok (.invokevirtual index, 3)) (hf : cells + mc ≤ R.cells ∧ slots + ms ≤ R.slots) :
    vx_Run p l e R s m args below meth c H locs cells slots mc ms g rest (Qc (Value.ref b :: As).toArray) XC free := by
  have hK : vx_Back l R p e below s args y 3 8 (PreOf R mc ms Pc) (PostOf Qc mc ms free) (vx_Post XC mc ms free) := vx_callBack cw.1 hM hp.1
  obtain ⟨⟨-, -, -, -, -, -, hcode, -, hy, hlen, hl⟩, hin, hse⟩ := cw
  obtain ⟨hx, hb, hml, ho, -⟩ := S
  obtain ⟨-, ⟨cellB, hcB, hoB, hclB⟩, hPc⟩ := hp
  intro T hT X
  rcases vx_callV X hx (C := C) (bytes := bytes) (maxL := maxL) (ret := ret) ho hl hin hse hcode hy hK (by rw [hT]; exact hcB) hoB hclB hg (hsize.trans hml.symm) (argsL := As) (rest := rest) (fun sig h => hn.trans (hlen sig h)) hstack hW (by rw [hb]; exact hdg)
    (fun vm₁ hW₁ => ⟨hf.1, hf.2, hPc (T.setVm vm₁) hT hW₁⟩) with ⟨v, vm₁, ⟨U', l2, c2, s2⟩, hW₁, X', ⟨g', mk, t, L, e1, e2, hq, h1, hL, h2, h3⟩, st⟩ | ⟨q, vm₁, ⟨U', l2, c2, s2⟩, hW₁, X', ⟨g', mk, t, L, E, ce, e1, e2, hq, hce, hcv, hcl, h1, hL, h2, h3⟩, st⟩
  · dsimp only [Pt.U, Pt.locs, Pt.cells, Pt.slots] at X' e1 e2 h1 h2 h3 st
    subst h1; subst h2; subst h3
    exact Or.inl ⟨v, (T.setVm vm₁).calling g' mk (Value.ref b :: As).toArray, t, U', L, hT, X', hL, e1, e2, hq, st⟩
  · dsimp only [Pt.U, Pt.locs, Pt.cells, Pt.slots] at X' e1 e2 h1 h2 h3 st hcl
    subst h1; subst h2; subst h3
    exact Or.inr ⟨q, (T.setVm vm₁).calling g' mk (Value.ref b :: As).toArray, t, U', L, E, ce, hT, X', hL, e1, e2, hq, hce, hcv, vx_cls hW₁ hcl, st⟩
theorem vx_runS (S : CallFix p m c cc nL s args Ts own) (hM : vx_Met l y ws rm Pc Qc XC mc ms free) (cw : CallB R s args own index y bytes maxL ret ws rm mc ms n ∧ (Cond.static y).before args s = true) (hp : PreS s H Pc As)
    (hg : g.method = m) (hn : As.length = n) (hsize : g.locals.size = nL) (hstack : g.stack = As.reverse ++ rest) (hW : 2 * g.monitorRoom + (rest.map fun v => v.category).sum ≤ 8) (hdg : decode cc g.pc = .ok (.invokestatic index, 3)) (hf : cells + mc ≤ R.cells ∧ slots + ms ≤ R.slots) :
    vx_Run p l e R s m args below meth c H locs cells slots mc ms g rest (Qc As.toArray) XC free := by
  have hK : vx_Back l R p e below s args y 3 8 (PreOf R mc ms Pc) (PostOf Qc mc ms free) (vx_Post XC mc ms free) := vx_callBack cw.1 hM hp.1
  obtain ⟨⟨-, -, -, -, -, -, hcode, hini, hy, hlen, hl⟩, hstt⟩ := cw
  obtain ⟨hx, hb, hml, ho, -⟩ := S
  intro T hT X
  rcases vx_callS X hx (bytes := bytes) (maxL := maxL) (ret := ret) ho hl hstt hini hcode hy hK hg (hsize.trans hml.symm) (argsL := As) (rest := rest) (fun sig h => hn.trans (hlen sig h)) hstack hW (by rw [hb]; exact hdg)
    (fun vm₁ hW₁ => ⟨hf.1, hf.2, hp.2 (T.setVm vm₁) hT hW₁⟩) with ⟨v, vm₁, ⟨U', l2, c2, s2⟩, hW₁, X', ⟨g', mk, t, L, e1, e2, hq, h1, hL, h2, h3⟩, st⟩ | ⟨q, vm₁, ⟨U', l2, c2, s2⟩, hW₁, X', ⟨g', mk, t, L, E, ce, e1, e2, hq, hce, hcv, hcl, h1, hL, h2, h3⟩, st⟩
  · dsimp only [Pt.U, Pt.locs, Pt.cells, Pt.slots] at X' e1 e2 h1 h2 h3 st
    subst h1; subst h2; subst h3
    exact Or.inl ⟨v, (T.setVm vm₁).calling g' mk As.toArray, t, U', L, hT, X', hL, e1, e2, hq, st⟩
  · dsimp only [Pt.U, Pt.locs, Pt.cells, Pt.slots] at X' e1 e2 h1 h2 h3 st hcl
    subst h1; subst h2; subst h3
    exact Or.inr ⟨q, (T.setVm vm₁).calling g' mk As.toArray, t, U', L, E, ce, hT, X', hL, e1, e2, hq, hce, hcv, vx_cls hW₁ hcl, st⟩
end Runs
section Rows
variable {p : Program} {l : Launch} {e : Env} {R : Room} {s : State} {m : MethodId} {args : Array Value} {below : List Frame} {meth : Method} {c : Code} {H : Heap} {locs : List Loc} {cells slots : Nat} {Q : State → Prop}
variable {mc ms : Nat} {free : Addr → Prop} {A0 A1 : Nat → Prop} {H0 : Heap} {a : Array Value} {pc : Nat} {ls : Array Slot} {st0 rest : List Value}
theorem vx_keep {st₀ t T' : State} {L : List Loc} (h0 : st₀.heap = H) (e1 : T'.heap = t.heap) (hS : va_S A0 H0 H locs) (hA : ∀ q, q < H.size → A1 q → A0 q) (hf : ∀ q, free q → A0 q) (hL : ∀ q ∈ L, free q.base) (hF : va_F A1 st₀ t) :
    H.size ≤ T'.heap.size ∧ (∀ q : Nat, q < H.size → ¬ A1 q → T'.heap[q]? = H[q]?) ∧ va_S A0 H0 T'.heap (locs ++ L) := by
  obtain ⟨hz, hk⟩ := hF
  rw [h0] at hz hk
  exact ⟨by rw [e1]; exact hz, fun q h1 h2 => by rw [e1]; exact hk q h1 h2,
    ⟨Nat.le_trans hS.1 (by rw [e1]; exact hz), fun q h1 h2 => by rw [e1, hk q (Nat.lt_of_lt_of_le h1 hS.1) (fun z => h2 (hA q (Nat.lt_of_lt_of_le h1 hS.1) z))]; exact hS.2.1 q h1 h2, fun q hq => by
      rcases List.mem_append.mp hq with h | h
      · exact hS.2.2 q h
      · exact hf _ (hL q h)⟩⟩
theorem vx_calli {S SX : Type} {post : Int32 → S → Prop} {px : SX → Prop} {B : S → State → Prop} {BX : String → SX → State → Prop} {AX : Nat → Prop} (hr : vx_Run p l e R s m args below meth c H locs cells slots mc ms (F0 m pc ls st0) rest (va_Qi post B A1 a) (vx_X px BX AX) free) (hS : va_S A0 H0 H locs) (hA : ∀ q, q < H.size → A1 q → A0 q) (hf : ∀ q, free q → A0 q) (hAX : ∀ q, q < H.size → AX q → A0 q)
    (kx : ∀ (E : String) (ce : Cell) (q9 : Addr) (u : SX) (t : State) (H1 : Heap) (locs1 : List Loc), t.heap = H1 → s.vm.Alike t.vm → px u → BX E u t → H.size ≤ H1.size → (∀ q : Nat, q < H.size → ¬ AX q → H1[q]? = H[q]?) → va_S A0 H0 H1 locs1 → H1[q9]? = some ce → ce.vm = .none → s.vm.findClass E = some ce.cls → vx_W p l e R s m args below meth c H1 locs1 (cells + mc) (slots + ms) Q (F0 m pc ls rest) q9)
    (kk : ∀ (r : Int32) (u : S) (t : State) (H1 : Heap) (locs1 : List Loc), t.heap = H1 → s.vm.Alike t.vm → post r u → B u t → H.size ≤ H1.size → (∀ q : Nat, q < H.size → ¬ A1 q → H1[q]? = H[q]?) → va_S A0 H0 H1 locs1 → W p l e R s m args below meth c H1 locs1 (cells + mc) (slots + ms) Q (F0 m (pc + 3) ls (.int r :: rest))) : W p l e R s m args below meth c H locs cells slots Q (F0 m pc ls st0) := by
  intro T hT X
  rcases hr T hT X with ⟨v, st₀, t, T', L, h0, X', hL, e1, e2, ⟨⟨r, u, hv, hp, hb⟩, hF⟩, st⟩ | ⟨q, st₀, t, T', L, E, ce, h0, X', hL, e1, e2, ⟨u, hp, hb, hF⟩, hce, hcv, hcl, st⟩
  · cases hv
    obtain ⟨k1, k2, k3⟩ := vx_keep h0 e1 hS hA hf hL hF
    obtain ⟨t2, a1, b1⟩ := kk r u t T'.heap (locs ++ L) e1.symm (by rw [← e2]; exact X'.warmed.alike) hp hb k1 k2 k3 T' rfl X'
    exact ⟨t2, st t2 a1, b1⟩
  · obtain ⟨k1, k2, k3⟩ := vx_keep h0 e1 hS hAX hf hL hF
    obtain ⟨t2, a1, b1⟩ := kx E ce q u t T'.heap (locs ++ L) e1.symm (by rw [← e2]; exact X'.warmed.alike) hp hb k1 k2 k3 (by rw [e1]; exact hce) hcv hcl T' rfl X'
    exact ⟨t2, st.trans a1, b1⟩
theorem vx_calll {S SX : Type} {post : Int64 → S → Prop} {px : SX → Prop} {B : S → State → Prop} {BX : String → SX → State → Prop} {AX : Nat → Prop} (hr : vx_Run p l e R s m args below meth c H locs cells slots mc ms (F0 m pc ls st0) rest (va_Ql post B A1 a) (vx_X px BX AX) free) (hS : va_S A0 H0 H locs) (hA : ∀ q, q < H.size → A1 q → A0 q) (hf : ∀ q, free q → A0 q) (hAX : ∀ q, q < H.size → AX q → A0 q)
    (kx : ∀ (E : String) (ce : Cell) (q9 : Addr) (u : SX) (t : State) (H1 : Heap) (locs1 : List Loc), t.heap = H1 → s.vm.Alike t.vm → px u → BX E u t → H.size ≤ H1.size → (∀ q : Nat, q < H.size → ¬ AX q → H1[q]? = H[q]?) → va_S A0 H0 H1 locs1 → H1[q9]? = some ce → ce.vm = .none → s.vm.findClass E = some ce.cls → vx_W p l e R s m args below meth c H1 locs1 (cells + mc) (slots + ms) Q (F0 m pc ls rest) q9)
    (kk : ∀ (r : Int64) (u : S) (t : State) (H1 : Heap) (locs1 : List Loc), t.heap = H1 → s.vm.Alike t.vm → post r u → B u t → H.size ≤ H1.size → (∀ q : Nat, q < H.size → ¬ A1 q → H1[q]? = H[q]?) → va_S A0 H0 H1 locs1 → W p l e R s m args below meth c H1 locs1 (cells + mc) (slots + ms) Q (F0 m (pc + 3) ls (.long r :: rest))) : W p l e R s m args below meth c H locs cells slots Q (F0 m pc ls st0) := by
  intro T hT X
  rcases hr T hT X with ⟨v, st₀, t, T', L, h0, X', hL, e1, e2, ⟨⟨r, u, hv, hp, hb⟩, hF⟩, st⟩ | ⟨q, st₀, t, T', L, E, ce, h0, X', hL, e1, e2, ⟨u, hp, hb, hF⟩, hce, hcv, hcl, st⟩
  · cases hv
    obtain ⟨k1, k2, k3⟩ := vx_keep h0 e1 hS hA hf hL hF
    obtain ⟨t2, a1, b1⟩ := kk r u t T'.heap (locs ++ L) e1.symm (by rw [← e2]; exact X'.warmed.alike) hp hb k1 k2 k3 T' rfl X'
    exact ⟨t2, st t2 a1, b1⟩
  · obtain ⟨k1, k2, k3⟩ := vx_keep h0 e1 hS hAX hf hL hF
    obtain ⟨t2, a1, b1⟩ := kx E ce q u t T'.heap (locs ++ L) e1.symm (by rw [← e2]; exact X'.warmed.alike) hp hb k1 k2 k3 (by rw [e1]; exact hce) hcv hcl T' rfl X'
    exact ⟨t2, st.trans a1, b1⟩
theorem vx_callf {S SX : Type} {post : UInt32 → S → Prop} {px : SX → Prop} {B : S → State → Prop} {BX : String → SX → State → Prop} {AX : Nat → Prop} (hr : vx_Run p l e R s m args below meth c H locs cells slots mc ms (F0 m pc ls st0) rest (va_Qf post B A1 a) (vx_X px BX AX) free) (hS : va_S A0 H0 H locs) (hA : ∀ q, q < H.size → A1 q → A0 q) (hf : ∀ q, free q → A0 q) (hAX : ∀ q, q < H.size → AX q → A0 q)
    (kx : ∀ (E : String) (ce : Cell) (q9 : Addr) (u : SX) (t : State) (H1 : Heap) (locs1 : List Loc), t.heap = H1 → s.vm.Alike t.vm → px u → BX E u t → H.size ≤ H1.size → (∀ q : Nat, q < H.size → ¬ AX q → H1[q]? = H[q]?) → va_S A0 H0 H1 locs1 → H1[q9]? = some ce → ce.vm = .none → s.vm.findClass E = some ce.cls → vx_W p l e R s m args below meth c H1 locs1 (cells + mc) (slots + ms) Q (F0 m pc ls rest) q9)
    (kk : ∀ (r : UInt32) (u : S) (t : State) (H1 : Heap) (locs1 : List Loc), t.heap = H1 → s.vm.Alike t.vm → post r u → B u t → H.size ≤ H1.size → (∀ q : Nat, q < H.size → ¬ A1 q → H1[q]? = H[q]?) → va_S A0 H0 H1 locs1 → W p l e R s m args below meth c H1 locs1 (cells + mc) (slots + ms) Q (F0 m (pc + 3) ls (.float r :: rest))) : W p l e R s m args below meth c H locs cells slots Q (F0 m pc ls st0) := by
  intro T hT X
  rcases hr T hT X with ⟨v, st₀, t, T', L, h0, X', hL, e1, e2, ⟨⟨r, u, hv, hp, hb⟩, hF⟩, st⟩ | ⟨q, st₀, t, T', L, E, ce, h0, X', hL, e1, e2, ⟨u, hp, hb, hF⟩, hce, hcv, hcl, st⟩
  · cases hv
    obtain ⟨k1, k2, k3⟩ := vx_keep h0 e1 hS hA hf hL hF
    obtain ⟨t2, a1, b1⟩ := kk r u t T'.heap (locs ++ L) e1.symm (by rw [← e2]; exact X'.warmed.alike) hp hb k1 k2 k3 T' rfl X'
    exact ⟨t2, st t2 a1, b1⟩
  · obtain ⟨k1, k2, k3⟩ := vx_keep h0 e1 hS hAX hf hL hF
    obtain ⟨t2, a1, b1⟩ := kx E ce q u t T'.heap (locs ++ L) e1.symm (by rw [← e2]; exact X'.warmed.alike) hp hb k1 k2 k3 (by rw [e1]; exact hce) hcv hcl T' rfl X'
    exact ⟨t2, st.trans a1, b1⟩
theorem vx_calld {S SX : Type} {post : UInt64 → S → Prop} {px : SX → Prop} {B : S → State → Prop} {BX : String → SX → State → Prop} {AX : Nat → Prop} (hr : vx_Run p l e R s m args below meth c H locs cells slots mc ms (F0 m pc ls st0) rest (va_Qd post B A1 a) (vx_X px BX AX) free) (hS : va_S A0 H0 H locs) (hA : ∀ q, q < H.size → A1 q → A0 q) (hf : ∀ q, free q → A0 q) (hAX : ∀ q, q < H.size → AX q → A0 q)
    (kx : ∀ (E : String) (ce : Cell) (q9 : Addr) (u : SX) (t : State) (H1 : Heap) (locs1 : List Loc), t.heap = H1 → s.vm.Alike t.vm → px u → BX E u t → H.size ≤ H1.size → (∀ q : Nat, q < H.size → ¬ AX q → H1[q]? = H[q]?) → va_S A0 H0 H1 locs1 → H1[q9]? = some ce → ce.vm = .none → s.vm.findClass E = some ce.cls → vx_W p l e R s m args below meth c H1 locs1 (cells + mc) (slots + ms) Q (F0 m pc ls rest) q9)
    (kk : ∀ (r : UInt64) (u : S) (t : State) (H1 : Heap) (locs1 : List Loc), t.heap = H1 → s.vm.Alike t.vm → post r u → B u t → H.size ≤ H1.size → (∀ q : Nat, q < H.size → ¬ A1 q → H1[q]? = H[q]?) → va_S A0 H0 H1 locs1 → W p l e R s m args below meth c H1 locs1 (cells + mc) (slots + ms) Q (F0 m (pc + 3) ls (.double r :: rest))) : W p l e R s m args below meth c H locs cells slots Q (F0 m pc ls st0) := by
  intro T hT X
  rcases hr T hT X with ⟨v, st₀, t, T', L, h0, X', hL, e1, e2, ⟨⟨r, u, hv, hp, hb⟩, hF⟩, st⟩ | ⟨q, st₀, t, T', L, E, ce, h0, X', hL, e1, e2, ⟨u, hp, hb, hF⟩, hce, hcv, hcl, st⟩
  · cases hv
    obtain ⟨k1, k2, k3⟩ := vx_keep h0 e1 hS hA hf hL hF
    obtain ⟨t2, a1, b1⟩ := kk r u t T'.heap (locs ++ L) e1.symm (by rw [← e2]; exact X'.warmed.alike) hp hb k1 k2 k3 T' rfl X'
    exact ⟨t2, st t2 a1, b1⟩
  · obtain ⟨k1, k2, k3⟩ := vx_keep h0 e1 hS hAX hf hL hF
    obtain ⟨t2, a1, b1⟩ := kx E ce q u t T'.heap (locs ++ L) e1.symm (by rw [← e2]; exact X'.warmed.alike) hp hb k1 k2 k3 (by rw [e1]; exact hce) hcv hcl T' rfl X'
    exact ⟨t2, st.trans a1, b1⟩
theorem vx_callv {S SX : Type} {post : S → Prop} {px : SX → Prop} {B : S → State → Prop} {BX : String → SX → State → Prop} {AX : Nat → Prop} (hr : vx_Run p l e R s m args below meth c H locs cells slots mc ms (F0 m pc ls st0) rest (va_Qv post B A1 a) (vx_X px BX AX) free) (hS : va_S A0 H0 H locs) (hA : ∀ q, q < H.size → A1 q → A0 q) (hf : ∀ q, free q → A0 q) (hAX : ∀ q, q < H.size → AX q → A0 q)
    (kx : ∀ (E : String) (ce : Cell) (q9 : Addr) (u : SX) (t : State) (H1 : Heap) (locs1 : List Loc), t.heap = H1 → s.vm.Alike t.vm → px u → BX E u t → H.size ≤ H1.size → (∀ q : Nat, q < H.size → ¬ AX q → H1[q]? = H[q]?) → va_S A0 H0 H1 locs1 → H1[q9]? = some ce → ce.vm = .none → s.vm.findClass E = some ce.cls → vx_W p l e R s m args below meth c H1 locs1 (cells + mc) (slots + ms) Q (F0 m pc ls rest) q9)
    (kk : ∀ (u : S) (t : State) (H1 : Heap) (locs1 : List Loc), t.heap = H1 → s.vm.Alike t.vm → post u → B u t → H.size ≤ H1.size → (∀ q : Nat, q < H.size → ¬ A1 q → H1[q]? = H[q]?) → va_S A0 H0 H1 locs1 → W p l e R s m args below meth c H1 locs1 (cells + mc) (slots + ms) Q (F0 m (pc + 3) ls (rest))) : W p l e R s m args below meth c H locs cells slots Q (F0 m pc ls st0) := by
  intro T hT X
  rcases hr T hT X with ⟨v, st₀, t, T', L, h0, X', hL, e1, e2, ⟨⟨u, hv, hp, hb⟩, hF⟩, st⟩ | ⟨q, st₀, t, T', L, E, ce, h0, X', hL, e1, e2, ⟨u, hp, hb, hF⟩, hce, hcv, hcl, st⟩
  · cases hv
    obtain ⟨k1, k2, k3⟩ := vx_keep h0 e1 hS hA hf hL hF
    obtain ⟨t2, a1, b1⟩ := kk u t T'.heap (locs ++ L) e1.symm (by rw [← e2]; exact X'.warmed.alike) hp hb k1 k2 k3 T' rfl X'
    exact ⟨t2, st t2 a1, b1⟩
  · obtain ⟨k1, k2, k3⟩ := vx_keep h0 e1 hS hAX hf hL hF
    obtain ⟨t2, a1, b1⟩ := kx E ce q u t T'.heap (locs ++ L) e1.symm (by rw [← e2]; exact X'.warmed.alike) hp hb k1 k2 k3 (by rw [e1]; exact hce) hcv hcl T' rfl X'
    exact ⟨t2, st.trans a1, b1⟩
/-- caught by the row x of this method's table; the rows ahead don't take it -/
theorem vx_catch {own name : String} {E : String} {ce : Cell} {q : Addr} (hown : s.vm.findClass own = some m.cls) (pre : List ExceptionTableEntry) (x : ExceptionTableEntry) (suf : List ExceptionTableEntry) (hsplit : c.exceptionTable.toList = pre ++ x :: suf)
    (hpass : ∀ z ∈ pre, covers z pc = false ∨ (z.catchType ≠ 0 ∧ ∃ nm : String, (Cond.classLink own z.catchType nm).before args s = true ∧ va_Nc E nm s)) (hx : covers x pc = true) (h0 : x.catchType ≠ 0)
    (hlink : (Cond.classLink own x.catchType name).before args s = true) (hcast : (Cond.castable E name).before args s = true) (hcell : H[q]? = some ce) (hv : ce.vm = .none) (hcl : s.vm.findClass E = some ce.cls)
    (kk : W p l e R s m args below meth c H locs cells slots Q (F0 m x.handlerPc ls [.ref q])) : vx_W p l e R s m args below meth c H locs cells slots Q (F0 m pc ls rest) q := by
  intro T hT X
  have hpl : e.platform.magicAccessors = ({} : Platform).magicAccessors := by rw [X.admits.platform]
  obtain ⟨c3, c4, hc3, hc4, hasg⟩ := Cond.castable_spec hcast
  cases Option.some.inj (hc3.symm.trans hcl)
  obtain ⟨c5, hc5, hcl5⟩ := Cond.classLink_spec hown hlink e.platform hpl
  cases Option.some.inj (hc4.symm.trans hc5)
  obtain ⟨vm', X', st⟩ := X.thenCaughtThrough q (g := F0 m pc ls rest) rfl (Steps.refl _) (by rw [hT]; exact hcell) (by rw [hv]; rfl) (by obtain ⟨k9, h9, -⟩ := Vm.findClass_spec hcl; exact ⟨k9, h9⟩) pre x suf hsplit
    (fun z hz => by
      rcases hpass z hz with h | ⟨hz0, nm, hl1, hn1⟩
      · exact Or.inl h
      · obtain ⟨c6, hc6, hcl6⟩ := Cond.classLink_spec hown hl1 e.platform hpl
        obtain ⟨a8, b8, h1, h2, h3⟩ := hn1
        cases Option.some.inj (h1.symm.trans hcl)
        cases Option.some.inj (h2.symm.trans hc6)
        exact Or.inr ⟨hz0, _, hcl6, h3⟩) hx (Or.inr ⟨h0, c4, hcl5, hasg⟩)
  obtain ⟨t, a1, b1⟩ := kk (T.setVm vm') hT X'
  exact ⟨t, st.trans a1, b1⟩
end Rows
section Ends
variable {p : Program} {l : Launch} {e : Env} {R : Room} {s : State} {m : MethodId} {args : Array Value} {below : List Frame} {meth : Method} {c : Code} {H : Heap} {locs : List Loc} {cells slots : Nat} {Q : State → Prop}
variable {mc ms : Nat} {free : Addr → Prop} {A0 A1 : Nat → Prop} {H0 : Heap} {a : Array Value} {ls : Array Slot} {st0 rest : List Value}
variable {Qc : Array Value → State → Outcome → State → Prop} {XC : String → State → State → Prop}
/-- what a body that may throw owes at its end -/
def vx_MQ (below : List Frame) (Qc : Array Value → State → Outcome → State → Prop) (XC : String → State → State → Prop) (a : Array Value) (s : State) (mc ms : Nat) (free : Addr → Prop) : State → Prop := fun t =>
  ∃ o, t.status = .running ∧ Ended t below o ∧ vx_Q Qc XC mc ms free a s o t
theorem vx_ret {g : JFrame} {mc ms : Nat} (k : W p l e R s m args below meth c H locs cells slots (MQ below Qc args s mc ms free) g) : W p l e R s m args below meth c H locs cells slots (vx_MQ below Qc XC args s mc ms free) g := by
  intro T hT X
  obtain ⟨t, a1, o, b1, b2, b3, b4⟩ := k T hT X
  exact ⟨t, a1, o, b1, b2, Or.inl ⟨b3, b4⟩⟩
/-- not caught here: it goes on to the caller -/
theorem vx_widen {g : JFrame} {q : Addr} {k n : Nat} (h1 : cells ≤ k) (h2 : slots ≤ n) (kk : vx_W p l e R s m args below meth c H locs k n Q g q) : vx_W p l e R s m args below meth c H locs cells slots Q g q := fun T hT X => kk T hT (stand_widen X h1 h2)
theorem vx_out {pc : Nat} {E : String} {ce : Cell} {q : Addr} {mc ms : Nat} (hout : ∀ x ∈ c.exceptionTable.toList, covers x pc = false) (hlocks : meth.locks = false) (hcell : H[q]? = some ce) (hv : ce.vm = .none) (hcl : s.vm.findClass E = some ce.cls)
    (hx : ∀ t : State, t.heap = H → s.vm.Alike t.vm → XC E s t) (hf : ∀ z ∈ locs, free z.base) (hc : cells ≤ mc) (hs : slots ≤ ms) :
    vx_W p l e R s m args below meth c H locs cells slots (vx_MQ below Qc XC args s mc ms free) (F0 m pc ls rest) q := by
  intro T hT X
  obtain ⟨st1, hrun, hend, hW, hsm⟩ := X.leaveThrown q (g := F0 m pc ls rest) rfl rfl rfl hout hlocks
  have hcell9 : (T.setFrames (.throwing q :: below)).heap[q]? = some ce := by
    show T.heap[q]? = some ce
    rw [hT]; exact hcell
  exact ⟨_, st1, .threw q, hrun, hend, Or.inr ⟨q, rfl, E, ce, locs, hx _ hT hW.alike, hcell9, hv, hcl, hW, hsm.mono hc hs, hf⟩⟩
theorem vx_frame {U : State} {k n : Nat} (h : s.sameButNew ({ U with vm := s.vm } : State) locs k n) : s.heap.size ≤ U.heap.size ∧ ∀ q : Nat, q < s.heap.size → (∀ z ∈ locs, z.base ≠ q) → U.heap[q]? = s.heap[q]? := by
  obtain ⟨-, h2, -, -, -, h6⟩ := h
  refine ⟨h2, fun q hq hz => ?_⟩
  obtain ⟨c9, e1, e2, e3, e4⟩ := h6 q _ (Array.getElem?_eq_getElem hq)
  have hs : c9.slots = (s.heap[q]).slots := Array.ext_getElem? fun i => e4 i fun hm => hz _ hm rfl
  have h9 : c9 = s.heap[q] := by
    rw [hs] at e2
    exact e2
  have e5 : U.heap[q]? = some c9 := e1
  rw [e5, h9, Array.getElem?_eq_getElem hq]
/-- the words of a throw but the four that speak of the heap -/
def vx_no (w : Cond) : Bool := decide (w ≠ .isRef (.static Bundle.tN "UNASSIGNED_STACK" Bundle.steD)) && decide (w ≠ .isRef (.static Bundle.tN "SUPPRESSED_SENTINEL" Bundle.listD)) && decide (w ≠ .laysStatic Bundle.tN "UNASSIGNED_STACK" Bundle.steD) && decide (w ≠ .laysStatic Bundle.tN "SUPPRESSED_SENTINEL" Bundle.listD)
def vx_at0 (own : String) (ic : Nat) (X : String) (names : List String) : List Cond := (Bundle.ownAtoms0 own ic X names).filter vx_no
def vx_atS (own : String) (ic : Nat) (X : String) (names : List String) : List Cond := (Bundle.ownAtoms own ic X names).filter vx_no
/-- a word that the tables alone decide, or a good one -/
def vx_ot (w : Cond) : Bool := w.onTables || goodWord w
theorem vx_ot_at {args a' : Array Value} {s U : State} {w : Cond} (hW : s.WarmedH U.vm) (hvm : s.vm = U.vm) (hg : vx_ot w = true) (h : w.before args s = true) : w.before a' U = true := by
  simp only [vx_ot, Bool.or_eq_true] at hg
  rcases hg with hg | hg
  · exact va_tabs hg hvm h
  · exact word_at hW (good_of_word hg) h
/-- a list's words: the good ones out of the method's own list, the others by premises of their own -/
theorem vx_hat {args : Array Value} {s : State} {L B : List Cond} (h1 : ∀ w ∈ L.filter goodWord, w.before args s = true) (h2 : ∀ w ∈ L.filter (fun w => !goodWord w), w ∈ B) (h3 : ∀ w ∈ B, w.before args s = true) : ∀ w ∈ L, w.before args s = true := by
  intro w hw
  by_cases g : goodWord w = true
  · exact h1 w (List.mem_filter.mpr ⟨hw, g⟩)
  · refine h3 w (h2 w (List.mem_filter.mpr ⟨hw, ?_⟩))
    show (!goodWord w) = true
    cases hgw : goodWord w
    · rfl
    · exact absurd hgw g
theorem vx_c {args : Array Value} {s : State} {w : Cond} {B : List Cond} (h : w.before args s = true) (t : ∀ w ∈ B, w.before args s = true) : ∀ w' ∈ w :: B, w'.before args s = true := fun w' h' => (List.mem_cons.mp h').elim (fun e => by rw [e]; exact h) (t w')
theorem vx_n {args : Array Value} {s : State} : ∀ w ∈ ([] : List Cond), w.before args s = true := fun _ h => nomatch h
theorem vx_own {args : Array Value} {s : State} {L : List Cond} (h1 : ∀ w ∈ L.filter vx_no, w.before args s = true)
    (hU : (Cond.isRef (.static Bundle.tN "UNASSIGNED_STACK" Bundle.steD)).before args s = true) (hN : (Cond.isRef (.static Bundle.tN "SUPPRESSED_SENTINEL" Bundle.listD)).before args s = true)
    (lU : (Cond.laysStatic Bundle.tN "UNASSIGNED_STACK" Bundle.steD).before args s = true) (lN : (Cond.laysStatic Bundle.tN "SUPPRESSED_SENTINEL" Bundle.listD).before args s = true) : ∀ w ∈ L, w.before args s = true := by
  intro w hw
  by_cases e1 : w = .isRef (.static Bundle.tN "UNASSIGNED_STACK" Bundle.steD)
  · rw [e1]; exact hU
  · by_cases e2 : w = .isRef (.static Bundle.tN "SUPPRESSED_SENTINEL" Bundle.listD)
    · rw [e2]; exact hN
    · by_cases e3 : w = .laysStatic Bundle.tN "UNASSIGNED_STACK" Bundle.steD
      · rw [e3]; exact lU
      · by_cases e4 : w = .laysStatic Bundle.tN "SUPPRESSED_SENTINEL" Bundle.listD
        · rw [e4]; exact lN
        · exact h1 w (List.mem_filter.mpr ⟨hw, by unfold vx_no; rw [decide_eq_true e1, decide_eq_true e2, decide_eq_true e3, decide_eq_true e4]; rfl⟩)
/-- where a static field lies, its class's statics cell in H -/
def vx_L (C n d : String) (A : Nat → Prop) (U : State) (H : Heap) : Prop := ∃ (c : ClassId) (k : Class) (i : Nat) (f : Field) (a : Nat) (cell : Cell), U.vm.findClass C = some c ∧ U.fieldFound? C n d = some (c, k, i, f) ∧ f.isStatic = true ∧ k.statics = some a ∧ H[a]? = some cell ∧ cell.vm.isStatics = true ∧ cell.cls = c ∧ f.slot < cell.slots.size ∧ k.staticTypes[f.slot]? = some f.type ∧ ¬ A a
theorem vx_L.moved {C n d : String} {A : Nat → Prop} {u U : State} {H : Heap} (hvm : u.vm.Alike U.vm) (h : vx_L C n d A u H) : vx_L C n d A U H := by
  obtain ⟨c, k, i, f, a, cell, h1, h2, h3, h4, h5, h6, h7, h8, h9, h10⟩ := h
  obtain ⟨k', hi', he⟩ := State.fieldFound?_setVm hvm h2
  exact ⟨c, k', i, f, a, cell, by rw [hvm.findClass]; exact h1, hi', h3, by rw [he]; exact h4, h5, h6, h7, h8, by rw [he]; exact h9, h10⟩
theorem vx_L.kept {C n d : String} {A : Nat → Prop} {U : State} {H H1 : Heap} (h : vx_L C n d A U H) (hq : ∀ a : Nat, a < H.size → ¬ A a → H1[a]? = H[a]?) : vx_L C n d A U H1 := by
  obtain ⟨c, k, i, f, a, cell, h1, h2, h3, h4, h5, h6, h7, h8, h9, h10⟩ := h
  exact ⟨c, k, i, f, a, cell, h1, h2, h3, h4, by rw [hq a (Array.getElem?_eq_some_iff.mp h5).1 h10]; exact h5, h6, h7, h8, h9, h10⟩
theorem vx_L.narrow {C n d : String} {A B : Nat → Prop} {U : State} {H : Heap} (h : vx_L C n d A U H) (hAB : ∀ q, B q → A q) : vx_L C n d B U H := by
  obtain ⟨c, k, i, f, a, cell, h1, h2, h3, h4, h5, h6, h7, h8, h9, h10⟩ := h
  exact ⟨c, k, i, f, a, cell, h1, h2, h3, h4, h5, h6, h7, h8, h9, fun z => h10 (hAB _ z)⟩
theorem vx_L.word {C n d : String} {A : Nat → Prop} {s : State} {args : Array Value} (h : vx_L C n d A s s.heap) : (Cond.laysStatic C n d).before args s = true := by
  obtain ⟨c, k, i, f, a, cell, h1, h2, h3, h4, h5, h6, h7, h8, h9, -⟩ := h
  show (Cond.laysStatic C n d).holds args s none s [] = true
  exact Cond.laysStatic_of h1 h2 h3 h4 h5 h6 h7 h8 h9
/-- .. and what it holds: null or some reference -/
def vx_Zq (C n d : String) (A : Nat → Prop) (U : State) (H : Heap) : Prop := va_Zq C n d A U H ∧ vx_L C n d A U H
theorem vx_Zq.moved {C n d : String} {A : Nat → Prop} {u U : State} {H : Heap} (hvm : u.vm.Alike U.vm) (h : vx_Zq C n d A u H) : vx_Zq C n d A U H := ⟨va_Zq.moved hvm h.1, vx_L.moved hvm h.2⟩
theorem vx_Zq.kept {C n d : String} {A : Nat → Prop} {U : State} {H H1 : Heap} (h : vx_Zq C n d A U H) (hq : ∀ a : Nat, a < H.size → ¬ A a → H1[a]? = H[a]?) : vx_Zq C n d A U H1 := ⟨va_Zq.kept h.1 hq, vx_L.kept h.2 hq⟩
theorem vx_Zq.narrow {C n d : String} {A B : Nat → Prop} {U : State} {H : Heap} (h : vx_Zq C n d A U H) (hAB : ∀ q, B q → A q) : vx_Zq C n d B U H := ⟨va_Zq.narrow h.1 hAB, vx_L.narrow h.2 hAB⟩
theorem vx_Zqof {args : Array Value} {s : State} {C n d : String} {A : Nat → Prop} (hl : (Cond.laysStatic C n d).before args s = true) (hini : (Cond.initialized C).before args s = true) (h : (Cond.isRef (.static C n d)).before args s = true) (hA : ∀ a : Nat, a < s.heap.size → ¬ A a) : vx_Zq C n d A s s.heap := by
  refine ⟨va_Zqof hl hini h hA, ?_⟩
  obtain ⟨c, k, i, f, a, cell, h1, h2, h3, h4, h5, h6, h7, h8, h9⟩ := Cond.laysStatic_spec hl
  exact ⟨c, k, i, f, a, cell, h1, h2, h3, h4, h5, h6, h7, h8, h9, hA a (Array.getElem?_eq_some_iff.mp h5).1⟩
theorem vx_isRef {C n d : String} {v : Value} {A : Nat → Prop} {s : State} {args : Array Value} (h : va_Z C n d v A s s.heap) (hv : v.isRef = true) : (Cond.isRef (.static C n d)).before args s = true := by
  obtain ⟨cf, kf, fi, f, a, cell, h1, h2, h3, h4, h5, h6, h7, -⟩ := h
  have he : (Term.static C n d).eval args s none [] s = some v := by
    simp [Term.eval, State.fieldNamed?, h1, h2, h4, h5, h6, h7]
  simp only [Cond.before, Cond.holds, Cond.value, he]
  cases v <;> simp_all [Value.isRef]
theorem vx_isRefq {C n d : String} {A : Nat → Prop} {s : State} {args : Array Value} (h : va_Zq C n d A s s.heap) : (Cond.isRef (.static C n d)).before args s = true := by
  rcases h with h | ⟨t, h⟩
  · exact vx_isRef h rfl
  · exact vx_isRef h rfl
/-- the same frame, seen from here: as if the method were called anew in this heap -/
theorem vx_rebase {T : State} (X : Stand p l e R s m args below meth c T locs cells slots) {R' : Room} (hf : R'.frames ≤ R.frames) (hl : R'.locals ≤ R.locals) (hc : cells + R'.cells ≤ R.cells) (hs : slots + R'.slots ≤ R.slots) :
    Stand p l e R' ((T.setVm s.vm).setFrames (.invoking m args :: below)) m args below meth c T [] 0 0 := by
  have htop : (T.setVm s.vm).topJava?.isSome := X.here.top
  have hF : ((T.setVm s.vm).setFrames (.invoking m args :: below)).frames = .invoking m args :: below := State.frames_setFrames _ (State.cur_lt_of_top htop)
  obtain ⟨g₀, hg0⟩ := Option.isSome_iff_exists.mp htop
  obtain ⟨r, hr⟩ := State.topJava?_eq_some.mp hg0
  have hl9 : e.platform.stackLimits (T.setVm s.vm).me = e.platform.stackLimits s.me := X.limits
  have hb9 : (T.setVm s.vm).me.stackBytes = s.me.stackBytes := X.bytes
  refine ⟨X.admits, X.cas, X.clock, hF, ?_, X.hears, X.method, X.code, X.here, X.tail, X.warmed, ?_, ?_, ?_⟩
  · have h := X.room
    have hU : ((T.setVm s.vm).setFrames (.invoking m args :: below)).localsInUse = s.localsInUse := by
      rw [State.localsInUse_invoking hF (meth := meth) (c := c) X.method X.code, State.localsInUse_invoking X.frames X.method X.code]
    simp only [State.hasRoom, Bool.and_eq_true, decide_eq_true_eq] at h ⊢
    obtain ⟨⟨⟨⟨h1, h2, h3, h4, h5, h6⟩, h7⟩, h8⟩, h9⟩ := h
    rw [X.frames, List.length_cons] at h2 h3
    have q1 := X.heapSize
    have q2 := X.used
    simp only [hF, hU, List.length_cons, State.stackLimits_setFrames, State.stackBytes_setFrames, hl9, hb9]
    refine ⟨⟨⟨⟨by omega, by omega, by omega, by omega, by omega, h6⟩, ?_⟩, ?_⟩, X.book⟩
    · show T.heap.size + R'.cells ≤ e.platform.maxCells
      omega
    · show T.slotsUsed + R'.slots ≤ e.platform.maxSlots
      omega
  · rw [State.stackLimits_setFrames]; rfl
  · rw [State.stackBytes_setFrames]; rfl
  · refine ⟨?_, Nat.le_refl _, Nat.le_refl _, ?_, ?_, fun a c9 h9 => ⟨c9, h9, rfl, rfl, fun _ _ => rfl⟩⟩
    · obtain ⟨t, ht, -⟩ := State.frames_cons hr
      show T.setVm s.vm = { ((T.setVm s.vm).setFrames (.invoking m args :: below)).setFrames (T.setVm s.vm).frames with heap := T.heap, slotsUsed := T.slotsUsed }
      rw [State.setFrames_setFrames, State.setFrames_self ht]
      rfl
    · show T.slotsUsed = T.slotsUsed + ((T.heap.toList.drop T.heap.size).map (·.slots.size)).sum
      rw [List.drop_eq_nil_of_le (Nat.le_of_eq Array.length_toList)]
      rfl
    · show ((T.heap.toList.drop T.heap.size).map (·.slots.size)).sum ≤ 0
      rw [List.drop_eq_nil_of_le (Nat.le_of_eq Array.length_toList)]
      exact Nat.le_refl _
/-- 'throw new E()': new; dup; invokespecial; athrow -/
theorem vx_throw0 {cc : ByteArray} {pc : Nat} (hexec : p.tables.exec = Jvm.exec) (hb : c.code = cc) (hl : l.stackTraces = false) {own cls : String} {names : List String} {ik ic mc ms : Nat} {A : Nat → Prop}
    (hown : s.vm.findClass own = some m.cls) (hcls : Bundle.fit cls = true) (hnames : ∀ n ∈ names, Bundle.fit n = true)
    (hk : (Cond.classLink own ik cls).before args s = true) (hini : (Cond.initialized cls).before args s = true) (hat : ∀ w ∈ vx_at0 own ic cls names, w.before args s = true)
    (hgood : ∀ w ∈ Cond.classLink own ik cls :: Cond.initialized cls :: vx_at0 own ic cls names, vx_ot w = true)
    (hU : vx_Zq Bundle.tN "UNASSIGNED_STACK" Bundle.steD A s s.heap) (hN : vx_Zq Bundle.tN "SUPPRESSED_SENTINEL" Bundle.listD A s s.heap) (hS : va_S A s.heap H locs) (hsize : ls.size = c.maxLocals)
    (d0 : decode cc pc = .ok (.new ik, 3)) (d3 : decode cc (pc + 3) = .ok (.dup, 1)) (d4 : decode cc (pc + 4) = .ok (.invokespecial ic, 3)) (d7 : decode cc (pc + 7) = .ok (.athrow, 1))
    (hout : ∀ x ∈ c.exceptionTable.toList, covers x (pc + 7) = false)
    (hRframes : names.length + 3 < R.frames) (hRlocals : (rest.map fun v => v.category).sum + (13 * (names.length + 1) + 42) ≤ R.locals) (hRcells : cells + 1 ≤ R.cells) (hRslots : slots + 6 ≤ R.slots) (hlocks : meth.locks = false)
    (hx : ∀ t : State, s.vm.Alike t.vm → H.size ≤ t.heap.size → (∀ q : Nat, q < H.size → t.heap[q]? = H[q]?) → XC cls s t)
    (hf : ∀ z ∈ locs, free z.base) (hc : cells + 1 ≤ mc) (hs : slots + 6 ≤ ms) :
    W p l e R s m args below meth c H locs cells slots (vx_MQ below Qc XC args s mc ms free) (F0 m pc ls rest) := by
  intro T hT X
  have htr : e.platform.stackTraces = false := (show e.platform.stackTraces = l.stackTraces by rw [X.admits.platform]).trans hl
  have Y := vx_rebase X (R' := { frames := R.frames, locals := R.locals, cells := 1, slots := 6 }) (Nat.le_refl _) (Nat.le_refl _) hRcells hRslots
  obtain ⟨s', hA⟩ : ∃ z, z = (T.setVm s.vm).setFrames (.invoking m args :: below) := ⟨_, rfl⟩
  rw [← hA] at Y
  have hvm : s'.vm = s.vm := by rw [hA]; rfl
  have hhp : s'.heap = H := by rw [hA]; exact hT
  have hW0 : s.WarmedH s'.vm := by rw [hvm]; exact State.WarmedH.refl s
  have hat' : ∀ w ∈ vx_at0 own ic cls names, w.before args s' = true := fun w hw => vx_ot_at hW0 hvm.symm (hgood w (List.mem_cons_of_mem _ (List.mem_cons_of_mem _ hw))) (hat w hw)
  have hk' : (Cond.classLink own ik cls).before args s' = true := vx_ot_at hW0 hvm.symm (hgood _ List.mem_cons_self) hk
  have hini' : (Cond.initialized cls).before args s' = true := vx_ot_at hW0 hvm.symm (hgood _ (List.mem_cons_of_mem _ List.mem_cons_self)) hini
  have hU' : vx_Zq Bundle.tN "UNASSIGNED_STACK" Bundle.steD A s' s'.heap := by rw [hhp]; exact vx_Zq.moved hW0.alike (hU.kept hS.2.1)
  have hN' : vx_Zq Bundle.tN "SUPPRESSED_SENTINEL" Bundle.listD A s' s'.heap := by rw [hhp]; exact vx_Zq.moved hW0.alike (hN.kept hS.2.1)
  have h : ∀ w ∈ Bundle.ownAtoms0 own ic cls names, w.before args s' = true := vx_own hat' (vx_isRefq hU'.1) (vx_isRefq hN'.1) hU'.2.word hN'.2.word
  have hown' : s'.vm.findClass own = some m.cls := by rw [hvm]; exact hown
  have hins : (Cond.instantiable cls 6).before args s' = true := h _ (by simp [Bundle.ownAtoms0])
  obtain ⟨vm₁, cX, kX, hfX, hkX, -, -, X₁, st1⟩ := Y.newCold hexec (own := own) (C := cls) (index := ik) (n := 6) hown' hk' hins hini'
    (g := F0 m pc ls rest) rfl (by rw [hb]; exact d0) (Nat.le_refl _) (Nat.le_refl _)
  generalize hT1 : (T.setVm vm₁).pushCell { cls := cX, slots := kX.instanceTypes.map defaultValue, vm := .none } = T1 at X₁ st1
  have hcat : (Value.ref T.heap.size).category = 1 := rfl
  have hcellA : T1.heap[T.heap.size]? = some (freshCell cX kX) := by rw [← hT1]; exact State.heap_pushCell_size _ _
  have d3' : decode c.code (pc + 3) = .ok (.dup, 1) := by rw [hb]; exact d3
  obtain ⟨U, hsteps, hrun, hend, hW, hsame, ce, hce, hO⟩ := X₁.ctorThrow0 hexec htr (own := own) (cls := cls) (names := names) (ic := ic) hown' hcls hnames h (fun x hx => nomatch hx) hfX hkX hcellA (by rw [hhp, hT]; exact Nat.le_refl _)
    (g := { method := m, pc := pc + 4, locals := ls, stack := .ref T.heap.size :: .ref T.heap.size :: rest, locked := none }) rfl hsize rfl rfl (rest := rest) rfl
    (by rw [hb]; exact d4) (by rw [hb]; exact d7) hout hRframes (by simp only [List.map_cons, List.sum_cons, hcat]; omega) hlocks
  obtain ⟨f1, f2⟩ := vx_frame hsame
  rw [hhp] at f1 f2
  have hWs : s.WarmedH U.vm := State.WarmedH.trans hW0 hW
  have hcl : s.vm.findClass cls = some ce.cls := by
    have h9 := hO.cls
    rw [hvm] at h9
    exact h9
  have hall : s.sameButNew ({ U with vm := s.vm } : State) locs mc ms := by
    subst hA
    obtain ⟨e1, e2⟩ := hsame
    rw [State.setFrames_setFrames] at e1
    have h2 : (T.setVm s.vm).sameButNew ({ U with vm := s.vm } : State) [] (0 + 1) (0 + 6) := ⟨e1, e2⟩
    have h3 := X.same.trans h2
    rw [List.append_nil] at h3
    exact h3.mono hc hs
  refine ⟨U, ?_, .threw T.heap.size, hrun, hend, Or.inr ⟨T.heap.size, rfl, cls, ce, locs, hx U hWs.alike f1 (fun q hq => f2 q hq (fun z hz => nomatch hz)), hce, hO.vm, hcl, hWs, hall, hf⟩⟩
  refine st1 _ ?_
  show Steps p.tables e below (T1.setTop { method := m, pc := pc + 3, locals := ls, stack := .ref T.heap.size :: rest, locked := none }) _
  jvm_step X₁.here [X₁.here.top, hexec, d3', Value.category]
  exact hsteps
/-- 'throw new E("text")': new; dup; ldc; invokespecial; athrow -/
theorem vx_throwS {cc : ByteArray} {pc : Nat} (hexec : p.tables.exec = Jvm.exec) (hb : c.code = cc) (hl : l.stackTraces = false) {own cls text : String} {names : List String} {ik is ic mc ms sa : Nat} {A : Nat → Prop}
    (hown : s.vm.findClass own = some m.cls) (hcls : Bundle.fit cls = true) (hnames : ∀ n ∈ names, Bundle.fit n = true)
    (hk : (Cond.classLink own ik cls).before args s = true) (hini : (Cond.initialized cls).before args s = true) (hstr : vk_R own is text sa s) (hat : ∀ w ∈ vx_atS own ic cls names, w.before args s = true)
    (hgood : ∀ w ∈ Cond.classLink own ik cls :: Cond.initialized cls :: vx_atS own ic cls names, vx_ot w = true)
    (hU : vx_Zq Bundle.tN "UNASSIGNED_STACK" Bundle.steD A s s.heap) (hN : vx_Zq Bundle.tN "SUPPRESSED_SENTINEL" Bundle.listD A s s.heap) (hS : va_S A s.heap H locs) (hsize : ls.size = c.maxLocals)
    (d0 : decode cc pc = .ok (.new ik, 3)) (d3 : decode cc (pc + 3) = .ok (.dup, 1)) (d4 : decode cc (pc + 4) = .ok (.ldc is, 2)) (d6 : decode cc (pc + 6) = .ok (.invokespecial ic, 3)) (d9 : decode cc (pc + 9) = .ok (.athrow, 1))
    (hout : ∀ x ∈ c.exceptionTable.toList, covers x (pc + 9) = false)
    (hRframes : names.length + 3 < R.frames) (hRlocals : (rest.map fun v => v.category).sum + (13 * (names.length + 1) + 43) ≤ R.locals) (hRcells : cells + 1 ≤ R.cells) (hRslots : slots + 6 ≤ R.slots) (hlocks : meth.locks = false)
    (hx : ∀ t : State, s.vm.Alike t.vm → H.size ≤ t.heap.size → (∀ q : Nat, q < H.size → t.heap[q]? = H[q]?) → XC cls s t)
    (hf : ∀ z ∈ locs, free z.base) (hc : cells + 1 ≤ mc) (hs : slots + 6 ≤ ms) :
    W p l e R s m args below meth c H locs cells slots (vx_MQ below Qc XC args s mc ms free) (F0 m pc ls rest) := by
  intro T hT X
  have htr : e.platform.stackTraces = false := (show e.platform.stackTraces = l.stackTraces by rw [X.admits.platform]).trans hl
  have Y := vx_rebase X (R' := { frames := R.frames, locals := R.locals, cells := 1, slots := 6 }) (Nat.le_refl _) (Nat.le_refl _) hRcells hRslots
  obtain ⟨s', hA⟩ : ∃ z, z = (T.setVm s.vm).setFrames (.invoking m args :: below) := ⟨_, rfl⟩
  rw [← hA] at Y
  have hvm : s'.vm = s.vm := by rw [hA]; rfl
  have hhp : s'.heap = H := by rw [hA]; exact hT
  have hW0 : s.WarmedH s'.vm := by rw [hvm]; exact State.WarmedH.refl s
  have hat' : ∀ w ∈ vx_atS own ic cls names, w.before args s' = true := fun w hw => vx_ot_at hW0 hvm.symm (hgood w (List.mem_cons_of_mem _ (List.mem_cons_of_mem _ hw))) (hat w hw)
  have hk' : (Cond.classLink own ik cls).before args s' = true := vx_ot_at hW0 hvm.symm (hgood _ List.mem_cons_self) hk
  have hini' : (Cond.initialized cls).before args s' = true := vx_ot_at hW0 hvm.symm (hgood _ (List.mem_cons_of_mem _ List.mem_cons_self)) hini
  have hU' : vx_Zq Bundle.tN "UNASSIGNED_STACK" Bundle.steD A s' s'.heap := by rw [hhp]; exact vx_Zq.moved hW0.alike (hU.kept hS.2.1)
  have hN' : vx_Zq Bundle.tN "SUPPRESSED_SENTINEL" Bundle.listD A s' s'.heap := by rw [hhp]; exact vx_Zq.moved hW0.alike (hN.kept hS.2.1)
  have h : ∀ w ∈ Bundle.ownAtoms own ic cls names, w.before args s' = true := vx_own hat' (vx_isRefq hU'.1) (vx_isRefq hN'.1) hU'.2.word hN'.2.word
  have hown' : s'.vm.findClass own = some m.cls := by rw [hvm]; exact hown
  have hins : (Cond.instantiable cls 6).before args s' = true := h _ (by simp [Bundle.ownAtoms])
  obtain ⟨vm₁, cX, kX, hfX, hkX, -, -, X₁, st1⟩ := Y.newCold hexec (own := own) (C := cls) (index := ik) (n := 6) hown' hk' hins hini'
    (g := F0 m pc ls rest) rfl (by rw [hb]; exact d0) (Nat.le_refl _) (Nat.le_refl _)
  generalize hT1 : (T.setVm vm₁).pushCell { cls := cX, slots := kX.instanceTypes.map defaultValue, vm := .none } = T1 at X₁ st1
  have hcat : (Value.ref T.heap.size).category = 1 := rfl
  have hcellA : T1.heap[T.heap.size]? = some (freshCell cX kX) := by rw [← hT1]; exact State.heap_pushCell_size _ _
  have d3' : decode c.code (pc + 3) = .ok (.dup, 1) := by rw [hb]; exact d3
  have d4' : decode c.code (pc + 4) = .ok (.ldc is, 2) := by rw [hb]; exact d4
  have hstr' : vk_R own is text sa s' := vk_R.warm hW0 hstr
  obtain ⟨U, hsteps, hrun, hend, hW, hsame, ce, hce, hO⟩ := X₁.ctorThrowS hexec htr (own := own) (cls := cls) (names := names) (ic := ic) hown' hcls hnames h (fun x hx => nomatch hx) hfX hkX hcellA (by rw [hhp, hT]; exact Nat.le_refl _) (msg := .ref sa) rfl
    (g := { method := m, pc := pc + 6, locals := ls, stack := .ref sa :: .ref T.heap.size :: .ref T.heap.size :: rest, locked := none }) rfl hsize rfl rfl (rest := rest) rfl
    (by rw [hb]; exact d6) (by rw [hb]; exact d9) hout hRframes (by simp only [List.map_cons, List.sum_cons, hcat]; omega) hlocks
  obtain ⟨f1, f2⟩ := vx_frame hsame
  rw [hhp] at f1 f2
  have hWs : s.WarmedH U.vm := State.WarmedH.trans hW0 hW
  have hcl : s.vm.findClass cls = some ce.cls := by
    have h9 := hO.cls
    rw [hvm] at h9
    exact h9
  have hall : s.sameButNew ({ U with vm := s.vm } : State) locs mc ms := by
    subst hA
    obtain ⟨e1, e2⟩ := hsame
    rw [State.setFrames_setFrames] at e1
    have h2 : (T.setVm s.vm).sameButNew ({ U with vm := s.vm } : State) [] (0 + 1) (0 + 6) := ⟨e1, e2⟩
    have h3 := X.same.trans h2
    rw [List.append_nil] at h3
    exact h3.mono hc hs
  refine ⟨U, ?_, .threw T.heap.size, hrun, hend, Or.inr ⟨T.heap.size, rfl, cls, ce, locs, hx U hWs.alike f1 (fun q hq => f2 q hq (fun z hz => nomatch hz)), hce, hO.vm, hcl, hWs, hall, hf⟩⟩
  refine st1 _ ?_
  show Steps p.tables e below (T1.setTop { method := m, pc := pc + 3, locals := ls, stack := .ref T.heap.size :: rest, locked := none }) _
  jvm_step X₁.here [X₁.here.top, hexec, d3', Value.category]
  exact X₁.ldcString hexec (own := own) (text := text) (index := is) (a := sa) hown' hstr'.1 hstr'.2
    (g := { method := m, pc := pc + 4, locals := ls, stack := .ref T.heap.size :: .ref T.heap.size :: rest, locked := none }) rfl d4' _ hsteps
/-- 'throw new E("text")', the text by a wide index -/
theorem vx_throwSW {cc : ByteArray} {pc : Nat} (hexec : p.tables.exec = Jvm.exec) (hb : c.code = cc) (hl : l.stackTraces = false) {own cls text : String} {names : List String} {ik is ic mc ms sa : Nat} {A : Nat → Prop}
    (hown : s.vm.findClass own = some m.cls) (hcls : Bundle.fit cls = true) (hnames : ∀ n ∈ names, Bundle.fit n = true)
    (hk : (Cond.classLink own ik cls).before args s = true) (hini : (Cond.initialized cls).before args s = true) (hstr : vk_R own is text sa s) (hat : ∀ w ∈ vx_atS own ic cls names, w.before args s = true)
    (hgood : ∀ w ∈ Cond.classLink own ik cls :: Cond.initialized cls :: vx_atS own ic cls names, vx_ot w = true)
    (hU : vx_Zq Bundle.tN "UNASSIGNED_STACK" Bundle.steD A s s.heap) (hN : vx_Zq Bundle.tN "SUPPRESSED_SENTINEL" Bundle.listD A s s.heap) (hS : va_S A s.heap H locs) (hsize : ls.size = c.maxLocals)
    (d0 : decode cc pc = .ok (.new ik, 3)) (d3 : decode cc (pc + 3) = .ok (.dup, 1)) (d4 : decode cc (pc + 4) = .ok (.ldc_w is, 3)) (d7 : decode cc (pc + 7) = .ok (.invokespecial ic, 3)) (d10 : decode cc (pc + 10) = .ok (.athrow, 1))
    (hout : ∀ x ∈ c.exceptionTable.toList, covers x (pc + 10) = false)
    (hRframes : names.length + 3 < R.frames) (hRlocals : (rest.map fun v => v.category).sum + (13 * (names.length + 1) + 43) ≤ R.locals) (hRcells : cells + 1 ≤ R.cells) (hRslots : slots + 6 ≤ R.slots) (hlocks : meth.locks = false)
    (hx : ∀ t : State, s.vm.Alike t.vm → H.size ≤ t.heap.size → (∀ q : Nat, q < H.size → t.heap[q]? = H[q]?) → XC cls s t)
    (hf : ∀ z ∈ locs, free z.base) (hc : cells + 1 ≤ mc) (hs : slots + 6 ≤ ms) :
    W p l e R s m args below meth c H locs cells slots (vx_MQ below Qc XC args s mc ms free) (F0 m pc ls rest) := by
  intro T hT X
  have htr : e.platform.stackTraces = false := (show e.platform.stackTraces = l.stackTraces by rw [X.admits.platform]).trans hl
  have Y := vx_rebase X (R' := { frames := R.frames, locals := R.locals, cells := 1, slots := 6 }) (Nat.le_refl _) (Nat.le_refl _) hRcells hRslots
  obtain ⟨s', hA⟩ : ∃ z, z = (T.setVm s.vm).setFrames (.invoking m args :: below) := ⟨_, rfl⟩
  rw [← hA] at Y
  have hvm : s'.vm = s.vm := by rw [hA]; rfl
  have hhp : s'.heap = H := by rw [hA]; exact hT
  have hW0 : s.WarmedH s'.vm := by rw [hvm]; exact State.WarmedH.refl s
  have hat' : ∀ w ∈ vx_atS own ic cls names, w.before args s' = true := fun w hw => vx_ot_at hW0 hvm.symm (hgood w (List.mem_cons_of_mem _ (List.mem_cons_of_mem _ hw))) (hat w hw)
  have hk' : (Cond.classLink own ik cls).before args s' = true := vx_ot_at hW0 hvm.symm (hgood _ List.mem_cons_self) hk
  have hini' : (Cond.initialized cls).before args s' = true := vx_ot_at hW0 hvm.symm (hgood _ (List.mem_cons_of_mem _ List.mem_cons_self)) hini
  have hU' : vx_Zq Bundle.tN "UNASSIGNED_STACK" Bundle.steD A s' s'.heap := by rw [hhp]; exact vx_Zq.moved hW0.alike (hU.kept hS.2.1)
  have hN' : vx_Zq Bundle.tN "SUPPRESSED_SENTINEL" Bundle.listD A s' s'.heap := by rw [hhp]; exact vx_Zq.moved hW0.alike (hN.kept hS.2.1)
  have h : ∀ w ∈ Bundle.ownAtoms own ic cls names, w.before args s' = true := vx_own hat' (vx_isRefq hU'.1) (vx_isRefq hN'.1) hU'.2.word hN'.2.word
  have hown' : s'.vm.findClass own = some m.cls := by rw [hvm]; exact hown
  have hins : (Cond.instantiable cls 6).before args s' = true := h _ (by simp [Bundle.ownAtoms])
  obtain ⟨vm₁, cX, kX, hfX, hkX, -, -, X₁, st1⟩ := Y.newCold hexec (own := own) (C := cls) (index := ik) (n := 6) hown' hk' hins hini'
    (g := F0 m pc ls rest) rfl (by rw [hb]; exact d0) (Nat.le_refl _) (Nat.le_refl _)
  generalize hT1 : (T.setVm vm₁).pushCell { cls := cX, slots := kX.instanceTypes.map defaultValue, vm := .none } = T1 at X₁ st1
  have hcat : (Value.ref T.heap.size).category = 1 := rfl
  have hcellA : T1.heap[T.heap.size]? = some (freshCell cX kX) := by rw [← hT1]; exact State.heap_pushCell_size _ _
  have d3' : decode c.code (pc + 3) = .ok (.dup, 1) := by rw [hb]; exact d3
  have d4' : decode c.code (pc + 4) = .ok (.ldc_w is, 3) := by rw [hb]; exact d4
  have hstr' : vk_R own is text sa s' := vk_R.warm hW0 hstr
  obtain ⟨U, hsteps, hrun, hend, hW, hsame, ce, hce, hO⟩ := X₁.ctorThrowS hexec htr (own := own) (cls := cls) (names := names) (ic := ic) hown' hcls hnames h (fun x hx => nomatch hx) hfX hkX hcellA (by rw [hhp, hT]; exact Nat.le_refl _) (msg := .ref sa) rfl
    (g := { method := m, pc := pc + 7, locals := ls, stack := .ref sa :: .ref T.heap.size :: .ref T.heap.size :: rest, locked := none }) rfl hsize rfl rfl (rest := rest) rfl
    (by rw [hb]; exact d7) (by rw [hb]; exact d10) hout hRframes (by simp only [List.map_cons, List.sum_cons, hcat]; omega) hlocks
  obtain ⟨f1, f2⟩ := vx_frame hsame
  rw [hhp] at f1 f2
  have hWs : s.WarmedH U.vm := State.WarmedH.trans hW0 hW
  have hcl : s.vm.findClass cls = some ce.cls := by
    have h9 := hO.cls
    rw [hvm] at h9
    exact h9
  have hall : s.sameButNew ({ U with vm := s.vm } : State) locs mc ms := by
    subst hA
    obtain ⟨e1, e2⟩ := hsame
    rw [State.setFrames_setFrames] at e1
    have h2 : (T.setVm s.vm).sameButNew ({ U with vm := s.vm } : State) [] (0 + 1) (0 + 6) := ⟨e1, e2⟩
    have h3 := X.same.trans h2
    rw [List.append_nil] at h3
    exact h3.mono hc hs
  refine ⟨U, ?_, .threw T.heap.size, hrun, hend, Or.inr ⟨T.heap.size, rfl, cls, ce, locs, hx U hWs.alike f1 (fun q hq => f2 q hq (fun z hz => nomatch hz)), hce, hO.vm, hcl, hWs, hall, hf⟩⟩
  refine st1 _ ?_
  show Steps p.tables e below (T1.setTop { method := m, pc := pc + 3, locals := ls, stack := .ref T.heap.size :: rest, locked := none }) _
  jvm_step X₁.here [X₁.here.top, hexec, d3', Value.category]
  exact X₁.ldcStringW hexec (own := own) (text := text) (index := is) (a := sa) hown' hstr'.1 hstr'.2
    (g := { method := m, pc := pc + 4, locals := ls, stack := .ref T.heap.size :: .ref T.heap.size :: rest, locked := none }) rfl d4' _ hsteps
end Ends
section Bodies
variable {l : Launch}
theorem vx_ofW {y : MethodName} {ws ws' : List Cond} {rm : Room} {Pc : Array Value → State → Prop} {Qc : Array Value → State → Outcome → State → Prop} {XC : String → State → State → Prop} {mc ms : Nat} {free : Addr → Prop} {cc : ByteArray} {maxL : Nat} {ret : Option FieldType}
    (hy : plainName y.cls = true) (hw : ws = Cond.code y cc maxL ret :: ws')
    (body : ∀ p e s m args below meth c s₁, BodyLoose p l y (headSpec ws rm) cc maxL ret e s m args below meth c s₁ → c.maxLocals = maxL → (∀ x ∈ c.exceptionTable.toList, False) → Pc args s →
      W p l e (headSpec ws rm).room s m args below meth c s.heap [] 0 0 (vx_MQ below Qc XC args s mc ms free) (entryFrame m args maxL)) : vx_Met l y ws rm Pc Qc XC mc ms free := by
  refine MetFree.of_bodyS (code := cc) (maxLocals := maxL) (ret := ret) hy ?_ ?_
  · intro args s m h hn
    obtain ⟨meth, c, h1, h2, h3, h4, h5, h6, -, -⟩ := Cond.code_spec hn (atoms_spec (ws := ws) h _ (by rw [hw]; exact List.mem_cons_self))
    exact ⟨meth, c, h1, h2, h3, h4, h5, h6⟩
  · intro p e s m args below meth c s₁ B hml hP _
    have hh0 : s₁.heap = s.heap := by rw [B.state]; rfl
    have ht : ∀ x ∈ c.exceptionTable.toList, False := by
      obtain ⟨meth9, c9, h1, h2, -, -, -, -, h7, -⟩ := Cond.code_spec B.named (atoms_spec (ws := ws) B.pre _ (by rw [hw]; exact List.mem_cons_self))
      cases Option.some.inj (h1.symm.trans B.method)
      cases Option.some.inj (h2.symm.trans (Stand.of_body B).code)
      intro x hx
      rw [Array.isEmpty_iff.mp h7] at hx
      cases hx
    obtain ⟨t, a1, o, b1, b2, b3⟩ := body p e s m args below meth c s₁ B hml ht hP s₁ hh0 (Stand.of_body B)
    exact ⟨t, o, a1, b1, b2, b3⟩
/-- the table of a body with handlers -/
theorem vx_table {p : Program} {x y : MethodName} {S : Spec} {cc bytes : ByteArray} {maxL maxL' : Nat} {ret ret' : Option FieldType} {e : Env} {s s₁ : State} {m : MethodId} {args : Array Value} {below : List Frame} {meth : Method} {c : Code} {hh : List (Nat × Nat × Nat × Nat)}
    (B : BodyLoose p l y S cc maxL ret e s m args below meth c s₁) (h : (Cond.codeWith y bytes maxL' ret' hh).before args s = true) : c.exceptionTable.toList = tableOf hh := by
  obtain ⟨m9, meth9, c9, hn9, h1, h2, -, -, h6, -⟩ := Cond.codeWith_spec h
  cases Option.some.inj (hn9.symm.trans B.named)
  cases Option.some.inj (h1.symm.trans B.method)
  cases Option.some.inj (h2.symm.trans (Stand.of_body B).code)
  rw [← h6, table_eq]
end Bodies
end VXA
/-! ===== END ===== -/
/-! ===== BEGIN a static call of a method with an exception table ===== -/
section VXS
variable {p : Program} {l : Launch} {e : Env} {R : Room} {s : State} {m : MethodId} {args : Array Value} {below : List Frame} {meth : Method} {c : Code} {T : State} {H : Heap} {locs : List Loc} {cells slots : Nat}
abbrev vx_CSW (R : Room) (s : State) (args : Array Value) (own : String) (index : Nat) (y : MethodName) (bytes : ByteArray) (maxL : Nat) (ret : Option FieldType) (hh : List (Nat × Nat × Nat × Nat)) (ws : List Cond) (rm : Room) (mc ms n : Nat) : Prop :=
  (rm.cells = mc ∧ rm.slots = ms ∧ rm.frames + 1 ≤ R.frames ∧ 8 + (maxL + 11) + rm.locals ≤ R.locals ∧ (∀ w ∈ ws, ∀ (a' : Array Value) (U : State), s.WarmedH U.vm → w.before a' U = true) ∧ Cond.codeWith y bytes maxL ret hh ∈ ws) ∧
  (Cond.codeWith y bytes maxL ret hh).before args s = true ∧ (Cond.initialized y.cls).before args s = true ∧ (y.cls ≠ "java/lang/invoke/MethodHandle" ∧ y.cls ≠ "java/lang/invoke/VarHandle") ∧
  (∀ sig, parseMethodDescriptor y.desc = some sig → n = sig.parameters.length) ∧ (Cond.methodLink own index y).before args s = true ∧ (Cond.static y).before args s = true
theorem vx_cwSW {own : String} {index maxL mc ms : Nat} {y : MethodName} {bytes : ByteArray} {ret : Option FieldType} {hh : List (Nat × Nat × Nat × Nat)} {Ts ws ws' : List Cond} {rm : Room} (n : Nat) (ht : ∀ w ∈ Ts, w.before args s = true) (hT : GoodIn Ts (va_wsS own index y ws)) (hw : ws = Cond.codeWith y bytes maxL ret hh :: ws') (hrc : rm.cells = mc) (hrs : rm.slots = ms)
    (hd : y.cls ≠ "java/lang/invoke/MethodHandle" ∧ y.cls ≠ "java/lang/invoke/VarHandle" ∧ (parseMethodDescriptor y.desc).map (fun d => d.parameters.length) = some n) (hR : rm.frames + 1 ≤ R.frames ∧ 8 + (maxL + 11) + rm.locals ≤ R.locals) :
    vx_CSW R s args own index y bytes maxL ret hh ws rm mc ms n := by
  have ok : ∀ w ∈ va_wsS own index y ws, w.before args s = true := fun w h => ht w (hT w h).1
  have hG : GoodIn Ts ws := fun w h => hT w (by unfold va_wsS; exact List.mem_append_right _ h)
  have hc : Cond.codeWith y bytes maxL ret hh ∈ ws := by rw [hw]; exact List.mem_cons_self
  refine ⟨⟨hrc, hrs, hR.1, hR.2, pay_in ht hG, hc⟩, ht _ (hG _ hc).1, ok _ (by simp [va_wsS]), ⟨hd.1, hd.2.1⟩, fun sig h => ?_, ok _ (by simp [va_wsS]), ok _ (by simp [va_wsS])⟩
  have h2 := hd.2.2
  rw [h] at h2
  exact (Option.some.inj h2).symm
theorem vx_callSW (X : Stand p l e R s m args below meth c T locs cells slots) (hexec : p.tables.exec = Jvm.exec) {own : String} {index : Nat} {y : MethodName} {bytes : ByteArray} {maxL : Nat} {ret : Option FieldType} {hh : List (Nat × Nat × Nat × Nat)}
    (hown : s.vm.findClass own = some m.cls) (hlink : (Cond.methodLink own index y).before args s = true) (hstat : (Cond.static y).before args s = true) (hinit : (Cond.initialized y.cls).before args s = true)
    (hcode : (Cond.codeWith y bytes maxL ret hh).before args s = true) (hy : y.cls ≠ "java/lang/invoke/MethodHandle" ∧ y.cls ≠ "java/lang/invoke/VarHandle")
    {W9 : Nat} {Pre : Pt → Array Value → Prop} {Post : Pt → Array Value → Option Value → Pt → Prop} (hK : Back l R p e below s args y 3 W9 Pre Post)
    {g : JFrame} (hg : g.method = m) (hsize : g.locals.size = c.maxLocals) {argsL rest : List Value} (hlen : ∀ sig, parseMethodDescriptor y.desc = some sig → argsL.length = sig.parameters.length)
    (hstack : g.stack = argsL.reverse ++ rest) (hW : 2 * g.monitorRoom + (rest.map fun v => v.category).sum ≤ W9) (hdg : decode c.code g.pc = .ok (.invokestatic index, 3))
    (hpre : ∀ vm₁, s.WarmedH vm₁ → Pre ⟨T.setVm vm₁, locs, cells, slots⟩ argsL.toArray) :
    ∃ (v : Option Value) (vm₁ : Vm) (B : Pt), s.WarmedH vm₁ ∧ Stand p l e R s m args below meth c B.U B.locs B.cells B.slots ∧ Post ⟨T.setVm vm₁, locs, cells, slots⟩ argsL.toArray v B ∧
      ∀ target, Steps p.tables e below (B.U.setTop { g with pc := g.pc + 3, stack := v.toList ++ rest }) target → Steps p.tables e below (T.setTop g) target := by
  obtain ⟨mk, methM, cM, hnamed, hmethM, -, -, -, -, -, -, hsigM⟩ := Cond.codeWith_spec hcode
  have hstatic : methM.isStatic = true := Cond.static_spec hnamed hmethM hstat
  obtain ⟨kP, hkP, -⟩ := className_of_methodNamed hnamed
  have hinitP : kP.init = .initialized := Cond.initialized_spec (findClass_of_methodNamed hnamed) hkP hinit
  obtain ⟨vm₁, X₁, hstep₁⟩ := X.invokestatic hexec hown hlink hnamed hmethM hstatic hkP hinitP hy (g := g) hg (argsL := argsL) (rest := rest) (hlen _ hsigM) hstack hdg
  obtain ⟨v, B, X', hpost, hsteps⟩ := hK m meth c ⟨T.setVm vm₁, locs, cells, slots⟩ { g with stack := rest } (.invokestatic index) mk argsL.toArray X₁ hg hsize hdg hW (X₁.named hnamed) (hpre vm₁ X₁.warmed)
  exact ⟨v, vm₁, B, X₁.warmed, X', hpost, fun target h => hstep₁ _ fun acts => by rw [doInvoke_state]; exact hsteps.trans h⟩
theorem vx_runSW {y : MethodName} {bytes cc : ByteArray} {maxL nL mc ms n index : Nat} {ret : Option FieldType} {hh : List (Nat × Nat × Nat × Nat)} {ws : List Cond} {rm : Room} {Pc : Array Value → State → Prop} {Qc : Array Value → State → Outcome → State → Prop} {free : Addr → Prop} {Ts : List Cond} {own : String} {As rest : List Value} {g : JFrame}
    (S : CallFix p m c cc nL s args Ts own) (hM : Met l y ws rm Pc Qc mc ms free) (cw : vx_CSW R s args own index y bytes maxL ret hh ws rm mc ms n) (hp : PreS s H Pc As)
    (hg : g.method = m) (hn : As.length = n) (hsize : g.locals.size = nL) (hstack : g.stack = As.reverse ++ rest) (hW : 2 * g.monitorRoom + (rest.map fun v => v.category).sum ≤ 8) (hdg : decode cc g.pc = .ok (.invokestatic index, 3)) (hf : cells + mc ≤ R.cells ∧ slots + ms ≤ R.slots) :
    va_Run p l e R s m args below meth c H locs cells slots mc ms g rest (Qc As.toArray) (free) := by
  obtain ⟨⟨hrc, hrs, hfr, hlo, hws, hcw⟩, hcode, hini, hy, hlen, hl, hstt⟩ := cw
  have hK : Back l R p e below s args y 3 8 (PreOf R mc ms Pc) (PostOf Qc mc ms free) := va_backW (hh := hh) (bytes := bytes) (maxL := maxL) (ret := ret) hM hp.1 hrc hrs hfr hlo hws hcw (fun a' U hW => word_at hW (Or.inl (by first | rfl | simp [Cond.onTables, Cond.keeps, Cond.steady])) hini)
  obtain ⟨hx, hb, hml, ho, -⟩ := S
  intro T hT X
  obtain ⟨v, vm₁, ⟨U', l2, c2, s2⟩, hW₁, X', ⟨g', mk, t, L, e1, e2, hq, h1, hL, h2, h3⟩, st⟩ := vx_callSW X hx (hh := hh) (bytes := bytes) (maxL := maxL) (ret := ret) ho hl hstt hini hcode hy hK hg (hsize.trans hml.symm) (argsL := As) (rest := rest) (fun sig h => hn.trans (hlen sig h)) hstack hW (by rw [hb]; exact hdg)
    (fun vm₁ hW₁ => ⟨hf.1, hf.2, hp.2 (T.setVm vm₁) hT hW₁⟩)
  dsimp only [Pt.U, Pt.locs, Pt.cells, Pt.slots] at X' e1 e2 h1 h2 h3 st
  subst h1; subst h2; subst h3
  exact ⟨v, (T.setVm vm₁).calling g' mk As.toArray, t, U', L, hT, X', hL, e1, e2, hq, st⟩
/-- not caught here, past rows that name other classes: it goes on to the caller -/
theorem vx_outP {p : Program} {l : Launch} {e : Env} {R : Room} {s : State} {m : MethodId} {args : Array Value} {below : List Frame} {meth : Method} {c : Code} {H : Heap} {locs : List Loc} {cells slots : Nat} {free : Addr → Prop} {ls : Array Slot} {rest : List Value} {Qc : Array Value → State → Outcome → State → Prop} {XC : String → State → State → Prop}
    {pc : Nat} {own E : String} {ce : Cell} {q : Addr} {mc ms : Nat} (hown : s.vm.findClass own = some m.cls) (hlocks : meth.locks = false)
    (hpass : ∀ z ∈ c.exceptionTable.toList, covers z pc = false ∨ (z.catchType ≠ 0 ∧ ∃ nm : String, (Cond.classLink own z.catchType nm).before args s = true ∧ va_Nc E nm s)) (hcell : H[q]? = some ce) (hv : ce.vm = .none) (hcl : s.vm.findClass E = some ce.cls)
    (hx : ∀ t : State, t.heap = H → s.vm.Alike t.vm → XC E s t) (hf : ∀ z ∈ locs, free z.base) (hc : cells ≤ mc) (hs : slots ≤ ms) :
    vx_W p l e R s m args below meth c H locs cells slots (vx_MQ below Qc XC args s mc ms free) (F0 m pc ls rest) q := by
  intro T hT X
  have hpl : e.platform.magicAccessors = ({} : Platform).magicAccessors := by rw [X.admits.platform]
  obtain ⟨vm', hW', X', st⟩ := X.outThrough hlocks q (g := F0 m pc ls rest) rfl rfl rfl (cell := ce) (by rw [hT]; exact hcell) (by rw [hv]; rfl)
    (by obtain ⟨k9, h9, -⟩ := Vm.findClass_spec hcl; exact ⟨k9, h9⟩) (fun z hz => by
      rcases hpass z hz with h | ⟨hz0, nm, hl1, hn1⟩
      · exact Or.inl h
      · obtain ⟨c6, hc6, hcl6⟩ := Cond.classLink_spec hown hl1 e.platform hpl
        obtain ⟨a8, b8, h1, h2, h3⟩ := hn1
        cases Option.some.inj (h1.symm.trans hcl)
        cases Option.some.inj (h2.symm.trans hc6)
        exact Or.inr ⟨hz0, _, hcl6, h3⟩)
  obtain ⟨g₀, hfr⟩ := X'.frames_eq
  have hcell9 : ((T.setVm vm').setFrames (.throwing q :: below)).heap[q]? = some ce := by
    show T.heap[q]? = some ce
    rw [hT]; exact hcell
  have hend : Ended ((T.setVm vm').setFrames (.throwing q :: below)) below (.threw q) := State.frames_setFrames _ (State.cur_lt_of_frames hfr)
  refine ⟨(T.setVm vm').setFrames (.throwing q :: below), ?_, .threw q, X'.here.running, hend, Or.inr ⟨q, rfl, E, ce, locs, hx _ hT (X'.ends _).1.alike, hcell9, hv, hcl, (X'.ends _).1, (X'.ends _).2.mono hc hs, hf⟩⟩
  rw [X.pushThrowing_eq]
  exact st
/-- a thing of a world lies in the heap -/
theorem vx_lt {D : va_G} {cl : List vw_C} {ws : va_W} {H1 : Heap} (h : va_P D cl ws H1) {k : Nat} {q : Nat × va_E} (hk : ws[k]? = some q) : q.1 < H1.size := (h k q hk).lt
end VXS
/-! ===== END ===== -/
/-! ===== BEGIN methods with a table of their own: called by a name, returning or throwing ===== -/
section VXH
/-! vx_backW, vx_callVX, vx_callSX, vx_callVW, vx_runVW, vx_runVX, vx_runSX, vx_ofWH follow the same proofs as their sisters above (Free/Laws.lean, Shelf42/LK1.lean); vx_outP calls Shelf42/NT130.lean (outThrough). -/
section
variable {l : Launch} {R : Room} {p : Program} {e : Env} {below : List Frame} {s : State} {sargs : Array Value} {y : MethodName} {len W9 : Nat}
theorem vx_backW {ws : List Cond} {rm : Room} {Pc : Array Value → State → Prop} {Qc : Array Value → State → Outcome → State → Prop} {XC : String → State → State → Prop} {mc ms : Nat} {free : Addr → Prop} {bytes : ByteArray} {maxL : Nat} {ret : Option FieldType} {hh : List (Nat × Nat × Nat × Nat)}
    (hM : vx_Met l y ws rm Pc Qc XC mc ms free) (hblind : FrameBlind Pc) (hrc : rm.cells = mc) (hrs : rm.slots = ms)
    (hframes : rm.frames + 1 ≤ R.frames) (hlocals : W9 + (maxL + 11) + rm.locals ≤ R.locals)
    (hws : ∀ w ∈ ws, ∀ a' U, s.WarmedH U.vm → w.before a' U = true) (hcode : Cond.codeWith y bytes maxL ret hh ∈ ws) (hinit : ∀ a' U, s.WarmedH U.vm → (Cond.initialized y.cls).before a' U = true) :
    vx_Back l R p e below s sargs y len W9 (PreOf R mc ms Pc) (PostOf Qc mc ms free) (vx_Post XC mc ms free) := by
  intro m meth c A g ig mk a X hg hsize hdg hW hn hp
  have h1 : (headSpec ws rm).pre.before a A.U = true := atoms_intro fun w hw => hws w hw _ _ X.warmed
  have h2 : (Cond.codeWith y bytes maxL ret hh).before a A.U = true := hws _ hcode _ _ X.warmed
  have h3 : (Cond.initialized y.cls).before a A.U = true := hinit _ _ X.warmed
  have h4 : A.cells + (headSpec ws rm).room.cells ≤ R.cells := by rw [show (headSpec ws rm).room.cells = mc from hrc]; exact hp.1
  have h5 : A.slots + (headSpec ws rm).room.slots ≤ R.slots := by rw [show (headSpec ws rm).room.slots = ms from hrs]; exact hp.2.1
  have hPc : Pc a (A.U.calling g mk a) := hblind _ _ _ _ hp.2.2
  obtain ⟨U, Ls, c0, s0⟩ := A
  dsimp only [Pt.U, Pt.locs, Pt.cells, Pt.slots] at h1 h2 h3 h4 h5 X hn hPc ⊢
  obtain ⟨m9, methY, cY, hn9, hmY, hcY, -, hlY, -⟩ := Cond.codeWith_spec h2
  cases Option.some.inj (hn9.symm.trans hn)
  obtain ⟨kY, hkY, -⟩ := className_of_methodNamed hn
  have hinitY : kY.init = .initialized := Cond.initialized_spec (findClass_of_methodNamed hn) hkY h3
  have h : At U g.method c below := by rw [hg]; exact X.here
  have hlocals9 : W9 + (maxL + 11) + (headSpec ws rm).room.locals ≤ R.locals := hlocals
  have happ : (headSpec ws rm).appliesLoose y e.platform (U.calling g mk a) = true :=
    Spec.appliesLoose_calling (g := g) h hdg hn hkY hinitY
      (X.room_calling (g := g) (R' := (headSpec ws rm).room) hsize hmY hcY hframes (by rw [hlY]; omega) h4 h5) h1
  obtain ⟨mid, hmid⟩ := h.above
  have hfr : (U.setTop g).frames = (.java g :: mid) ++ below := by rw [State.frames_setTop' g h.top, hmid]; rfl
  obtain ⟨o, s₂, hsteps, -, hend, hq⟩ := Steps.callFree hM p X.admits X.cas X.clock (acts := []) hfr happ hPc trivial
  have hq' : vx_Q Qc XC mc ms free a (U.calling g mk a) o s₂ := hq
  rw [State.frames_setTop' g h.top] at hend
  obtain ⟨g₀, hg0⟩ := Option.isSome_iff_exists.mp h.top
  obtain ⟨r, hr⟩ := State.topJava?_eq_some.mp hg0
  have hr' : (({ U with heap := s₂.heap, slotsUsed := s₂.slotsUsed } : State).setVm s₂.vm).frames = .java g₀ :: r := hr
  rcases hq' with ⟨hqc, L, hfe, hL⟩ | ⟨q, rfl, E, ce, L, hx, hce, hcv, hcl, hW₂, hsm, hL⟩
  · obtain ⟨⟨v, rfl⟩, hW₂, e2, q2, q3, q4, q5, q6⟩ := id hfe
    have e3 : s₂ = ({ (U.calling g mk a).setFrames s₂.frames with heap := s₂.heap, slotsUsed := s₂.slotsUsed } : State).setVm s₂.vm := by
      have : s₂ = ({ s₂ with vm := (U.calling g mk a).vm } : State).setVm s₂.vm := rfl
      rw [e2] at this
      exact this
    obtain ⟨c₂, i₂, len₂, hc₂, hd₂, hf₂⟩ := hend
    have hW' : U.WarmedH s₂.vm := hW₂
    have hcc : c₂ = c := by
      have h1 : s₂.code? g.method = U.code? g.method := by
        rw [State.code?_eq, State.code?_eq, hW'.alike.method?]
      exact Option.some.inj (hc₂.symm.trans (h1.trans h.code))
    subst hcc
    have hlen : len₂ = len := by rw [hdg] at hd₂; cases hd₂; rfl
    subst hlen
    have hs₂ : s₂ = (({ U with heap := s₂.heap, slotsUsed := s₂.slotsUsed } : State).setVm s₂.vm).setTop { g with pc := g.pc + len₂, stack := v.toList ++ g.stack } := by
      refine e3.trans ?_
      rw [hf₂, State.calling_eq h.top, State.setFrames_setFrames, State.setTop_of_frames _ hr', hr]
      rfl
    have hsame : U.sameButNew ({ U with heap := s₂.heap, slotsUsed := s₂.slotsUsed } : State) L mc ms := by
      refine ⟨?_, q2, q3, q4, q5, q6⟩
      obtain ⟨t, ht, -⟩ := State.frames_cons hr
      show ({ U with heap := s₂.heap, slotsUsed := s₂.slotsUsed } : State) = { U.setFrames U.frames with heap := s₂.heap, slotsUsed := s₂.slotsUsed }
      rw [State.setFrames_self ht]
    subst hg
    refine Or.inl ⟨v, ⟨(({ U with heap := s₂.heap, slotsUsed := s₂.slotsUsed } : State).setVm s₂.vm), Ls ++ L, c0 + mc, s0 + ms⟩,
      ⟨X.admits, X.cas, X.clock, X.frames, X.room, X.hears, X.method, X.code, (X.here.setHeapUsed s₂.heap s₂.slotsUsed).setVm hW'.alike, X.tail, State.WarmedH.trans X.warmed hW', X.limits, X.bytes, X.same.trans (hsame.setVm s.vm)⟩,
      ⟨g, mk, s₂, L, rfl, rfl, hqc, rfl, hL, rfl, rfl⟩, ?_⟩
    show Steps p.tables e below _ ((({ U with heap := s₂.heap, slotsUsed := s₂.slotsUsed } : State).setVm s₂.vm).setTop { g with pc := g.pc + len₂, stack := v.toList ++ g.stack })
    rw [← hs₂]
    exact hsteps
  · obtain ⟨e2, q2, q3, q4, q5, q6⟩ := id hsm
    have e3 : s₂ = ({ (U.calling g mk a).setFrames s₂.frames with heap := s₂.heap, slotsUsed := s₂.slotsUsed } : State).setVm s₂.vm := by
      have : s₂ = ({ s₂ with vm := (U.calling g mk a).vm } : State).setVm s₂.vm := rfl
      rw [e2] at this
      exact this
    have hf₂ : s₂.frames = .throwing q :: .java g :: U.frames.tail := hend
    have hW' : U.WarmedH s₂.vm := hW₂
    have hs₂ : s₂ = ((({ U with heap := s₂.heap, slotsUsed := s₂.slotsUsed } : State).setVm s₂.vm).setTop g).pushFrame (.throwing q) := by
      refine e3.trans ?_
      rw [hf₂, State.calling_eq h.top, State.setFrames_setFrames, State.pushFrame, State.frames_setTop _ hr', State.setTop_of_frames _ hr', State.setFrames_setFrames, hr]
      rfl
    have hsame : U.sameButNew ({ U with heap := s₂.heap, slotsUsed := s₂.slotsUsed } : State) L mc ms := by
      refine ⟨?_, q2, q3, q4, q5, q6⟩
      obtain ⟨t, ht, -⟩ := State.frames_cons hr
      show ({ U with heap := s₂.heap, slotsUsed := s₂.slotsUsed } : State) = { U.setFrames U.frames with heap := s₂.heap, slotsUsed := s₂.slotsUsed }
      rw [State.setFrames_self ht]
    subst hg
    refine Or.inr ⟨q, ⟨(({ U with heap := s₂.heap, slotsUsed := s₂.slotsUsed } : State).setVm s₂.vm), Ls ++ L, c0 + mc, s0 + ms⟩,
      ⟨X.admits, X.cas, X.clock, X.frames, X.room, X.hears, X.method, X.code, (X.here.setHeapUsed s₂.heap s₂.slotsUsed).setVm hW'.alike, X.tail, State.WarmedH.trans X.warmed hW', X.limits, X.bytes, X.same.trans (hsame.setVm s.vm)⟩,
      ⟨g, mk, s₂, L, E, ce, rfl, rfl, hx, hce, hcv, hcl, rfl, hL, rfl, rfl⟩, ?_⟩
    show Steps p.tables e below _ (((({ U with heap := s₂.heap, slotsUsed := s₂.slotsUsed } : State).setVm s₂.vm).setTop g).pushFrame (.throwing q))
    rw [← hs₂]
    exact hsteps
end
variable {p : Program} {l : Launch} {e : Env} {R : Room} {s : State} {m : MethodId} {args : Array Value} {below : List Frame} {meth : Method} {c : Code} {T : State} {H : Heap} {locs : List Loc} {cells slots : Nat}
theorem vx_callVX (X : Stand p l e R s m args below meth c T locs cells slots) (hexec : p.tables.exec = Jvm.exec) {own C : String} {index : Nat} {y : MethodName} {bytes : ByteArray} {maxL : Nat} {ret : Option FieldType} {hh : List (Nat × Nat × Nat × Nat)}
    (hown : s.vm.findClass own = some m.cls) (hlink : (Cond.methodLink own index y).before args s = true) (hinst : (Cond.instanceMethod y).before args s = true) (hsel : (Cond.selects C y y).before args s = true)
    (hcode : (Cond.codeWith y bytes maxL ret hh).before args s = true) (hy : y.cls ≠ "java/lang/invoke/MethodHandle" ∧ y.cls ≠ "java/lang/invoke/VarHandle")
    {W9 : Nat} {Pre : Pt → Array Value → Prop} {Post : Pt → Array Value → Option Value → Pt → Prop} {PostX : Pt → Array Value → Addr → Pt → Prop} (hK : vx_Back l R p e below s args y 3 W9 Pre Post PostX)
    {b : Addr} {cellB : Cell} (hcell : T.heap[b]? = some cellB) (hobj : cellB.vm.isStatics = false) (hcls : s.vm.findClass C = some cellB.cls)
    {g : JFrame} (hg : g.method = m) (hsize : g.locals.size = c.maxLocals) {argsL rest : List Value} (hlen : ∀ sig, parseMethodDescriptor y.desc = some sig → argsL.length = sig.parameters.length)
    (hstack : g.stack = argsL.reverse ++ .ref b :: rest) (hW : 2 * g.monitorRoom + (rest.map fun v => v.category).sum ≤ W9) (hdg : decode c.code g.pc = .ok (.invokevirtual index, 3))
    (hpre : ∀ vm₁, s.WarmedH vm₁ → Pre ⟨T.setVm vm₁, locs, cells, slots⟩ (Value.ref b :: argsL).toArray) :
    (∃ (v : Option Value) (vm₁ : Vm) (B : Pt), s.WarmedH vm₁ ∧ Stand p l e R s m args below meth c B.U B.locs B.cells B.slots ∧ Post ⟨T.setVm vm₁, locs, cells, slots⟩ (Value.ref b :: argsL).toArray v B ∧
      ∀ target, Steps p.tables e below (B.U.setTop { g with pc := g.pc + 3, stack := v.toList ++ rest }) target → Steps p.tables e below (T.setTop g) target) ∨
    (∃ (q : Addr) (vm₁ : Vm) (B : Pt), s.WarmedH vm₁ ∧ Stand p l e R s m args below meth c B.U B.locs B.cells B.slots ∧ PostX ⟨T.setVm vm₁, locs, cells, slots⟩ (Value.ref b :: argsL).toArray q B ∧
      Steps p.tables e below (T.setTop g) ((B.U.setTop { g with stack := rest }).pushFrame (.throwing q))) := by
  obtain ⟨mk, methM, hnamed, hmethM, hstM, habM⟩ := Cond.instanceMethod_spec hinst
  obtain ⟨m8, methM', cM, hn8, hmethM', -, -, -, -, -, -, hsigM⟩ := Cond.codeWith_spec hcode
  cases Option.some.inj (hn8.symm.trans hnamed)
  cases hmethM.symm.trans hmethM'
  obtain ⟨c2, r2, m2, q1, q2, q3, q4, kP, hkP, hkPi⟩ := Cond.selects_spec hsel
  cases hcls.symm.trans q1
  cases (State.methodFound?_of_named hnamed hy).symm.trans q2
  cases hnamed.symm.trans q3
  have hselP : selectMethod e.platform s.vm cellB.cls mk = .method mk := by rw [Launch.admits_selectMethod X.admits]; exact q4
  obtain ⟨vm₁, X₁, hstep₁⟩ := X.invokevirtual hexec hown hlink hnamed hmethM hstM hkP hkPi hy (a := b) (cell := cellB) hcell
    (fun z h => by rw [h] at hobj; cases hobj) hselP hmethM habM hkP hkPi (g := g) hg (argsL := argsL) (rest := rest) (hlen _ hsigM) hstack hdg
  rcases hK m meth c ⟨T.setVm vm₁, locs, cells, slots⟩ { g with stack := rest } (.invokevirtual index) mk (Value.ref b :: argsL).toArray X₁ hg hsize hdg hW (X₁.named hnamed) (hpre vm₁ X₁.warmed) with ⟨v, B, X', hpost, hsteps⟩ | ⟨q, B, X', hpost, hsteps⟩
  · exact Or.inl ⟨v, vm₁, B, X₁.warmed, X', hpost, fun target h => hstep₁ _ fun acts => by rw [doInvoke_state]; exact hsteps.trans h⟩
  · exact Or.inr ⟨q, vm₁, B, X₁.warmed, X', hpost, hstep₁ _ fun acts => by rw [doInvoke_state]; exact hsteps⟩
theorem vx_callSX (X : Stand p l e R s m args below meth c T locs cells slots) (hexec : p.tables.exec = Jvm.exec) {own : String} {index : Nat} {y : MethodName} {bytes : ByteArray} {maxL : Nat} {ret : Option FieldType} {hh : List (Nat × Nat × Nat × Nat)}
    (hown : s.vm.findClass own = some m.cls) (hlink : (Cond.methodLink own index y).before args s = true) (hstat : (Cond.static y).before args s = true) (hinit : (Cond.initialized y.cls).before args s = true)
    (hcode : (Cond.codeWith y bytes maxL ret hh).before args s = true) (hy : y.cls ≠ "java/lang/invoke/MethodHandle" ∧ y.cls ≠ "java/lang/invoke/VarHandle")
    {W9 : Nat} {Pre : Pt → Array Value → Prop} {Post : Pt → Array Value → Option Value → Pt → Prop} {PostX : Pt → Array Value → Addr → Pt → Prop} (hK : vx_Back l R p e below s args y 3 W9 Pre Post PostX)
    {g : JFrame} (hg : g.method = m) (hsize : g.locals.size = c.maxLocals) {argsL rest : List Value} (hlen : ∀ sig, parseMethodDescriptor y.desc = some sig → argsL.length = sig.parameters.length)
    (hstack : g.stack = argsL.reverse ++ rest) (hW : 2 * g.monitorRoom + (rest.map fun v => v.category).sum ≤ W9) (hdg : decode c.code g.pc = .ok (.invokestatic index, 3))
    (hpre : ∀ vm₁, s.WarmedH vm₁ → Pre ⟨T.setVm vm₁, locs, cells, slots⟩ argsL.toArray) :
    (∃ (v : Option Value) (vm₁ : Vm) (B : Pt), s.WarmedH vm₁ ∧ Stand p l e R s m args below meth c B.U B.locs B.cells B.slots ∧ Post ⟨T.setVm vm₁, locs, cells, slots⟩ argsL.toArray v B ∧
      ∀ target, Steps p.tables e below (B.U.setTop { g with pc := g.pc + 3, stack := v.toList ++ rest }) target → Steps p.tables e below (T.setTop g) target) ∨
    (∃ (q : Addr) (vm₁ : Vm) (B : Pt), s.WarmedH vm₁ ∧ Stand p l e R s m args below meth c B.U B.locs B.cells B.slots ∧ PostX ⟨T.setVm vm₁, locs, cells, slots⟩ argsL.toArray q B ∧
      Steps p.tables e below (T.setTop g) ((B.U.setTop { g with stack := rest }).pushFrame (.throwing q))) := by
  obtain ⟨mk, methM, cM, hnamed, hmethM, -, -, -, -, -, -, hsigM⟩ := Cond.codeWith_spec hcode
  have hstatic : methM.isStatic = true := Cond.static_spec hnamed hmethM hstat
  obtain ⟨kP, hkP, -⟩ := className_of_methodNamed hnamed
  have hinitP : kP.init = .initialized := Cond.initialized_spec (findClass_of_methodNamed hnamed) hkP hinit
  obtain ⟨vm₁, X₁, hstep₁⟩ := X.invokestatic hexec hown hlink hnamed hmethM hstatic hkP hinitP hy (g := g) hg (argsL := argsL) (rest := rest) (hlen _ hsigM) hstack hdg
  rcases hK m meth c ⟨T.setVm vm₁, locs, cells, slots⟩ { g with stack := rest } (.invokestatic index) mk argsL.toArray X₁ hg hsize hdg hW (X₁.named hnamed) (hpre vm₁ X₁.warmed) with ⟨v, B, X', hpost, hsteps⟩ | ⟨q, B, X', hpost, hsteps⟩
  · exact Or.inl ⟨v, vm₁, B, X₁.warmed, X', hpost, fun target h => hstep₁ _ fun acts => by rw [doInvoke_state]; exact hsteps.trans h⟩
  · exact Or.inr ⟨q, vm₁, B, X₁.warmed, X', hpost, hstep₁ _ fun acts => by rw [doInvoke_state]; exact hsteps⟩
theorem vx_callVW (X : Stand p l e R s m args below meth c T locs cells slots) (hexec : p.tables.exec = Jvm.exec) {own C : String} {index : Nat} {y : MethodName} {bytes : ByteArray} {maxL : Nat} {ret : Option FieldType} {hh : List (Nat × Nat × Nat × Nat)}
    (hown : s.vm.findClass own = some m.cls) (hlink : (Cond.methodLink own index y).before args s = true) (hinst : (Cond.instanceMethod y).before args s = true) (hsel : (Cond.selects C y y).before args s = true)
    (hcode : (Cond.codeWith y bytes maxL ret hh).before args s = true) (hy : y.cls ≠ "java/lang/invoke/MethodHandle" ∧ y.cls ≠ "java/lang/invoke/VarHandle")
    {W9 : Nat} {Pre : Pt → Array Value → Prop} {Post : Pt → Array Value → Option Value → Pt → Prop} (hK : Back l R p e below s args y 3 W9 Pre Post)
    {b : Addr} {cellB : Cell} (hcell : T.heap[b]? = some cellB) (hobj : cellB.vm.isStatics = false) (hcls : s.vm.findClass C = some cellB.cls)
    {g : JFrame} (hg : g.method = m) (hsize : g.locals.size = c.maxLocals) {argsL rest : List Value} (hlen : ∀ sig, parseMethodDescriptor y.desc = some sig → argsL.length = sig.parameters.length)
    (hstack : g.stack = argsL.reverse ++ .ref b :: rest) (hW : 2 * g.monitorRoom + (rest.map fun v => v.category).sum ≤ W9) (hdg : decode c.code g.pc = .ok (.invokevirtual index, 3))
    (hpre : ∀ vm₁, s.WarmedH vm₁ → Pre ⟨T.setVm vm₁, locs, cells, slots⟩ (Value.ref b :: argsL).toArray) :
    ∃ (v : Option Value) (vm₁ : Vm) (B : Pt), s.WarmedH vm₁ ∧ Stand p l e R s m args below meth c B.U B.locs B.cells B.slots ∧ Post ⟨T.setVm vm₁, locs, cells, slots⟩ (Value.ref b :: argsL).toArray v B ∧
      ∀ target, Steps p.tables e below (B.U.setTop { g with pc := g.pc + 3, stack := v.toList ++ rest }) target → Steps p.tables e below (T.setTop g) target := by
  obtain ⟨mk, methM, hnamed, hmethM, hstM, habM⟩ := Cond.instanceMethod_spec hinst
  obtain ⟨m8, methM', cM, hn8, hmethM', -, -, -, -, -, -, hsigM⟩ := Cond.codeWith_spec hcode
  cases Option.some.inj (hn8.symm.trans hnamed)
  cases hmethM.symm.trans hmethM'
  obtain ⟨c2, r2, m2, q1, q2, q3, q4, kP, hkP, hkPi⟩ := Cond.selects_spec hsel
  cases hcls.symm.trans q1
  cases (State.methodFound?_of_named hnamed hy).symm.trans q2
  cases hnamed.symm.trans q3
  have hselP : selectMethod e.platform s.vm cellB.cls mk = .method mk := by rw [Launch.admits_selectMethod X.admits]; exact q4
  obtain ⟨vm₁, X₁, hstep₁⟩ := X.invokevirtual hexec hown hlink hnamed hmethM hstM hkP hkPi hy (a := b) (cell := cellB) hcell
    (fun z h => by rw [h] at hobj; cases hobj) hselP hmethM habM hkP hkPi (g := g) hg (argsL := argsL) (rest := rest) (hlen _ hsigM) hstack hdg
  obtain ⟨v, B, X', hpost, hsteps⟩ := hK m meth c ⟨T.setVm vm₁, locs, cells, slots⟩ { g with stack := rest } (.invokevirtual index) mk (Value.ref b :: argsL).toArray X₁ hg hsize hdg hW (X₁.named hnamed) (hpre vm₁ X₁.warmed)
  exact ⟨v, vm₁, B, X₁.warmed, X', hpost, fun target h => hstep₁ _ fun acts => by rw [doInvoke_state]; exact hsteps.trans h⟩
abbrev vx_CVW (R : Room) (s : State) (args : Array Value) (own C : String) (index : Nat) (y : MethodName) (bytes : ByteArray) (maxL : Nat) (ret : Option FieldType) (hh : List (Nat × Nat × Nat × Nat)) (ws : List Cond) (rm : Room) (mc ms n : Nat) : Prop :=
  (rm.cells = mc ∧ rm.slots = ms ∧ rm.frames + 1 ≤ R.frames ∧ 8 + (maxL + 11) + rm.locals ≤ R.locals ∧ (∀ w ∈ ws, ∀ (a' : Array Value) (U : State), s.WarmedH U.vm → w.before a' U = true) ∧ Cond.codeWith y bytes maxL ret hh ∈ ws) ∧
  (Cond.codeWith y bytes maxL ret hh).before args s = true ∧ (Cond.initialized y.cls).before args s = true ∧ (y.cls ≠ "java/lang/invoke/MethodHandle" ∧ y.cls ≠ "java/lang/invoke/VarHandle") ∧
  (∀ sig, parseMethodDescriptor y.desc = some sig → n = sig.parameters.length) ∧ (Cond.methodLink own index y).before args s = true ∧ (Cond.instanceMethod y).before args s = true ∧ (Cond.selects C y y).before args s = true
theorem vx_cwVW {own C : String} {index maxL mc ms : Nat} {y : MethodName} {bytes : ByteArray} {ret : Option FieldType} {hh : List (Nat × Nat × Nat × Nat)} {Ts ws ws' : List Cond} {rm : Room} (n : Nat) (ht : ∀ w ∈ Ts, w.before args s = true) (hT : GoodIn Ts (wsV own index C y ws)) (hw : ws = Cond.codeWith y bytes maxL ret hh :: ws') (hrc : rm.cells = mc) (hrs : rm.slots = ms)
    (hd : y.cls = C ∧ y.cls ≠ "java/lang/invoke/MethodHandle" ∧ y.cls ≠ "java/lang/invoke/VarHandle" ∧ (parseMethodDescriptor y.desc).map (fun d => d.parameters.length) = some n) (hR : rm.frames + 1 ≤ R.frames ∧ 8 + (maxL + 11) + rm.locals ≤ R.locals) :
    vx_CVW R s args own C index y bytes maxL ret hh ws rm mc ms n := by
  obtain ⟨hC, hd⟩ := hd
  subst hC
  have ok : ∀ w ∈ wsV own index y.cls y ws, w.before args s = true := fun w h => ht w (hT w h).1
  have hG : GoodIn Ts ws := fun w h => hT w (by unfold wsV; exact List.mem_append_right _ h)
  have hc : Cond.codeWith y bytes maxL ret hh ∈ ws := by rw [hw]; exact List.mem_cons_self
  refine ⟨⟨hrc, hrs, hR.1, hR.2, pay_in ht hG, hc⟩, ht _ (hG _ hc).1, ok _ (by simp [wsV]), ⟨hd.1, hd.2.1⟩, fun sig h => ?_, ok _ (by simp [wsV]), ok _ (by simp [wsV]), ok _ (by simp [wsV])⟩
  have h2 := hd.2.2
  rw [h] at h2
  exact (Option.some.inj h2).symm
theorem vx_runVW {y : MethodName} {bytes cc : ByteArray} {maxL nL mc ms n index : Nat} {ret : Option FieldType} {hh : List (Nat × Nat × Nat × Nat)} {ws : List Cond} {rm : Room} {Pc : Array Value → State → Prop} {Qc : Array Value → State → Outcome → State → Prop} {free : Addr → Prop} {Ts : List Cond} {own C : String} {b : Addr} {As rest : List Value} {g : JFrame}
    (S : CallFix p m c cc nL s args Ts own) (hM : Met l y ws rm Pc Qc mc ms free) (cw : vx_CVW R s args own C index y bytes maxL ret hh ws rm mc ms n) (hp : PreV s H C b Pc As)
    (hg : g.method = m) (hn : As.length = n) (hsize : g.locals.size = nL) (hstack : g.stack = As.reverse ++ .ref b :: rest) (hW : 2 * g.monitorRoom + (rest.map fun v => v.category).sum ≤ 8) (hdg : decode cc g.pc = .ok (.invokevirtual index, 3)) (hf : cells + mc ≤ R.cells ∧ slots + ms ≤ R.slots) :
    va_Run p l e R s m args below meth c H locs cells slots mc ms g rest (Qc (Value.ref b :: As).toArray) free := by
  obtain ⟨⟨hrc, hrs, hfr, hlo, hws, hcw⟩, hcode, hini, hy, hlen, hl, hin, hse⟩ := cw
  have hK : Back l R p e below s args y 3 8 (PreOf R mc ms Pc) (PostOf Qc mc ms free) := va_backW (hh := hh) (bytes := bytes) (maxL := maxL) (ret := ret) hM hp.1 hrc hrs hfr hlo hws hcw (fun a' U hW => word_at hW (Or.inl (by first | rfl | simp [Cond.onTables, Cond.keeps, Cond.steady])) hini)
  obtain ⟨hx, hb, hml, ho, -⟩ := S
  obtain ⟨-, ⟨cellB, hcB, hoB, hclB⟩, hPc⟩ := hp
  intro T hT X
  obtain ⟨v, vm₁, ⟨U', l2, c2, s2⟩, hW₁, X', ⟨g', mk, t, L, e1, e2, hq, h1, hL, h2, h3⟩, st⟩ := vx_callVW X hx (C := C) (hh := hh) (bytes := bytes) (maxL := maxL) (ret := ret) ho hl hin hse hcode hy hK (by rw [hT]; exact hcB) hoB hclB hg (hsize.trans hml.symm) (argsL := As) (rest := rest) (fun sig h => hn.trans (hlen sig h)) hstack hW (by rw [hb]; exact hdg)
    (fun vm₁ hW₁ => ⟨hf.1, hf.2, hPc (T.setVm vm₁) hT hW₁⟩)
  dsimp only [Pt.U, Pt.locs, Pt.cells, Pt.slots] at X' e1 e2 h1 h2 h3 st
  subst h1; subst h2; subst h3
  exact ⟨v, (T.setVm vm₁).calling g' mk (Value.ref b :: As).toArray, t, U', L, hT, X', hL, e1, e2, hq, st⟩
section
variable {y : MethodName} {bytes cc : ByteArray} {maxL nL mc ms n index : Nat} {ret : Option FieldType} {ws : List Cond} {rm : Room} {Pc : Array Value → State → Prop} {Qc : Array Value → State → Outcome → State → Prop} {XC : String → State → State → Prop} {free : Addr → Prop} {Ts : List Cond} {own C : String} {b : Addr} {As rest : List Value} {g : JFrame}
theorem vx_runVX {hh : List (Nat × Nat × Nat × Nat)} (S : CallFix p m c cc nL s args Ts own) (hM : vx_Met l y ws rm Pc Qc XC mc ms free) (cw : vx_CVW R s args own C index y bytes maxL ret hh ws rm mc ms n) (hp : PreV s H C b Pc As)
    (hg : g.method = m) (hn : As.length = n) (hsize : g.locals.size = nL) (hstack : g.stack = As.reverse ++ .ref b :: rest) (hW : 2 * g.monitorRoom + (rest.map fun v => v.category).sum ≤ 8) (hdg : decode cc g.pc = .ok (.invokevirtual index, 3)) (hf : cells + mc ≤ R.cells ∧ slots + ms ≤ R.slots) :
    vx_Run p l e R s m args below meth c H locs cells slots mc ms g rest (Qc (Value.ref b :: As).toArray) XC free := by
  obtain ⟨⟨hrc, hrs, hfr, hlo, hws, hcw⟩, hcode, hini, hy, hlen, hl, hin, hse⟩ := cw
  have hK : vx_Back l R p e below s args y 3 8 (PreOf R mc ms Pc) (PostOf Qc mc ms free) (vx_Post XC mc ms free) := vx_backW (hh := hh) (bytes := bytes) (maxL := maxL) (ret := ret) hM hp.1 hrc hrs hfr hlo hws hcw (fun a' U hW => word_at hW (Or.inl (by first | rfl | simp [Cond.onTables, Cond.keeps, Cond.steady])) hini)
  obtain ⟨hx, hb, hml, ho, -⟩ := S
  obtain ⟨-, ⟨cellB, hcB, hoB, hclB⟩, hPc⟩ := hp
  intro T hT X
  rcases vx_callVX X hx (C := C) (hh := hh) (bytes := bytes) (maxL := maxL) (ret := ret) ho hl hin hse hcode hy hK (by rw [hT]; exact hcB) hoB hclB hg (hsize.trans hml.symm) (argsL := As) (rest := rest) (fun sig h => hn.trans (hlen sig h)) hstack hW (by rw [hb]; exact hdg)
    (fun vm₁ hW₁ => ⟨hf.1, hf.2, hPc (T.setVm vm₁) hT hW₁⟩) with ⟨v, vm₁, ⟨U', l2, c2, s2⟩, hW₁, X', ⟨g', mk, t, L, e1, e2, hq, h1, hL, h2, h3⟩, st⟩ | ⟨q, vm₁, ⟨U', l2, c2, s2⟩, hW₁, X', ⟨g', mk, t, L, E, ce, e1, e2, hq, hce, hcv, hcl, h1, hL, h2, h3⟩, st⟩
  · dsimp only [Pt.U, Pt.locs, Pt.cells, Pt.slots] at X' e1 e2 h1 h2 h3 st
    subst h1; subst h2; subst h3
    exact Or.inl ⟨v, (T.setVm vm₁).calling g' mk (Value.ref b :: As).toArray, t, U', L, hT, X', hL, e1, e2, hq, st⟩
  · dsimp only [Pt.U, Pt.locs, Pt.cells, Pt.slots] at X' e1 e2 h1 h2 h3 st hcl
    subst h1; subst h2; subst h3
    exact Or.inr ⟨q, (T.setVm vm₁).calling g' mk (Value.ref b :: As).toArray, t, U', L, E, ce, hT, X', hL, e1, e2, hq, hce, hcv, vx_cls hW₁ hcl, st⟩
theorem vx_runSX {hh : List (Nat × Nat × Nat × Nat)} (S : CallFix p m c cc nL s args Ts own) (hM : vx_Met l y ws rm Pc Qc XC mc ms free) (cw : vx_CSW R s args own index y bytes maxL ret hh ws rm mc ms n) (hp : PreS s H Pc As)
    (hg : g.method = m) (hn : As.length = n) (hsize : g.locals.size = nL) (hstack : g.stack = As.reverse ++ rest) (hW : 2 * g.monitorRoom + (rest.map fun v => v.category).sum ≤ 8) (hdg : decode cc g.pc = .ok (.invokestatic index, 3)) (hf : cells + mc ≤ R.cells ∧ slots + ms ≤ R.slots) :
    vx_Run p l e R s m args below meth c H locs cells slots mc ms g rest (Qc As.toArray) XC free := by
  obtain ⟨⟨hrc, hrs, hfr, hlo, hws, hcw⟩, hcode, hini, hy, hlen, hl, hstt⟩ := cw
  have hK : vx_Back l R p e below s args y 3 8 (PreOf R mc ms Pc) (PostOf Qc mc ms free) (vx_Post XC mc ms free) := vx_backW (hh := hh) (bytes := bytes) (maxL := maxL) (ret := ret) hM hp.1 hrc hrs hfr hlo hws hcw (fun a' U hW => word_at hW (Or.inl (by first | rfl | simp [Cond.onTables, Cond.keeps, Cond.steady])) hini)
  obtain ⟨hx, hb, hml, ho, -⟩ := S
  intro T hT X
  rcases vx_callSX X hx (hh := hh) (bytes := bytes) (maxL := maxL) (ret := ret) ho hl hstt hini hcode hy hK hg (hsize.trans hml.symm) (argsL := As) (rest := rest) (fun sig h => hn.trans (hlen sig h)) hstack hW (by rw [hb]; exact hdg)
    (fun vm₁ hW₁ => ⟨hf.1, hf.2, hp.2 (T.setVm vm₁) hT hW₁⟩) with ⟨v, vm₁, ⟨U', l2, c2, s2⟩, hW₁, X', ⟨g', mk, t, L, e1, e2, hq, h1, hL, h2, h3⟩, st⟩ | ⟨q, vm₁, ⟨U', l2, c2, s2⟩, hW₁, X', ⟨g', mk, t, L, E, ce, e1, e2, hq, hce, hcv, hcl, h1, hL, h2, h3⟩, st⟩
  · dsimp only [Pt.U, Pt.locs, Pt.cells, Pt.slots] at X' e1 e2 h1 h2 h3 st
    subst h1; subst h2; subst h3
    exact Or.inl ⟨v, (T.setVm vm₁).calling g' mk As.toArray, t, U', L, hT, X', hL, e1, e2, hq, st⟩
  · dsimp only [Pt.U, Pt.locs, Pt.cells, Pt.slots] at X' e1 e2 h1 h2 h3 st hcl
    subst h1; subst h2; subst h3
    exact Or.inr ⟨q, (T.setVm vm₁).calling g' mk As.toArray, t, U', L, E, ce, hT, X', hL, e1, e2, hq, hce, hcv, vx_cls hW₁ hcl, st⟩
end
end VXH
theorem vx_ofWH {l : Launch} {y : MethodName} {ws ws' : List Cond} {rm : Room} {Pc : Array Value → State → Prop} {Qc : Array Value → State → Outcome → State → Prop} {XC : String → State → State → Prop} {mc ms : Nat} {free : Addr → Prop} {cc : ByteArray} {maxL : Nat} {ret : Option FieldType} {hh : List (Nat × Nat × Nat × Nat)}
    (hy : plainName y.cls = true) (hw : ws = Cond.codeWith y cc maxL ret hh :: ws')
    (body : ∀ p e s m args below meth c s₁, BodyLoose p l y (headSpec ws rm) cc maxL ret e s m args below meth c s₁ → c.maxLocals = maxL → Pc args s →
      W p l e (headSpec ws rm).room s m args below meth c s.heap [] 0 0 (vx_MQ below Qc XC args s mc ms free) (entryFrame m args maxL)) : vx_Met l y ws rm Pc Qc XC mc ms free := by
  refine MetFree.of_bodyS (code := cc) (maxLocals := maxL) (ret := ret) hy ?_ ?_
  · intro args s m h hn
    obtain ⟨m9, meth, c, hn9, h1, h2, h3, h4, -, h5, h6, -⟩ := Cond.codeWith_spec (atoms_spec (ws := ws) h _ (by rw [hw]; exact List.mem_cons_self))
    cases hn.symm.trans hn9
    exact ⟨meth, c, h1, h2, h3, h4, h5, h6⟩
  · intro p e s m args below meth c s₁ B hml hP _
    have hh0 : s₁.heap = s.heap := by rw [B.state]; rfl
    obtain ⟨t, a1, o, b1, b2, b3⟩ := body p e s m args below meth c s₁ B hml hP s₁ hh0 (Stand.of_body B)
    exact ⟨t, o, a1, b1, b2, b3⟩
/-! ===== END ===== -/

/-! ===== BEGIN what the machine throws by itself, no traces kept ===== -/
section VXM
set_option maxHeartbeats 1000000 in
/-- the machine throws cls with the message text, no traces kept: from its note over the frame g to 'throwing' over the same frame (follows the proofs of Stand.vmThrowsMessage, Shelf/KitTracedVmS.lean, and Stand.throwsMessageColdBareV, StandMessageColdV.lean, without the step out of the frame) -/
theorem vx_vmAt {p : Program} {l : Launch} {e : Env} {R : Room} {s : State} {m₀ : MethodId} {args : Array Value} {below : List Frame} {meth : Method} {c : Code} {W : State} {locs : List Loc} {cells slots : Nat}
    (X : Stand p l e R s m₀ args below meth c W locs cells slots) (hexec : p.tables.exec = Jvm.exec) (htr : e.platform.stackTraces = false) {cls : String} {names : List String} {text : String}
    (hcls : Bundle.fit cls = true) (hnames : ∀ n ∈ names, Bundle.fit n = true) (hsoe : (cls == "java/lang/StackOverflowError") = false) (hoom : (cls == "java/lang/OutOfMemoryError") = false)
    (h : ∀ a ∈ Bundle.messageArmAtoms cls names, a.before args s = true)
    (hlocs : ∀ x ∈ locs, ∀ cell, s.heap[x.base]? = some cell → cell.vm.isStatics = false)
    (htext : (text == notModelled) = false) (hlimit : ¬ (stringBytes (stringToUtf16 text)).size > e.platform.arrayLengthLimit) (hheap : ¬ (stringBytes (stringToUtf16 text)).size * componentBytes .byte > e.platform.maxHeapBytes)
    {g : JFrame} (hg : g.method = m₀) (hsize : g.locals.size = c.maxLocals)
    (hRframes : names.length + 4 < R.frames) (hRlocals : 2 * g.monitorRoom + (g.stack.map fun v => v.category).sum + 10240 ≤ R.locals) (hshort : 13 * names.length + 55 ≤ 10240)
    (hRcells : cells + 3 ≤ R.cells) (hRslots : slots + ((stringBytes (stringToUtf16 text)).size + 4 + 6) ≤ R.slots) (hlocks : meth.locks = false) :
    ∃ (S : State) (q : Addr) (ce : Cell), (∀ target, Steps p.tables e below ((S.setTop g).pushFrame (.throwing q)) target → Steps p.tables e below ((W.setTop g).pushFrame (.throwNew cls (some text) none)) target) ∧
      Stand p l e R s m₀ args below meth c S locs (cells + 3) (slots + ((stringBytes (stringToUtf16 text)).size + 4 + 6)) ∧ S.heap[q]? = some ce ∧ s.vm.findClass cls = some ce.cls ∧ ce.vm = .none := by
  have howns : e.platform.frameOwnsMonitors = true := by rw [X.admits.platform]
  have hfin : e.platform.finalization = false := by rw [X.admits.platform]
  have hpl : e.platform.magicAccessors = ({} : Platform).magicAccessors := by rw [X.admits.platform]
  have a : ∀ x, x ∈ Bundle.messageArmAtoms cls names → x.holds args s none s [] = true := fun x hx => h x hx
  obtain ⟨T, Z0, L, -, Y⟩ := ThrowableC.of_atoms (args := args) howns hfin hpl (fun x hx => h x (by simp [Bundle.messageArmAtoms, hx]))
  obtain ⟨Z, M, LZ, LM, hnZ⟩ := Init0T.ofS_atoms (args := args) hpl L Y (fun x hx => h x (by simp [Bundle.messageArmAtoms, hx]))
  obtain ⟨P1, Ps, hlen, L1, hL, hP1m, hlink1, hlink⟩ := Bundle.chainS (args := args) hpl hnZ names cls hcls hnames (fun x hx => h x (by simp [Bundle.messageArmAtoms, hx]))
  obtain ⟨Zs, LZs, hn4, hfitv, hfitc⟩ := StringT.of_atoms (args := args) (fun x hx => h x (by simp [Bundle.messageArmAtoms, hx]))
  have hfound : s.vm.findClass cls = some P1.m.cls := findClass_of_methodNamed hP1m
  obtain ⟨c1, kX, hc1, hk, hord, -, -, hn6⟩ := Cond.instantiable_spec (a (.instantiable cls 6) (by simp [Bundle.messageArmAtoms]))
  cases Option.some.inj (hc1.symm.trans hfound)
  have hinit := Cond.initialized_spec hfound hk (a (.initialized cls) (by simp [Bundle.messageArmAtoms]))
  have hctor : kX.findMethod "<init>" "(Ljava/lang/String;)V" = some P1.m.idx := findMethod_of_methodNamed hP1m hk
  have hsel0 : selectMethod e.platform s.vm P1.m.cls T.fill0 = .method T.fill0 := by
    obtain ⟨c2, r2, m2, q1, q2, q3, q4, -⟩ := Cond.selects_spec (a (.selects cls Bundle.tFill0 Bundle.tFill0) (by simp [Bundle.messageArmAtoms]))
    cases Option.some.inj (q1.symm.trans hfound)
    cases Option.some.inj (q2.symm.trans (State.methodFound?_of_named Y.fill0 (by decide)))
    cases Option.some.inj (q3.symm.trans Y.fill0)
    rw [Launch.admits_selectMethod X.admits]; exact q4
  have hselF : selectMethod e.platform s.vm P1.m.cls T.fill = .method T.fill := by
    obtain ⟨c2, r2, m2, q1, q2, q3, q4, -⟩ := Cond.selects_spec (a (.selects cls Bundle.tFill Bundle.tFill) (by simp [Bundle.messageArmAtoms]))
    cases Option.some.inj (q1.symm.trans hfound)
    cases Option.some.inj (q2.symm.trans (State.methodFound?_of_named Y.fill (by decide)))
    cases Option.some.inj (q3.symm.trans Y.fill)
    rw [Launch.admits_selectMethod X.admits]; exact q4
  obtain ⟨cellS0, hcS0, hiss⟩ := Y.statics
  obtain ⟨u0, hu0⟩ := Cond.staticRefV Y.unassigned L.unassignedStatic L.statics hcS0 hiss (a (.isRef (.static Bundle.tN "UNASSIGNED_STACK" Bundle.steD)) (by simp [Bundle.messageArmAtoms]))
  obtain ⟨sen, hsen⟩ := Cond.staticRefV Y.sentinel L.sentinelStatic L.statics hcS0 hiss (a (.isRef (.static Bundle.tN "SUPPRESSED_SENTINEL" Bundle.listD)) (by simp [Bundle.messageArmAtoms]))
  obtain ⟨ci198, i198, fB, hk198, hg198, ha198, hsB, -, hnB, htB, hffB⟩ := Cond.ownField (t := .object "java/lang/Object") Y.found L.cls (by decide +kernel) (a (.fieldLink Bundle.tN 198 Bundle.tN "backtrace" "Ljava/lang/Object;") (by simp [Bundle.messageArmAtoms])) (a (.lays Bundle.tN Bundle.tN "backtrace" "Ljava/lang/Object;") (by simp [Bundle.messageArmAtoms])) e.platform hpl
  obtain ⟨cellS, hcS', heS, -, hkeep⟩ := X.same.2.2.2.2.2 T.aS cellS0 hcS0
  have hcellS : W.heap[T.aS]? = some cellS := hcS'
  have hout' : ∀ i, (⟨T.aS, i⟩ : Loc) ∉ locs := fun i hmem => by
    have := hlocs _ hmem cellS0 hcS0
    rw [hiss] at this; cases this
  have hknownS : cellS.vm ≠ .unknown := by
    rw [heS]; intro hu
    rw [show cellS0.vm = .unknown from hu] at hiss
    cases hiss
  have hvU : cellS.slots[T.fUnassigned.slot]? = some u0.v := by rw [hkeep _ (hout' _)]; exact hu0
  have hvSen : cellS.slots[T.fSentinel.slot]? = some sen.v := by rw [hkeep _ (hout' _)]; exact hsen
  obtain ⟨iM, hffM⟩ := Y.msg
  obtain ⟨tyC, dC, hdC, hdnC⟩ := Cond.laysAt hfound hk Y.cause (a (.lays cls Bundle.tN "cause" "Ljava/lang/Throwable;") (by simp [Bundle.messageArmAtoms]))
  obtain ⟨tyS, dS, hdS, hdnS⟩ := Cond.laysAt hfound hk Y.stack (a (.lays cls Bundle.tN "stackTrace" Bundle.steD) (by simp [Bundle.messageArmAtoms]))
  obtain ⟨tyP, dP, hdP, hdnP⟩ := Cond.laysAt hfound hk Y.supp (a (.lays cls Bundle.tN "suppressedExceptions" Bundle.listD) (by simp [Bundle.messageArmAtoms]))
  obtain ⟨tyM, dM, hdM, hdnM⟩ := Cond.laysAt hfound hk hffM (a (.lays cls Bundle.tN "detailMessage" "Ljava/lang/String;") (by simp [Bundle.messageArmAtoms]))
  obtain ⟨tyB, dB, hdB, hdnB⟩ := Cond.laysAt hfound hk hffB (a (.lays cls Bundle.tN "backtrace" "Ljava/lang/Object;") (by simp [Bundle.messageArmAtoms]))
  have bC := Cond.laysApart hdB hdC hdnB hdnC (by rw [hnB, Y.causeName]; decide)
  have bS := Cond.laysApart hdB hdS hdnB hdnS (by rw [hnB, Y.stackName]; decide)
  have bP := Cond.laysApart hdB hdP hdnB hdnP (by rw [hnB, Y.suppName]; decide)
  have hbk : ((preparedCellV T.toThrowableT (freshCell P1.m.cls kX) (W.heap.size + 2) u0 sen).withEntry W.cur).slots[fB.slot]? = some .null := by
    have := fresh_default (c := P1.m.cls) tyB
    rw [htB] at this
    simpa [preparedCellV, Cell.setSlot, Cell.withEntry, Array.getElem?_setIfInBounds, bC, bS, bP, bC.symm, bS.symm, bP.symm, defaultValue] using this
  have tkC := Takes.of_laid (v := .ref (W.heap.size + 2)) hk hord tyC (by rw [Y.causeType]; rfl)
  have tkS := Takes.of_laid (v := u0.v) hk hord tyS (by rw [Y.stackType]; exact fits_refV_array _ u0)
  have tkP := Takes.of_laid (v := sen.v) hk hord tyP (by rw [Y.suppType]; exact fits_refV_object _ sen)
  have tkM := Takes.of_laid (v := .ref (W.heap.size + 1)) hk hord tyM (by rw [Y.msgType]; rfl)
  have hskip : SkipFacts T e.platform s (fun u => u) u0 ((preparedCellV T.toThrowableT (freshCell P1.m.cls kX) (W.heap.size + 2) u0 sen).withEntry W.cur) := ⟨{ ci198 := ci198, i198 := i198, fBack := fB }, ⟨hk198, hg198, ha198, hsB⟩, hbk, fun _ _ => rfl⟩
  have h0 : At W g.method c below := by rw [hg]; exact X.here
  obtain ⟨hbeyond, hfreeW⟩ := X.vmMayThrow hsize (.throwNew cls (some text) none) (fun f hf => by cases hf) rfl hRlocals
  have hfr' : W.frames.length + Ps.length + 4 < (e.platform.stackLimits W.me).1 := by have := X.framesAbove hRframes; omega
  have hwd' : (stackUse (.java g :: W.frames.tail)).2 + 13 * Ps.length + 55 ≤ (e.platform.stackLimits W.me).2 := by have := X.stackAbove hsize (K := 13 * Ps.length + 55) (by omega); omega
  have hslots : W.slotsUsed + (stringBytes (stringToUtf16 text)).size + Zs.kS.instanceTypes.size + kX.instanceTypes.size ≤ e.platform.maxSlots := by
    have := X.slotsAbove hRslots
    rw [hn4, hn6]
    omega
  obtain ⟨vm', hW', st⟩ := Steps.vmThrowsMessageColdByV p (s₀ := s) (S := W) (g := g) h0 hexec T L Z LZ M LM X.warmed (t := W.cur) rfl Zs LZs P1 L1 Ps hL hlink1 hlink hsoe hoom hfound hk hinit hord hctor
    (Launch.admits_hotImplicitExceptions X.admits) hbeyond hfreeW htext hlimit hheap (X.cellsAbove hRcells) hslots (hfitv _) (hfitc _)
    (Nn := fun u => u) heapOnly_id (fun _ _ => rfl) (fun _ => rfl) (fun u x y => setCell_twice _ _ _ _) (fun _ => Nat.le_refl _) (cN := ((preparedCellV T.toThrowableT (freshCell P1.m.cls kX) (W.heap.size + 2) u0 sen).withEntry W.cur))
    hsel0 hcellS hknownS hvU tkS (fun _ hu => hu) (fun _ hu => hu) rfl rfl rfl (by simp [preparedCellV, Cell.setSlot, Cell.withEntry]) hskip (fun _ _ hA hW _ hroom _ hrest => L.nativeOff p htr hA hW hroom hrest) hselF hvSen tkC tkP tkM Y.objLocals rfl hfr' hwd'
  rw [plainBareV_eq T.toThrowableT (W.heap.size + 2) u0 sen (.ref (W.heap.size + 1)) W.cur rfl rfl] at st
  obtain ⟨-, -, w3, w4, -, -, -⟩ := withThrown_facts e.platform W Zs text P1.m.cls kX
  have X3 := ((X.pushed (bytesOf Zs.cB (stringToUtf16 text))).pushed (stringAt Zs.cS Zs.kS Zs.fv Zs.fc (stringToUtf16 text) W.heap.size)).pushed (freshCell P1.m.cls kX)
  rw [← withString_eq] at X3
  have X4 := X3.noted hW'
  have ha : (W.heap.size + 2) < ((withThrown W Zs text P1.m.cls kX).setVm vm').heap.size := by show _ < (withThrown W Zs text P1.m.cls kX).heap.size; rw [w3]; omega
  have hcell : ((withThrown W Zs text P1.m.cls kX).setVm vm').heap[(W.heap.size + 2)]? = some (freshCell P1.m.cls kX) := w4
  have X5 := ((((X4.stored hcell T.fCause.slot (.ref (W.heap.size + 2))).storedAgain ha T.fStack.slot u0.v).storedAgain ha T.fSupp.slot sen.v).storedAgain ha T.fStack.slot u0.v).storedAgain ha T.fMsg.slot (.ref (W.heap.size + 1))
  obtain ⟨g₁, hfrM⟩ := X5.frames_eq
  have hU : ((((withThrown W Zs text P1.m.cls kX).setVm vm').setCell (W.heap.size + 2) (plainBareV T.toThrowableT (freshCell P1.m.cls kX) (W.heap.size + 2) u0 sen (.ref (W.heap.size + 1)))).setTop g).pushFrame (.throwing (W.heap.size + 2)) = (((withThrown W Zs text P1.m.cls kX).setVm vm').setCell (W.heap.size + 2) (plainBareV T.toThrowableT (freshCell P1.m.cls kX) (W.heap.size + 2) u0 sen (.ref (W.heap.size + 1)))).setFrames (.throwing (W.heap.size + 2) :: .java g :: below) := by
    rw [State.pushFrame, State.frames_setTop _ hfrM, State.setTop_of_frames _ hfrM, State.setFrames_setFrames]
  have b1 : (bytesOf Zs.cB (stringToUtf16 text)).slots.size = (stringBytes (stringToUtf16 text)).size := by
    rw [(Cell.writeAll_facts _ _).2.2]; simp [bytes0]
  have b2 : (stringAt Zs.cS Zs.kS Zs.fv Zs.fc (stringToUtf16 text) W.heap.size).slots.size = 4 := by simp [string0, Cell.setSlot, hn4]
  have b3 : (freshCell P1.m.cls kX).slots.size = 6 := by simp [hn6]
  rw [b1, b2, b3] at X5
  have e9 : slots + (stringBytes (stringToUtf16 text)).size + 4 + 6 = slots + ((stringBytes (stringToUtf16 text)).size + 4 + 6) := by omega
  rw [e9] at X5
  simp only [List.append_assoc, List.cons_append, List.nil_append] at X5
  refine ⟨((withThrown W Zs text P1.m.cls kX).setVm vm').setCell (W.heap.size + 2) (plainBareV T.toThrowableT (freshCell P1.m.cls kX) (W.heap.size + 2) u0 sen (.ref (W.heap.size + 1))), W.heap.size + 2, _, fun target ht => st _ (by rw [X.tail, ← hU]; exact ht),
    X5.forget (fun y hy => ?_), heapAt_setCell_self _ ha, hfound, rfl⟩
  simp only [List.mem_cons, List.not_mem_nil, or_false] at hy
  have hge : s.heap.size ≤ W.heap.size := X.same.2.1
  rcases hy with rfl | rfl | rfl | rfl | rfl <;> exact Nat.le_trans hge (Nat.le_add_right _ 2)
set_option maxHeartbeats 1000000 in
/-- the machine throws NullPointerException, no traces kept: from its note over the frame g to 'throwing' over the same frame (follows the proof of Stand.vmThrowsNpe, Shelf42/KT2.lean; throwsNpeColdBareVAt, Shelf42/NT91.lean, called) -/
theorem vx_npeAt {p : Program} {l : Launch} {e : Env} {R : Room} {s : State} {m₀ : MethodId} {args : Array Value} {below : List Frame} {meth : Method} {c : Code} {W : State} {locs : List Loc} {cells slots : Nat}
    (X : Stand p l e R s m₀ args below meth c W locs cells slots) (hexec : p.tables.exec = Jvm.exec) (htr : e.platform.stackTraces = false) {n : Nat}
    (h : ∀ a ∈ Bundle.npeArmAtoms n, a.before args s = true)
    (hlocs : ∀ x ∈ locs, ∀ cell, s.heap[x.base]? = some cell → cell.vm.isStatics = false)
    {g : JFrame} (hg : g.method = m₀) (hsize : g.locals.size = c.maxLocals)
    (hRframes : 7 < R.frames) (hRlocals : 2 * g.monitorRoom + (g.stack.map fun v => v.category).sum + 10240 ≤ R.locals)
    (hRcells : cells + 1 ≤ R.cells) (hRslots : slots + n ≤ R.slots) (hlocks : meth.locks = false) :
    ∃ (S : State) (q : Addr) (ce : Cell), (∀ target, Steps p.tables e below ((S.setTop g).pushFrame (.throwing q)) target → Steps p.tables e below ((W.setTop g).pushFrame (.throwNew "java/lang/NullPointerException" none none)) target) ∧
      Stand p l e R s m₀ args below meth c S locs (cells + 1) (slots + n) ∧ S.heap[q]? = some ce ∧ s.vm.findClass "java/lang/NullPointerException" = some ce.cls ∧ ce.vm = .none := by
  have howns : e.platform.frameOwnsMonitors = true := by rw [X.admits.platform]
  have hfin : e.platform.finalization = false := by rw [X.admits.platform]
  have hpl : e.platform.magicAccessors = ({} : Platform).magicAccessors := by rw [X.admits.platform]
  have hpl2 : e.platform.arrayCloneIsPublic = true := by rw [X.admits.platform]
  have a' : ∀ x, x ∈ Bundle.npeArmAtoms n → x.holds args s none s [] = true := fun x hx => h x hx
  obtain ⟨T, Z, L, LZ, Y⟩ := ThrowableC.of_atoms (args := args) howns hfin hpl (fun x hx => h x (by simp [Bundle.npeArmAtoms, hx]))
  obtain ⟨N, LN, hcN, hnNF, hordN, hffS⟩ := NpeC.of_atoms (args := args) hpl hpl2 L Y (fun x hx => h x (by simp [Bundle.npeArmAtoms, hx]))
  obtain ⟨P1, L1, hP1m, hP1s⟩ := PassC.of_atoms (args := args) (s := s) hpl (X := Bundle.nN) (Y := Bundle.rN) (by decide) (by decide) LibCode.NullPointerException.Init0.at_0 LibCode.NullPointerException.Init0.at_1 LibCode.NullPointerException.Init0.at_4 (fun x hx => h x (by simp [Bundle.npeArmAtoms, hx]))
  obtain ⟨PR, LR, hPRm, hPRs⟩ := PassC.of_atoms (args := args) (s := s) hpl (X := Bundle.rN) (Y := Bundle.eN) (by decide) (by decide) LibCode.RuntimeException.Init0.at_0 LibCode.RuntimeException.Init0.at_1 LibCode.RuntimeException.Init0.at_4 (fun x hx => h x (by simp [Bundle.npeArmAtoms, hx]))
  obtain ⟨PE, LEx, hPEm, hPEs⟩ := PassC.of_atoms (args := args) (s := s) hpl (X := Bundle.eN) (Y := Bundle.tN) (by decide) (by decide) LibCode.Exception.Init0.at_0 LibCode.Exception.Init0.at_1 LibCode.Exception.Init0.at_4 (fun x hx => h x (by simp [Bundle.npeArmAtoms, hx]))
  have hfound : s.vm.findClass Bundle.nN = some P1.m.cls := findClass_of_methodNamed hP1m
  have ecls : N.cN = P1.m.cls := Option.some.inj (hcN.symm.trans hfound)
  have hk : s.vm.classes[P1.m.cls]? = some N.kN := by rw [← ecls]; exact LN.cls
  have hinit := Cond.initialized_spec hfound hk (a' (.initialized Bundle.nN) (by simp [Bundle.npeArmAtoms]))
  have hctor : N.kN.findMethod "<init>" "()V" = some P1.m.idx := findMethod_of_methodNamed hP1m hk
  obtain ⟨c1, k1, hc1, hk1, -, -, -, hn⟩ := Cond.instantiable_spec (a' (.instantiable Bundle.nN n) (by simp [Bundle.npeArmAtoms]))
  cases Option.some.inj (hc1.symm.trans hfound)
  cases Option.some.inj (hk1.symm.trans hk)
  have hfsz : (freshCell P1.m.cls N.kN).slots.size = n := by simp [hn]
  have hlink1 : P1.sup = PR.m := Option.some.inj (hP1s.symm.trans hPRm)
  have hlinkR : PR.sup = PE.m := Option.some.inj (hPRs.symm.trans hPEm)
  have hlinkE : PE.sup = Z.m T.toThrowableT := Option.some.inj (hPEs.symm.trans Y.init0)
  have hLs : ∀ P, P ∈ [PR, PE] → P.Links0 e.platform s := fun P hP => by
    simp only [List.mem_cons, List.not_mem_nil, or_false] at hP
    rcases hP with rfl | rfl
    · exact LR
    · exact LEx
  have hsel0 : selectMethod e.platform s.vm P1.m.cls T.fill0 = .method T.fill0 := by
    obtain ⟨c2, r2, m2, q1, q2, q3, q4, -⟩ := Cond.selects_spec (a' (.selects Bundle.nN Bundle.tFill0 Bundle.tFill0) (by simp [Bundle.npeArmAtoms]))
    cases Option.some.inj (q1.symm.trans hfound)
    cases Option.some.inj (q2.symm.trans (State.methodFound?_of_named Y.fill0 (by decide)))
    cases Option.some.inj (q3.symm.trans Y.fill0)
    rw [Launch.admits_selectMethod X.admits]; exact q4
  have hselF : selectMethod e.platform s.vm P1.m.cls T.fill = .method N.fill := by
    obtain ⟨c2, r2, m2, q1, q2, q3, q4, -⟩ := Cond.selects_spec (a' (.selects Bundle.nN Bundle.tFill Bundle.nFill) (by simp [Bundle.npeArmAtoms]))
    cases Option.some.inj (q1.symm.trans hfound)
    cases Option.some.inj (q2.symm.trans (State.methodFound?_of_named Y.fill (by decide)))
    cases Option.some.inj (q3.symm.trans hnNF)
    rw [Launch.admits_selectMethod X.admits]; exact q4
  obtain ⟨cellS0, hcS0, hiss⟩ := Y.statics
  obtain ⟨u0, hu0⟩ := Cond.staticRefV Y.unassigned L.unassignedStatic L.statics hcS0 hiss (a' (.isRef (.static Bundle.tN "UNASSIGNED_STACK" Bundle.steD)) (by simp [Bundle.npeArmAtoms]))
  obtain ⟨sen, hsen⟩ := Cond.staticRefV Y.sentinel L.sentinelStatic L.statics hcS0 hiss (a' (.isRef (.static Bundle.tN "SUPPRESSED_SENTINEL" Bundle.listD)) (by simp [Bundle.npeArmAtoms]))
  obtain ⟨ci198, i198, fB, hk198, hg198, ha198, hsB, -, hnB, htB, hffB⟩ := Cond.ownField (t := .object "java/lang/Object") Y.found L.cls (by decide +kernel) (a' (.fieldLink Bundle.tN 198 Bundle.tN "backtrace" Bundle.objD) (by simp [Bundle.npeArmAtoms])) (a' (.lays Bundle.tN Bundle.tN "backtrace" Bundle.objD) (by simp [Bundle.npeArmAtoms])) e.platform hpl
  obtain ⟨cellS, hcS', heS, -, hkeep⟩ := X.same.2.2.2.2.2 T.aS cellS0 hcS0
  have hcellS : W.heap[T.aS]? = some cellS := hcS'
  have hout' : ∀ i, (⟨T.aS, i⟩ : Loc) ∉ locs := fun i hmem => by
    have := hlocs _ hmem cellS0 hcS0
    rw [hiss] at this; cases this
  have hknownS : cellS.vm ≠ .unknown := by
    rw [heS]; intro hu
    rw [show cellS0.vm = .unknown from hu] at hiss
    cases hiss
  have hvU : cellS.slots[T.fUnassigned.slot]? = some u0.v := by rw [hkeep _ (hout' _)]; exact hu0
  have hvSen : cellS.slots[T.fSentinel.slot]? = some sen.v := by rw [hkeep _ (hout' _)]; exact hsen
  obtain ⟨tyC, dC, hdC, hdnC⟩ := Cond.laysAt hfound hk Y.cause (a' (.lays Bundle.nN Bundle.tN "cause" "Ljava/lang/Throwable;") (by simp [Bundle.npeArmAtoms]))
  obtain ⟨tyS, dS, hdS, hdnS⟩ := Cond.laysAt hfound hk Y.stack (a' (.lays Bundle.nN Bundle.tN "stackTrace" Bundle.steD) (by simp [Bundle.npeArmAtoms]))
  obtain ⟨tyP, dP, hdP, hdnP⟩ := Cond.laysAt hfound hk Y.supp (a' (.lays Bundle.nN Bundle.tN "suppressedExceptions" Bundle.listD) (by simp [Bundle.npeArmAtoms]))
  obtain ⟨tyX, dX, hdX, hdnX⟩ := Cond.laysAt hfound hk hffS (a' (.lays Bundle.nN Bundle.nN "extendedMessageState" "I") (by simp [Bundle.npeArmAtoms, Bundle.npeAtoms]))
  obtain ⟨hnX, htX⟩ := State.fieldFound?_type hffS (t := .int) (by decide +kernel)
  have xC := Cond.laysApart hdC hdX hdnC hdnX (by rw [hnX, Y.causeName]; decide)
  have xS := Cond.laysApart hdS hdX hdnS hdnX (by rw [hnX, Y.stackName]; decide)
  have xP := Cond.laysApart hdP hdX hdnP hdnX (by rw [hnX, Y.suppName]; decide)
  have hv0 : (freshCell P1.m.cls N.kN).slots[N.fState.slot]? = some (.int 0) := by
    have := fresh_default (c := P1.m.cls) tyX
    rw [htX] at this; exact this
  obtain ⟨tyB, dB, hdB, hdnB⟩ := Cond.laysAt hfound hk hffB (a' (.lays Bundle.nN Bundle.tN "backtrace" Bundle.objD) (by simp [Bundle.npeArmAtoms]))
  have bC := Cond.laysApart hdB hdC hdnB hdnC (by rw [hnB, Y.causeName]; decide)
  have bS := Cond.laysApart hdB hdS hdnB hdnS (by rw [hnB, Y.stackName]; decide)
  have bP := Cond.laysApart hdB hdP hdnB hdnP (by rw [hnB, Y.suppName]; decide)
  have bX := Cond.laysApart hdB hdX hdnB hdnX (by rw [hnB, hnX]; decide)
  have hbk : ((npeCell N.toNpeT (preparedCellV T.toThrowableT (freshCell P1.m.cls N.kN) W.heap.size u0 sen) W.cur).withEntry W.cur).slots[fB.slot]? = some .null := by
    have := fresh_default (c := P1.m.cls) tyB
    rw [htB] at this
    simpa [npeCell, preparedCellV, Cell.setSlot, Cell.withEntry, Array.getElem?_setIfInBounds, bC, bS, bP, bX, bC.symm, bS.symm, bP.symm, bX.symm, defaultValue] using this
  have tkC := Takes.of_laid (v := .ref W.heap.size) hk hordN tyC (by rw [Y.causeType]; rfl)
  have tkS := Takes.of_laid (v := u0.v) hk hordN tyS (by rw [Y.stackType]; exact fits_refV_array _ u0)
  have tkP := Takes.of_laid (v := sen.v) hk hordN tyP (by rw [Y.suppType]; exact fits_refV_object _ sen)
  have tkX := Takes.of_laid (v := .int 1) hk hordN tyX (by rw [htX]; rfl)
  have hskip : SkipFacts T e.platform s (fun u => u) u0 ((npeCell N.toNpeT (preparedCellV T.toThrowableT (freshCell P1.m.cls N.kN) W.heap.size u0 sen) W.cur).withEntry W.cur) := ⟨{ ci198 := ci198, i198 := i198, fBack := fB }, ⟨hk198, hg198, ha198, hsB⟩, hbk, fun _ _ => rfl⟩
  obtain ⟨vm', X3, st, -⟩ := X.throwsNpeColdBareVAt hexec hg hsize T L Z LZ N LN P1 L1 [PR, PE] hLs hlink1 ⟨hlinkR, hlinkE, trivial⟩ hfound hk hinit hordN hctor hsel0 hselF hcellS hknownS hvU hvSen
    hv0 xC xS xP tkC tkS tkP tkX Y.objLocals hskip (fun _ _ hA hW _ hroom _ hrest => L.nativeOff p htr hA hW hroom hrest) (by simpa using hRframes) hRlocals (by simp) hRcells (by rw [hn]; exact hRslots)
  have hlt : W.heap.size < ((W.pushCell (freshCell P1.m.cls N.kN)).setVm vm').heap.size := by
    show W.heap.size < (W.pushCell (freshCell P1.m.cls N.kN)).heap.size
    rw [State.heap_size_pushCell]; omega
  rw [hfsz] at X3
  obtain ⟨g₁, hfrM⟩ := X3.frames_eq
  have hU : ((((W.pushCell (freshCell P1.m.cls N.kN)).setVm vm').setCell W.heap.size (npeBareV T.toThrowableT N.toNpeT (freshCell P1.m.cls N.kN) W.heap.size u0 sen)).setTop g).pushFrame (.throwing W.heap.size) = (((W.pushCell (freshCell P1.m.cls N.kN)).setVm vm').setCell W.heap.size (npeBareV T.toThrowableT N.toNpeT (freshCell P1.m.cls N.kN) W.heap.size u0 sen)).setFrames (.throwing W.heap.size :: .java g :: below) := by
    rw [State.pushFrame, State.frames_setTop _ hfrM, State.setTop_of_frames _ hfrM, State.setFrames_setFrames]
  refine ⟨_, W.heap.size, _, fun target ht => st.trans (by rw [← hU]; exact ht), X3.forget (fun y hy => ?_), heapAt_setCell_self _ hlt, hfound, rfl⟩
  simp only [List.mem_cons, List.not_mem_nil, or_false] at hy
  have hge : s.heap.size ≤ W.heap.size := X.same.2.1
  rcases hy with rfl | rfl | rfl | rfl | rfl <;> exact hge
/-- the words of a machine's NullPointerException, but the four that speak of the heap -/
def vx_atN (n : Nat) : List Cond := (Bundle.npeArmAtoms n).filter vx_no
/-- the words of a machine's throw with a message, but the four that speak of the heap -/
def vx_atM (X : String) (names : List String) : List Cond := (Bundle.messageArmAtoms X names).filter vx_no
section
variable {p : Program} {l : Launch} {e : Env} {R : Room} {s : State} {m : MethodId} {args : Array Value} {below : List Frame} {meth : Method} {c : Code} {H : Heap} {locs : List Loc} {cells slots : Nat}
/-- a frame seen from a rebased start, seen from the first start again -/
theorem vx_back9 {T S : State} {R' : Room} {k n : Nat} (X : Stand p l e R s m args below meth c T locs cells slots) (Y : Stand p l e R' ((T.setVm s.vm).setFrames (.invoking m args :: below)) m args below meth c T [] 0 0) (Z : Stand p l e R' ((T.setVm s.vm).setFrames (.invoking m args :: below)) m args below meth c S [] k n) :
    Stand p l e R s m args below meth c S locs (cells + k) (slots + n) := by
  have hW0 : s.WarmedH ((T.setVm s.vm).setFrames (.invoking m args :: below)).vm := State.WarmedH.refl s
  refine { admits := X.admits, cas := X.cas, clock := X.clock, frames := X.frames, room := X.room, hears := X.hears, method := X.method, code := X.code, here := Z.here, tail := Z.tail, warmed := State.WarmedH.trans hW0 Z.warmed, limits := Z.limits.trans (Y.limits.symm.trans X.limits), bytes := Z.bytes.trans (Y.bytes.symm.trans X.bytes), same := ?_ }
  obtain ⟨e1, e2⟩ := Z.same
  rw [State.setFrames_setFrames] at e1
  have h2 : (T.setVm s.vm).sameButNew (S.setVm s.vm) [] k n := ⟨e1, e2⟩
  have h3 := X.same.trans h2
  rw [List.append_nil] at h3
  exact h3
/-- from the machine's note that E is thrown here with this text -/
def vx_Note (p : Program) (l : Launch) (e : Env) (R : Room) (s : State) (m : MethodId) (args : Array Value) (below : List Frame) (meth : Method) (c : Code) (H : Heap) (locs : List Loc) (cells slots : Nat) (Q : State → Prop) (g : JFrame) (E text : String) : Prop :=
  ∀ T : State, T.heap = H → Stand p l e R s m args below meth c T locs cells slots → ∃ t, Steps p.tables e below ((T.setTop g).pushFrame (.throwNew E (some text) none)) t ∧ Q t
theorem vx_vm {pc : Nat} {ls : Array Slot} {rest : List Value} {Q : State → Prop} (hexec : p.tables.exec = Jvm.exec) (hl : l.stackTraces = false) {cls text : String} {names : List String} {nb : Nat} {A : Nat → Prop}
    (hcls : Bundle.fit cls = true) (hnames : ∀ n ∈ names, Bundle.fit n = true) (hsoe : (cls == "java/lang/StackOverflowError") = false) (hoom : (cls == "java/lang/OutOfMemoryError") = false)
    (hat : ∀ w ∈ vx_atM cls names, w.before args s = true) (hgood : ∀ w ∈ vx_atM cls names, vx_ot w = true)
    (hU : vx_Zq Bundle.tN "UNASSIGNED_STACK" Bundle.steD A s s.heap) (hN : vx_Zq Bundle.tN "SUPPRESSED_SENTINEL" Bundle.listD A s s.heap) (hS : va_S A s.heap H locs) (hsize : ls.size = c.maxLocals)
    (htext : (text == notModelled) = false) (hnb : (stringBytes (stringToUtf16 text)).size ≤ nb) (hnb1 : nb ≤ 1000)
    (hRframes : names.length + 4 < R.frames) (hRlocals : (rest.map fun v => v.category).sum + 10240 ≤ R.locals) (hshort : 13 * names.length + 55 ≤ 10240) (hRcells : cells + 3 ≤ R.cells) (hRslots : slots + (nb + 10) ≤ R.slots) (hlocks : meth.locks = false)
    (k : ∀ (H1 : Heap) (q9 : Addr) (ce : Cell), H.size ≤ H1.size → (∀ q : Nat, q < H.size → H1[q]? = H[q]?) → va_S A s.heap H1 locs → H1[q9]? = some ce → ce.vm = .none → s.vm.findClass cls = some ce.cls → vx_W p l e R s m args below meth c H1 locs (cells + 3) (slots + (nb + 10)) Q (F0 m pc ls rest) q9) :
    vx_Note p l e R s m args below meth c H locs cells slots Q (F0 m pc ls rest) cls text := by
  intro T hT X
  have htr : e.platform.stackTraces = false := (show e.platform.stackTraces = l.stackTraces by rw [X.admits.platform]).trans hl
  have Y := vx_rebase X (R' := { frames := R.frames, locals := R.locals, cells := 3, slots := nb + 10 }) (Nat.le_refl _) (Nat.le_refl _) hRcells hRslots
  have hhp : ((T.setVm s.vm).setFrames (.invoking m args :: below)).heap = H := hT
  have hW0 : s.WarmedH ((T.setVm s.vm).setFrames (.invoking m args :: below)).vm := State.WarmedH.refl s
  have hat' : ∀ w ∈ vx_atM cls names, w.before args ((T.setVm s.vm).setFrames (.invoking m args :: below)) = true := fun w hw => vx_ot_at hW0 rfl (hgood w hw) (hat w hw)
  have hU' : vx_Zq Bundle.tN "UNASSIGNED_STACK" Bundle.steD A ((T.setVm s.vm).setFrames (.invoking m args :: below)) ((T.setVm s.vm).setFrames (.invoking m args :: below)).heap := by rw [hhp]; exact vx_Zq.moved hW0.alike (hU.kept hS.2.1)
  have hN' : vx_Zq Bundle.tN "SUPPRESSED_SENTINEL" Bundle.listD A ((T.setVm s.vm).setFrames (.invoking m args :: below)) ((T.setVm s.vm).setFrames (.invoking m args :: below)).heap := by rw [hhp]; exact vx_Zq.moved hW0.alike (hN.kept hS.2.1)
  obtain ⟨S, q, ce, st, Z, hce, hcl', hv⟩ := vx_vmAt Y hexec htr (cls := cls) (names := names) (text := text) hcls hnames hsoe hoom (vx_own hat' (vx_isRefq hU'.1) (vx_isRefq hN'.1) hU'.2.word hN'.2.word) (fun x hx => nomatch hx) htext
    (by rw [Launch.admits_arrayLengthLimit X.admits]; omega) (by rw [Launch.admits_maxHeapBytes X.admits]; simp only [componentBytes]; omega)
    (g := F0 m pc ls rest) rfl hsize hRframes (by show 2 * 0 + (rest.map fun v => v.category).sum + 10240 ≤ R.locals; omega) hshort (by show 0 + 3 ≤ 3; omega) (by show 0 + (_ + 4 + 6) ≤ nb + 10; omega) hlocks
  obtain ⟨f1, f2⟩ := vx_frame Z.same
  have f1' : H.size ≤ S.heap.size := by rw [← hT]; exact f1
  have f2' : ∀ q : Nat, q < H.size → S.heap[q]? = H[q]? := fun q hq => by
    rw [← hT]
    exact f2 q (by rw [← hT] at hq; exact hq) (fun z hz => nomatch hz)
  have X5 := vx_back9 X Y Z
  have X6 : Stand p l e R s m args below meth c S locs (cells + 3) (slots + (nb + 10)) := { X5 with same := X5.same.mono (by omega) (by omega) }
  obtain ⟨t, a1, b1⟩ := k S.heap q ce f1' f2' ⟨Nat.le_trans hS.1 f1', fun q h1 h2 => (f2' q (Nat.lt_of_lt_of_le h1 hS.1)).trans (hS.2.1 q h1 h2), hS.2.2⟩ hce hv hcl' S rfl X6
  exact ⟨t, st t a1, b1⟩
/-- from the machine's note that NullPointerException is thrown here -/
def vx_NoteN (p : Program) (l : Launch) (e : Env) (R : Room) (s : State) (m : MethodId) (args : Array Value) (below : List Frame) (meth : Method) (c : Code) (H : Heap) (locs : List Loc) (cells slots : Nat) (Q : State → Prop) (g : JFrame) : Prop :=
  ∀ T : State, T.heap = H → Stand p l e R s m args below meth c T locs cells slots → ∃ t, Steps p.tables e below ((T.setTop g).pushFrame (.throwNew "java/lang/NullPointerException" none none)) t ∧ Q t
theorem vx_npe {pc : Nat} {ls : Array Slot} {rest : List Value} {Q : State → Prop} (hexec : p.tables.exec = Jvm.exec) (hl : l.stackTraces = false) {nb : Nat} {A : Nat → Prop}
    (hat : ∀ w ∈ vx_atN nb, w.before args s = true) (hgood : ∀ w ∈ vx_atN nb, vx_ot w = true)
    (hU : vx_Zq Bundle.tN "UNASSIGNED_STACK" Bundle.steD A s s.heap) (hN : vx_Zq Bundle.tN "SUPPRESSED_SENTINEL" Bundle.listD A s s.heap) (hS : va_S A s.heap H locs) (hsize : ls.size = c.maxLocals)
    (hRframes : 7 < R.frames) (hRlocals : (rest.map fun v => v.category).sum + 10240 ≤ R.locals) (hRcells : cells + 1 ≤ R.cells) (hRslots : slots + nb ≤ R.slots) (hlocks : meth.locks = false)
    (k : ∀ (H1 : Heap) (q9 : Addr) (ce : Cell), H.size ≤ H1.size → (∀ q : Nat, q < H.size → H1[q]? = H[q]?) → va_S A s.heap H1 locs → H1[q9]? = some ce → ce.vm = .none → s.vm.findClass "java/lang/NullPointerException" = some ce.cls → vx_W p l e R s m args below meth c H1 locs (cells + 1) (slots + nb) Q (F0 m pc ls rest) q9) :
    vx_NoteN p l e R s m args below meth c H locs cells slots Q (F0 m pc ls rest) := by
  intro T hT X
  have htr : e.platform.stackTraces = false := (show e.platform.stackTraces = l.stackTraces by rw [X.admits.platform]).trans hl
  have Y := vx_rebase X (R' := { frames := R.frames, locals := R.locals, cells := 1, slots := nb }) (Nat.le_refl _) (Nat.le_refl _) hRcells hRslots
  have hhp : ((T.setVm s.vm).setFrames (.invoking m args :: below)).heap = H := hT
  have hW0 : s.WarmedH ((T.setVm s.vm).setFrames (.invoking m args :: below)).vm := State.WarmedH.refl s
  have hat' : ∀ w ∈ vx_atN nb, w.before args ((T.setVm s.vm).setFrames (.invoking m args :: below)) = true := fun w hw => vx_ot_at hW0 rfl (hgood w hw) (hat w hw)
  have hU' : vx_Zq Bundle.tN "UNASSIGNED_STACK" Bundle.steD A ((T.setVm s.vm).setFrames (.invoking m args :: below)) ((T.setVm s.vm).setFrames (.invoking m args :: below)).heap := by rw [hhp]; exact vx_Zq.moved hW0.alike (hU.kept hS.2.1)
  have hN' : vx_Zq Bundle.tN "SUPPRESSED_SENTINEL" Bundle.listD A ((T.setVm s.vm).setFrames (.invoking m args :: below)) ((T.setVm s.vm).setFrames (.invoking m args :: below)).heap := by rw [hhp]; exact vx_Zq.moved hW0.alike (hN.kept hS.2.1)
  obtain ⟨S, q, ce, st, Z, hce, hcl', hv⟩ := vx_npeAt Y hexec htr (n := nb) (vx_own hat' (vx_isRefq hU'.1) (vx_isRefq hN'.1) hU'.2.word hN'.2.word) (fun x hx => nomatch hx)
    (g := F0 m pc ls rest) rfl hsize hRframes (by show 2 * 0 + (rest.map fun v => v.category).sum + 10240 ≤ R.locals; omega) (by show 0 + 1 ≤ 1; omega) (by show 0 + nb ≤ nb; omega) hlocks
  obtain ⟨f1, f2⟩ := vx_frame Z.same
  have f1' : H.size ≤ S.heap.size := by rw [← hT]; exact f1
  have f2' : ∀ q : Nat, q < H.size → S.heap[q]? = H[q]? := fun q hq => by
    rw [← hT]
    exact f2 q (by rw [← hT] at hq; exact hq) (fun z hz => nomatch hz)
  have X5 := vx_back9 X Y Z
  have X6 : Stand p l e R s m args below meth c S locs (cells + 1) (slots + nb) := { X5 with same := X5.same.mono (by omega) (by omega) }
  obtain ⟨t, a1, b1⟩ := k S.heap q ce f1' f2' ⟨Nat.le_trans hS.1 f1', fun q h1 h2 => (f2' q (Nat.lt_of_lt_of_le h1 hS.1)).trans (hS.2.1 q h1 h2), hS.2.2⟩ hce hv hcl' S rfl X6
  exact ⟨t, st t a1, b1⟩
variable {Q : State → Prop} {cc : ByteArray} {pc : Nat} {ls : Array Slot} {rest : List Value}
theorem vx_idivZ (hexec : p.tables.exec = Jvm.exec) (hb : c.code = cc) {a b : Int32} (h0 : b = 0) (d : decode cc pc = .ok (.idiv, 1)) (k : vx_Note p l e R s m args below meth c H locs cells slots Q (F0 m pc ls rest) "java/lang/ArithmeticException" "/ by zero") :
    W p l e R s m args below meth c H locs cells slots Q (F0 m pc ls (.int b :: .int a :: rest)) := by
  intro T hT X
  obtain ⟨t, st, q⟩ := k T hT X
  exact ⟨t, X.idivZero hexec (g := F0 m pc ls (.int b :: .int a :: rest)) rfl (a := a) (rest := rest) (by rw [h0]) (by rw [hb]; exact d) t st, q⟩
theorem vx_iremZ (hexec : p.tables.exec = Jvm.exec) (hb : c.code = cc) {a b : Int32} (h0 : b = 0) (d : decode cc pc = .ok (.irem, 1)) (k : vx_Note p l e R s m args below meth c H locs cells slots Q (F0 m pc ls rest) "java/lang/ArithmeticException" "/ by zero") :
    W p l e R s m args below meth c H locs cells slots Q (F0 m pc ls (.int b :: .int a :: rest)) := by
  intro T hT X
  obtain ⟨t, st, q⟩ := k T hT X
  exact ⟨t, X.iremZero hexec (g := F0 m pc ls (.int b :: .int a :: rest)) rfl (a := a) (rest := rest) (by rw [h0]) (by rw [hb]; exact d) t st, q⟩
theorem vx_ldivZ (hexec : p.tables.exec = Jvm.exec) (hb : c.code = cc) {a b : Int64} (h0 : b = 0) (d : decode cc pc = .ok (.ldiv, 1)) (k : vx_Note p l e R s m args below meth c H locs cells slots Q (F0 m pc ls rest) "java/lang/ArithmeticException" "/ by zero") :
    W p l e R s m args below meth c H locs cells slots Q (F0 m pc ls (.long b :: .long a :: rest)) := by
  intro T hT X
  obtain ⟨t, st, q⟩ := k T hT X
  exact ⟨t, X.ldivZero hexec (g := F0 m pc ls (.long b :: .long a :: rest)) rfl (a := a) (rest := rest) (by rw [h0]) (by rw [hb]; exact d) t st, q⟩
theorem vx_lremZ (hexec : p.tables.exec = Jvm.exec) (hb : c.code = cc) {a b : Int64} (h0 : b = 0) (d : decode cc pc = .ok (.lrem, 1)) (k : vx_Note p l e R s m args below meth c H locs cells slots Q (F0 m pc ls rest) "java/lang/ArithmeticException" "/ by zero") :
    W p l e R s m args below meth c H locs cells slots Q (F0 m pc ls (.long b :: .long a :: rest)) := by
  intro T hT X
  obtain ⟨t, st, q⟩ := k T hT X
  exact ⟨t, X.lremZero hexec (g := F0 m pc ls (.long b :: .long a :: rest)) rfl (a := a) (rest := rest) (by rw [h0]) (by rw [hb]; exact d) t st, q⟩
theorem vx_ialdZ {D : va_G} {cl : List vw_C} {ws : va_W} {tys : List (ClassId × FieldType)} {a : Nat} (hexec : p.tables.exec = Jvm.exec) (hb : c.code = cc) (hK : va_K D cl tys s) (hP : va_P D cl ws H) (q0 t0 : Nat) {cA : ClassId} {n : Nat} {f : Nat → Int32} (ha : ws[q0]? = some (a, .inl (cA, n, .inl f))) (ht : tys[t0]? = some (cA, .int)) {i : Int32} (hout : ¬ vp_in i n) (hdg : decode cc pc = .ok (.iaload, 1))
    (k : ∀ tx : String, tx = (toString "Index " ++ toString i ++ toString " out of bounds for length " ++ toString n : String) → vx_Note p l e R s m args below meth c H locs cells slots Q (F0 m pc ls rest) "java/lang/ArrayIndexOutOfBoundsException" tx) : W p l e R s m args below meth c H locs cells slots Q (F0 m pc ls (.int i :: .ref a :: rest)) := by
  intro T hT X
  obtain ⟨t, st, q⟩ := k _ rfl T hT X
  refine ⟨t, ?_, q⟩
  have h1 := X.ialoadOut hexec (by rw [hT]; exact hP q0 _ ha) ((hK.2 t0 _ ht).1 n (fun j => .int (f j))) (j := i) (by show (i < 0 ∨ (arrV _ _ _).slots.size ≤ _); rw [arrV_size]; exact Classical.byContradiction hout) (g := F0 m pc ls (.int i :: .ref a :: rest)) rfl (rest := rest) rfl (by rw [hb]; exact hdg) t
  simp only [arrV_size] at h1
  exact h1 st
theorem vx_iastZ {D : va_G} {cl : List vw_C} {ws : va_W} {tys : List (ClassId × FieldType)} {a : Nat} (hexec : p.tables.exec = Jvm.exec) (hb : c.code = cc) (hK : va_K D cl tys s) (hP : va_P D cl ws H) (q0 t0 : Nat) {cA : ClassId} {n : Nat} {f : Nat → Int32} (ha : ws[q0]? = some (a, .inl (cA, n, .inl f))) (ht : tys[t0]? = some (cA, .int)) {i : Int32} {x : Int32} (hout : ¬ vp_in i n) (hdg : decode cc pc = .ok (.iastore, 1))
    (k : ∀ tx : String, tx = (toString "Index " ++ toString i ++ toString " out of bounds for length " ++ toString n : String) → vx_Note p l e R s m args below meth c H locs cells slots Q (F0 m pc ls rest) "java/lang/ArrayIndexOutOfBoundsException" tx) : W p l e R s m args below meth c H locs cells slots Q (F0 m pc ls (.int x :: .int i :: .ref a :: rest)) := by
  intro T hT X
  obtain ⟨t, st, q⟩ := k _ rfl T hT X
  refine ⟨t, ?_, q⟩
  have h1 := X.iastoreOut hexec (by rw [hT]; exact hP q0 _ ha) ((hK.2 t0 _ ht).1 n (fun j => .int (f j))) (j := i) (by show (i < 0 ∨ (arrV _ _ _).slots.size ≤ _); rw [arrV_size]; exact Classical.byContradiction hout) (g := F0 m pc ls (.int x :: .int i :: .ref a :: rest)) rfl (rest := rest) rfl (by rw [hb]; exact hdg) t
  simp only [arrV_size] at h1
  exact h1 st
theorem vx_baldZ {D : va_G} {cl : List vw_C} {ws : va_W} {tys : List (ClassId × FieldType)} {a : Nat} (hexec : p.tables.exec = Jvm.exec) (hb : c.code = cc) (hK : va_K D cl tys s) (hP : va_P D cl ws H) (q0 t0 : Nat) {cA : ClassId} {n : Nat} {f : Nat → Int32} (ha : ws[q0]? = some (a, .inl (cA, n, .inl f))) (ht : tys[t0]? = some (cA, .byte)) {i : Int32} (hout : ¬ vp_in i n) (hdg : decode cc pc = .ok (.baload, 1))
    (k : ∀ tx : String, tx = (toString "Index " ++ toString i ++ toString " out of bounds for length " ++ toString n : String) → vx_Note p l e R s m args below meth c H locs cells slots Q (F0 m pc ls rest) "java/lang/ArrayIndexOutOfBoundsException" tx) : W p l e R s m args below meth c H locs cells slots Q (F0 m pc ls (.int i :: .ref a :: rest)) := by
  intro T hT X
  obtain ⟨t, st, q⟩ := k _ rfl T hT X
  refine ⟨t, ?_, q⟩
  have h1 := X.baloadOut hexec (by rw [hT]; exact hP q0 _ ha) ((hK.2 t0 _ ht).1 n (fun j => .int (f j))) (j := i) (by show (i < 0 ∨ (arrV _ _ _).slots.size ≤ _); rw [arrV_size]; exact Classical.byContradiction hout) (g := F0 m pc ls (.int i :: .ref a :: rest)) rfl (rest := rest) rfl (by rw [hb]; exact hdg) t
  simp only [arrV_size] at h1
  exact h1 st
theorem vx_bastZ {D : va_G} {cl : List vw_C} {ws : va_W} {tys : List (ClassId × FieldType)} {a : Nat} (hexec : p.tables.exec = Jvm.exec) (hb : c.code = cc) (hK : va_K D cl tys s) (hP : va_P D cl ws H) (q0 t0 : Nat) {cA : ClassId} {n : Nat} {f : Nat → Int32} (ha : ws[q0]? = some (a, .inl (cA, n, .inl f))) (ht : tys[t0]? = some (cA, .byte)) {i : Int32} {x : Int32} (hout : ¬ vp_in i n) (hdg : decode cc pc = .ok (.bastore, 1))
    (k : ∀ tx : String, tx = (toString "Index " ++ toString i ++ toString " out of bounds for length " ++ toString n : String) → vx_Note p l e R s m args below meth c H locs cells slots Q (F0 m pc ls rest) "java/lang/ArrayIndexOutOfBoundsException" tx) : W p l e R s m args below meth c H locs cells slots Q (F0 m pc ls (.int x :: .int i :: .ref a :: rest)) := by
  intro T hT X
  obtain ⟨t, st, q⟩ := k _ rfl T hT X
  refine ⟨t, ?_, q⟩
  have h1 := X.bastoreOut hexec (by rw [hT]; exact hP q0 _ ha) ((hK.2 t0 _ ht).1 n (fun j => .int (f j))) (j := i) (by show (i < 0 ∨ (arrV _ _ _).slots.size ≤ _); rw [arrV_size]; exact Classical.byContradiction hout) (g := F0 m pc ls (.int x :: .int i :: .ref a :: rest)) rfl (rest := rest) rfl (by rw [hb]; exact hdg) t
  simp only [arrV_size] at h1
  exact h1 st
theorem vx_zaldZ {D : va_G} {cl : List vw_C} {ws : va_W} {tys : List (ClassId × FieldType)} {a : Nat} (hexec : p.tables.exec = Jvm.exec) (hb : c.code = cc) (hK : va_K D cl tys s) (hP : va_P D cl ws H) (q0 t0 : Nat) {cA : ClassId} {n : Nat} {f : Nat → Int32} (ha : ws[q0]? = some (a, .inl (cA, n, .inl f))) (ht : tys[t0]? = some (cA, .boolean)) {i : Int32} (hout : ¬ vp_in i n) (hdg : decode cc pc = .ok (.baload, 1))
    (k : ∀ tx : String, tx = (toString "Index " ++ toString i ++ toString " out of bounds for length " ++ toString n : String) → vx_Note p l e R s m args below meth c H locs cells slots Q (F0 m pc ls rest) "java/lang/ArrayIndexOutOfBoundsException" tx) : W p l e R s m args below meth c H locs cells slots Q (F0 m pc ls (.int i :: .ref a :: rest)) := by
  intro T hT X
  obtain ⟨t, st, q⟩ := k _ rfl T hT X
  refine ⟨t, ?_, q⟩
  have h1 := X.baloadOut hexec (by rw [hT]; exact hP q0 _ ha) ((hK.2 t0 _ ht).1 n (fun j => .int (f j))) (j := i) (by show (i < 0 ∨ (arrV _ _ _).slots.size ≤ _); rw [arrV_size]; exact Classical.byContradiction hout) (g := F0 m pc ls (.int i :: .ref a :: rest)) rfl (rest := rest) rfl (by rw [hb]; exact hdg) t
  simp only [arrV_size] at h1
  exact h1 st
theorem vx_zastZ {D : va_G} {cl : List vw_C} {ws : va_W} {tys : List (ClassId × FieldType)} {a : Nat} (hexec : p.tables.exec = Jvm.exec) (hb : c.code = cc) (hK : va_K D cl tys s) (hP : va_P D cl ws H) (q0 t0 : Nat) {cA : ClassId} {n : Nat} {f : Nat → Int32} (ha : ws[q0]? = some (a, .inl (cA, n, .inl f))) (ht : tys[t0]? = some (cA, .boolean)) {i : Int32} {x : Int32} (hout : ¬ vp_in i n) (hdg : decode cc pc = .ok (.bastore, 1))
    (k : ∀ tx : String, tx = (toString "Index " ++ toString i ++ toString " out of bounds for length " ++ toString n : String) → vx_Note p l e R s m args below meth c H locs cells slots Q (F0 m pc ls rest) "java/lang/ArrayIndexOutOfBoundsException" tx) : W p l e R s m args below meth c H locs cells slots Q (F0 m pc ls (.int x :: .int i :: .ref a :: rest)) := by
  intro T hT X
  obtain ⟨t, st, q⟩ := k _ rfl T hT X
  refine ⟨t, ?_, q⟩
  have h1 := X.bastoreOut hexec (by rw [hT]; exact hP q0 _ ha) ((hK.2 t0 _ ht).1 n (fun j => .int (f j))) (j := i) (by show (i < 0 ∨ (arrV _ _ _).slots.size ≤ _); rw [arrV_size]; exact Classical.byContradiction hout) (g := F0 m pc ls (.int x :: .int i :: .ref a :: rest)) rfl (rest := rest) rfl (by rw [hb]; exact hdg) t
  simp only [arrV_size] at h1
  exact h1 st
theorem vx_caldZ {D : va_G} {cl : List vw_C} {ws : va_W} {tys : List (ClassId × FieldType)} {a : Nat} (hexec : p.tables.exec = Jvm.exec) (hb : c.code = cc) (hK : va_K D cl tys s) (hP : va_P D cl ws H) (q0 t0 : Nat) {cA : ClassId} {n : Nat} {f : Nat → Int32} (ha : ws[q0]? = some (a, .inl (cA, n, .inl f))) (ht : tys[t0]? = some (cA, .char)) {i : Int32} (hout : ¬ vp_in i n) (hdg : decode cc pc = .ok (.caload, 1))
    (k : ∀ tx : String, tx = (toString "Index " ++ toString i ++ toString " out of bounds for length " ++ toString n : String) → vx_Note p l e R s m args below meth c H locs cells slots Q (F0 m pc ls rest) "java/lang/ArrayIndexOutOfBoundsException" tx) : W p l e R s m args below meth c H locs cells slots Q (F0 m pc ls (.int i :: .ref a :: rest)) := by
  intro T hT X
  obtain ⟨t, st, q⟩ := k _ rfl T hT X
  refine ⟨t, ?_, q⟩
  have h1 := X.caloadOut hexec (by rw [hT]; exact hP q0 _ ha) ((hK.2 t0 _ ht).1 n (fun j => .int (f j))) (j := i) (by show (i < 0 ∨ (arrV _ _ _).slots.size ≤ _); rw [arrV_size]; exact Classical.byContradiction hout) (g := F0 m pc ls (.int i :: .ref a :: rest)) rfl (rest := rest) rfl (by rw [hb]; exact hdg) t
  simp only [arrV_size] at h1
  exact h1 st
theorem vx_castZ {D : va_G} {cl : List vw_C} {ws : va_W} {tys : List (ClassId × FieldType)} {a : Nat} (hexec : p.tables.exec = Jvm.exec) (hb : c.code = cc) (hK : va_K D cl tys s) (hP : va_P D cl ws H) (q0 t0 : Nat) {cA : ClassId} {n : Nat} {f : Nat → Int32} (ha : ws[q0]? = some (a, .inl (cA, n, .inl f))) (ht : tys[t0]? = some (cA, .char)) {i : Int32} {x : Int32} (hout : ¬ vp_in i n) (hdg : decode cc pc = .ok (.castore, 1))
    (k : ∀ tx : String, tx = (toString "Index " ++ toString i ++ toString " out of bounds for length " ++ toString n : String) → vx_Note p l e R s m args below meth c H locs cells slots Q (F0 m pc ls rest) "java/lang/ArrayIndexOutOfBoundsException" tx) : W p l e R s m args below meth c H locs cells slots Q (F0 m pc ls (.int x :: .int i :: .ref a :: rest)) := by
  intro T hT X
  obtain ⟨t, st, q⟩ := k _ rfl T hT X
  refine ⟨t, ?_, q⟩
  have h1 := X.castoreOut hexec (by rw [hT]; exact hP q0 _ ha) ((hK.2 t0 _ ht).1 n (fun j => .int (f j))) (j := i) (by show (i < 0 ∨ (arrV _ _ _).slots.size ≤ _); rw [arrV_size]; exact Classical.byContradiction hout) (g := F0 m pc ls (.int x :: .int i :: .ref a :: rest)) rfl (rest := rest) rfl (by rw [hb]; exact hdg) t
  simp only [arrV_size] at h1
  exact h1 st
theorem vx_saldZ {D : va_G} {cl : List vw_C} {ws : va_W} {tys : List (ClassId × FieldType)} {a : Nat} (hexec : p.tables.exec = Jvm.exec) (hb : c.code = cc) (hK : va_K D cl tys s) (hP : va_P D cl ws H) (q0 t0 : Nat) {cA : ClassId} {n : Nat} {f : Nat → Int32} (ha : ws[q0]? = some (a, .inl (cA, n, .inl f))) (ht : tys[t0]? = some (cA, .short)) {i : Int32} (hout : ¬ vp_in i n) (hdg : decode cc pc = .ok (.saload, 1))
    (k : ∀ tx : String, tx = (toString "Index " ++ toString i ++ toString " out of bounds for length " ++ toString n : String) → vx_Note p l e R s m args below meth c H locs cells slots Q (F0 m pc ls rest) "java/lang/ArrayIndexOutOfBoundsException" tx) : W p l e R s m args below meth c H locs cells slots Q (F0 m pc ls (.int i :: .ref a :: rest)) := by
  intro T hT X
  obtain ⟨t, st, q⟩ := k _ rfl T hT X
  refine ⟨t, ?_, q⟩
  have h1 := X.saloadOut hexec (by rw [hT]; exact hP q0 _ ha) ((hK.2 t0 _ ht).1 n (fun j => .int (f j))) (j := i) (by show (i < 0 ∨ (arrV _ _ _).slots.size ≤ _); rw [arrV_size]; exact Classical.byContradiction hout) (g := F0 m pc ls (.int i :: .ref a :: rest)) rfl (rest := rest) rfl (by rw [hb]; exact hdg) t
  simp only [arrV_size] at h1
  exact h1 st
theorem vx_sastZ {D : va_G} {cl : List vw_C} {ws : va_W} {tys : List (ClassId × FieldType)} {a : Nat} (hexec : p.tables.exec = Jvm.exec) (hb : c.code = cc) (hK : va_K D cl tys s) (hP : va_P D cl ws H) (q0 t0 : Nat) {cA : ClassId} {n : Nat} {f : Nat → Int32} (ha : ws[q0]? = some (a, .inl (cA, n, .inl f))) (ht : tys[t0]? = some (cA, .short)) {i : Int32} {x : Int32} (hout : ¬ vp_in i n) (hdg : decode cc pc = .ok (.sastore, 1))
    (k : ∀ tx : String, tx = (toString "Index " ++ toString i ++ toString " out of bounds for length " ++ toString n : String) → vx_Note p l e R s m args below meth c H locs cells slots Q (F0 m pc ls rest) "java/lang/ArrayIndexOutOfBoundsException" tx) : W p l e R s m args below meth c H locs cells slots Q (F0 m pc ls (.int x :: .int i :: .ref a :: rest)) := by
  intro T hT X
  obtain ⟨t, st, q⟩ := k _ rfl T hT X
  refine ⟨t, ?_, q⟩
  have h1 := X.sastoreOut hexec (by rw [hT]; exact hP q0 _ ha) ((hK.2 t0 _ ht).1 n (fun j => .int (f j))) (j := i) (by show (i < 0 ∨ (arrV _ _ _).slots.size ≤ _); rw [arrV_size]; exact Classical.byContradiction hout) (g := F0 m pc ls (.int x :: .int i :: .ref a :: rest)) rfl (rest := rest) rfl (by rw [hb]; exact hdg) t
  simp only [arrV_size] at h1
  exact h1 st
theorem vx_laldZ {D : va_G} {cl : List vw_C} {ws : va_W} {tys : List (ClassId × FieldType)} {a : Nat} (hexec : p.tables.exec = Jvm.exec) (hb : c.code = cc) (hK : va_K D cl tys s) (hP : va_P D cl ws H) (q0 t0 : Nat) {cA : ClassId} {n : Nat} {f : Nat → Int64} (ha : ws[q0]? = some (a, .inl (cA, n, .inr (.inl f)))) (ht : tys[t0]? = some (cA, .long)) {i : Int32} (hout : ¬ vp_in i n) (hdg : decode cc pc = .ok (.laload, 1))
    (k : ∀ tx : String, tx = (toString "Index " ++ toString i ++ toString " out of bounds for length " ++ toString n : String) → vx_Note p l e R s m args below meth c H locs cells slots Q (F0 m pc ls rest) "java/lang/ArrayIndexOutOfBoundsException" tx) : W p l e R s m args below meth c H locs cells slots Q (F0 m pc ls (.int i :: .ref a :: rest)) := by
  intro T hT X
  obtain ⟨t, st, q⟩ := k _ rfl T hT X
  refine ⟨t, ?_, q⟩
  have h1 := X.laloadOut hexec (by rw [hT]; exact hP q0 _ ha) ((hK.2 t0 _ ht).1 n (fun j => .long (f j))) (j := i) (by show (i < 0 ∨ (arrV _ _ _).slots.size ≤ _); rw [arrV_size]; exact Classical.byContradiction hout) (g := F0 m pc ls (.int i :: .ref a :: rest)) rfl (rest := rest) rfl (by rw [hb]; exact hdg) t
  simp only [arrV_size] at h1
  exact h1 st
theorem vx_lastZ {D : va_G} {cl : List vw_C} {ws : va_W} {tys : List (ClassId × FieldType)} {a : Nat} (hexec : p.tables.exec = Jvm.exec) (hb : c.code = cc) (hK : va_K D cl tys s) (hP : va_P D cl ws H) (q0 t0 : Nat) {cA : ClassId} {n : Nat} {f : Nat → Int64} (ha : ws[q0]? = some (a, .inl (cA, n, .inr (.inl f)))) (ht : tys[t0]? = some (cA, .long)) {i : Int32} {x : Int64} (hout : ¬ vp_in i n) (hdg : decode cc pc = .ok (.lastore, 1))
    (k : ∀ tx : String, tx = (toString "Index " ++ toString i ++ toString " out of bounds for length " ++ toString n : String) → vx_Note p l e R s m args below meth c H locs cells slots Q (F0 m pc ls rest) "java/lang/ArrayIndexOutOfBoundsException" tx) : W p l e R s m args below meth c H locs cells slots Q (F0 m pc ls (.long x :: .int i :: .ref a :: rest)) := by
  intro T hT X
  obtain ⟨t, st, q⟩ := k _ rfl T hT X
  refine ⟨t, ?_, q⟩
  have h1 := X.lastoreOut hexec (by rw [hT]; exact hP q0 _ ha) ((hK.2 t0 _ ht).1 n (fun j => .long (f j))) (j := i) (by show (i < 0 ∨ (arrV _ _ _).slots.size ≤ _); rw [arrV_size]; exact Classical.byContradiction hout) (g := F0 m pc ls (.long x :: .int i :: .ref a :: rest)) rfl (rest := rest) rfl (by rw [hb]; exact hdg) t
  simp only [arrV_size] at h1
  exact h1 st
theorem vx_faldZ {D : va_G} {cl : List vw_C} {ws : va_W} {tys : List (ClassId × FieldType)} {a : Nat} (hexec : p.tables.exec = Jvm.exec) (hb : c.code = cc) (hK : va_K D cl tys s) (hP : va_P D cl ws H) (q0 t0 : Nat) {cA : ClassId} {n : Nat} {f : Nat → UInt32} (ha : ws[q0]? = some (a, .inl (cA, n, .inr (.inr (.inl f))))) (ht : tys[t0]? = some (cA, .float)) {i : Int32} (hout : ¬ vp_in i n) (hdg : decode cc pc = .ok (.faload, 1))
    (k : ∀ tx : String, tx = (toString "Index " ++ toString i ++ toString " out of bounds for length " ++ toString n : String) → vx_Note p l e R s m args below meth c H locs cells slots Q (F0 m pc ls rest) "java/lang/ArrayIndexOutOfBoundsException" tx) : W p l e R s m args below meth c H locs cells slots Q (F0 m pc ls (.int i :: .ref a :: rest)) := by
  intro T hT X
  obtain ⟨t, st, q⟩ := k _ rfl T hT X
  refine ⟨t, ?_, q⟩
  have h1 := X.faloadOut hexec (by rw [hT]; exact hP q0 _ ha) ((hK.2 t0 _ ht).1 n (fun j => .float (f j))) (j := i) (by show (i < 0 ∨ (arrV _ _ _).slots.size ≤ _); rw [arrV_size]; exact Classical.byContradiction hout) (g := F0 m pc ls (.int i :: .ref a :: rest)) rfl (rest := rest) rfl (by rw [hb]; exact hdg) t
  simp only [arrV_size] at h1
  exact h1 st
theorem vx_fastZ {D : va_G} {cl : List vw_C} {ws : va_W} {tys : List (ClassId × FieldType)} {a : Nat} (hexec : p.tables.exec = Jvm.exec) (hb : c.code = cc) (hK : va_K D cl tys s) (hP : va_P D cl ws H) (q0 t0 : Nat) {cA : ClassId} {n : Nat} {f : Nat → UInt32} (ha : ws[q0]? = some (a, .inl (cA, n, .inr (.inr (.inl f))))) (ht : tys[t0]? = some (cA, .float)) {i : Int32} {x : UInt32} (hout : ¬ vp_in i n) (hdg : decode cc pc = .ok (.fastore, 1))
    (k : ∀ tx : String, tx = (toString "Index " ++ toString i ++ toString " out of bounds for length " ++ toString n : String) → vx_Note p l e R s m args below meth c H locs cells slots Q (F0 m pc ls rest) "java/lang/ArrayIndexOutOfBoundsException" tx) : W p l e R s m args below meth c H locs cells slots Q (F0 m pc ls (.float x :: .int i :: .ref a :: rest)) := by
  intro T hT X
  obtain ⟨t, st, q⟩ := k _ rfl T hT X
  refine ⟨t, ?_, q⟩
  have h1 := X.fastoreOut hexec (by rw [hT]; exact hP q0 _ ha) ((hK.2 t0 _ ht).1 n (fun j => .float (f j))) (j := i) (by show (i < 0 ∨ (arrV _ _ _).slots.size ≤ _); rw [arrV_size]; exact Classical.byContradiction hout) (g := F0 m pc ls (.float x :: .int i :: .ref a :: rest)) rfl (rest := rest) rfl (by rw [hb]; exact hdg) t
  simp only [arrV_size] at h1
  exact h1 st
theorem vx_daldZ {D : va_G} {cl : List vw_C} {ws : va_W} {tys : List (ClassId × FieldType)} {a : Nat} (hexec : p.tables.exec = Jvm.exec) (hb : c.code = cc) (hK : va_K D cl tys s) (hP : va_P D cl ws H) (q0 t0 : Nat) {cA : ClassId} {n : Nat} {f : Nat → UInt64} (ha : ws[q0]? = some (a, .inl (cA, n, .inr (.inr (.inr (.inl f)))))) (ht : tys[t0]? = some (cA, .double)) {i : Int32} (hout : ¬ vp_in i n) (hdg : decode cc pc = .ok (.daload, 1))
    (k : ∀ tx : String, tx = (toString "Index " ++ toString i ++ toString " out of bounds for length " ++ toString n : String) → vx_Note p l e R s m args below meth c H locs cells slots Q (F0 m pc ls rest) "java/lang/ArrayIndexOutOfBoundsException" tx) : W p l e R s m args below meth c H locs cells slots Q (F0 m pc ls (.int i :: .ref a :: rest)) := by
  intro T hT X
  obtain ⟨t, st, q⟩ := k _ rfl T hT X
  refine ⟨t, ?_, q⟩
  have h1 := X.daloadOut hexec (by rw [hT]; exact hP q0 _ ha) ((hK.2 t0 _ ht).1 n (fun j => .double (f j))) (j := i) (by show (i < 0 ∨ (arrV _ _ _).slots.size ≤ _); rw [arrV_size]; exact Classical.byContradiction hout) (g := F0 m pc ls (.int i :: .ref a :: rest)) rfl (rest := rest) rfl (by rw [hb]; exact hdg) t
  simp only [arrV_size] at h1
  exact h1 st
theorem vx_dastZ {D : va_G} {cl : List vw_C} {ws : va_W} {tys : List (ClassId × FieldType)} {a : Nat} (hexec : p.tables.exec = Jvm.exec) (hb : c.code = cc) (hK : va_K D cl tys s) (hP : va_P D cl ws H) (q0 t0 : Nat) {cA : ClassId} {n : Nat} {f : Nat → UInt64} (ha : ws[q0]? = some (a, .inl (cA, n, .inr (.inr (.inr (.inl f)))))) (ht : tys[t0]? = some (cA, .double)) {i : Int32} {x : UInt64} (hout : ¬ vp_in i n) (hdg : decode cc pc = .ok (.dastore, 1))
    (k : ∀ tx : String, tx = (toString "Index " ++ toString i ++ toString " out of bounds for length " ++ toString n : String) → vx_Note p l e R s m args below meth c H locs cells slots Q (F0 m pc ls rest) "java/lang/ArrayIndexOutOfBoundsException" tx) : W p l e R s m args below meth c H locs cells slots Q (F0 m pc ls (.double x :: .int i :: .ref a :: rest)) := by
  intro T hT X
  obtain ⟨t, st, q⟩ := k _ rfl T hT X
  refine ⟨t, ?_, q⟩
  have h1 := X.dastoreOut hexec (by rw [hT]; exact hP q0 _ ha) ((hK.2 t0 _ ht).1 n (fun j => .double (f j))) (j := i) (by show (i < 0 ∨ (arrV _ _ _).slots.size ≤ _); rw [arrV_size]; exact Classical.byContradiction hout) (g := F0 m pc ls (.double x :: .int i :: .ref a :: rest)) rfl (rest := rest) rfl (by rw [hb]; exact hdg) t
  simp only [arrV_size] at h1
  exact h1 st
theorem vx_arraylengthN (hexec : p.tables.exec = Jvm.exec) (hb : c.code = cc) (hdg : decode cc pc = .ok (.arraylength, 1)) (k : vx_NoteN p l e R s m args below meth c H locs cells slots Q (F0 m pc ls rest)) : W p l e R s m args below meth c H locs cells slots Q (F0 m pc ls (.null :: rest)) := by
  intro T hT X
  obtain ⟨t, st, q⟩ := k T hT X
  exact ⟨t, X.arraylengthNull hexec (g := F0 m pc ls (.null :: rest)) rfl (rest := rest) rfl (by rw [hb]; exact hdg) t st, q⟩
theorem vx_ialoadN (hexec : p.tables.exec = Jvm.exec) (hb : c.code = cc) {i : Int32} (hdg : decode cc pc = .ok (.iaload, 1)) (k : vx_NoteN p l e R s m args below meth c H locs cells slots Q (F0 m pc ls rest)) : W p l e R s m args below meth c H locs cells slots Q (F0 m pc ls (.int i :: .null :: rest)) := by
  intro T hT X
  obtain ⟨t, st, q⟩ := k T hT X
  exact ⟨t, X.ialoadNull hexec (g := F0 m pc ls (.int i :: .null :: rest)) rfl (rest := rest) rfl (by rw [hb]; exact hdg) t st, q⟩
theorem vx_laloadN (hexec : p.tables.exec = Jvm.exec) (hb : c.code = cc) {i : Int32} (hdg : decode cc pc = .ok (.laload, 1)) (k : vx_NoteN p l e R s m args below meth c H locs cells slots Q (F0 m pc ls rest)) : W p l e R s m args below meth c H locs cells slots Q (F0 m pc ls (.int i :: .null :: rest)) := by
  intro T hT X
  obtain ⟨t, st, q⟩ := k T hT X
  exact ⟨t, X.laloadNull hexec (g := F0 m pc ls (.int i :: .null :: rest)) rfl (rest := rest) rfl (by rw [hb]; exact hdg) t st, q⟩
theorem vx_faloadN (hexec : p.tables.exec = Jvm.exec) (hb : c.code = cc) {i : Int32} (hdg : decode cc pc = .ok (.faload, 1)) (k : vx_NoteN p l e R s m args below meth c H locs cells slots Q (F0 m pc ls rest)) : W p l e R s m args below meth c H locs cells slots Q (F0 m pc ls (.int i :: .null :: rest)) := by
  intro T hT X
  obtain ⟨t, st, q⟩ := k T hT X
  exact ⟨t, X.faloadNull hexec (g := F0 m pc ls (.int i :: .null :: rest)) rfl (rest := rest) rfl (by rw [hb]; exact hdg) t st, q⟩
theorem vx_daloadN (hexec : p.tables.exec = Jvm.exec) (hb : c.code = cc) {i : Int32} (hdg : decode cc pc = .ok (.daload, 1)) (k : vx_NoteN p l e R s m args below meth c H locs cells slots Q (F0 m pc ls rest)) : W p l e R s m args below meth c H locs cells slots Q (F0 m pc ls (.int i :: .null :: rest)) := by
  intro T hT X
  obtain ⟨t, st, q⟩ := k T hT X
  exact ⟨t, X.daloadNull hexec (g := F0 m pc ls (.int i :: .null :: rest)) rfl (rest := rest) rfl (by rw [hb]; exact hdg) t st, q⟩
theorem vx_aaloadN (hexec : p.tables.exec = Jvm.exec) (hb : c.code = cc) {i : Int32} (hdg : decode cc pc = .ok (.aaload, 1)) (k : vx_NoteN p l e R s m args below meth c H locs cells slots Q (F0 m pc ls rest)) : W p l e R s m args below meth c H locs cells slots Q (F0 m pc ls (.int i :: .null :: rest)) := by
  intro T hT X
  obtain ⟨t, st, q⟩ := k T hT X
  exact ⟨t, X.aaloadNull hexec (g := F0 m pc ls (.int i :: .null :: rest)) rfl (rest := rest) rfl (by rw [hb]; exact hdg) t st, q⟩
theorem vx_baloadN (hexec : p.tables.exec = Jvm.exec) (hb : c.code = cc) {i : Int32} (hdg : decode cc pc = .ok (.baload, 1)) (k : vx_NoteN p l e R s m args below meth c H locs cells slots Q (F0 m pc ls rest)) : W p l e R s m args below meth c H locs cells slots Q (F0 m pc ls (.int i :: .null :: rest)) := by
  intro T hT X
  obtain ⟨t, st, q⟩ := k T hT X
  exact ⟨t, X.baloadNull hexec (g := F0 m pc ls (.int i :: .null :: rest)) rfl (rest := rest) rfl (by rw [hb]; exact hdg) t st, q⟩
theorem vx_caloadN (hexec : p.tables.exec = Jvm.exec) (hb : c.code = cc) {i : Int32} (hdg : decode cc pc = .ok (.caload, 1)) (k : vx_NoteN p l e R s m args below meth c H locs cells slots Q (F0 m pc ls rest)) : W p l e R s m args below meth c H locs cells slots Q (F0 m pc ls (.int i :: .null :: rest)) := by
  intro T hT X
  obtain ⟨t, st, q⟩ := k T hT X
  exact ⟨t, X.caloadNull hexec (g := F0 m pc ls (.int i :: .null :: rest)) rfl (rest := rest) rfl (by rw [hb]; exact hdg) t st, q⟩
theorem vx_saloadN (hexec : p.tables.exec = Jvm.exec) (hb : c.code = cc) {i : Int32} (hdg : decode cc pc = .ok (.saload, 1)) (k : vx_NoteN p l e R s m args below meth c H locs cells slots Q (F0 m pc ls rest)) : W p l e R s m args below meth c H locs cells slots Q (F0 m pc ls (.int i :: .null :: rest)) := by
  intro T hT X
  obtain ⟨t, st, q⟩ := k T hT X
  exact ⟨t, X.saloadNull hexec (g := F0 m pc ls (.int i :: .null :: rest)) rfl (rest := rest) rfl (by rw [hb]; exact hdg) t st, q⟩
theorem vx_iastoreN (hexec : p.tables.exec = Jvm.exec) (hb : c.code = cc) {x : Int32} {i : Int32} (hdg : decode cc pc = .ok (.iastore, 1)) (k : vx_NoteN p l e R s m args below meth c H locs cells slots Q (F0 m pc ls rest)) : W p l e R s m args below meth c H locs cells slots Q (F0 m pc ls (.int x :: .int i :: .null :: rest)) := by
  intro T hT X
  obtain ⟨t, st, q⟩ := k T hT X
  exact ⟨t, X.iastoreNull hexec (g := F0 m pc ls (.int x :: .int i :: .null :: rest)) rfl (rest := rest) rfl (by rw [hb]; exact hdg) t st, q⟩
theorem vx_lastoreN (hexec : p.tables.exec = Jvm.exec) (hb : c.code = cc) {x : Int64} {i : Int32} (hdg : decode cc pc = .ok (.lastore, 1)) (k : vx_NoteN p l e R s m args below meth c H locs cells slots Q (F0 m pc ls rest)) : W p l e R s m args below meth c H locs cells slots Q (F0 m pc ls (.long x :: .int i :: .null :: rest)) := by
  intro T hT X
  obtain ⟨t, st, q⟩ := k T hT X
  exact ⟨t, X.lastoreNull hexec (g := F0 m pc ls (.long x :: .int i :: .null :: rest)) rfl (rest := rest) rfl (by rw [hb]; exact hdg) t st, q⟩
theorem vx_fastoreN (hexec : p.tables.exec = Jvm.exec) (hb : c.code = cc) {x : UInt32} {i : Int32} (hdg : decode cc pc = .ok (.fastore, 1)) (k : vx_NoteN p l e R s m args below meth c H locs cells slots Q (F0 m pc ls rest)) : W p l e R s m args below meth c H locs cells slots Q (F0 m pc ls (.float x :: .int i :: .null :: rest)) := by
  intro T hT X
  obtain ⟨t, st, q⟩ := k T hT X
  exact ⟨t, X.fastoreNull hexec (g := F0 m pc ls (.float x :: .int i :: .null :: rest)) rfl (rest := rest) rfl (by rw [hb]; exact hdg) t st, q⟩
theorem vx_dastoreN (hexec : p.tables.exec = Jvm.exec) (hb : c.code = cc) {x : UInt64} {i : Int32} (hdg : decode cc pc = .ok (.dastore, 1)) (k : vx_NoteN p l e R s m args below meth c H locs cells slots Q (F0 m pc ls rest)) : W p l e R s m args below meth c H locs cells slots Q (F0 m pc ls (.double x :: .int i :: .null :: rest)) := by
  intro T hT X
  obtain ⟨t, st, q⟩ := k T hT X
  exact ⟨t, X.dastoreNull hexec (g := F0 m pc ls (.double x :: .int i :: .null :: rest)) rfl (rest := rest) rfl (by rw [hb]; exact hdg) t st, q⟩
theorem vx_bastoreN (hexec : p.tables.exec = Jvm.exec) (hb : c.code = cc) {x : Int32} {i : Int32} (hdg : decode cc pc = .ok (.bastore, 1)) (k : vx_NoteN p l e R s m args below meth c H locs cells slots Q (F0 m pc ls rest)) : W p l e R s m args below meth c H locs cells slots Q (F0 m pc ls (.int x :: .int i :: .null :: rest)) := by
  intro T hT X
  obtain ⟨t, st, q⟩ := k T hT X
  exact ⟨t, X.bastoreNull hexec (g := F0 m pc ls (.int x :: .int i :: .null :: rest)) rfl (rest := rest) rfl (by rw [hb]; exact hdg) t st, q⟩
theorem vx_castoreN (hexec : p.tables.exec = Jvm.exec) (hb : c.code = cc) {x : Int32} {i : Int32} (hdg : decode cc pc = .ok (.castore, 1)) (k : vx_NoteN p l e R s m args below meth c H locs cells slots Q (F0 m pc ls rest)) : W p l e R s m args below meth c H locs cells slots Q (F0 m pc ls (.int x :: .int i :: .null :: rest)) := by
  intro T hT X
  obtain ⟨t, st, q⟩ := k T hT X
  exact ⟨t, X.castoreNull hexec (g := F0 m pc ls (.int x :: .int i :: .null :: rest)) rfl (rest := rest) rfl (by rw [hb]; exact hdg) t st, q⟩
theorem vx_sastoreN (hexec : p.tables.exec = Jvm.exec) (hb : c.code = cc) {x : Int32} {i : Int32} (hdg : decode cc pc = .ok (.sastore, 1)) (k : vx_NoteN p l e R s m args below meth c H locs cells slots Q (F0 m pc ls rest)) : W p l e R s m args below meth c H locs cells slots Q (F0 m pc ls (.int x :: .int i :: .null :: rest)) := by
  intro T hT X
  obtain ⟨t, st, q⟩ := k T hT X
  exact ⟨t, X.sastoreNull hexec (g := F0 m pc ls (.int x :: .int i :: .null :: rest)) rfl (rest := rest) rfl (by rw [hb]; exact hdg) t st, q⟩
theorem vx_invokeN {own C : String} {index maxL : Nat} {y : MethodName} {bytes : ByteArray} {ret : Option FieldType} (hexec : p.tables.exec = Jvm.exec) (hb : c.code = cc) (hown : s.vm.findClass own = some m.cls) (hlink : (Cond.methodLink own index y).before args s = true) (hinst : (Cond.instanceMethod y).before args s = true) (hcode : (Cond.code y bytes maxL ret).before args s = true) (hsel : (Cond.selects C y y).before args s = true)
    (hx : y.cls ≠ "java/lang/invoke/MethodHandle" ∧ y.cls ≠ "java/lang/invoke/VarHandle") {As : List Value} (hlen : (parseMethodDescriptor y.desc).map (fun d => d.parameters.length) = some As.length) (hdg : decode cc pc = .ok (.invokevirtual index, 3))
    (k : vx_NoteN p l e R s m args below meth c H locs cells slots Q (F0 m pc ls rest)) {st0 : List Value} (hst : st0 = As.reverse ++ .null :: rest) : W p l e R s m args below meth c H locs cells slots Q (F0 m pc ls st0) := by
  intro T hT X
  obtain ⟨r0, r, hn, hrm, hstR, hsigR⟩ := va_Decl.of hinst hcode
  obtain ⟨c2, r2, m2, q1, q2, q3, q4, kP, hkP, hkPi⟩ := Cond.selects_spec hsel
  cases hn.symm.trans q3
  have hl9 : As.length = r.sig.parameters.length := by
    rw [hsigR] at hlen
    exact (Option.some.inj hlen).symm
  obtain ⟨vm', X1, st1⟩ := X.invokevirtualNull hexec hown hlink hn hrm hstR hkP hkPi hx (g := F0 m pc ls st0) rfl (argsL := As) (rest := rest) hl9 hst (by rw [hb]; exact hdg)
  obtain ⟨t, st, q⟩ := k (T.setVm vm') hT X1
  exact ⟨t, st1 t st, q⟩
theorem vx_newarrayZ {atype : ArrayType} (hexec : p.tables.exec = Jvm.exec) (hb : c.code = cc) {n : Int32} (h0 : n < 0) (hdg : decode cc pc = .ok (.newarray atype, 2)) (k : ∀ tx : String, tx = toString n → vx_Note p l e R s m args below meth c H locs cells slots Q (F0 m pc ls rest) "java/lang/NegativeArraySizeException" tx) : W p l e R s m args below meth c H locs cells slots Q (F0 m pc ls (.int n :: rest)) := by
  intro T hT X
  obtain ⟨t, st, q⟩ := k _ rfl T hT X
  exact ⟨t, X.newarrayNegative hexec (g := F0 m pc ls (.int n :: rest)) rfl h0 (rest := rest) rfl (by rw [hb]; exact hdg) t st, q⟩
end
end VXM
/-! ===== END ===== -/
end
section
def RX0 : String := "EchoCouncil$1"
def TX0 : u_T := fun k => match k with
  | _ => ("", "", "", false)
def tyX0 : Nat → FieldType := fun k => match k with
  | _ => .int
abbrev wsX00 : List Cond := u_ws RX0 TX0 0
theorem nmX0 : ∀ a, a < 0 → ∀ b, b < 0 → a ≠ b → (TX0 a).2.1 ≠ (TX0 b).2.1 := by decide +kernel
theorem tyX0_ok : ∀ k, k < 0 → parseFieldDescriptor (TX0 k).2.2.1 = some (tyX0 k) := by decide +kernel
def RX1 : String := "EchoCouncil$Echoes"
def TX1 : u_T := fun k => match k with
  | 0 => ("EchoCouncil$Echoes", "count", "I", false)
  | 1 => ("EchoCouncil$Echoes", "room", "[I", true)
  | 2 => ("EchoCouncil$Echoes", "strength", "[I", true)
  | 3 => ("EchoCouncil$Echoes", "singer", "[I", true)
  | 4 => ("EchoCouncil$Echoes", "verses", "[I", true)
  | _ => ("EchoCouncil$Echoes", "tones", "[I", true)
def tyX1 : Nat → FieldType := fun k => match k with
  | 0 => .int
  | 1 => .array .int
  | 2 => .array .int
  | 3 => .array .int
  | 4 => .array .int
  | _ => .array .int
abbrev wsX10 : List Cond := u_ws RX1 TX1 6
theorem nmX1 : ∀ a, a < 6 → ∀ b, b < 6 → a ≠ b → (TX1 a).2.1 ≠ (TX1 b).2.1 := by decide +kernel
theorem tyX1_ok : ∀ k, k < 6 → parseFieldDescriptor (TX1 k).2.2.1 = some (tyX1 k) := by decide +kernel
abbrev cX1_init : ByteArray := prog_3_method_1_code
def yX1_init : MethodName := ⟨RX1, "<init>", "()V"⟩
abbrev cX1_copyFrom : ByteArray := prog_3_method_2_code
def yX1_copyFrom : MethodName := ⟨RX1, "copyFrom", "(LEchoCouncil$Echoes;)V"⟩
def RX2 : String := "EchoCouncil$OrderKind"
def TX2 : u_T := fun k => match k with
  | _ => ("", "", "", false)
def tyX2 : Nat → FieldType := fun k => match k with
  | _ => .int
abbrev wsX20 : List Cond := u_ws RX2 TX2 0
theorem nmX2 : ∀ a, a < 0 → ∀ b, b < 0 → a ≠ b → (TX2 a).2.1 ≠ (TX2 b).2.1 := by decide +kernel
theorem tyX2_ok : ∀ k, k < 0 → parseFieldDescriptor (TX2 k).2.2.1 = some (tyX2 k) := by decide +kernel
def RX3 : String := "EchoCouncil$OrderText"
def TX3 : u_T := fun k => match k with
  | 0 => ("EchoCouncil$OrderText", "signs", "[C", true)
  | 1 => ("EchoCouncil$OrderText", "length", "I", false)
  | 2 => ("EchoCouncil$OrderText", "fault", "I", false)
  | 3 => ("EchoCouncil$OrderText", "orders", "I", false)
  | 4 => ("EchoCouncil$OrderText", "kinds", "[LEchoCouncil$OrderKind;", true)
  | 5 => ("EchoCouncil$OrderText", "numbers", "[[I", true)
  | _ => ("EchoCouncil$OrderText", "position", "I", false)
def tyX3 : Nat → FieldType := fun k => match k with
  | 0 => .array .char
  | 1 => .int
  | 2 => .int
  | 3 => .int
  | 4 => .array (.object "EchoCouncil$OrderKind")
  | 5 => .array (.array .int)
  | _ => .int
abbrev wsX30 : List Cond := u_ws RX3 TX3 7
theorem nmX3 : ∀ a, a < 7 → ∀ b, b < 7 → a ≠ b → (TX3 a).2.1 ≠ (TX3 b).2.1 := by decide +kernel
theorem tyX3_ok : ∀ k, k < 7 → parseFieldDescriptor (TX3 k).2.2.1 = some (tyX3 k) := by decide +kernel
abbrev cX3_init : ByteArray := prog_5_method_1_code
def yX3_init : MethodName := ⟨RX3, "<init>", "()V"⟩
abbrev cX3_readAll : ByteArray := prog_5_method_2_code
def yX3_readAll : MethodName := ⟨RX3, "readAll", "()V"⟩
abbrev cX3_readsOrder : ByteArray := prog_5_method_3_code
def yX3_readsOrder : MethodName := ⟨RX3, "readsOrder", "(I)Z"⟩
abbrev cX3_longestStart : ByteArray := prog_5_method_4_code
def yX3_longestStart : MethodName := ⟨RX3, "longestStart", "()I"⟩
abbrev cX3_countSame : ByteArray := prog_5_method_5_code
def yX3_countSame : MethodName := ⟨RX3, "countSame", "(Ljava/lang/String;)I"⟩
abbrev cX3_readsNumbers : ByteArray := prog_5_method_6_code
def yX3_readsNumbers : MethodName := ⟨RX3, "readsNumbers", "(LEchoCouncil$OrderKind;[I)Z"⟩
abbrev cX3_readsSign : ByteArray := prog_5_method_7_code
def yX3_readsSign : MethodName := ⟨RX3, "readsSign", "(C)Z"⟩
abbrev cX3_isAtDigit : ByteArray := prog_5_method_8_code
def yX3_isAtDigit : MethodName := ⟨RX3, "isAtDigit", "()Z"⟩
abbrev cX3_readDigit : ByteArray := prog_5_method_9_code
def yX3_readDigit : MethodName := ⟨RX3, "readDigit", "()I"⟩
def RX4 : String := "EchoCouncil$Past"
def TX4 : u_T := fun k => match k with
  | 0 => ("EchoCouncil$Past", "states", "[LEchoCouncil$State;", true)
  | 1 => ("EchoCouncil$Past", "next", "I", false)
  | _ => ("EchoCouncil$Past", "count", "I", false)
def tyX4 : Nat → FieldType := fun k => match k with
  | 0 => .array (.object "EchoCouncil$State")
  | 1 => .int
  | _ => .int
abbrev wsX40 : List Cond := u_ws RX4 TX4 3
theorem nmX4 : ∀ a, a < 3 → ∀ b, b < 3 → a ≠ b → (TX4 a).2.1 ≠ (TX4 b).2.1 := by decide +kernel
theorem tyX4_ok : ∀ k, k < 3 → parseFieldDescriptor (TX4 k).2.2.1 = some (tyX4 k) := by decide +kernel
abbrev cX4_init : ByteArray := prog_6_method_1_code
def yX4_init : MethodName := ⟨RX4, "<init>", "()V"⟩
abbrev cX4_keep : ByteArray := prog_6_method_2_code
def yX4_keep : MethodName := ⟨RX4, "keep", "(LEchoCouncil$State;)V"⟩
abbrev cX4_takeBackInto : ByteArray := prog_6_method_3_code
def yX4_takeBackInto : MethodName := ⟨RX4, "takeBackInto", "(LEchoCouncil$State;)V"⟩
abbrev cX4_forget : ByteArray := prog_6_method_4_code
def yX4_forget : MethodName := ⟨RX4, "forget", "()V"⟩
def RX5 : String := "EchoCouncil$Refusal"
def TX5 : u_T := fun k => match k with
  | 0 => ("EchoCouncil$Refusal", "isKept", "Z", false)
  | 1 => ("EchoCouncil$Refusal", "number", "I", false)
  | 2 => ("EchoCouncil$Refusal", "detail", "I", false)
  | 3 => ("EchoCouncil$Refusal", "hasCause", "Z", false)
  | 4 => ("EchoCouncil$Refusal", "causeNumber", "I", false)
  | _ => ("EchoCouncil$Refusal", "causeDetail", "I", false)
def tyX5 : Nat → FieldType := fun k => match k with
  | 0 => .boolean
  | 1 => .int
  | 2 => .int
  | 3 => .boolean
  | 4 => .int
  | _ => .int
abbrev wsX50 : List Cond := u_ws RX5 TX5 6
theorem nmX5 : ∀ a, a < 6 → ∀ b, b < 6 → a ≠ b → (TX5 a).2.1 ≠ (TX5 b).2.1 := by decide +kernel
theorem tyX5_ok : ∀ k, k < 6 → parseFieldDescriptor (TX5 k).2.2.1 = some (tyX5 k) := by decide +kernel
abbrev cX5_init : ByteArray := prog_7_method_1_code
def yX5_init : MethodName := ⟨RX5, "<init>", "()V"⟩
abbrev cX5_keep : ByteArray := prog_7_method_2_code
def yX5_keep : MethodName := ⟨RX5, "keep", "(II)Z"⟩
abbrev cX5_putBehind : ByteArray := prog_7_method_3_code
def yX5_putBehind : MethodName := ⟨RX5, "putBehind", "(II)V"⟩
def RX6 : String := "EchoCouncil$Rooms"
def TX6 : u_T := fun k => match k with
  | 0 => ("EchoCouncil$Rooms", "count", "I", false)
  | 1 => ("EchoCouncil$Rooms", "size", "[I", true)
  | 2 => ("EchoCouncil$Rooms", "damp", "[I", true)
  | _ => ("EchoCouncil$Rooms", "verses", "[I", true)
def tyX6 : Nat → FieldType := fun k => match k with
  | 0 => .int
  | 1 => .array .int
  | 2 => .array .int
  | _ => .array .int
abbrev wsX60 : List Cond := u_ws RX6 TX6 4
theorem nmX6 : ∀ a, a < 4 → ∀ b, b < 4 → a ≠ b → (TX6 a).2.1 ≠ (TX6 b).2.1 := by decide +kernel
theorem tyX6_ok : ∀ k, k < 4 → parseFieldDescriptor (TX6 k).2.2.1 = some (tyX6 k) := by decide +kernel
abbrev cX6_init : ByteArray := prog_8_method_1_code
def yX6_init : MethodName := ⟨RX6, "<init>", "()V"⟩
abbrev cX6_copyFrom : ByteArray := prog_8_method_2_code
def yX6_copyFrom : MethodName := ⟨RX6, "copyFrom", "(LEchoCouncil$Rooms;)V"⟩
def RX7 : String := "EchoCouncil$Singers"
def TX7 : u_T := fun k => match k with
  | 0 => ("EchoCouncil$Singers", "count", "I", false)
  | 1 => ("EchoCouncil$Singers", "shyness", "[I", true)
  | 2 => ("EchoCouncil$Singers", "breath", "[I", true)
  | 3 => ("EchoCouncil$Singers", "room", "[I", true)
  | 4 => ("EchoCouncil$Singers", "verses", "[I", true)
  | _ => ("EchoCouncil$Singers", "tones", "[I", true)
def tyX7 : Nat → FieldType := fun k => match k with
  | 0 => .int
  | 1 => .array .int
  | 2 => .array .int
  | 3 => .array .int
  | 4 => .array .int
  | _ => .array .int
abbrev wsX70 : List Cond := u_ws RX7 TX7 6
theorem nmX7 : ∀ a, a < 6 → ∀ b, b < 6 → a ≠ b → (TX7 a).2.1 ≠ (TX7 b).2.1 := by decide +kernel
theorem tyX7_ok : ∀ k, k < 6 → parseFieldDescriptor (TX7 k).2.2.1 = some (tyX7 k) := by decide +kernel
abbrev cX7_init : ByteArray := prog_9_method_1_code
def yX7_init : MethodName := ⟨RX7, "<init>", "()V"⟩
abbrev cX7_copyFrom : ByteArray := prog_9_method_2_code
def yX7_copyFrom : MethodName := ⟨RX7, "copyFrom", "(LEchoCouncil$Singers;)V"⟩
def RX8 : String := "EchoCouncil$State"
def TX8 : u_T := fun k => match k with
  | 0 => ("EchoCouncil$State", "rooms", "LEchoCouncil$Rooms;", true)
  | 1 => ("EchoCouncil$State", "echoes", "LEchoCouncil$Echoes;", true)
  | 2 => ("EchoCouncil$State", "singers", "LEchoCouncil$Singers;", true)
  | 3 => ("EchoCouncil$State", "nights", "I", false)
  | 4 => ("EchoCouncil$State", "deposits", "I", false)
  | 5 => ("EchoCouncil$State", "givenBack", "I", false)
  | _ => ("EchoCouncil$State", "kept", "I", false)
def tyX8 : Nat → FieldType := fun k => match k with
  | 0 => .object "EchoCouncil$Rooms"
  | 1 => .object "EchoCouncil$Echoes"
  | 2 => .object "EchoCouncil$Singers"
  | 3 => .int
  | 4 => .int
  | 5 => .int
  | _ => .int
abbrev wsX80 : List Cond := u_ws RX8 TX8 7
theorem nmX8 : ∀ a, a < 7 → ∀ b, b < 7 → a ≠ b → (TX8 a).2.1 ≠ (TX8 b).2.1 := by decide +kernel
theorem tyX8_ok : ∀ k, k < 7 → parseFieldDescriptor (TX8 k).2.2.1 = some (tyX8 k) := by decide +kernel
abbrev cX8_init : ByteArray := prog_10_method_1_code
def yX8_init : MethodName := ⟨RX8, "<init>", "()V"⟩
abbrev cX8_copyFrom : ByteArray := prog_10_method_2_code
def yX8_copyFrom : MethodName := ⟨RX8, "copyFrom", "(LEchoCouncil$State;)V"⟩
abbrev cX8_hasRoom : ByteArray := prog_10_method_3_code
def yX8_hasRoom : MethodName := ⟨RX8, "hasRoom", "(I)Z"⟩
abbrev cX8_hasEcho : ByteArray := prog_10_method_4_code
def yX8_hasEcho : MethodName := ⟨RX8, "hasEcho", "(I)Z"⟩
abbrev cX8_hasSinger : ByteArray := prog_10_method_5_code
def yX8_hasSinger : MethodName := ⟨RX8, "hasSinger", "(I)Z"⟩
abbrev cX8_isInside : ByteArray := prog_10_method_6_code
def yX8_isInside : MethodName := ⟨RX8, "isInside", "(I)Z"⟩
abbrev cX8_isLet : ByteArray := prog_10_method_7_code
def yX8_isLet : MethodName := ⟨RX8, "isLet", "(I)Z"⟩
abbrev cX8_isWithEcho : ByteArray := prog_10_method_8_code
def yX8_isWithEcho : MethodName := ⟨RX8, "isWithEcho", "(II)Z"⟩
abbrev cX8_canPayFor : ByteArray := prog_10_method_9_code
def yX8_canPayFor : MethodName := ⟨RX8, "canPayFor", "(II)Z"⟩
abbrev cX8_isFull : ByteArray := prog_10_method_10_code
def yX8_isFull : MethodName := ⟨RX8, "isFull", "(I)Z"⟩
abbrev cX8_isTooShyFor : ByteArray := prog_10_method_11_code
def yX8_isTooShyFor : MethodName := ⟨RX8, "isTooShyFor", "(II)Z"⟩
abbrev cX8_singersIn : ByteArray := prog_10_method_12_code
def yX8_singersIn : MethodName := ⟨RX8, "singersIn", "(I)I"⟩
abbrev cX8_echoesIn : ByteArray := prog_10_method_13_code
def yX8_echoesIn : MethodName := ⟨RX8, "echoesIn", "(I)I"⟩
abbrev cX8_freeIn : ByteArray := prog_10_method_14_code
def yX8_freeIn : MethodName := ⟨RX8, "freeIn", "(I)I"⟩
abbrev cX8_aboveDamp : ByteArray := prog_10_method_15_code
def yX8_aboveDamp : MethodName := ⟨RX8, "aboveDamp", "(I)I"⟩
abbrev cX8_isHeard : ByteArray := prog_10_method_16_code
def yX8_isHeard : MethodName := ⟨RX8, "isHeard", "(III)Z"⟩
abbrev cX8_tonesInRoom : ByteArray := prog_10_method_17_code
def yX8_tonesInRoom : MethodName := ⟨RX8, "tonesInRoom", "(II)I"⟩
abbrev cX8_tonesByStrength : ByteArray := prog_10_method_18_code
def yX8_tonesByStrength : MethodName := ⟨RX8, "tonesByStrength", "(I)I"⟩
abbrev cX8_countHeardOf : ByteArray := prog_10_method_19_code
def yX8_countHeardOf : MethodName := ⟨RX8, "countHeardOf", "(III)I"⟩
abbrev cX8_versesInThought : ByteArray := prog_10_method_20_code
def yX8_versesInThought : MethodName := ⟨RX8, "versesInThought", "(I)I"⟩
abbrev cX8_tonesAfter : ByteArray := prog_10_method_21_code
def yX8_tonesAfter : MethodName := ⟨RX8, "tonesAfter", "(II)I"⟩
abbrev cX8_versesByEcho : ByteArray := prog_10_method_22_code
def yX8_versesByEcho : MethodName := ⟨RX8, "versesByEcho", "(I)I"⟩
abbrev cX8_countLetTo : ByteArray := prog_10_method_23_code
def yX8_countLetTo : MethodName := ⟨RX8, "countLetTo", "(I)I"⟩
abbrev cX8_countLet : ByteArray := prog_10_method_24_code
def yX8_countLet : MethodName := ⟨RX8, "countLet", "()I"⟩
abbrev cX8_heldOf : ByteArray := prog_10_method_25_code
def yX8_heldOf : MethodName := ⟨RX8, "heldOf", "(I)I"⟩
abbrev cX8_heldOfAll : ByteArray := prog_10_method_26_code
def yX8_heldOfAll : MethodName := ⟨RX8, "heldOfAll", "()I"⟩
abbrev cX8_dampOfAll : ByteArray := prog_10_method_27_code
def yX8_dampOfAll : MethodName := ⟨RX8, "dampOfAll", "()I"⟩
abbrev cX8_versesOfAll : ByteArray := prog_10_method_28_code
def yX8_versesOfAll : MethodName := ⟨RX8, "versesOfAll", "()I"⟩
abbrev cX8_tonesOfAll : ByteArray := prog_10_method_29_code
def yX8_tonesOfAll : MethodName := ⟨RX8, "tonesOfAll", "()I"⟩
abbrev cX8_addRoom : ByteArray := prog_10_method_30_code
def yX8_addRoom : MethodName := ⟨RX8, "addRoom", "(I)I"⟩
abbrev cX8_addEcho : ByteArray := prog_10_method_31_code
def yX8_addEcho : MethodName := ⟨RX8, "addEcho", "(II)I"⟩
abbrev cX8_addSinger : ByteArray := prog_10_method_32_code
def yX8_addSinger : MethodName := ⟨RX8, "addSinger", "(II)I"⟩
abbrev cX8_moveIn : ByteArray := prog_10_method_33_code
def yX8_moveIn : MethodName := ⟨RX8, "moveIn", "(II)I"⟩
abbrev cX8_moveOut : ByteArray := prog_10_method_34_code
def yX8_moveOut : MethodName := ⟨RX8, "moveOut", "(I)I"⟩
abbrev cX8_moveEcho : ByteArray := prog_10_method_35_code
def yX8_moveEcho : MethodName := ⟨RX8, "moveEcho", "(II)I"⟩
abbrev cX8_letEcho : ByteArray := prog_10_method_36_code
def yX8_letEcho : MethodName := ⟨RX8, "letEcho", "(III)I"⟩
abbrev cX8_endLetting : ByteArray := prog_10_method_37_code
def yX8_endLetting : MethodName := ⟨RX8, "endLetting", "(I)I"⟩
abbrev cX8_singVerse : ByteArray := prog_10_method_38_code
def yX8_singVerse : MethodName := ⟨RX8, "singVerse", "(I)I"⟩
abbrev cX8_echoVerse : ByteArray := prog_10_method_39_code
def yX8_echoVerse : MethodName := ⟨RX8, "echoVerse", "(I)I"⟩
abbrev cX8_letNightPass : ByteArray := prog_10_method_40_code
def yX8_letNightPass : MethodName := ⟨RX8, "letNightPass", "()I"⟩
def RX9 : String := "EchoCouncil"
def TX9 : u_T := fun k => match k with
  | 0 => ("EchoCouncil", "now", "LEchoCouncil$State;", true)
  | 1 => ("EchoCouncil", "before", "LEchoCouncil$State;", true)
  | 2 => ("EchoCouncil", "saved", "LEchoCouncil$State;", true)
  | 3 => ("EchoCouncil", "isSaved", "Z", false)
  | 4 => ("EchoCouncil", "past", "LEchoCouncil$Past;", true)
  | 5 => ("EchoCouncil", "text", "LEchoCouncil$OrderText;", true)
  | 6 => ("EchoCouncil", "refusal", "LEchoCouncil$Refusal;", true)
  | _ => ("EchoCouncil", "line", "Ljava/lang/StringBuilder;", true)
def tyX9 : Nat → FieldType := fun k => match k with
  | 0 => .object "EchoCouncil$State"
  | 1 => .object "EchoCouncil$State"
  | 2 => .object "EchoCouncil$State"
  | 3 => .boolean
  | 4 => .object "EchoCouncil$Past"
  | 5 => .object "EchoCouncil$OrderText"
  | 6 => .object "EchoCouncil$Refusal"
  | _ => .object "java/lang/StringBuilder"
abbrev wsX90 : List Cond := u_ws RX9 TX9 8
theorem nmX9 : ∀ a, a < 8 → ∀ b, b < 8 → a ≠ b → (TX9 a).2.1 ≠ (TX9 b).2.1 := by decide +kernel
theorem tyX9_ok : ∀ k, k < 8 → parseFieldDescriptor (TX9 k).2.2.1 = some (tyX9 k) := by decide +kernel
abbrev cX9_init : ByteArray := prog_1_method_1_code
def yX9_init : MethodName := ⟨RX9, "<init>", "()V"⟩
abbrev cX9_room : ByteArray := prog_1_method_2_code
def yX9_room : MethodName := ⟨RX9, "room", "(I)I"⟩
abbrev cX9_echo : ByteArray := prog_1_method_3_code
def yX9_echo : MethodName := ⟨RX9, "echo", "(II)I"⟩
abbrev cX9_singer : ByteArray := prog_1_method_4_code
def yX9_singer : MethodName := ⟨RX9, "singer", "(II)I"⟩
abbrev cX9_enter : ByteArray := prog_1_method_5_code
def yX9_enter : MethodName := ⟨RX9, "enter", "(II)I"⟩
abbrev cX9_out : ByteArray := prog_1_method_6_code
def yX9_out : MethodName := ⟨RX9, "out", "(I)I"⟩
abbrev cX9_carry : ByteArray := prog_1_method_7_code
def yX9_carry : MethodName := ⟨RX9, "carry", "(II)I"⟩
abbrev cX9_rent : ByteArray := prog_1_method_8_code
def yX9_rent : MethodName := ⟨RX9, "rent", "(III)I"⟩
abbrev cX9_back : ByteArray := prog_1_method_9_code
def yX9_back : MethodName := ⟨RX9, "back", "(II)I"⟩
abbrev cX9_sing : ByteArray := prog_1_method_10_code
def yX9_sing : MethodName := ⟨RX9, "sing", "(I)I"⟩
abbrev cX9_night : ByteArray := prog_1_method_11_code
def yX9_night : MethodName := ⟨RX9, "night", "()I"⟩
abbrev cX9_roomOf : ByteArray := prog_1_method_12_code
def yX9_roomOf : MethodName := ⟨RX9, "roomOf", "(II)I"⟩
abbrev cX9_echoOf : ByteArray := prog_1_method_13_code
def yX9_echoOf : MethodName := ⟨RX9, "echoOf", "(II)I"⟩
abbrev cX9_singerOf : ByteArray := prog_1_method_14_code
def yX9_singerOf : MethodName := ⟨RX9, "singerOf", "(II)I"⟩
abbrev cX9_tones : ByteArray := prog_1_method_15_code
def yX9_tones : MethodName := ⟨RX9, "tones", "(I)I"⟩
abbrev cX9_tonesAgain : ByteArray := prog_1_method_16_code
def yX9_tonesAgain : MethodName := ⟨RX9, "tonesAgain", "(I)I"⟩
abbrev cX9_verses : ByteArray := prog_1_method_17_code
def yX9_verses : MethodName := ⟨RX9, "verses", "(I)I"⟩
abbrev cX9_versesAgain : ByteArray := prog_1_method_18_code
def yX9_versesAgain : MethodName := ⟨RX9, "versesAgain", "(I)I"⟩
abbrev cX9_would : ByteArray := prog_1_method_19_code
def yX9_would : MethodName := ⟨RX9, "would", "(II)I"⟩
abbrev cX9_bestRoom : ByteArray := prog_1_method_20_code
def yX9_bestRoom : MethodName := ⟨RX9, "bestRoom", "(I)I"⟩
abbrev cX9_canEnter : ByteArray := prog_1_method_21_code
def yX9_canEnter : MethodName := ⟨RX9, "canEnter", "(II)Z"⟩
abbrev cX9_canRent : ByteArray := prog_1_method_22_code
def yX9_canRent : MethodName := ⟨RX9, "canRent", "(II)Z"⟩
abbrev cX9_backFor : ByteArray := prog_1_method_23_code
def yX9_backFor : MethodName := ⟨RX9, "backFor", "(I)I"⟩
abbrev cX9_others : ByteArray := prog_1_method_24_code
def yX9_others : MethodName := ⟨RX9, "others", "(I)I"⟩
abbrev cX9_free : ByteArray := prog_1_method_25_code
def yX9_free : MethodName := ⟨RX9, "free", "(I)I"⟩
abbrev cX9_dryIn : ByteArray := prog_1_method_26_code
def yX9_dryIn : MethodName := ⟨RX9, "dryIn", "(I)I"⟩
abbrev cX9_dampest : ByteArray := prog_1_method_27_code
def yX9_dampest : MethodName := ⟨RX9, "dampest", "(I)I"⟩
abbrev cX9_ranked : ByteArray := prog_1_method_28_code
def yX9_ranked : MethodName := ⟨RX9, "ranked", "(II)I"⟩
abbrev cX9_strongest : ByteArray := prog_1_method_29_code
def yX9_strongest : MethodName := ⟨RX9, "strongest", "(I)I"⟩
abbrev cX9_isTold : ByteArray := prog_1_method_30_code
def yX9_isTold : MethodName := ⟨RX9, "isTold", "()Z"⟩
abbrev cX9_append : ByteArray := prog_1_method_31_code
def yX9_append : MethodName := ⟨RX9, "append", "(C)I"⟩
abbrev cX9_run : ByteArray := prog_1_method_32_code
def yX9_run : MethodName := ⟨RX9, "run", "()I"⟩
abbrev cX9_faultPosition : ByteArray := prog_1_method_33_code
def yX9_faultPosition : MethodName := ⟨RX9, "faultPosition", "()I"⟩
abbrev cX9_reason : ByteArray := prog_1_method_34_code
def yX9_reason : MethodName := ⟨RX9, "reason", "(IZ)I"⟩
abbrev cX9_tellRoom : ByteArray := prog_1_method_35_code
def yX9_tellRoom : MethodName := ⟨RX9, "tellRoom", "(I)I"⟩
abbrev cX9_tellEcho : ByteArray := prog_1_method_36_code
def yX9_tellEcho : MethodName := ⟨RX9, "tellEcho", "(I)I"⟩
abbrev cX9_tellSinger : ByteArray := prog_1_method_37_code
def yX9_tellSinger : MethodName := ⟨RX9, "tellSinger", "(I)I"⟩
abbrev cX9_character : ByteArray := prog_1_method_38_code
def yX9_character : MethodName := ⟨RX9, "character", "(I)C"⟩
abbrev cX9_account : ByteArray := prog_1_method_39_code
def yX9_account : MethodName := ⟨RX9, "account", "(I)I"⟩
abbrev cX9_meanDamp : ByteArray := prog_1_method_40_code
def yX9_meanDamp : MethodName := ⟨RX9, "meanDamp", "()D"⟩
abbrev cX9_letShare : ByteArray := prog_1_method_41_code
def yX9_letShare : MethodName := ⟨RX9, "letShare", "()F"⟩
abbrev cX9_undo : ByteArray := prog_1_method_42_code
def yX9_undo : MethodName := ⟨RX9, "undo", "()I"⟩
abbrev cX9_save : ByteArray := prog_1_method_43_code
def yX9_save : MethodName := ⟨RX9, "save", "()I"⟩
abbrev cX9_restore : ByteArray := prog_1_method_44_code
def yX9_restore : MethodName := ⟨RX9, "restore", "()I"⟩
abbrev cX9_checkRoom : ByteArray := prog_1_method_45_code
def yX9_checkRoom : MethodName := ⟨RX9, "checkRoom", "(I)V"⟩
abbrev cX9_checkEcho : ByteArray := prog_1_method_46_code
def yX9_checkEcho : MethodName := ⟨RX9, "checkEcho", "(I)V"⟩
abbrev cX9_checkSinger : ByteArray := prog_1_method_47_code
def yX9_checkSinger : MethodName := ⟨RX9, "checkSinger", "(I)V"⟩
abbrev cX9_checkSingerInside : ByteArray := prog_1_method_48_code
def yX9_checkSingerInside : MethodName := ⟨RX9, "checkSingerInside", "(I)V"⟩
abbrev cX9_change : ByteArray := prog_1_method_49_code
def yX9_change : MethodName := ⟨RX9, "change", "(LEchoCouncil$OrderKind;III)I"⟩
abbrev cX9_doesAllOrders : ByteArray := prog_1_method_50_code
def yX9_doesAllOrders : MethodName := ⟨RX9, "doesAllOrders", "()Z"⟩
abbrev cX9_doOrder : ByteArray := prog_1_method_51_code
def yX9_doOrder : MethodName := ⟨RX9, "doOrder", "(LEchoCouncil$OrderKind;III)I"⟩
abbrev cX9_isRefused : ByteArray := prog_1_method_52_code
def yX9_isRefused : MethodName := ⟨RX9, "isRefused", "(LEchoCouncil$OrderKind;III)Z"⟩
abbrev cX9_isRoomRefused : ByteArray := prog_1_method_53_code
def yX9_isRoomRefused : MethodName := ⟨RX9, "isRoomRefused", "(I)Z"⟩
abbrev cX9_isEchoRefused : ByteArray := prog_1_method_54_code
def yX9_isEchoRefused : MethodName := ⟨RX9, "isEchoRefused", "(II)Z"⟩
abbrev cX9_isSingerRefused : ByteArray := prog_1_method_55_code
def yX9_isSingerRefused : MethodName := ⟨RX9, "isSingerRefused", "(II)Z"⟩
abbrev cX9_isEnteringRefused : ByteArray := prog_1_method_56_code
def yX9_isEnteringRefused : MethodName := ⟨RX9, "isEnteringRefused", "(II)Z"⟩
abbrev cX9_isGoingOutRefused : ByteArray := prog_1_method_57_code
def yX9_isGoingOutRefused : MethodName := ⟨RX9, "isGoingOutRefused", "(I)Z"⟩
abbrev cX9_isCarryingRefused : ByteArray := prog_1_method_58_code
def yX9_isCarryingRefused : MethodName := ⟨RX9, "isCarryingRefused", "(II)Z"⟩
abbrev cX9_isRentingRefused : ByteArray := prog_1_method_59_code
def yX9_isRentingRefused : MethodName := ⟨RX9, "isRentingRefused", "(III)Z"⟩
abbrev cX9_isGivingBackRefused : ByteArray := prog_1_method_60_code
def yX9_isGivingBackRefused : MethodName := ⟨RX9, "isGivingBackRefused", "(II)Z"⟩
abbrev cX9_isSingingRefused : ByteArray := prog_1_method_61_code
def yX9_isSingingRefused : MethodName := ⟨RX9, "isSingingRefused", "(I)Z"⟩
abbrev cX9_bothWaysAgree : ByteArray := prog_1_method_62_code
def yX9_bothWaysAgree : MethodName := ⟨RX9, "bothWaysAgree", "(I)Z"⟩
abbrev cX9_countRoomsAhead : ByteArray := prog_1_method_63_code
def yX9_countRoomsAhead : MethodName := ⟨RX9, "countRoomsAhead", "(I)I"⟩
abbrev cX9_isDamperThan : ByteArray := prog_1_method_64_code
def yX9_isDamperThan : MethodName := ⟨RX9, "isDamperThan", "(II)Z"⟩
abbrev cX9_countSingersAhead : ByteArray := prog_1_method_65_code
def yX9_countSingersAhead : MethodName := ⟨RX9, "countSingersAhead", "(II)I"⟩
abbrev cX9_rankedValue : ByteArray := prog_1_method_66_code
def yX9_rankedValue : MethodName := ⟨RX9, "rankedValue", "(II)I"⟩
abbrev cX9_countEchoesAhead : ByteArray := prog_1_method_67_code
def yX9_countEchoesAhead : MethodName := ⟨RX9, "countEchoesAhead", "(I)I"⟩
abbrev cX9_isStrongerThan : ByteArray := prog_1_method_68_code
def yX9_isStrongerThan : MethodName := ⟨RX9, "isStrongerThan", "(II)Z"⟩
abbrev cX9_writeEchoesIn : ByteArray := prog_1_method_69_code
def yX9_writeEchoesIn : MethodName := ⟨RX9, "writeEchoesIn", "(I)V"⟩
abbrev cX9_writeSingersIn : ByteArray := prog_1_method_70_code
def yX9_writeSingersIn : MethodName := ⟨RX9, "writeSingersIn", "(I)V"⟩
def RX10 : String := "EchoCouncilModel"
def TX10 : u_T := fun k => match k with
  | 0 => ("EchoCouncilModel", "now", "[I", true)
  | 1 => ("EchoCouncilModel", "before", "[I", true)
  | 2 => ("EchoCouncilModel", "saved", "[I", true)
  | 3 => ("EchoCouncilModel", "history", "[I", true)
  | 4 => ("EchoCouncilModel", "isSaved", "Z", false)
  | 5 => ("EchoCouncilModel", "remembered", "I", false)
  | 6 => ("EchoCouncilModel", "reason", "I", false)
  | 7 => ("EchoCouncilModel", "detail", "I", false)
  | 8 => ("EchoCouncilModel", "cause", "I", false)
  | 9 => ("EchoCouncilModel", "causeDetail", "I", false)
  | 10 => ("EchoCouncilModel", "faultAt", "I", false)
  | 11 => ("EchoCouncilModel", "text", "[I", true)
  | 12 => ("EchoCouncilModel", "typed", "I", false)
  | 13 => ("EchoCouncilModel", "line", "[I", true)
  | 14 => ("EchoCouncilModel", "lined", "I", false)
  | 15 => ("EchoCouncilModel", "thrown", "I", false)
  | 16 => ("EchoCouncilModel", "why", "I", false)
  | 17 => ("EchoCouncilModel", "what", "I", false)
  | 18 => ("EchoCouncilModel", "size", "I", false)
  | 19 => ("EchoCouncilModel", "place", "I", false)
  | 20 => ("EchoCouncilModel", "wrong", "I", false)
  | 21 => ("EchoCouncilModel", "told", "I", false)
  | _ => ("EchoCouncilModel", "numbers", "[I", true)
def tyX10 : Nat → FieldType := fun k => match k with
  | 0 => .array .int
  | 1 => .array .int
  | 2 => .array .int
  | 3 => .array .int
  | 4 => .boolean
  | 5 => .int
  | 6 => .int
  | 7 => .int
  | 8 => .int
  | 9 => .int
  | 10 => .int
  | 11 => .array .int
  | 12 => .int
  | 13 => .array .int
  | 14 => .int
  | 15 => .int
  | 16 => .int
  | 17 => .int
  | 18 => .int
  | 19 => .int
  | 20 => .int
  | 21 => .int
  | _ => .array .int
abbrev wsX100 : List Cond := u_ws RX10 TX10 23
theorem nmX10 : ∀ a, a < 23 → ∀ b, b < 23 → a ≠ b → (TX10 a).2.1 ≠ (TX10 b).2.1 := by decide +kernel
theorem tyX10_ok : ∀ k, k < 23 → parseFieldDescriptor (TX10 k).2.2.1 = some (tyX10 k) := by decide +kernel
abbrev cX10_init : ByteArray := prog_12_method_1_code
def yX10_init : MethodName := ⟨RX10, "<init>", "()V"⟩
abbrev cX10_thrown : ByteArray := prog_12_method_2_code
def yX10_thrown : MethodName := ⟨RX10, "thrown", "()I"⟩
abbrev cX10_isIn : ByteArray := prog_12_method_3_code
def yX10_isIn : MethodName := ⟨RX10, "isIn", "(III)Z"⟩
abbrev cX10_copies : ByteArray := prog_12_method_4_code
def yX10_copies : MethodName := ⟨RX10, "copies", "([II[II)V"⟩
abbrev cX10_goes : ByteArray := prog_12_method_5_code
def yX10_goes : MethodName := ⟨RX10, "goes", "(ZZ)Z"⟩
abbrev cX10_hinders : ByteArray := prog_12_method_6_code
def yX10_hinders : MethodName := ⟨RX10, "hinders", "(ZII)V"⟩
abbrev cX10_begins : ByteArray := prog_12_method_7_code
def yX10_begins : MethodName := ⟨RX10, "begins", "()V"⟩
abbrev cX10_remembers : ByteArray := prog_12_method_8_code
def yX10_remembers : MethodName := ⟨RX10, "remembers", "()V"⟩
abbrev cX10_refuses : ByteArray := prog_12_method_9_code
def yX10_refuses : MethodName := ⟨RX10, "refuses", "(IIIII)I"⟩
abbrev cX10_ends : ByteArray := prog_12_method_10_code
def yX10_ends : MethodName := ⟨RX10, "ends", "(I)I"⟩
abbrev cX10_reason : ByteArray := prog_12_method_11_code
def yX10_reason : MethodName := ⟨RX10, "reason", "(IZ)I"⟩
abbrev cX10_undo : ByteArray := prog_12_method_12_code
def yX10_undo : MethodName := ⟨RX10, "undo", "()I"⟩
abbrev cX10_save : ByteArray := prog_12_method_13_code
def yX10_save : MethodName := ⟨RX10, "save", "()I"⟩
abbrev cX10_restore : ByteArray := prog_12_method_14_code
def yX10_restore : MethodName := ⟨RX10, "restore", "()I"⟩
abbrev cX10_roomAt : ByteArray := prog_12_method_15_code
def yX10_roomAt : MethodName := ⟨RX10, "roomAt", "(I)I"⟩
abbrev cX10_echoAt : ByteArray := prog_12_method_16_code
def yX10_echoAt : MethodName := ⟨RX10, "echoAt", "(I)I"⟩
abbrev cX10_singerAt : ByteArray := prog_12_method_17_code
def yX10_singerAt : MethodName := ⟨RX10, "singerAt", "(I)I"⟩
abbrev cX10_isRoom : ByteArray := prog_12_method_18_code
def yX10_isRoom : MethodName := ⟨RX10, "isRoom", "(I)Z"⟩
abbrev cX10_isEcho : ByteArray := prog_12_method_19_code
def yX10_isEcho : MethodName := ⟨RX10, "isEcho", "(I)Z"⟩
abbrev cX10_isSinger : ByteArray := prog_12_method_20_code
def yX10_isSinger : MethodName := ⟨RX10, "isSinger", "(I)Z"⟩
abbrev cX10_singersIn : ByteArray := prog_12_method_21_code
def yX10_singersIn : MethodName := ⟨RX10, "singersIn", "(I)I"⟩
abbrev cX10_echoesIn : ByteArray := prog_12_method_22_code
def yX10_echoesIn : MethodName := ⟨RX10, "echoesIn", "(IZ)I"⟩
abbrev cX10_othersIn : ByteArray := prog_12_method_23_code
def yX10_othersIn : MethodName := ⟨RX10, "othersIn", "(I)I"⟩
abbrev cX10_worthOf : ByteArray := prog_12_method_24_code
def yX10_worthOf : MethodName := ⟨RX10, "worthOf", "(I)I"⟩
abbrev cX10_opens : ByteArray := prog_12_method_25_code
def yX10_opens : MethodName := ⟨RX10, "opens", "(I)I"⟩
abbrev cX10_room : ByteArray := prog_12_method_26_code
def yX10_room : MethodName := ⟨RX10, "room", "(I)I"⟩
abbrev cX10_sounds : ByteArray := prog_12_method_27_code
def yX10_sounds : MethodName := ⟨RX10, "sounds", "(II)I"⟩
abbrev cX10_echo : ByteArray := prog_12_method_28_code
def yX10_echo : MethodName := ⟨RX10, "echo", "(II)I"⟩
abbrev cX10_arrives : ByteArray := prog_12_method_29_code
def yX10_arrives : MethodName := ⟨RX10, "arrives", "(II)I"⟩
abbrev cX10_singer : ByteArray := prog_12_method_30_code
def yX10_singer : MethodName := ⟨RX10, "singer", "(II)I"⟩
abbrev cX10_asksRoom : ByteArray := prog_12_method_31_code
def yX10_asksRoom : MethodName := ⟨RX10, "asksRoom", "(II)V"⟩
abbrev cX10_comesIn : ByteArray := prog_12_method_32_code
def yX10_comesIn : MethodName := ⟨RX10, "comesIn", "(II)I"⟩
abbrev cX10_enter : ByteArray := prog_12_method_33_code
def yX10_enter : MethodName := ⟨RX10, "enter", "(II)I"⟩
abbrev cX10_goesOut : ByteArray := prog_12_method_34_code
def yX10_goesOut : MethodName := ⟨RX10, "goesOut", "(I)I"⟩
abbrev cX10_out : ByteArray := prog_12_method_35_code
def yX10_out : MethodName := ⟨RX10, "out", "(I)I"⟩
abbrev cX10_carries : ByteArray := prog_12_method_36_code
def yX10_carries : MethodName := ⟨RX10, "carries", "(II)I"⟩
abbrev cX10_carry : ByteArray := prog_12_method_37_code
def yX10_carry : MethodName := ⟨RX10, "carry", "(II)I"⟩
abbrev cX10_asksEcho : ByteArray := prog_12_method_38_code
def yX10_asksEcho : MethodName := ⟨RX10, "asksEcho", "(II)V"⟩
abbrev cX10_rents : ByteArray := prog_12_method_39_code
def yX10_rents : MethodName := ⟨RX10, "rents", "(III)I"⟩
abbrev cX10_rent : ByteArray := prog_12_method_40_code
def yX10_rent : MethodName := ⟨RX10, "rent", "(III)I"⟩
abbrev cX10_stops : ByteArray := prog_12_method_41_code
def yX10_stops : MethodName := ⟨RX10, "stops", "(I)I"⟩
abbrev cX10_gives : ByteArray := prog_12_method_42_code
def yX10_gives : MethodName := ⟨RX10, "gives", "(II)I"⟩
abbrev cX10_back : ByteArray := prog_12_method_43_code
def yX10_back : MethodName := ⟨RX10, "back", "(II)I"⟩
abbrev cX10_sings : ByteArray := prog_12_method_44_code
def yX10_sings : MethodName := ⟨RX10, "sings", "(I)I"⟩
abbrev cX10_sing : ByteArray := prog_12_method_45_code
def yX10_sing : MethodName := ⟨RX10, "sing", "(I)I"⟩
abbrev cX10_passes : ByteArray := prog_12_method_46_code
def yX10_passes : MethodName := ⟨RX10, "passes", "()I"⟩
abbrev cX10_night : ByteArray := prog_12_method_47_code
def yX10_night : MethodName := ⟨RX10, "night", "()I"⟩
abbrev cX10_roomOf : ByteArray := prog_12_method_48_code
def yX10_roomOf : MethodName := ⟨RX10, "roomOf", "(II)I"⟩
abbrev cX10_echoOf : ByteArray := prog_12_method_49_code
def yX10_echoOf : MethodName := ⟨RX10, "echoOf", "(II)I"⟩
abbrev cX10_letTo : ByteArray := prog_12_method_50_code
def yX10_letTo : MethodName := ⟨RX10, "letTo", "(IZ)I"⟩
abbrev cX10_singerOf : ByteArray := prog_12_method_51_code
def yX10_singerOf : MethodName := ⟨RX10, "singerOf", "(II)I"⟩
abbrev cX10_tonesIn : ByteArray := prog_12_method_52_code
def yX10_tonesIn : MethodName := ⟨RX10, "tonesIn", "(III)I"⟩
abbrev cX10_isInside : ByteArray := prog_12_method_53_code
def yX10_isInside : MethodName := ⟨RX10, "isInside", "(I)Z"⟩
abbrev cX10_tonesNow : ByteArray := prog_12_method_54_code
def yX10_tonesNow : MethodName := ⟨RX10, "tonesNow", "(I)I"⟩
abbrev cX10_tones : ByteArray := prog_12_method_55_code
def yX10_tones : MethodName := ⟨RX10, "tones", "(I)I"⟩
abbrev cX10_tonesAgain : ByteArray := prog_12_method_56_code
def yX10_tonesAgain : MethodName := ⟨RX10, "tonesAgain", "(I)I"⟩
abbrev cX10_versesNow : ByteArray := prog_12_method_57_code
def yX10_versesNow : MethodName := ⟨RX10, "versesNow", "(I)I"⟩
abbrev cX10_verses : ByteArray := prog_12_method_58_code
def yX10_verses : MethodName := ⟨RX10, "verses", "(I)I"⟩
abbrev cX10_versesAgain : ByteArray := prog_12_method_59_code
def yX10_versesAgain : MethodName := ⟨RX10, "versesAgain", "(I)I"⟩
abbrev cX10_would : ByteArray := prog_12_method_60_code
def yX10_would : MethodName := ⟨RX10, "would", "(II)I"⟩
abbrev cX10_bestRoom : ByteArray := prog_12_method_61_code
def yX10_bestRoom : MethodName := ⟨RX10, "bestRoom", "(I)I"⟩
abbrev cX10_canEnter : ByteArray := prog_12_method_62_code
def yX10_canEnter : MethodName := ⟨RX10, "canEnter", "(II)Z"⟩
abbrev cX10_canRent : ByteArray := prog_12_method_63_code
def yX10_canRent : MethodName := ⟨RX10, "canRent", "(II)Z"⟩
abbrev cX10_backFor : ByteArray := prog_12_method_64_code
def yX10_backFor : MethodName := ⟨RX10, "backFor", "(I)I"⟩
abbrev cX10_others : ByteArray := prog_12_method_65_code
def yX10_others : MethodName := ⟨RX10, "others", "(I)I"⟩
abbrev cX10_free : ByteArray := prog_12_method_66_code
def yX10_free : MethodName := ⟨RX10, "free", "(I)I"⟩
abbrev cX10_dryIn : ByteArray := prog_12_method_67_code
def yX10_dryIn : MethodName := ⟨RX10, "dryIn", "(I)I"⟩
abbrev cX10_dampest : ByteArray := prog_12_method_68_code
def yX10_dampest : MethodName := ⟨RX10, "dampest", "(I)I"⟩
abbrev cX10_rankOf : ByteArray := prog_12_method_69_code
def yX10_rankOf : MethodName := ⟨RX10, "rankOf", "(II)I"⟩
abbrev cX10_ranked : ByteArray := prog_12_method_70_code
def yX10_ranked : MethodName := ⟨RX10, "ranked", "(II)I"⟩
abbrev cX10_strongest : ByteArray := prog_12_method_71_code
def yX10_strongest : MethodName := ⟨RX10, "strongest", "(I)I"⟩
abbrev cX10_isTold : ByteArray := prog_12_method_72_code
def yX10_isTold : MethodName := ⟨RX10, "isTold", "()Z"⟩
abbrev cX10_put : ByteArray := prog_12_method_73_code
def yX10_put : MethodName := ⟨RX10, "put", "(II)I"⟩
abbrev cX10_writesNumber : ByteArray := prog_12_method_74_code
def yX10_writesNumber : MethodName := ⟨RX10, "writesNumber", "(II)I"⟩
abbrev cX10_tellRoom : ByteArray := prog_12_method_75_code
def yX10_tellRoom : MethodName := ⟨RX10, "tellRoom", "(I)I"⟩
abbrev cX10_tellEcho : ByteArray := prog_12_method_76_code
def yX10_tellEcho : MethodName := ⟨RX10, "tellEcho", "(I)I"⟩
abbrev cX10_tellSinger : ByteArray := prog_12_method_77_code
def yX10_tellSinger : MethodName := ⟨RX10, "tellSinger", "(I)I"⟩
abbrev cX10_character : ByteArray := prog_12_method_78_code
def yX10_character : MethodName := ⟨RX10, "character", "(I)C"⟩
abbrev cX10_allDamp : ByteArray := prog_12_method_79_code
def yX10_allDamp : MethodName := ⟨RX10, "allDamp", "()I"⟩
abbrev cX10_allLet : ByteArray := prog_12_method_80_code
def yX10_allLet : MethodName := ⟨RX10, "allLet", "()I"⟩
abbrev cX10_account : ByteArray := prog_12_method_81_code
def yX10_account : MethodName := ⟨RX10, "account", "(I)I"⟩
abbrev cX10_meanDamp : ByteArray := prog_12_method_82_code
def yX10_meanDamp : MethodName := ⟨RX10, "meanDamp", "()D"⟩
abbrev cX10_letShare : ByteArray := prog_12_method_83_code
def yX10_letShare : MethodName := ⟨RX10, "letShare", "()F"⟩
abbrev cX10_append : ByteArray := prog_12_method_84_code
def yX10_append : MethodName := ⟨RX10, "append", "(C)I"⟩
abbrev cX10_faultPosition : ByteArray := prog_12_method_85_code
def yX10_faultPosition : MethodName := ⟨RX10, "faultPosition", "()I"⟩
abbrev cX10_letterHere : ByteArray := prog_12_method_86_code
def yX10_letterHere : MethodName := ⟨RX10, "letterHere", "()I"⟩
abbrev cX10_reads : ByteArray := prog_12_method_87_code
def yX10_reads : MethodName := ⟨RX10, "reads", "(II)I"⟩
abbrev cX10_digit : ByteArray := prog_12_method_88_code
def yX10_digit : MethodName := ⟨RX10, "digit", "()I"⟩
abbrev cX10_behind : ByteArray := prog_12_method_89_code
def yX10_behind : MethodName := ⟨RX10, "behind", "()I"⟩
abbrev cX10_startOf : ByteArray := prog_12_method_90_code
def yX10_startOf : MethodName := ⟨RX10, "startOf", "(I)I"⟩
abbrev cX10_kindHere : ByteArray := prog_12_method_91_code
def yX10_kindHere : MethodName := ⟨RX10, "kindHere", "()I"⟩
abbrev cX10_readsCommand : ByteArray := prog_12_method_92_code
def yX10_readsCommand : MethodName := ⟨RX10, "readsCommand", "()V"⟩
abbrev cX10_readsAll : ByteArray := prog_12_method_93_code
def yX10_readsAll : MethodName := ⟨RX10, "readsAll", "()V"⟩
abbrev cX10_does : ByteArray := prog_12_method_94_code
def yX10_does : MethodName := ⟨RX10, "does", "(I)I"⟩
abbrev cX10_run : ByteArray := prog_12_method_95_code
def yX10_run : MethodName := ⟨RX10, "run", "()I"⟩
def RJx145de : String := "java/io/Serializable"
def TJx145de : u_T := fun k => match k with
  | _ => ("", "", "", false)
def tyJx145de : Nat → FieldType := fun k => match k with
  | _ => .int
abbrev wsJx145de0 : List Cond := u_ws RJx145de TJx145de 0
theorem nmJx145de : ∀ a, a < 0 → ∀ b, b < 0 → a ≠ b → (TJx145de a).2.1 ≠ (TJx145de b).2.1 := by decide +kernel
theorem tyJx145de_ok : ∀ k, k < 0 → parseFieldDescriptor (TJx145de k).2.2.1 = some (tyJx145de k) := by decide +kernel
def RJ5 : String := "java/lang/AbstractStringBuilder"
def TJ5 : u_T := fun k => match k with
  | _ => ("", "", "", false)
def tyJ5 : Nat → FieldType := fun k => match k with
  | _ => .int
abbrev wsJ50 : List Cond := u_ws RJ5 TJ5 0
theorem nmJ5 : ∀ a, a < 0 → ∀ b, b < 0 → a ≠ b → (TJ5 a).2.1 ≠ (TJ5 b).2.1 := by decide +kernel
theorem tyJ5_ok : ∀ k, k < 0 → parseFieldDescriptor (TJ5 k).2.2.1 = some (tyJ5 k) := by decide +kernel
abbrev cJ5_init_d00df : ByteArray := prog_14_method_2_code
def yJ5_init_d00df : MethodName := ⟨RJ5, "<init>", "(I)V"⟩
abbrev cJ5_length_8abf5 : ByteArray := prog_14_method_6_code
def yJ5_length_8abf5 : MethodName := ⟨RJ5, "length", "()I"⟩
abbrev cJ5_ensureCapacityInternal_d00df : ByteArray := prog_14_method_9_code
def yJ5_ensureCapacityInternal_d00df : MethodName := ⟨RJ5, "ensureCapacityInternal", "(I)V"⟩
abbrev cJ5_newCapacity_0f7a4 : ByteArray := prog_14_method_10_code
def yJ5_newCapacity_0f7a4 : MethodName := ⟨RJ5, "newCapacity", "(I)I"⟩
abbrev cJ5_inflate_da8c8 : ByteArray := prog_14_method_11_code
def yJ5_inflate_da8c8 : MethodName := ⟨RJ5, "inflate", "()V"⟩
abbrev cJ5_setLength_d00df : ByteArray := prog_14_method_13_code
def yJ5_setLength_d00df : MethodName := ⟨RJ5, "setLength", "(I)V"⟩
abbrev cJ5_charAt_5068e : ByteArray := prog_14_method_14_code
def yJ5_charAt_5068e : MethodName := ⟨RJ5, "charAt", "(I)C"⟩
abbrev cJ5_append_cf1ce : ByteArray := prog_14_method_22_code
def yJ5_append_cf1ce : MethodName := ⟨RJ5, "append", "(Ljava/lang/String;)Ljava/lang/AbstractStringBuilder;"⟩
abbrev cJ5_appendNull_278bc : ByteArray := prog_14_method_26_code
def yJ5_appendNull_278bc : MethodName := ⟨RJ5, "appendNull", "()Ljava/lang/AbstractStringBuilder;"⟩
abbrev cJ5_append_3fe6f : ByteArray := prog_14_method_31_code
def yJ5_append_3fe6f : MethodName := ⟨RJ5, "append", "(C)Ljava/lang/AbstractStringBuilder;"⟩
abbrev cJ5_append_c97b9 : ByteArray := prog_14_method_32_code
def yJ5_append_c97b9 : MethodName := ⟨RJ5, "append", "(I)Ljava/lang/AbstractStringBuilder;"⟩
abbrev cJ5_getValue_6d5f1 : ByteArray := prog_14_method_64_code
def yJ5_getValue_6d5f1 : MethodName := ⟨RJ5, "getValue", "()[B"⟩
abbrev cJ5_isLatin1_aae02 : ByteArray := prog_14_method_68_code
def yJ5_isLatin1_aae02 : MethodName := ⟨RJ5, "isLatin1", "()Z"⟩
abbrev cJ5_inflateIfNeededFor_a7421 : ByteArray := prog_14_method_71_code
def yJ5_inflateIfNeededFor_a7421 : MethodName := ⟨RJ5, "inflateIfNeededFor", "(Ljava/lang/String;)V"⟩
abbrev cJ5_putStringAt_47b60 : ByteArray := prog_14_method_73_code
def yJ5_putStringAt_47b60 : MethodName := ⟨RJ5, "putStringAt", "(ILjava/lang/String;)V"⟩
def RJx2cfe8 : String := "java/lang/Appendable"
def TJx2cfe8 : u_T := fun k => match k with
  | _ => ("", "", "", false)
def tyJx2cfe8 : Nat → FieldType := fun k => match k with
  | _ => .int
abbrev wsJx2cfe80 : List Cond := u_ws RJx2cfe8 TJx2cfe8 0
theorem nmJx2cfe8 : ∀ a, a < 0 → ∀ b, b < 0 → a ≠ b → (TJx2cfe8 a).2.1 ≠ (TJx2cfe8 b).2.1 := by decide +kernel
theorem tyJx2cfe8_ok : ∀ k, k < 0 → parseFieldDescriptor (TJx2cfe8 k).2.2.1 = some (tyJx2cfe8 k) := by decide +kernel
def RJx00060 : String := "java/lang/ArrayIndexOutOfBoundsException"
def TJx00060 : u_T := fun k => match k with
  | 0 => ("java/lang/Throwable", "backtrace", "Ljava/lang/Object;", false)
  | 1 => ("java/lang/Throwable", "detailMessage", "Ljava/lang/String;", false)
  | 2 => ("java/lang/Throwable", "cause", "Ljava/lang/Throwable;", false)
  | 3 => ("java/lang/Throwable", "stackTrace", "[Ljava/lang/StackTraceElement;", false)
  | 4 => ("java/lang/Throwable", "depth", "I", false)
  | _ => ("java/lang/Throwable", "suppressedExceptions", "Ljava/util/List;", false)
def tyJx00060 : Nat → FieldType := fun k => match k with
  | 0 => .object "java/lang/Object"
  | 1 => .object "java/lang/String"
  | 2 => .object "java/lang/Throwable"
  | 3 => .array (.object "java/lang/StackTraceElement")
  | 4 => .int
  | _ => .object "java/util/List"
abbrev wsJx000600 : List Cond := u_ws RJx00060 TJx00060 6
theorem nmJx00060 : ∀ a, a < 6 → ∀ b, b < 6 → a ≠ b → (TJx00060 a).2.1 ≠ (TJx00060 b).2.1 := by decide +kernel
theorem tyJx00060_ok : ∀ k, k < 6 → parseFieldDescriptor (TJx00060 k).2.2.1 = some (tyJx00060 k) := by decide +kernel
abbrev cJx00060_init_a7421 : ByteArray := prog_17_method_2_code
def yJx00060_init_a7421 : MethodName := ⟨RJx00060, "<init>", "(Ljava/lang/String;)V"⟩
abbrev cJx00060_init_d00df : ByteArray := prog_17_method_3_code
def yJx00060_init_d00df : MethodName := ⟨RJx00060, "<init>", "(I)V"⟩
def RJx9f9b0 : String := "java/lang/CharSequence"
def TJx9f9b0 : u_T := fun k => match k with
  | _ => ("", "", "", false)
def tyJx9f9b0 : Nat → FieldType := fun k => match k with
  | _ => .int
abbrev wsJx9f9b00 : List Cond := u_ws RJx9f9b0 TJx9f9b0 0
theorem nmJx9f9b0 : ∀ a, a < 0 → ∀ b, b < 0 → a ≠ b → (TJx9f9b0 a).2.1 ≠ (TJx9f9b0 b).2.1 := by decide +kernel
theorem tyJx9f9b0_ok : ∀ k, k < 0 → parseFieldDescriptor (TJx9f9b0 k).2.2.1 = some (tyJx9f9b0 k) := by decide +kernel
def RJx8e188 : String := "java/lang/Cloneable"
def TJx8e188 : u_T := fun k => match k with
  | _ => ("", "", "", false)
def tyJx8e188 : Nat → FieldType := fun k => match k with
  | _ => .int
abbrev wsJx8e1880 : List Cond := u_ws RJx8e188 TJx8e188 0
theorem nmJx8e188 : ∀ a, a < 0 → ∀ b, b < 0 → a ≠ b → (TJx8e188 a).2.1 ≠ (TJx8e188 b).2.1 := by decide +kernel
theorem tyJx8e188_ok : ∀ k, k < 0 → parseFieldDescriptor (TJx8e188 k).2.2.1 = some (tyJx8e188 k) := by decide +kernel
def RJxb160c : String := "java/lang/Comparable"
def TJxb160c : u_T := fun k => match k with
  | _ => ("", "", "", false)
def tyJxb160c : Nat → FieldType := fun k => match k with
  | _ => .int
abbrev wsJxb160c0 : List Cond := u_ws RJxb160c TJxb160c 0
theorem nmJxb160c : ∀ a, a < 0 → ∀ b, b < 0 → a ≠ b → (TJxb160c a).2.1 ≠ (TJxb160c b).2.1 := by decide +kernel
theorem tyJxb160c_ok : ∀ k, k < 0 → parseFieldDescriptor (TJxb160c k).2.2.1 = some (tyJxb160c k) := by decide +kernel
def RJx29ce0 : String := "java/lang/Enum"
def TJx29ce0 : u_T := fun k => match k with
  | _ => ("", "", "", false)
def tyJx29ce0 : Nat → FieldType := fun k => match k with
  | _ => .int
abbrev wsJx29ce00 : List Cond := u_ws RJx29ce0 TJx29ce0 0
theorem nmJx29ce0 : ∀ a, a < 0 → ∀ b, b < 0 → a ≠ b → (TJx29ce0 a).2.1 ≠ (TJx29ce0 b).2.1 := by decide +kernel
theorem tyJx29ce0_ok : ∀ k, k < 0 → parseFieldDescriptor (TJx29ce0 k).2.2.1 = some (tyJx29ce0 k) := by decide +kernel
abbrev cJx29ce0_ordinal_8abf5 : ByteArray := prog_21_method_2_code
def yJx29ce0_ordinal_8abf5 : MethodName := ⟨RJx29ce0, "ordinal", "()I"⟩
def RJ6 : String := "java/lang/Integer"
def TJ6 : u_T := fun k => match k with
  | _ => ("", "", "", false)
def tyJ6 : Nat → FieldType := fun k => match k with
  | _ => .int
abbrev wsJ60 : List Cond := u_ws RJ6 TJ6 0
theorem nmJ6 : ∀ a, a < 0 → ∀ b, b < 0 → a ≠ b → (TJ6 a).2.1 ≠ (TJ6 b).2.1 := by decide +kernel
theorem tyJ6_ok : ∀ k, k < 0 → parseFieldDescriptor (TJ6 k).2.2.1 = some (tyJ6 k) := by decide +kernel
abbrev cJ6_getChars_ba4f3 : ByteArray := prog_26_method_12_code
def yJ6_getChars_ba4f3 : MethodName := ⟨RJ6, "getChars", "(II[B)I"⟩
abbrev cJ6_stringSize_0f7a4 : ByteArray := prog_26_method_13_code
def yJ6_stringSize_0f7a4 : MethodName := ⟨RJ6, "stringSize", "(I)I"⟩
abbrev cJ6_bitCount_0f7a4 : ByteArray := prog_26_method_49_code
def yJ6_bitCount_0f7a4 : MethodName := ⟨RJ6, "bitCount", "(I)I"⟩
def RJ9 : String := "java/lang/Math"
def TJ9 : u_T := fun k => match k with
  | _ => ("", "", "", false)
def tyJ9 : Nat → FieldType := fun k => match k with
  | _ => .int
abbrev wsJ90 : List Cond := u_ws RJ9 TJ9 0
theorem nmJ9 : ∀ a, a < 0 → ∀ b, b < 0 → a ≠ b → (TJ9 a).2.1 ≠ (TJ9 b).2.1 := by decide +kernel
theorem tyJ9_ok : ∀ k, k < 0 → parseFieldDescriptor (TJ9 k).2.2.1 = some (tyJ9 k) := by decide +kernel
abbrev cJ9_max_7cf53 : ByteArray := prog_27_method_65_code
def yJ9_max_7cf53 : MethodName := ⟨RJ9, "max", "(II)I"⟩
abbrev cJ9_min_7cf53 : ByteArray := prog_27_method_69_code
def yJ9_min_7cf53 : MethodName := ⟨RJ9, "min", "(II)I"⟩
def RJxd2413 : String := "java/lang/Number"
def TJxd2413 : u_T := fun k => match k with
  | _ => ("", "", "", false)
def tyJxd2413 : Nat → FieldType := fun k => match k with
  | _ => .int
abbrev wsJxd24130 : List Cond := u_ws RJxd2413 TJxd2413 0
theorem nmJxd2413 : ∀ a, a < 0 → ∀ b, b < 0 → a ≠ b → (TJxd2413 a).2.1 ≠ (TJxd2413 b).2.1 := by decide +kernel
theorem tyJxd2413_ok : ∀ k, k < 0 → parseFieldDescriptor (TJxd2413 k).2.2.1 = some (tyJxd2413 k) := by decide +kernel
def RJ0 : String := "java/lang/String"
def TJ0 : u_T := fun k => match k with
  | 0 => ("java/lang/String", "value", "[B", true)
  | 1 => ("java/lang/String", "coder", "B", true)
  | 2 => ("java/lang/String", "hash", "I", false)
  | _ => ("java/lang/String", "hashIsZero", "Z", false)
def tyJ0 : Nat → FieldType := fun k => match k with
  | 0 => .array .byte
  | 1 => .byte
  | 2 => .int
  | _ => .boolean
abbrev wsJ00 : List Cond := u_ws RJ0 TJ0 4
theorem nmJ0 : ∀ a, a < 4 → ∀ b, b < 4 → a ≠ b → (TJ0 a).2.1 ≠ (TJ0 b).2.1 := by decide +kernel
theorem tyJ0_ok : ∀ k, k < 4 → parseFieldDescriptor (TJ0 k).2.2.1 = some (tyJ0 k) := by decide +kernel
abbrev cJ0_init_81219 : ByteArray := prog_30_method_53_code
def yJ0_init_81219 : MethodName := ⟨RJ0, "<init>", "(Ljava/lang/StringBuilder;)V"⟩
abbrev cJ0_length_8abf5 : ByteArray := prog_30_method_54_code
def yJ0_length_8abf5 : MethodName := ⟨RJ0, "length", "()I"⟩
abbrev cJ0_charAt_5068e : ByteArray := prog_30_method_56_code
def yJ0_charAt_5068e : MethodName := ⟨RJ0, "charAt", "(I)C"⟩
abbrev cJ0_getBytes_840e7 : ByteArray := prog_30_method_147_code
def yJ0_getBytes_840e7 : MethodName := ⟨RJ0, "getBytes", "([BIB)V"⟩
abbrev cJ0_init_db425 : ByteArray := prog_30_method_150_code
def yJ0_init_db425 : MethodName := ⟨RJ0, "<init>", "(Ljava/lang/AbstractStringBuilder;Ljava/lang/Void;)V"⟩
abbrev cJ0_coder_7d493 : ByteArray := prog_30_method_152_code
def yJ0_coder_7d493 : MethodName := ⟨RJ0, "coder", "()B"⟩
abbrev cJ0_isLatin1_aae02 : ByteArray := prog_30_method_154_code
def yJ0_isLatin1_aae02 : MethodName := ⟨RJ0, "isLatin1", "()Z"⟩
abbrev cJ0_checkIndex_df160 : ByteArray := prog_30_method_155_code
def yJ0_checkIndex_df160 : MethodName := ⟨RJ0, "checkIndex", "(II)V"⟩
abbrev cJ0_checkBoundsOffCount_cabcc : ByteArray := prog_30_method_157_code
def yJ0_checkBoundsOffCount_cabcc : MethodName := ⟨RJ0, "checkBoundsOffCount", "(III)I"⟩
abbrev cJ0_checkBoundsBeginEnd_23922 : ByteArray := prog_30_method_158_code
def yJ0_checkBoundsBeginEnd_23922 : MethodName := ⟨RJ0, "checkBoundsBeginEnd", "(III)V"⟩
def RJ4 : String := "java/lang/StringBuilder"
def TJ4 : u_T := fun k => match k with
  | 0 => ("java/lang/AbstractStringBuilder", "value", "[B", false)
  | 1 => ("java/lang/AbstractStringBuilder", "coder", "B", false)
  | 2 => ("java/lang/AbstractStringBuilder", "maybeLatin1", "Z", false)
  | _ => ("java/lang/AbstractStringBuilder", "count", "I", false)
def tyJ4 : Nat → FieldType := fun k => match k with
  | 0 => .array .byte
  | 1 => .byte
  | 2 => .boolean
  | _ => .int
abbrev wsJ40 : List Cond := u_ws RJ4 TJ4 4
theorem nmJ4 : ∀ a, a < 4 → ∀ b, b < 4 → a ≠ b → (TJ4 a).2.1 ≠ (TJ4 b).2.1 := by decide +kernel
theorem tyJ4_ok : ∀ k, k < 4 → parseFieldDescriptor (TJ4 k).2.2.1 = some (tyJ4 k) := by decide +kernel
abbrev cJ4_init_da8c8 : ByteArray := prog_31_method_1_code
def yJ4_init_da8c8 : MethodName := ⟨RJ4, "<init>", "()V"⟩
abbrev cJ4_append_15ec4 : ByteArray := prog_31_method_7_code
def yJ4_append_15ec4 : MethodName := ⟨RJ4, "append", "(Ljava/lang/String;)Ljava/lang/StringBuilder;"⟩
abbrev cJ4_append_cf468 : ByteArray := prog_31_method_14_code
def yJ4_append_cf468 : MethodName := ⟨RJ4, "append", "(C)Ljava/lang/StringBuilder;"⟩
abbrev cJ4_append_bf812 : ByteArray := prog_31_method_15_code
def yJ4_append_bf812 : MethodName := ⟨RJ4, "append", "(I)Ljava/lang/StringBuilder;"⟩
abbrev cJ4_toString_0e30d : ByteArray := prog_31_method_42_code
def yJ4_toString_0e30d : MethodName := ⟨RJ4, "toString", "()Ljava/lang/String;"⟩
abbrev cJ4_charAt_5068e : ByteArray := prog_31_method_88_code
def yJ4_charAt_5068e : MethodName := ⟨RJ4, "charAt", "(I)C"⟩
abbrev cJ4_setLength_d00df : ByteArray := prog_31_method_89_code
def yJ4_setLength_d00df : MethodName := ⟨RJ4, "setLength", "(I)V"⟩
abbrev cJ4_length_8abf5 : ByteArray := prog_31_method_93_code
def yJ4_length_8abf5 : MethodName := ⟨RJ4, "length", "()I"⟩
def RJx7c733 : String := "java/lang/StringIndexOutOfBoundsException"
def TJx7c733 : u_T := fun k => match k with
  | 0 => ("java/lang/Throwable", "backtrace", "Ljava/lang/Object;", false)
  | 1 => ("java/lang/Throwable", "detailMessage", "Ljava/lang/String;", false)
  | 2 => ("java/lang/Throwable", "cause", "Ljava/lang/Throwable;", false)
  | 3 => ("java/lang/Throwable", "stackTrace", "[Ljava/lang/StackTraceElement;", false)
  | 4 => ("java/lang/Throwable", "depth", "I", false)
  | _ => ("java/lang/Throwable", "suppressedExceptions", "Ljava/util/List;", false)
def tyJx7c733 : Nat → FieldType := fun k => match k with
  | 0 => .object "java/lang/Object"
  | 1 => .object "java/lang/String"
  | 2 => .object "java/lang/Throwable"
  | 3 => .array (.object "java/lang/StackTraceElement")
  | 4 => .int
  | _ => .object "java/util/List"
abbrev wsJx7c7330 : List Cond := u_ws RJx7c733 TJx7c733 6
theorem nmJx7c733 : ∀ a, a < 6 → ∀ b, b < 6 → a ≠ b → (TJx7c733 a).2.1 ≠ (TJx7c733 b).2.1 := by decide +kernel
theorem tyJx7c733_ok : ∀ k, k < 6 → parseFieldDescriptor (TJx7c733 k).2.2.1 = some (tyJx7c733 k) := by decide +kernel
abbrev cJx7c733_init_d00df : ByteArray := prog_32_method_3_code
def yJx7c733_init_d00df : MethodName := ⟨RJx7c733, "<init>", "(I)V"⟩
def RJ1 : String := "java/lang/StringLatin1"
def TJ1 : u_T := fun k => match k with
  | _ => ("", "", "", false)
def tyJ1 : Nat → FieldType := fun k => match k with
  | _ => .int
abbrev wsJ10 : List Cond := u_ws RJ1 TJ1 0
theorem nmJ1 : ∀ a, a < 0 → ∀ b, b < 0 → a ≠ b → (TJ1 a).2.1 ≠ (TJ1 b).2.1 := by decide +kernel
theorem tyJ1_ok : ∀ k, k < 0 → parseFieldDescriptor (TJ1 k).2.2.1 = some (tyJ1 k) := by decide +kernel
abbrev cJ1_charAt_3b067 : ByteArray := prog_33_method_2_code
def yJ1_charAt_3b067 : MethodName := ⟨RJ1, "charAt", "([BI)C"⟩
abbrev cJ1_canEncode_fc78d : ByteArray := prog_33_method_3_code
def yJ1_canEncode_fc78d : MethodName := ⟨RJ1, "canEncode", "(C)Z"⟩
abbrev cJ1_fillNull_b72d1 : ByteArray := prog_33_method_48_code
def yJ1_fillNull_b72d1 : MethodName := ⟨RJ1, "fillNull", "([BII)V"⟩
abbrev cJ1_inflate_0e8fd : ByteArray := prog_33_method_50_code
def yJ1_inflate_0e8fd : MethodName := ⟨RJ1, "inflate", "([BI[BII)V"⟩
def RJ2 : String := "java/lang/StringUTF16"
def TJ2 : u_T := fun k => match k with
  | _ => ("", "", "", false)
def tyJ2 : Nat → FieldType := fun k => match k with
  | _ => .int
abbrev wsJ20 : List Cond := u_ws RJ2 TJ2 0
theorem nmJ2 : ∀ a, a < 0 → ∀ b, b < 0 → a ≠ b → (TJ2 a).2.1 ≠ (TJ2 b).2.1 := by decide +kernel
theorem tyJ2_ok : ∀ k, k < 0 → parseFieldDescriptor (TJ2 k).2.2.1 = some (tyJ2 k) := by decide +kernel
abbrev cJ2_newBytesFor_77867 : ByteArray := prog_34_method_2_code
def yJ2_newBytesFor_77867 : MethodName := ⟨RJ2, "newBytesFor", "(I)[B"⟩
abbrev cJ2_newBytesLength_0f7a4 : ByteArray := prog_34_method_3_code
def yJ2_newBytesLength_0f7a4 : MethodName := ⟨RJ2, "newBytesLength", "(I)I"⟩
abbrev cJ2_putChar_b72d1 : ByteArray := prog_34_method_4_code
def yJ2_putChar_b72d1 : MethodName := ⟨RJ2, "putChar", "([BII)V"⟩
abbrev cJ2_getChar_3b067 : ByteArray := prog_34_method_5_code
def yJ2_getChar_3b067 : MethodName := ⟨RJ2, "getChar", "([BI)C"⟩
abbrev cJ2_length_9d52b : ByteArray := prog_34_method_6_code
def yJ2_length_9d52b : MethodName := ⟨RJ2, "length", "([B)I"⟩
abbrev cJ2_coderFromArrayLen_85cad : ByteArray := prog_34_method_15_code
def yJ2_coderFromArrayLen_85cad : MethodName := ⟨RJ2, "coderFromArrayLen", "([BI)B"⟩
abbrev cJ2_compress_39247 : ByteArray := prog_34_method_17_code
def yJ2_compress_39247 : MethodName := ⟨RJ2, "compress", "([BII)[B"⟩
abbrev cJ2_compress_5af95 : ByteArray := prog_34_method_22_code
def yJ2_compress_5af95 : MethodName := ⟨RJ2, "compress", "([BI[BII)I"⟩
abbrev cJ2_fillNull_b72d1 : ByteArray := prog_34_method_70_code
def yJ2_fillNull_b72d1 : MethodName := ⟨RJ2, "fillNull", "([BII)V"⟩
abbrev cJ2_putCharSB_b72d1 : ByteArray := prog_34_method_71_code
def yJ2_putCharSB_b72d1 : MethodName := ⟨RJ2, "putCharSB", "([BII)V"⟩
abbrev cJ2_getChars_46870 : ByteArray := prog_34_method_77_code
def yJ2_getChars_46870 : MethodName := ⟨RJ2, "getChars", "(III[B)I"⟩
abbrev cJ2_putCharsAt_cd4e5 : ByteArray := prog_34_method_81_code
def yJ2_putCharsAt_cd4e5 : MethodName := ⟨RJ2, "putCharsAt", "([BICCCC)I"⟩
abbrev cJ2_charAt_3b067 : ByteArray := prog_34_method_83_code
def yJ2_charAt_3b067 : MethodName := ⟨RJ2, "charAt", "([BI)C"⟩
abbrev cJ2_inflate_0e8fd : ByteArray := prog_34_method_86_code
def yJ2_inflate_0e8fd : MethodName := ⟨RJ2, "inflate", "([BI[BII)V"⟩
abbrev cJ2_getChars_ba4f3 : ByteArray := prog_34_method_89_code
def yJ2_getChars_ba4f3 : MethodName := ⟨RJ2, "getChars", "(II[B)I"⟩
abbrev cJ2_checkIndex_2214a : ByteArray := prog_34_method_91_code
def yJ2_checkIndex_2214a : MethodName := ⟨RJ2, "checkIndex", "(I[B)V"⟩
abbrev cJ2_checkBoundsBeginEnd_d044e : ByteArray := prog_34_method_93_code
def yJ2_checkBoundsBeginEnd_d044e : MethodName := ⟨RJ2, "checkBoundsBeginEnd", "(II[B)V"⟩
abbrev cJ2_checkBoundsOffCount_d044e : ByteArray := prog_34_method_94_code
def yJ2_checkBoundsOffCount_d044e : MethodName := ⟨RJ2, "checkBoundsOffCount", "(II[B)V"⟩
def RJ10 : String := "java/lang/System"
def TJ10 : u_T := fun k => match k with
  | _ => ("", "", "", false)
def tyJ10 : Nat → FieldType := fun k => match k with
  | _ => .int
abbrev wsJ100 : List Cond := u_ws RJ10 TJ10 0
theorem nmJ10 : ∀ a, a < 0 → ∀ b, b < 0 → a ≠ b → (TJ10 a).2.1 ≠ (TJ10 b).2.1 := by decide +kernel
theorem tyJ10_ok : ∀ k, k < 0 → parseFieldDescriptor (TJ10 k).2.2.1 = some (tyJ10 k) := by decide +kernel
def RJxfd54e : String := "java/lang/constant/Constable"
def TJxfd54e : u_T := fun k => match k with
  | _ => ("", "", "", false)
def tyJxfd54e : Nat → FieldType := fun k => match k with
  | _ => .int
abbrev wsJxfd54e0 : List Cond := u_ws RJxfd54e TJxfd54e 0
theorem nmJxfd54e : ∀ a, a < 0 → ∀ b, b < 0 → a ≠ b → (TJxfd54e a).2.1 ≠ (TJxfd54e b).2.1 := by decide +kernel
theorem tyJxfd54e_ok : ∀ k, k < 0 → parseFieldDescriptor (TJxfd54e k).2.2.1 = some (tyJxfd54e k) := by decide +kernel
def RJx3cf43 : String := "java/lang/constant/ConstantDesc"
def TJx3cf43 : u_T := fun k => match k with
  | _ => ("", "", "", false)
def tyJx3cf43 : Nat → FieldType := fun k => match k with
  | _ => .int
abbrev wsJx3cf430 : List Cond := u_ws RJx3cf43 TJx3cf43 0
theorem nmJx3cf43 : ∀ a, a < 0 → ∀ b, b < 0 → a ≠ b → (TJx3cf43 a).2.1 ≠ (TJx3cf43 b).2.1 := by decide +kernel
theorem tyJx3cf43_ok : ∀ k, k < 0 → parseFieldDescriptor (TJx3cf43 k).2.2.1 = some (tyJx3cf43 k) := by decide +kernel
def RJ7 : String := "java/util/Arrays"
def TJ7 : u_T := fun k => match k with
  | _ => ("", "", "", false)
def tyJ7 : Nat → FieldType := fun k => match k with
  | _ => .int
abbrev wsJ70 : List Cond := u_ws RJ7 TJ7 0
theorem nmJ7 : ∀ a, a < 0 → ∀ b, b < 0 → a ≠ b → (TJ7 a).2.1 ≠ (TJ7 b).2.1 := by decide +kernel
theorem tyJ7_ok : ∀ k, k < 0 → parseFieldDescriptor (TJ7 k).2.2.1 = some (tyJ7 k) := by decide +kernel
abbrev cJ7_rangeCheck_23922 : ByteArray := prog_40_method_30_code
def yJ7_rangeCheck_23922 : MethodName := ⟨RJ7, "rangeCheck", "(III)V"⟩
abbrev cJ7_fill_eb02e : ByteArray := prog_40_method_110_code
def yJ7_fill_eb02e : MethodName := ⟨RJ7, "fill", "([BIIB)V"⟩
abbrev cJ7_copyOf_9075b : ByteArray := prog_40_method_121_code
def yJ7_copyOf_9075b : MethodName := ⟨RJ7, "copyOf", "([BI)[B"⟩
abbrev cJ7_checkLength_df160 : ByteArray := prog_40_method_131_code
def yJ7_checkLength_df160 : MethodName := ⟨RJ7, "checkLength", "(II)V"⟩
abbrev cJ7_copyOfRange_39247 : ByteArray := prog_40_method_132_code
def yJ7_copyOfRange_39247 : MethodName := ⟨RJ7, "copyOfRange", "([BII)[B"⟩
abbrev cJ7_copyOfRangeByte_39247 : ByteArray := prog_40_method_133_code
def yJ7_copyOfRangeByte_39247 : MethodName := ⟨RJ7, "copyOfRangeByte", "([BII)[B"⟩
def RJ8 : String := "jdk/internal/util/ArraysSupport"
def TJ8 : u_T := fun k => match k with
  | _ => ("", "", "", false)
def tyJ8 : Nat → FieldType := fun k => match k with
  | _ => .int
abbrev wsJ80 : List Cond := u_ws RJ8 TJ8 0
theorem nmJ8 : ∀ a, a < 0 → ∀ b, b < 0 → a ≠ b → (TJ8 a).2.1 ≠ (TJ8 b).2.1 := by decide +kernel
theorem tyJ8_ok : ∀ k, k < 0 → parseFieldDescriptor (TJ8 k).2.2.1 = some (tyJ8 k) := by decide +kernel
abbrev cJ8_newLength_cabcc : ByteArray := prog_42_method_27_code
def yJ8_newLength_cabcc : MethodName := ⟨RJ8, "newLength", "(III)I"⟩
abbrev cJ8_hugeLength_7cf53 : ByteArray := prog_42_method_28_code
def yJ8_hugeLength_7cf53 : MethodName := ⟨RJ8, "hugeLength", "(II)I"⟩
def RJ3 : String := "jdk/internal/util/Preconditions"
def TJ3 : u_T := fun k => match k with
  | _ => ("", "", "", false)
def tyJ3 : Nat → FieldType := fun k => match k with
  | _ => .int
abbrev wsJ30 : List Cond := u_ws RJ3 TJ3 0
theorem nmJ3 : ∀ a, a < 0 → ∀ b, b < 0 → a ≠ b → (TJ3 a).2.1 ≠ (TJ3 b).2.1 := by decide +kernel
theorem tyJ3_ok : ∀ k, k < 0 → parseFieldDescriptor (TJ3 k).2.2.1 = some (tyJ3 k) := by decide +kernel
abbrev cJ3_checkIndex_8e157 : ByteArray := prog_43_method_11_code
def yJ3_checkIndex_8e157 : MethodName := ⟨RJ3, "checkIndex", "(IILjava/util/function/BiFunction;)I"⟩
abbrev cJ3_checkFromToIndex_8c36e : ByteArray := prog_43_method_12_code
def yJ3_checkFromToIndex_8c36e : MethodName := ⟨RJ3, "checkFromToIndex", "(IIILjava/util/function/BiFunction;)I"⟩
abbrev cJ3_checkFromIndexSize_8c36e : ByteArray := prog_43_method_13_code
def yJ3_checkFromIndexSize_8c36e : MethodName := ⟨RJ3, "checkFromIndexSize", "(IIILjava/util/function/BiFunction;)I"⟩
def RL : String := "EchoCouncilLaw"
abbrev cL_room : ByteArray := method_3_code
def yL_room : MethodName := ⟨RL, "room", "(LEchoCouncil;I[J)I"⟩
abbrev cL_echo : ByteArray := method_4_code
def yL_echo : MethodName := ⟨RL, "echo", "(LEchoCouncil;II[J)I"⟩
abbrev cL_singer : ByteArray := method_5_code
def yL_singer : MethodName := ⟨RL, "singer", "(LEchoCouncil;II[J)I"⟩
abbrev cL_enter : ByteArray := method_6_code
def yL_enter : MethodName := ⟨RL, "enter", "(LEchoCouncil;II[J)I"⟩
abbrev cL_out : ByteArray := method_7_code
def yL_out : MethodName := ⟨RL, "out", "(LEchoCouncil;I[J)I"⟩
abbrev cL_carry : ByteArray := method_8_code
def yL_carry : MethodName := ⟨RL, "carry", "(LEchoCouncil;II[J)I"⟩
abbrev cL_rent : ByteArray := method_9_code
def yL_rent : MethodName := ⟨RL, "rent", "(LEchoCouncil;III[J)I"⟩
abbrev cL_back : ByteArray := method_10_code
def yL_back : MethodName := ⟨RL, "back", "(LEchoCouncil;II[J)I"⟩
abbrev cL_sing : ByteArray := method_11_code
def yL_sing : MethodName := ⟨RL, "sing", "(LEchoCouncil;I[J)I"⟩
abbrev cL_roomOf : ByteArray := method_12_code
def yL_roomOf : MethodName := ⟨RL, "roomOf", "(LEchoCouncil;II[J)I"⟩
abbrev cL_echoOf : ByteArray := method_13_code
def yL_echoOf : MethodName := ⟨RL, "echoOf", "(LEchoCouncil;II[J)I"⟩
abbrev cL_singerOf : ByteArray := method_14_code
def yL_singerOf : MethodName := ⟨RL, "singerOf", "(LEchoCouncil;II[J)I"⟩
abbrev cL_tones : ByteArray := method_15_code
def yL_tones : MethodName := ⟨RL, "tones", "(LEchoCouncil;I[J)I"⟩
abbrev cL_tonesAgain : ByteArray := method_16_code
def yL_tonesAgain : MethodName := ⟨RL, "tonesAgain", "(LEchoCouncil;I[J)I"⟩
abbrev cL_verses : ByteArray := method_17_code
def yL_verses : MethodName := ⟨RL, "verses", "(LEchoCouncil;I[J)I"⟩
abbrev cL_versesAgain : ByteArray := method_18_code
def yL_versesAgain : MethodName := ⟨RL, "versesAgain", "(LEchoCouncil;I[J)I"⟩
abbrev cL_would : ByteArray := method_19_code
def yL_would : MethodName := ⟨RL, "would", "(LEchoCouncil;II[J)I"⟩
abbrev cL_bestRoom : ByteArray := method_20_code
def yL_bestRoom : MethodName := ⟨RL, "bestRoom", "(LEchoCouncil;I[J)I"⟩
abbrev cL_canEnter : ByteArray := method_21_code
def yL_canEnter : MethodName := ⟨RL, "canEnter", "(LEchoCouncil;II[J)I"⟩
abbrev cL_canRent : ByteArray := method_22_code
def yL_canRent : MethodName := ⟨RL, "canRent", "(LEchoCouncil;II[J)I"⟩
abbrev cL_backFor : ByteArray := method_23_code
def yL_backFor : MethodName := ⟨RL, "backFor", "(LEchoCouncil;I[J)I"⟩
abbrev cL_others : ByteArray := method_24_code
def yL_others : MethodName := ⟨RL, "others", "(LEchoCouncil;I[J)I"⟩
abbrev cL_free : ByteArray := method_25_code
def yL_free : MethodName := ⟨RL, "free", "(LEchoCouncil;I[J)I"⟩
abbrev cL_dryIn : ByteArray := method_26_code
def yL_dryIn : MethodName := ⟨RL, "dryIn", "(LEchoCouncil;I[J)I"⟩
abbrev cL_dampest : ByteArray := method_27_code
def yL_dampest : MethodName := ⟨RL, "dampest", "(LEchoCouncil;I[J)I"⟩
abbrev cL_ranked : ByteArray := method_28_code
def yL_ranked : MethodName := ⟨RL, "ranked", "(LEchoCouncil;II[J)I"⟩
abbrev cL_strongest : ByteArray := method_29_code
def yL_strongest : MethodName := ⟨RL, "strongest", "(LEchoCouncil;I[J)I"⟩
abbrev cL_append : ByteArray := method_30_code
def yL_append : MethodName := ⟨RL, "append", "(LEchoCouncil;C[J)I"⟩
abbrev cL_run : ByteArray := method_31_code
def yL_run : MethodName := ⟨RL, "run", "(LEchoCouncil;[J)I"⟩
abbrev cL_reason : ByteArray := method_32_code
def yL_reason : MethodName := ⟨RL, "reason", "(LEchoCouncil;IZ[J)I"⟩
abbrev cL_tellRoom : ByteArray := method_33_code
def yL_tellRoom : MethodName := ⟨RL, "tellRoom", "(LEchoCouncil;I[J)I"⟩
abbrev cL_tellEcho : ByteArray := method_34_code
def yL_tellEcho : MethodName := ⟨RL, "tellEcho", "(LEchoCouncil;I[J)I"⟩
abbrev cL_tellSinger : ByteArray := method_35_code
def yL_tellSinger : MethodName := ⟨RL, "tellSinger", "(LEchoCouncil;I[J)I"⟩
abbrev cL_character : ByteArray := method_36_code
def yL_character : MethodName := ⟨RL, "character", "(LEchoCouncil;I[J)I"⟩
abbrev cL_account : ByteArray := method_37_code
def yL_account : MethodName := ⟨RL, "account", "(LEchoCouncil;I[J)I"⟩
abbrev cL_meanDamp : ByteArray := method_38_code
def yL_meanDamp : MethodName := ⟨RL, "meanDamp", "(LEchoCouncil;[D)I"⟩
abbrev cL_letShare : ByteArray := method_39_code
def yL_letShare : MethodName := ⟨RL, "letShare", "(LEchoCouncil;[D)I"⟩
abbrev cL_undo : ByteArray := method_40_code
def yL_undo : MethodName := ⟨RL, "undo", "(LEchoCouncil;[J)I"⟩
abbrev cL_restore : ByteArray := method_41_code
def yL_restore : MethodName := ⟨RL, "restore", "(LEchoCouncil;[J)I"⟩
abbrev cL_law : ByteArray := code
def yL_law : MethodName := ⟨RL, "law", "([I)Z"⟩
abbrev vwCl : List vw_C := [(RJ0, TJ0, 4), (RJ4, TJ4, 4), (RJx00060, TJx00060, 6), (RJx7c733, TJx7c733, 6), (RX1, TX1, 6), (RX3, TX3, 7), (RX4, TX4, 3), (RX5, TX5, 6), (RX6, TX6, 4), (RX7, TX7, 6), (RX8, TX8, 7), (RX9, TX9, 8), (RX10, TX10, 23)]
def TW : List Cond := lw_tbl.filter goodWord
theorem tk_1 {w : Cond} (h : w ∈ tables_1_1) : w ∈ lw_tbl := List.mem_append_right _ (show w ∈ tables_1 from List.mem_append_left _ h)
theorem tk_2 {w : Cond} (h : w ∈ tables_1_2) : w ∈ lw_tbl := List.mem_append_right _ (show w ∈ tables_1 from List.mem_append_right _ (List.mem_append_left _ h))
theorem tk_3 {w : Cond} (h : w ∈ tables_1_3) : w ∈ lw_tbl := List.mem_append_right _ (show w ∈ tables_1 from List.mem_append_right _ (List.mem_append_right _ (List.mem_append_left _ h)))
theorem tk_4 {w : Cond} (h : w ∈ tables_1_4) : w ∈ lw_tbl := List.mem_append_right _ (show w ∈ tables_1 from List.mem_append_right _ (List.mem_append_right _ (List.mem_append_right _ (List.mem_append_left _ h))))
theorem tk_5 {w : Cond} (h : w ∈ tables_1_5) : w ∈ lw_tbl := List.mem_append_right _ (show w ∈ tables_1 from List.mem_append_right _ (List.mem_append_right _ (List.mem_append_right _ (List.mem_append_right _ (List.mem_append_left _ h)))))
theorem tk_6 {w : Cond} (h : w ∈ tables_1_6) : w ∈ lw_tbl := List.mem_append_right _ (show w ∈ tables_1 from List.mem_append_right _ (List.mem_append_right _ (List.mem_append_right _ (List.mem_append_right _ (List.mem_append_right _ (List.mem_append_left _ h))))))
theorem tk_7 {w : Cond} (h : w ∈ tables_1_7) : w ∈ lw_tbl := List.mem_append_right _ (show w ∈ tables_1 from List.mem_append_right _ (List.mem_append_right _ (List.mem_append_right _ (List.mem_append_right _ (List.mem_append_right _ (List.mem_append_right _ (List.mem_append_left _ h)))))))
theorem tk_8 {w : Cond} (h : w ∈ tables_1_8) : w ∈ lw_tbl := List.mem_append_right _ (show w ∈ tables_1 from List.mem_append_right _ (List.mem_append_right _ (List.mem_append_right _ (List.mem_append_right _ (List.mem_append_right _ (List.mem_append_right _ (List.mem_append_right _ (List.mem_append_left _ h))))))))
theorem tk_9 {w : Cond} (h : w ∈ tables_1_9) : w ∈ lw_tbl := List.mem_append_right _ (show w ∈ tables_1 from List.mem_append_right _ (List.mem_append_right _ (List.mem_append_right _ (List.mem_append_right _ (List.mem_append_right _ (List.mem_append_right _ (List.mem_append_right _ (List.mem_append_right _ (h)))))))))
theorem tk_w {w : Cond} (h : w ∈ lw_tbl) (g : goodWord w = true) : w ∈ TW := List.mem_filter.mpr ⟨h, g⟩
theorem tw_0 : (Cond.initialized "EchoCouncilLaw") ∈ lw_tbl := tk_1 (List.mem_of_getElem? (i := 0) (by decide +kernel))
theorem tw_1 : (Cond.initialized "EchoCouncil") ∈ lw_tbl := tk_1 (List.mem_of_getElem? (i := 1) (by decide +kernel))
theorem tw_2 : (Cond.initialized "EchoCouncil$State") ∈ lw_tbl := tk_1 (List.mem_of_getElem? (i := 2) (by decide +kernel))
theorem tw_3 : (Cond.initialized "EchoCouncil$Rooms") ∈ lw_tbl := tk_1 (List.mem_of_getElem? (i := 3) (by decide +kernel))
theorem tw_4 : (Cond.initialized "EchoCouncil$Echoes") ∈ lw_tbl := tk_1 (List.mem_of_getElem? (i := 4) (by decide +kernel))
theorem tw_5 : (Cond.initialized "EchoCouncil$Singers") ∈ lw_tbl := tk_1 (List.mem_of_getElem? (i := 5) (by decide +kernel))
theorem tw_6 : (Cond.initialized "EchoCouncil$Past") ∈ lw_tbl := tk_1 (List.mem_of_getElem? (i := 6) (by decide +kernel))
theorem tw_7 : (Cond.initialized "EchoCouncil$OrderText") ∈ lw_tbl := tk_1 (List.mem_of_getElem? (i := 7) (by decide +kernel))
theorem tw_8 : (Cond.initialized "java/lang/Enum") ∈ lw_tbl := tk_1 (List.mem_of_getElem? (i := 8) (by decide +kernel))
theorem tw_9 : (Cond.initialized "EchoCouncil$OrderKind") ∈ lw_tbl := tk_1 (List.mem_of_getElem? (i := 9) (by decide +kernel))
theorem tw_10 : (Cond.initialized "EchoCouncil$Refusal") ∈ lw_tbl := tk_1 (List.mem_of_getElem? (i := 10) (by decide +kernel))
theorem tw_11 : (Cond.initialized "java/lang/AbstractStringBuilder") ∈ lw_tbl := tk_1 (List.mem_of_getElem? (i := 11) (by decide +kernel))
theorem tw_12 : (Cond.initialized "java/lang/StringBuilder") ∈ lw_tbl := tk_1 (List.mem_of_getElem? (i := 12) (by decide +kernel))
theorem tw_13 : (Cond.initialized "java/lang/String") ∈ lw_tbl := tk_1 (List.mem_of_getElem? (i := 13) (by decide +kernel))
theorem tw_14 : (Cond.initialized "java/lang/StringUTF16") ∈ lw_tbl := tk_1 (List.mem_of_getElem? (i := 14) (by decide +kernel))
theorem tw_15 : (Cond.initialized "EchoCouncilModel") ∈ lw_tbl := tk_1 (List.mem_of_getElem? (i := 15) (by decide +kernel))
theorem tw_16 : (Cond.initialized "EchoCouncil$1") ∈ lw_tbl := tk_1 (List.mem_of_getElem? (i := 16) (by decide +kernel))
theorem tw_17 : (Cond.initialized "java/lang/Number") ∈ lw_tbl := tk_1 (List.mem_of_getElem? (i := 17) (by decide +kernel))
theorem tw_18 : (Cond.initialized "java/lang/Integer") ∈ lw_tbl := tk_1 (List.mem_of_getElem? (i := 18) (by decide +kernel))
theorem tw_19 : (Cond.initialized "java/lang/Throwable") ∈ lw_tbl := tk_1 (List.mem_of_getElem? (i := 19) (by decide +kernel))
theorem tw_20 : (Cond.initialized "java/lang/Exception") ∈ lw_tbl := tk_1 (List.mem_of_getElem? (i := 20) (by decide +kernel))
theorem tw_21 : (Cond.initialized "java/lang/RuntimeException") ∈ lw_tbl := tk_1 (List.mem_of_getElem? (i := 21) (by decide +kernel))
theorem tw_22 : (Cond.initialized "java/lang/UnsupportedOperationException") ∈ lw_tbl := tk_1 (List.mem_of_getElem? (i := 22) (by decide +kernel))
theorem tw_23 : (Cond.initialized "java/lang/System") ∈ lw_tbl := tk_1 (List.mem_of_getElem? (i := 23) (by decide +kernel))
theorem tw_24 : (Cond.initialized "java/lang/Math") ∈ lw_tbl := tk_1 (List.mem_of_getElem? (i := 24) (by decide +kernel))
theorem tw_25 : (Cond.initialized "java/lang/IndexOutOfBoundsException") ∈ lw_tbl := tk_1 (List.mem_of_getElem? (i := 25) (by decide +kernel))
theorem tw_26 : (Cond.initialized "java/lang/ArrayIndexOutOfBoundsException") ∈ lw_tbl := tk_1 (List.mem_of_getElem? (i := 26) (by decide +kernel))
theorem tw_27 : (Cond.initialized "java/lang/IllegalArgumentException") ∈ lw_tbl := tk_1 (List.mem_of_getElem? (i := 27) (by decide +kernel))
theorem tw_28 : (Cond.initialized "java/util/NoSuchElementException") ∈ lw_tbl := tk_1 (List.mem_of_getElem? (i := 28) (by decide +kernel))
theorem tw_29 : (Cond.initialized "java/lang/IllegalStateException") ∈ lw_tbl := tk_1 (List.mem_of_getElem? (i := 29) (by decide +kernel))
theorem tw_30 : (Cond.initialized "java/lang/StringLatin1") ∈ lw_tbl := tk_1 (List.mem_of_getElem? (i := 30) (by decide +kernel))
theorem tw_31 : (Cond.initialized "jdk/internal/util/Preconditions") ∈ lw_tbl := tk_1 (List.mem_of_getElem? (i := 31) (by decide +kernel))
theorem tw_32 : (Cond.initialized "java/lang/StringIndexOutOfBoundsException") ∈ lw_tbl := tk_1 (List.mem_of_getElem? (i := 32) (by decide +kernel))
theorem tw_33 : (Cond.initialized "jdk/internal/util/ArraysSupport") ∈ lw_tbl := tk_1 (List.mem_of_getElem? (i := 33) (by decide +kernel))
theorem tw_34 : (Cond.initialized "java/util/Arrays") ∈ lw_tbl := tk_1 (List.mem_of_getElem? (i := 34) (by decide +kernel))
theorem tw_35 : (Cond.initialized "java/lang/ArithmeticException") ∈ lw_tbl := tk_1 (List.mem_of_getElem? (i := 35) (by decide +kernel))
theorem tw_36 : (Cond.classLink "EchoCouncilLaw" 8 "EchoCouncil") ∈ lw_tbl := tk_1 (List.mem_of_getElem? (i := 36) (by decide +kernel))
theorem tw_37 : (Cond.instantiable "EchoCouncil" 8) ∈ lw_tbl := tk_1 (List.mem_of_getElem? (i := 37) (by decide +kernel))
theorem tw_38 : (Cond.methodLink "EchoCouncilLaw" 148 ⟨"EchoCouncil", "<init>", "()V"⟩) ∈ lw_tbl := tk_1 (List.mem_of_getElem? (i := 38) (by decide +kernel))
theorem tw_39 : (Cond.instanceMethod ⟨"EchoCouncil", "<init>", "()V"⟩) ∈ lw_tbl := tk_1 (List.mem_of_getElem? (i := 39) (by decide +kernel))
theorem tw_40 : (Cond.code ⟨"EchoCouncil", "<init>", "()V"⟩ prog_1_method_1_code 1 none) ∈ lw_tbl := tk_1 (List.mem_of_getElem? (i := 40) (by decide +kernel))
theorem tw_41 : (Cond.methodLink "EchoCouncil" 1 ⟨"java/lang/Object", "<init>", "()V"⟩) ∈ lw_tbl := tk_1 (List.mem_of_getElem? (i := 41) (by decide +kernel))
theorem tw_42 : (Cond.instanceMethod ⟨"java/lang/Object", "<init>", "()V"⟩) ∈ lw_tbl := tk_1 (List.mem_of_getElem? (i := 42) (by decide +kernel))
theorem tw_43 : (Cond.code ⟨"java/lang/Object", "<init>", "()V"⟩ object_method_1_code 1 none) ∈ lw_tbl := tk_1 (List.mem_of_getElem? (i := 43) (by decide +kernel))
theorem tw_44 : (Cond.classLink "EchoCouncil" 7 "EchoCouncil$State") ∈ lw_tbl := tk_1 (List.mem_of_getElem? (i := 44) (by decide +kernel))
theorem tw_45 : (Cond.instantiable "EchoCouncil$State" 7) ∈ lw_tbl := tk_1 (List.mem_of_getElem? (i := 45) (by decide +kernel))
theorem tw_46 : (Cond.methodLinkNest "EchoCouncil" 9 ⟨"EchoCouncil$State", "<init>", "()V"⟩ "EchoCouncil") ∈ lw_tbl := tk_1 (List.mem_of_getElem? (i := 46) (by decide +kernel))
theorem tw_47 : (Cond.instanceMethod ⟨"EchoCouncil$State", "<init>", "()V"⟩) ∈ lw_tbl := tk_1 (List.mem_of_getElem? (i := 47) (by decide +kernel))
theorem tw_48 : (Cond.code ⟨"EchoCouncil$State", "<init>", "()V"⟩ prog_10_method_1_code 1 none) ∈ lw_tbl := tk_1 (List.mem_of_getElem? (i := 48) (by decide +kernel))
theorem tw_49 : (Cond.methodLink "EchoCouncil$State" 3 ⟨"java/lang/Object", "<init>", "()V"⟩) ∈ lw_tbl := tk_1 (List.mem_of_getElem? (i := 49) (by decide +kernel))
theorem tw_50 : (Cond.classLink "EchoCouncil$State" 9 "EchoCouncil$Rooms") ∈ lw_tbl := tk_1 (List.mem_of_getElem? (i := 50) (by decide +kernel))
theorem tw_51 : (Cond.instantiable "EchoCouncil$Rooms" 4) ∈ lw_tbl := tk_1 (List.mem_of_getElem? (i := 51) (by decide +kernel))
theorem tw_52 : (Cond.methodLinkNest "EchoCouncil$State" 11 ⟨"EchoCouncil$Rooms", "<init>", "()V"⟩ "EchoCouncil") ∈ lw_tbl := tk_1 (List.mem_of_getElem? (i := 52) (by decide +kernel))
theorem tw_53 : (Cond.instanceMethod ⟨"EchoCouncil$Rooms", "<init>", "()V"⟩) ∈ lw_tbl := tk_1 (List.mem_of_getElem? (i := 53) (by decide +kernel))
theorem tw_54 : (Cond.code ⟨"EchoCouncil$Rooms", "<init>", "()V"⟩ prog_8_method_1_code 1 none) ∈ lw_tbl := tk_1 (List.mem_of_getElem? (i := 54) (by decide +kernel))
theorem tw_55 : (Cond.methodLink "EchoCouncil$Rooms" 3 ⟨"java/lang/Object", "<init>", "()V"⟩) ∈ lw_tbl := tk_1 (List.mem_of_getElem? (i := 55) (by decide +kernel))
theorem tw_56 : (Cond.fieldLink "EchoCouncil$Rooms" 21 "EchoCouncil$Rooms" "count" "I") ∈ lw_tbl := tk_1 (List.mem_of_getElem? (i := 56) (by decide +kernel))
theorem tw_57 : (Cond.fieldLink "EchoCouncil$State" 55 "EchoCouncil$Rooms" "count" "I") ∈ lw_tbl := tk_1 (List.mem_of_getElem? (i := 57) (by decide +kernel))
theorem tw_58 : (Cond.fieldLink "EchoCouncil" 200 "EchoCouncil$Rooms" "count" "I") ∈ lw_tbl := tk_1 (List.mem_of_getElem? (i := 58) (by decide +kernel))
theorem tw_59 : (Cond.fieldLink "EchoCouncil$Rooms" 9 "EchoCouncil$Rooms" "size" "[I") ∈ lw_tbl := tk_1 (List.mem_of_getElem? (i := 59) (by decide +kernel))
theorem tw_60 : (Cond.fieldLink "EchoCouncil$State" 83 "EchoCouncil$Rooms" "size" "[I") ∈ lw_tbl := tk_1 (List.mem_of_getElem? (i := 60) (by decide +kernel))
theorem tw_61 : (Cond.fieldLink "EchoCouncil" 100 "EchoCouncil$Rooms" "size" "[I") ∈ lw_tbl := tk_1 (List.mem_of_getElem? (i := 61) (by decide +kernel))
theorem tw_62 : (Cond.fieldLink "EchoCouncil$Rooms" 15 "EchoCouncil$Rooms" "damp" "[I") ∈ lw_tbl := tk_1 (List.mem_of_getElem? (i := 62) (by decide +kernel))
theorem tw_63 : (Cond.fieldLink "EchoCouncil" 106 "EchoCouncil$Rooms" "damp" "[I") ∈ lw_tbl := tk_1 (List.mem_of_getElem? (i := 63) (by decide +kernel))
theorem tw_64 : (Cond.fieldLink "EchoCouncil$State" 93 "EchoCouncil$Rooms" "damp" "[I") ∈ lw_tbl := tk_1 (List.mem_of_getElem? (i := 64) (by decide +kernel))
theorem tw_65 : (Cond.fieldLink "EchoCouncil$Rooms" 18 "EchoCouncil$Rooms" "verses" "[I") ∈ lw_tbl := tk_1 (List.mem_of_getElem? (i := 65) (by decide +kernel))
theorem tw_66 : (Cond.fieldLink "EchoCouncil" 124 "EchoCouncil$Rooms" "verses" "[I") ∈ lw_tbl := tk_1 (List.mem_of_getElem? (i := 66) (by decide +kernel))
theorem tw_67 : (Cond.fieldLink "EchoCouncil$State" 128 "EchoCouncil$Rooms" "verses" "[I") ∈ lw_tbl := tk_1 (List.mem_of_getElem? (i := 67) (by decide +kernel))
theorem tw_68 : (Cond.lays "EchoCouncil$Rooms" "EchoCouncil$Rooms" "count" "I") ∈ lw_tbl := tk_1 (List.mem_of_getElem? (i := 68) (by decide +kernel))
theorem tw_69 : (Cond.soleField "EchoCouncil$Rooms" "count") ∈ lw_tbl := tk_1 (List.mem_of_getElem? (i := 69) (by decide +kernel))
theorem tw_70 : (Cond.laysFinal "EchoCouncil$Rooms" "EchoCouncil$Rooms" "size" "[I") ∈ lw_tbl := tk_1 (List.mem_of_getElem? (i := 70) (by decide +kernel))
theorem tw_71 : (Cond.soleField "EchoCouncil$Rooms" "size") ∈ lw_tbl := tk_1 (List.mem_of_getElem? (i := 71) (by decide +kernel))
theorem tw_72 : (Cond.laysFinal "EchoCouncil$Rooms" "EchoCouncil$Rooms" "damp" "[I") ∈ lw_tbl := tk_1 (List.mem_of_getElem? (i := 72) (by decide +kernel))
theorem tw_73 : (Cond.soleField "EchoCouncil$Rooms" "damp") ∈ lw_tbl := tk_1 (List.mem_of_getElem? (i := 73) (by decide +kernel))
theorem tw_74 : (Cond.laysFinal "EchoCouncil$Rooms" "EchoCouncil$Rooms" "verses" "[I") ∈ lw_tbl := tk_1 (List.mem_of_getElem? (i := 74) (by decide +kernel))
theorem tw_75 : (Cond.soleField "EchoCouncil$Rooms" "verses") ∈ lw_tbl := tk_1 (List.mem_of_getElem? (i := 75) (by decide +kernel))
theorem tw_76 : (Cond.superclass "EchoCouncil$Rooms" "java/lang/Object") ∈ lw_tbl := tk_1 (List.mem_of_getElem? (i := 76) (by decide +kernel))
theorem tw_77 : (Cond.arrayClass FieldType.int) ∈ lw_tbl := tk_1 (List.mem_of_getElem? (i := 77) (by decide +kernel))
theorem tw_78 : (Cond.classLink "EchoCouncil$State" 18 "EchoCouncil$Echoes") ∈ lw_tbl := tk_1 (List.mem_of_getElem? (i := 78) (by decide +kernel))
theorem tw_79 : (Cond.instantiable "EchoCouncil$Echoes" 6) ∈ lw_tbl := tk_1 (List.mem_of_getElem? (i := 79) (by decide +kernel))
theorem tw_80 : (Cond.methodLinkNest "EchoCouncil$State" 20 ⟨"EchoCouncil$Echoes", "<init>", "()V"⟩ "EchoCouncil") ∈ lw_tbl := tk_1 (List.mem_of_getElem? (i := 80) (by decide +kernel))
theorem tw_81 : (Cond.instanceMethod ⟨"EchoCouncil$Echoes", "<init>", "()V"⟩) ∈ lw_tbl := tk_1 (List.mem_of_getElem? (i := 81) (by decide +kernel))
theorem tw_82 : (Cond.code ⟨"EchoCouncil$Echoes", "<init>", "()V"⟩ prog_3_method_1_code 1 none) ∈ lw_tbl := tk_1 (List.mem_of_getElem? (i := 82) (by decide +kernel))
theorem tw_83 : (Cond.methodLink "EchoCouncil$Echoes" 3 ⟨"java/lang/Object", "<init>", "()V"⟩) ∈ lw_tbl := tk_1 (List.mem_of_getElem? (i := 83) (by decide +kernel))
theorem tw_84 : (Cond.fieldLink "EchoCouncil$Echoes" 27 "EchoCouncil$Echoes" "count" "I") ∈ lw_tbl := tk_1 (List.mem_of_getElem? (i := 84) (by decide +kernel))
theorem tw_85 : (Cond.fieldLink "EchoCouncil$State" 58 "EchoCouncil$Echoes" "count" "I") ∈ lw_tbl := tk_1 (List.mem_of_getElem? (i := 85) (by decide +kernel))
theorem tw_86 : (Cond.fieldLink "EchoCouncil" 244 "EchoCouncil$Echoes" "count" "I") ∈ lw_tbl := tk_1 (List.mem_of_getElem? (i := 86) (by decide +kernel))
theorem tw_87 : (Cond.fieldLink "EchoCouncil$Echoes" 9 "EchoCouncil$Echoes" "room" "[I") ∈ lw_tbl := tk_1 (List.mem_of_getElem? (i := 87) (by decide +kernel))
theorem tw_88 : (Cond.fieldLink "EchoCouncil$State" 67 "EchoCouncil$Echoes" "room" "[I") ∈ lw_tbl := tk_1 (List.mem_of_getElem? (i := 88) (by decide +kernel))
theorem tw_89 : (Cond.fieldLink "EchoCouncil" 141 "EchoCouncil$Echoes" "room" "[I") ∈ lw_tbl := tk_1 (List.mem_of_getElem? (i := 89) (by decide +kernel))
theorem tw_90 : (Cond.fieldLink "EchoCouncil$Echoes" 15 "EchoCouncil$Echoes" "strength" "[I") ∈ lw_tbl := tk_1 (List.mem_of_getElem? (i := 90) (by decide +kernel))
theorem tw_91 : (Cond.fieldLink "EchoCouncil$State" 71 "EchoCouncil$Echoes" "strength" "[I") ∈ lw_tbl := tk_1 (List.mem_of_getElem? (i := 91) (by decide +kernel))
theorem tw_92 : (Cond.fieldLink "EchoCouncil" 146 "EchoCouncil$Echoes" "strength" "[I") ∈ lw_tbl := tk_1 (List.mem_of_getElem? (i := 92) (by decide +kernel))
theorem tw_93 : (Cond.fieldLink "EchoCouncil$Echoes" 18 "EchoCouncil$Echoes" "singer" "[I") ∈ lw_tbl := tk_1 (List.mem_of_getElem? (i := 93) (by decide +kernel))
theorem tw_94 : (Cond.fieldLink "EchoCouncil$State" 64 "EchoCouncil$Echoes" "singer" "[I") ∈ lw_tbl := tk_1 (List.mem_of_getElem? (i := 94) (by decide +kernel))
theorem tw_95 : (Cond.fieldLink "EchoCouncil" 149 "EchoCouncil$Echoes" "singer" "[I") ∈ lw_tbl := tk_1 (List.mem_of_getElem? (i := 95) (by decide +kernel))
theorem tw_96 : (Cond.fieldLink "EchoCouncil$Echoes" 21 "EchoCouncil$Echoes" "verses" "[I") ∈ lw_tbl := tk_1 (List.mem_of_getElem? (i := 96) (by decide +kernel))
theorem tw_97 : (Cond.fieldLink "EchoCouncil" 152 "EchoCouncil$Echoes" "verses" "[I") ∈ lw_tbl := tk_1 (List.mem_of_getElem? (i := 97) (by decide +kernel))
theorem tw_98 : (Cond.fieldLink "EchoCouncil$State" 119 "EchoCouncil$Echoes" "verses" "[I") ∈ lw_tbl := tk_1 (List.mem_of_getElem? (i := 98) (by decide +kernel))
theorem tw_99 : (Cond.fieldLink "EchoCouncil$Echoes" 24 "EchoCouncil$Echoes" "tones" "[I") ∈ lw_tbl := tk_1 (List.mem_of_getElem? (i := 99) (by decide +kernel))
theorem tw_100 : (Cond.fieldLink "EchoCouncil" 153 "EchoCouncil$Echoes" "tones" "[I") ∈ lw_tbl := tk_1 (List.mem_of_getElem? (i := 100) (by decide +kernel))
theorem tw_101 : (Cond.fieldLink "EchoCouncil$State" 129 "EchoCouncil$Echoes" "tones" "[I") ∈ lw_tbl := tk_1 (List.mem_of_getElem? (i := 101) (by decide +kernel))
theorem tw_102 : (Cond.lays "EchoCouncil$Echoes" "EchoCouncil$Echoes" "count" "I") ∈ lw_tbl := tk_1 (List.mem_of_getElem? (i := 102) (by decide +kernel))
theorem tw_103 : (Cond.soleField "EchoCouncil$Echoes" "count") ∈ lw_tbl := tk_1 (List.mem_of_getElem? (i := 103) (by decide +kernel))
theorem tw_104 : (Cond.laysFinal "EchoCouncil$Echoes" "EchoCouncil$Echoes" "room" "[I") ∈ lw_tbl := tk_1 (List.mem_of_getElem? (i := 104) (by decide +kernel))
theorem tw_105 : (Cond.soleField "EchoCouncil$Echoes" "room") ∈ lw_tbl := tk_1 (List.mem_of_getElem? (i := 105) (by decide +kernel))
theorem tw_106 : (Cond.laysFinal "EchoCouncil$Echoes" "EchoCouncil$Echoes" "strength" "[I") ∈ lw_tbl := tk_1 (List.mem_of_getElem? (i := 106) (by decide +kernel))
theorem tw_107 : (Cond.soleField "EchoCouncil$Echoes" "strength") ∈ lw_tbl := tk_1 (List.mem_of_getElem? (i := 107) (by decide +kernel))
theorem tw_108 : (Cond.laysFinal "EchoCouncil$Echoes" "EchoCouncil$Echoes" "singer" "[I") ∈ lw_tbl := tk_1 (List.mem_of_getElem? (i := 108) (by decide +kernel))
theorem tw_109 : (Cond.soleField "EchoCouncil$Echoes" "singer") ∈ lw_tbl := tk_1 (List.mem_of_getElem? (i := 109) (by decide +kernel))
theorem tw_110 : (Cond.laysFinal "EchoCouncil$Echoes" "EchoCouncil$Echoes" "verses" "[I") ∈ lw_tbl := tk_1 (List.mem_of_getElem? (i := 110) (by decide +kernel))
theorem tw_111 : (Cond.soleField "EchoCouncil$Echoes" "verses") ∈ lw_tbl := tk_1 (List.mem_of_getElem? (i := 111) (by decide +kernel))
theorem tw_112 : (Cond.laysFinal "EchoCouncil$Echoes" "EchoCouncil$Echoes" "tones" "[I") ∈ lw_tbl := tk_1 (List.mem_of_getElem? (i := 112) (by decide +kernel))
theorem tw_113 : (Cond.soleField "EchoCouncil$Echoes" "tones") ∈ lw_tbl := tk_1 (List.mem_of_getElem? (i := 113) (by decide +kernel))
theorem tw_114 : (Cond.superclass "EchoCouncil$Echoes" "java/lang/Object") ∈ lw_tbl := tk_1 (List.mem_of_getElem? (i := 114) (by decide +kernel))
theorem tw_115 : (Cond.classLink "EchoCouncil$State" 25 "EchoCouncil$Singers") ∈ lw_tbl := tk_1 (List.mem_of_getElem? (i := 115) (by decide +kernel))
theorem tw_116 : (Cond.instantiable "EchoCouncil$Singers" 6) ∈ lw_tbl := tk_1 (List.mem_of_getElem? (i := 116) (by decide +kernel))
theorem tw_117 : (Cond.methodLinkNest "EchoCouncil$State" 27 ⟨"EchoCouncil$Singers", "<init>", "()V"⟩ "EchoCouncil") ∈ lw_tbl := tk_1 (List.mem_of_getElem? (i := 117) (by decide +kernel))
theorem tw_118 : (Cond.instanceMethod ⟨"EchoCouncil$Singers", "<init>", "()V"⟩) ∈ lw_tbl := tk_1 (List.mem_of_getElem? (i := 118) (by decide +kernel))
theorem tw_119 : (Cond.code ⟨"EchoCouncil$Singers", "<init>", "()V"⟩ prog_9_method_1_code 1 none) ∈ lw_tbl := tk_1 (List.mem_of_getElem? (i := 119) (by decide +kernel))
theorem tw_120 : (Cond.methodLink "EchoCouncil$Singers" 3 ⟨"java/lang/Object", "<init>", "()V"⟩) ∈ lw_tbl := tk_1 (List.mem_of_getElem? (i := 120) (by decide +kernel))
theorem tw_121 : (Cond.fieldLink "EchoCouncil$Singers" 27 "EchoCouncil$Singers" "count" "I") ∈ lw_tbl := tk_1 (List.mem_of_getElem? (i := 121) (by decide +kernel))
theorem tw_122 : (Cond.fieldLink "EchoCouncil$State" 59 "EchoCouncil$Singers" "count" "I") ∈ lw_tbl := tk_1 (List.mem_of_getElem? (i := 122) (by decide +kernel))
theorem tw_123 : (Cond.fieldLink "EchoCouncil" 238 "EchoCouncil$Singers" "count" "I") ∈ lw_tbl := tk_1 (List.mem_of_getElem? (i := 123) (by decide +kernel))
theorem tw_124 : (Cond.fieldLink "EchoCouncil$Singers" 9 "EchoCouncil$Singers" "shyness" "[I") ∈ lw_tbl := tk_1 (List.mem_of_getElem? (i := 124) (by decide +kernel))
theorem tw_125 : (Cond.fieldLink "EchoCouncil$State" 86 "EchoCouncil$Singers" "shyness" "[I") ∈ lw_tbl := tk_1 (List.mem_of_getElem? (i := 125) (by decide +kernel))
theorem tw_126 : (Cond.fieldLink "EchoCouncil" 165 "EchoCouncil$Singers" "shyness" "[I") ∈ lw_tbl := tk_1 (List.mem_of_getElem? (i := 126) (by decide +kernel))
theorem tw_127 : (Cond.fieldLink "EchoCouncil$Singers" 15 "EchoCouncil$Singers" "breath" "[I") ∈ lw_tbl := tk_1 (List.mem_of_getElem? (i := 127) (by decide +kernel))
theorem tw_128 : (Cond.fieldLink "EchoCouncil$State" 68 "EchoCouncil$Singers" "breath" "[I") ∈ lw_tbl := tk_1 (List.mem_of_getElem? (i := 128) (by decide +kernel))
theorem tw_129 : (Cond.fieldLink "EchoCouncil" 170 "EchoCouncil$Singers" "breath" "[I") ∈ lw_tbl := tk_1 (List.mem_of_getElem? (i := 129) (by decide +kernel))
theorem tw_130 : (Cond.fieldLink "EchoCouncil$Singers" 18 "EchoCouncil$Singers" "room" "[I") ∈ lw_tbl := tk_1 (List.mem_of_getElem? (i := 130) (by decide +kernel))
theorem tw_131 : (Cond.fieldLink "EchoCouncil$State" 60 "EchoCouncil$Singers" "room" "[I") ∈ lw_tbl := tk_1 (List.mem_of_getElem? (i := 131) (by decide +kernel))
theorem tw_132 : (Cond.fieldLink "EchoCouncil" 173 "EchoCouncil$Singers" "room" "[I") ∈ lw_tbl := tk_1 (List.mem_of_getElem? (i := 132) (by decide +kernel))
theorem tw_133 : (Cond.fieldLink "EchoCouncil$Singers" 21 "EchoCouncil$Singers" "verses" "[I") ∈ lw_tbl := tk_1 (List.mem_of_getElem? (i := 133) (by decide +kernel))
theorem tw_134 : (Cond.fieldLink "EchoCouncil" 177 "EchoCouncil$Singers" "verses" "[I") ∈ lw_tbl := tk_1 (List.mem_of_getElem? (i := 134) (by decide +kernel))
theorem tw_135 : (Cond.fieldLink "EchoCouncil$State" 132 "EchoCouncil$Singers" "verses" "[I") ∈ lw_tbl := tk_1 (List.mem_of_getElem? (i := 135) (by decide +kernel))
theorem tw_136 : (Cond.fieldLink "EchoCouncil$Singers" 24 "EchoCouncil$Singers" "tones" "[I") ∈ lw_tbl := tk_1 (List.mem_of_getElem? (i := 136) (by decide +kernel))
theorem tw_137 : (Cond.fieldLink "EchoCouncil" 178 "EchoCouncil$Singers" "tones" "[I") ∈ lw_tbl := tk_1 (List.mem_of_getElem? (i := 137) (by decide +kernel))
theorem tw_138 : (Cond.fieldLink "EchoCouncil$State" 133 "EchoCouncil$Singers" "tones" "[I") ∈ lw_tbl := tk_1 (List.mem_of_getElem? (i := 138) (by decide +kernel))
theorem tw_139 : (Cond.lays "EchoCouncil$Singers" "EchoCouncil$Singers" "count" "I") ∈ lw_tbl := tk_1 (List.mem_of_getElem? (i := 139) (by decide +kernel))
theorem tw_140 : (Cond.soleField "EchoCouncil$Singers" "count") ∈ lw_tbl := tk_1 (List.mem_of_getElem? (i := 140) (by decide +kernel))
theorem tw_141 : (Cond.laysFinal "EchoCouncil$Singers" "EchoCouncil$Singers" "shyness" "[I") ∈ lw_tbl := tk_1 (List.mem_of_getElem? (i := 141) (by decide +kernel))
theorem tw_142 : (Cond.soleField "EchoCouncil$Singers" "shyness") ∈ lw_tbl := tk_1 (List.mem_of_getElem? (i := 142) (by decide +kernel))
theorem tw_143 : (Cond.laysFinal "EchoCouncil$Singers" "EchoCouncil$Singers" "breath" "[I") ∈ lw_tbl := tk_1 (List.mem_of_getElem? (i := 143) (by decide +kernel))
theorem tw_144 : (Cond.soleField "EchoCouncil$Singers" "breath") ∈ lw_tbl := tk_1 (List.mem_of_getElem? (i := 144) (by decide +kernel))
theorem tw_145 : (Cond.laysFinal "EchoCouncil$Singers" "EchoCouncil$Singers" "room" "[I") ∈ lw_tbl := tk_1 (List.mem_of_getElem? (i := 145) (by decide +kernel))
theorem tw_146 : (Cond.soleField "EchoCouncil$Singers" "room") ∈ lw_tbl := tk_1 (List.mem_of_getElem? (i := 146) (by decide +kernel))
theorem tw_147 : (Cond.laysFinal "EchoCouncil$Singers" "EchoCouncil$Singers" "verses" "[I") ∈ lw_tbl := tk_1 (List.mem_of_getElem? (i := 147) (by decide +kernel))
theorem tw_148 : (Cond.soleField "EchoCouncil$Singers" "verses") ∈ lw_tbl := tk_1 (List.mem_of_getElem? (i := 148) (by decide +kernel))
theorem tw_149 : (Cond.laysFinal "EchoCouncil$Singers" "EchoCouncil$Singers" "tones" "[I") ∈ lw_tbl := tk_1 (List.mem_of_getElem? (i := 149) (by decide +kernel))
theorem tw_150 : (Cond.soleField "EchoCouncil$Singers" "tones") ∈ lw_tbl := tk_1 (List.mem_of_getElem? (i := 150) (by decide +kernel))
theorem tw_151 : (Cond.superclass "EchoCouncil$Singers" "java/lang/Object") ∈ lw_tbl := tk_1 (List.mem_of_getElem? (i := 151) (by decide +kernel))
theorem tw_152 : (Cond.fieldLink "EchoCouncil$State" 12 "EchoCouncil$State" "rooms" "LEchoCouncil$Rooms;") ∈ lw_tbl := tk_1 (List.mem_of_getElem? (i := 152) (by decide +kernel))
theorem tw_153 : (Cond.fieldLink "EchoCouncil" 96 "EchoCouncil$State" "rooms" "LEchoCouncil$Rooms;") ∈ lw_tbl := tk_1 (List.mem_of_getElem? (i := 153) (by decide +kernel))
theorem tw_154 : (Cond.fieldLink "EchoCouncil$State" 21 "EchoCouncil$State" "echoes" "LEchoCouncil$Echoes;") ∈ lw_tbl := tk_1 (List.mem_of_getElem? (i := 154) (by decide +kernel))
theorem tw_155 : (Cond.fieldLink "EchoCouncil" 137 "EchoCouncil$State" "echoes" "LEchoCouncil$Echoes;") ∈ lw_tbl := tk_1 (List.mem_of_getElem? (i := 155) (by decide +kernel))
theorem tw_156 : (Cond.fieldLink "EchoCouncil$State" 28 "EchoCouncil$State" "singers" "LEchoCouncil$Singers;") ∈ lw_tbl := tk_1 (List.mem_of_getElem? (i := 156) (by decide +kernel))
theorem tw_157 : (Cond.fieldLink "EchoCouncil" 161 "EchoCouncil$State" "singers" "LEchoCouncil$Singers;") ∈ lw_tbl := tk_1 (List.mem_of_getElem? (i := 157) (by decide +kernel))
theorem tw_158 : (Cond.fieldLink "EchoCouncil$State" 42 "EchoCouncil$State" "nights" "I") ∈ lw_tbl := tk_1 (List.mem_of_getElem? (i := 158) (by decide +kernel))
theorem tw_159 : (Cond.fieldLink "EchoCouncil" 357 "EchoCouncil$State" "nights" "I") ∈ lw_tbl := tk_1 (List.mem_of_getElem? (i := 159) (by decide +kernel))
theorem tw_160 : (Cond.fieldLink "EchoCouncil$State" 46 "EchoCouncil$State" "deposits" "I") ∈ lw_tbl := tk_1 (List.mem_of_getElem? (i := 160) (by decide +kernel))
theorem tw_161 : (Cond.fieldLink "EchoCouncil" 256 "EchoCouncil$State" "deposits" "I") ∈ lw_tbl := tk_1 (List.mem_of_getElem? (i := 161) (by decide +kernel))
theorem tw_162 : (Cond.fieldLink "EchoCouncil$State" 49 "EchoCouncil$State" "givenBack" "I") ∈ lw_tbl := tk_1 (List.mem_of_getElem? (i := 162) (by decide +kernel))
theorem tw_163 : (Cond.fieldLink "EchoCouncil" 259 "EchoCouncil$State" "givenBack" "I") ∈ lw_tbl := tk_1 (List.mem_of_getElem? (i := 163) (by decide +kernel))
theorem tw_164 : (Cond.fieldLink "EchoCouncil$State" 52 "EchoCouncil$State" "kept" "I") ∈ lw_tbl := tk_1 (List.mem_of_getElem? (i := 164) (by decide +kernel))
theorem tw_165 : (Cond.fieldLink "EchoCouncil" 262 "EchoCouncil$State" "kept" "I") ∈ lw_tbl := tk_1 (List.mem_of_getElem? (i := 165) (by decide +kernel))
theorem tw_166 : (Cond.laysFinal "EchoCouncil$State" "EchoCouncil$State" "rooms" "LEchoCouncil$Rooms;") ∈ lw_tbl := tk_1 (List.mem_of_getElem? (i := 166) (by decide +kernel))
theorem tw_167 : (Cond.soleField "EchoCouncil$State" "rooms") ∈ lw_tbl := tk_1 (List.mem_of_getElem? (i := 167) (by decide +kernel))
theorem tw_168 : (Cond.laysFinal "EchoCouncil$State" "EchoCouncil$State" "echoes" "LEchoCouncil$Echoes;") ∈ lw_tbl := tk_1 (List.mem_of_getElem? (i := 168) (by decide +kernel))
theorem tw_169 : (Cond.soleField "EchoCouncil$State" "echoes") ∈ lw_tbl := tk_1 (List.mem_of_getElem? (i := 169) (by decide +kernel))
theorem tw_170 : (Cond.laysFinal "EchoCouncil$State" "EchoCouncil$State" "singers" "LEchoCouncil$Singers;") ∈ lw_tbl := tk_1 (List.mem_of_getElem? (i := 170) (by decide +kernel))
theorem tw_171 : (Cond.soleField "EchoCouncil$State" "singers") ∈ lw_tbl := tk_1 (List.mem_of_getElem? (i := 171) (by decide +kernel))
theorem tw_172 : (Cond.lays "EchoCouncil$State" "EchoCouncil$State" "nights" "I") ∈ lw_tbl := tk_1 (List.mem_of_getElem? (i := 172) (by decide +kernel))
theorem tw_173 : (Cond.soleField "EchoCouncil$State" "nights") ∈ lw_tbl := tk_1 (List.mem_of_getElem? (i := 173) (by decide +kernel))
theorem tw_174 : (Cond.lays "EchoCouncil$State" "EchoCouncil$State" "deposits" "I") ∈ lw_tbl := tk_1 (List.mem_of_getElem? (i := 174) (by decide +kernel))
theorem tw_175 : (Cond.soleField "EchoCouncil$State" "deposits") ∈ lw_tbl := tk_1 (List.mem_of_getElem? (i := 175) (by decide +kernel))
theorem tw_176 : (Cond.lays "EchoCouncil$State" "EchoCouncil$State" "givenBack" "I") ∈ lw_tbl := tk_1 (List.mem_of_getElem? (i := 176) (by decide +kernel))
theorem tw_177 : (Cond.soleField "EchoCouncil$State" "givenBack") ∈ lw_tbl := tk_1 (List.mem_of_getElem? (i := 177) (by decide +kernel))
theorem tw_178 : (Cond.lays "EchoCouncil$State" "EchoCouncil$State" "kept" "I") ∈ lw_tbl := tk_1 (List.mem_of_getElem? (i := 178) (by decide +kernel))
theorem tw_179 : (Cond.soleField "EchoCouncil$State" "kept") ∈ lw_tbl := tk_1 (List.mem_of_getElem? (i := 179) (by decide +kernel))
theorem tw_180 : (Cond.superclass "EchoCouncil$State" "java/lang/Object") ∈ lw_tbl := tk_1 (List.mem_of_getElem? (i := 180) (by decide +kernel))
theorem tw_181 : (Cond.classLink "EchoCouncil" 22 "EchoCouncil$Past") ∈ lw_tbl := tk_1 (List.mem_of_getElem? (i := 181) (by decide +kernel))
theorem tw_182 : (Cond.instantiable "EchoCouncil$Past" 3) ∈ lw_tbl := tk_1 (List.mem_of_getElem? (i := 182) (by decide +kernel))
theorem tw_183 : (Cond.methodLink "EchoCouncil" 24 ⟨"EchoCouncil$Past", "<init>", "()V"⟩) ∈ lw_tbl := tk_1 (List.mem_of_getElem? (i := 183) (by decide +kernel))
theorem tw_184 : (Cond.instanceMethod ⟨"EchoCouncil$Past", "<init>", "()V"⟩) ∈ lw_tbl := tk_1 (List.mem_of_getElem? (i := 184) (by decide +kernel))
theorem tw_185 : (Cond.code ⟨"EchoCouncil$Past", "<init>", "()V"⟩ prog_6_method_1_code 2 none) ∈ lw_tbl := tk_1 (List.mem_of_getElem? (i := 185) (by decide +kernel))
theorem tw_186 : (Cond.methodLink "EchoCouncil$Past" 3 ⟨"java/lang/Object", "<init>", "()V"⟩) ∈ lw_tbl := tk_1 (List.mem_of_getElem? (i := 186) (by decide +kernel))
theorem tw_187 : (Cond.classLink "EchoCouncil$Past" 9 "EchoCouncil$State") ∈ lw_tbl := tk_1 (List.mem_of_getElem? (i := 187) (by decide +kernel))
theorem tw_188 : (Cond.arrayOver (FieldType.object "EchoCouncil$State")) ∈ lw_tbl := tk_1 (List.mem_of_getElem? (i := 188) (by decide +kernel))
theorem tw_189 : (Cond.methodLinkNest "EchoCouncil$Past" 17 ⟨"EchoCouncil$State", "<init>", "()V"⟩ "EchoCouncil") ∈ lw_tbl := tk_1 (List.mem_of_getElem? (i := 189) (by decide +kernel))
theorem tw_190 : (Cond.fieldLink "EchoCouncil$Past" 11 "EchoCouncil$Past" "states" "[LEchoCouncil$State;") ∈ lw_tbl := tk_1 (List.mem_of_getElem? (i := 190) (by decide +kernel))
theorem tw_191 : (Cond.fieldLink "EchoCouncil$Past" 18 "EchoCouncil$Past" "next" "I") ∈ lw_tbl := tk_1 (List.mem_of_getElem? (i := 191) (by decide +kernel))
theorem tw_192 : (Cond.fieldLink "EchoCouncil$Past" 26 "EchoCouncil$Past" "count" "I") ∈ lw_tbl := tk_1 (List.mem_of_getElem? (i := 192) (by decide +kernel))
theorem tw_193 : (Cond.fieldLink "EchoCouncil" 369 "EchoCouncil$Past" "count" "I") ∈ lw_tbl := tk_1 (List.mem_of_getElem? (i := 193) (by decide +kernel))
theorem tw_194 : (Cond.laysFinal "EchoCouncil$Past" "EchoCouncil$Past" "states" "[LEchoCouncil$State;") ∈ lw_tbl := tk_1 (List.mem_of_getElem? (i := 194) (by decide +kernel))
theorem tw_195 : (Cond.soleField "EchoCouncil$Past" "states") ∈ lw_tbl := tk_1 (List.mem_of_getElem? (i := 195) (by decide +kernel))
theorem tw_196 : (Cond.lays "EchoCouncil$Past" "EchoCouncil$Past" "next" "I") ∈ lw_tbl := tk_1 (List.mem_of_getElem? (i := 196) (by decide +kernel))
theorem tw_197 : (Cond.soleField "EchoCouncil$Past" "next") ∈ lw_tbl := tk_1 (List.mem_of_getElem? (i := 197) (by decide +kernel))
theorem tw_198 : (Cond.lays "EchoCouncil$Past" "EchoCouncil$Past" "count" "I") ∈ lw_tbl := tk_1 (List.mem_of_getElem? (i := 198) (by decide +kernel))
theorem tw_199 : (Cond.soleField "EchoCouncil$Past" "count") ∈ lw_tbl := tk_1 (List.mem_of_getElem? (i := 199) (by decide +kernel))
theorem tw_200 : (Cond.superclass "EchoCouncil$Past" "java/lang/Object") ∈ lw_tbl := tk_1 (List.mem_of_getElem? (i := 200) (by decide +kernel))
theorem tw_201 : (Cond.classLink "EchoCouncil" 29 "EchoCouncil$OrderText") ∈ lw_tbl := tk_1 (List.mem_of_getElem? (i := 201) (by decide +kernel))
theorem tw_202 : (Cond.instantiable "EchoCouncil$OrderText" 7) ∈ lw_tbl := tk_1 (List.mem_of_getElem? (i := 202) (by decide +kernel))
theorem tw_203 : (Cond.methodLink "EchoCouncil" 31 ⟨"EchoCouncil$OrderText", "<init>", "()V"⟩) ∈ lw_tbl := tk_1 (List.mem_of_getElem? (i := 203) (by decide +kernel))
theorem tw_204 : (Cond.instanceMethod ⟨"EchoCouncil$OrderText", "<init>", "()V"⟩) ∈ lw_tbl := tk_1 (List.mem_of_getElem? (i := 204) (by decide +kernel))
theorem tw_205 : (Cond.code ⟨"EchoCouncil$OrderText", "<init>", "()V"⟩ prog_5_method_1_code 2 none) ∈ lw_tbl := tk_1 (List.mem_of_getElem? (i := 205) (by decide +kernel))
theorem tw_206 : (Cond.methodLink "EchoCouncil$OrderText" 3 ⟨"java/lang/Object", "<init>", "()V"⟩) ∈ lw_tbl := tk_1 (List.mem_of_getElem? (i := 206) (by decide +kernel))
theorem tw_207 : (Cond.classLink "EchoCouncil$OrderText" 19 "EchoCouncil$OrderKind") ∈ lw_tbl := tk_1 (List.mem_of_getElem? (i := 207) (by decide +kernel))
theorem tw_208 : (Cond.arrayOver (FieldType.object "EchoCouncil$OrderKind")) ∈ lw_tbl := tk_1 (List.mem_of_getElem? (i := 208) (by decide +kernel))
theorem tw_209 : (Cond.classLink "EchoCouncil$OrderText" 25 "[[I") ∈ lw_tbl := tk_1 (List.mem_of_getElem? (i := 209) (by decide +kernel))
theorem tw_210 : (Cond.arrayOver (FieldType.array FieldType.int)) ∈ lw_tbl := tk_1 (List.mem_of_getElem? (i := 210) (by decide +kernel))
theorem tw_211 : (Cond.fieldLink "EchoCouncil$OrderText" 30 "EchoCouncil$OrderKind" "NIGHT" "LEchoCouncil$OrderKind;") ∈ lw_tbl := tk_1 (List.mem_of_getElem? (i := 211) (by decide +kernel))
theorem tw_212 : (Cond.laysStatic "EchoCouncil$OrderKind" "NIGHT" "LEchoCouncil$OrderKind;") ∈ lw_tbl := tk_1 (List.mem_of_getElem? (i := 212) (by decide +kernel))
theorem tw_213 : (Cond.fieldLink "EchoCouncil$OrderText" 9 "EchoCouncil$OrderText" "signs" "[C") ∈ lw_tbl := tk_1 (List.mem_of_getElem? (i := 213) (by decide +kernel))
theorem tw_214 : (Cond.fieldLink "EchoCouncil" 278 "EchoCouncil$OrderText" "signs" "[C") ∈ lw_tbl := tk_1 (List.mem_of_getElem? (i := 214) (by decide +kernel))
theorem tw_215 : (Cond.fieldLink "EchoCouncil$OrderText" 44 "EchoCouncil$OrderText" "length" "I") ∈ lw_tbl := tk_1 (List.mem_of_getElem? (i := 215) (by decide +kernel))
theorem tw_216 : (Cond.fieldLink "EchoCouncil" 270 "EchoCouncil$OrderText" "length" "I") ∈ lw_tbl := tk_1 (List.mem_of_getElem? (i := 216) (by decide +kernel))
theorem tw_217 : (Cond.fieldLink "EchoCouncil$OrderText" 15 "EchoCouncil$OrderText" "fault" "I") ∈ lw_tbl := tk_1 (List.mem_of_getElem? (i := 217) (by decide +kernel))
theorem tw_218 : (Cond.fieldLink "EchoCouncil" 285 "EchoCouncil$OrderText" "fault" "I") ∈ lw_tbl := tk_1 (List.mem_of_getElem? (i := 218) (by decide +kernel))
theorem tw_219 : (Cond.fieldLink "EchoCouncil$OrderText" 37 "EchoCouncil$OrderText" "orders" "I") ∈ lw_tbl := tk_1 (List.mem_of_getElem? (i := 219) (by decide +kernel))
theorem tw_220 : (Cond.fieldLink "EchoCouncil" 299 "EchoCouncil$OrderText" "orders" "I") ∈ lw_tbl := tk_1 (List.mem_of_getElem? (i := 220) (by decide +kernel))
theorem tw_221 : (Cond.fieldLink "EchoCouncil$OrderText" 21 "EchoCouncil$OrderText" "kinds" "[LEchoCouncil$OrderKind;") ∈ lw_tbl := tk_1 (List.mem_of_getElem? (i := 221) (by decide +kernel))
theorem tw_222 : (Cond.fieldLink "EchoCouncil" 423 "EchoCouncil$OrderText" "kinds" "[LEchoCouncil$OrderKind;") ∈ lw_tbl := tk_1 (List.mem_of_getElem? (i := 222) (by decide +kernel))
theorem tw_223 : (Cond.fieldLink "EchoCouncil$OrderText" 27 "EchoCouncil$OrderText" "numbers" "[[I") ∈ lw_tbl := tk_1 (List.mem_of_getElem? (i := 223) (by decide +kernel))
theorem tw_224 : (Cond.fieldLink "EchoCouncil" 419 "EchoCouncil$OrderText" "numbers" "[[I") ∈ lw_tbl := tk_1 (List.mem_of_getElem? (i := 224) (by decide +kernel))
theorem tw_225 : (Cond.fieldLink "EchoCouncil$OrderText" 34 "EchoCouncil$OrderText" "position" "I") ∈ lw_tbl := tk_1 (List.mem_of_getElem? (i := 225) (by decide +kernel))
theorem tw_226 : (Cond.laysFinal "EchoCouncil$OrderText" "EchoCouncil$OrderText" "signs" "[C") ∈ lw_tbl := tk_1 (List.mem_of_getElem? (i := 226) (by decide +kernel))
theorem tw_227 : (Cond.soleField "EchoCouncil$OrderText" "signs") ∈ lw_tbl := tk_1 (List.mem_of_getElem? (i := 227) (by decide +kernel))
theorem tw_228 : (Cond.lays "EchoCouncil$OrderText" "EchoCouncil$OrderText" "length" "I") ∈ lw_tbl := tk_1 (List.mem_of_getElem? (i := 228) (by decide +kernel))
theorem tw_229 : (Cond.soleField "EchoCouncil$OrderText" "length") ∈ lw_tbl := tk_1 (List.mem_of_getElem? (i := 229) (by decide +kernel))
theorem tw_230 : (Cond.lays "EchoCouncil$OrderText" "EchoCouncil$OrderText" "fault" "I") ∈ lw_tbl := tk_1 (List.mem_of_getElem? (i := 230) (by decide +kernel))
theorem tw_231 : (Cond.soleField "EchoCouncil$OrderText" "fault") ∈ lw_tbl := tk_1 (List.mem_of_getElem? (i := 231) (by decide +kernel))
theorem tw_232 : (Cond.lays "EchoCouncil$OrderText" "EchoCouncil$OrderText" "orders" "I") ∈ lw_tbl := tk_1 (List.mem_of_getElem? (i := 232) (by decide +kernel))
theorem tw_233 : (Cond.soleField "EchoCouncil$OrderText" "orders") ∈ lw_tbl := tk_1 (List.mem_of_getElem? (i := 233) (by decide +kernel))
theorem tw_234 : (Cond.laysFinal "EchoCouncil$OrderText" "EchoCouncil$OrderText" "kinds" "[LEchoCouncil$OrderKind;") ∈ lw_tbl := tk_1 (List.mem_of_getElem? (i := 234) (by decide +kernel))
theorem tw_235 : (Cond.soleField "EchoCouncil$OrderText" "kinds") ∈ lw_tbl := tk_1 (List.mem_of_getElem? (i := 235) (by decide +kernel))
theorem tw_236 : (Cond.laysFinal "EchoCouncil$OrderText" "EchoCouncil$OrderText" "numbers" "[[I") ∈ lw_tbl := tk_1 (List.mem_of_getElem? (i := 236) (by decide +kernel))
theorem tw_237 : (Cond.soleField "EchoCouncil$OrderText" "numbers") ∈ lw_tbl := tk_1 (List.mem_of_getElem? (i := 237) (by decide +kernel))
theorem tw_238 : (Cond.lays "EchoCouncil$OrderText" "EchoCouncil$OrderText" "position" "I") ∈ lw_tbl := tk_1 (List.mem_of_getElem? (i := 238) (by decide +kernel))
theorem tw_239 : (Cond.soleField "EchoCouncil$OrderText" "position") ∈ lw_tbl := tk_1 (List.mem_of_getElem? (i := 239) (by decide +kernel))
theorem tw_240 : (Cond.superclass "EchoCouncil$OrderText" "java/lang/Object") ∈ lw_tbl := tk_2 (List.mem_of_getElem? (i := 0) (by decide +kernel))
theorem tw_241 : (Cond.arrayClass FieldType.char) ∈ lw_tbl := tk_2 (List.mem_of_getElem? (i := 1) (by decide +kernel))
theorem tw_242 : (Cond.classLink "EchoCouncil" 36 "EchoCouncil$Refusal") ∈ lw_tbl := tk_2 (List.mem_of_getElem? (i := 2) (by decide +kernel))
theorem tw_243 : (Cond.instantiable "EchoCouncil$Refusal" 6) ∈ lw_tbl := tk_2 (List.mem_of_getElem? (i := 3) (by decide +kernel))
theorem tw_244 : (Cond.methodLinkNest "EchoCouncil" 38 ⟨"EchoCouncil$Refusal", "<init>", "()V"⟩ "EchoCouncil") ∈ lw_tbl := tk_2 (List.mem_of_getElem? (i := 4) (by decide +kernel))
theorem tw_245 : (Cond.instanceMethod ⟨"EchoCouncil$Refusal", "<init>", "()V"⟩) ∈ lw_tbl := tk_2 (List.mem_of_getElem? (i := 5) (by decide +kernel))
theorem tw_246 : (Cond.code ⟨"EchoCouncil$Refusal", "<init>", "()V"⟩ prog_7_method_1_code 1 none) ∈ lw_tbl := tk_2 (List.mem_of_getElem? (i := 6) (by decide +kernel))
theorem tw_247 : (Cond.methodLink "EchoCouncil$Refusal" 1 ⟨"java/lang/Object", "<init>", "()V"⟩) ∈ lw_tbl := tk_2 (List.mem_of_getElem? (i := 7) (by decide +kernel))
theorem tw_248 : (Cond.fieldLink "EchoCouncil$Refusal" 7 "EchoCouncil$Refusal" "isKept" "Z") ∈ lw_tbl := tk_2 (List.mem_of_getElem? (i := 8) (by decide +kernel))
theorem tw_249 : (Cond.fieldLink "EchoCouncil" 304 "EchoCouncil$Refusal" "isKept" "Z") ∈ lw_tbl := tk_2 (List.mem_of_getElem? (i := 9) (by decide +kernel))
theorem tw_250 : (Cond.fieldLink "EchoCouncil$Refusal" 13 "EchoCouncil$Refusal" "number" "I") ∈ lw_tbl := tk_2 (List.mem_of_getElem? (i := 10) (by decide +kernel))
theorem tw_251 : (Cond.fieldLink "EchoCouncil" 313 "EchoCouncil$Refusal" "number" "I") ∈ lw_tbl := tk_2 (List.mem_of_getElem? (i := 11) (by decide +kernel))
theorem tw_252 : (Cond.fieldLink "EchoCouncil$Refusal" 17 "EchoCouncil$Refusal" "detail" "I") ∈ lw_tbl := tk_2 (List.mem_of_getElem? (i := 12) (by decide +kernel))
theorem tw_253 : (Cond.fieldLink "EchoCouncil" 310 "EchoCouncil$Refusal" "detail" "I") ∈ lw_tbl := tk_2 (List.mem_of_getElem? (i := 13) (by decide +kernel))
theorem tw_254 : (Cond.fieldLink "EchoCouncil$Refusal" 20 "EchoCouncil$Refusal" "hasCause" "Z") ∈ lw_tbl := tk_2 (List.mem_of_getElem? (i := 14) (by decide +kernel))
theorem tw_255 : (Cond.fieldLink "EchoCouncil" 316 "EchoCouncil$Refusal" "hasCause" "Z") ∈ lw_tbl := tk_2 (List.mem_of_getElem? (i := 15) (by decide +kernel))
theorem tw_256 : (Cond.fieldLink "EchoCouncil$Refusal" 23 "EchoCouncil$Refusal" "causeNumber" "I") ∈ lw_tbl := tk_2 (List.mem_of_getElem? (i := 16) (by decide +kernel))
theorem tw_257 : (Cond.fieldLink "EchoCouncil" 324 "EchoCouncil$Refusal" "causeNumber" "I") ∈ lw_tbl := tk_2 (List.mem_of_getElem? (i := 17) (by decide +kernel))
theorem tw_258 : (Cond.fieldLink "EchoCouncil$Refusal" 26 "EchoCouncil$Refusal" "causeDetail" "I") ∈ lw_tbl := tk_2 (List.mem_of_getElem? (i := 18) (by decide +kernel))
theorem tw_259 : (Cond.fieldLink "EchoCouncil" 321 "EchoCouncil$Refusal" "causeDetail" "I") ∈ lw_tbl := tk_2 (List.mem_of_getElem? (i := 19) (by decide +kernel))
theorem tw_260 : (Cond.lays "EchoCouncil$Refusal" "EchoCouncil$Refusal" "isKept" "Z") ∈ lw_tbl := tk_2 (List.mem_of_getElem? (i := 20) (by decide +kernel))
theorem tw_261 : (Cond.soleField "EchoCouncil$Refusal" "isKept") ∈ lw_tbl := tk_2 (List.mem_of_getElem? (i := 21) (by decide +kernel))
theorem tw_262 : (Cond.lays "EchoCouncil$Refusal" "EchoCouncil$Refusal" "number" "I") ∈ lw_tbl := tk_2 (List.mem_of_getElem? (i := 22) (by decide +kernel))
theorem tw_263 : (Cond.soleField "EchoCouncil$Refusal" "number") ∈ lw_tbl := tk_2 (List.mem_of_getElem? (i := 23) (by decide +kernel))
theorem tw_264 : (Cond.lays "EchoCouncil$Refusal" "EchoCouncil$Refusal" "detail" "I") ∈ lw_tbl := tk_2 (List.mem_of_getElem? (i := 24) (by decide +kernel))
theorem tw_265 : (Cond.soleField "EchoCouncil$Refusal" "detail") ∈ lw_tbl := tk_2 (List.mem_of_getElem? (i := 25) (by decide +kernel))
theorem tw_266 : (Cond.lays "EchoCouncil$Refusal" "EchoCouncil$Refusal" "hasCause" "Z") ∈ lw_tbl := tk_2 (List.mem_of_getElem? (i := 26) (by decide +kernel))
theorem tw_267 : (Cond.soleField "EchoCouncil$Refusal" "hasCause") ∈ lw_tbl := tk_2 (List.mem_of_getElem? (i := 27) (by decide +kernel))
theorem tw_268 : (Cond.lays "EchoCouncil$Refusal" "EchoCouncil$Refusal" "causeNumber" "I") ∈ lw_tbl := tk_2 (List.mem_of_getElem? (i := 28) (by decide +kernel))
theorem tw_269 : (Cond.soleField "EchoCouncil$Refusal" "causeNumber") ∈ lw_tbl := tk_2 (List.mem_of_getElem? (i := 29) (by decide +kernel))
theorem tw_270 : (Cond.lays "EchoCouncil$Refusal" "EchoCouncil$Refusal" "causeDetail" "I") ∈ lw_tbl := tk_2 (List.mem_of_getElem? (i := 30) (by decide +kernel))
theorem tw_271 : (Cond.soleField "EchoCouncil$Refusal" "causeDetail") ∈ lw_tbl := tk_2 (List.mem_of_getElem? (i := 31) (by decide +kernel))
theorem tw_272 : (Cond.superclass "EchoCouncil$Refusal" "java/lang/Object") ∈ lw_tbl := tk_2 (List.mem_of_getElem? (i := 32) (by decide +kernel))
theorem tw_273 : (Cond.classLink "EchoCouncil" 43 "java/lang/StringBuilder") ∈ lw_tbl := tk_2 (List.mem_of_getElem? (i := 33) (by decide +kernel))
theorem tw_274 : (Cond.instantiable "java/lang/StringBuilder" 4) ∈ lw_tbl := tk_2 (List.mem_of_getElem? (i := 34) (by decide +kernel))
theorem tw_275 : (Cond.methodLink "EchoCouncil" 45 ⟨"java/lang/StringBuilder", "<init>", "()V"⟩) ∈ lw_tbl := tk_2 (List.mem_of_getElem? (i := 35) (by decide +kernel))
theorem tw_276 : (Cond.instanceMethod ⟨"java/lang/StringBuilder", "<init>", "()V"⟩) ∈ lw_tbl := tk_2 (List.mem_of_getElem? (i := 36) (by decide +kernel))
theorem tw_277 : (Cond.code ⟨"java/lang/StringBuilder", "<init>", "()V"⟩ prog_31_method_1_code 1 none) ∈ lw_tbl := tk_2 (List.mem_of_getElem? (i := 37) (by decide +kernel))
theorem tw_278 : (Cond.methodLink "java/lang/StringBuilder" 1 ⟨"java/lang/AbstractStringBuilder", "<init>", "(I)V"⟩) ∈ lw_tbl := tk_2 (List.mem_of_getElem? (i := 38) (by decide +kernel))
theorem tw_279 : (Cond.instanceMethod ⟨"java/lang/AbstractStringBuilder", "<init>", "(I)V"⟩) ∈ lw_tbl := tk_2 (List.mem_of_getElem? (i := 39) (by decide +kernel))
theorem tw_280 : (Cond.code ⟨"java/lang/AbstractStringBuilder", "<init>", "(I)V"⟩ prog_14_method_2_code 2 none) ∈ lw_tbl := tk_2 (List.mem_of_getElem? (i := 40) (by decide +kernel))
theorem tw_281 : (Cond.methodLink "java/lang/AbstractStringBuilder" 3 ⟨"java/lang/Object", "<init>", "()V"⟩) ∈ lw_tbl := tk_2 (List.mem_of_getElem? (i := 41) (by decide +kernel))
theorem tw_282 : (Cond.fieldLink "java/lang/AbstractStringBuilder" 18 "java/lang/String" "COMPACT_STRINGS" "Z") ∈ lw_tbl := tk_2 (List.mem_of_getElem? (i := 42) (by decide +kernel))
theorem tw_283 : (Cond.laysStatic "java/lang/String" "COMPACT_STRINGS" "Z") ∈ lw_tbl := tk_2 (List.mem_of_getElem? (i := 43) (by decide +kernel))
theorem tw_284 : (Cond.methodLink "java/lang/AbstractStringBuilder" 26 ⟨"java/lang/StringUTF16", "newBytesFor", "(I)[B"⟩) ∈ lw_tbl := tk_2 (List.mem_of_getElem? (i := 44) (by decide +kernel))
theorem tw_285 : (Cond.static ⟨"java/lang/StringUTF16", "newBytesFor", "(I)[B"⟩) ∈ lw_tbl := tk_2 (List.mem_of_getElem? (i := 45) (by decide +kernel))
theorem tw_286 : (Cond.code ⟨"java/lang/StringUTF16", "newBytesFor", "(I)[B"⟩ prog_34_method_2_code 1 (Option.some (FieldType.array FieldType.byte))) ∈ lw_tbl := tk_2 (List.mem_of_getElem? (i := 46) (by decide +kernel))
theorem tw_287 : (Cond.methodLink "java/lang/StringUTF16" 11 ⟨"java/lang/StringUTF16", "newBytesLength", "(I)I"⟩) ∈ lw_tbl := tk_2 (List.mem_of_getElem? (i := 47) (by decide +kernel))
theorem tw_288 : (Cond.static ⟨"java/lang/StringUTF16", "newBytesLength", "(I)I"⟩) ∈ lw_tbl := tk_2 (List.mem_of_getElem? (i := 48) (by decide +kernel))
theorem tw_289 : (Cond.code ⟨"java/lang/StringUTF16", "newBytesLength", "(I)I"⟩ prog_34_method_3_code 1 (some FieldType.int)) ∈ lw_tbl := tk_2 (List.mem_of_getElem? (i := 49) (by decide +kernel))
theorem tw_290 : (Cond.constant "java/lang/StringUTF16" 20 (1073741823 : Int32)) ∈ lw_tbl := tk_2 (List.mem_of_getElem? (i := 50) (by decide +kernel))
theorem tw_291 : (Cond.fieldLink "java/lang/AbstractStringBuilder" 15 "java/lang/AbstractStringBuilder" "value" "[B") ∈ lw_tbl := tk_2 (List.mem_of_getElem? (i := 51) (by decide +kernel))
theorem tw_292 : (Cond.fieldLink "java/lang/AbstractStringBuilder" 22 "java/lang/AbstractStringBuilder" "coder" "B") ∈ lw_tbl := tk_2 (List.mem_of_getElem? (i := 52) (by decide +kernel))
theorem tw_293 : (Cond.fieldLink "java/lang/AbstractStringBuilder" 73 "java/lang/AbstractStringBuilder" "maybeLatin1" "Z") ∈ lw_tbl := tk_2 (List.mem_of_getElem? (i := 53) (by decide +kernel))
theorem tw_294 : (Cond.fieldLink "java/lang/String" 1048 "java/lang/AbstractStringBuilder" "maybeLatin1" "Z") ∈ lw_tbl := tk_2 (List.mem_of_getElem? (i := 54) (by decide +kernel))
theorem tw_295 : (Cond.fieldLink "java/lang/AbstractStringBuilder" 79 "java/lang/AbstractStringBuilder" "count" "I") ∈ lw_tbl := tk_2 (List.mem_of_getElem? (i := 55) (by decide +kernel))
theorem tw_296 : (Cond.lays "java/lang/StringBuilder" "java/lang/AbstractStringBuilder" "value" "[B") ∈ lw_tbl := tk_2 (List.mem_of_getElem? (i := 56) (by decide +kernel))
theorem tw_297 : (Cond.soleField "java/lang/AbstractStringBuilder" "value") ∈ lw_tbl := tk_2 (List.mem_of_getElem? (i := 57) (by decide +kernel))
theorem tw_298 : (Cond.lays "java/lang/StringBuilder" "java/lang/AbstractStringBuilder" "coder" "B") ∈ lw_tbl := tk_2 (List.mem_of_getElem? (i := 58) (by decide +kernel))
theorem tw_299 : (Cond.soleField "java/lang/AbstractStringBuilder" "coder") ∈ lw_tbl := tk_2 (List.mem_of_getElem? (i := 59) (by decide +kernel))
theorem tw_300 : (Cond.lays "java/lang/StringBuilder" "java/lang/AbstractStringBuilder" "maybeLatin1" "Z") ∈ lw_tbl := tk_2 (List.mem_of_getElem? (i := 60) (by decide +kernel))
theorem tw_301 : (Cond.soleField "java/lang/AbstractStringBuilder" "maybeLatin1") ∈ lw_tbl := tk_2 (List.mem_of_getElem? (i := 61) (by decide +kernel))
theorem tw_302 : (Cond.lays "java/lang/StringBuilder" "java/lang/AbstractStringBuilder" "count" "I") ∈ lw_tbl := tk_2 (List.mem_of_getElem? (i := 62) (by decide +kernel))
theorem tw_303 : (Cond.soleField "java/lang/AbstractStringBuilder" "count") ∈ lw_tbl := tk_2 (List.mem_of_getElem? (i := 63) (by decide +kernel))
theorem tw_304 : (Cond.superclass "java/lang/StringBuilder" "java/lang/AbstractStringBuilder") ∈ lw_tbl := tk_2 (List.mem_of_getElem? (i := 64) (by decide +kernel))
theorem tw_305 : (Cond.arrayClass FieldType.byte) ∈ lw_tbl := tk_2 (List.mem_of_getElem? (i := 65) (by decide +kernel))
theorem tw_306 : (Cond.fieldLink "EchoCouncil" 10 "EchoCouncil" "now" "LEchoCouncil$State;") ∈ lw_tbl := tk_2 (List.mem_of_getElem? (i := 66) (by decide +kernel))
theorem tw_307 : (Cond.fieldLink "EchoCouncil" 16 "EchoCouncil" "before" "LEchoCouncil$State;") ∈ lw_tbl := tk_2 (List.mem_of_getElem? (i := 67) (by decide +kernel))
theorem tw_308 : (Cond.fieldLink "EchoCouncil" 19 "EchoCouncil" "saved" "LEchoCouncil$State;") ∈ lw_tbl := tk_2 (List.mem_of_getElem? (i := 68) (by decide +kernel))
theorem tw_309 : (Cond.fieldLink "EchoCouncil" 385 "EchoCouncil" "isSaved" "Z") ∈ lw_tbl := tk_2 (List.mem_of_getElem? (i := 69) (by decide +kernel))
theorem tw_310 : (Cond.fieldLink "EchoCouncil" 25 "EchoCouncil" "past" "LEchoCouncil$Past;") ∈ lw_tbl := tk_2 (List.mem_of_getElem? (i := 70) (by decide +kernel))
theorem tw_311 : (Cond.fieldLink "EchoCouncil" 32 "EchoCouncil" "text" "LEchoCouncil$OrderText;") ∈ lw_tbl := tk_2 (List.mem_of_getElem? (i := 71) (by decide +kernel))
theorem tw_312 : (Cond.fieldLink "EchoCouncil" 39 "EchoCouncil" "refusal" "LEchoCouncil$Refusal;") ∈ lw_tbl := tk_2 (List.mem_of_getElem? (i := 72) (by decide +kernel))
theorem tw_313 : (Cond.fieldLink "EchoCouncil" 46 "EchoCouncil" "line" "Ljava/lang/StringBuilder;") ∈ lw_tbl := tk_2 (List.mem_of_getElem? (i := 73) (by decide +kernel))
theorem tw_314 : (Cond.laysFinal "EchoCouncil" "EchoCouncil" "now" "LEchoCouncil$State;") ∈ lw_tbl := tk_2 (List.mem_of_getElem? (i := 74) (by decide +kernel))
theorem tw_315 : (Cond.soleField "EchoCouncil" "now") ∈ lw_tbl := tk_2 (List.mem_of_getElem? (i := 75) (by decide +kernel))
theorem tw_316 : (Cond.laysFinal "EchoCouncil" "EchoCouncil" "before" "LEchoCouncil$State;") ∈ lw_tbl := tk_2 (List.mem_of_getElem? (i := 76) (by decide +kernel))
theorem tw_317 : (Cond.soleField "EchoCouncil" "before") ∈ lw_tbl := tk_2 (List.mem_of_getElem? (i := 77) (by decide +kernel))
theorem tw_318 : (Cond.laysFinal "EchoCouncil" "EchoCouncil" "saved" "LEchoCouncil$State;") ∈ lw_tbl := tk_2 (List.mem_of_getElem? (i := 78) (by decide +kernel))
theorem tw_319 : (Cond.soleField "EchoCouncil" "saved") ∈ lw_tbl := tk_2 (List.mem_of_getElem? (i := 79) (by decide +kernel))
theorem tw_320 : (Cond.lays "EchoCouncil" "EchoCouncil" "isSaved" "Z") ∈ lw_tbl := tk_2 (List.mem_of_getElem? (i := 80) (by decide +kernel))
theorem tw_321 : (Cond.soleField "EchoCouncil" "isSaved") ∈ lw_tbl := tk_2 (List.mem_of_getElem? (i := 81) (by decide +kernel))
theorem tw_322 : (Cond.laysFinal "EchoCouncil" "EchoCouncil" "past" "LEchoCouncil$Past;") ∈ lw_tbl := tk_2 (List.mem_of_getElem? (i := 82) (by decide +kernel))
theorem tw_323 : (Cond.soleField "EchoCouncil" "past") ∈ lw_tbl := tk_2 (List.mem_of_getElem? (i := 83) (by decide +kernel))
theorem tw_324 : (Cond.laysFinal "EchoCouncil" "EchoCouncil" "text" "LEchoCouncil$OrderText;") ∈ lw_tbl := tk_2 (List.mem_of_getElem? (i := 84) (by decide +kernel))
theorem tw_325 : (Cond.soleField "EchoCouncil" "text") ∈ lw_tbl := tk_2 (List.mem_of_getElem? (i := 85) (by decide +kernel))
theorem tw_326 : (Cond.laysFinal "EchoCouncil" "EchoCouncil" "refusal" "LEchoCouncil$Refusal;") ∈ lw_tbl := tk_2 (List.mem_of_getElem? (i := 86) (by decide +kernel))
theorem tw_327 : (Cond.soleField "EchoCouncil" "refusal") ∈ lw_tbl := tk_2 (List.mem_of_getElem? (i := 87) (by decide +kernel))
theorem tw_328 : (Cond.laysFinal "EchoCouncil" "EchoCouncil" "line" "Ljava/lang/StringBuilder;") ∈ lw_tbl := tk_2 (List.mem_of_getElem? (i := 88) (by decide +kernel))
theorem tw_329 : (Cond.soleField "EchoCouncil" "line") ∈ lw_tbl := tk_2 (List.mem_of_getElem? (i := 89) (by decide +kernel))
theorem tw_330 : (Cond.superclass "EchoCouncil" "java/lang/Object") ∈ lw_tbl := tk_2 (List.mem_of_getElem? (i := 90) (by decide +kernel))
theorem tw_331 : (Cond.methodLink "EchoCouncilLaw" 187 ⟨"EchoCouncil", "night", "()I"⟩) ∈ lw_tbl := tk_2 (List.mem_of_getElem? (i := 91) (by decide +kernel))
theorem tw_332 : (Cond.instanceMethod ⟨"EchoCouncil", "night", "()I"⟩) ∈ lw_tbl := tk_2 (List.mem_of_getElem? (i := 92) (by decide +kernel))
theorem tw_333 : (Cond.selects "EchoCouncil" ⟨"EchoCouncil", "night", "()I"⟩ ⟨"EchoCouncil", "night", "()I"⟩) ∈ lw_tbl := tk_2 (List.mem_of_getElem? (i := 93) (by decide +kernel))
theorem tw_334 : (Cond.code ⟨"EchoCouncil", "night", "()I"⟩ prog_1_method_11_code 1 (some FieldType.int)) ∈ lw_tbl := tk_2 (List.mem_of_getElem? (i := 94) (by decide +kernel))
theorem tw_335 : (Cond.methodLink "EchoCouncil" 84 ⟨"EchoCouncil$Past", "keep", "(LEchoCouncil$State;)V"⟩) ∈ lw_tbl := tk_2 (List.mem_of_getElem? (i := 95) (by decide +kernel))
theorem tw_336 : (Cond.instanceMethod ⟨"EchoCouncil$Past", "keep", "(LEchoCouncil$State;)V"⟩) ∈ lw_tbl := tk_2 (List.mem_of_getElem? (i := 96) (by decide +kernel))
theorem tw_337 : (Cond.selects "EchoCouncil$Past" ⟨"EchoCouncil$Past", "keep", "(LEchoCouncil$State;)V"⟩ ⟨"EchoCouncil$Past", "keep", "(LEchoCouncil$State;)V"⟩) ∈ lw_tbl := tk_2 (List.mem_of_getElem? (i := 97) (by decide +kernel))
theorem tw_338 : (Cond.code ⟨"EchoCouncil$Past", "keep", "(LEchoCouncil$State;)V"⟩ prog_6_method_2_code 2 none) ∈ lw_tbl := tk_2 (List.mem_of_getElem? (i := 98) (by decide +kernel))
theorem tw_339 : (Cond.methodLink "EchoCouncil$Past" 22 ⟨"EchoCouncil$State", "copyFrom", "(LEchoCouncil$State;)V"⟩) ∈ lw_tbl := tk_2 (List.mem_of_getElem? (i := 99) (by decide +kernel))
theorem tw_340 : (Cond.instanceMethod ⟨"EchoCouncil$State", "copyFrom", "(LEchoCouncil$State;)V"⟩) ∈ lw_tbl := tk_2 (List.mem_of_getElem? (i := 100) (by decide +kernel))
theorem tw_341 : (Cond.selects "EchoCouncil$State" ⟨"EchoCouncil$State", "copyFrom", "(LEchoCouncil$State;)V"⟩ ⟨"EchoCouncil$State", "copyFrom", "(LEchoCouncil$State;)V"⟩) ∈ lw_tbl := tk_2 (List.mem_of_getElem? (i := 101) (by decide +kernel))
theorem tw_342 : (Cond.code ⟨"EchoCouncil$State", "copyFrom", "(LEchoCouncil$State;)V"⟩ prog_10_method_2_code 2 none) ∈ lw_tbl := tk_2 (List.mem_of_getElem? (i := 102) (by decide +kernel))
theorem tw_343 : (Cond.methodLink "EchoCouncil$State" 32 ⟨"EchoCouncil$Rooms", "copyFrom", "(LEchoCouncil$Rooms;)V"⟩) ∈ lw_tbl := tk_2 (List.mem_of_getElem? (i := 103) (by decide +kernel))
theorem tw_344 : (Cond.instanceMethod ⟨"EchoCouncil$Rooms", "copyFrom", "(LEchoCouncil$Rooms;)V"⟩) ∈ lw_tbl := tk_2 (List.mem_of_getElem? (i := 104) (by decide +kernel))
theorem tw_345 : (Cond.selects "EchoCouncil$Rooms" ⟨"EchoCouncil$Rooms", "copyFrom", "(LEchoCouncil$Rooms;)V"⟩ ⟨"EchoCouncil$Rooms", "copyFrom", "(LEchoCouncil$Rooms;)V"⟩) ∈ lw_tbl := tk_2 (List.mem_of_getElem? (i := 105) (by decide +kernel))
theorem tw_346 : (Cond.code ⟨"EchoCouncil$Rooms", "copyFrom", "(LEchoCouncil$Rooms;)V"⟩ prog_8_method_2_code 2 none) ∈ lw_tbl := tk_2 (List.mem_of_getElem? (i := 106) (by decide +kernel))
theorem tw_347 : (Cond.methodLink "EchoCouncil$Rooms" 25 ⟨"java/lang/System", "arraycopy", "(Ljava/lang/Object;ILjava/lang/Object;II)V"⟩) ∈ lw_tbl := tk_2 (List.mem_of_getElem? (i := 107) (by decide +kernel))
theorem tw_348 : (Cond.static ⟨"java/lang/System", "arraycopy", "(Ljava/lang/Object;ILjava/lang/Object;II)V"⟩) ∈ lw_tbl := tk_2 (List.mem_of_getElem? (i := 108) (by decide +kernel))
theorem tw_349 : (Cond.native ⟨"java/lang/System", "arraycopy", "(Ljava/lang/Object;ILjava/lang/Object;II)V"⟩) ∈ lw_tbl := tk_2 (List.mem_of_getElem? (i := 109) (by decide +kernel))
theorem tw_350 : (Cond.methodLink "EchoCouncil$State" 36 ⟨"EchoCouncil$Echoes", "copyFrom", "(LEchoCouncil$Echoes;)V"⟩) ∈ lw_tbl := tk_2 (List.mem_of_getElem? (i := 110) (by decide +kernel))
theorem tw_351 : (Cond.instanceMethod ⟨"EchoCouncil$Echoes", "copyFrom", "(LEchoCouncil$Echoes;)V"⟩) ∈ lw_tbl := tk_2 (List.mem_of_getElem? (i := 111) (by decide +kernel))
theorem tw_352 : (Cond.selects "EchoCouncil$Echoes" ⟨"EchoCouncil$Echoes", "copyFrom", "(LEchoCouncil$Echoes;)V"⟩ ⟨"EchoCouncil$Echoes", "copyFrom", "(LEchoCouncil$Echoes;)V"⟩) ∈ lw_tbl := tk_2 (List.mem_of_getElem? (i := 112) (by decide +kernel))
theorem tw_353 : (Cond.code ⟨"EchoCouncil$Echoes", "copyFrom", "(LEchoCouncil$Echoes;)V"⟩ prog_3_method_2_code 2 none) ∈ lw_tbl := tk_2 (List.mem_of_getElem? (i := 113) (by decide +kernel))
theorem tw_354 : (Cond.methodLink "EchoCouncil$Echoes" 31 ⟨"java/lang/System", "arraycopy", "(Ljava/lang/Object;ILjava/lang/Object;II)V"⟩) ∈ lw_tbl := tk_2 (List.mem_of_getElem? (i := 114) (by decide +kernel))
theorem tw_355 : (Cond.methodLink "EchoCouncil$State" 39 ⟨"EchoCouncil$Singers", "copyFrom", "(LEchoCouncil$Singers;)V"⟩) ∈ lw_tbl := tk_2 (List.mem_of_getElem? (i := 115) (by decide +kernel))
theorem tw_356 : (Cond.instanceMethod ⟨"EchoCouncil$Singers", "copyFrom", "(LEchoCouncil$Singers;)V"⟩) ∈ lw_tbl := tk_2 (List.mem_of_getElem? (i := 116) (by decide +kernel))
theorem tw_357 : (Cond.selects "EchoCouncil$Singers" ⟨"EchoCouncil$Singers", "copyFrom", "(LEchoCouncil$Singers;)V"⟩ ⟨"EchoCouncil$Singers", "copyFrom", "(LEchoCouncil$Singers;)V"⟩) ∈ lw_tbl := tk_2 (List.mem_of_getElem? (i := 117) (by decide +kernel))
theorem tw_358 : (Cond.code ⟨"EchoCouncil$Singers", "copyFrom", "(LEchoCouncil$Singers;)V"⟩ prog_9_method_2_code 2 none) ∈ lw_tbl := tk_2 (List.mem_of_getElem? (i := 118) (by decide +kernel))
theorem tw_359 : (Cond.methodLink "EchoCouncil$Singers" 31 ⟨"java/lang/System", "arraycopy", "(Ljava/lang/Object;ILjava/lang/Object;II)V"⟩) ∈ lw_tbl := tk_2 (List.mem_of_getElem? (i := 119) (by decide +kernel))
theorem tw_360 : (Cond.methodLink "EchoCouncil$Past" 29 ⟨"java/lang/Math", "min", "(II)I"⟩) ∈ lw_tbl := tk_2 (List.mem_of_getElem? (i := 120) (by decide +kernel))
theorem tw_361 : (Cond.static ⟨"java/lang/Math", "min", "(II)I"⟩) ∈ lw_tbl := tk_2 (List.mem_of_getElem? (i := 121) (by decide +kernel))
theorem tw_362 : (Cond.code ⟨"java/lang/Math", "min", "(II)I"⟩ prog_27_method_69_code 2 (some FieldType.int)) ∈ lw_tbl := tk_2 (List.mem_of_getElem? (i := 122) (by decide +kernel))
theorem tw_363 : (Cond.methodLink "EchoCouncil" 88 ⟨"EchoCouncil$State", "letNightPass", "()I"⟩) ∈ lw_tbl := tk_2 (List.mem_of_getElem? (i := 123) (by decide +kernel))
theorem tw_364 : (Cond.instanceMethod ⟨"EchoCouncil$State", "letNightPass", "()I"⟩) ∈ lw_tbl := tk_2 (List.mem_of_getElem? (i := 124) (by decide +kernel))
theorem tw_365 : (Cond.selects "EchoCouncil$State" ⟨"EchoCouncil$State", "letNightPass", "()I"⟩ ⟨"EchoCouncil$State", "letNightPass", "()I"⟩) ∈ lw_tbl := tk_2 (List.mem_of_getElem? (i := 125) (by decide +kernel))
theorem tw_366 : (Cond.code ⟨"EchoCouncil$State", "letNightPass", "()I"⟩ prog_10_method_40_code 4 (some FieldType.int)) ∈ lw_tbl := tk_2 (List.mem_of_getElem? (i := 126) (by decide +kernel))
theorem tw_367 : (Cond.methodLink "EchoCouncil$State" 96 ⟨"java/lang/Math", "max", "(II)I"⟩) ∈ lw_tbl := tk_2 (List.mem_of_getElem? (i := 127) (by decide +kernel))
theorem tw_368 : (Cond.static ⟨"java/lang/Math", "max", "(II)I"⟩) ∈ lw_tbl := tk_2 (List.mem_of_getElem? (i := 128) (by decide +kernel))
theorem tw_369 : (Cond.code ⟨"java/lang/Math", "max", "(II)I"⟩ prog_27_method_65_code 2 (some FieldType.int)) ∈ lw_tbl := tk_2 (List.mem_of_getElem? (i := 129) (by decide +kernel))
theorem tw_370 : (Cond.methodLink "EchoCouncil$State" 116 ⟨"java/lang/Math", "min", "(II)I"⟩) ∈ lw_tbl := tk_2 (List.mem_of_getElem? (i := 130) (by decide +kernel))
theorem tw_371 : (Cond.methodLink "EchoCouncilLaw" 245 ⟨"EchoCouncil", "isTold", "()Z"⟩) ∈ lw_tbl := tk_2 (List.mem_of_getElem? (i := 131) (by decide +kernel))
theorem tw_372 : (Cond.instanceMethod ⟨"EchoCouncil", "isTold", "()Z"⟩) ∈ lw_tbl := tk_2 (List.mem_of_getElem? (i := 132) (by decide +kernel))
theorem tw_373 : (Cond.selects "EchoCouncil" ⟨"EchoCouncil", "isTold", "()Z"⟩ ⟨"EchoCouncil", "isTold", "()Z"⟩) ∈ lw_tbl := tk_2 (List.mem_of_getElem? (i := 133) (by decide +kernel))
theorem tw_374 : (Cond.code ⟨"EchoCouncil", "isTold", "()Z"⟩ prog_1_method_30_code 2 (some FieldType.boolean)) ∈ lw_tbl := tk_2 (List.mem_of_getElem? (i := 134) (by decide +kernel))
theorem tw_375 : (Cond.methodLink "EchoCouncil" 250 ⟨"EchoCouncil$State", "isInside", "(I)Z"⟩) ∈ lw_tbl := tk_2 (List.mem_of_getElem? (i := 135) (by decide +kernel))
theorem tw_376 : (Cond.instanceMethod ⟨"EchoCouncil$State", "isInside", "(I)Z"⟩) ∈ lw_tbl := tk_2 (List.mem_of_getElem? (i := 136) (by decide +kernel))
theorem tw_377 : (Cond.selects "EchoCouncil$State" ⟨"EchoCouncil$State", "isInside", "(I)Z"⟩ ⟨"EchoCouncil$State", "isInside", "(I)Z"⟩) ∈ lw_tbl := tk_2 (List.mem_of_getElem? (i := 137) (by decide +kernel))
theorem tw_378 : (Cond.code ⟨"EchoCouncil$State", "isInside", "(I)Z"⟩ prog_10_method_6_code 2 (some FieldType.boolean)) ∈ lw_tbl := tk_2 (List.mem_of_getElem? (i := 138) (by decide +kernel))
theorem tw_379 : (Cond.methodLink "EchoCouncil" 253 ⟨"EchoCouncil", "bothWaysAgree", "(I)Z"⟩) ∈ lw_tbl := tk_2 (List.mem_of_getElem? (i := 139) (by decide +kernel))
theorem tw_380 : (Cond.privateMethod ⟨"EchoCouncil", "bothWaysAgree", "(I)Z"⟩) ∈ lw_tbl := tk_2 (List.mem_of_getElem? (i := 140) (by decide +kernel))
theorem tw_381 : (Cond.instanceMethod ⟨"EchoCouncil", "bothWaysAgree", "(I)Z"⟩) ∈ lw_tbl := tk_2 (List.mem_of_getElem? (i := 141) (by decide +kernel))
theorem tw_382 : (Cond.code ⟨"EchoCouncil", "bothWaysAgree", "(I)Z"⟩ prog_1_method_62_code 2 (some FieldType.boolean)) ∈ lw_tbl := tk_2 (List.mem_of_getElem? (i := 142) (by decide +kernel))
theorem tw_383 : (Cond.methodLink "EchoCouncil" 187 ⟨"EchoCouncil$State", "tonesInRoom", "(II)I"⟩) ∈ lw_tbl := tk_2 (List.mem_of_getElem? (i := 143) (by decide +kernel))
theorem tw_384 : (Cond.instanceMethod ⟨"EchoCouncil$State", "tonesInRoom", "(II)I"⟩) ∈ lw_tbl := tk_2 (List.mem_of_getElem? (i := 144) (by decide +kernel))
theorem tw_385 : (Cond.selects "EchoCouncil$State" ⟨"EchoCouncil$State", "tonesInRoom", "(II)I"⟩ ⟨"EchoCouncil$State", "tonesInRoom", "(II)I"⟩) ∈ lw_tbl := tk_2 (List.mem_of_getElem? (i := 145) (by decide +kernel))
theorem tw_386 : (Cond.code ⟨"EchoCouncil$State", "tonesInRoom", "(II)I"⟩ prog_10_method_17_code 5 (some FieldType.int)) ∈ lw_tbl := tk_2 (List.mem_of_getElem? (i := 146) (by decide +kernel))
theorem tw_387 : (Cond.methodLink "EchoCouncil$State" 102 ⟨"EchoCouncil$State", "isHeard", "(III)Z"⟩) ∈ lw_tbl := tk_2 (List.mem_of_getElem? (i := 147) (by decide +kernel))
theorem tw_388 : (Cond.instanceMethod ⟨"EchoCouncil$State", "isHeard", "(III)Z"⟩) ∈ lw_tbl := tk_2 (List.mem_of_getElem? (i := 148) (by decide +kernel))
theorem tw_389 : (Cond.selects "EchoCouncil$State" ⟨"EchoCouncil$State", "isHeard", "(III)Z"⟩ ⟨"EchoCouncil$State", "isHeard", "(III)Z"⟩) ∈ lw_tbl := tk_2 (List.mem_of_getElem? (i := 149) (by decide +kernel))
theorem tw_390 : (Cond.code ⟨"EchoCouncil$State", "isHeard", "(III)Z"⟩ prog_10_method_16_code 4 (some FieldType.boolean)) ∈ lw_tbl := tk_2 (List.mem_of_getElem? (i := 150) (by decide +kernel))
theorem tw_391 : (Cond.methodLink "EchoCouncil$State" 106 ⟨"EchoCouncil$State", "aboveDamp", "(I)I"⟩) ∈ lw_tbl := tk_2 (List.mem_of_getElem? (i := 151) (by decide +kernel))
theorem tw_392 : (Cond.instanceMethod ⟨"EchoCouncil$State", "aboveDamp", "(I)I"⟩) ∈ lw_tbl := tk_2 (List.mem_of_getElem? (i := 152) (by decide +kernel))
theorem tw_393 : (Cond.selects "EchoCouncil$State" ⟨"EchoCouncil$State", "aboveDamp", "(I)I"⟩ ⟨"EchoCouncil$State", "aboveDamp", "(I)I"⟩) ∈ lw_tbl := tk_2 (List.mem_of_getElem? (i := 153) (by decide +kernel))
theorem tw_394 : (Cond.code ⟨"EchoCouncil$State", "aboveDamp", "(I)I"⟩ prog_10_method_15_code 2 (some FieldType.int)) ∈ lw_tbl := tk_2 (List.mem_of_getElem? (i := 154) (by decide +kernel))
theorem tw_395 : (Cond.methodLink "EchoCouncil" 191 ⟨"EchoCouncil$State", "tonesByStrength", "(I)I"⟩) ∈ lw_tbl := tk_2 (List.mem_of_getElem? (i := 155) (by decide +kernel))
theorem tw_396 : (Cond.instanceMethod ⟨"EchoCouncil$State", "tonesByStrength", "(I)I"⟩) ∈ lw_tbl := tk_2 (List.mem_of_getElem? (i := 156) (by decide +kernel))
theorem tw_397 : (Cond.selects "EchoCouncil$State" ⟨"EchoCouncil$State", "tonesByStrength", "(I)I"⟩ ⟨"EchoCouncil$State", "tonesByStrength", "(I)I"⟩) ∈ lw_tbl := tk_2 (List.mem_of_getElem? (i := 157) (by decide +kernel))
theorem tw_398 : (Cond.code ⟨"EchoCouncil$State", "tonesByStrength", "(I)I"⟩ prog_10_method_18_code 5 (some FieldType.int)) ∈ lw_tbl := tk_2 (List.mem_of_getElem? (i := 158) (by decide +kernel))
theorem tw_399 : (Cond.methodLink "EchoCouncil$State" 109 ⟨"EchoCouncil$State", "countHeardOf", "(III)I"⟩) ∈ lw_tbl := tk_2 (List.mem_of_getElem? (i := 159) (by decide +kernel))
theorem tw_400 : (Cond.instanceMethod ⟨"EchoCouncil$State", "countHeardOf", "(III)I"⟩) ∈ lw_tbl := tk_2 (List.mem_of_getElem? (i := 160) (by decide +kernel))
theorem tw_401 : (Cond.selects "EchoCouncil$State" ⟨"EchoCouncil$State", "countHeardOf", "(III)I"⟩ ⟨"EchoCouncil$State", "countHeardOf", "(III)I"⟩) ∈ lw_tbl := tk_2 (List.mem_of_getElem? (i := 161) (by decide +kernel))
theorem tw_402 : (Cond.code ⟨"EchoCouncil$State", "countHeardOf", "(III)I"⟩ prog_10_method_19_code 6 (some FieldType.int)) ∈ lw_tbl := tk_2 (List.mem_of_getElem? (i := 162) (by decide +kernel))
theorem tw_403 : (Cond.methodLink "EchoCouncil" 194 ⟨"EchoCouncil$State", "versesInThought", "(I)I"⟩) ∈ lw_tbl := tk_2 (List.mem_of_getElem? (i := 163) (by decide +kernel))
theorem tw_404 : (Cond.instanceMethod ⟨"EchoCouncil$State", "versesInThought", "(I)I"⟩) ∈ lw_tbl := tk_2 (List.mem_of_getElem? (i := 164) (by decide +kernel))
theorem tw_405 : (Cond.selects "EchoCouncil$State" ⟨"EchoCouncil$State", "versesInThought", "(I)I"⟩ ⟨"EchoCouncil$State", "versesInThought", "(I)I"⟩) ∈ lw_tbl := tk_2 (List.mem_of_getElem? (i := 165) (by decide +kernel))
theorem tw_406 : (Cond.code ⟨"EchoCouncil$State", "versesInThought", "(I)I"⟩ prog_10_method_20_code 3 (some FieldType.int)) ∈ lw_tbl := tk_2 (List.mem_of_getElem? (i := 166) (by decide +kernel))
theorem tw_407 : (Cond.methodLink "EchoCouncil$State" 113 ⟨"EchoCouncil$State", "tonesAfter", "(II)I"⟩) ∈ lw_tbl := tk_2 (List.mem_of_getElem? (i := 167) (by decide +kernel))
theorem tw_408 : (Cond.instanceMethod ⟨"EchoCouncil$State", "tonesAfter", "(II)I"⟩) ∈ lw_tbl := tk_2 (List.mem_of_getElem? (i := 168) (by decide +kernel))
theorem tw_409 : (Cond.selects "EchoCouncil$State" ⟨"EchoCouncil$State", "tonesAfter", "(II)I"⟩ ⟨"EchoCouncil$State", "tonesAfter", "(II)I"⟩) ∈ lw_tbl := tk_2 (List.mem_of_getElem? (i := 169) (by decide +kernel))
theorem tw_410 : (Cond.code ⟨"EchoCouncil$State", "tonesAfter", "(II)I"⟩ prog_10_method_21_code 7 (some FieldType.int)) ∈ lw_tbl := tk_2 (List.mem_of_getElem? (i := 170) (by decide +kernel))
theorem tw_411 : (Cond.methodLink "EchoCouncil" 197 ⟨"EchoCouncil$State", "versesByEcho", "(I)I"⟩) ∈ lw_tbl := tk_2 (List.mem_of_getElem? (i := 171) (by decide +kernel))
theorem tw_412 : (Cond.instanceMethod ⟨"EchoCouncil$State", "versesByEcho", "(I)I"⟩) ∈ lw_tbl := tk_2 (List.mem_of_getElem? (i := 172) (by decide +kernel))
theorem tw_413 : (Cond.selects "EchoCouncil$State" ⟨"EchoCouncil$State", "versesByEcho", "(I)I"⟩ ⟨"EchoCouncil$State", "versesByEcho", "(I)I"⟩) ∈ lw_tbl := tk_2 (List.mem_of_getElem? (i := 173) (by decide +kernel))
theorem tw_414 : (Cond.code ⟨"EchoCouncil$State", "versesByEcho", "(I)I"⟩ prog_10_method_22_code 4 (some FieldType.int)) ∈ lw_tbl := tk_2 (List.mem_of_getElem? (i := 174) (by decide +kernel))
theorem tw_415 : (Cond.methodLink "EchoCouncil" 265 ⟨"EchoCouncil$State", "heldOfAll", "()I"⟩) ∈ lw_tbl := tk_2 (List.mem_of_getElem? (i := 175) (by decide +kernel))
theorem tw_416 : (Cond.instanceMethod ⟨"EchoCouncil$State", "heldOfAll", "()I"⟩) ∈ lw_tbl := tk_2 (List.mem_of_getElem? (i := 176) (by decide +kernel))
theorem tw_417 : (Cond.selects "EchoCouncil$State" ⟨"EchoCouncil$State", "heldOfAll", "()I"⟩ ⟨"EchoCouncil$State", "heldOfAll", "()I"⟩) ∈ lw_tbl := tk_2 (List.mem_of_getElem? (i := 177) (by decide +kernel))
theorem tw_418 : (Cond.code ⟨"EchoCouncil$State", "heldOfAll", "()I"⟩ prog_10_method_26_code 3 (some FieldType.int)) ∈ lw_tbl := tk_2 (List.mem_of_getElem? (i := 178) (by decide +kernel))
theorem tw_419 : (Cond.methodLink "EchoCouncil$State" 125 ⟨"EchoCouncil$State", "heldOf", "(I)I"⟩) ∈ lw_tbl := tk_2 (List.mem_of_getElem? (i := 179) (by decide +kernel))
theorem tw_420 : (Cond.instanceMethod ⟨"EchoCouncil$State", "heldOf", "(I)I"⟩) ∈ lw_tbl := tk_2 (List.mem_of_getElem? (i := 180) (by decide +kernel))
theorem tw_421 : (Cond.selects "EchoCouncil$State" ⟨"EchoCouncil$State", "heldOf", "(I)I"⟩ ⟨"EchoCouncil$State", "heldOf", "(I)I"⟩) ∈ lw_tbl := tk_2 (List.mem_of_getElem? (i := 181) (by decide +kernel))
theorem tw_422 : (Cond.code ⟨"EchoCouncil$State", "heldOf", "(I)I"⟩ prog_10_method_25_code 4 (some FieldType.int)) ∈ lw_tbl := tk_2 (List.mem_of_getElem? (i := 182) (by decide +kernel))
theorem tw_423 : (Cond.methodLink "EchoCouncilLaw" 258 ⟨"EchoCouncil", "faultPosition", "()I"⟩) ∈ lw_tbl := tk_2 (List.mem_of_getElem? (i := 183) (by decide +kernel))
theorem tw_424 : (Cond.instanceMethod ⟨"EchoCouncil", "faultPosition", "()I"⟩) ∈ lw_tbl := tk_2 (List.mem_of_getElem? (i := 184) (by decide +kernel))
theorem tw_425 : (Cond.selects "EchoCouncil" ⟨"EchoCouncil", "faultPosition", "()I"⟩ ⟨"EchoCouncil", "faultPosition", "()I"⟩) ∈ lw_tbl := tk_2 (List.mem_of_getElem? (i := 185) (by decide +kernel))
theorem tw_426 : (Cond.code ⟨"EchoCouncil", "faultPosition", "()I"⟩ prog_1_method_33_code 1 (some FieldType.int)) ∈ lw_tbl := tk_2 (List.mem_of_getElem? (i := 186) (by decide +kernel))
theorem tw_427 : (Cond.methodLink "EchoCouncilLaw" 291 ⟨"EchoCouncil", "save", "()I"⟩) ∈ lw_tbl := tk_2 (List.mem_of_getElem? (i := 187) (by decide +kernel))
theorem tw_428 : (Cond.instanceMethod ⟨"EchoCouncil", "save", "()I"⟩) ∈ lw_tbl := tk_2 (List.mem_of_getElem? (i := 188) (by decide +kernel))
theorem tw_429 : (Cond.selects "EchoCouncil" ⟨"EchoCouncil", "save", "()I"⟩ ⟨"EchoCouncil", "save", "()I"⟩) ∈ lw_tbl := tk_2 (List.mem_of_getElem? (i := 189) (by decide +kernel))
theorem tw_430 : (Cond.code ⟨"EchoCouncil", "save", "()I"⟩ prog_1_method_43_code 1 (some FieldType.int)) ∈ lw_tbl := tk_2 (List.mem_of_getElem? (i := 190) (by decide +kernel))
theorem tw_431 : (Cond.methodLink "EchoCouncil" 382 ⟨"EchoCouncil$State", "copyFrom", "(LEchoCouncil$State;)V"⟩) ∈ lw_tbl := tk_2 (List.mem_of_getElem? (i := 191) (by decide +kernel))
theorem tw_432 : (Cond.methodLink "EchoCouncilLaw" 152 ⟨"EchoCouncilLaw", "room", "(LEchoCouncil;I[J)I"⟩) ∈ lw_tbl := tk_2 (List.mem_of_getElem? (i := 192) (by decide +kernel))
theorem tw_433 : (Cond.static ⟨"EchoCouncilLaw", "room", "(LEchoCouncil;I[J)I"⟩) ∈ lw_tbl := tk_2 (List.mem_of_getElem? (i := 193) (by decide +kernel))
theorem tw_434 : (Cond.codeWith ⟨"EchoCouncilLaw", "room", "(LEchoCouncil;I[J)I"⟩ method_3_code 4 (some FieldType.int) [(0, 9, 12, 13)]) ∈ lw_tbl := tk_2 (List.mem_of_getElem? (i := 194) (by decide +kernel))
theorem tw_435 : (Cond.classLink "EchoCouncilLaw" 13 "java/lang/UnsupportedOperationException") ∈ lw_tbl := tk_2 (List.mem_of_getElem? (i := 195) (by decide +kernel))
theorem tw_436 : (Cond.methodLink "EchoCouncilLaw" 7 ⟨"EchoCouncil", "room", "(I)I"⟩) ∈ lw_tbl := tk_2 (List.mem_of_getElem? (i := 196) (by decide +kernel))
theorem tw_437 : (Cond.instanceMethod ⟨"EchoCouncil", "room", "(I)I"⟩) ∈ lw_tbl := tk_2 (List.mem_of_getElem? (i := 197) (by decide +kernel))
theorem tw_438 : (Cond.selects "EchoCouncil" ⟨"EchoCouncil", "room", "(I)I"⟩ ⟨"EchoCouncil", "room", "(I)I"⟩) ∈ lw_tbl := tk_2 (List.mem_of_getElem? (i := 198) (by decide +kernel))
theorem tw_439 : (Cond.code ⟨"EchoCouncil", "room", "(I)I"⟩ prog_1_method_2_code 2 (some FieldType.int)) ∈ lw_tbl := tk_2 (List.mem_of_getElem? (i := 199) (by decide +kernel))
theorem tw_440 : (Cond.fieldLink "EchoCouncil" 50 "EchoCouncil$OrderKind" "ROOM" "LEchoCouncil$OrderKind;") ∈ lw_tbl := tk_2 (List.mem_of_getElem? (i := 200) (by decide +kernel))
theorem tw_441 : (Cond.laysStatic "EchoCouncil$OrderKind" "ROOM" "LEchoCouncil$OrderKind;") ∈ lw_tbl := tk_2 (List.mem_of_getElem? (i := 201) (by decide +kernel))
theorem tw_442 : (Cond.methodLink "EchoCouncil" 56 ⟨"EchoCouncil", "change", "(LEchoCouncil$OrderKind;III)I"⟩) ∈ lw_tbl := tk_2 (List.mem_of_getElem? (i := 202) (by decide +kernel))
theorem tw_443 : (Cond.privateMethod ⟨"EchoCouncil", "change", "(LEchoCouncil$OrderKind;III)I"⟩) ∈ lw_tbl := tk_2 (List.mem_of_getElem? (i := 203) (by decide +kernel))
theorem tw_444 : (Cond.instanceMethod ⟨"EchoCouncil", "change", "(LEchoCouncil$OrderKind;III)I"⟩) ∈ lw_tbl := tk_2 (List.mem_of_getElem? (i := 204) (by decide +kernel))
theorem tw_445 : (Cond.code ⟨"EchoCouncil", "change", "(LEchoCouncil$OrderKind;III)I"⟩ prog_1_method_49_code 5 (some FieldType.int)) ∈ lw_tbl := tk_2 (List.mem_of_getElem? (i := 205) (by decide +kernel))
theorem tw_446 : (Cond.methodLink "EchoCouncil" 410 ⟨"EchoCouncil", "isRefused", "(LEchoCouncil$OrderKind;III)Z"⟩) ∈ lw_tbl := tk_2 (List.mem_of_getElem? (i := 206) (by decide +kernel))
theorem tw_447 : (Cond.privateMethod ⟨"EchoCouncil", "isRefused", "(LEchoCouncil$OrderKind;III)Z"⟩) ∈ lw_tbl := tk_2 (List.mem_of_getElem? (i := 207) (by decide +kernel))
theorem tw_448 : (Cond.instanceMethod ⟨"EchoCouncil", "isRefused", "(LEchoCouncil$OrderKind;III)Z"⟩) ∈ lw_tbl := tk_2 (List.mem_of_getElem? (i := 208) (by decide +kernel))
theorem tw_449 : (Cond.code ⟨"EchoCouncil", "isRefused", "(LEchoCouncil$OrderKind;III)Z"⟩ prog_1_method_52_code 5 (some FieldType.boolean)) ∈ lw_tbl := tk_2 (List.mem_of_getElem? (i := 209) (by decide +kernel))
theorem tw_450 : (Cond.fieldLink "EchoCouncil" 431 "EchoCouncil$1" "$SwitchMap$EchoCouncil$OrderKind" "[I") ∈ lw_tbl := tk_2 (List.mem_of_getElem? (i := 210) (by decide +kernel))
theorem tw_451 : (Cond.laysStatic "EchoCouncil$1" "$SwitchMap$EchoCouncil$OrderKind" "[I") ∈ lw_tbl := tk_2 (List.mem_of_getElem? (i := 211) (by decide +kernel))
theorem tw_452 : (Cond.methodLink "EchoCouncil" 436 ⟨"EchoCouncil$OrderKind", "ordinal", "()I"⟩) ∈ lw_tbl := tk_2 (List.mem_of_getElem? (i := 212) (by decide +kernel))
theorem tw_453 : (Cond.sameMethod "EchoCouncil$OrderKind" "java/lang/Enum" "ordinal" "()I") ∈ lw_tbl := tk_2 (List.mem_of_getElem? (i := 213) (by decide +kernel))
theorem tw_454 : (Cond.declares ⟨"java/lang/Enum", "ordinal", "()I"⟩) ∈ lw_tbl := tk_2 (List.mem_of_getElem? (i := 214) (by decide +kernel))
theorem tw_455 : (Cond.selects "EchoCouncil$OrderKind" ⟨"EchoCouncil$OrderKind", "ordinal", "()I"⟩ ⟨"java/lang/Enum", "ordinal", "()I"⟩) ∈ lw_tbl := tk_2 (List.mem_of_getElem? (i := 215) (by decide +kernel))
theorem tw_456 : (Cond.instanceMethod ⟨"java/lang/Enum", "ordinal", "()I"⟩) ∈ lw_tbl := tk_2 (List.mem_of_getElem? (i := 216) (by decide +kernel))
theorem tw_457 : (Cond.code ⟨"java/lang/Enum", "ordinal", "()I"⟩ prog_21_method_2_code 1 (some FieldType.int)) ∈ lw_tbl := tk_2 (List.mem_of_getElem? (i := 217) (by decide +kernel))
theorem tw_458 : (Cond.methodLink "EchoCouncil" 467 ⟨"EchoCouncil", "isRoomRefused", "(I)Z"⟩) ∈ lw_tbl := tk_2 (List.mem_of_getElem? (i := 218) (by decide +kernel))
theorem tw_459 : (Cond.privateMethod ⟨"EchoCouncil", "isRoomRefused", "(I)Z"⟩) ∈ lw_tbl := tk_2 (List.mem_of_getElem? (i := 219) (by decide +kernel))
theorem tw_460 : (Cond.instanceMethod ⟨"EchoCouncil", "isRoomRefused", "(I)Z"⟩) ∈ lw_tbl := tk_2 (List.mem_of_getElem? (i := 220) (by decide +kernel))
theorem tw_461 : (Cond.code ⟨"EchoCouncil", "isRoomRefused", "(I)Z"⟩ prog_1_method_53_code 2 (some FieldType.boolean)) ∈ lw_tbl := tk_2 (List.mem_of_getElem? (i := 221) (by decide +kernel))
theorem tw_462 : (Cond.methodLink "EchoCouncil" 495 ⟨"EchoCouncil$Refusal", "keep", "(II)Z"⟩) ∈ lw_tbl := tk_2 (List.mem_of_getElem? (i := 222) (by decide +kernel))
theorem tw_463 : (Cond.instanceMethod ⟨"EchoCouncil$Refusal", "keep", "(II)Z"⟩) ∈ lw_tbl := tk_2 (List.mem_of_getElem? (i := 223) (by decide +kernel))
theorem tw_464 : (Cond.selects "EchoCouncil$Refusal" ⟨"EchoCouncil$Refusal", "keep", "(II)Z"⟩ ⟨"EchoCouncil$Refusal", "keep", "(II)Z"⟩) ∈ lw_tbl := tk_2 (List.mem_of_getElem? (i := 224) (by decide +kernel))
theorem tw_465 : (Cond.code ⟨"EchoCouncil$Refusal", "keep", "(II)Z"⟩ prog_7_method_2_code 3 (some FieldType.boolean)) ∈ lw_tbl := tk_2 (List.mem_of_getElem? (i := 225) (by decide +kernel))
theorem tw_466 : (Cond.methodLink "EchoCouncil" 470 ⟨"EchoCouncil", "isEchoRefused", "(II)Z"⟩) ∈ lw_tbl := tk_2 (List.mem_of_getElem? (i := 226) (by decide +kernel))
theorem tw_467 : (Cond.privateMethod ⟨"EchoCouncil", "isEchoRefused", "(II)Z"⟩) ∈ lw_tbl := tk_2 (List.mem_of_getElem? (i := 227) (by decide +kernel))
theorem tw_468 : (Cond.instanceMethod ⟨"EchoCouncil", "isEchoRefused", "(II)Z"⟩) ∈ lw_tbl := tk_2 (List.mem_of_getElem? (i := 228) (by decide +kernel))
theorem tw_469 : (Cond.code ⟨"EchoCouncil", "isEchoRefused", "(II)Z"⟩ prog_1_method_54_code 3 (some FieldType.boolean)) ∈ lw_tbl := tk_2 (List.mem_of_getElem? (i := 229) (by decide +kernel))
theorem tw_470 : (Cond.methodLink "EchoCouncil" 393 ⟨"EchoCouncil$State", "hasRoom", "(I)Z"⟩) ∈ lw_tbl := tk_2 (List.mem_of_getElem? (i := 230) (by decide +kernel))
theorem tw_471 : (Cond.instanceMethod ⟨"EchoCouncil$State", "hasRoom", "(I)Z"⟩) ∈ lw_tbl := tk_2 (List.mem_of_getElem? (i := 231) (by decide +kernel))
theorem tw_472 : (Cond.selects "EchoCouncil$State" ⟨"EchoCouncil$State", "hasRoom", "(I)Z"⟩ ⟨"EchoCouncil$State", "hasRoom", "(I)Z"⟩) ∈ lw_tbl := tk_2 (List.mem_of_getElem? (i := 232) (by decide +kernel))
theorem tw_473 : (Cond.code ⟨"EchoCouncil$State", "hasRoom", "(I)Z"⟩ prog_10_method_3_code 2 (some FieldType.boolean)) ∈ lw_tbl := tk_2 (List.mem_of_getElem? (i := 233) (by decide +kernel))
theorem tw_474 : (Cond.methodLink "EchoCouncil" 473 ⟨"EchoCouncil", "isSingerRefused", "(II)Z"⟩) ∈ lw_tbl := tk_2 (List.mem_of_getElem? (i := 234) (by decide +kernel))
theorem tw_475 : (Cond.privateMethod ⟨"EchoCouncil", "isSingerRefused", "(II)Z"⟩) ∈ lw_tbl := tk_2 (List.mem_of_getElem? (i := 235) (by decide +kernel))
theorem tw_476 : (Cond.instanceMethod ⟨"EchoCouncil", "isSingerRefused", "(II)Z"⟩) ∈ lw_tbl := tk_2 (List.mem_of_getElem? (i := 236) (by decide +kernel))
theorem tw_477 : (Cond.code ⟨"EchoCouncil", "isSingerRefused", "(II)Z"⟩ prog_1_method_55_code 3 (some FieldType.boolean)) ∈ lw_tbl := tk_2 (List.mem_of_getElem? (i := 237) (by decide +kernel))
theorem tw_478 : (Cond.methodLink "EchoCouncil" 476 ⟨"EchoCouncil", "isEnteringRefused", "(II)Z"⟩) ∈ lw_tbl := tk_2 (List.mem_of_getElem? (i := 238) (by decide +kernel))
theorem tw_479 : (Cond.privateMethod ⟨"EchoCouncil", "isEnteringRefused", "(II)Z"⟩) ∈ lw_tbl := tk_2 (List.mem_of_getElem? (i := 239) (by decide +kernel))
theorem tw_480 : (Cond.instanceMethod ⟨"EchoCouncil", "isEnteringRefused", "(II)Z"⟩) ∈ lw_tbl := tk_3 (List.mem_of_getElem? (i := 0) (by decide +kernel))
theorem tw_481 : (Cond.code ⟨"EchoCouncil", "isEnteringRefused", "(II)Z"⟩ prog_1_method_56_code 3 (some FieldType.boolean)) ∈ lw_tbl := tk_3 (List.mem_of_getElem? (i := 1) (by decide +kernel))
theorem tw_482 : (Cond.methodLink "EchoCouncil" 403 ⟨"EchoCouncil$State", "hasSinger", "(I)Z"⟩) ∈ lw_tbl := tk_3 (List.mem_of_getElem? (i := 2) (by decide +kernel))
theorem tw_483 : (Cond.instanceMethod ⟨"EchoCouncil$State", "hasSinger", "(I)Z"⟩) ∈ lw_tbl := tk_3 (List.mem_of_getElem? (i := 3) (by decide +kernel))
theorem tw_484 : (Cond.selects "EchoCouncil$State" ⟨"EchoCouncil$State", "hasSinger", "(I)Z"⟩ ⟨"EchoCouncil$State", "hasSinger", "(I)Z"⟩) ∈ lw_tbl := tk_3 (List.mem_of_getElem? (i := 4) (by decide +kernel))
theorem tw_485 : (Cond.code ⟨"EchoCouncil$State", "hasSinger", "(I)Z"⟩ prog_10_method_5_code 2 (some FieldType.boolean)) ∈ lw_tbl := tk_3 (List.mem_of_getElem? (i := 5) (by decide +kernel))
theorem tw_486 : (Cond.methodLink "EchoCouncil" 209 ⟨"EchoCouncil$State", "isFull", "(I)Z"⟩) ∈ lw_tbl := tk_3 (List.mem_of_getElem? (i := 6) (by decide +kernel))
theorem tw_487 : (Cond.instanceMethod ⟨"EchoCouncil$State", "isFull", "(I)Z"⟩) ∈ lw_tbl := tk_3 (List.mem_of_getElem? (i := 7) (by decide +kernel))
theorem tw_488 : (Cond.selects "EchoCouncil$State" ⟨"EchoCouncil$State", "isFull", "(I)Z"⟩ ⟨"EchoCouncil$State", "isFull", "(I)Z"⟩) ∈ lw_tbl := tk_3 (List.mem_of_getElem? (i := 8) (by decide +kernel))
theorem tw_489 : (Cond.code ⟨"EchoCouncil$State", "isFull", "(I)Z"⟩ prog_10_method_10_code 2 (some FieldType.boolean)) ∈ lw_tbl := tk_3 (List.mem_of_getElem? (i := 9) (by decide +kernel))
theorem tw_490 : (Cond.methodLink "EchoCouncil$State" 74 ⟨"EchoCouncil$State", "singersIn", "(I)I"⟩) ∈ lw_tbl := tk_3 (List.mem_of_getElem? (i := 10) (by decide +kernel))
theorem tw_491 : (Cond.instanceMethod ⟨"EchoCouncil$State", "singersIn", "(I)I"⟩) ∈ lw_tbl := tk_3 (List.mem_of_getElem? (i := 11) (by decide +kernel))
theorem tw_492 : (Cond.selects "EchoCouncil$State" ⟨"EchoCouncil$State", "singersIn", "(I)I"⟩ ⟨"EchoCouncil$State", "singersIn", "(I)I"⟩) ∈ lw_tbl := tk_3 (List.mem_of_getElem? (i := 12) (by decide +kernel))
theorem tw_493 : (Cond.code ⟨"EchoCouncil$State", "singersIn", "(I)I"⟩ prog_10_method_12_code 4 (some FieldType.int)) ∈ lw_tbl := tk_3 (List.mem_of_getElem? (i := 13) (by decide +kernel))
theorem tw_494 : (Cond.methodLink "EchoCouncil$State" 78 ⟨"java/lang/Integer", "bitCount", "(I)I"⟩) ∈ lw_tbl := tk_3 (List.mem_of_getElem? (i := 14) (by decide +kernel))
theorem tw_495 : (Cond.static ⟨"java/lang/Integer", "bitCount", "(I)I"⟩) ∈ lw_tbl := tk_3 (List.mem_of_getElem? (i := 15) (by decide +kernel))
theorem tw_496 : (Cond.code ⟨"java/lang/Integer", "bitCount", "(I)I"⟩ prog_26_method_49_code 1 (some FieldType.int)) ∈ lw_tbl := tk_3 (List.mem_of_getElem? (i := 16) (by decide +kernel))
theorem tw_497 : (Cond.constant "java/lang/Integer" 265 (1431655765 : Int32)) ∈ lw_tbl := tk_3 (List.mem_of_getElem? (i := 17) (by decide +kernel))
theorem tw_498 : (Cond.constant "java/lang/Integer" 266 (858993459 : Int32)) ∈ lw_tbl := tk_3 (List.mem_of_getElem? (i := 18) (by decide +kernel))
theorem tw_499 : (Cond.constant "java/lang/Integer" 267 (252645135 : Int32)) ∈ lw_tbl := tk_3 (List.mem_of_getElem? (i := 19) (by decide +kernel))
theorem tw_500 : (Cond.methodLink "EchoCouncil" 213 ⟨"EchoCouncil$State", "isTooShyFor", "(II)Z"⟩) ∈ lw_tbl := tk_3 (List.mem_of_getElem? (i := 20) (by decide +kernel))
theorem tw_501 : (Cond.instanceMethod ⟨"EchoCouncil$State", "isTooShyFor", "(II)Z"⟩) ∈ lw_tbl := tk_3 (List.mem_of_getElem? (i := 21) (by decide +kernel))
theorem tw_502 : (Cond.selects "EchoCouncil$State" ⟨"EchoCouncil$State", "isTooShyFor", "(II)Z"⟩ ⟨"EchoCouncil$State", "isTooShyFor", "(II)Z"⟩) ∈ lw_tbl := tk_3 (List.mem_of_getElem? (i := 22) (by decide +kernel))
theorem tw_503 : (Cond.code ⟨"EchoCouncil$State", "isTooShyFor", "(II)Z"⟩ prog_10_method_11_code 3 (some FieldType.boolean)) ∈ lw_tbl := tk_3 (List.mem_of_getElem? (i := 23) (by decide +kernel))
theorem tw_504 : (Cond.methodLink "EchoCouncil" 109 ⟨"EchoCouncil$State", "singersIn", "(I)I"⟩) ∈ lw_tbl := tk_3 (List.mem_of_getElem? (i := 24) (by decide +kernel))
theorem tw_505 : (Cond.methodLink "EchoCouncil" 113 ⟨"java/lang/Integer", "bitCount", "(I)I"⟩) ∈ lw_tbl := tk_3 (List.mem_of_getElem? (i := 25) (by decide +kernel))
theorem tw_506 : (Cond.methodLink "EchoCouncil" 479 ⟨"EchoCouncil", "isGoingOutRefused", "(I)Z"⟩) ∈ lw_tbl := tk_3 (List.mem_of_getElem? (i := 26) (by decide +kernel))
theorem tw_507 : (Cond.privateMethod ⟨"EchoCouncil", "isGoingOutRefused", "(I)Z"⟩) ∈ lw_tbl := tk_3 (List.mem_of_getElem? (i := 27) (by decide +kernel))
theorem tw_508 : (Cond.instanceMethod ⟨"EchoCouncil", "isGoingOutRefused", "(I)Z"⟩) ∈ lw_tbl := tk_3 (List.mem_of_getElem? (i := 28) (by decide +kernel))
theorem tw_509 : (Cond.code ⟨"EchoCouncil", "isGoingOutRefused", "(I)Z"⟩ prog_1_method_57_code 2 (some FieldType.boolean)) ∈ lw_tbl := tk_3 (List.mem_of_getElem? (i := 29) (by decide +kernel))
theorem tw_510 : (Cond.methodLink "EchoCouncil" 482 ⟨"EchoCouncil", "isCarryingRefused", "(II)Z"⟩) ∈ lw_tbl := tk_3 (List.mem_of_getElem? (i := 30) (by decide +kernel))
theorem tw_511 : (Cond.privateMethod ⟨"EchoCouncil", "isCarryingRefused", "(II)Z"⟩) ∈ lw_tbl := tk_3 (List.mem_of_getElem? (i := 31) (by decide +kernel))
theorem tw_512 : (Cond.instanceMethod ⟨"EchoCouncil", "isCarryingRefused", "(II)Z"⟩) ∈ lw_tbl := tk_3 (List.mem_of_getElem? (i := 32) (by decide +kernel))
theorem tw_513 : (Cond.code ⟨"EchoCouncil", "isCarryingRefused", "(II)Z"⟩ prog_1_method_58_code 3 (some FieldType.boolean)) ∈ lw_tbl := tk_3 (List.mem_of_getElem? (i := 33) (by decide +kernel))
theorem tw_514 : (Cond.methodLink "EchoCouncil" 398 ⟨"EchoCouncil$State", "hasEcho", "(I)Z"⟩) ∈ lw_tbl := tk_3 (List.mem_of_getElem? (i := 34) (by decide +kernel))
theorem tw_515 : (Cond.instanceMethod ⟨"EchoCouncil$State", "hasEcho", "(I)Z"⟩) ∈ lw_tbl := tk_3 (List.mem_of_getElem? (i := 35) (by decide +kernel))
theorem tw_516 : (Cond.selects "EchoCouncil$State" ⟨"EchoCouncil$State", "hasEcho", "(I)Z"⟩ ⟨"EchoCouncil$State", "hasEcho", "(I)Z"⟩) ∈ lw_tbl := tk_3 (List.mem_of_getElem? (i := 36) (by decide +kernel))
theorem tw_517 : (Cond.code ⟨"EchoCouncil$State", "hasEcho", "(I)Z"⟩ prog_10_method_4_code 2 (some FieldType.boolean)) ∈ lw_tbl := tk_3 (List.mem_of_getElem? (i := 37) (by decide +kernel))
theorem tw_518 : (Cond.methodLink "EchoCouncil" 217 ⟨"EchoCouncil$State", "isLet", "(I)Z"⟩) ∈ lw_tbl := tk_3 (List.mem_of_getElem? (i := 38) (by decide +kernel))
theorem tw_519 : (Cond.instanceMethod ⟨"EchoCouncil$State", "isLet", "(I)Z"⟩) ∈ lw_tbl := tk_3 (List.mem_of_getElem? (i := 39) (by decide +kernel))
theorem tw_520 : (Cond.selects "EchoCouncil$State" ⟨"EchoCouncil$State", "isLet", "(I)Z"⟩ ⟨"EchoCouncil$State", "isLet", "(I)Z"⟩) ∈ lw_tbl := tk_3 (List.mem_of_getElem? (i := 40) (by decide +kernel))
theorem tw_521 : (Cond.code ⟨"EchoCouncil$State", "isLet", "(I)Z"⟩ prog_10_method_7_code 2 (some FieldType.boolean)) ∈ lw_tbl := tk_3 (List.mem_of_getElem? (i := 41) (by decide +kernel))
theorem tw_522 : (Cond.methodLink "EchoCouncil" 485 ⟨"EchoCouncil", "isRentingRefused", "(III)Z"⟩) ∈ lw_tbl := tk_3 (List.mem_of_getElem? (i := 42) (by decide +kernel))
theorem tw_523 : (Cond.privateMethod ⟨"EchoCouncil", "isRentingRefused", "(III)Z"⟩) ∈ lw_tbl := tk_3 (List.mem_of_getElem? (i := 43) (by decide +kernel))
theorem tw_524 : (Cond.instanceMethod ⟨"EchoCouncil", "isRentingRefused", "(III)Z"⟩) ∈ lw_tbl := tk_3 (List.mem_of_getElem? (i := 44) (by decide +kernel))
theorem tw_525 : (Cond.code ⟨"EchoCouncil", "isRentingRefused", "(III)Z"⟩ prog_1_method_59_code 4 (some FieldType.boolean)) ∈ lw_tbl := tk_3 (List.mem_of_getElem? (i := 45) (by decide +kernel))
theorem tw_526 : (Cond.methodLink "EchoCouncil" 220 ⟨"EchoCouncil$State", "isWithEcho", "(II)Z"⟩) ∈ lw_tbl := tk_3 (List.mem_of_getElem? (i := 46) (by decide +kernel))
theorem tw_527 : (Cond.instanceMethod ⟨"EchoCouncil$State", "isWithEcho", "(II)Z"⟩) ∈ lw_tbl := tk_3 (List.mem_of_getElem? (i := 47) (by decide +kernel))
theorem tw_528 : (Cond.selects "EchoCouncil$State" ⟨"EchoCouncil$State", "isWithEcho", "(II)Z"⟩ ⟨"EchoCouncil$State", "isWithEcho", "(II)Z"⟩) ∈ lw_tbl := tk_3 (List.mem_of_getElem? (i := 48) (by decide +kernel))
theorem tw_529 : (Cond.code ⟨"EchoCouncil$State", "isWithEcho", "(II)Z"⟩ prog_10_method_8_code 3 (some FieldType.boolean)) ∈ lw_tbl := tk_3 (List.mem_of_getElem? (i := 49) (by decide +kernel))
theorem tw_530 : (Cond.methodLink "EchoCouncil" 223 ⟨"EchoCouncil$State", "canPayFor", "(II)Z"⟩) ∈ lw_tbl := tk_3 (List.mem_of_getElem? (i := 50) (by decide +kernel))
theorem tw_531 : (Cond.instanceMethod ⟨"EchoCouncil$State", "canPayFor", "(II)Z"⟩) ∈ lw_tbl := tk_3 (List.mem_of_getElem? (i := 51) (by decide +kernel))
theorem tw_532 : (Cond.selects "EchoCouncil$State" ⟨"EchoCouncil$State", "canPayFor", "(II)Z"⟩ ⟨"EchoCouncil$State", "canPayFor", "(II)Z"⟩) ∈ lw_tbl := tk_3 (List.mem_of_getElem? (i := 52) (by decide +kernel))
theorem tw_533 : (Cond.code ⟨"EchoCouncil$State", "canPayFor", "(II)Z"⟩ prog_10_method_9_code 3 (some FieldType.boolean)) ∈ lw_tbl := tk_3 (List.mem_of_getElem? (i := 53) (by decide +kernel))
theorem tw_534 : (Cond.methodLink "EchoCouncil" 489 ⟨"EchoCouncil", "isGivingBackRefused", "(II)Z"⟩) ∈ lw_tbl := tk_3 (List.mem_of_getElem? (i := 54) (by decide +kernel))
theorem tw_535 : (Cond.privateMethod ⟨"EchoCouncil", "isGivingBackRefused", "(II)Z"⟩) ∈ lw_tbl := tk_3 (List.mem_of_getElem? (i := 55) (by decide +kernel))
theorem tw_536 : (Cond.instanceMethod ⟨"EchoCouncil", "isGivingBackRefused", "(II)Z"⟩) ∈ lw_tbl := tk_3 (List.mem_of_getElem? (i := 56) (by decide +kernel))
theorem tw_537 : (Cond.code ⟨"EchoCouncil", "isGivingBackRefused", "(II)Z"⟩ prog_1_method_60_code 3 (some FieldType.boolean)) ∈ lw_tbl := tk_3 (List.mem_of_getElem? (i := 57) (by decide +kernel))
theorem tw_538 : (Cond.methodLink "EchoCouncil" 492 ⟨"EchoCouncil", "isSingingRefused", "(I)Z"⟩) ∈ lw_tbl := tk_3 (List.mem_of_getElem? (i := 58) (by decide +kernel))
theorem tw_539 : (Cond.privateMethod ⟨"EchoCouncil", "isSingingRefused", "(I)Z"⟩) ∈ lw_tbl := tk_3 (List.mem_of_getElem? (i := 59) (by decide +kernel))
theorem tw_540 : (Cond.instanceMethod ⟨"EchoCouncil", "isSingingRefused", "(I)Z"⟩) ∈ lw_tbl := tk_3 (List.mem_of_getElem? (i := 60) (by decide +kernel))
theorem tw_541 : (Cond.code ⟨"EchoCouncil", "isSingingRefused", "(I)Z"⟩ prog_1_method_61_code 2 (some FieldType.boolean)) ∈ lw_tbl := tk_3 (List.mem_of_getElem? (i := 61) (by decide +kernel))
theorem tw_542 : (Cond.classLink "EchoCouncil" 294 "java/lang/UnsupportedOperationException") ∈ lw_tbl := tk_3 (List.mem_of_getElem? (i := 62) (by decide +kernel))
theorem tw_543 : (Cond.instantiable "java/lang/UnsupportedOperationException" 6) ∈ lw_tbl := tk_3 (List.mem_of_getElem? (i := 63) (by decide +kernel))
theorem tw_544 : (Cond.castable "java/lang/UnsupportedOperationException" "java/lang/UnsupportedOperationException") ∈ lw_tbl := tk_3 (List.mem_of_getElem? (i := 64) (by decide +kernel))
theorem tw_545 : (Cond.declares ⟨"java/lang/RuntimeException", "<init>", "()V"⟩) ∈ lw_tbl := tk_3 (List.mem_of_getElem? (i := 65) (by decide +kernel))
theorem tw_546 : (Cond.declares ⟨"java/lang/RuntimeException", "<init>", "(Ljava/lang/String;)V"⟩) ∈ lw_tbl := tk_3 (List.mem_of_getElem? (i := 66) (by decide +kernel))
theorem tw_547 : (Cond.declares ⟨"java/lang/Exception", "<init>", "()V"⟩) ∈ lw_tbl := tk_3 (List.mem_of_getElem? (i := 67) (by decide +kernel))
theorem tw_548 : (Cond.declares ⟨"java/lang/Exception", "<init>", "(Ljava/lang/String;)V"⟩) ∈ lw_tbl := tk_3 (List.mem_of_getElem? (i := 68) (by decide +kernel))
theorem tw_549 : (Cond.declares ⟨"java/lang/Throwable", "<init>", "()V"⟩) ∈ lw_tbl := tk_3 (List.mem_of_getElem? (i := 69) (by decide +kernel))
theorem tw_550 : (Cond.declares ⟨"java/lang/Throwable", "<init>", "(Ljava/lang/String;)V"⟩) ∈ lw_tbl := tk_3 (List.mem_of_getElem? (i := 70) (by decide +kernel))
theorem tw_551 : (Cond.selects "java/lang/UnsupportedOperationException" ⟨"java/lang/Throwable", "fillInStackTrace", "(I)Ljava/lang/Throwable;"⟩ ⟨"java/lang/Throwable", "fillInStackTrace", "(I)Ljava/lang/Throwable;"⟩) ∈ lw_tbl := tk_3 (List.mem_of_getElem? (i := 71) (by decide +kernel))
theorem tw_552 : (Cond.selects "java/lang/UnsupportedOperationException" ⟨"java/lang/Throwable", "fillInStackTrace", "()Ljava/lang/Throwable;"⟩ ⟨"java/lang/Throwable", "fillInStackTrace", "()Ljava/lang/Throwable;"⟩) ∈ lw_tbl := tk_3 (List.mem_of_getElem? (i := 72) (by decide +kernel))
theorem tw_553 : (Cond.lays "java/lang/UnsupportedOperationException" "java/lang/Throwable" "cause" "Ljava/lang/Throwable;") ∈ lw_tbl := tk_3 (List.mem_of_getElem? (i := 73) (by decide +kernel))
theorem tw_554 : (Cond.lays "java/lang/Throwable" "java/lang/Throwable" "cause" "Ljava/lang/Throwable;") ∈ lw_tbl := tk_3 (List.mem_of_getElem? (i := 74) (by decide +kernel))
theorem tw_555 : (Cond.lays "java/lang/UnsupportedOperationException" "java/lang/Throwable" "stackTrace" "[Ljava/lang/StackTraceElement;") ∈ lw_tbl := tk_3 (List.mem_of_getElem? (i := 75) (by decide +kernel))
theorem tw_556 : (Cond.lays "java/lang/Throwable" "java/lang/Throwable" "stackTrace" "[Ljava/lang/StackTraceElement;") ∈ lw_tbl := tk_3 (List.mem_of_getElem? (i := 76) (by decide +kernel))
theorem tw_557 : (Cond.lays "java/lang/UnsupportedOperationException" "java/lang/Throwable" "suppressedExceptions" "Ljava/util/List;") ∈ lw_tbl := tk_3 (List.mem_of_getElem? (i := 77) (by decide +kernel))
theorem tw_558 : (Cond.lays "java/lang/Throwable" "java/lang/Throwable" "suppressedExceptions" "Ljava/util/List;") ∈ lw_tbl := tk_3 (List.mem_of_getElem? (i := 78) (by decide +kernel))
theorem tw_559 : (Cond.lays "java/lang/UnsupportedOperationException" "java/lang/Throwable" "detailMessage" "Ljava/lang/String;") ∈ lw_tbl := tk_3 (List.mem_of_getElem? (i := 79) (by decide +kernel))
theorem tw_560 : (Cond.lays "java/lang/Throwable" "java/lang/Throwable" "detailMessage" "Ljava/lang/String;") ∈ lw_tbl := tk_3 (List.mem_of_getElem? (i := 80) (by decide +kernel))
theorem tw_561 : (Cond.lays "java/lang/UnsupportedOperationException" "java/lang/Throwable" "backtrace" "Ljava/lang/Object;") ∈ lw_tbl := tk_3 (List.mem_of_getElem? (i := 81) (by decide +kernel))
theorem tw_562 : (Cond.lays "java/lang/Throwable" "java/lang/Throwable" "backtrace" "Ljava/lang/Object;") ∈ lw_tbl := tk_3 (List.mem_of_getElem? (i := 82) (by decide +kernel))
theorem tw_563 : (Cond.fieldLink "java/lang/Throwable" 198 "java/lang/Throwable" "backtrace" "Ljava/lang/Object;") ∈ lw_tbl := tk_3 (List.mem_of_getElem? (i := 83) (by decide +kernel))
theorem tw_564 : (Cond.superclass "java/lang/Throwable" "java/lang/Object") ∈ lw_tbl := tk_3 (List.mem_of_getElem? (i := 84) (by decide +kernel))
theorem tw_565 : (Cond.instanceMethod ⟨"java/lang/Throwable", "<init>", "()V"⟩) ∈ lw_tbl := tk_3 (List.mem_of_getElem? (i := 85) (by decide +kernel))
theorem tw_566 : (Cond.code ⟨"java/lang/Throwable", "<init>", "()V"⟩ prog_36_method_1_code 1 none) ∈ lw_tbl := tk_3 (List.mem_of_getElem? (i := 86) (by decide +kernel))
theorem tw_567 : (Cond.methodLink "java/lang/Throwable" 1 ⟨"java/lang/Object", "<init>", "()V"⟩) ∈ lw_tbl := tk_3 (List.mem_of_getElem? (i := 87) (by decide +kernel))
theorem tw_568 : (Cond.fieldLink "java/lang/Throwable" 13 "java/lang/Throwable" "UNASSIGNED_STACK" "[Ljava/lang/StackTraceElement;") ∈ lw_tbl := tk_3 (List.mem_of_getElem? (i := 88) (by decide +kernel))
theorem tw_569 : (Cond.laysStatic "java/lang/Throwable" "UNASSIGNED_STACK" "[Ljava/lang/StackTraceElement;") ∈ lw_tbl := tk_3 (List.mem_of_getElem? (i := 89) (by decide +kernel))
theorem tw_570 : (Cond.fieldLink "java/lang/Throwable" 20 "java/lang/Throwable" "SUPPRESSED_SENTINEL" "Ljava/util/List;") ∈ lw_tbl := tk_3 (List.mem_of_getElem? (i := 90) (by decide +kernel))
theorem tw_571 : (Cond.laysStatic "java/lang/Throwable" "SUPPRESSED_SENTINEL" "Ljava/util/List;") ∈ lw_tbl := tk_3 (List.mem_of_getElem? (i := 91) (by decide +kernel))
theorem tw_572 : (Cond.methodLink "java/lang/Throwable" 27 ⟨"java/lang/Throwable", "fillInStackTrace", "()Ljava/lang/Throwable;"⟩) ∈ lw_tbl := tk_3 (List.mem_of_getElem? (i := 92) (by decide +kernel))
theorem tw_573 : (Cond.instanceMethod ⟨"java/lang/Throwable", "fillInStackTrace", "()Ljava/lang/Throwable;"⟩) ∈ lw_tbl := tk_3 (List.mem_of_getElem? (i := 93) (by decide +kernel))
theorem tw_574 : (Cond.sameMethod "java/lang/Throwable" "java/lang/Throwable" "fillInStackTrace" "()Ljava/lang/Throwable;") ∈ lw_tbl := tk_3 (List.mem_of_getElem? (i := 94) (by decide +kernel))
theorem tw_575 : (Cond.selects "java/lang/ArithmeticException" ⟨"java/lang/Throwable", "fillInStackTrace", "()Ljava/lang/Throwable;"⟩ ⟨"java/lang/Throwable", "fillInStackTrace", "()Ljava/lang/Throwable;"⟩) ∈ lw_tbl := tk_3 (List.mem_of_getElem? (i := 95) (by decide +kernel))
theorem tw_576 : (Cond.selects "java/lang/ArrayIndexOutOfBoundsException" ⟨"java/lang/Throwable", "fillInStackTrace", "()Ljava/lang/Throwable;"⟩ ⟨"java/lang/Throwable", "fillInStackTrace", "()Ljava/lang/Throwable;"⟩) ∈ lw_tbl := tk_3 (List.mem_of_getElem? (i := 96) (by decide +kernel))
theorem tw_577 : (Cond.selects "java/lang/IllegalArgumentException" ⟨"java/lang/Throwable", "fillInStackTrace", "()Ljava/lang/Throwable;"⟩ ⟨"java/lang/Throwable", "fillInStackTrace", "()Ljava/lang/Throwable;"⟩) ∈ lw_tbl := tk_3 (List.mem_of_getElem? (i := 97) (by decide +kernel))
theorem tw_578 : (Cond.selects "java/lang/IllegalStateException" ⟨"java/lang/Throwable", "fillInStackTrace", "()Ljava/lang/Throwable;"⟩ ⟨"java/lang/Throwable", "fillInStackTrace", "()Ljava/lang/Throwable;"⟩) ∈ lw_tbl := tk_3 (List.mem_of_getElem? (i := 98) (by decide +kernel))
theorem tw_579 : (Cond.selects "java/lang/IndexOutOfBoundsException" ⟨"java/lang/Throwable", "fillInStackTrace", "()Ljava/lang/Throwable;"⟩ ⟨"java/lang/Throwable", "fillInStackTrace", "()Ljava/lang/Throwable;"⟩) ∈ lw_tbl := tk_3 (List.mem_of_getElem? (i := 99) (by decide +kernel))
theorem tw_580 : (Cond.selects "java/lang/StringIndexOutOfBoundsException" ⟨"java/lang/Throwable", "fillInStackTrace", "()Ljava/lang/Throwable;"⟩ ⟨"java/lang/Throwable", "fillInStackTrace", "()Ljava/lang/Throwable;"⟩) ∈ lw_tbl := tk_3 (List.mem_of_getElem? (i := 100) (by decide +kernel))
theorem tw_581 : (Cond.selects "java/util/NoSuchElementException" ⟨"java/lang/Throwable", "fillInStackTrace", "()Ljava/lang/Throwable;"⟩ ⟨"java/lang/Throwable", "fillInStackTrace", "()Ljava/lang/Throwable;"⟩) ∈ lw_tbl := tk_3 (List.mem_of_getElem? (i := 101) (by decide +kernel))
theorem tw_582 : (Cond.codeSync ⟨"java/lang/Throwable", "fillInStackTrace", "()Ljava/lang/Throwable;"⟩ prog_36_method_18_code 1 (Option.some (FieldType.object "java/lang/Throwable"))) ∈ lw_tbl := tk_3 (List.mem_of_getElem? (i := 102) (by decide +kernel))
theorem tw_583 : (Cond.methodLink "java/lang/Throwable" 202 ⟨"java/lang/Throwable", "fillInStackTrace", "(I)Ljava/lang/Throwable;"⟩) ∈ lw_tbl := tk_3 (List.mem_of_getElem? (i := 103) (by decide +kernel))
theorem tw_584 : (Cond.privateMethod ⟨"java/lang/Throwable", "fillInStackTrace", "(I)Ljava/lang/Throwable;"⟩) ∈ lw_tbl := tk_3 (List.mem_of_getElem? (i := 104) (by decide +kernel))
theorem tw_585 : (Cond.instanceMethod ⟨"java/lang/Throwable", "fillInStackTrace", "(I)Ljava/lang/Throwable;"⟩) ∈ lw_tbl := tk_3 (List.mem_of_getElem? (i := 105) (by decide +kernel))
theorem tw_586 : (Cond.instantiable "java/lang/Throwable" 6) ∈ lw_tbl := tk_3 (List.mem_of_getElem? (i := 106) (by decide +kernel))
theorem tw_587 : (Cond.native ⟨"java/lang/Throwable", "fillInStackTrace", "(I)Ljava/lang/Throwable;"⟩) ∈ lw_tbl := tk_3 (List.mem_of_getElem? (i := 107) (by decide +kernel))
theorem tw_588 : (Cond.stringRef "EchoCouncil" 414 "this is refused") ∈ lw_tbl := tk_3 (List.mem_of_getElem? (i := 108) (by decide +kernel))
theorem tw_589 : (Cond.methodLink "EchoCouncil" 298 ⟨"java/lang/UnsupportedOperationException", "<init>", "(Ljava/lang/String;)V"⟩) ∈ lw_tbl := tk_3 (List.mem_of_getElem? (i := 109) (by decide +kernel))
theorem tw_590 : (Cond.instanceMethod ⟨"java/lang/UnsupportedOperationException", "<init>", "(Ljava/lang/String;)V"⟩) ∈ lw_tbl := tk_3 (List.mem_of_getElem? (i := 110) (by decide +kernel))
theorem tw_591 : (Cond.code ⟨"java/lang/UnsupportedOperationException", "<init>", "(Ljava/lang/String;)V"⟩ prog_37_method_2_code 2 none) ∈ lw_tbl := tk_3 (List.mem_of_getElem? (i := 111) (by decide +kernel))
theorem tw_592 : (Cond.methodLink "java/lang/UnsupportedOperationException" 7 ⟨"java/lang/RuntimeException", "<init>", "(Ljava/lang/String;)V"⟩) ∈ lw_tbl := tk_3 (List.mem_of_getElem? (i := 112) (by decide +kernel))
theorem tw_593 : (Cond.instanceMethod ⟨"java/lang/RuntimeException", "<init>", "(Ljava/lang/String;)V"⟩) ∈ lw_tbl := tk_3 (List.mem_of_getElem? (i := 113) (by decide +kernel))
theorem tw_594 : (Cond.code ⟨"java/lang/RuntimeException", "<init>", "(Ljava/lang/String;)V"⟩ prog_29_method_2_code 2 none) ∈ lw_tbl := tk_3 (List.mem_of_getElem? (i := 114) (by decide +kernel))
theorem tw_595 : (Cond.methodLink "java/lang/RuntimeException" 7 ⟨"java/lang/Exception", "<init>", "(Ljava/lang/String;)V"⟩) ∈ lw_tbl := tk_3 (List.mem_of_getElem? (i := 115) (by decide +kernel))
theorem tw_596 : (Cond.instanceMethod ⟨"java/lang/Exception", "<init>", "(Ljava/lang/String;)V"⟩) ∈ lw_tbl := tk_3 (List.mem_of_getElem? (i := 116) (by decide +kernel))
theorem tw_597 : (Cond.code ⟨"java/lang/Exception", "<init>", "(Ljava/lang/String;)V"⟩ prog_22_method_2_code 2 none) ∈ lw_tbl := tk_3 (List.mem_of_getElem? (i := 117) (by decide +kernel))
theorem tw_598 : (Cond.methodLink "java/lang/Exception" 7 ⟨"java/lang/Throwable", "<init>", "(Ljava/lang/String;)V"⟩) ∈ lw_tbl := tk_3 (List.mem_of_getElem? (i := 118) (by decide +kernel))
theorem tw_599 : (Cond.instanceMethod ⟨"java/lang/Throwable", "<init>", "(Ljava/lang/String;)V"⟩) ∈ lw_tbl := tk_3 (List.mem_of_getElem? (i := 119) (by decide +kernel))
theorem tw_600 : (Cond.code ⟨"java/lang/Throwable", "<init>", "(Ljava/lang/String;)V"⟩ prog_36_method_2_code 2 none) ∈ lw_tbl := tk_3 (List.mem_of_getElem? (i := 120) (by decide +kernel))
theorem tw_601 : (Cond.fieldLink "java/lang/Throwable" 198 "java/lang/Throwable" "backtrace" "Ljava/lang/Object;") ∈ lw_tbl := tk_3 (List.mem_of_getElem? (i := 121) (by decide +kernel))
theorem tw_602 : (Cond.fieldLink "java/lang/Throwable" 31 "java/lang/Throwable" "detailMessage" "Ljava/lang/String;") ∈ lw_tbl := tk_3 (List.mem_of_getElem? (i := 122) (by decide +kernel))
theorem tw_603 : (Cond.fieldLink "java/lang/Throwable" 7 "java/lang/Throwable" "cause" "Ljava/lang/Throwable;") ∈ lw_tbl := tk_3 (List.mem_of_getElem? (i := 123) (by decide +kernel))
theorem tw_604 : (Cond.fieldLink "java/lang/Throwable" 17 "java/lang/Throwable" "stackTrace" "[Ljava/lang/StackTraceElement;") ∈ lw_tbl := tk_3 (List.mem_of_getElem? (i := 124) (by decide +kernel))
theorem tw_605 : (Cond.fieldLink "java/lang/Throwable" 24 "java/lang/Throwable" "suppressedExceptions" "Ljava/util/List;") ∈ lw_tbl := tk_3 (List.mem_of_getElem? (i := 125) (by decide +kernel))
theorem tw_606 : (Cond.soleField "java/lang/Throwable" "backtrace") ∈ lw_tbl := tk_3 (List.mem_of_getElem? (i := 126) (by decide +kernel))
theorem tw_607 : (Cond.soleField "java/lang/Throwable" "detailMessage") ∈ lw_tbl := tk_3 (List.mem_of_getElem? (i := 127) (by decide +kernel))
theorem tw_608 : (Cond.soleField "java/lang/Throwable" "cause") ∈ lw_tbl := tk_3 (List.mem_of_getElem? (i := 128) (by decide +kernel))
theorem tw_609 : (Cond.soleField "java/lang/Throwable" "stackTrace") ∈ lw_tbl := tk_3 (List.mem_of_getElem? (i := 129) (by decide +kernel))
theorem tw_610 : (Cond.lays "java/lang/UnsupportedOperationException" "java/lang/Throwable" "depth" "I") ∈ lw_tbl := tk_3 (List.mem_of_getElem? (i := 130) (by decide +kernel))
theorem tw_611 : (Cond.soleField "java/lang/Throwable" "depth") ∈ lw_tbl := tk_3 (List.mem_of_getElem? (i := 131) (by decide +kernel))
theorem tw_612 : (Cond.soleField "java/lang/Throwable" "suppressedExceptions") ∈ lw_tbl := tk_3 (List.mem_of_getElem? (i := 132) (by decide +kernel))
theorem tw_613 : (Cond.superclass "java/lang/UnsupportedOperationException" "java/lang/RuntimeException") ∈ lw_tbl := tk_3 (List.mem_of_getElem? (i := 133) (by decide +kernel))
theorem tw_614 : (Cond.methodLink "EchoCouncil" 416 ⟨"EchoCouncil", "doOrder", "(LEchoCouncil$OrderKind;III)I"⟩) ∈ lw_tbl := tk_3 (List.mem_of_getElem? (i := 134) (by decide +kernel))
theorem tw_615 : (Cond.privateMethod ⟨"EchoCouncil", "doOrder", "(LEchoCouncil$OrderKind;III)I"⟩) ∈ lw_tbl := tk_3 (List.mem_of_getElem? (i := 135) (by decide +kernel))
theorem tw_616 : (Cond.instanceMethod ⟨"EchoCouncil", "doOrder", "(LEchoCouncil$OrderKind;III)I"⟩) ∈ lw_tbl := tk_3 (List.mem_of_getElem? (i := 136) (by decide +kernel))
theorem tw_617 : (Cond.code ⟨"EchoCouncil", "doOrder", "(LEchoCouncil$OrderKind;III)I"⟩ prog_1_method_51_code 5 (some FieldType.int)) ∈ lw_tbl := tk_3 (List.mem_of_getElem? (i := 137) (by decide +kernel))
theorem tw_618 : (Cond.methodLink "EchoCouncil" 439 ⟨"EchoCouncil$State", "addRoom", "(I)I"⟩) ∈ lw_tbl := tk_3 (List.mem_of_getElem? (i := 138) (by decide +kernel))
theorem tw_619 : (Cond.instanceMethod ⟨"EchoCouncil$State", "addRoom", "(I)I"⟩) ∈ lw_tbl := tk_3 (List.mem_of_getElem? (i := 139) (by decide +kernel))
theorem tw_620 : (Cond.selects "EchoCouncil$State" ⟨"EchoCouncil$State", "addRoom", "(I)I"⟩ ⟨"EchoCouncil$State", "addRoom", "(I)I"⟩) ∈ lw_tbl := tk_3 (List.mem_of_getElem? (i := 140) (by decide +kernel))
theorem tw_621 : (Cond.code ⟨"EchoCouncil$State", "addRoom", "(I)I"⟩ prog_10_method_30_code 3 (some FieldType.int)) ∈ lw_tbl := tk_3 (List.mem_of_getElem? (i := 141) (by decide +kernel))
theorem tw_622 : (Cond.methodLink "EchoCouncil" 442 ⟨"EchoCouncil$State", "addEcho", "(II)I"⟩) ∈ lw_tbl := tk_3 (List.mem_of_getElem? (i := 142) (by decide +kernel))
theorem tw_623 : (Cond.instanceMethod ⟨"EchoCouncil$State", "addEcho", "(II)I"⟩) ∈ lw_tbl := tk_3 (List.mem_of_getElem? (i := 143) (by decide +kernel))
theorem tw_624 : (Cond.selects "EchoCouncil$State" ⟨"EchoCouncil$State", "addEcho", "(II)I"⟩ ⟨"EchoCouncil$State", "addEcho", "(II)I"⟩) ∈ lw_tbl := tk_3 (List.mem_of_getElem? (i := 144) (by decide +kernel))
theorem tw_625 : (Cond.code ⟨"EchoCouncil$State", "addEcho", "(II)I"⟩ prog_10_method_31_code 4 (some FieldType.int)) ∈ lw_tbl := tk_3 (List.mem_of_getElem? (i := 145) (by decide +kernel))
theorem tw_626 : (Cond.methodLink "EchoCouncil" 445 ⟨"EchoCouncil$State", "addSinger", "(II)I"⟩) ∈ lw_tbl := tk_3 (List.mem_of_getElem? (i := 146) (by decide +kernel))
theorem tw_627 : (Cond.instanceMethod ⟨"EchoCouncil$State", "addSinger", "(II)I"⟩) ∈ lw_tbl := tk_3 (List.mem_of_getElem? (i := 147) (by decide +kernel))
theorem tw_628 : (Cond.selects "EchoCouncil$State" ⟨"EchoCouncil$State", "addSinger", "(II)I"⟩ ⟨"EchoCouncil$State", "addSinger", "(II)I"⟩) ∈ lw_tbl := tk_3 (List.mem_of_getElem? (i := 148) (by decide +kernel))
theorem tw_629 : (Cond.code ⟨"EchoCouncil$State", "addSinger", "(II)I"⟩ prog_10_method_32_code 4 (some FieldType.int)) ∈ lw_tbl := tk_3 (List.mem_of_getElem? (i := 149) (by decide +kernel))
theorem tw_630 : (Cond.methodLink "EchoCouncil" 448 ⟨"EchoCouncil$State", "moveIn", "(II)I"⟩) ∈ lw_tbl := tk_3 (List.mem_of_getElem? (i := 150) (by decide +kernel))
theorem tw_631 : (Cond.instanceMethod ⟨"EchoCouncil$State", "moveIn", "(II)I"⟩) ∈ lw_tbl := tk_3 (List.mem_of_getElem? (i := 151) (by decide +kernel))
theorem tw_632 : (Cond.selects "EchoCouncil$State" ⟨"EchoCouncil$State", "moveIn", "(II)I"⟩ ⟨"EchoCouncil$State", "moveIn", "(II)I"⟩) ∈ lw_tbl := tk_3 (List.mem_of_getElem? (i := 152) (by decide +kernel))
theorem tw_633 : (Cond.code ⟨"EchoCouncil$State", "moveIn", "(II)I"⟩ prog_10_method_33_code 3 (some FieldType.int)) ∈ lw_tbl := tk_3 (List.mem_of_getElem? (i := 153) (by decide +kernel))
theorem tw_634 : (Cond.methodLink "EchoCouncil" 451 ⟨"EchoCouncil$State", "moveOut", "(I)I"⟩) ∈ lw_tbl := tk_3 (List.mem_of_getElem? (i := 154) (by decide +kernel))
theorem tw_635 : (Cond.instanceMethod ⟨"EchoCouncil$State", "moveOut", "(I)I"⟩) ∈ lw_tbl := tk_3 (List.mem_of_getElem? (i := 155) (by decide +kernel))
theorem tw_636 : (Cond.selects "EchoCouncil$State" ⟨"EchoCouncil$State", "moveOut", "(I)I"⟩ ⟨"EchoCouncil$State", "moveOut", "(I)I"⟩) ∈ lw_tbl := tk_3 (List.mem_of_getElem? (i := 156) (by decide +kernel))
theorem tw_637 : (Cond.code ⟨"EchoCouncil$State", "moveOut", "(I)I"⟩ prog_10_method_34_code 3 (some FieldType.int)) ∈ lw_tbl := tk_3 (List.mem_of_getElem? (i := 157) (by decide +kernel))
theorem tw_638 : (Cond.methodLink "EchoCouncil" 454 ⟨"EchoCouncil$State", "moveEcho", "(II)I"⟩) ∈ lw_tbl := tk_3 (List.mem_of_getElem? (i := 158) (by decide +kernel))
theorem tw_639 : (Cond.instanceMethod ⟨"EchoCouncil$State", "moveEcho", "(II)I"⟩) ∈ lw_tbl := tk_3 (List.mem_of_getElem? (i := 159) (by decide +kernel))
theorem tw_640 : (Cond.selects "EchoCouncil$State" ⟨"EchoCouncil$State", "moveEcho", "(II)I"⟩ ⟨"EchoCouncil$State", "moveEcho", "(II)I"⟩) ∈ lw_tbl := tk_3 (List.mem_of_getElem? (i := 160) (by decide +kernel))
theorem tw_641 : (Cond.code ⟨"EchoCouncil$State", "moveEcho", "(II)I"⟩ prog_10_method_35_code 4 (some FieldType.int)) ∈ lw_tbl := tk_3 (List.mem_of_getElem? (i := 161) (by decide +kernel))
theorem tw_642 : (Cond.methodLink "EchoCouncil" 457 ⟨"EchoCouncil$State", "letEcho", "(III)I"⟩) ∈ lw_tbl := tk_3 (List.mem_of_getElem? (i := 162) (by decide +kernel))
theorem tw_643 : (Cond.instanceMethod ⟨"EchoCouncil$State", "letEcho", "(III)I"⟩) ∈ lw_tbl := tk_3 (List.mem_of_getElem? (i := 163) (by decide +kernel))
theorem tw_644 : (Cond.selects "EchoCouncil$State" ⟨"EchoCouncil$State", "letEcho", "(III)I"⟩ ⟨"EchoCouncil$State", "letEcho", "(III)I"⟩) ∈ lw_tbl := tk_3 (List.mem_of_getElem? (i := 164) (by decide +kernel))
theorem tw_645 : (Cond.code ⟨"EchoCouncil$State", "letEcho", "(III)I"⟩ prog_10_method_36_code 5 (some FieldType.int)) ∈ lw_tbl := tk_3 (List.mem_of_getElem? (i := 165) (by decide +kernel))
theorem tw_646 : (Cond.methodLink "EchoCouncil" 461 ⟨"EchoCouncil$State", "endLetting", "(I)I"⟩) ∈ lw_tbl := tk_3 (List.mem_of_getElem? (i := 166) (by decide +kernel))
theorem tw_647 : (Cond.instanceMethod ⟨"EchoCouncil$State", "endLetting", "(I)I"⟩) ∈ lw_tbl := tk_3 (List.mem_of_getElem? (i := 167) (by decide +kernel))
theorem tw_648 : (Cond.selects "EchoCouncil$State" ⟨"EchoCouncil$State", "endLetting", "(I)I"⟩ ⟨"EchoCouncil$State", "endLetting", "(I)I"⟩) ∈ lw_tbl := tk_3 (List.mem_of_getElem? (i := 168) (by decide +kernel))
theorem tw_649 : (Cond.code ⟨"EchoCouncil$State", "endLetting", "(I)I"⟩ prog_10_method_37_code 4 (some FieldType.int)) ∈ lw_tbl := tk_3 (List.mem_of_getElem? (i := 169) (by decide +kernel))
theorem tw_650 : (Cond.methodLink "EchoCouncil" 464 ⟨"EchoCouncil$State", "singVerse", "(I)I"⟩) ∈ lw_tbl := tk_3 (List.mem_of_getElem? (i := 170) (by decide +kernel))
theorem tw_651 : (Cond.instanceMethod ⟨"EchoCouncil$State", "singVerse", "(I)I"⟩) ∈ lw_tbl := tk_3 (List.mem_of_getElem? (i := 171) (by decide +kernel))
theorem tw_652 : (Cond.selects "EchoCouncil$State" ⟨"EchoCouncil$State", "singVerse", "(I)I"⟩ ⟨"EchoCouncil$State", "singVerse", "(I)I"⟩) ∈ lw_tbl := tk_3 (List.mem_of_getElem? (i := 172) (by decide +kernel))
theorem tw_653 : (Cond.code ⟨"EchoCouncil$State", "singVerse", "(I)I"⟩ prog_10_method_38_code 5 (some FieldType.int)) ∈ lw_tbl := tk_3 (List.mem_of_getElem? (i := 173) (by decide +kernel))
theorem tw_654 : (Cond.methodLink "EchoCouncil$State" 134 ⟨"EchoCouncil$State", "echoVerse", "(I)I"⟩) ∈ lw_tbl := tk_3 (List.mem_of_getElem? (i := 174) (by decide +kernel))
theorem tw_655 : (Cond.instanceMethod ⟨"EchoCouncil$State", "echoVerse", "(I)I"⟩) ∈ lw_tbl := tk_3 (List.mem_of_getElem? (i := 175) (by decide +kernel))
theorem tw_656 : (Cond.selects "EchoCouncil$State" ⟨"EchoCouncil$State", "echoVerse", "(I)I"⟩ ⟨"EchoCouncil$State", "echoVerse", "(I)I"⟩) ∈ lw_tbl := tk_3 (List.mem_of_getElem? (i := 176) (by decide +kernel))
theorem tw_657 : (Cond.code ⟨"EchoCouncil$State", "echoVerse", "(I)I"⟩ prog_10_method_39_code 3 (some FieldType.int)) ∈ lw_tbl := tk_3 (List.mem_of_getElem? (i := 177) (by decide +kernel))
theorem tw_658 : (Cond.methodLink "EchoCouncil$State" 137 ⟨"EchoCouncil$State", "endLetting", "(I)I"⟩) ∈ lw_tbl := tk_3 (List.mem_of_getElem? (i := 178) (by decide +kernel))
theorem tw_659 : (Cond.methodLink "EchoCouncilLaw" 161 ⟨"EchoCouncilLaw", "echo", "(LEchoCouncil;II[J)I"⟩) ∈ lw_tbl := tk_3 (List.mem_of_getElem? (i := 179) (by decide +kernel))
theorem tw_660 : (Cond.static ⟨"EchoCouncilLaw", "echo", "(LEchoCouncil;II[J)I"⟩) ∈ lw_tbl := tk_3 (List.mem_of_getElem? (i := 180) (by decide +kernel))
theorem tw_661 : (Cond.codeWith ⟨"EchoCouncilLaw", "echo", "(LEchoCouncil;II[J)I"⟩ method_4_code 5 (some FieldType.int) [(0, 10, 13, 13)]) ∈ lw_tbl := tk_3 (List.mem_of_getElem? (i := 181) (by decide +kernel))
theorem tw_662 : (Cond.methodLink "EchoCouncilLaw" 15 ⟨"EchoCouncil", "echo", "(II)I"⟩) ∈ lw_tbl := tk_3 (List.mem_of_getElem? (i := 182) (by decide +kernel))
theorem tw_663 : (Cond.instanceMethod ⟨"EchoCouncil", "echo", "(II)I"⟩) ∈ lw_tbl := tk_3 (List.mem_of_getElem? (i := 183) (by decide +kernel))
theorem tw_664 : (Cond.selects "EchoCouncil" ⟨"EchoCouncil", "echo", "(II)I"⟩ ⟨"EchoCouncil", "echo", "(II)I"⟩) ∈ lw_tbl := tk_3 (List.mem_of_getElem? (i := 184) (by decide +kernel))
theorem tw_665 : (Cond.code ⟨"EchoCouncil", "echo", "(II)I"⟩ prog_1_method_3_code 3 (some FieldType.int)) ∈ lw_tbl := tk_3 (List.mem_of_getElem? (i := 185) (by decide +kernel))
theorem tw_666 : (Cond.fieldLink "EchoCouncil" 60 "EchoCouncil$OrderKind" "ECHO" "LEchoCouncil$OrderKind;") ∈ lw_tbl := tk_3 (List.mem_of_getElem? (i := 186) (by decide +kernel))
theorem tw_667 : (Cond.laysStatic "EchoCouncil$OrderKind" "ECHO" "LEchoCouncil$OrderKind;") ∈ lw_tbl := tk_3 (List.mem_of_getElem? (i := 187) (by decide +kernel))
theorem tw_668 : (Cond.methodLink "EchoCouncilLaw" 165 ⟨"EchoCouncilLaw", "singer", "(LEchoCouncil;II[J)I"⟩) ∈ lw_tbl := tk_3 (List.mem_of_getElem? (i := 188) (by decide +kernel))
theorem tw_669 : (Cond.static ⟨"EchoCouncilLaw", "singer", "(LEchoCouncil;II[J)I"⟩) ∈ lw_tbl := tk_3 (List.mem_of_getElem? (i := 189) (by decide +kernel))
theorem tw_670 : (Cond.codeWith ⟨"EchoCouncilLaw", "singer", "(LEchoCouncil;II[J)I"⟩ method_5_code 5 (some FieldType.int) [(0, 10, 13, 13)]) ∈ lw_tbl := tk_3 (List.mem_of_getElem? (i := 190) (by decide +kernel))
theorem tw_671 : (Cond.methodLink "EchoCouncilLaw" 19 ⟨"EchoCouncil", "singer", "(II)I"⟩) ∈ lw_tbl := tk_3 (List.mem_of_getElem? (i := 191) (by decide +kernel))
theorem tw_672 : (Cond.instanceMethod ⟨"EchoCouncil", "singer", "(II)I"⟩) ∈ lw_tbl := tk_3 (List.mem_of_getElem? (i := 192) (by decide +kernel))
theorem tw_673 : (Cond.selects "EchoCouncil" ⟨"EchoCouncil", "singer", "(II)I"⟩ ⟨"EchoCouncil", "singer", "(II)I"⟩) ∈ lw_tbl := tk_3 (List.mem_of_getElem? (i := 193) (by decide +kernel))
theorem tw_674 : (Cond.code ⟨"EchoCouncil", "singer", "(II)I"⟩ prog_1_method_4_code 3 (some FieldType.int)) ∈ lw_tbl := tk_3 (List.mem_of_getElem? (i := 194) (by decide +kernel))
theorem tw_675 : (Cond.fieldLink "EchoCouncil" 63 "EchoCouncil$OrderKind" "SINGER" "LEchoCouncil$OrderKind;") ∈ lw_tbl := tk_3 (List.mem_of_getElem? (i := 195) (by decide +kernel))
theorem tw_676 : (Cond.laysStatic "EchoCouncil$OrderKind" "SINGER" "LEchoCouncil$OrderKind;") ∈ lw_tbl := tk_3 (List.mem_of_getElem? (i := 196) (by decide +kernel))
theorem tw_677 : (Cond.methodLink "EchoCouncilLaw" 168 ⟨"EchoCouncilLaw", "enter", "(LEchoCouncil;II[J)I"⟩) ∈ lw_tbl := tk_3 (List.mem_of_getElem? (i := 197) (by decide +kernel))
theorem tw_678 : (Cond.static ⟨"EchoCouncilLaw", "enter", "(LEchoCouncil;II[J)I"⟩) ∈ lw_tbl := tk_3 (List.mem_of_getElem? (i := 198) (by decide +kernel))
theorem tw_679 : (Cond.codeWith ⟨"EchoCouncilLaw", "enter", "(LEchoCouncil;II[J)I"⟩ method_6_code 5 (some FieldType.int) [(0, 10, 13, 13)]) ∈ lw_tbl := tk_3 (List.mem_of_getElem? (i := 199) (by decide +kernel))
theorem tw_680 : (Cond.methodLink "EchoCouncilLaw" 22 ⟨"EchoCouncil", "enter", "(II)I"⟩) ∈ lw_tbl := tk_3 (List.mem_of_getElem? (i := 200) (by decide +kernel))
theorem tw_681 : (Cond.instanceMethod ⟨"EchoCouncil", "enter", "(II)I"⟩) ∈ lw_tbl := tk_3 (List.mem_of_getElem? (i := 201) (by decide +kernel))
theorem tw_682 : (Cond.selects "EchoCouncil" ⟨"EchoCouncil", "enter", "(II)I"⟩ ⟨"EchoCouncil", "enter", "(II)I"⟩) ∈ lw_tbl := tk_3 (List.mem_of_getElem? (i := 202) (by decide +kernel))
theorem tw_683 : (Cond.code ⟨"EchoCouncil", "enter", "(II)I"⟩ prog_1_method_5_code 3 (some FieldType.int)) ∈ lw_tbl := tk_3 (List.mem_of_getElem? (i := 203) (by decide +kernel))
theorem tw_684 : (Cond.fieldLink "EchoCouncil" 66 "EchoCouncil$OrderKind" "ENTER" "LEchoCouncil$OrderKind;") ∈ lw_tbl := tk_3 (List.mem_of_getElem? (i := 204) (by decide +kernel))
theorem tw_685 : (Cond.laysStatic "EchoCouncil$OrderKind" "ENTER" "LEchoCouncil$OrderKind;") ∈ lw_tbl := tk_3 (List.mem_of_getElem? (i := 205) (by decide +kernel))
theorem tw_686 : (Cond.methodLink "EchoCouncilLaw" 171 ⟨"EchoCouncilLaw", "out", "(LEchoCouncil;I[J)I"⟩) ∈ lw_tbl := tk_3 (List.mem_of_getElem? (i := 206) (by decide +kernel))
theorem tw_687 : (Cond.static ⟨"EchoCouncilLaw", "out", "(LEchoCouncil;I[J)I"⟩) ∈ lw_tbl := tk_3 (List.mem_of_getElem? (i := 207) (by decide +kernel))
theorem tw_688 : (Cond.codeWith ⟨"EchoCouncilLaw", "out", "(LEchoCouncil;I[J)I"⟩ method_7_code 4 (some FieldType.int) [(0, 9, 12, 13)]) ∈ lw_tbl := tk_3 (List.mem_of_getElem? (i := 208) (by decide +kernel))
theorem tw_689 : (Cond.methodLink "EchoCouncilLaw" 25 ⟨"EchoCouncil", "out", "(I)I"⟩) ∈ lw_tbl := tk_3 (List.mem_of_getElem? (i := 209) (by decide +kernel))
theorem tw_690 : (Cond.instanceMethod ⟨"EchoCouncil", "out", "(I)I"⟩) ∈ lw_tbl := tk_3 (List.mem_of_getElem? (i := 210) (by decide +kernel))
theorem tw_691 : (Cond.selects "EchoCouncil" ⟨"EchoCouncil", "out", "(I)I"⟩ ⟨"EchoCouncil", "out", "(I)I"⟩) ∈ lw_tbl := tk_3 (List.mem_of_getElem? (i := 211) (by decide +kernel))
theorem tw_692 : (Cond.code ⟨"EchoCouncil", "out", "(I)I"⟩ prog_1_method_6_code 2 (some FieldType.int)) ∈ lw_tbl := tk_3 (List.mem_of_getElem? (i := 212) (by decide +kernel))
theorem tw_693 : (Cond.fieldLink "EchoCouncil" 69 "EchoCouncil$OrderKind" "OUT" "LEchoCouncil$OrderKind;") ∈ lw_tbl := tk_3 (List.mem_of_getElem? (i := 213) (by decide +kernel))
theorem tw_694 : (Cond.laysStatic "EchoCouncil$OrderKind" "OUT" "LEchoCouncil$OrderKind;") ∈ lw_tbl := tk_3 (List.mem_of_getElem? (i := 214) (by decide +kernel))
theorem tw_695 : (Cond.methodLink "EchoCouncilLaw" 174 ⟨"EchoCouncilLaw", "carry", "(LEchoCouncil;II[J)I"⟩) ∈ lw_tbl := tk_3 (List.mem_of_getElem? (i := 215) (by decide +kernel))
theorem tw_696 : (Cond.static ⟨"EchoCouncilLaw", "carry", "(LEchoCouncil;II[J)I"⟩) ∈ lw_tbl := tk_3 (List.mem_of_getElem? (i := 216) (by decide +kernel))
theorem tw_697 : (Cond.codeWith ⟨"EchoCouncilLaw", "carry", "(LEchoCouncil;II[J)I"⟩ method_8_code 5 (some FieldType.int) [(0, 10, 13, 13)]) ∈ lw_tbl := tk_3 (List.mem_of_getElem? (i := 217) (by decide +kernel))
theorem tw_698 : (Cond.methodLink "EchoCouncilLaw" 28 ⟨"EchoCouncil", "carry", "(II)I"⟩) ∈ lw_tbl := tk_3 (List.mem_of_getElem? (i := 218) (by decide +kernel))
theorem tw_699 : (Cond.instanceMethod ⟨"EchoCouncil", "carry", "(II)I"⟩) ∈ lw_tbl := tk_3 (List.mem_of_getElem? (i := 219) (by decide +kernel))
theorem tw_700 : (Cond.selects "EchoCouncil" ⟨"EchoCouncil", "carry", "(II)I"⟩ ⟨"EchoCouncil", "carry", "(II)I"⟩) ∈ lw_tbl := tk_3 (List.mem_of_getElem? (i := 220) (by decide +kernel))
theorem tw_701 : (Cond.code ⟨"EchoCouncil", "carry", "(II)I"⟩ prog_1_method_7_code 3 (some FieldType.int)) ∈ lw_tbl := tk_3 (List.mem_of_getElem? (i := 221) (by decide +kernel))
theorem tw_702 : (Cond.fieldLink "EchoCouncil" 72 "EchoCouncil$OrderKind" "CARRY" "LEchoCouncil$OrderKind;") ∈ lw_tbl := tk_3 (List.mem_of_getElem? (i := 222) (by decide +kernel))
theorem tw_703 : (Cond.laysStatic "EchoCouncil$OrderKind" "CARRY" "LEchoCouncil$OrderKind;") ∈ lw_tbl := tk_3 (List.mem_of_getElem? (i := 223) (by decide +kernel))
theorem tw_704 : (Cond.methodLink "EchoCouncilLaw" 177 ⟨"EchoCouncilLaw", "rent", "(LEchoCouncil;III[J)I"⟩) ∈ lw_tbl := tk_3 (List.mem_of_getElem? (i := 224) (by decide +kernel))
theorem tw_705 : (Cond.static ⟨"EchoCouncilLaw", "rent", "(LEchoCouncil;III[J)I"⟩) ∈ lw_tbl := tk_3 (List.mem_of_getElem? (i := 225) (by decide +kernel))
theorem tw_706 : (Cond.codeWith ⟨"EchoCouncilLaw", "rent", "(LEchoCouncil;III[J)I"⟩ method_9_code 6 (some FieldType.int) [(0, 12, 15, 13)]) ∈ lw_tbl := tk_3 (List.mem_of_getElem? (i := 226) (by decide +kernel))
theorem tw_707 : (Cond.methodLink "EchoCouncilLaw" 31 ⟨"EchoCouncil", "rent", "(III)I"⟩) ∈ lw_tbl := tk_3 (List.mem_of_getElem? (i := 227) (by decide +kernel))
theorem tw_708 : (Cond.instanceMethod ⟨"EchoCouncil", "rent", "(III)I"⟩) ∈ lw_tbl := tk_3 (List.mem_of_getElem? (i := 228) (by decide +kernel))
theorem tw_709 : (Cond.selects "EchoCouncil" ⟨"EchoCouncil", "rent", "(III)I"⟩ ⟨"EchoCouncil", "rent", "(III)I"⟩) ∈ lw_tbl := tk_3 (List.mem_of_getElem? (i := 229) (by decide +kernel))
theorem tw_710 : (Cond.code ⟨"EchoCouncil", "rent", "(III)I"⟩ prog_1_method_8_code 4 (some FieldType.int)) ∈ lw_tbl := tk_3 (List.mem_of_getElem? (i := 230) (by decide +kernel))
theorem tw_711 : (Cond.fieldLink "EchoCouncil" 75 "EchoCouncil$OrderKind" "RENT" "LEchoCouncil$OrderKind;") ∈ lw_tbl := tk_3 (List.mem_of_getElem? (i := 231) (by decide +kernel))
theorem tw_712 : (Cond.laysStatic "EchoCouncil$OrderKind" "RENT" "LEchoCouncil$OrderKind;") ∈ lw_tbl := tk_3 (List.mem_of_getElem? (i := 232) (by decide +kernel))
theorem tw_713 : (Cond.methodLink "EchoCouncilLaw" 181 ⟨"EchoCouncilLaw", "back", "(LEchoCouncil;II[J)I"⟩) ∈ lw_tbl := tk_3 (List.mem_of_getElem? (i := 233) (by decide +kernel))
theorem tw_714 : (Cond.static ⟨"EchoCouncilLaw", "back", "(LEchoCouncil;II[J)I"⟩) ∈ lw_tbl := tk_3 (List.mem_of_getElem? (i := 234) (by decide +kernel))
theorem tw_715 : (Cond.codeWith ⟨"EchoCouncilLaw", "back", "(LEchoCouncil;II[J)I"⟩ method_10_code 5 (some FieldType.int) [(0, 10, 13, 13)]) ∈ lw_tbl := tk_3 (List.mem_of_getElem? (i := 235) (by decide +kernel))
theorem tw_716 : (Cond.methodLink "EchoCouncilLaw" 35 ⟨"EchoCouncil", "back", "(II)I"⟩) ∈ lw_tbl := tk_3 (List.mem_of_getElem? (i := 236) (by decide +kernel))
theorem tw_717 : (Cond.instanceMethod ⟨"EchoCouncil", "back", "(II)I"⟩) ∈ lw_tbl := tk_3 (List.mem_of_getElem? (i := 237) (by decide +kernel))
theorem tw_718 : (Cond.selects "EchoCouncil" ⟨"EchoCouncil", "back", "(II)I"⟩ ⟨"EchoCouncil", "back", "(II)I"⟩) ∈ lw_tbl := tk_3 (List.mem_of_getElem? (i := 238) (by decide +kernel))
theorem tw_719 : (Cond.code ⟨"EchoCouncil", "back", "(II)I"⟩ prog_1_method_9_code 3 (some FieldType.int)) ∈ lw_tbl := tk_3 (List.mem_of_getElem? (i := 239) (by decide +kernel))
theorem tw_720 : (Cond.fieldLink "EchoCouncil" 78 "EchoCouncil$OrderKind" "BACK" "LEchoCouncil$OrderKind;") ∈ lw_tbl := tk_4 (List.mem_of_getElem? (i := 0) (by decide +kernel))
theorem tw_721 : (Cond.laysStatic "EchoCouncil$OrderKind" "BACK" "LEchoCouncil$OrderKind;") ∈ lw_tbl := tk_4 (List.mem_of_getElem? (i := 1) (by decide +kernel))
theorem tw_722 : (Cond.methodLink "EchoCouncilLaw" 184 ⟨"EchoCouncilLaw", "sing", "(LEchoCouncil;I[J)I"⟩) ∈ lw_tbl := tk_4 (List.mem_of_getElem? (i := 2) (by decide +kernel))
theorem tw_723 : (Cond.static ⟨"EchoCouncilLaw", "sing", "(LEchoCouncil;I[J)I"⟩) ∈ lw_tbl := tk_4 (List.mem_of_getElem? (i := 3) (by decide +kernel))
theorem tw_724 : (Cond.codeWith ⟨"EchoCouncilLaw", "sing", "(LEchoCouncil;I[J)I"⟩ method_11_code 4 (some FieldType.int) [(0, 9, 12, 13)]) ∈ lw_tbl := tk_4 (List.mem_of_getElem? (i := 4) (by decide +kernel))
theorem tw_725 : (Cond.methodLink "EchoCouncilLaw" 38 ⟨"EchoCouncil", "sing", "(I)I"⟩) ∈ lw_tbl := tk_4 (List.mem_of_getElem? (i := 5) (by decide +kernel))
theorem tw_726 : (Cond.instanceMethod ⟨"EchoCouncil", "sing", "(I)I"⟩) ∈ lw_tbl := tk_4 (List.mem_of_getElem? (i := 6) (by decide +kernel))
theorem tw_727 : (Cond.selects "EchoCouncil" ⟨"EchoCouncil", "sing", "(I)I"⟩ ⟨"EchoCouncil", "sing", "(I)I"⟩) ∈ lw_tbl := tk_4 (List.mem_of_getElem? (i := 7) (by decide +kernel))
theorem tw_728 : (Cond.code ⟨"EchoCouncil", "sing", "(I)I"⟩ prog_1_method_10_code 2 (some FieldType.int)) ∈ lw_tbl := tk_4 (List.mem_of_getElem? (i := 8) (by decide +kernel))
theorem tw_729 : (Cond.fieldLink "EchoCouncil" 81 "EchoCouncil$OrderKind" "SING" "LEchoCouncil$OrderKind;") ∈ lw_tbl := tk_4 (List.mem_of_getElem? (i := 9) (by decide +kernel))
theorem tw_730 : (Cond.laysStatic "EchoCouncil$OrderKind" "SING" "LEchoCouncil$OrderKind;") ∈ lw_tbl := tk_4 (List.mem_of_getElem? (i := 10) (by decide +kernel))
theorem tw_731 : (Cond.methodLink "EchoCouncilLaw" 191 ⟨"EchoCouncilLaw", "roomOf", "(LEchoCouncil;II[J)I"⟩) ∈ lw_tbl := tk_4 (List.mem_of_getElem? (i := 11) (by decide +kernel))
theorem tw_732 : (Cond.static ⟨"EchoCouncilLaw", "roomOf", "(LEchoCouncil;II[J)I"⟩) ∈ lw_tbl := tk_4 (List.mem_of_getElem? (i := 12) (by decide +kernel))
theorem tw_733 : (Cond.codeWith ⟨"EchoCouncilLaw", "roomOf", "(LEchoCouncil;II[J)I"⟩ method_12_code 5 (some FieldType.int) [(0, 10, 13, 44), (0, 10, 17, 46)]) ∈ lw_tbl := tk_4 (List.mem_of_getElem? (i := 13) (by decide +kernel))
theorem tw_734 : (Cond.classLink "EchoCouncilLaw" 44 "java/lang/IndexOutOfBoundsException") ∈ lw_tbl := tk_4 (List.mem_of_getElem? (i := 14) (by decide +kernel))
theorem tw_735 : (Cond.instantiable "java/lang/ArrayIndexOutOfBoundsException" 6) ∈ lw_tbl := tk_4 (List.mem_of_getElem? (i := 15) (by decide +kernel))
theorem tw_736 : (Cond.instanceMethod ⟨"java/lang/ArrayIndexOutOfBoundsException", "<init>", "(Ljava/lang/String;)V"⟩) ∈ lw_tbl := tk_4 (List.mem_of_getElem? (i := 16) (by decide +kernel))
theorem tw_737 : (Cond.code ⟨"java/lang/ArrayIndexOutOfBoundsException", "<init>", "(Ljava/lang/String;)V"⟩ prog_17_method_2_code 2 none) ∈ lw_tbl := tk_4 (List.mem_of_getElem? (i := 17) (by decide +kernel))
theorem tw_738 : (Cond.methodLink "java/lang/ArrayIndexOutOfBoundsException" 7 ⟨"java/lang/IndexOutOfBoundsException", "<init>", "(Ljava/lang/String;)V"⟩) ∈ lw_tbl := tk_4 (List.mem_of_getElem? (i := 18) (by decide +kernel))
theorem tw_739 : (Cond.instanceMethod ⟨"java/lang/IndexOutOfBoundsException", "<init>", "(Ljava/lang/String;)V"⟩) ∈ lw_tbl := tk_4 (List.mem_of_getElem? (i := 19) (by decide +kernel))
theorem tw_740 : (Cond.code ⟨"java/lang/IndexOutOfBoundsException", "<init>", "(Ljava/lang/String;)V"⟩ prog_25_method_2_code 2 none) ∈ lw_tbl := tk_4 (List.mem_of_getElem? (i := 20) (by decide +kernel))
theorem tw_741 : (Cond.methodLink "java/lang/IndexOutOfBoundsException" 7 ⟨"java/lang/RuntimeException", "<init>", "(Ljava/lang/String;)V"⟩) ∈ lw_tbl := tk_4 (List.mem_of_getElem? (i := 21) (by decide +kernel))
theorem tw_742 : (Cond.lays "java/lang/ArrayIndexOutOfBoundsException" "java/lang/Throwable" "backtrace" "Ljava/lang/Object;") ∈ lw_tbl := tk_4 (List.mem_of_getElem? (i := 22) (by decide +kernel))
theorem tw_743 : (Cond.lays "java/lang/ArrayIndexOutOfBoundsException" "java/lang/Throwable" "detailMessage" "Ljava/lang/String;") ∈ lw_tbl := tk_4 (List.mem_of_getElem? (i := 23) (by decide +kernel))
theorem tw_744 : (Cond.lays "java/lang/ArrayIndexOutOfBoundsException" "java/lang/Throwable" "cause" "Ljava/lang/Throwable;") ∈ lw_tbl := tk_4 (List.mem_of_getElem? (i := 24) (by decide +kernel))
theorem tw_745 : (Cond.lays "java/lang/ArrayIndexOutOfBoundsException" "java/lang/Throwable" "stackTrace" "[Ljava/lang/StackTraceElement;") ∈ lw_tbl := tk_4 (List.mem_of_getElem? (i := 25) (by decide +kernel))
theorem tw_746 : (Cond.lays "java/lang/ArrayIndexOutOfBoundsException" "java/lang/Throwable" "depth" "I") ∈ lw_tbl := tk_4 (List.mem_of_getElem? (i := 26) (by decide +kernel))
theorem tw_747 : (Cond.lays "java/lang/ArrayIndexOutOfBoundsException" "java/lang/Throwable" "suppressedExceptions" "Ljava/util/List;") ∈ lw_tbl := tk_4 (List.mem_of_getElem? (i := 27) (by decide +kernel))
theorem tw_748 : (Cond.superclass "java/lang/ArrayIndexOutOfBoundsException" "java/lang/IndexOutOfBoundsException") ∈ lw_tbl := tk_4 (List.mem_of_getElem? (i := 28) (by decide +kernel))
theorem tw_749 : (Cond.castable "java/lang/ArrayIndexOutOfBoundsException" "java/lang/ArrayIndexOutOfBoundsException") ∈ lw_tbl := tk_4 (List.mem_of_getElem? (i := 29) (by decide +kernel))
theorem tw_750 : (Cond.declares ⟨"java/lang/IndexOutOfBoundsException", "<init>", "()V"⟩) ∈ lw_tbl := tk_4 (List.mem_of_getElem? (i := 30) (by decide +kernel))
theorem tw_751 : (Cond.declares ⟨"java/lang/IndexOutOfBoundsException", "<init>", "(Ljava/lang/String;)V"⟩) ∈ lw_tbl := tk_4 (List.mem_of_getElem? (i := 31) (by decide +kernel))
theorem tw_752 : (Cond.selects "java/lang/ArrayIndexOutOfBoundsException" ⟨"java/lang/Throwable", "fillInStackTrace", "(I)Ljava/lang/Throwable;"⟩ ⟨"java/lang/Throwable", "fillInStackTrace", "(I)Ljava/lang/Throwable;"⟩) ∈ lw_tbl := tk_4 (List.mem_of_getElem? (i := 32) (by decide +kernel))
theorem tw_753 : (Cond.instantiable "java/lang/String" 4) ∈ lw_tbl := tk_4 (List.mem_of_getElem? (i := 33) (by decide +kernel))
theorem tw_754 : (Cond.laysFinal "java/lang/String" "java/lang/String" "value" "[B") ∈ lw_tbl := tk_4 (List.mem_of_getElem? (i := 34) (by decide +kernel))
theorem tw_755 : (Cond.soleField "java/lang/String" "value") ∈ lw_tbl := tk_4 (List.mem_of_getElem? (i := 35) (by decide +kernel))
theorem tw_756 : (Cond.laysFinal "java/lang/String" "java/lang/String" "coder" "B") ∈ lw_tbl := tk_4 (List.mem_of_getElem? (i := 36) (by decide +kernel))
theorem tw_757 : (Cond.soleField "java/lang/String" "coder") ∈ lw_tbl := tk_4 (List.mem_of_getElem? (i := 37) (by decide +kernel))
theorem tw_758 : (Cond.classLink "EchoCouncilLaw" 46 "java/lang/IllegalArgumentException") ∈ lw_tbl := tk_4 (List.mem_of_getElem? (i := 38) (by decide +kernel))
theorem tw_759 : (Cond.methodLink "EchoCouncilLaw" 41 ⟨"EchoCouncil", "roomOf", "(II)I"⟩) ∈ lw_tbl := tk_4 (List.mem_of_getElem? (i := 39) (by decide +kernel))
theorem tw_760 : (Cond.instanceMethod ⟨"EchoCouncil", "roomOf", "(II)I"⟩) ∈ lw_tbl := tk_4 (List.mem_of_getElem? (i := 40) (by decide +kernel))
theorem tw_761 : (Cond.selects "EchoCouncil" ⟨"EchoCouncil", "roomOf", "(II)I"⟩ ⟨"EchoCouncil", "roomOf", "(II)I"⟩) ∈ lw_tbl := tk_4 (List.mem_of_getElem? (i := 41) (by decide +kernel))
theorem tw_762 : (Cond.code ⟨"EchoCouncil", "roomOf", "(II)I"⟩ prog_1_method_12_code 3 (some FieldType.int)) ∈ lw_tbl := tk_4 (List.mem_of_getElem? (i := 42) (by decide +kernel))
theorem tw_763 : (Cond.methodLink "EchoCouncil" 92 ⟨"EchoCouncil", "checkRoom", "(I)V"⟩) ∈ lw_tbl := tk_4 (List.mem_of_getElem? (i := 43) (by decide +kernel))
theorem tw_764 : (Cond.privateMethod ⟨"EchoCouncil", "checkRoom", "(I)V"⟩) ∈ lw_tbl := tk_4 (List.mem_of_getElem? (i := 44) (by decide +kernel))
theorem tw_765 : (Cond.instanceMethod ⟨"EchoCouncil", "checkRoom", "(I)V"⟩) ∈ lw_tbl := tk_4 (List.mem_of_getElem? (i := 45) (by decide +kernel))
theorem tw_766 : (Cond.code ⟨"EchoCouncil", "checkRoom", "(I)V"⟩ prog_1_method_45_code 2 none) ∈ lw_tbl := tk_4 (List.mem_of_getElem? (i := 46) (by decide +kernel))
theorem tw_767 : (Cond.classLink "EchoCouncil" 345 "java/lang/IndexOutOfBoundsException") ∈ lw_tbl := tk_4 (List.mem_of_getElem? (i := 47) (by decide +kernel))
theorem tw_768 : (Cond.instantiable "java/lang/IndexOutOfBoundsException" 6) ∈ lw_tbl := tk_4 (List.mem_of_getElem? (i := 48) (by decide +kernel))
theorem tw_769 : (Cond.castable "java/lang/IndexOutOfBoundsException" "java/lang/IndexOutOfBoundsException") ∈ lw_tbl := tk_4 (List.mem_of_getElem? (i := 49) (by decide +kernel))
theorem tw_770 : (Cond.selects "java/lang/IndexOutOfBoundsException" ⟨"java/lang/Throwable", "fillInStackTrace", "(I)Ljava/lang/Throwable;"⟩ ⟨"java/lang/Throwable", "fillInStackTrace", "(I)Ljava/lang/Throwable;"⟩) ∈ lw_tbl := tk_4 (List.mem_of_getElem? (i := 50) (by decide +kernel))
theorem tw_771 : (Cond.lays "java/lang/IndexOutOfBoundsException" "java/lang/Throwable" "cause" "Ljava/lang/Throwable;") ∈ lw_tbl := tk_4 (List.mem_of_getElem? (i := 51) (by decide +kernel))
theorem tw_772 : (Cond.lays "java/lang/IndexOutOfBoundsException" "java/lang/Throwable" "stackTrace" "[Ljava/lang/StackTraceElement;") ∈ lw_tbl := tk_4 (List.mem_of_getElem? (i := 52) (by decide +kernel))
theorem tw_773 : (Cond.lays "java/lang/IndexOutOfBoundsException" "java/lang/Throwable" "suppressedExceptions" "Ljava/util/List;") ∈ lw_tbl := tk_4 (List.mem_of_getElem? (i := 53) (by decide +kernel))
theorem tw_774 : (Cond.lays "java/lang/IndexOutOfBoundsException" "java/lang/Throwable" "detailMessage" "Ljava/lang/String;") ∈ lw_tbl := tk_4 (List.mem_of_getElem? (i := 54) (by decide +kernel))
theorem tw_775 : (Cond.lays "java/lang/IndexOutOfBoundsException" "java/lang/Throwable" "backtrace" "Ljava/lang/Object;") ∈ lw_tbl := tk_4 (List.mem_of_getElem? (i := 55) (by decide +kernel))
theorem tw_776 : (Cond.stringRef "EchoCouncil" 396 "there is no such room") ∈ lw_tbl := tk_4 (List.mem_of_getElem? (i := 56) (by decide +kernel))
theorem tw_777 : (Cond.methodLink "EchoCouncil" 349 ⟨"java/lang/IndexOutOfBoundsException", "<init>", "(Ljava/lang/String;)V"⟩) ∈ lw_tbl := tk_4 (List.mem_of_getElem? (i := 57) (by decide +kernel))
theorem tw_778 : (Cond.lays "java/lang/IndexOutOfBoundsException" "java/lang/Throwable" "depth" "I") ∈ lw_tbl := tk_4 (List.mem_of_getElem? (i := 58) (by decide +kernel))
theorem tw_779 : (Cond.superclass "java/lang/IndexOutOfBoundsException" "java/lang/RuntimeException") ∈ lw_tbl := tk_4 (List.mem_of_getElem? (i := 59) (by decide +kernel))
theorem tw_780 : (Cond.methodLink "EchoCouncil" 118 ⟨"EchoCouncil$State", "echoesIn", "(I)I"⟩) ∈ lw_tbl := tk_4 (List.mem_of_getElem? (i := 60) (by decide +kernel))
theorem tw_781 : (Cond.instanceMethod ⟨"EchoCouncil$State", "echoesIn", "(I)I"⟩) ∈ lw_tbl := tk_4 (List.mem_of_getElem? (i := 61) (by decide +kernel))
theorem tw_782 : (Cond.selects "EchoCouncil$State" ⟨"EchoCouncil$State", "echoesIn", "(I)I"⟩ ⟨"EchoCouncil$State", "echoesIn", "(I)I"⟩) ∈ lw_tbl := tk_4 (List.mem_of_getElem? (i := 62) (by decide +kernel))
theorem tw_783 : (Cond.code ⟨"EchoCouncil$State", "echoesIn", "(I)I"⟩ prog_10_method_13_code 4 (some FieldType.int)) ∈ lw_tbl := tk_4 (List.mem_of_getElem? (i := 63) (by decide +kernel))
theorem tw_784 : (Cond.methodLink "EchoCouncil" 121 ⟨"EchoCouncil$State", "freeIn", "(I)I"⟩) ∈ lw_tbl := tk_4 (List.mem_of_getElem? (i := 64) (by decide +kernel))
theorem tw_785 : (Cond.instanceMethod ⟨"EchoCouncil$State", "freeIn", "(I)I"⟩) ∈ lw_tbl := tk_4 (List.mem_of_getElem? (i := 65) (by decide +kernel))
theorem tw_786 : (Cond.selects "EchoCouncil$State" ⟨"EchoCouncil$State", "freeIn", "(I)I"⟩ ⟨"EchoCouncil$State", "freeIn", "(I)I"⟩) ∈ lw_tbl := tk_4 (List.mem_of_getElem? (i := 66) (by decide +kernel))
theorem tw_787 : (Cond.code ⟨"EchoCouncil$State", "freeIn", "(I)I"⟩ prog_10_method_14_code 4 (some FieldType.int)) ∈ lw_tbl := tk_4 (List.mem_of_getElem? (i := 67) (by decide +kernel))
theorem tw_788 : (Cond.methodLink "EchoCouncil$State" 89 ⟨"EchoCouncil$State", "isLet", "(I)Z"⟩) ∈ lw_tbl := tk_4 (List.mem_of_getElem? (i := 68) (by decide +kernel))
theorem tw_789 : (Cond.classLink "EchoCouncil" 127 "java/lang/IllegalArgumentException") ∈ lw_tbl := tk_4 (List.mem_of_getElem? (i := 69) (by decide +kernel))
theorem tw_790 : (Cond.instantiable "java/lang/IllegalArgumentException" 6) ∈ lw_tbl := tk_4 (List.mem_of_getElem? (i := 70) (by decide +kernel))
theorem tw_791 : (Cond.castable "java/lang/IllegalArgumentException" "java/lang/IllegalArgumentException") ∈ lw_tbl := tk_4 (List.mem_of_getElem? (i := 71) (by decide +kernel))
theorem tw_792 : (Cond.selects "java/lang/IllegalArgumentException" ⟨"java/lang/Throwable", "fillInStackTrace", "(I)Ljava/lang/Throwable;"⟩ ⟨"java/lang/Throwable", "fillInStackTrace", "(I)Ljava/lang/Throwable;"⟩) ∈ lw_tbl := tk_4 (List.mem_of_getElem? (i := 72) (by decide +kernel))
theorem tw_793 : (Cond.lays "java/lang/IllegalArgumentException" "java/lang/Throwable" "cause" "Ljava/lang/Throwable;") ∈ lw_tbl := tk_4 (List.mem_of_getElem? (i := 73) (by decide +kernel))
theorem tw_794 : (Cond.lays "java/lang/IllegalArgumentException" "java/lang/Throwable" "stackTrace" "[Ljava/lang/StackTraceElement;") ∈ lw_tbl := tk_4 (List.mem_of_getElem? (i := 74) (by decide +kernel))
theorem tw_795 : (Cond.lays "java/lang/IllegalArgumentException" "java/lang/Throwable" "suppressedExceptions" "Ljava/util/List;") ∈ lw_tbl := tk_4 (List.mem_of_getElem? (i := 75) (by decide +kernel))
theorem tw_796 : (Cond.lays "java/lang/IllegalArgumentException" "java/lang/Throwable" "detailMessage" "Ljava/lang/String;") ∈ lw_tbl := tk_4 (List.mem_of_getElem? (i := 76) (by decide +kernel))
theorem tw_797 : (Cond.lays "java/lang/IllegalArgumentException" "java/lang/Throwable" "backtrace" "Ljava/lang/Object;") ∈ lw_tbl := tk_4 (List.mem_of_getElem? (i := 77) (by decide +kernel))
theorem tw_798 : (Cond.stringRef "EchoCouncil" 129 "no such number of a room") ∈ lw_tbl := tk_4 (List.mem_of_getElem? (i := 78) (by decide +kernel))
theorem tw_799 : (Cond.methodLink "EchoCouncil" 131 ⟨"java/lang/IllegalArgumentException", "<init>", "(Ljava/lang/String;)V"⟩) ∈ lw_tbl := tk_4 (List.mem_of_getElem? (i := 79) (by decide +kernel))
theorem tw_800 : (Cond.instanceMethod ⟨"java/lang/IllegalArgumentException", "<init>", "(Ljava/lang/String;)V"⟩) ∈ lw_tbl := tk_4 (List.mem_of_getElem? (i := 80) (by decide +kernel))
theorem tw_801 : (Cond.code ⟨"java/lang/IllegalArgumentException", "<init>", "(Ljava/lang/String;)V"⟩ prog_23_method_2_code 2 none) ∈ lw_tbl := tk_4 (List.mem_of_getElem? (i := 81) (by decide +kernel))
theorem tw_802 : (Cond.methodLink "java/lang/IllegalArgumentException" 7 ⟨"java/lang/RuntimeException", "<init>", "(Ljava/lang/String;)V"⟩) ∈ lw_tbl := tk_4 (List.mem_of_getElem? (i := 82) (by decide +kernel))
theorem tw_803 : (Cond.lays "java/lang/IllegalArgumentException" "java/lang/Throwable" "depth" "I") ∈ lw_tbl := tk_4 (List.mem_of_getElem? (i := 83) (by decide +kernel))
theorem tw_804 : (Cond.superclass "java/lang/IllegalArgumentException" "java/lang/RuntimeException") ∈ lw_tbl := tk_4 (List.mem_of_getElem? (i := 84) (by decide +kernel))
theorem tw_805 : (Cond.methodLink "EchoCouncilLaw" 194 ⟨"EchoCouncilLaw", "echoOf", "(LEchoCouncil;II[J)I"⟩) ∈ lw_tbl := tk_4 (List.mem_of_getElem? (i := 85) (by decide +kernel))
theorem tw_806 : (Cond.static ⟨"EchoCouncilLaw", "echoOf", "(LEchoCouncil;II[J)I"⟩) ∈ lw_tbl := tk_4 (List.mem_of_getElem? (i := 86) (by decide +kernel))
theorem tw_807 : (Cond.codeWith ⟨"EchoCouncilLaw", "echoOf", "(LEchoCouncil;II[J)I"⟩ method_13_code 5 (some FieldType.int) [(0, 10, 13, 44), (0, 10, 17, 46)]) ∈ lw_tbl := tk_4 (List.mem_of_getElem? (i := 87) (by decide +kernel))
theorem tw_808 : (Cond.methodLink "EchoCouncilLaw" 48 ⟨"EchoCouncil", "echoOf", "(II)I"⟩) ∈ lw_tbl := tk_4 (List.mem_of_getElem? (i := 88) (by decide +kernel))
theorem tw_809 : (Cond.instanceMethod ⟨"EchoCouncil", "echoOf", "(II)I"⟩) ∈ lw_tbl := tk_4 (List.mem_of_getElem? (i := 89) (by decide +kernel))
theorem tw_810 : (Cond.selects "EchoCouncil" ⟨"EchoCouncil", "echoOf", "(II)I"⟩ ⟨"EchoCouncil", "echoOf", "(II)I"⟩) ∈ lw_tbl := tk_4 (List.mem_of_getElem? (i := 90) (by decide +kernel))
theorem tw_811 : (Cond.code ⟨"EchoCouncil", "echoOf", "(II)I"⟩ prog_1_method_13_code 3 (some FieldType.int)) ∈ lw_tbl := tk_4 (List.mem_of_getElem? (i := 91) (by decide +kernel))
theorem tw_812 : (Cond.methodLink "EchoCouncil" 134 ⟨"EchoCouncil", "checkEcho", "(I)V"⟩) ∈ lw_tbl := tk_4 (List.mem_of_getElem? (i := 92) (by decide +kernel))
theorem tw_813 : (Cond.privateMethod ⟨"EchoCouncil", "checkEcho", "(I)V"⟩) ∈ lw_tbl := tk_4 (List.mem_of_getElem? (i := 93) (by decide +kernel))
theorem tw_814 : (Cond.instanceMethod ⟨"EchoCouncil", "checkEcho", "(I)V"⟩) ∈ lw_tbl := tk_4 (List.mem_of_getElem? (i := 94) (by decide +kernel))
theorem tw_815 : (Cond.code ⟨"EchoCouncil", "checkEcho", "(I)V"⟩ prog_1_method_46_code 2 none) ∈ lw_tbl := tk_4 (List.mem_of_getElem? (i := 95) (by decide +kernel))
theorem tw_816 : (Cond.stringRef "EchoCouncil" 401 "there is no such echo") ∈ lw_tbl := tk_4 (List.mem_of_getElem? (i := 96) (by decide +kernel))
theorem tw_817 : (Cond.stringRef "EchoCouncil" 156 "no such number of an echo") ∈ lw_tbl := tk_4 (List.mem_of_getElem? (i := 97) (by decide +kernel))
theorem tw_818 : (Cond.methodLink "EchoCouncilLaw" 197 ⟨"EchoCouncilLaw", "singerOf", "(LEchoCouncil;II[J)I"⟩) ∈ lw_tbl := tk_4 (List.mem_of_getElem? (i := 98) (by decide +kernel))
theorem tw_819 : (Cond.static ⟨"EchoCouncilLaw", "singerOf", "(LEchoCouncil;II[J)I"⟩) ∈ lw_tbl := tk_4 (List.mem_of_getElem? (i := 99) (by decide +kernel))
theorem tw_820 : (Cond.codeWith ⟨"EchoCouncilLaw", "singerOf", "(LEchoCouncil;II[J)I"⟩ method_14_code 5 (some FieldType.int) [(0, 10, 13, 44), (0, 10, 17, 46)]) ∈ lw_tbl := tk_4 (List.mem_of_getElem? (i := 100) (by decide +kernel))
theorem tw_821 : (Cond.methodLink "EchoCouncilLaw" 51 ⟨"EchoCouncil", "singerOf", "(II)I"⟩) ∈ lw_tbl := tk_4 (List.mem_of_getElem? (i := 101) (by decide +kernel))
theorem tw_822 : (Cond.instanceMethod ⟨"EchoCouncil", "singerOf", "(II)I"⟩) ∈ lw_tbl := tk_4 (List.mem_of_getElem? (i := 102) (by decide +kernel))
theorem tw_823 : (Cond.selects "EchoCouncil" ⟨"EchoCouncil", "singerOf", "(II)I"⟩ ⟨"EchoCouncil", "singerOf", "(II)I"⟩) ∈ lw_tbl := tk_4 (List.mem_of_getElem? (i := 103) (by decide +kernel))
theorem tw_824 : (Cond.code ⟨"EchoCouncil", "singerOf", "(II)I"⟩ prog_1_method_14_code 3 (some FieldType.int)) ∈ lw_tbl := tk_4 (List.mem_of_getElem? (i := 104) (by decide +kernel))
theorem tw_825 : (Cond.methodLink "EchoCouncil" 158 ⟨"EchoCouncil", "checkSinger", "(I)V"⟩) ∈ lw_tbl := tk_4 (List.mem_of_getElem? (i := 105) (by decide +kernel))
theorem tw_826 : (Cond.privateMethod ⟨"EchoCouncil", "checkSinger", "(I)V"⟩) ∈ lw_tbl := tk_4 (List.mem_of_getElem? (i := 106) (by decide +kernel))
theorem tw_827 : (Cond.instanceMethod ⟨"EchoCouncil", "checkSinger", "(I)V"⟩) ∈ lw_tbl := tk_4 (List.mem_of_getElem? (i := 107) (by decide +kernel))
theorem tw_828 : (Cond.code ⟨"EchoCouncil", "checkSinger", "(I)V"⟩ prog_1_method_47_code 2 none) ∈ lw_tbl := tk_4 (List.mem_of_getElem? (i := 108) (by decide +kernel))
theorem tw_829 : (Cond.stringRef "EchoCouncil" 406 "there is no such singer") ∈ lw_tbl := tk_4 (List.mem_of_getElem? (i := 109) (by decide +kernel))
theorem tw_830 : (Cond.methodLink "EchoCouncil" 174 ⟨"EchoCouncil$State", "countLetTo", "(I)I"⟩) ∈ lw_tbl := tk_4 (List.mem_of_getElem? (i := 110) (by decide +kernel))
theorem tw_831 : (Cond.instanceMethod ⟨"EchoCouncil$State", "countLetTo", "(I)I"⟩) ∈ lw_tbl := tk_4 (List.mem_of_getElem? (i := 111) (by decide +kernel))
theorem tw_832 : (Cond.selects "EchoCouncil$State" ⟨"EchoCouncil$State", "countLetTo", "(I)I"⟩ ⟨"EchoCouncil$State", "countLetTo", "(I)I"⟩) ∈ lw_tbl := tk_4 (List.mem_of_getElem? (i := 112) (by decide +kernel))
theorem tw_833 : (Cond.code ⟨"EchoCouncil$State", "countLetTo", "(I)I"⟩ prog_10_method_23_code 4 (some FieldType.int)) ∈ lw_tbl := tk_4 (List.mem_of_getElem? (i := 113) (by decide +kernel))
theorem tw_834 : (Cond.methodLink "EchoCouncil" 179 ⟨"EchoCouncil$State", "heldOf", "(I)I"⟩) ∈ lw_tbl := tk_4 (List.mem_of_getElem? (i := 114) (by decide +kernel))
theorem tw_835 : (Cond.stringRef "EchoCouncil" 182 "no such number of a singer") ∈ lw_tbl := tk_4 (List.mem_of_getElem? (i := 115) (by decide +kernel))
theorem tw_836 : (Cond.methodLink "EchoCouncilLaw" 200 ⟨"EchoCouncilLaw", "tones", "(LEchoCouncil;I[J)I"⟩) ∈ lw_tbl := tk_4 (List.mem_of_getElem? (i := 116) (by decide +kernel))
theorem tw_837 : (Cond.static ⟨"EchoCouncilLaw", "tones", "(LEchoCouncil;I[J)I"⟩) ∈ lw_tbl := tk_4 (List.mem_of_getElem? (i := 117) (by decide +kernel))
theorem tw_838 : (Cond.codeWith ⟨"EchoCouncilLaw", "tones", "(LEchoCouncil;I[J)I"⟩ method_15_code 4 (some FieldType.int) [(0, 9, 12, 44), (0, 9, 15, 57)]) ∈ lw_tbl := tk_4 (List.mem_of_getElem? (i := 118) (by decide +kernel))
theorem tw_839 : (Cond.classLink "EchoCouncilLaw" 57 "java/util/NoSuchElementException") ∈ lw_tbl := tk_4 (List.mem_of_getElem? (i := 119) (by decide +kernel))
theorem tw_840 : (Cond.methodLink "EchoCouncilLaw" 54 ⟨"EchoCouncil", "tones", "(I)I"⟩) ∈ lw_tbl := tk_4 (List.mem_of_getElem? (i := 120) (by decide +kernel))
theorem tw_841 : (Cond.instanceMethod ⟨"EchoCouncil", "tones", "(I)I"⟩) ∈ lw_tbl := tk_4 (List.mem_of_getElem? (i := 121) (by decide +kernel))
theorem tw_842 : (Cond.selects "EchoCouncil" ⟨"EchoCouncil", "tones", "(I)I"⟩ ⟨"EchoCouncil", "tones", "(I)I"⟩) ∈ lw_tbl := tk_4 (List.mem_of_getElem? (i := 122) (by decide +kernel))
theorem tw_843 : (Cond.code ⟨"EchoCouncil", "tones", "(I)I"⟩ prog_1_method_15_code 2 (some FieldType.int)) ∈ lw_tbl := tk_4 (List.mem_of_getElem? (i := 123) (by decide +kernel))
theorem tw_844 : (Cond.methodLink "EchoCouncil" 184 ⟨"EchoCouncil", "checkSingerInside", "(I)V"⟩) ∈ lw_tbl := tk_4 (List.mem_of_getElem? (i := 124) (by decide +kernel))
theorem tw_845 : (Cond.privateMethod ⟨"EchoCouncil", "checkSingerInside", "(I)V"⟩) ∈ lw_tbl := tk_4 (List.mem_of_getElem? (i := 125) (by decide +kernel))
theorem tw_846 : (Cond.instanceMethod ⟨"EchoCouncil", "checkSingerInside", "(I)V"⟩) ∈ lw_tbl := tk_4 (List.mem_of_getElem? (i := 126) (by decide +kernel))
theorem tw_847 : (Cond.code ⟨"EchoCouncil", "checkSingerInside", "(I)V"⟩ prog_1_method_48_code 2 none) ∈ lw_tbl := tk_4 (List.mem_of_getElem? (i := 127) (by decide +kernel))
theorem tw_848 : (Cond.classLink "EchoCouncil" 204 "java/util/NoSuchElementException") ∈ lw_tbl := tk_4 (List.mem_of_getElem? (i := 128) (by decide +kernel))
theorem tw_849 : (Cond.instantiable "java/util/NoSuchElementException" 6) ∈ lw_tbl := tk_4 (List.mem_of_getElem? (i := 129) (by decide +kernel))
theorem tw_850 : (Cond.castable "java/util/NoSuchElementException" "java/util/NoSuchElementException") ∈ lw_tbl := tk_4 (List.mem_of_getElem? (i := 130) (by decide +kernel))
theorem tw_851 : (Cond.selects "java/util/NoSuchElementException" ⟨"java/lang/Throwable", "fillInStackTrace", "(I)Ljava/lang/Throwable;"⟩ ⟨"java/lang/Throwable", "fillInStackTrace", "(I)Ljava/lang/Throwable;"⟩) ∈ lw_tbl := tk_4 (List.mem_of_getElem? (i := 131) (by decide +kernel))
theorem tw_852 : (Cond.lays "java/util/NoSuchElementException" "java/lang/Throwable" "cause" "Ljava/lang/Throwable;") ∈ lw_tbl := tk_4 (List.mem_of_getElem? (i := 132) (by decide +kernel))
theorem tw_853 : (Cond.lays "java/util/NoSuchElementException" "java/lang/Throwable" "stackTrace" "[Ljava/lang/StackTraceElement;") ∈ lw_tbl := tk_4 (List.mem_of_getElem? (i := 133) (by decide +kernel))
theorem tw_854 : (Cond.lays "java/util/NoSuchElementException" "java/lang/Throwable" "suppressedExceptions" "Ljava/util/List;") ∈ lw_tbl := tk_4 (List.mem_of_getElem? (i := 134) (by decide +kernel))
theorem tw_855 : (Cond.lays "java/util/NoSuchElementException" "java/lang/Throwable" "detailMessage" "Ljava/lang/String;") ∈ lw_tbl := tk_4 (List.mem_of_getElem? (i := 135) (by decide +kernel))
theorem tw_856 : (Cond.lays "java/util/NoSuchElementException" "java/lang/Throwable" "backtrace" "Ljava/lang/Object;") ∈ lw_tbl := tk_4 (List.mem_of_getElem? (i := 136) (by decide +kernel))
theorem tw_857 : (Cond.stringRef "EchoCouncil" 408 "the singer is outside") ∈ lw_tbl := tk_4 (List.mem_of_getElem? (i := 137) (by decide +kernel))
theorem tw_858 : (Cond.methodLink "EchoCouncil" 208 ⟨"java/util/NoSuchElementException", "<init>", "(Ljava/lang/String;)V"⟩) ∈ lw_tbl := tk_4 (List.mem_of_getElem? (i := 138) (by decide +kernel))
theorem tw_859 : (Cond.instanceMethod ⟨"java/util/NoSuchElementException", "<init>", "(Ljava/lang/String;)V"⟩) ∈ lw_tbl := tk_4 (List.mem_of_getElem? (i := 139) (by decide +kernel))
theorem tw_860 : (Cond.code ⟨"java/util/NoSuchElementException", "<init>", "(Ljava/lang/String;)V"⟩ prog_41_method_4_code 2 none) ∈ lw_tbl := tk_4 (List.mem_of_getElem? (i := 140) (by decide +kernel))
theorem tw_861 : (Cond.methodLink "java/util/NoSuchElementException" 13 ⟨"java/lang/RuntimeException", "<init>", "(Ljava/lang/String;)V"⟩) ∈ lw_tbl := tk_4 (List.mem_of_getElem? (i := 141) (by decide +kernel))
theorem tw_862 : (Cond.lays "java/util/NoSuchElementException" "java/lang/Throwable" "depth" "I") ∈ lw_tbl := tk_4 (List.mem_of_getElem? (i := 142) (by decide +kernel))
theorem tw_863 : (Cond.superclass "java/util/NoSuchElementException" "java/lang/RuntimeException") ∈ lw_tbl := tk_4 (List.mem_of_getElem? (i := 143) (by decide +kernel))
theorem tw_864 : (Cond.methodLink "EchoCouncilLaw" 203 ⟨"EchoCouncilLaw", "tonesAgain", "(LEchoCouncil;I[J)I"⟩) ∈ lw_tbl := tk_4 (List.mem_of_getElem? (i := 144) (by decide +kernel))
theorem tw_865 : (Cond.static ⟨"EchoCouncilLaw", "tonesAgain", "(LEchoCouncil;I[J)I"⟩) ∈ lw_tbl := tk_4 (List.mem_of_getElem? (i := 145) (by decide +kernel))
theorem tw_866 : (Cond.codeWith ⟨"EchoCouncilLaw", "tonesAgain", "(LEchoCouncil;I[J)I"⟩ method_16_code 4 (some FieldType.int) [(0, 9, 12, 44), (0, 9, 15, 57)]) ∈ lw_tbl := tk_4 (List.mem_of_getElem? (i := 146) (by decide +kernel))
theorem tw_867 : (Cond.methodLink "EchoCouncilLaw" 59 ⟨"EchoCouncil", "tonesAgain", "(I)I"⟩) ∈ lw_tbl := tk_4 (List.mem_of_getElem? (i := 147) (by decide +kernel))
theorem tw_868 : (Cond.instanceMethod ⟨"EchoCouncil", "tonesAgain", "(I)I"⟩) ∈ lw_tbl := tk_4 (List.mem_of_getElem? (i := 148) (by decide +kernel))
theorem tw_869 : (Cond.selects "EchoCouncil" ⟨"EchoCouncil", "tonesAgain", "(I)I"⟩ ⟨"EchoCouncil", "tonesAgain", "(I)I"⟩) ∈ lw_tbl := tk_4 (List.mem_of_getElem? (i := 149) (by decide +kernel))
theorem tw_870 : (Cond.code ⟨"EchoCouncil", "tonesAgain", "(I)I"⟩ prog_1_method_16_code 2 (some FieldType.int)) ∈ lw_tbl := tk_4 (List.mem_of_getElem? (i := 150) (by decide +kernel))
theorem tw_871 : (Cond.methodLink "EchoCouncilLaw" 206 ⟨"EchoCouncilLaw", "verses", "(LEchoCouncil;I[J)I"⟩) ∈ lw_tbl := tk_4 (List.mem_of_getElem? (i := 151) (by decide +kernel))
theorem tw_872 : (Cond.static ⟨"EchoCouncilLaw", "verses", "(LEchoCouncil;I[J)I"⟩) ∈ lw_tbl := tk_4 (List.mem_of_getElem? (i := 152) (by decide +kernel))
theorem tw_873 : (Cond.codeWith ⟨"EchoCouncilLaw", "verses", "(LEchoCouncil;I[J)I"⟩ method_17_code 4 (some FieldType.int) [(0, 9, 12, 44), (0, 9, 15, 57)]) ∈ lw_tbl := tk_4 (List.mem_of_getElem? (i := 153) (by decide +kernel))
theorem tw_874 : (Cond.methodLink "EchoCouncilLaw" 62 ⟨"EchoCouncil", "verses", "(I)I"⟩) ∈ lw_tbl := tk_4 (List.mem_of_getElem? (i := 154) (by decide +kernel))
theorem tw_875 : (Cond.instanceMethod ⟨"EchoCouncil", "verses", "(I)I"⟩) ∈ lw_tbl := tk_4 (List.mem_of_getElem? (i := 155) (by decide +kernel))
theorem tw_876 : (Cond.selects "EchoCouncil" ⟨"EchoCouncil", "verses", "(I)I"⟩ ⟨"EchoCouncil", "verses", "(I)I"⟩) ∈ lw_tbl := tk_4 (List.mem_of_getElem? (i := 156) (by decide +kernel))
theorem tw_877 : (Cond.code ⟨"EchoCouncil", "verses", "(I)I"⟩ prog_1_method_17_code 2 (some FieldType.int)) ∈ lw_tbl := tk_4 (List.mem_of_getElem? (i := 157) (by decide +kernel))
theorem tw_878 : (Cond.methodLink "EchoCouncilLaw" 209 ⟨"EchoCouncilLaw", "versesAgain", "(LEchoCouncil;I[J)I"⟩) ∈ lw_tbl := tk_4 (List.mem_of_getElem? (i := 158) (by decide +kernel))
theorem tw_879 : (Cond.static ⟨"EchoCouncilLaw", "versesAgain", "(LEchoCouncil;I[J)I"⟩) ∈ lw_tbl := tk_4 (List.mem_of_getElem? (i := 159) (by decide +kernel))
theorem tw_880 : (Cond.codeWith ⟨"EchoCouncilLaw", "versesAgain", "(LEchoCouncil;I[J)I"⟩ method_18_code 4 (some FieldType.int) [(0, 9, 12, 44), (0, 9, 15, 57)]) ∈ lw_tbl := tk_4 (List.mem_of_getElem? (i := 160) (by decide +kernel))
theorem tw_881 : (Cond.methodLink "EchoCouncilLaw" 65 ⟨"EchoCouncil", "versesAgain", "(I)I"⟩) ∈ lw_tbl := tk_4 (List.mem_of_getElem? (i := 161) (by decide +kernel))
theorem tw_882 : (Cond.instanceMethod ⟨"EchoCouncil", "versesAgain", "(I)I"⟩) ∈ lw_tbl := tk_4 (List.mem_of_getElem? (i := 162) (by decide +kernel))
theorem tw_883 : (Cond.selects "EchoCouncil" ⟨"EchoCouncil", "versesAgain", "(I)I"⟩ ⟨"EchoCouncil", "versesAgain", "(I)I"⟩) ∈ lw_tbl := tk_4 (List.mem_of_getElem? (i := 163) (by decide +kernel))
theorem tw_884 : (Cond.code ⟨"EchoCouncil", "versesAgain", "(I)I"⟩ prog_1_method_18_code 2 (some FieldType.int)) ∈ lw_tbl := tk_4 (List.mem_of_getElem? (i := 164) (by decide +kernel))
theorem tw_885 : (Cond.methodLink "EchoCouncilLaw" 212 ⟨"EchoCouncilLaw", "would", "(LEchoCouncil;II[J)I"⟩) ∈ lw_tbl := tk_4 (List.mem_of_getElem? (i := 165) (by decide +kernel))
theorem tw_886 : (Cond.static ⟨"EchoCouncilLaw", "would", "(LEchoCouncil;II[J)I"⟩) ∈ lw_tbl := tk_4 (List.mem_of_getElem? (i := 166) (by decide +kernel))
theorem tw_887 : (Cond.codeWith ⟨"EchoCouncilLaw", "would", "(LEchoCouncil;II[J)I"⟩ method_19_code 5 (some FieldType.int) [(0, 10, 13, 44)]) ∈ lw_tbl := tk_4 (List.mem_of_getElem? (i := 167) (by decide +kernel))
theorem tw_888 : (Cond.methodLink "EchoCouncilLaw" 68 ⟨"EchoCouncil", "would", "(II)I"⟩) ∈ lw_tbl := tk_4 (List.mem_of_getElem? (i := 168) (by decide +kernel))
theorem tw_889 : (Cond.instanceMethod ⟨"EchoCouncil", "would", "(II)I"⟩) ∈ lw_tbl := tk_4 (List.mem_of_getElem? (i := 169) (by decide +kernel))
theorem tw_890 : (Cond.selects "EchoCouncil" ⟨"EchoCouncil", "would", "(II)I"⟩ ⟨"EchoCouncil", "would", "(II)I"⟩) ∈ lw_tbl := tk_4 (List.mem_of_getElem? (i := 170) (by decide +kernel))
theorem tw_891 : (Cond.code ⟨"EchoCouncil", "would", "(II)I"⟩ prog_1_method_19_code 3 (some FieldType.int)) ∈ lw_tbl := tk_4 (List.mem_of_getElem? (i := 171) (by decide +kernel))
theorem tw_892 : (Cond.methodLink "EchoCouncilLaw" 215 ⟨"EchoCouncilLaw", "bestRoom", "(LEchoCouncil;I[J)I"⟩) ∈ lw_tbl := tk_4 (List.mem_of_getElem? (i := 172) (by decide +kernel))
theorem tw_893 : (Cond.static ⟨"EchoCouncilLaw", "bestRoom", "(LEchoCouncil;I[J)I"⟩) ∈ lw_tbl := tk_4 (List.mem_of_getElem? (i := 173) (by decide +kernel))
theorem tw_894 : (Cond.codeWith ⟨"EchoCouncilLaw", "bestRoom", "(LEchoCouncil;I[J)I"⟩ method_20_code 4 (some FieldType.int) [(0, 9, 12, 44), (0, 9, 15, 57)]) ∈ lw_tbl := tk_4 (List.mem_of_getElem? (i := 174) (by decide +kernel))
theorem tw_895 : (Cond.methodLink "EchoCouncilLaw" 71 ⟨"EchoCouncil", "bestRoom", "(I)I"⟩) ∈ lw_tbl := tk_4 (List.mem_of_getElem? (i := 175) (by decide +kernel))
theorem tw_896 : (Cond.instanceMethod ⟨"EchoCouncil", "bestRoom", "(I)I"⟩) ∈ lw_tbl := tk_4 (List.mem_of_getElem? (i := 176) (by decide +kernel))
theorem tw_897 : (Cond.selects "EchoCouncil" ⟨"EchoCouncil", "bestRoom", "(I)I"⟩ ⟨"EchoCouncil", "bestRoom", "(I)I"⟩) ∈ lw_tbl := tk_4 (List.mem_of_getElem? (i := 177) (by decide +kernel))
theorem tw_898 : (Cond.code ⟨"EchoCouncil", "bestRoom", "(I)I"⟩ prog_1_method_20_code 4 (some FieldType.int)) ∈ lw_tbl := tk_4 (List.mem_of_getElem? (i := 178) (by decide +kernel))
theorem tw_899 : (Cond.stringRef "EchoCouncil" 206 "there are no rooms") ∈ lw_tbl := tk_4 (List.mem_of_getElem? (i := 179) (by decide +kernel))
theorem tw_900 : (Cond.methodLink "EchoCouncilLaw" 218 ⟨"EchoCouncilLaw", "canEnter", "(LEchoCouncil;II[J)I"⟩) ∈ lw_tbl := tk_4 (List.mem_of_getElem? (i := 180) (by decide +kernel))
theorem tw_901 : (Cond.static ⟨"EchoCouncilLaw", "canEnter", "(LEchoCouncil;II[J)I"⟩) ∈ lw_tbl := tk_4 (List.mem_of_getElem? (i := 181) (by decide +kernel))
theorem tw_902 : (Cond.codeWith ⟨"EchoCouncilLaw", "canEnter", "(LEchoCouncil;II[J)I"⟩ method_21_code 5 (some FieldType.int) [(0, 17, 20, 44)]) ∈ lw_tbl := tk_4 (List.mem_of_getElem? (i := 182) (by decide +kernel))
theorem tw_903 : (Cond.methodLink "EchoCouncilLaw" 74 ⟨"EchoCouncil", "canEnter", "(II)Z"⟩) ∈ lw_tbl := tk_4 (List.mem_of_getElem? (i := 183) (by decide +kernel))
theorem tw_904 : (Cond.instanceMethod ⟨"EchoCouncil", "canEnter", "(II)Z"⟩) ∈ lw_tbl := tk_4 (List.mem_of_getElem? (i := 184) (by decide +kernel))
theorem tw_905 : (Cond.selects "EchoCouncil" ⟨"EchoCouncil", "canEnter", "(II)Z"⟩ ⟨"EchoCouncil", "canEnter", "(II)Z"⟩) ∈ lw_tbl := tk_4 (List.mem_of_getElem? (i := 185) (by decide +kernel))
theorem tw_906 : (Cond.code ⟨"EchoCouncil", "canEnter", "(II)Z"⟩ prog_1_method_21_code 3 (some FieldType.boolean)) ∈ lw_tbl := tk_4 (List.mem_of_getElem? (i := 186) (by decide +kernel))
theorem tw_907 : (Cond.methodLink "EchoCouncilLaw" 221 ⟨"EchoCouncilLaw", "canRent", "(LEchoCouncil;II[J)I"⟩) ∈ lw_tbl := tk_4 (List.mem_of_getElem? (i := 187) (by decide +kernel))
theorem tw_908 : (Cond.static ⟨"EchoCouncilLaw", "canRent", "(LEchoCouncil;II[J)I"⟩) ∈ lw_tbl := tk_4 (List.mem_of_getElem? (i := 188) (by decide +kernel))
theorem tw_909 : (Cond.codeWith ⟨"EchoCouncilLaw", "canRent", "(LEchoCouncil;II[J)I"⟩ method_22_code 5 (some FieldType.int) [(0, 17, 20, 44)]) ∈ lw_tbl := tk_4 (List.mem_of_getElem? (i := 189) (by decide +kernel))
theorem tw_910 : (Cond.methodLink "EchoCouncilLaw" 78 ⟨"EchoCouncil", "canRent", "(II)Z"⟩) ∈ lw_tbl := tk_4 (List.mem_of_getElem? (i := 190) (by decide +kernel))
theorem tw_911 : (Cond.instanceMethod ⟨"EchoCouncil", "canRent", "(II)Z"⟩) ∈ lw_tbl := tk_4 (List.mem_of_getElem? (i := 191) (by decide +kernel))
theorem tw_912 : (Cond.selects "EchoCouncil" ⟨"EchoCouncil", "canRent", "(II)Z"⟩ ⟨"EchoCouncil", "canRent", "(II)Z"⟩) ∈ lw_tbl := tk_4 (List.mem_of_getElem? (i := 192) (by decide +kernel))
theorem tw_913 : (Cond.code ⟨"EchoCouncil", "canRent", "(II)Z"⟩ prog_1_method_22_code 3 (some FieldType.boolean)) ∈ lw_tbl := tk_4 (List.mem_of_getElem? (i := 193) (by decide +kernel))
theorem tw_914 : (Cond.methodLink "EchoCouncilLaw" 224 ⟨"EchoCouncilLaw", "backFor", "(LEchoCouncil;I[J)I"⟩) ∈ lw_tbl := tk_4 (List.mem_of_getElem? (i := 194) (by decide +kernel))
theorem tw_915 : (Cond.static ⟨"EchoCouncilLaw", "backFor", "(LEchoCouncil;I[J)I"⟩) ∈ lw_tbl := tk_4 (List.mem_of_getElem? (i := 195) (by decide +kernel))
theorem tw_916 : (Cond.codeWith ⟨"EchoCouncilLaw", "backFor", "(LEchoCouncil;I[J)I"⟩ method_23_code 4 (some FieldType.int) [(0, 9, 12, 44), (0, 9, 15, 57)]) ∈ lw_tbl := tk_4 (List.mem_of_getElem? (i := 196) (by decide +kernel))
theorem tw_917 : (Cond.methodLink "EchoCouncilLaw" 81 ⟨"EchoCouncil", "backFor", "(I)I"⟩) ∈ lw_tbl := tk_4 (List.mem_of_getElem? (i := 197) (by decide +kernel))
theorem tw_918 : (Cond.instanceMethod ⟨"EchoCouncil", "backFor", "(I)I"⟩) ∈ lw_tbl := tk_4 (List.mem_of_getElem? (i := 198) (by decide +kernel))
theorem tw_919 : (Cond.selects "EchoCouncil" ⟨"EchoCouncil", "backFor", "(I)I"⟩ ⟨"EchoCouncil", "backFor", "(I)I"⟩) ∈ lw_tbl := tk_4 (List.mem_of_getElem? (i := 199) (by decide +kernel))
theorem tw_920 : (Cond.code ⟨"EchoCouncil", "backFor", "(I)I"⟩ prog_1_method_23_code 2 (some FieldType.int)) ∈ lw_tbl := tk_4 (List.mem_of_getElem? (i := 200) (by decide +kernel))
theorem tw_921 : (Cond.stringRef "EchoCouncil" 226 "the echo is not let") ∈ lw_tbl := tk_4 (List.mem_of_getElem? (i := 201) (by decide +kernel))
theorem tw_922 : (Cond.methodLink "EchoCouncil" 228 ⟨"EchoCouncil$State", "aboveDamp", "(I)I"⟩) ∈ lw_tbl := tk_4 (List.mem_of_getElem? (i := 202) (by decide +kernel))
theorem tw_923 : (Cond.methodLink "EchoCouncilLaw" 227 ⟨"EchoCouncilLaw", "others", "(LEchoCouncil;I[J)I"⟩) ∈ lw_tbl := tk_4 (List.mem_of_getElem? (i := 203) (by decide +kernel))
theorem tw_924 : (Cond.static ⟨"EchoCouncilLaw", "others", "(LEchoCouncil;I[J)I"⟩) ∈ lw_tbl := tk_4 (List.mem_of_getElem? (i := 204) (by decide +kernel))
theorem tw_925 : (Cond.codeWith ⟨"EchoCouncilLaw", "others", "(LEchoCouncil;I[J)I"⟩ method_24_code 4 (some FieldType.int) [(0, 9, 12, 44)]) ∈ lw_tbl := tk_4 (List.mem_of_getElem? (i := 205) (by decide +kernel))
theorem tw_926 : (Cond.methodLink "EchoCouncilLaw" 84 ⟨"EchoCouncil", "others", "(I)I"⟩) ∈ lw_tbl := tk_4 (List.mem_of_getElem? (i := 206) (by decide +kernel))
theorem tw_927 : (Cond.instanceMethod ⟨"EchoCouncil", "others", "(I)I"⟩) ∈ lw_tbl := tk_4 (List.mem_of_getElem? (i := 207) (by decide +kernel))
theorem tw_928 : (Cond.selects "EchoCouncil" ⟨"EchoCouncil", "others", "(I)I"⟩ ⟨"EchoCouncil", "others", "(I)I"⟩) ∈ lw_tbl := tk_4 (List.mem_of_getElem? (i := 208) (by decide +kernel))
theorem tw_929 : (Cond.code ⟨"EchoCouncil", "others", "(I)I"⟩ prog_1_method_24_code 2 (some FieldType.int)) ∈ lw_tbl := tk_4 (List.mem_of_getElem? (i := 209) (by decide +kernel))
theorem tw_930 : (Cond.methodLink "EchoCouncilLaw" 230 ⟨"EchoCouncilLaw", "free", "(LEchoCouncil;I[J)I"⟩) ∈ lw_tbl := tk_4 (List.mem_of_getElem? (i := 210) (by decide +kernel))
theorem tw_931 : (Cond.static ⟨"EchoCouncilLaw", "free", "(LEchoCouncil;I[J)I"⟩) ∈ lw_tbl := tk_4 (List.mem_of_getElem? (i := 211) (by decide +kernel))
theorem tw_932 : (Cond.codeWith ⟨"EchoCouncilLaw", "free", "(LEchoCouncil;I[J)I"⟩ method_25_code 4 (some FieldType.int) [(0, 9, 12, 44)]) ∈ lw_tbl := tk_4 (List.mem_of_getElem? (i := 212) (by decide +kernel))
theorem tw_933 : (Cond.methodLink "EchoCouncilLaw" 87 ⟨"EchoCouncil", "free", "(I)I"⟩) ∈ lw_tbl := tk_4 (List.mem_of_getElem? (i := 213) (by decide +kernel))
theorem tw_934 : (Cond.instanceMethod ⟨"EchoCouncil", "free", "(I)I"⟩) ∈ lw_tbl := tk_4 (List.mem_of_getElem? (i := 214) (by decide +kernel))
theorem tw_935 : (Cond.selects "EchoCouncil" ⟨"EchoCouncil", "free", "(I)I"⟩ ⟨"EchoCouncil", "free", "(I)I"⟩) ∈ lw_tbl := tk_4 (List.mem_of_getElem? (i := 215) (by decide +kernel))
theorem tw_936 : (Cond.code ⟨"EchoCouncil", "free", "(I)I"⟩ prog_1_method_25_code 2 (some FieldType.int)) ∈ lw_tbl := tk_4 (List.mem_of_getElem? (i := 216) (by decide +kernel))
theorem tw_937 : (Cond.methodLink "EchoCouncilLaw" 233 ⟨"EchoCouncilLaw", "dryIn", "(LEchoCouncil;I[J)I"⟩) ∈ lw_tbl := tk_4 (List.mem_of_getElem? (i := 217) (by decide +kernel))
theorem tw_938 : (Cond.static ⟨"EchoCouncilLaw", "dryIn", "(LEchoCouncil;I[J)I"⟩) ∈ lw_tbl := tk_4 (List.mem_of_getElem? (i := 218) (by decide +kernel))
theorem tw_939 : (Cond.codeWith ⟨"EchoCouncilLaw", "dryIn", "(LEchoCouncil;I[J)I"⟩ method_26_code 4 (some FieldType.int) [(0, 9, 12, 44)]) ∈ lw_tbl := tk_4 (List.mem_of_getElem? (i := 219) (by decide +kernel))
theorem tw_940 : (Cond.methodLink "EchoCouncilLaw" 90 ⟨"EchoCouncil", "dryIn", "(I)I"⟩) ∈ lw_tbl := tk_4 (List.mem_of_getElem? (i := 220) (by decide +kernel))
theorem tw_941 : (Cond.instanceMethod ⟨"EchoCouncil", "dryIn", "(I)I"⟩) ∈ lw_tbl := tk_4 (List.mem_of_getElem? (i := 221) (by decide +kernel))
theorem tw_942 : (Cond.selects "EchoCouncil" ⟨"EchoCouncil", "dryIn", "(I)I"⟩ ⟨"EchoCouncil", "dryIn", "(I)I"⟩) ∈ lw_tbl := tk_4 (List.mem_of_getElem? (i := 222) (by decide +kernel))
theorem tw_943 : (Cond.code ⟨"EchoCouncil", "dryIn", "(I)I"⟩ prog_1_method_26_code 2 (some FieldType.int)) ∈ lw_tbl := tk_4 (List.mem_of_getElem? (i := 223) (by decide +kernel))
theorem tw_944 : (Cond.methodLink "EchoCouncilLaw" 236 ⟨"EchoCouncilLaw", "dampest", "(LEchoCouncil;I[J)I"⟩) ∈ lw_tbl := tk_4 (List.mem_of_getElem? (i := 224) (by decide +kernel))
theorem tw_945 : (Cond.static ⟨"EchoCouncilLaw", "dampest", "(LEchoCouncil;I[J)I"⟩) ∈ lw_tbl := tk_4 (List.mem_of_getElem? (i := 225) (by decide +kernel))
theorem tw_946 : (Cond.codeWith ⟨"EchoCouncilLaw", "dampest", "(LEchoCouncil;I[J)I"⟩ method_27_code 4 (some FieldType.int) [(0, 9, 12, 57)]) ∈ lw_tbl := tk_4 (List.mem_of_getElem? (i := 226) (by decide +kernel))
theorem tw_947 : (Cond.methodLink "EchoCouncilLaw" 93 ⟨"EchoCouncil", "dampest", "(I)I"⟩) ∈ lw_tbl := tk_4 (List.mem_of_getElem? (i := 227) (by decide +kernel))
theorem tw_948 : (Cond.instanceMethod ⟨"EchoCouncil", "dampest", "(I)I"⟩) ∈ lw_tbl := tk_4 (List.mem_of_getElem? (i := 228) (by decide +kernel))
theorem tw_949 : (Cond.selects "EchoCouncil" ⟨"EchoCouncil", "dampest", "(I)I"⟩ ⟨"EchoCouncil", "dampest", "(I)I"⟩) ∈ lw_tbl := tk_4 (List.mem_of_getElem? (i := 229) (by decide +kernel))
theorem tw_950 : (Cond.code ⟨"EchoCouncil", "dampest", "(I)I"⟩ prog_1_method_27_code 3 (some FieldType.int)) ∈ lw_tbl := tk_4 (List.mem_of_getElem? (i := 230) (by decide +kernel))
theorem tw_951 : (Cond.methodLink "EchoCouncil" 231 ⟨"EchoCouncil", "countRoomsAhead", "(I)I"⟩) ∈ lw_tbl := tk_4 (List.mem_of_getElem? (i := 231) (by decide +kernel))
theorem tw_952 : (Cond.privateMethod ⟨"EchoCouncil", "countRoomsAhead", "(I)I"⟩) ∈ lw_tbl := tk_4 (List.mem_of_getElem? (i := 232) (by decide +kernel))
theorem tw_953 : (Cond.instanceMethod ⟨"EchoCouncil", "countRoomsAhead", "(I)I"⟩) ∈ lw_tbl := tk_4 (List.mem_of_getElem? (i := 233) (by decide +kernel))
theorem tw_954 : (Cond.code ⟨"EchoCouncil", "countRoomsAhead", "(I)I"⟩ prog_1_method_63_code 4 (some FieldType.int)) ∈ lw_tbl := tk_4 (List.mem_of_getElem? (i := 234) (by decide +kernel))
theorem tw_955 : (Cond.methodLink "EchoCouncil" 497 ⟨"EchoCouncil", "isDamperThan", "(II)Z"⟩) ∈ lw_tbl := tk_4 (List.mem_of_getElem? (i := 235) (by decide +kernel))
theorem tw_956 : (Cond.privateMethod ⟨"EchoCouncil", "isDamperThan", "(II)Z"⟩) ∈ lw_tbl := tk_4 (List.mem_of_getElem? (i := 236) (by decide +kernel))
theorem tw_957 : (Cond.instanceMethod ⟨"EchoCouncil", "isDamperThan", "(II)Z"⟩) ∈ lw_tbl := tk_4 (List.mem_of_getElem? (i := 237) (by decide +kernel))
theorem tw_958 : (Cond.code ⟨"EchoCouncil", "isDamperThan", "(II)Z"⟩ prog_1_method_64_code 5 (some FieldType.boolean)) ∈ lw_tbl := tk_4 (List.mem_of_getElem? (i := 238) (by decide +kernel))
theorem tw_959 : (Cond.stringRef "EchoCouncil" 234 "no such place in the order of rooms") ∈ lw_tbl := tk_4 (List.mem_of_getElem? (i := 239) (by decide +kernel))
theorem tw_960 : (Cond.methodLink "EchoCouncilLaw" 239 ⟨"EchoCouncilLaw", "ranked", "(LEchoCouncil;II[J)I"⟩) ∈ lw_tbl := tk_5 (List.mem_of_getElem? (i := 0) (by decide +kernel))
theorem tw_961 : (Cond.static ⟨"EchoCouncilLaw", "ranked", "(LEchoCouncil;II[J)I"⟩) ∈ lw_tbl := tk_5 (List.mem_of_getElem? (i := 1) (by decide +kernel))
theorem tw_962 : (Cond.codeWith ⟨"EchoCouncilLaw", "ranked", "(LEchoCouncil;II[J)I"⟩ method_28_code 5 (some FieldType.int) [(0, 10, 13, 46), (0, 10, 17, 57)]) ∈ lw_tbl := tk_5 (List.mem_of_getElem? (i := 2) (by decide +kernel))
theorem tw_963 : (Cond.methodLink "EchoCouncilLaw" 96 ⟨"EchoCouncil", "ranked", "(II)I"⟩) ∈ lw_tbl := tk_5 (List.mem_of_getElem? (i := 3) (by decide +kernel))
theorem tw_964 : (Cond.instanceMethod ⟨"EchoCouncil", "ranked", "(II)I"⟩) ∈ lw_tbl := tk_5 (List.mem_of_getElem? (i := 4) (by decide +kernel))
theorem tw_965 : (Cond.selects "EchoCouncil" ⟨"EchoCouncil", "ranked", "(II)I"⟩ ⟨"EchoCouncil", "ranked", "(II)I"⟩) ∈ lw_tbl := tk_5 (List.mem_of_getElem? (i := 5) (by decide +kernel))
theorem tw_966 : (Cond.code ⟨"EchoCouncil", "ranked", "(II)I"⟩ prog_1_method_28_code 4 (some FieldType.int)) ∈ lw_tbl := tk_5 (List.mem_of_getElem? (i := 6) (by decide +kernel))
theorem tw_967 : (Cond.stringRef "EchoCouncil" 236 "no such order of singers") ∈ lw_tbl := tk_5 (List.mem_of_getElem? (i := 7) (by decide +kernel))
theorem tw_968 : (Cond.methodLink "EchoCouncil" 239 ⟨"EchoCouncil", "countSingersAhead", "(II)I"⟩) ∈ lw_tbl := tk_5 (List.mem_of_getElem? (i := 8) (by decide +kernel))
theorem tw_969 : (Cond.privateMethod ⟨"EchoCouncil", "countSingersAhead", "(II)I"⟩) ∈ lw_tbl := tk_5 (List.mem_of_getElem? (i := 9) (by decide +kernel))
theorem tw_970 : (Cond.instanceMethod ⟨"EchoCouncil", "countSingersAhead", "(II)I"⟩) ∈ lw_tbl := tk_5 (List.mem_of_getElem? (i := 10) (by decide +kernel))
theorem tw_971 : (Cond.code ⟨"EchoCouncil", "countSingersAhead", "(II)I"⟩ prog_1_method_65_code 7 (some FieldType.int)) ∈ lw_tbl := tk_5 (List.mem_of_getElem? (i := 11) (by decide +kernel))
theorem tw_972 : (Cond.methodLink "EchoCouncil" 500 ⟨"EchoCouncil", "rankedValue", "(II)I"⟩) ∈ lw_tbl := tk_5 (List.mem_of_getElem? (i := 12) (by decide +kernel))
theorem tw_973 : (Cond.privateMethod ⟨"EchoCouncil", "rankedValue", "(II)I"⟩) ∈ lw_tbl := tk_5 (List.mem_of_getElem? (i := 13) (by decide +kernel))
theorem tw_974 : (Cond.instanceMethod ⟨"EchoCouncil", "rankedValue", "(II)I"⟩) ∈ lw_tbl := tk_5 (List.mem_of_getElem? (i := 14) (by decide +kernel))
theorem tw_975 : (Cond.code ⟨"EchoCouncil", "rankedValue", "(II)I"⟩ prog_1_method_66_code 3 (some FieldType.int)) ∈ lw_tbl := tk_5 (List.mem_of_getElem? (i := 15) (by decide +kernel))
theorem tw_976 : (Cond.stringRef "EchoCouncil" 242 "no such place in the order of singers") ∈ lw_tbl := tk_5 (List.mem_of_getElem? (i := 16) (by decide +kernel))
theorem tw_977 : (Cond.methodLink "EchoCouncilLaw" 242 ⟨"EchoCouncilLaw", "strongest", "(LEchoCouncil;I[J)I"⟩) ∈ lw_tbl := tk_5 (List.mem_of_getElem? (i := 17) (by decide +kernel))
theorem tw_978 : (Cond.static ⟨"EchoCouncilLaw", "strongest", "(LEchoCouncil;I[J)I"⟩) ∈ lw_tbl := tk_5 (List.mem_of_getElem? (i := 18) (by decide +kernel))
theorem tw_979 : (Cond.codeWith ⟨"EchoCouncilLaw", "strongest", "(LEchoCouncil;I[J)I"⟩ method_29_code 4 (some FieldType.int) [(0, 9, 12, 57)]) ∈ lw_tbl := tk_5 (List.mem_of_getElem? (i := 19) (by decide +kernel))
theorem tw_980 : (Cond.methodLink "EchoCouncilLaw" 99 ⟨"EchoCouncil", "strongest", "(I)I"⟩) ∈ lw_tbl := tk_5 (List.mem_of_getElem? (i := 20) (by decide +kernel))
theorem tw_981 : (Cond.instanceMethod ⟨"EchoCouncil", "strongest", "(I)I"⟩) ∈ lw_tbl := tk_5 (List.mem_of_getElem? (i := 21) (by decide +kernel))
theorem tw_982 : (Cond.selects "EchoCouncil" ⟨"EchoCouncil", "strongest", "(I)I"⟩ ⟨"EchoCouncil", "strongest", "(I)I"⟩) ∈ lw_tbl := tk_5 (List.mem_of_getElem? (i := 22) (by decide +kernel))
theorem tw_983 : (Cond.code ⟨"EchoCouncil", "strongest", "(I)I"⟩ prog_1_method_29_code 3 (some FieldType.int)) ∈ lw_tbl := tk_5 (List.mem_of_getElem? (i := 23) (by decide +kernel))
theorem tw_984 : (Cond.methodLink "EchoCouncil" 245 ⟨"EchoCouncil", "countEchoesAhead", "(I)I"⟩) ∈ lw_tbl := tk_5 (List.mem_of_getElem? (i := 24) (by decide +kernel))
theorem tw_985 : (Cond.privateMethod ⟨"EchoCouncil", "countEchoesAhead", "(I)I"⟩) ∈ lw_tbl := tk_5 (List.mem_of_getElem? (i := 25) (by decide +kernel))
theorem tw_986 : (Cond.instanceMethod ⟨"EchoCouncil", "countEchoesAhead", "(I)I"⟩) ∈ lw_tbl := tk_5 (List.mem_of_getElem? (i := 26) (by decide +kernel))
theorem tw_987 : (Cond.code ⟨"EchoCouncil", "countEchoesAhead", "(I)I"⟩ prog_1_method_67_code 4 (some FieldType.int)) ∈ lw_tbl := tk_5 (List.mem_of_getElem? (i := 27) (by decide +kernel))
theorem tw_988 : (Cond.methodLink "EchoCouncil" 503 ⟨"EchoCouncil", "isStrongerThan", "(II)Z"⟩) ∈ lw_tbl := tk_5 (List.mem_of_getElem? (i := 28) (by decide +kernel))
theorem tw_989 : (Cond.privateMethod ⟨"EchoCouncil", "isStrongerThan", "(II)Z"⟩) ∈ lw_tbl := tk_5 (List.mem_of_getElem? (i := 29) (by decide +kernel))
theorem tw_990 : (Cond.instanceMethod ⟨"EchoCouncil", "isStrongerThan", "(II)Z"⟩) ∈ lw_tbl := tk_5 (List.mem_of_getElem? (i := 30) (by decide +kernel))
theorem tw_991 : (Cond.code ⟨"EchoCouncil", "isStrongerThan", "(II)Z"⟩ prog_1_method_68_code 3 (some FieldType.boolean)) ∈ lw_tbl := tk_5 (List.mem_of_getElem? (i := 31) (by decide +kernel))
theorem tw_992 : (Cond.stringRef "EchoCouncil" 248 "no such place in the order of echoes") ∈ lw_tbl := tk_5 (List.mem_of_getElem? (i := 32) (by decide +kernel))
theorem tw_993 : (Cond.methodLink "EchoCouncilLaw" 250 ⟨"EchoCouncilLaw", "append", "(LEchoCouncil;C[J)I"⟩) ∈ lw_tbl := tk_5 (List.mem_of_getElem? (i := 33) (by decide +kernel))
theorem tw_994 : (Cond.static ⟨"EchoCouncilLaw", "append", "(LEchoCouncil;C[J)I"⟩) ∈ lw_tbl := tk_5 (List.mem_of_getElem? (i := 34) (by decide +kernel))
theorem tw_995 : (Cond.codeWith ⟨"EchoCouncilLaw", "append", "(LEchoCouncil;C[J)I"⟩ method_30_code 4 (some FieldType.int) [(0, 9, 12, 46), (0, 9, 15, 106)]) ∈ lw_tbl := tk_5 (List.mem_of_getElem? (i := 35) (by decide +kernel))
theorem tw_996 : (Cond.classLink "EchoCouncilLaw" 106 "java/lang/IllegalStateException") ∈ lw_tbl := tk_5 (List.mem_of_getElem? (i := 36) (by decide +kernel))
theorem tw_997 : (Cond.methodLink "EchoCouncilLaw" 102 ⟨"EchoCouncil", "append", "(C)I"⟩) ∈ lw_tbl := tk_5 (List.mem_of_getElem? (i := 37) (by decide +kernel))
theorem tw_998 : (Cond.instanceMethod ⟨"EchoCouncil", "append", "(C)I"⟩) ∈ lw_tbl := tk_5 (List.mem_of_getElem? (i := 38) (by decide +kernel))
theorem tw_999 : (Cond.selects "EchoCouncil" ⟨"EchoCouncil", "append", "(C)I"⟩ ⟨"EchoCouncil", "append", "(C)I"⟩) ∈ lw_tbl := tk_5 (List.mem_of_getElem? (i := 39) (by decide +kernel))
theorem tw_1000 : (Cond.code ⟨"EchoCouncil", "append", "(C)I"⟩ prog_1_method_31_code 2 (some FieldType.int)) ∈ lw_tbl := tk_5 (List.mem_of_getElem? (i := 40) (by decide +kernel))
theorem tw_1001 : (Cond.stringRef "EchoCouncil" 268 "the character cannot be in the input") ∈ lw_tbl := tk_5 (List.mem_of_getElem? (i := 41) (by decide +kernel))
theorem tw_1002 : (Cond.classLink "EchoCouncil" 273 "java/lang/IllegalStateException") ∈ lw_tbl := tk_5 (List.mem_of_getElem? (i := 42) (by decide +kernel))
theorem tw_1003 : (Cond.instantiable "java/lang/IllegalStateException" 6) ∈ lw_tbl := tk_5 (List.mem_of_getElem? (i := 43) (by decide +kernel))
theorem tw_1004 : (Cond.castable "java/lang/IllegalStateException" "java/lang/IllegalStateException") ∈ lw_tbl := tk_5 (List.mem_of_getElem? (i := 44) (by decide +kernel))
theorem tw_1005 : (Cond.selects "java/lang/IllegalStateException" ⟨"java/lang/Throwable", "fillInStackTrace", "(I)Ljava/lang/Throwable;"⟩ ⟨"java/lang/Throwable", "fillInStackTrace", "(I)Ljava/lang/Throwable;"⟩) ∈ lw_tbl := tk_5 (List.mem_of_getElem? (i := 45) (by decide +kernel))
theorem tw_1006 : (Cond.lays "java/lang/IllegalStateException" "java/lang/Throwable" "cause" "Ljava/lang/Throwable;") ∈ lw_tbl := tk_5 (List.mem_of_getElem? (i := 46) (by decide +kernel))
theorem tw_1007 : (Cond.lays "java/lang/IllegalStateException" "java/lang/Throwable" "stackTrace" "[Ljava/lang/StackTraceElement;") ∈ lw_tbl := tk_5 (List.mem_of_getElem? (i := 47) (by decide +kernel))
theorem tw_1008 : (Cond.lays "java/lang/IllegalStateException" "java/lang/Throwable" "suppressedExceptions" "Ljava/util/List;") ∈ lw_tbl := tk_5 (List.mem_of_getElem? (i := 48) (by decide +kernel))
theorem tw_1009 : (Cond.lays "java/lang/IllegalStateException" "java/lang/Throwable" "detailMessage" "Ljava/lang/String;") ∈ lw_tbl := tk_5 (List.mem_of_getElem? (i := 49) (by decide +kernel))
theorem tw_1010 : (Cond.lays "java/lang/IllegalStateException" "java/lang/Throwable" "backtrace" "Ljava/lang/Object;") ∈ lw_tbl := tk_5 (List.mem_of_getElem? (i := 50) (by decide +kernel))
theorem tw_1011 : (Cond.stringRef "EchoCouncil" 275 "the input is full") ∈ lw_tbl := tk_5 (List.mem_of_getElem? (i := 51) (by decide +kernel))
theorem tw_1012 : (Cond.methodLink "EchoCouncil" 277 ⟨"java/lang/IllegalStateException", "<init>", "(Ljava/lang/String;)V"⟩) ∈ lw_tbl := tk_5 (List.mem_of_getElem? (i := 52) (by decide +kernel))
theorem tw_1013 : (Cond.instanceMethod ⟨"java/lang/IllegalStateException", "<init>", "(Ljava/lang/String;)V"⟩) ∈ lw_tbl := tk_5 (List.mem_of_getElem? (i := 53) (by decide +kernel))
theorem tw_1014 : (Cond.code ⟨"java/lang/IllegalStateException", "<init>", "(Ljava/lang/String;)V"⟩ prog_24_method_2_code 2 none) ∈ lw_tbl := tk_5 (List.mem_of_getElem? (i := 54) (by decide +kernel))
theorem tw_1015 : (Cond.methodLink "java/lang/IllegalStateException" 7 ⟨"java/lang/RuntimeException", "<init>", "(Ljava/lang/String;)V"⟩) ∈ lw_tbl := tk_5 (List.mem_of_getElem? (i := 55) (by decide +kernel))
theorem tw_1016 : (Cond.lays "java/lang/IllegalStateException" "java/lang/Throwable" "depth" "I") ∈ lw_tbl := tk_5 (List.mem_of_getElem? (i := 56) (by decide +kernel))
theorem tw_1017 : (Cond.superclass "java/lang/IllegalStateException" "java/lang/RuntimeException") ∈ lw_tbl := tk_5 (List.mem_of_getElem? (i := 57) (by decide +kernel))
theorem tw_1018 : (Cond.methodLink "EchoCouncilLaw" 254 ⟨"EchoCouncilLaw", "run", "(LEchoCouncil;[J)I"⟩) ∈ lw_tbl := tk_5 (List.mem_of_getElem? (i := 58) (by decide +kernel))
theorem tw_1019 : (Cond.static ⟨"EchoCouncilLaw", "run", "(LEchoCouncil;[J)I"⟩) ∈ lw_tbl := tk_5 (List.mem_of_getElem? (i := 59) (by decide +kernel))
theorem tw_1020 : (Cond.codeWith ⟨"EchoCouncilLaw", "run", "(LEchoCouncil;[J)I"⟩ method_31_code 3 (some FieldType.int) [(0, 8, 11, 46), (0, 8, 14, 13)]) ∈ lw_tbl := tk_5 (List.mem_of_getElem? (i := 60) (by decide +kernel))
theorem tw_1021 : (Cond.methodLink "EchoCouncilLaw" 108 ⟨"EchoCouncil", "run", "()I"⟩) ∈ lw_tbl := tk_5 (List.mem_of_getElem? (i := 61) (by decide +kernel))
theorem tw_1022 : (Cond.instanceMethod ⟨"EchoCouncil", "run", "()I"⟩) ∈ lw_tbl := tk_5 (List.mem_of_getElem? (i := 62) (by decide +kernel))
theorem tw_1023 : (Cond.selects "EchoCouncil" ⟨"EchoCouncil", "run", "()I"⟩ ⟨"EchoCouncil", "run", "()I"⟩) ∈ lw_tbl := tk_5 (List.mem_of_getElem? (i := 63) (by decide +kernel))
theorem tw_1024 : (Cond.code ⟨"EchoCouncil", "run", "()I"⟩ prog_1_method_32_code 1 (some FieldType.int)) ∈ lw_tbl := tk_5 (List.mem_of_getElem? (i := 64) (by decide +kernel))
theorem tw_1025 : (Cond.methodLink "EchoCouncil" 282 ⟨"EchoCouncil$OrderText", "readAll", "()V"⟩) ∈ lw_tbl := tk_5 (List.mem_of_getElem? (i := 65) (by decide +kernel))
theorem tw_1026 : (Cond.instanceMethod ⟨"EchoCouncil$OrderText", "readAll", "()V"⟩) ∈ lw_tbl := tk_5 (List.mem_of_getElem? (i := 66) (by decide +kernel))
theorem tw_1027 : (Cond.selects "EchoCouncil$OrderText" ⟨"EchoCouncil$OrderText", "readAll", "()V"⟩ ⟨"EchoCouncil$OrderText", "readAll", "()V"⟩) ∈ lw_tbl := tk_5 (List.mem_of_getElem? (i := 67) (by decide +kernel))
theorem tw_1028 : (Cond.code ⟨"EchoCouncil$OrderText", "readAll", "()V"⟩ prog_5_method_2_code 1 none) ∈ lw_tbl := tk_5 (List.mem_of_getElem? (i := 68) (by decide +kernel))
theorem tw_1029 : (Cond.methodLink "EchoCouncil$OrderText" 40 ⟨"EchoCouncil$OrderText", "readsOrder", "(I)Z"⟩) ∈ lw_tbl := tk_5 (List.mem_of_getElem? (i := 69) (by decide +kernel))
theorem tw_1030 : (Cond.instanceMethod ⟨"EchoCouncil$OrderText", "readsOrder", "(I)Z"⟩) ∈ lw_tbl := tk_5 (List.mem_of_getElem? (i := 70) (by decide +kernel))
theorem tw_1031 : (Cond.selects "EchoCouncil$OrderText" ⟨"EchoCouncil$OrderText", "readsOrder", "(I)Z"⟩ ⟨"EchoCouncil$OrderText", "readsOrder", "(I)Z"⟩) ∈ lw_tbl := tk_5 (List.mem_of_getElem? (i := 71) (by decide +kernel))
theorem tw_1032 : (Cond.code ⟨"EchoCouncil$OrderText", "readsOrder", "(I)Z"⟩ prog_5_method_3_code 4 (some FieldType.boolean)) ∈ lw_tbl := tk_5 (List.mem_of_getElem? (i := 72) (by decide +kernel))
theorem tw_1033 : (Cond.fieldLinkNest "EchoCouncil$OrderText" 51 "EchoCouncil" "KINDS" "[LEchoCouncil$OrderKind;" "EchoCouncil") ∈ lw_tbl := tk_5 (List.mem_of_getElem? (i := 73) (by decide +kernel))
theorem tw_1034 : (Cond.laysStatic "EchoCouncil" "KINDS" "[LEchoCouncil$OrderKind;") ∈ lw_tbl := tk_5 (List.mem_of_getElem? (i := 74) (by decide +kernel))
theorem tw_1035 : (Cond.methodLink "EchoCouncil$OrderText" 58 ⟨"EchoCouncil$OrderText", "countSame", "(Ljava/lang/String;)I"⟩) ∈ lw_tbl := tk_5 (List.mem_of_getElem? (i := 75) (by decide +kernel))
theorem tw_1036 : (Cond.instanceMethod ⟨"EchoCouncil$OrderText", "countSame", "(Ljava/lang/String;)I"⟩) ∈ lw_tbl := tk_5 (List.mem_of_getElem? (i := 76) (by decide +kernel))
theorem tw_1037 : (Cond.selects "EchoCouncil$OrderText" ⟨"EchoCouncil$OrderText", "countSame", "(Ljava/lang/String;)I"⟩ ⟨"EchoCouncil$OrderText", "countSame", "(Ljava/lang/String;)I"⟩) ∈ lw_tbl := tk_5 (List.mem_of_getElem? (i := 77) (by decide +kernel))
theorem tw_1038 : (Cond.code ⟨"EchoCouncil$OrderText", "countSame", "(Ljava/lang/String;)I"⟩ prog_5_method_5_code 3 (some FieldType.int)) ∈ lw_tbl := tk_5 (List.mem_of_getElem? (i := 78) (by decide +kernel))
theorem tw_1039 : (Cond.methodLink "EchoCouncil$OrderText" 62 ⟨"java/lang/String", "length", "()I"⟩) ∈ lw_tbl := tk_5 (List.mem_of_getElem? (i := 79) (by decide +kernel))
theorem tw_1040 : (Cond.instanceMethod ⟨"java/lang/String", "length", "()I"⟩) ∈ lw_tbl := tk_5 (List.mem_of_getElem? (i := 80) (by decide +kernel))
theorem tw_1041 : (Cond.selects "java/lang/String" ⟨"java/lang/String", "length", "()I"⟩ ⟨"java/lang/String", "length", "()I"⟩) ∈ lw_tbl := tk_5 (List.mem_of_getElem? (i := 81) (by decide +kernel))
theorem tw_1042 : (Cond.code ⟨"java/lang/String", "length", "()I"⟩ prog_30_method_54_code 1 (some FieldType.int)) ∈ lw_tbl := tk_5 (List.mem_of_getElem? (i := 82) (by decide +kernel))
theorem tw_1043 : (Cond.methodLink "java/lang/String" 335 ⟨"java/lang/String", "coder", "()B"⟩) ∈ lw_tbl := tk_5 (List.mem_of_getElem? (i := 83) (by decide +kernel))
theorem tw_1044 : (Cond.instanceMethod ⟨"java/lang/String", "coder", "()B"⟩) ∈ lw_tbl := tk_5 (List.mem_of_getElem? (i := 84) (by decide +kernel))
theorem tw_1045 : (Cond.selects "java/lang/String" ⟨"java/lang/String", "coder", "()B"⟩ ⟨"java/lang/String", "coder", "()B"⟩) ∈ lw_tbl := tk_5 (List.mem_of_getElem? (i := 85) (by decide +kernel))
theorem tw_1046 : (Cond.code ⟨"java/lang/String", "coder", "()B"⟩ prog_30_method_152_code 1 (some FieldType.byte)) ∈ lw_tbl := tk_5 (List.mem_of_getElem? (i := 86) (by decide +kernel))
theorem tw_1047 : (Cond.fieldLink "java/lang/String" 38 "java/lang/String" "COMPACT_STRINGS" "Z") ∈ lw_tbl := tk_5 (List.mem_of_getElem? (i := 87) (by decide +kernel))
theorem tw_1048 : (Cond.methodLink "EchoCouncil$OrderText" 80 ⟨"java/lang/String", "charAt", "(I)C"⟩) ∈ lw_tbl := tk_5 (List.mem_of_getElem? (i := 88) (by decide +kernel))
theorem tw_1049 : (Cond.instanceMethod ⟨"java/lang/String", "charAt", "(I)C"⟩) ∈ lw_tbl := tk_5 (List.mem_of_getElem? (i := 89) (by decide +kernel))
theorem tw_1050 : (Cond.selects "java/lang/String" ⟨"java/lang/String", "charAt", "(I)C"⟩ ⟨"java/lang/String", "charAt", "(I)C"⟩) ∈ lw_tbl := tk_5 (List.mem_of_getElem? (i := 90) (by decide +kernel))
theorem tw_1051 : (Cond.code ⟨"java/lang/String", "charAt", "(I)C"⟩ prog_30_method_56_code 2 (some FieldType.char)) ∈ lw_tbl := tk_5 (List.mem_of_getElem? (i := 91) (by decide +kernel))
theorem tw_1052 : (Cond.methodLink "java/lang/String" 492 ⟨"java/lang/String", "isLatin1", "()Z"⟩) ∈ lw_tbl := tk_5 (List.mem_of_getElem? (i := 92) (by decide +kernel))
theorem tw_1053 : (Cond.instanceMethod ⟨"java/lang/String", "isLatin1", "()Z"⟩) ∈ lw_tbl := tk_5 (List.mem_of_getElem? (i := 93) (by decide +kernel))
theorem tw_1054 : (Cond.selects "java/lang/String" ⟨"java/lang/String", "isLatin1", "()Z"⟩ ⟨"java/lang/String", "isLatin1", "()Z"⟩) ∈ lw_tbl := tk_5 (List.mem_of_getElem? (i := 94) (by decide +kernel))
theorem tw_1055 : (Cond.code ⟨"java/lang/String", "isLatin1", "()Z"⟩ prog_30_method_154_code 1 (some FieldType.boolean)) ∈ lw_tbl := tk_5 (List.mem_of_getElem? (i := 95) (by decide +kernel))
theorem tw_1056 : (Cond.methodLink "java/lang/String" 495 ⟨"java/lang/StringLatin1", "charAt", "([BI)C"⟩) ∈ lw_tbl := tk_5 (List.mem_of_getElem? (i := 96) (by decide +kernel))
theorem tw_1057 : (Cond.static ⟨"java/lang/StringLatin1", "charAt", "([BI)C"⟩) ∈ lw_tbl := tk_5 (List.mem_of_getElem? (i := 97) (by decide +kernel))
theorem tw_1058 : (Cond.code ⟨"java/lang/StringLatin1", "charAt", "([BI)C"⟩ prog_33_method_2_code 2 (some FieldType.char)) ∈ lw_tbl := tk_5 (List.mem_of_getElem? (i := 98) (by decide +kernel))
theorem tw_1059 : (Cond.methodLink "java/lang/StringLatin1" 9 ⟨"java/lang/String", "checkIndex", "(II)V"⟩) ∈ lw_tbl := tk_5 (List.mem_of_getElem? (i := 99) (by decide +kernel))
theorem tw_1060 : (Cond.static ⟨"java/lang/String", "checkIndex", "(II)V"⟩) ∈ lw_tbl := tk_5 (List.mem_of_getElem? (i := 100) (by decide +kernel))
theorem tw_1061 : (Cond.code ⟨"java/lang/String", "checkIndex", "(II)V"⟩ prog_30_method_155_code 2 none) ∈ lw_tbl := tk_5 (List.mem_of_getElem? (i := 101) (by decide +kernel))
theorem tw_1062 : (Cond.fieldLink "java/lang/String" 1053 "jdk/internal/util/Preconditions" "SIOOBE_FORMATTER" "Ljava/util/function/BiFunction;") ∈ lw_tbl := tk_5 (List.mem_of_getElem? (i := 102) (by decide +kernel))
theorem tw_1063 : (Cond.laysStatic "jdk/internal/util/Preconditions" "SIOOBE_FORMATTER" "Ljava/util/function/BiFunction;") ∈ lw_tbl := tk_5 (List.mem_of_getElem? (i := 103) (by decide +kernel))
theorem tw_1064 : (Cond.methodLink "java/lang/String" 1059 ⟨"jdk/internal/util/Preconditions", "checkIndex", "(IILjava/util/function/BiFunction;)I"⟩) ∈ lw_tbl := tk_5 (List.mem_of_getElem? (i := 104) (by decide +kernel))
theorem tw_1065 : (Cond.static ⟨"jdk/internal/util/Preconditions", "checkIndex", "(IILjava/util/function/BiFunction;)I"⟩) ∈ lw_tbl := tk_5 (List.mem_of_getElem? (i := 105) (by decide +kernel))
theorem tw_1066 : (Cond.code ⟨"jdk/internal/util/Preconditions", "checkIndex", "(IILjava/util/function/BiFunction;)I"⟩ prog_43_method_11_code 3 (some FieldType.int)) ∈ lw_tbl := tk_5 (List.mem_of_getElem? (i := 106) (by decide +kernel))
theorem tw_1067 : (Cond.methodLink "java/lang/String" 498 ⟨"java/lang/StringUTF16", "charAt", "([BI)C"⟩) ∈ lw_tbl := tk_5 (List.mem_of_getElem? (i := 107) (by decide +kernel))
theorem tw_1068 : (Cond.static ⟨"java/lang/StringUTF16", "charAt", "([BI)C"⟩) ∈ lw_tbl := tk_5 (List.mem_of_getElem? (i := 108) (by decide +kernel))
theorem tw_1069 : (Cond.code ⟨"java/lang/StringUTF16", "charAt", "([BI)C"⟩ prog_34_method_83_code 2 (some FieldType.char)) ∈ lw_tbl := tk_5 (List.mem_of_getElem? (i := 109) (by decide +kernel))
theorem tw_1070 : (Cond.methodLink "java/lang/StringUTF16" 67 ⟨"java/lang/StringUTF16", "checkIndex", "(I[B)V"⟩) ∈ lw_tbl := tk_5 (List.mem_of_getElem? (i := 110) (by decide +kernel))
theorem tw_1071 : (Cond.static ⟨"java/lang/StringUTF16", "checkIndex", "(I[B)V"⟩) ∈ lw_tbl := tk_5 (List.mem_of_getElem? (i := 111) (by decide +kernel))
theorem tw_1072 : (Cond.code ⟨"java/lang/StringUTF16", "checkIndex", "(I[B)V"⟩ prog_34_method_91_code 2 none) ∈ lw_tbl := tk_5 (List.mem_of_getElem? (i := 112) (by decide +kernel))
theorem tw_1073 : (Cond.methodLink "java/lang/StringUTF16" 48 ⟨"java/lang/StringUTF16", "length", "([B)I"⟩) ∈ lw_tbl := tk_5 (List.mem_of_getElem? (i := 113) (by decide +kernel))
theorem tw_1074 : (Cond.static ⟨"java/lang/StringUTF16", "length", "([B)I"⟩) ∈ lw_tbl := tk_5 (List.mem_of_getElem? (i := 114) (by decide +kernel))
theorem tw_1075 : (Cond.code ⟨"java/lang/StringUTF16", "length", "([B)I"⟩ prog_34_method_6_code 1 (some FieldType.int)) ∈ lw_tbl := tk_5 (List.mem_of_getElem? (i := 115) (by decide +kernel))
theorem tw_1076 : (Cond.methodLink "java/lang/StringUTF16" 414 ⟨"java/lang/String", "checkIndex", "(II)V"⟩) ∈ lw_tbl := tk_5 (List.mem_of_getElem? (i := 116) (by decide +kernel))
theorem tw_1077 : (Cond.methodLink "java/lang/StringUTF16" 71 ⟨"java/lang/StringUTF16", "getChar", "([BI)C"⟩) ∈ lw_tbl := tk_5 (List.mem_of_getElem? (i := 117) (by decide +kernel))
theorem tw_1078 : (Cond.static ⟨"java/lang/StringUTF16", "getChar", "([BI)C"⟩) ∈ lw_tbl := tk_5 (List.mem_of_getElem? (i := 118) (by decide +kernel))
theorem tw_1079 : (Cond.code ⟨"java/lang/StringUTF16", "getChar", "([BI)C"⟩ prog_34_method_5_code 2 (some FieldType.char)) ∈ lw_tbl := tk_5 (List.mem_of_getElem? (i := 119) (by decide +kernel))
theorem tw_1080 : (Cond.fieldLink "java/lang/StringUTF16" 44 "java/lang/StringUTF16" "$assertionsDisabled" "Z") ∈ lw_tbl := tk_5 (List.mem_of_getElem? (i := 120) (by decide +kernel))
theorem tw_1081 : (Cond.laysStatic "java/lang/StringUTF16" "$assertionsDisabled" "Z") ∈ lw_tbl := tk_5 (List.mem_of_getElem? (i := 121) (by decide +kernel))
theorem tw_1082 : (Cond.fieldLink "java/lang/StringUTF16" 59 "java/lang/StringUTF16" "HI_BYTE_SHIFT" "I") ∈ lw_tbl := tk_5 (List.mem_of_getElem? (i := 122) (by decide +kernel))
theorem tw_1083 : (Cond.laysStatic "java/lang/StringUTF16" "HI_BYTE_SHIFT" "I") ∈ lw_tbl := tk_5 (List.mem_of_getElem? (i := 123) (by decide +kernel))
theorem tw_1084 : (Cond.fieldLink "java/lang/StringUTF16" 63 "java/lang/StringUTF16" "LO_BYTE_SHIFT" "I") ∈ lw_tbl := tk_5 (List.mem_of_getElem? (i := 124) (by decide +kernel))
theorem tw_1085 : (Cond.laysStatic "java/lang/StringUTF16" "LO_BYTE_SHIFT" "I") ∈ lw_tbl := tk_5 (List.mem_of_getElem? (i := 125) (by decide +kernel))
theorem tw_1086 : (Cond.methodLink "EchoCouncil$OrderText" 67 ⟨"EchoCouncil$OrderText", "readsNumbers", "(LEchoCouncil$OrderKind;[I)Z"⟩) ∈ lw_tbl := tk_5 (List.mem_of_getElem? (i := 126) (by decide +kernel))
theorem tw_1087 : (Cond.instanceMethod ⟨"EchoCouncil$OrderText", "readsNumbers", "(LEchoCouncil$OrderKind;[I)Z"⟩) ∈ lw_tbl := tk_5 (List.mem_of_getElem? (i := 127) (by decide +kernel))
theorem tw_1088 : (Cond.selects "EchoCouncil$OrderText" ⟨"EchoCouncil$OrderText", "readsNumbers", "(LEchoCouncil$OrderKind;[I)Z"⟩ ⟨"EchoCouncil$OrderText", "readsNumbers", "(LEchoCouncil$OrderKind;[I)Z"⟩) ∈ lw_tbl := tk_5 (List.mem_of_getElem? (i := 128) (by decide +kernel))
theorem tw_1089 : (Cond.code ⟨"EchoCouncil$OrderText", "readsNumbers", "(LEchoCouncil$OrderKind;[I)Z"⟩ prog_5_method_6_code 4 (some FieldType.boolean)) ∈ lw_tbl := tk_5 (List.mem_of_getElem? (i := 129) (by decide +kernel))
theorem tw_1090 : (Cond.methodLink "EchoCouncil$OrderText" 47 ⟨"EchoCouncil$OrderText", "readsSign", "(C)Z"⟩) ∈ lw_tbl := tk_5 (List.mem_of_getElem? (i := 130) (by decide +kernel))
theorem tw_1091 : (Cond.instanceMethod ⟨"EchoCouncil$OrderText", "readsSign", "(C)Z"⟩) ∈ lw_tbl := tk_5 (List.mem_of_getElem? (i := 131) (by decide +kernel))
theorem tw_1092 : (Cond.selects "EchoCouncil$OrderText" ⟨"EchoCouncil$OrderText", "readsSign", "(C)Z"⟩ ⟨"EchoCouncil$OrderText", "readsSign", "(C)Z"⟩) ∈ lw_tbl := tk_5 (List.mem_of_getElem? (i := 132) (by decide +kernel))
theorem tw_1093 : (Cond.code ⟨"EchoCouncil$OrderText", "readsSign", "(C)Z"⟩ prog_5_method_7_code 2 (some FieldType.boolean)) ∈ lw_tbl := tk_5 (List.mem_of_getElem? (i := 133) (by decide +kernel))
theorem tw_1094 : (Cond.methodLink "EchoCouncil$OrderText" 86 ⟨"EchoCouncil$OrderText", "isAtDigit", "()Z"⟩) ∈ lw_tbl := tk_5 (List.mem_of_getElem? (i := 134) (by decide +kernel))
theorem tw_1095 : (Cond.instanceMethod ⟨"EchoCouncil$OrderText", "isAtDigit", "()Z"⟩) ∈ lw_tbl := tk_5 (List.mem_of_getElem? (i := 135) (by decide +kernel))
theorem tw_1096 : (Cond.selects "EchoCouncil$OrderText" ⟨"EchoCouncil$OrderText", "isAtDigit", "()Z"⟩ ⟨"EchoCouncil$OrderText", "isAtDigit", "()Z"⟩) ∈ lw_tbl := tk_5 (List.mem_of_getElem? (i := 136) (by decide +kernel))
theorem tw_1097 : (Cond.code ⟨"EchoCouncil$OrderText", "isAtDigit", "()Z"⟩ prog_5_method_8_code 1 (some FieldType.boolean)) ∈ lw_tbl := tk_5 (List.mem_of_getElem? (i := 137) (by decide +kernel))
theorem tw_1098 : (Cond.methodLink "EchoCouncil$OrderText" 90 ⟨"EchoCouncil$OrderText", "readDigit", "()I"⟩) ∈ lw_tbl := tk_5 (List.mem_of_getElem? (i := 138) (by decide +kernel))
theorem tw_1099 : (Cond.instanceMethod ⟨"EchoCouncil$OrderText", "readDigit", "()I"⟩) ∈ lw_tbl := tk_5 (List.mem_of_getElem? (i := 139) (by decide +kernel))
theorem tw_1100 : (Cond.selects "EchoCouncil$OrderText" ⟨"EchoCouncil$OrderText", "readDigit", "()I"⟩ ⟨"EchoCouncil$OrderText", "readDigit", "()I"⟩) ∈ lw_tbl := tk_5 (List.mem_of_getElem? (i := 140) (by decide +kernel))
theorem tw_1101 : (Cond.code ⟨"EchoCouncil$OrderText", "readDigit", "()I"⟩ prog_5_method_9_code 2 (some FieldType.int)) ∈ lw_tbl := tk_5 (List.mem_of_getElem? (i := 141) (by decide +kernel))
theorem tw_1102 : (Cond.methodLink "EchoCouncil$OrderText" 71 ⟨"EchoCouncil$OrderText", "longestStart", "()I"⟩) ∈ lw_tbl := tk_5 (List.mem_of_getElem? (i := 142) (by decide +kernel))
theorem tw_1103 : (Cond.instanceMethod ⟨"EchoCouncil$OrderText", "longestStart", "()I"⟩) ∈ lw_tbl := tk_5 (List.mem_of_getElem? (i := 143) (by decide +kernel))
theorem tw_1104 : (Cond.selects "EchoCouncil$OrderText" ⟨"EchoCouncil$OrderText", "longestStart", "()I"⟩ ⟨"EchoCouncil$OrderText", "longestStart", "()I"⟩) ∈ lw_tbl := tk_5 (List.mem_of_getElem? (i := 144) (by decide +kernel))
theorem tw_1105 : (Cond.code ⟨"EchoCouncil$OrderText", "longestStart", "()I"⟩ prog_5_method_4_code 3 (some FieldType.int)) ∈ lw_tbl := tk_5 (List.mem_of_getElem? (i := 145) (by decide +kernel))
theorem tw_1106 : (Cond.methodLink "EchoCouncil$OrderText" 74 ⟨"java/lang/Math", "max", "(II)I"⟩) ∈ lw_tbl := tk_5 (List.mem_of_getElem? (i := 146) (by decide +kernel))
theorem tw_1107 : (Cond.stringRef "EchoCouncil" 288 "the text has a fault") ∈ lw_tbl := tk_5 (List.mem_of_getElem? (i := 147) (by decide +kernel))
theorem tw_1108 : (Cond.methodLink "EchoCouncil" 290 ⟨"EchoCouncil", "doesAllOrders", "()Z"⟩) ∈ lw_tbl := tk_5 (List.mem_of_getElem? (i := 148) (by decide +kernel))
theorem tw_1109 : (Cond.privateMethod ⟨"EchoCouncil", "doesAllOrders", "()Z"⟩) ∈ lw_tbl := tk_5 (List.mem_of_getElem? (i := 149) (by decide +kernel))
theorem tw_1110 : (Cond.instanceMethod ⟨"EchoCouncil", "doesAllOrders", "()Z"⟩) ∈ lw_tbl := tk_5 (List.mem_of_getElem? (i := 150) (by decide +kernel))
theorem tw_1111 : (Cond.code ⟨"EchoCouncil", "doesAllOrders", "()Z"⟩ prog_1_method_50_code 3 (some FieldType.boolean)) ∈ lw_tbl := tk_5 (List.mem_of_getElem? (i := 151) (by decide +kernel))
theorem tw_1112 : (Cond.methodLink "EchoCouncil" 427 ⟨"EchoCouncil$Refusal", "putBehind", "(II)V"⟩) ∈ lw_tbl := tk_5 (List.mem_of_getElem? (i := 152) (by decide +kernel))
theorem tw_1113 : (Cond.instanceMethod ⟨"EchoCouncil$Refusal", "putBehind", "(II)V"⟩) ∈ lw_tbl := tk_5 (List.mem_of_getElem? (i := 153) (by decide +kernel))
theorem tw_1114 : (Cond.selects "EchoCouncil$Refusal" ⟨"EchoCouncil$Refusal", "putBehind", "(II)V"⟩ ⟨"EchoCouncil$Refusal", "putBehind", "(II)V"⟩) ∈ lw_tbl := tk_5 (List.mem_of_getElem? (i := 154) (by decide +kernel))
theorem tw_1115 : (Cond.code ⟨"EchoCouncil$Refusal", "putBehind", "(II)V"⟩ prog_7_method_3_code 3 none) ∈ lw_tbl := tk_5 (List.mem_of_getElem? (i := 155) (by decide +kernel))
theorem tw_1116 : (Cond.stringRef "EchoCouncil" 296 "an order is refused") ∈ lw_tbl := tk_5 (List.mem_of_getElem? (i := 156) (by decide +kernel))
theorem tw_1117 : (Cond.methodLink "EchoCouncilLaw" 262 ⟨"EchoCouncilLaw", "reason", "(LEchoCouncil;IZ[J)I"⟩) ∈ lw_tbl := tk_5 (List.mem_of_getElem? (i := 157) (by decide +kernel))
theorem tw_1118 : (Cond.static ⟨"EchoCouncilLaw", "reason", "(LEchoCouncil;IZ[J)I"⟩) ∈ lw_tbl := tk_5 (List.mem_of_getElem? (i := 158) (by decide +kernel))
theorem tw_1119 : (Cond.codeWith ⟨"EchoCouncilLaw", "reason", "(LEchoCouncil;IZ[J)I"⟩ method_32_code 5 (some FieldType.int) [(0, 10, 13, 46), (0, 10, 17, 57)]) ∈ lw_tbl := tk_5 (List.mem_of_getElem? (i := 159) (by decide +kernel))
theorem tw_1120 : (Cond.methodLink "EchoCouncilLaw" 112 ⟨"EchoCouncil", "reason", "(IZ)I"⟩) ∈ lw_tbl := tk_5 (List.mem_of_getElem? (i := 160) (by decide +kernel))
theorem tw_1121 : (Cond.instanceMethod ⟨"EchoCouncil", "reason", "(IZ)I"⟩) ∈ lw_tbl := tk_5 (List.mem_of_getElem? (i := 161) (by decide +kernel))
theorem tw_1122 : (Cond.selects "EchoCouncil" ⟨"EchoCouncil", "reason", "(IZ)I"⟩ ⟨"EchoCouncil", "reason", "(IZ)I"⟩) ∈ lw_tbl := tk_5 (List.mem_of_getElem? (i := 162) (by decide +kernel))
theorem tw_1123 : (Cond.code ⟨"EchoCouncil", "reason", "(IZ)I"⟩ prog_1_method_34_code 3 (some FieldType.int)) ∈ lw_tbl := tk_5 (List.mem_of_getElem? (i := 163) (by decide +kernel))
theorem tw_1124 : (Cond.stringRef "EchoCouncil" 302 "no such depth") ∈ lw_tbl := tk_5 (List.mem_of_getElem? (i := 164) (by decide +kernel))
theorem tw_1125 : (Cond.stringRef "EchoCouncil" 308 "nothing was refused") ∈ lw_tbl := tk_5 (List.mem_of_getElem? (i := 165) (by decide +kernel))
theorem tw_1126 : (Cond.stringRef "EchoCouncil" 319 "there is no cause") ∈ lw_tbl := tk_5 (List.mem_of_getElem? (i := 166) (by decide +kernel))
theorem tw_1127 : (Cond.methodLink "EchoCouncilLaw" 266 ⟨"EchoCouncilLaw", "tellRoom", "(LEchoCouncil;I[J)I"⟩) ∈ lw_tbl := tk_5 (List.mem_of_getElem? (i := 167) (by decide +kernel))
theorem tw_1128 : (Cond.static ⟨"EchoCouncilLaw", "tellRoom", "(LEchoCouncil;I[J)I"⟩) ∈ lw_tbl := tk_5 (List.mem_of_getElem? (i := 168) (by decide +kernel))
theorem tw_1129 : (Cond.codeWith ⟨"EchoCouncilLaw", "tellRoom", "(LEchoCouncil;I[J)I"⟩ method_33_code 4 (some FieldType.int) [(0, 9, 12, 44)]) ∈ lw_tbl := tk_5 (List.mem_of_getElem? (i := 169) (by decide +kernel))
theorem tw_1130 : (Cond.methodLink "EchoCouncilLaw" 116 ⟨"EchoCouncil", "tellRoom", "(I)I"⟩) ∈ lw_tbl := tk_5 (List.mem_of_getElem? (i := 170) (by decide +kernel))
theorem tw_1131 : (Cond.instanceMethod ⟨"EchoCouncil", "tellRoom", "(I)I"⟩) ∈ lw_tbl := tk_5 (List.mem_of_getElem? (i := 171) (by decide +kernel))
theorem tw_1132 : (Cond.selects "EchoCouncil" ⟨"EchoCouncil", "tellRoom", "(I)I"⟩ ⟨"EchoCouncil", "tellRoom", "(I)I"⟩) ∈ lw_tbl := tk_5 (List.mem_of_getElem? (i := 172) (by decide +kernel))
theorem tw_1133 : (Cond.code ⟨"EchoCouncil", "tellRoom", "(I)I"⟩ prog_1_method_35_code 2 (some FieldType.int)) ∈ lw_tbl := tk_5 (List.mem_of_getElem? (i := 173) (by decide +kernel))
theorem tw_1134 : (Cond.methodLink "EchoCouncil" 327 ⟨"java/lang/StringBuilder", "setLength", "(I)V"⟩) ∈ lw_tbl := tk_5 (List.mem_of_getElem? (i := 174) (by decide +kernel))
theorem tw_1135 : (Cond.instanceMethod ⟨"java/lang/StringBuilder", "setLength", "(I)V"⟩) ∈ lw_tbl := tk_5 (List.mem_of_getElem? (i := 175) (by decide +kernel))
theorem tw_1136 : (Cond.selects "java/lang/StringBuilder" ⟨"java/lang/StringBuilder", "setLength", "(I)V"⟩ ⟨"java/lang/StringBuilder", "setLength", "(I)V"⟩) ∈ lw_tbl := tk_5 (List.mem_of_getElem? (i := 176) (by decide +kernel))
theorem tw_1137 : (Cond.code ⟨"java/lang/StringBuilder", "setLength", "(I)V"⟩ prog_31_method_89_code 2 none) ∈ lw_tbl := tk_5 (List.mem_of_getElem? (i := 177) (by decide +kernel))
theorem tw_1138 : (Cond.methodLink "java/lang/StringBuilder" 333 ⟨"java/lang/AbstractStringBuilder", "setLength", "(I)V"⟩) ∈ lw_tbl := tk_5 (List.mem_of_getElem? (i := 178) (by decide +kernel))
theorem tw_1139 : (Cond.instanceMethod ⟨"java/lang/AbstractStringBuilder", "setLength", "(I)V"⟩) ∈ lw_tbl := tk_5 (List.mem_of_getElem? (i := 179) (by decide +kernel))
theorem tw_1140 : (Cond.code ⟨"java/lang/AbstractStringBuilder", "setLength", "(I)V"⟩ prog_14_method_13_code 2 none) ∈ lw_tbl := tk_5 (List.mem_of_getElem? (i := 180) (by decide +kernel))
theorem tw_1141 : (Cond.classLink "java/lang/AbstractStringBuilder" 129 "java/lang/StringIndexOutOfBoundsException") ∈ lw_tbl := tk_5 (List.mem_of_getElem? (i := 181) (by decide +kernel))
theorem tw_1142 : (Cond.instantiable "java/lang/StringIndexOutOfBoundsException" 6) ∈ lw_tbl := tk_5 (List.mem_of_getElem? (i := 182) (by decide +kernel))
theorem tw_1143 : (Cond.methodLink "java/lang/AbstractStringBuilder" 131 ⟨"java/lang/StringIndexOutOfBoundsException", "<init>", "(I)V"⟩) ∈ lw_tbl := tk_5 (List.mem_of_getElem? (i := 183) (by decide +kernel))
theorem tw_1144 : (Cond.instanceMethod ⟨"java/lang/StringIndexOutOfBoundsException", "<init>", "(I)V"⟩) ∈ lw_tbl := tk_5 (List.mem_of_getElem? (i := 184) (by decide +kernel))
theorem tw_1145 : (Cond.code ⟨"java/lang/StringIndexOutOfBoundsException", "<init>", "(I)V"⟩ prog_32_method_3_code 2 none) ∈ lw_tbl := tk_5 (List.mem_of_getElem? (i := 185) (by decide +kernel))
theorem tw_1146 : (Cond.classLink "java/lang/StringIndexOutOfBoundsException" 10 "java/lang/StringBuilder") ∈ lw_tbl := tk_5 (List.mem_of_getElem? (i := 186) (by decide +kernel))
theorem tw_1147 : (Cond.methodLink "java/lang/StringIndexOutOfBoundsException" 12 ⟨"java/lang/StringBuilder", "<init>", "()V"⟩) ∈ lw_tbl := tk_5 (List.mem_of_getElem? (i := 187) (by decide +kernel))
theorem tw_1148 : (Cond.stringRef "java/lang/StringIndexOutOfBoundsException" 13 "String index out of range: ") ∈ lw_tbl := tk_5 (List.mem_of_getElem? (i := 188) (by decide +kernel))
theorem tw_1149 : (Cond.methodLink "java/lang/StringIndexOutOfBoundsException" 15 ⟨"java/lang/StringBuilder", "append", "(Ljava/lang/String;)Ljava/lang/StringBuilder;"⟩) ∈ lw_tbl := tk_5 (List.mem_of_getElem? (i := 189) (by decide +kernel))
theorem tw_1150 : (Cond.instanceMethod ⟨"java/lang/StringBuilder", "append", "(Ljava/lang/String;)Ljava/lang/StringBuilder;"⟩) ∈ lw_tbl := tk_5 (List.mem_of_getElem? (i := 190) (by decide +kernel))
theorem tw_1151 : (Cond.selects "java/lang/StringBuilder" ⟨"java/lang/StringBuilder", "append", "(Ljava/lang/String;)Ljava/lang/StringBuilder;"⟩ ⟨"java/lang/StringBuilder", "append", "(Ljava/lang/String;)Ljava/lang/StringBuilder;"⟩) ∈ lw_tbl := tk_5 (List.mem_of_getElem? (i := 191) (by decide +kernel))
theorem tw_1152 : (Cond.code ⟨"java/lang/StringBuilder", "append", "(Ljava/lang/String;)Ljava/lang/StringBuilder;"⟩ prog_31_method_7_code 2 (Option.some (FieldType.object "java/lang/StringBuilder"))) ∈ lw_tbl := tk_5 (List.mem_of_getElem? (i := 192) (by decide +kernel))
theorem tw_1153 : (Cond.methodLink "java/lang/StringBuilder" 29 ⟨"java/lang/AbstractStringBuilder", "append", "(Ljava/lang/String;)Ljava/lang/AbstractStringBuilder;"⟩) ∈ lw_tbl := tk_5 (List.mem_of_getElem? (i := 193) (by decide +kernel))
theorem tw_1154 : (Cond.instanceMethod ⟨"java/lang/AbstractStringBuilder", "append", "(Ljava/lang/String;)Ljava/lang/AbstractStringBuilder;"⟩) ∈ lw_tbl := tk_5 (List.mem_of_getElem? (i := 194) (by decide +kernel))
theorem tw_1155 : (Cond.code ⟨"java/lang/AbstractStringBuilder", "append", "(Ljava/lang/String;)Ljava/lang/AbstractStringBuilder;"⟩ prog_14_method_22_code 3 (Option.some (FieldType.object "java/lang/AbstractStringBuilder"))) ∈ lw_tbl := tk_5 (List.mem_of_getElem? (i := 195) (by decide +kernel))
theorem tw_1156 : (Cond.methodLink "java/lang/AbstractStringBuilder" 204 ⟨"java/lang/AbstractStringBuilder", "appendNull", "()Ljava/lang/AbstractStringBuilder;"⟩) ∈ lw_tbl := tk_5 (List.mem_of_getElem? (i := 196) (by decide +kernel))
theorem tw_1157 : (Cond.privateMethod ⟨"java/lang/AbstractStringBuilder", "appendNull", "()Ljava/lang/AbstractStringBuilder;"⟩) ∈ lw_tbl := tk_5 (List.mem_of_getElem? (i := 197) (by decide +kernel))
theorem tw_1158 : (Cond.instanceMethod ⟨"java/lang/AbstractStringBuilder", "appendNull", "()Ljava/lang/AbstractStringBuilder;"⟩) ∈ lw_tbl := tk_5 (List.mem_of_getElem? (i := 198) (by decide +kernel))
theorem tw_1159 : (Cond.code ⟨"java/lang/AbstractStringBuilder", "appendNull", "()Ljava/lang/AbstractStringBuilder;"⟩ prog_14_method_26_code 3 (Option.some (FieldType.object "java/lang/AbstractStringBuilder"))) ∈ lw_tbl := tk_5 (List.mem_of_getElem? (i := 199) (by decide +kernel))
theorem tw_1160 : (Cond.methodLink "java/lang/AbstractStringBuilder" 100 ⟨"java/lang/AbstractStringBuilder", "ensureCapacityInternal", "(I)V"⟩) ∈ lw_tbl := tk_5 (List.mem_of_getElem? (i := 200) (by decide +kernel))
theorem tw_1161 : (Cond.privateMethod ⟨"java/lang/AbstractStringBuilder", "ensureCapacityInternal", "(I)V"⟩) ∈ lw_tbl := tk_5 (List.mem_of_getElem? (i := 201) (by decide +kernel))
theorem tw_1162 : (Cond.instanceMethod ⟨"java/lang/AbstractStringBuilder", "ensureCapacityInternal", "(I)V"⟩) ∈ lw_tbl := tk_5 (List.mem_of_getElem? (i := 202) (by decide +kernel))
theorem tw_1163 : (Cond.code ⟨"java/lang/AbstractStringBuilder", "ensureCapacityInternal", "(I)V"⟩ prog_14_method_9_code 3 none) ∈ lw_tbl := tk_5 (List.mem_of_getElem? (i := 203) (by decide +kernel))
theorem tw_1164 : (Cond.methodLink "java/lang/AbstractStringBuilder" 104 ⟨"java/lang/AbstractStringBuilder", "newCapacity", "(I)I"⟩) ∈ lw_tbl := tk_5 (List.mem_of_getElem? (i := 204) (by decide +kernel))
theorem tw_1165 : (Cond.privateMethod ⟨"java/lang/AbstractStringBuilder", "newCapacity", "(I)I"⟩) ∈ lw_tbl := tk_5 (List.mem_of_getElem? (i := 205) (by decide +kernel))
theorem tw_1166 : (Cond.instanceMethod ⟨"java/lang/AbstractStringBuilder", "newCapacity", "(I)I"⟩) ∈ lw_tbl := tk_5 (List.mem_of_getElem? (i := 206) (by decide +kernel))
theorem tw_1167 : (Cond.code ⟨"java/lang/AbstractStringBuilder", "newCapacity", "(I)I"⟩ prog_14_method_10_code 6 (some FieldType.int)) ∈ lw_tbl := tk_5 (List.mem_of_getElem? (i := 207) (by decide +kernel))
theorem tw_1168 : (Cond.methodLink "java/lang/AbstractStringBuilder" 114 ⟨"jdk/internal/util/ArraysSupport", "newLength", "(III)I"⟩) ∈ lw_tbl := tk_5 (List.mem_of_getElem? (i := 208) (by decide +kernel))
theorem tw_1169 : (Cond.static ⟨"jdk/internal/util/ArraysSupport", "newLength", "(III)I"⟩) ∈ lw_tbl := tk_5 (List.mem_of_getElem? (i := 209) (by decide +kernel))
theorem tw_1170 : (Cond.code ⟨"jdk/internal/util/ArraysSupport", "newLength", "(III)I"⟩ prog_42_method_27_code 4 (some FieldType.int)) ∈ lw_tbl := tk_5 (List.mem_of_getElem? (i := 210) (by decide +kernel))
theorem tw_1171 : (Cond.methodLink "jdk/internal/util/ArraysSupport" 194 ⟨"java/lang/Math", "max", "(II)I"⟩) ∈ lw_tbl := tk_5 (List.mem_of_getElem? (i := 211) (by decide +kernel))
theorem tw_1172 : (Cond.constant "jdk/internal/util/ArraysSupport" 200 (2147483639 : Int32)) ∈ lw_tbl := tk_5 (List.mem_of_getElem? (i := 212) (by decide +kernel))
theorem tw_1173 : (Cond.methodLink "jdk/internal/util/ArraysSupport" 201 ⟨"jdk/internal/util/ArraysSupport", "hugeLength", "(II)I"⟩) ∈ lw_tbl := tk_5 (List.mem_of_getElem? (i := 213) (by decide +kernel))
theorem tw_1174 : (Cond.static ⟨"jdk/internal/util/ArraysSupport", "hugeLength", "(II)I"⟩) ∈ lw_tbl := tk_5 (List.mem_of_getElem? (i := 214) (by decide +kernel))
theorem tw_1175 : (Cond.code ⟨"jdk/internal/util/ArraysSupport", "hugeLength", "(II)I"⟩ prog_42_method_28_code 3 (some FieldType.int)) ∈ lw_tbl := tk_5 (List.mem_of_getElem? (i := 215) (by decide +kernel))
theorem tw_1176 : (Cond.constant "java/lang/AbstractStringBuilder" 39 (2147483647 : Int32)) ∈ lw_tbl := tk_5 (List.mem_of_getElem? (i := 216) (by decide +kernel))
theorem tw_1177 : (Cond.methodLink "java/lang/AbstractStringBuilder" 108 ⟨"java/util/Arrays", "copyOf", "([BI)[B"⟩) ∈ lw_tbl := tk_5 (List.mem_of_getElem? (i := 217) (by decide +kernel))
theorem tw_1178 : (Cond.static ⟨"java/util/Arrays", "copyOf", "([BI)[B"⟩) ∈ lw_tbl := tk_5 (List.mem_of_getElem? (i := 218) (by decide +kernel))
theorem tw_1179 : (Cond.code ⟨"java/util/Arrays", "copyOf", "([BI)[B"⟩ prog_40_method_121_code 3 (Option.some (FieldType.array FieldType.byte))) ∈ lw_tbl := tk_5 (List.mem_of_getElem? (i := 219) (by decide +kernel))
theorem tw_1180 : (Cond.methodLink "java/util/Arrays" 310 ⟨"[B", "clone", "()Ljava/lang/Object;"⟩) ∈ lw_tbl := tk_5 (List.mem_of_getElem? (i := 220) (by decide +kernel))
theorem tw_1181 : (Cond.sameMethod "[B" "java/lang/Object" "clone" "()Ljava/lang/Object;") ∈ lw_tbl := tk_5 (List.mem_of_getElem? (i := 221) (by decide +kernel))
theorem tw_1182 : (Cond.native ⟨"java/lang/Object", "clone", "()Ljava/lang/Object;"⟩) ∈ lw_tbl := tk_5 (List.mem_of_getElem? (i := 222) (by decide +kernel))
theorem tw_1183 : (Cond.instanceMethod ⟨"java/lang/Object", "clone", "()Ljava/lang/Object;"⟩) ∈ lw_tbl := tk_5 (List.mem_of_getElem? (i := 223) (by decide +kernel))
theorem tw_1184 : (Cond.selects "[B" ⟨"[B", "clone", "()Ljava/lang/Object;"⟩ ⟨"java/lang/Object", "clone", "()Ljava/lang/Object;"⟩) ∈ lw_tbl := tk_5 (List.mem_of_getElem? (i := 224) (by decide +kernel))
theorem tw_1185 : (Cond.castable "[B" "java/lang/Cloneable") ∈ lw_tbl := tk_5 (List.mem_of_getElem? (i := 225) (by decide +kernel))
theorem tw_1186 : (Cond.classLink "java/util/Arrays" 311 "[B") ∈ lw_tbl := tk_5 (List.mem_of_getElem? (i := 226) (by decide +kernel))
theorem tw_1187 : (Cond.methodLink "java/util/Arrays" 304 ⟨"java/lang/Math", "min", "(II)I"⟩) ∈ lw_tbl := tk_5 (List.mem_of_getElem? (i := 227) (by decide +kernel))
theorem tw_1188 : (Cond.methodLink "java/util/Arrays" 150 ⟨"java/lang/System", "arraycopy", "(Ljava/lang/Object;ILjava/lang/Object;II)V"⟩) ∈ lw_tbl := tk_5 (List.mem_of_getElem? (i := 228) (by decide +kernel))
theorem tw_1189 : (Cond.methodLink "java/lang/AbstractStringBuilder" 83 ⟨"java/lang/AbstractStringBuilder", "isLatin1", "()Z"⟩) ∈ lw_tbl := tk_5 (List.mem_of_getElem? (i := 229) (by decide +kernel))
theorem tw_1190 : (Cond.instanceMethod ⟨"java/lang/AbstractStringBuilder", "isLatin1", "()Z"⟩) ∈ lw_tbl := tk_5 (List.mem_of_getElem? (i := 230) (by decide +kernel))
theorem tw_1191 : (Cond.sameMethod "java/lang/AbstractStringBuilder" "java/lang/AbstractStringBuilder" "isLatin1" "()Z") ∈ lw_tbl := tk_5 (List.mem_of_getElem? (i := 231) (by decide +kernel))
theorem tw_1192 : (Cond.selects "java/lang/StringBuilder" ⟨"java/lang/AbstractStringBuilder", "isLatin1", "()Z"⟩ ⟨"java/lang/AbstractStringBuilder", "isLatin1", "()Z"⟩) ∈ lw_tbl := tk_5 (List.mem_of_getElem? (i := 232) (by decide +kernel))
theorem tw_1193 : (Cond.code ⟨"java/lang/AbstractStringBuilder", "isLatin1", "()Z"⟩ prog_14_method_68_code 1 (some FieldType.boolean)) ∈ lw_tbl := tk_5 (List.mem_of_getElem? (i := 233) (by decide +kernel))
theorem tw_1194 : (Cond.methodLink "java/lang/AbstractStringBuilder" 226 ⟨"java/lang/StringUTF16", "putCharsAt", "([BICCCC)I"⟩) ∈ lw_tbl := tk_5 (List.mem_of_getElem? (i := 234) (by decide +kernel))
theorem tw_1195 : (Cond.static ⟨"java/lang/StringUTF16", "putCharsAt", "([BICCCC)I"⟩) ∈ lw_tbl := tk_5 (List.mem_of_getElem? (i := 235) (by decide +kernel))
theorem tw_1196 : (Cond.code ⟨"java/lang/StringUTF16", "putCharsAt", "([BICCCC)I"⟩ prog_34_method_81_code 7 (some FieldType.int)) ∈ lw_tbl := tk_5 (List.mem_of_getElem? (i := 236) (by decide +kernel))
theorem tw_1197 : (Cond.methodLink "java/lang/StringUTF16" 96 ⟨"java/lang/StringUTF16", "checkBoundsBeginEnd", "(II[B)V"⟩) ∈ lw_tbl := tk_5 (List.mem_of_getElem? (i := 237) (by decide +kernel))
theorem tw_1198 : (Cond.static ⟨"java/lang/StringUTF16", "checkBoundsBeginEnd", "(II[B)V"⟩) ∈ lw_tbl := tk_5 (List.mem_of_getElem? (i := 238) (by decide +kernel))
theorem tw_1199 : (Cond.code ⟨"java/lang/StringUTF16", "checkBoundsBeginEnd", "(II[B)V"⟩ prog_34_method_93_code 3 none) ∈ lw_tbl := tk_5 (List.mem_of_getElem? (i := 239) (by decide +kernel))
theorem tw_1200 : (Cond.methodLink "java/lang/StringUTF16" 241 ⟨"java/lang/String", "checkBoundsBeginEnd", "(III)V"⟩) ∈ lw_tbl := tk_6 (List.mem_of_getElem? (i := 0) (by decide +kernel))
theorem tw_1201 : (Cond.static ⟨"java/lang/String", "checkBoundsBeginEnd", "(III)V"⟩) ∈ lw_tbl := tk_6 (List.mem_of_getElem? (i := 1) (by decide +kernel))
theorem tw_1202 : (Cond.code ⟨"java/lang/String", "checkBoundsBeginEnd", "(III)V"⟩ prog_30_method_158_code 3 none) ∈ lw_tbl := tk_6 (List.mem_of_getElem? (i := 2) (by decide +kernel))
theorem tw_1203 : (Cond.methodLink "java/lang/String" 1062 ⟨"jdk/internal/util/Preconditions", "checkFromToIndex", "(IIILjava/util/function/BiFunction;)I"⟩) ∈ lw_tbl := tk_6 (List.mem_of_getElem? (i := 3) (by decide +kernel))
theorem tw_1204 : (Cond.static ⟨"jdk/internal/util/Preconditions", "checkFromToIndex", "(IIILjava/util/function/BiFunction;)I"⟩) ∈ lw_tbl := tk_6 (List.mem_of_getElem? (i := 4) (by decide +kernel))
theorem tw_1205 : (Cond.code ⟨"jdk/internal/util/Preconditions", "checkFromToIndex", "(IIILjava/util/function/BiFunction;)I"⟩ prog_43_method_12_code 4 (some FieldType.int)) ∈ lw_tbl := tk_6 (List.mem_of_getElem? (i := 5) (by decide +kernel))
theorem tw_1206 : (Cond.methodLink "java/lang/StringUTF16" 111 ⟨"java/lang/StringUTF16", "putChar", "([BII)V"⟩) ∈ lw_tbl := tk_6 (List.mem_of_getElem? (i := 6) (by decide +kernel))
theorem tw_1207 : (Cond.static ⟨"java/lang/StringUTF16", "putChar", "([BII)V"⟩) ∈ lw_tbl := tk_6 (List.mem_of_getElem? (i := 7) (by decide +kernel))
theorem tw_1208 : (Cond.code ⟨"java/lang/StringUTF16", "putChar", "([BII)V"⟩ prog_34_method_4_code 3 none) ∈ lw_tbl := tk_6 (List.mem_of_getElem? (i := 8) (by decide +kernel))
theorem tw_1209 : (Cond.methodLink "java/lang/AbstractStringBuilder" 32 ⟨"java/lang/String", "length", "()I"⟩) ∈ lw_tbl := tk_6 (List.mem_of_getElem? (i := 9) (by decide +kernel))
theorem tw_1210 : (Cond.methodLink "java/lang/AbstractStringBuilder" 208 ⟨"java/lang/AbstractStringBuilder", "putStringAt", "(ILjava/lang/String;)V"⟩) ∈ lw_tbl := tk_6 (List.mem_of_getElem? (i := 10) (by decide +kernel))
theorem tw_1211 : (Cond.privateMethod ⟨"java/lang/AbstractStringBuilder", "putStringAt", "(ILjava/lang/String;)V"⟩) ∈ lw_tbl := tk_6 (List.mem_of_getElem? (i := 11) (by decide +kernel))
theorem tw_1212 : (Cond.instanceMethod ⟨"java/lang/AbstractStringBuilder", "putStringAt", "(ILjava/lang/String;)V"⟩) ∈ lw_tbl := tk_6 (List.mem_of_getElem? (i := 12) (by decide +kernel))
theorem tw_1213 : (Cond.code ⟨"java/lang/AbstractStringBuilder", "putStringAt", "(ILjava/lang/String;)V"⟩ prog_14_method_73_code 3 none) ∈ lw_tbl := tk_6 (List.mem_of_getElem? (i := 13) (by decide +kernel))
theorem tw_1214 : (Cond.methodLink "java/lang/AbstractStringBuilder" 397 ⟨"java/lang/AbstractStringBuilder", "inflateIfNeededFor", "(Ljava/lang/String;)V"⟩) ∈ lw_tbl := tk_6 (List.mem_of_getElem? (i := 14) (by decide +kernel))
theorem tw_1215 : (Cond.privateMethod ⟨"java/lang/AbstractStringBuilder", "inflateIfNeededFor", "(Ljava/lang/String;)V"⟩) ∈ lw_tbl := tk_6 (List.mem_of_getElem? (i := 15) (by decide +kernel))
theorem tw_1216 : (Cond.instanceMethod ⟨"java/lang/AbstractStringBuilder", "inflateIfNeededFor", "(Ljava/lang/String;)V"⟩) ∈ lw_tbl := tk_6 (List.mem_of_getElem? (i := 16) (by decide +kernel))
theorem tw_1217 : (Cond.code ⟨"java/lang/AbstractStringBuilder", "inflateIfNeededFor", "(Ljava/lang/String;)V"⟩ prog_14_method_71_code 2 none) ∈ lw_tbl := tk_6 (List.mem_of_getElem? (i := 17) (by decide +kernel))
theorem tw_1218 : (Cond.methodLink "java/lang/AbstractStringBuilder" 40 ⟨"java/lang/String", "coder", "()B"⟩) ∈ lw_tbl := tk_6 (List.mem_of_getElem? (i := 18) (by decide +kernel))
theorem tw_1219 : (Cond.methodLink "java/lang/AbstractStringBuilder" 195 ⟨"java/lang/AbstractStringBuilder", "inflate", "()V"⟩) ∈ lw_tbl := tk_6 (List.mem_of_getElem? (i := 19) (by decide +kernel))
theorem tw_1220 : (Cond.privateMethod ⟨"java/lang/AbstractStringBuilder", "inflate", "()V"⟩) ∈ lw_tbl := tk_6 (List.mem_of_getElem? (i := 20) (by decide +kernel))
theorem tw_1221 : (Cond.instanceMethod ⟨"java/lang/AbstractStringBuilder", "inflate", "()V"⟩) ∈ lw_tbl := tk_6 (List.mem_of_getElem? (i := 21) (by decide +kernel))
theorem tw_1222 : (Cond.code ⟨"java/lang/AbstractStringBuilder", "inflate", "()V"⟩ prog_14_method_11_code 2 none) ∈ lw_tbl := tk_6 (List.mem_of_getElem? (i := 22) (by decide +kernel))
theorem tw_1223 : (Cond.methodLink "java/lang/AbstractStringBuilder" 125 ⟨"java/lang/StringLatin1", "inflate", "([BI[BII)V"⟩) ∈ lw_tbl := tk_6 (List.mem_of_getElem? (i := 23) (by decide +kernel))
theorem tw_1224 : (Cond.static ⟨"java/lang/StringLatin1", "inflate", "([BI[BII)V"⟩) ∈ lw_tbl := tk_6 (List.mem_of_getElem? (i := 24) (by decide +kernel))
theorem tw_1225 : (Cond.code ⟨"java/lang/StringLatin1", "inflate", "([BI[BII)V"⟩ prog_33_method_50_code 5 none) ∈ lw_tbl := tk_6 (List.mem_of_getElem? (i := 25) (by decide +kernel))
theorem tw_1226 : (Cond.methodLink "java/lang/StringLatin1" 240 ⟨"java/lang/StringUTF16", "inflate", "([BI[BII)V"⟩) ∈ lw_tbl := tk_6 (List.mem_of_getElem? (i := 26) (by decide +kernel))
theorem tw_1227 : (Cond.static ⟨"java/lang/StringUTF16", "inflate", "([BI[BII)V"⟩) ∈ lw_tbl := tk_6 (List.mem_of_getElem? (i := 27) (by decide +kernel))
theorem tw_1228 : (Cond.code ⟨"java/lang/StringUTF16", "inflate", "([BI[BII)V"⟩ prog_34_method_86_code 6 none) ∈ lw_tbl := tk_6 (List.mem_of_getElem? (i := 28) (by decide +kernel))
theorem tw_1229 : (Cond.methodLink "java/lang/StringUTF16" 173 ⟨"java/lang/StringUTF16", "checkBoundsOffCount", "(II[B)V"⟩) ∈ lw_tbl := tk_6 (List.mem_of_getElem? (i := 29) (by decide +kernel))
theorem tw_1230 : (Cond.static ⟨"java/lang/StringUTF16", "checkBoundsOffCount", "(II[B)V"⟩) ∈ lw_tbl := tk_6 (List.mem_of_getElem? (i := 30) (by decide +kernel))
theorem tw_1231 : (Cond.code ⟨"java/lang/StringUTF16", "checkBoundsOffCount", "(II[B)V"⟩ prog_34_method_94_code 3 none) ∈ lw_tbl := tk_6 (List.mem_of_getElem? (i := 31) (by decide +kernel))
theorem tw_1232 : (Cond.methodLink "java/lang/StringUTF16" 419 ⟨"java/lang/String", "checkBoundsOffCount", "(III)I"⟩) ∈ lw_tbl := tk_6 (List.mem_of_getElem? (i := 32) (by decide +kernel))
theorem tw_1233 : (Cond.static ⟨"java/lang/String", "checkBoundsOffCount", "(III)I"⟩) ∈ lw_tbl := tk_6 (List.mem_of_getElem? (i := 33) (by decide +kernel))
theorem tw_1234 : (Cond.code ⟨"java/lang/String", "checkBoundsOffCount", "(III)I"⟩ prog_30_method_157_code 3 (some FieldType.int)) ∈ lw_tbl := tk_6 (List.mem_of_getElem? (i := 34) (by decide +kernel))
theorem tw_1235 : (Cond.methodLink "java/lang/String" 1065 ⟨"jdk/internal/util/Preconditions", "checkFromIndexSize", "(IIILjava/util/function/BiFunction;)I"⟩) ∈ lw_tbl := tk_6 (List.mem_of_getElem? (i := 35) (by decide +kernel))
theorem tw_1236 : (Cond.static ⟨"jdk/internal/util/Preconditions", "checkFromIndexSize", "(IIILjava/util/function/BiFunction;)I"⟩) ∈ lw_tbl := tk_6 (List.mem_of_getElem? (i := 36) (by decide +kernel))
theorem tw_1237 : (Cond.code ⟨"jdk/internal/util/Preconditions", "checkFromIndexSize", "(IIILjava/util/function/BiFunction;)I"⟩ prog_43_method_13_code 4 (some FieldType.int)) ∈ lw_tbl := tk_6 (List.mem_of_getElem? (i := 37) (by decide +kernel))
theorem tw_1238 : (Cond.methodLink "java/lang/AbstractStringBuilder" 399 ⟨"java/lang/String", "getBytes", "([BIB)V"⟩) ∈ lw_tbl := tk_6 (List.mem_of_getElem? (i := 38) (by decide +kernel))
theorem tw_1239 : (Cond.instanceMethod ⟨"java/lang/String", "getBytes", "([BIB)V"⟩) ∈ lw_tbl := tk_6 (List.mem_of_getElem? (i := 39) (by decide +kernel))
theorem tw_1240 : (Cond.selects "java/lang/String" ⟨"java/lang/String", "getBytes", "([BIB)V"⟩ ⟨"java/lang/String", "getBytes", "([BIB)V"⟩) ∈ lw_tbl := tk_6 (List.mem_of_getElem? (i := 40) (by decide +kernel))
theorem tw_1241 : (Cond.code ⟨"java/lang/String", "getBytes", "([BIB)V"⟩ prog_30_method_147_code 4 none) ∈ lw_tbl := tk_6 (List.mem_of_getElem? (i := 41) (by decide +kernel))
theorem tw_1242 : (Cond.methodLink "java/lang/String" 212 ⟨"java/lang/System", "arraycopy", "(Ljava/lang/Object;ILjava/lang/Object;II)V"⟩) ∈ lw_tbl := tk_6 (List.mem_of_getElem? (i := 42) (by decide +kernel))
theorem tw_1243 : (Cond.methodLink "java/lang/String" 106 ⟨"java/lang/StringLatin1", "inflate", "([BI[BII)V"⟩) ∈ lw_tbl := tk_6 (List.mem_of_getElem? (i := 43) (by decide +kernel))
theorem tw_1244 : (Cond.methodLink "java/lang/StringIndexOutOfBoundsException" 19 ⟨"java/lang/StringBuilder", "append", "(I)Ljava/lang/StringBuilder;"⟩) ∈ lw_tbl := tk_6 (List.mem_of_getElem? (i := 44) (by decide +kernel))
theorem tw_1245 : (Cond.instanceMethod ⟨"java/lang/StringBuilder", "append", "(I)Ljava/lang/StringBuilder;"⟩) ∈ lw_tbl := tk_6 (List.mem_of_getElem? (i := 45) (by decide +kernel))
theorem tw_1246 : (Cond.selects "java/lang/StringBuilder" ⟨"java/lang/StringBuilder", "append", "(I)Ljava/lang/StringBuilder;"⟩ ⟨"java/lang/StringBuilder", "append", "(I)Ljava/lang/StringBuilder;"⟩) ∈ lw_tbl := tk_6 (List.mem_of_getElem? (i := 46) (by decide +kernel))
theorem tw_1247 : (Cond.code ⟨"java/lang/StringBuilder", "append", "(I)Ljava/lang/StringBuilder;"⟩ prog_31_method_15_code 2 (Option.some (FieldType.object "java/lang/StringBuilder"))) ∈ lw_tbl := tk_6 (List.mem_of_getElem? (i := 47) (by decide +kernel))
theorem tw_1248 : (Cond.methodLink "java/lang/StringBuilder" 53 ⟨"java/lang/AbstractStringBuilder", "append", "(I)Ljava/lang/AbstractStringBuilder;"⟩) ∈ lw_tbl := tk_6 (List.mem_of_getElem? (i := 48) (by decide +kernel))
theorem tw_1249 : (Cond.instanceMethod ⟨"java/lang/AbstractStringBuilder", "append", "(I)Ljava/lang/AbstractStringBuilder;"⟩) ∈ lw_tbl := tk_6 (List.mem_of_getElem? (i := 49) (by decide +kernel))
theorem tw_1250 : (Cond.code ⟨"java/lang/AbstractStringBuilder", "append", "(I)Ljava/lang/AbstractStringBuilder;"⟩ prog_14_method_32_code 4 (Option.some (FieldType.object "java/lang/AbstractStringBuilder"))) ∈ lw_tbl := tk_6 (List.mem_of_getElem? (i := 50) (by decide +kernel))
theorem tw_1251 : (Cond.methodLink "java/lang/AbstractStringBuilder" 245 ⟨"java/lang/Integer", "stringSize", "(I)I"⟩) ∈ lw_tbl := tk_6 (List.mem_of_getElem? (i := 51) (by decide +kernel))
theorem tw_1252 : (Cond.static ⟨"java/lang/Integer", "stringSize", "(I)I"⟩) ∈ lw_tbl := tk_6 (List.mem_of_getElem? (i := 52) (by decide +kernel))
theorem tw_1253 : (Cond.code ⟨"java/lang/Integer", "stringSize", "(I)I"⟩ prog_26_method_13_code 4 (some FieldType.int)) ∈ lw_tbl := tk_6 (List.mem_of_getElem? (i := 53) (by decide +kernel))
theorem tw_1254 : (Cond.methodLink "java/lang/AbstractStringBuilder" 248 ⟨"java/lang/Integer", "getChars", "(II[B)I"⟩) ∈ lw_tbl := tk_6 (List.mem_of_getElem? (i := 54) (by decide +kernel))
theorem tw_1255 : (Cond.static ⟨"java/lang/Integer", "getChars", "(II[B)I"⟩) ∈ lw_tbl := tk_6 (List.mem_of_getElem? (i := 55) (by decide +kernel))
theorem tw_1256 : (Cond.code ⟨"java/lang/Integer", "getChars", "(II[B)I"⟩ prog_26_method_12_code 7 (some FieldType.int)) ∈ lw_tbl := tk_6 (List.mem_of_getElem? (i := 56) (by decide +kernel))
theorem tw_1257 : (Cond.fieldLink "java/lang/Integer" 83 "java/lang/Integer" "DigitOnes" "[B") ∈ lw_tbl := tk_6 (List.mem_of_getElem? (i := 57) (by decide +kernel))
theorem tw_1258 : (Cond.laysStatic "java/lang/Integer" "DigitOnes" "[B") ∈ lw_tbl := tk_6 (List.mem_of_getElem? (i := 58) (by decide +kernel))
theorem tw_1259 : (Cond.fieldLink "java/lang/Integer" 87 "java/lang/Integer" "DigitTens" "[B") ∈ lw_tbl := tk_6 (List.mem_of_getElem? (i := 59) (by decide +kernel))
theorem tw_1260 : (Cond.laysStatic "java/lang/Integer" "DigitTens" "[B") ∈ lw_tbl := tk_6 (List.mem_of_getElem? (i := 60) (by decide +kernel))
theorem tw_1261 : (Cond.methodLink "java/lang/AbstractStringBuilder" 251 ⟨"java/lang/StringUTF16", "getChars", "(III[B)I"⟩) ∈ lw_tbl := tk_6 (List.mem_of_getElem? (i := 61) (by decide +kernel))
theorem tw_1262 : (Cond.static ⟨"java/lang/StringUTF16", "getChars", "(III[B)I"⟩) ∈ lw_tbl := tk_6 (List.mem_of_getElem? (i := 62) (by decide +kernel))
theorem tw_1263 : (Cond.code ⟨"java/lang/StringUTF16", "getChars", "(III[B)I"⟩ prog_34_method_77_code 5 (some FieldType.int)) ∈ lw_tbl := tk_6 (List.mem_of_getElem? (i := 63) (by decide +kernel))
theorem tw_1264 : (Cond.methodLink "java/lang/StringUTF16" 393 ⟨"java/lang/StringUTF16", "getChars", "(II[B)I"⟩) ∈ lw_tbl := tk_6 (List.mem_of_getElem? (i := 64) (by decide +kernel))
theorem tw_1265 : (Cond.static ⟨"java/lang/StringUTF16", "getChars", "(II[B)I"⟩) ∈ lw_tbl := tk_6 (List.mem_of_getElem? (i := 65) (by decide +kernel))
theorem tw_1266 : (Cond.code ⟨"java/lang/StringUTF16", "getChars", "(II[B)I"⟩ prog_34_method_89_code 7 (some FieldType.int)) ∈ lw_tbl := tk_6 (List.mem_of_getElem? (i := 66) (by decide +kernel))
theorem tw_1267 : (Cond.fieldLink "java/lang/StringUTF16" 403 "java/lang/Integer" "DigitOnes" "[B") ∈ lw_tbl := tk_6 (List.mem_of_getElem? (i := 67) (by decide +kernel))
theorem tw_1268 : (Cond.fieldLink "java/lang/StringUTF16" 407 "java/lang/Integer" "DigitTens" "[B") ∈ lw_tbl := tk_6 (List.mem_of_getElem? (i := 68) (by decide +kernel))
theorem tw_1269 : (Cond.methodLink "java/lang/StringIndexOutOfBoundsException" 22 ⟨"java/lang/StringBuilder", "toString", "()Ljava/lang/String;"⟩) ∈ lw_tbl := tk_6 (List.mem_of_getElem? (i := 69) (by decide +kernel))
theorem tw_1270 : (Cond.instanceMethod ⟨"java/lang/StringBuilder", "toString", "()Ljava/lang/String;"⟩) ∈ lw_tbl := tk_6 (List.mem_of_getElem? (i := 70) (by decide +kernel))
theorem tw_1271 : (Cond.selects "java/lang/StringBuilder" ⟨"java/lang/StringBuilder", "toString", "()Ljava/lang/String;"⟩ ⟨"java/lang/StringBuilder", "toString", "()Ljava/lang/String;"⟩) ∈ lw_tbl := tk_6 (List.mem_of_getElem? (i := 71) (by decide +kernel))
theorem tw_1272 : (Cond.code ⟨"java/lang/StringBuilder", "toString", "()Ljava/lang/String;"⟩ prog_31_method_42_code 1 (Option.some (FieldType.object "java/lang/String"))) ∈ lw_tbl := tk_6 (List.mem_of_getElem? (i := 72) (by decide +kernel))
theorem tw_1273 : (Cond.classLink "java/lang/StringBuilder" 18 "java/lang/String") ∈ lw_tbl := tk_6 (List.mem_of_getElem? (i := 73) (by decide +kernel))
theorem tw_1274 : (Cond.methodLink "java/lang/StringBuilder" 137 ⟨"java/lang/String", "<init>", "(Ljava/lang/StringBuilder;)V"⟩) ∈ lw_tbl := tk_6 (List.mem_of_getElem? (i := 74) (by decide +kernel))
theorem tw_1275 : (Cond.instanceMethod ⟨"java/lang/String", "<init>", "(Ljava/lang/StringBuilder;)V"⟩) ∈ lw_tbl := tk_6 (List.mem_of_getElem? (i := 75) (by decide +kernel))
theorem tw_1276 : (Cond.code ⟨"java/lang/String", "<init>", "(Ljava/lang/StringBuilder;)V"⟩ prog_30_method_53_code 2 none) ∈ lw_tbl := tk_6 (List.mem_of_getElem? (i := 76) (by decide +kernel))
theorem tw_1277 : (Cond.methodLink "java/lang/String" 489 ⟨"java/lang/String", "<init>", "(Ljava/lang/AbstractStringBuilder;Ljava/lang/Void;)V"⟩) ∈ lw_tbl := tk_6 (List.mem_of_getElem? (i := 77) (by decide +kernel))
theorem tw_1278 : (Cond.instanceMethod ⟨"java/lang/String", "<init>", "(Ljava/lang/AbstractStringBuilder;Ljava/lang/Void;)V"⟩) ∈ lw_tbl := tk_6 (List.mem_of_getElem? (i := 78) (by decide +kernel))
theorem tw_1279 : (Cond.code ⟨"java/lang/String", "<init>", "(Ljava/lang/AbstractStringBuilder;Ljava/lang/Void;)V"⟩ prog_30_method_150_code 5 none) ∈ lw_tbl := tk_6 (List.mem_of_getElem? (i := 79) (by decide +kernel))
theorem tw_1280 : (Cond.methodLink "java/lang/String" 1 ⟨"java/lang/Object", "<init>", "()V"⟩) ∈ lw_tbl := tk_6 (List.mem_of_getElem? (i := 80) (by decide +kernel))
theorem tw_1281 : (Cond.methodLink "java/lang/String" 552 ⟨"java/lang/AbstractStringBuilder", "getValue", "()[B"⟩) ∈ lw_tbl := tk_6 (List.mem_of_getElem? (i := 81) (by decide +kernel))
theorem tw_1282 : (Cond.instanceMethod ⟨"java/lang/AbstractStringBuilder", "getValue", "()[B"⟩) ∈ lw_tbl := tk_6 (List.mem_of_getElem? (i := 82) (by decide +kernel))
theorem tw_1283 : (Cond.sameMethod "java/lang/AbstractStringBuilder" "java/lang/AbstractStringBuilder" "getValue" "()[B") ∈ lw_tbl := tk_6 (List.mem_of_getElem? (i := 83) (by decide +kernel))
theorem tw_1284 : (Cond.selects "java/lang/StringBuilder" ⟨"java/lang/AbstractStringBuilder", "getValue", "()[B"⟩ ⟨"java/lang/AbstractStringBuilder", "getValue", "()[B"⟩) ∈ lw_tbl := tk_6 (List.mem_of_getElem? (i := 84) (by decide +kernel))
theorem tw_1285 : (Cond.code ⟨"java/lang/AbstractStringBuilder", "getValue", "()[B"⟩ prog_14_method_64_code 1 (Option.some (FieldType.array FieldType.byte))) ∈ lw_tbl := tk_6 (List.mem_of_getElem? (i := 85) (by decide +kernel))
theorem tw_1286 : (Cond.methodLink "java/lang/String" 549 ⟨"java/lang/AbstractStringBuilder", "length", "()I"⟩) ∈ lw_tbl := tk_6 (List.mem_of_getElem? (i := 86) (by decide +kernel))
theorem tw_1287 : (Cond.instanceMethod ⟨"java/lang/AbstractStringBuilder", "length", "()I"⟩) ∈ lw_tbl := tk_6 (List.mem_of_getElem? (i := 87) (by decide +kernel))
theorem tw_1288 : (Cond.sameMethod "java/lang/AbstractStringBuilder" "java/lang/AbstractStringBuilder" "length" "()I") ∈ lw_tbl := tk_6 (List.mem_of_getElem? (i := 88) (by decide +kernel))
theorem tw_1289 : (Cond.selects "java/lang/StringBuilder" ⟨"java/lang/AbstractStringBuilder", "length", "()I"⟩ ⟨"java/lang/StringBuilder", "length", "()I"⟩) ∈ lw_tbl := tk_6 (List.mem_of_getElem? (i := 89) (by decide +kernel))
theorem tw_1290 : (Cond.instanceMethod ⟨"java/lang/StringBuilder", "length", "()I"⟩) ∈ lw_tbl := tk_6 (List.mem_of_getElem? (i := 90) (by decide +kernel))
theorem tw_1291 : (Cond.code ⟨"java/lang/StringBuilder", "length", "()I"⟩ prog_31_method_93_code 1 (some FieldType.int)) ∈ lw_tbl := tk_6 (List.mem_of_getElem? (i := 91) (by decide +kernel))
theorem tw_1292 : (Cond.methodLink "java/lang/StringBuilder" 343 ⟨"java/lang/AbstractStringBuilder", "length", "()I"⟩) ∈ lw_tbl := tk_6 (List.mem_of_getElem? (i := 92) (by decide +kernel))
theorem tw_1293 : (Cond.code ⟨"java/lang/AbstractStringBuilder", "length", "()I"⟩ prog_14_method_6_code 1 (some FieldType.int)) ∈ lw_tbl := tk_6 (List.mem_of_getElem? (i := 93) (by decide +kernel))
theorem tw_1294 : (Cond.methodLink "java/lang/String" 1047 ⟨"java/lang/AbstractStringBuilder", "isLatin1", "()Z"⟩) ∈ lw_tbl := tk_6 (List.mem_of_getElem? (i := 94) (by decide +kernel))
theorem tw_1295 : (Cond.methodLink "java/lang/String" 54 ⟨"java/util/Arrays", "copyOfRange", "([BII)[B"⟩) ∈ lw_tbl := tk_6 (List.mem_of_getElem? (i := 95) (by decide +kernel))
theorem tw_1296 : (Cond.static ⟨"java/util/Arrays", "copyOfRange", "([BII)[B"⟩) ∈ lw_tbl := tk_6 (List.mem_of_getElem? (i := 96) (by decide +kernel))
theorem tw_1297 : (Cond.code ⟨"java/util/Arrays", "copyOfRange", "([BII)[B"⟩ prog_40_method_132_code 3 (Option.some (FieldType.array FieldType.byte))) ∈ lw_tbl := tk_6 (List.mem_of_getElem? (i := 97) (by decide +kernel))
theorem tw_1298 : (Cond.methodLink "java/util/Arrays" 339 ⟨"java/util/Arrays", "copyOfRangeByte", "([BII)[B"⟩) ∈ lw_tbl := tk_6 (List.mem_of_getElem? (i := 98) (by decide +kernel))
theorem tw_1299 : (Cond.static ⟨"java/util/Arrays", "copyOfRangeByte", "([BII)[B"⟩) ∈ lw_tbl := tk_6 (List.mem_of_getElem? (i := 99) (by decide +kernel))
theorem tw_1300 : (Cond.code ⟨"java/util/Arrays", "copyOfRangeByte", "([BII)[B"⟩ prog_40_method_133_code 5 (Option.some (FieldType.array FieldType.byte))) ∈ lw_tbl := tk_6 (List.mem_of_getElem? (i := 100) (by decide +kernel))
theorem tw_1301 : (Cond.methodLink "java/util/Arrays" 343 ⟨"java/util/Arrays", "checkLength", "(II)V"⟩) ∈ lw_tbl := tk_6 (List.mem_of_getElem? (i := 101) (by decide +kernel))
theorem tw_1302 : (Cond.static ⟨"java/util/Arrays", "checkLength", "(II)V"⟩) ∈ lw_tbl := tk_6 (List.mem_of_getElem? (i := 102) (by decide +kernel))
theorem tw_1303 : (Cond.code ⟨"java/util/Arrays", "checkLength", "(II)V"⟩ prog_40_method_131_code 2 none) ∈ lw_tbl := tk_6 (List.mem_of_getElem? (i := 103) (by decide +kernel))
theorem tw_1304 : (Cond.classLink "java/util/Arrays" 43 "java/lang/IllegalArgumentException") ∈ lw_tbl := tk_6 (List.mem_of_getElem? (i := 104) (by decide +kernel))
theorem tw_1305 : (Cond.classLink "java/util/Arrays" 45 "java/lang/StringBuilder") ∈ lw_tbl := tk_6 (List.mem_of_getElem? (i := 105) (by decide +kernel))
theorem tw_1306 : (Cond.methodLink "java/util/Arrays" 47 ⟨"java/lang/StringBuilder", "<init>", "()V"⟩) ∈ lw_tbl := tk_6 (List.mem_of_getElem? (i := 106) (by decide +kernel))
theorem tw_1307 : (Cond.methodLink "java/util/Arrays" 54 ⟨"java/lang/StringBuilder", "append", "(I)Ljava/lang/StringBuilder;"⟩) ∈ lw_tbl := tk_6 (List.mem_of_getElem? (i := 107) (by decide +kernel))
theorem tw_1308 : (Cond.stringRef "java/util/Arrays" 337 " > ") ∈ lw_tbl := tk_6 (List.mem_of_getElem? (i := 108) (by decide +kernel))
theorem tw_1309 : (Cond.methodLink "java/util/Arrays" 50 ⟨"java/lang/StringBuilder", "append", "(Ljava/lang/String;)Ljava/lang/StringBuilder;"⟩) ∈ lw_tbl := tk_6 (List.mem_of_getElem? (i := 109) (by decide +kernel))
theorem tw_1310 : (Cond.methodLink "java/util/Arrays" 61 ⟨"java/lang/StringBuilder", "toString", "()Ljava/lang/String;"⟩) ∈ lw_tbl := tk_6 (List.mem_of_getElem? (i := 110) (by decide +kernel))
theorem tw_1311 : (Cond.methodLink "java/util/Arrays" 65 ⟨"java/lang/IllegalArgumentException", "<init>", "(Ljava/lang/String;)V"⟩) ∈ lw_tbl := tk_6 (List.mem_of_getElem? (i := 111) (by decide +kernel))
theorem tw_1312 : (Cond.methodLink "java/lang/String" 1051 ⟨"java/lang/StringUTF16", "compress", "([BII)[B"⟩) ∈ lw_tbl := tk_6 (List.mem_of_getElem? (i := 112) (by decide +kernel))
theorem tw_1313 : (Cond.static ⟨"java/lang/StringUTF16", "compress", "([BII)[B"⟩) ∈ lw_tbl := tk_6 (List.mem_of_getElem? (i := 113) (by decide +kernel))
theorem tw_1314 : (Cond.code ⟨"java/lang/StringUTF16", "compress", "([BII)[B"⟩ prog_34_method_17_code 6 (Option.some (FieldType.array FieldType.byte))) ∈ lw_tbl := tk_6 (List.mem_of_getElem? (i := 114) (by decide +kernel))
theorem tw_1315 : (Cond.methodLink "java/lang/StringUTF16" 123 ⟨"java/lang/StringUTF16", "compress", "([BI[BII)I"⟩) ∈ lw_tbl := tk_6 (List.mem_of_getElem? (i := 115) (by decide +kernel))
theorem tw_1316 : (Cond.static ⟨"java/lang/StringUTF16", "compress", "([BI[BII)I"⟩) ∈ lw_tbl := tk_6 (List.mem_of_getElem? (i := 116) (by decide +kernel))
theorem tw_1317 : (Cond.code ⟨"java/lang/StringUTF16", "compress", "([BI[BII)I"⟩ prog_34_method_22_code 7 (some FieldType.int)) ∈ lw_tbl := tk_6 (List.mem_of_getElem? (i := 117) (by decide +kernel))
theorem tw_1318 : (Cond.methodLink "java/lang/StringUTF16" 126 ⟨"java/util/Arrays", "copyOfRange", "([BII)[B"⟩) ∈ lw_tbl := tk_6 (List.mem_of_getElem? (i := 118) (by decide +kernel))
theorem tw_1319 : (Cond.methodLink "java/lang/String" 47 ⟨"java/lang/StringUTF16", "coderFromArrayLen", "([BI)B"⟩) ∈ lw_tbl := tk_6 (List.mem_of_getElem? (i := 119) (by decide +kernel))
theorem tw_1320 : (Cond.static ⟨"java/lang/StringUTF16", "coderFromArrayLen", "([BI)B"⟩) ∈ lw_tbl := tk_6 (List.mem_of_getElem? (i := 120) (by decide +kernel))
theorem tw_1321 : (Cond.code ⟨"java/lang/StringUTF16", "coderFromArrayLen", "([BI)B"⟩ prog_34_method_15_code 2 (some FieldType.byte)) ∈ lw_tbl := tk_6 (List.mem_of_getElem? (i := 121) (by decide +kernel))
theorem tw_1322 : (Cond.fieldLink "java/lang/String" 9 "java/lang/String" "value" "[B") ∈ lw_tbl := tk_6 (List.mem_of_getElem? (i := 122) (by decide +kernel))
theorem tw_1323 : (Cond.fieldLink "java/lang/String" 15 "java/lang/String" "coder" "B") ∈ lw_tbl := tk_6 (List.mem_of_getElem? (i := 123) (by decide +kernel))
theorem tw_1324 : (Cond.lays "java/lang/String" "java/lang/String" "hash" "I") ∈ lw_tbl := tk_6 (List.mem_of_getElem? (i := 124) (by decide +kernel))
theorem tw_1325 : (Cond.soleField "java/lang/String" "hash") ∈ lw_tbl := tk_6 (List.mem_of_getElem? (i := 125) (by decide +kernel))
theorem tw_1326 : (Cond.lays "java/lang/String" "java/lang/String" "hashIsZero" "Z") ∈ lw_tbl := tk_6 (List.mem_of_getElem? (i := 126) (by decide +kernel))
theorem tw_1327 : (Cond.soleField "java/lang/String" "hashIsZero") ∈ lw_tbl := tk_6 (List.mem_of_getElem? (i := 127) (by decide +kernel))
theorem tw_1328 : (Cond.superclass "java/lang/String" "java/lang/Object") ∈ lw_tbl := tk_6 (List.mem_of_getElem? (i := 128) (by decide +kernel))
theorem tw_1329 : (Cond.methodLink "java/lang/StringIndexOutOfBoundsException" 7 ⟨"java/lang/IndexOutOfBoundsException", "<init>", "(Ljava/lang/String;)V"⟩) ∈ lw_tbl := tk_6 (List.mem_of_getElem? (i := 129) (by decide +kernel))
theorem tw_1330 : (Cond.lays "java/lang/StringIndexOutOfBoundsException" "java/lang/Throwable" "backtrace" "Ljava/lang/Object;") ∈ lw_tbl := tk_6 (List.mem_of_getElem? (i := 130) (by decide +kernel))
theorem tw_1331 : (Cond.lays "java/lang/StringIndexOutOfBoundsException" "java/lang/Throwable" "detailMessage" "Ljava/lang/String;") ∈ lw_tbl := tk_6 (List.mem_of_getElem? (i := 131) (by decide +kernel))
theorem tw_1332 : (Cond.lays "java/lang/StringIndexOutOfBoundsException" "java/lang/Throwable" "cause" "Ljava/lang/Throwable;") ∈ lw_tbl := tk_6 (List.mem_of_getElem? (i := 132) (by decide +kernel))
theorem tw_1333 : (Cond.lays "java/lang/StringIndexOutOfBoundsException" "java/lang/Throwable" "stackTrace" "[Ljava/lang/StackTraceElement;") ∈ lw_tbl := tk_6 (List.mem_of_getElem? (i := 133) (by decide +kernel))
theorem tw_1334 : (Cond.lays "java/lang/StringIndexOutOfBoundsException" "java/lang/Throwable" "depth" "I") ∈ lw_tbl := tk_6 (List.mem_of_getElem? (i := 134) (by decide +kernel))
theorem tw_1335 : (Cond.lays "java/lang/StringIndexOutOfBoundsException" "java/lang/Throwable" "suppressedExceptions" "Ljava/util/List;") ∈ lw_tbl := tk_6 (List.mem_of_getElem? (i := 135) (by decide +kernel))
theorem tw_1336 : (Cond.superclass "java/lang/StringIndexOutOfBoundsException" "java/lang/IndexOutOfBoundsException") ∈ lw_tbl := tk_6 (List.mem_of_getElem? (i := 136) (by decide +kernel))
theorem tw_1337 : (Cond.methodLink "java/lang/AbstractStringBuilder" 133 ⟨"java/lang/StringLatin1", "fillNull", "([BII)V"⟩) ∈ lw_tbl := tk_6 (List.mem_of_getElem? (i := 137) (by decide +kernel))
theorem tw_1338 : (Cond.static ⟨"java/lang/StringLatin1", "fillNull", "([BII)V"⟩) ∈ lw_tbl := tk_6 (List.mem_of_getElem? (i := 138) (by decide +kernel))
theorem tw_1339 : (Cond.code ⟨"java/lang/StringLatin1", "fillNull", "([BII)V"⟩ prog_33_method_48_code 3 none) ∈ lw_tbl := tk_6 (List.mem_of_getElem? (i := 139) (by decide +kernel))
theorem tw_1340 : (Cond.methodLink "java/lang/StringLatin1" 236 ⟨"java/util/Arrays", "fill", "([BIIB)V"⟩) ∈ lw_tbl := tk_6 (List.mem_of_getElem? (i := 140) (by decide +kernel))
theorem tw_1341 : (Cond.static ⟨"java/util/Arrays", "fill", "([BIIB)V"⟩) ∈ lw_tbl := tk_6 (List.mem_of_getElem? (i := 141) (by decide +kernel))
theorem tw_1342 : (Cond.code ⟨"java/util/Arrays", "fill", "([BIIB)V"⟩ prog_40_method_110_code 5 none) ∈ lw_tbl := tk_6 (List.mem_of_getElem? (i := 142) (by decide +kernel))
theorem tw_1343 : (Cond.methodLink "java/util/Arrays" 13 ⟨"java/util/Arrays", "rangeCheck", "(III)V"⟩) ∈ lw_tbl := tk_6 (List.mem_of_getElem? (i := 143) (by decide +kernel))
theorem tw_1344 : (Cond.static ⟨"java/util/Arrays", "rangeCheck", "(III)V"⟩) ∈ lw_tbl := tk_6 (List.mem_of_getElem? (i := 144) (by decide +kernel))
theorem tw_1345 : (Cond.code ⟨"java/util/Arrays", "rangeCheck", "(III)V"⟩ prog_40_method_30_code 3 none) ∈ lw_tbl := tk_6 (List.mem_of_getElem? (i := 145) (by decide +kernel))
theorem tw_1346 : (Cond.stringRef "java/util/Arrays" 48 "fromIndex(") ∈ lw_tbl := tk_6 (List.mem_of_getElem? (i := 146) (by decide +kernel))
theorem tw_1347 : (Cond.stringRef "java/util/Arrays" 57 ") > toIndex(") ∈ lw_tbl := tk_6 (List.mem_of_getElem? (i := 147) (by decide +kernel))
theorem tw_1348 : (Cond.stringRef "java/util/Arrays" 59 ")") ∈ lw_tbl := tk_6 (List.mem_of_getElem? (i := 148) (by decide +kernel))
theorem tw_1349 : (Cond.classLink "java/util/Arrays" 68 "java/lang/ArrayIndexOutOfBoundsException") ∈ lw_tbl := tk_6 (List.mem_of_getElem? (i := 149) (by decide +kernel))
theorem tw_1350 : (Cond.methodLink "java/util/Arrays" 70 ⟨"java/lang/ArrayIndexOutOfBoundsException", "<init>", "(I)V"⟩) ∈ lw_tbl := tk_6 (List.mem_of_getElem? (i := 150) (by decide +kernel))
theorem tw_1351 : (Cond.instanceMethod ⟨"java/lang/ArrayIndexOutOfBoundsException", "<init>", "(I)V"⟩) ∈ lw_tbl := tk_6 (List.mem_of_getElem? (i := 151) (by decide +kernel))
theorem tw_1352 : (Cond.code ⟨"java/lang/ArrayIndexOutOfBoundsException", "<init>", "(I)V"⟩ prog_17_method_3_code 2 none) ∈ lw_tbl := tk_6 (List.mem_of_getElem? (i := 152) (by decide +kernel))
theorem tw_1353 : (Cond.classLink "java/lang/ArrayIndexOutOfBoundsException" 10 "java/lang/StringBuilder") ∈ lw_tbl := tk_6 (List.mem_of_getElem? (i := 153) (by decide +kernel))
theorem tw_1354 : (Cond.methodLink "java/lang/ArrayIndexOutOfBoundsException" 12 ⟨"java/lang/StringBuilder", "<init>", "()V"⟩) ∈ lw_tbl := tk_6 (List.mem_of_getElem? (i := 154) (by decide +kernel))
theorem tw_1355 : (Cond.stringRef "java/lang/ArrayIndexOutOfBoundsException" 13 "Array index out of range: ") ∈ lw_tbl := tk_6 (List.mem_of_getElem? (i := 155) (by decide +kernel))
theorem tw_1356 : (Cond.methodLink "java/lang/ArrayIndexOutOfBoundsException" 15 ⟨"java/lang/StringBuilder", "append", "(Ljava/lang/String;)Ljava/lang/StringBuilder;"⟩) ∈ lw_tbl := tk_6 (List.mem_of_getElem? (i := 156) (by decide +kernel))
theorem tw_1357 : (Cond.methodLink "java/lang/ArrayIndexOutOfBoundsException" 19 ⟨"java/lang/StringBuilder", "append", "(I)Ljava/lang/StringBuilder;"⟩) ∈ lw_tbl := tk_6 (List.mem_of_getElem? (i := 157) (by decide +kernel))
theorem tw_1358 : (Cond.methodLink "java/lang/ArrayIndexOutOfBoundsException" 22 ⟨"java/lang/StringBuilder", "toString", "()Ljava/lang/String;"⟩) ∈ lw_tbl := tk_6 (List.mem_of_getElem? (i := 158) (by decide +kernel))
theorem tw_1359 : (Cond.methodLink "java/lang/AbstractStringBuilder" 137 ⟨"java/lang/StringUTF16", "fillNull", "([BII)V"⟩) ∈ lw_tbl := tk_6 (List.mem_of_getElem? (i := 159) (by decide +kernel))
theorem tw_1360 : (Cond.static ⟨"java/lang/StringUTF16", "fillNull", "([BII)V"⟩) ∈ lw_tbl := tk_6 (List.mem_of_getElem? (i := 160) (by decide +kernel))
theorem tw_1361 : (Cond.code ⟨"java/lang/StringUTF16", "fillNull", "([BII)V"⟩ prog_34_method_70_code 3 none) ∈ lw_tbl := tk_6 (List.mem_of_getElem? (i := 161) (by decide +kernel))
theorem tw_1362 : (Cond.methodLink "java/lang/StringUTF16" 380 ⟨"java/util/Arrays", "fill", "([BIIB)V"⟩) ∈ lw_tbl := tk_6 (List.mem_of_getElem? (i := 162) (by decide +kernel))
theorem tw_1363 : (Cond.methodLink "EchoCouncil" 330 ⟨"java/lang/StringBuilder", "append", "(I)Ljava/lang/StringBuilder;"⟩) ∈ lw_tbl := tk_6 (List.mem_of_getElem? (i := 163) (by decide +kernel))
theorem tw_1364 : (Cond.methodLink "EchoCouncil" 334 ⟨"java/lang/StringBuilder", "append", "(C)Ljava/lang/StringBuilder;"⟩) ∈ lw_tbl := tk_6 (List.mem_of_getElem? (i := 164) (by decide +kernel))
theorem tw_1365 : (Cond.instanceMethod ⟨"java/lang/StringBuilder", "append", "(C)Ljava/lang/StringBuilder;"⟩) ∈ lw_tbl := tk_6 (List.mem_of_getElem? (i := 165) (by decide +kernel))
theorem tw_1366 : (Cond.selects "java/lang/StringBuilder" ⟨"java/lang/StringBuilder", "append", "(C)Ljava/lang/StringBuilder;"⟩ ⟨"java/lang/StringBuilder", "append", "(C)Ljava/lang/StringBuilder;"⟩) ∈ lw_tbl := tk_6 (List.mem_of_getElem? (i := 166) (by decide +kernel))
theorem tw_1367 : (Cond.code ⟨"java/lang/StringBuilder", "append", "(C)Ljava/lang/StringBuilder;"⟩ prog_31_method_14_code 2 (Option.some (FieldType.object "java/lang/StringBuilder"))) ∈ lw_tbl := tk_6 (List.mem_of_getElem? (i := 167) (by decide +kernel))
theorem tw_1368 : (Cond.methodLink "java/lang/StringBuilder" 50 ⟨"java/lang/AbstractStringBuilder", "append", "(C)Ljava/lang/AbstractStringBuilder;"⟩) ∈ lw_tbl := tk_6 (List.mem_of_getElem? (i := 168) (by decide +kernel))
theorem tw_1369 : (Cond.instanceMethod ⟨"java/lang/AbstractStringBuilder", "append", "(C)Ljava/lang/AbstractStringBuilder;"⟩) ∈ lw_tbl := tk_6 (List.mem_of_getElem? (i := 169) (by decide +kernel))
theorem tw_1370 : (Cond.code ⟨"java/lang/AbstractStringBuilder", "append", "(C)Ljava/lang/AbstractStringBuilder;"⟩ prog_14_method_31_code 2 (Option.some (FieldType.object "java/lang/AbstractStringBuilder"))) ∈ lw_tbl := tk_6 (List.mem_of_getElem? (i := 170) (by decide +kernel))
theorem tw_1371 : (Cond.methodLink "java/lang/AbstractStringBuilder" 191 ⟨"java/lang/StringLatin1", "canEncode", "(C)Z"⟩) ∈ lw_tbl := tk_6 (List.mem_of_getElem? (i := 171) (by decide +kernel))
theorem tw_1372 : (Cond.static ⟨"java/lang/StringLatin1", "canEncode", "(C)Z"⟩) ∈ lw_tbl := tk_6 (List.mem_of_getElem? (i := 172) (by decide +kernel))
theorem tw_1373 : (Cond.code ⟨"java/lang/StringLatin1", "canEncode", "(C)Z"⟩ prog_33_method_3_code 1 (some FieldType.boolean)) ∈ lw_tbl := tk_6 (List.mem_of_getElem? (i := 173) (by decide +kernel))
theorem tw_1374 : (Cond.methodLink "java/lang/AbstractStringBuilder" 197 ⟨"java/lang/StringUTF16", "putCharSB", "([BII)V"⟩) ∈ lw_tbl := tk_6 (List.mem_of_getElem? (i := 174) (by decide +kernel))
theorem tw_1375 : (Cond.static ⟨"java/lang/StringUTF16", "putCharSB", "([BII)V"⟩) ∈ lw_tbl := tk_6 (List.mem_of_getElem? (i := 175) (by decide +kernel))
theorem tw_1376 : (Cond.code ⟨"java/lang/StringUTF16", "putCharSB", "([BII)V"⟩ prog_34_method_71_code 3 none) ∈ lw_tbl := tk_6 (List.mem_of_getElem? (i := 176) (by decide +kernel))
theorem tw_1377 : (Cond.methodLink "EchoCouncil" 337 ⟨"EchoCouncil", "writeEchoesIn", "(I)V"⟩) ∈ lw_tbl := tk_6 (List.mem_of_getElem? (i := 177) (by decide +kernel))
theorem tw_1378 : (Cond.privateMethod ⟨"EchoCouncil", "writeEchoesIn", "(I)V"⟩) ∈ lw_tbl := tk_6 (List.mem_of_getElem? (i := 178) (by decide +kernel))
theorem tw_1379 : (Cond.instanceMethod ⟨"EchoCouncil", "writeEchoesIn", "(I)V"⟩) ∈ lw_tbl := tk_6 (List.mem_of_getElem? (i := 179) (by decide +kernel))
theorem tw_1380 : (Cond.code ⟨"EchoCouncil", "writeEchoesIn", "(I)V"⟩ prog_1_method_69_code 3 none) ∈ lw_tbl := tk_6 (List.mem_of_getElem? (i := 180) (by decide +kernel))
theorem tw_1381 : (Cond.methodLink "EchoCouncil" 340 ⟨"EchoCouncil", "writeSingersIn", "(I)V"⟩) ∈ lw_tbl := tk_6 (List.mem_of_getElem? (i := 181) (by decide +kernel))
theorem tw_1382 : (Cond.privateMethod ⟨"EchoCouncil", "writeSingersIn", "(I)V"⟩) ∈ lw_tbl := tk_6 (List.mem_of_getElem? (i := 182) (by decide +kernel))
theorem tw_1383 : (Cond.instanceMethod ⟨"EchoCouncil", "writeSingersIn", "(I)V"⟩) ∈ lw_tbl := tk_6 (List.mem_of_getElem? (i := 183) (by decide +kernel))
theorem tw_1384 : (Cond.code ⟨"EchoCouncil", "writeSingersIn", "(I)V"⟩ prog_1_method_70_code 3 none) ∈ lw_tbl := tk_6 (List.mem_of_getElem? (i := 184) (by decide +kernel))
theorem tw_1385 : (Cond.methodLink "EchoCouncil" 343 ⟨"java/lang/StringBuilder", "length", "()I"⟩) ∈ lw_tbl := tk_6 (List.mem_of_getElem? (i := 185) (by decide +kernel))
theorem tw_1386 : (Cond.methodLink "EchoCouncilLaw" 269 ⟨"EchoCouncilLaw", "tellEcho", "(LEchoCouncil;I[J)I"⟩) ∈ lw_tbl := tk_6 (List.mem_of_getElem? (i := 186) (by decide +kernel))
theorem tw_1387 : (Cond.static ⟨"EchoCouncilLaw", "tellEcho", "(LEchoCouncil;I[J)I"⟩) ∈ lw_tbl := tk_6 (List.mem_of_getElem? (i := 187) (by decide +kernel))
theorem tw_1388 : (Cond.codeWith ⟨"EchoCouncilLaw", "tellEcho", "(LEchoCouncil;I[J)I"⟩ method_34_code 4 (some FieldType.int) [(0, 9, 12, 44)]) ∈ lw_tbl := tk_6 (List.mem_of_getElem? (i := 188) (by decide +kernel))
theorem tw_1389 : (Cond.methodLink "EchoCouncilLaw" 119 ⟨"EchoCouncil", "tellEcho", "(I)I"⟩) ∈ lw_tbl := tk_6 (List.mem_of_getElem? (i := 189) (by decide +kernel))
theorem tw_1390 : (Cond.instanceMethod ⟨"EchoCouncil", "tellEcho", "(I)I"⟩) ∈ lw_tbl := tk_6 (List.mem_of_getElem? (i := 190) (by decide +kernel))
theorem tw_1391 : (Cond.selects "EchoCouncil" ⟨"EchoCouncil", "tellEcho", "(I)I"⟩ ⟨"EchoCouncil", "tellEcho", "(I)I"⟩) ∈ lw_tbl := tk_6 (List.mem_of_getElem? (i := 191) (by decide +kernel))
theorem tw_1392 : (Cond.code ⟨"EchoCouncil", "tellEcho", "(I)I"⟩ prog_1_method_36_code 2 (some FieldType.int)) ∈ lw_tbl := tk_6 (List.mem_of_getElem? (i := 192) (by decide +kernel))
theorem tw_1393 : (Cond.methodLink "EchoCouncilLaw" 272 ⟨"EchoCouncilLaw", "tellSinger", "(LEchoCouncil;I[J)I"⟩) ∈ lw_tbl := tk_6 (List.mem_of_getElem? (i := 193) (by decide +kernel))
theorem tw_1394 : (Cond.static ⟨"EchoCouncilLaw", "tellSinger", "(LEchoCouncil;I[J)I"⟩) ∈ lw_tbl := tk_6 (List.mem_of_getElem? (i := 194) (by decide +kernel))
theorem tw_1395 : (Cond.codeWith ⟨"EchoCouncilLaw", "tellSinger", "(LEchoCouncil;I[J)I"⟩ method_35_code 4 (some FieldType.int) [(0, 9, 12, 44)]) ∈ lw_tbl := tk_6 (List.mem_of_getElem? (i := 195) (by decide +kernel))
theorem tw_1396 : (Cond.methodLink "EchoCouncilLaw" 122 ⟨"EchoCouncil", "tellSinger", "(I)I"⟩) ∈ lw_tbl := tk_6 (List.mem_of_getElem? (i := 196) (by decide +kernel))
theorem tw_1397 : (Cond.instanceMethod ⟨"EchoCouncil", "tellSinger", "(I)I"⟩) ∈ lw_tbl := tk_6 (List.mem_of_getElem? (i := 197) (by decide +kernel))
theorem tw_1398 : (Cond.selects "EchoCouncil" ⟨"EchoCouncil", "tellSinger", "(I)I"⟩ ⟨"EchoCouncil", "tellSinger", "(I)I"⟩) ∈ lw_tbl := tk_6 (List.mem_of_getElem? (i := 198) (by decide +kernel))
theorem tw_1399 : (Cond.code ⟨"EchoCouncil", "tellSinger", "(I)I"⟩ prog_1_method_37_code 2 (some FieldType.int)) ∈ lw_tbl := tk_6 (List.mem_of_getElem? (i := 199) (by decide +kernel))
theorem tw_1400 : (Cond.methodLink "EchoCouncilLaw" 275 ⟨"EchoCouncilLaw", "character", "(LEchoCouncil;I[J)I"⟩) ∈ lw_tbl := tk_6 (List.mem_of_getElem? (i := 200) (by decide +kernel))
theorem tw_1401 : (Cond.static ⟨"EchoCouncilLaw", "character", "(LEchoCouncil;I[J)I"⟩) ∈ lw_tbl := tk_6 (List.mem_of_getElem? (i := 201) (by decide +kernel))
theorem tw_1402 : (Cond.codeWith ⟨"EchoCouncilLaw", "character", "(LEchoCouncil;I[J)I"⟩ method_36_code 4 (some FieldType.int) [(0, 9, 12, 44)]) ∈ lw_tbl := tk_6 (List.mem_of_getElem? (i := 202) (by decide +kernel))
theorem tw_1403 : (Cond.methodLink "EchoCouncilLaw" 125 ⟨"EchoCouncil", "character", "(I)C"⟩) ∈ lw_tbl := tk_6 (List.mem_of_getElem? (i := 203) (by decide +kernel))
theorem tw_1404 : (Cond.instanceMethod ⟨"EchoCouncil", "character", "(I)C"⟩) ∈ lw_tbl := tk_6 (List.mem_of_getElem? (i := 204) (by decide +kernel))
theorem tw_1405 : (Cond.selects "EchoCouncil" ⟨"EchoCouncil", "character", "(I)C"⟩ ⟨"EchoCouncil", "character", "(I)C"⟩) ∈ lw_tbl := tk_6 (List.mem_of_getElem? (i := 205) (by decide +kernel))
theorem tw_1406 : (Cond.code ⟨"EchoCouncil", "character", "(I)C"⟩ prog_1_method_38_code 2 (some FieldType.char)) ∈ lw_tbl := tk_6 (List.mem_of_getElem? (i := 206) (by decide +kernel))
theorem tw_1407 : (Cond.stringRef "EchoCouncil" 347 "no such index in the line") ∈ lw_tbl := tk_6 (List.mem_of_getElem? (i := 207) (by decide +kernel))
theorem tw_1408 : (Cond.methodLink "EchoCouncil" 350 ⟨"java/lang/StringBuilder", "charAt", "(I)C"⟩) ∈ lw_tbl := tk_6 (List.mem_of_getElem? (i := 208) (by decide +kernel))
theorem tw_1409 : (Cond.instanceMethod ⟨"java/lang/StringBuilder", "charAt", "(I)C"⟩) ∈ lw_tbl := tk_6 (List.mem_of_getElem? (i := 209) (by decide +kernel))
theorem tw_1410 : (Cond.selects "java/lang/StringBuilder" ⟨"java/lang/StringBuilder", "charAt", "(I)C"⟩ ⟨"java/lang/StringBuilder", "charAt", "(I)C"⟩) ∈ lw_tbl := tk_6 (List.mem_of_getElem? (i := 210) (by decide +kernel))
theorem tw_1411 : (Cond.code ⟨"java/lang/StringBuilder", "charAt", "(I)C"⟩ prog_31_method_88_code 2 (some FieldType.char)) ∈ lw_tbl := tk_6 (List.mem_of_getElem? (i := 211) (by decide +kernel))
theorem tw_1412 : (Cond.methodLink "java/lang/StringBuilder" 329 ⟨"java/lang/AbstractStringBuilder", "charAt", "(I)C"⟩) ∈ lw_tbl := tk_6 (List.mem_of_getElem? (i := 212) (by decide +kernel))
theorem tw_1413 : (Cond.instanceMethod ⟨"java/lang/AbstractStringBuilder", "charAt", "(I)C"⟩) ∈ lw_tbl := tk_6 (List.mem_of_getElem? (i := 213) (by decide +kernel))
theorem tw_1414 : (Cond.code ⟨"java/lang/AbstractStringBuilder", "charAt", "(I)C"⟩ prog_14_method_14_code 5 (some FieldType.char)) ∈ lw_tbl := tk_6 (List.mem_of_getElem? (i := 214) (by decide +kernel))
theorem tw_1415 : (Cond.methodLink "java/lang/AbstractStringBuilder" 138 ⟨"java/lang/Math", "min", "(II)I"⟩) ∈ lw_tbl := tk_6 (List.mem_of_getElem? (i := 215) (by decide +kernel))
theorem tw_1416 : (Cond.methodLink "java/lang/AbstractStringBuilder" 144 ⟨"java/lang/String", "checkIndex", "(II)V"⟩) ∈ lw_tbl := tk_6 (List.mem_of_getElem? (i := 216) (by decide +kernel))
theorem tw_1417 : (Cond.methodLink "java/lang/AbstractStringBuilder" 148 ⟨"java/lang/StringUTF16", "getChar", "([BI)C"⟩) ∈ lw_tbl := tk_6 (List.mem_of_getElem? (i := 217) (by decide +kernel))
theorem tw_1418 : (Cond.methodLink "EchoCouncilLaw" 278 ⟨"EchoCouncilLaw", "account", "(LEchoCouncil;I[J)I"⟩) ∈ lw_tbl := tk_6 (List.mem_of_getElem? (i := 218) (by decide +kernel))
theorem tw_1419 : (Cond.static ⟨"EchoCouncilLaw", "account", "(LEchoCouncil;I[J)I"⟩) ∈ lw_tbl := tk_6 (List.mem_of_getElem? (i := 219) (by decide +kernel))
theorem tw_1420 : (Cond.codeWith ⟨"EchoCouncilLaw", "account", "(LEchoCouncil;I[J)I"⟩ method_37_code 4 (some FieldType.int) [(0, 9, 12, 46)]) ∈ lw_tbl := tk_6 (List.mem_of_getElem? (i := 220) (by decide +kernel))
theorem tw_1421 : (Cond.methodLink "EchoCouncilLaw" 129 ⟨"EchoCouncil", "account", "(I)I"⟩) ∈ lw_tbl := tk_6 (List.mem_of_getElem? (i := 221) (by decide +kernel))
theorem tw_1422 : (Cond.instanceMethod ⟨"EchoCouncil", "account", "(I)I"⟩) ∈ lw_tbl := tk_6 (List.mem_of_getElem? (i := 222) (by decide +kernel))
theorem tw_1423 : (Cond.selects "EchoCouncil" ⟨"EchoCouncil", "account", "(I)I"⟩ ⟨"EchoCouncil", "account", "(I)I"⟩) ∈ lw_tbl := tk_6 (List.mem_of_getElem? (i := 223) (by decide +kernel))
theorem tw_1424 : (Cond.code ⟨"EchoCouncil", "account", "(I)I"⟩ prog_1_method_39_code 2 (some FieldType.int)) ∈ lw_tbl := tk_6 (List.mem_of_getElem? (i := 224) (by decide +kernel))
theorem tw_1425 : (Cond.methodLink "EchoCouncil" 354 ⟨"EchoCouncil$State", "countLet", "()I"⟩) ∈ lw_tbl := tk_6 (List.mem_of_getElem? (i := 225) (by decide +kernel))
theorem tw_1426 : (Cond.instanceMethod ⟨"EchoCouncil$State", "countLet", "()I"⟩) ∈ lw_tbl := tk_6 (List.mem_of_getElem? (i := 226) (by decide +kernel))
theorem tw_1427 : (Cond.selects "EchoCouncil$State" ⟨"EchoCouncil$State", "countLet", "()I"⟩ ⟨"EchoCouncil$State", "countLet", "()I"⟩) ∈ lw_tbl := tk_6 (List.mem_of_getElem? (i := 227) (by decide +kernel))
theorem tw_1428 : (Cond.code ⟨"EchoCouncil$State", "countLet", "()I"⟩ prog_10_method_24_code 1 (some FieldType.int)) ∈ lw_tbl := tk_6 (List.mem_of_getElem? (i := 228) (by decide +kernel))
theorem tw_1429 : (Cond.methodLink "EchoCouncil$State" 122 ⟨"EchoCouncil$State", "countLetTo", "(I)I"⟩) ∈ lw_tbl := tk_6 (List.mem_of_getElem? (i := 229) (by decide +kernel))
theorem tw_1430 : (Cond.methodLink "EchoCouncil" 360 ⟨"EchoCouncil$State", "dampOfAll", "()I"⟩) ∈ lw_tbl := tk_6 (List.mem_of_getElem? (i := 230) (by decide +kernel))
theorem tw_1431 : (Cond.instanceMethod ⟨"EchoCouncil$State", "dampOfAll", "()I"⟩) ∈ lw_tbl := tk_6 (List.mem_of_getElem? (i := 231) (by decide +kernel))
theorem tw_1432 : (Cond.selects "EchoCouncil$State" ⟨"EchoCouncil$State", "dampOfAll", "()I"⟩ ⟨"EchoCouncil$State", "dampOfAll", "()I"⟩) ∈ lw_tbl := tk_6 (List.mem_of_getElem? (i := 232) (by decide +kernel))
theorem tw_1433 : (Cond.code ⟨"EchoCouncil$State", "dampOfAll", "()I"⟩ prog_10_method_27_code 3 (some FieldType.int)) ∈ lw_tbl := tk_6 (List.mem_of_getElem? (i := 233) (by decide +kernel))
theorem tw_1434 : (Cond.methodLink "EchoCouncil" 363 ⟨"EchoCouncil$State", "versesOfAll", "()I"⟩) ∈ lw_tbl := tk_6 (List.mem_of_getElem? (i := 234) (by decide +kernel))
theorem tw_1435 : (Cond.instanceMethod ⟨"EchoCouncil$State", "versesOfAll", "()I"⟩) ∈ lw_tbl := tk_6 (List.mem_of_getElem? (i := 235) (by decide +kernel))
theorem tw_1436 : (Cond.selects "EchoCouncil$State" ⟨"EchoCouncil$State", "versesOfAll", "()I"⟩ ⟨"EchoCouncil$State", "versesOfAll", "()I"⟩) ∈ lw_tbl := tk_6 (List.mem_of_getElem? (i := 236) (by decide +kernel))
theorem tw_1437 : (Cond.code ⟨"EchoCouncil$State", "versesOfAll", "()I"⟩ prog_10_method_28_code 3 (some FieldType.int)) ∈ lw_tbl := tk_6 (List.mem_of_getElem? (i := 237) (by decide +kernel))
theorem tw_1438 : (Cond.methodLink "EchoCouncil" 366 ⟨"EchoCouncil$State", "tonesOfAll", "()I"⟩) ∈ lw_tbl := tk_6 (List.mem_of_getElem? (i := 238) (by decide +kernel))
theorem tw_1439 : (Cond.instanceMethod ⟨"EchoCouncil$State", "tonesOfAll", "()I"⟩) ∈ lw_tbl := tk_6 (List.mem_of_getElem? (i := 239) (by decide +kernel))
theorem tw_1440 : (Cond.selects "EchoCouncil$State" ⟨"EchoCouncil$State", "tonesOfAll", "()I"⟩ ⟨"EchoCouncil$State", "tonesOfAll", "()I"⟩) ∈ lw_tbl := tk_7 (List.mem_of_getElem? (i := 0) (by decide +kernel))
theorem tw_1441 : (Cond.code ⟨"EchoCouncil$State", "tonesOfAll", "()I"⟩ prog_10_method_29_code 3 (some FieldType.int)) ∈ lw_tbl := tk_7 (List.mem_of_getElem? (i := 1) (by decide +kernel))
theorem tw_1442 : (Cond.stringRef "EchoCouncil" 370 "no such account") ∈ lw_tbl := tk_7 (List.mem_of_getElem? (i := 2) (by decide +kernel))
theorem tw_1443 : (Cond.methodLink "EchoCouncilLaw" 281 ⟨"EchoCouncilLaw", "meanDamp", "(LEchoCouncil;[D)I"⟩) ∈ lw_tbl := tk_7 (List.mem_of_getElem? (i := 3) (by decide +kernel))
theorem tw_1444 : (Cond.static ⟨"EchoCouncilLaw", "meanDamp", "(LEchoCouncil;[D)I"⟩) ∈ lw_tbl := tk_7 (List.mem_of_getElem? (i := 4) (by decide +kernel))
theorem tw_1445 : (Cond.codeWith ⟨"EchoCouncilLaw", "meanDamp", "(LEchoCouncil;[D)I"⟩ method_38_code 3 (some FieldType.int) [(0, 7, 10, 136)]) ∈ lw_tbl := tk_7 (List.mem_of_getElem? (i := 5) (by decide +kernel))
theorem tw_1446 : (Cond.classLink "EchoCouncilLaw" 136 "java/lang/ArithmeticException") ∈ lw_tbl := tk_7 (List.mem_of_getElem? (i := 6) (by decide +kernel))
theorem tw_1447 : (Cond.instantiable "java/lang/ArithmeticException" 6) ∈ lw_tbl := tk_7 (List.mem_of_getElem? (i := 7) (by decide +kernel))
theorem tw_1448 : (Cond.instanceMethod ⟨"java/lang/ArithmeticException", "<init>", "(Ljava/lang/String;)V"⟩) ∈ lw_tbl := tk_7 (List.mem_of_getElem? (i := 8) (by decide +kernel))
theorem tw_1449 : (Cond.code ⟨"java/lang/ArithmeticException", "<init>", "(Ljava/lang/String;)V"⟩ prog_16_method_2_code 2 none) ∈ lw_tbl := tk_7 (List.mem_of_getElem? (i := 9) (by decide +kernel))
theorem tw_1450 : (Cond.methodLink "java/lang/ArithmeticException" 7 ⟨"java/lang/RuntimeException", "<init>", "(Ljava/lang/String;)V"⟩) ∈ lw_tbl := tk_7 (List.mem_of_getElem? (i := 10) (by decide +kernel))
theorem tw_1451 : (Cond.lays "java/lang/ArithmeticException" "java/lang/Throwable" "backtrace" "Ljava/lang/Object;") ∈ lw_tbl := tk_7 (List.mem_of_getElem? (i := 11) (by decide +kernel))
theorem tw_1452 : (Cond.lays "java/lang/ArithmeticException" "java/lang/Throwable" "detailMessage" "Ljava/lang/String;") ∈ lw_tbl := tk_7 (List.mem_of_getElem? (i := 12) (by decide +kernel))
theorem tw_1453 : (Cond.lays "java/lang/ArithmeticException" "java/lang/Throwable" "cause" "Ljava/lang/Throwable;") ∈ lw_tbl := tk_7 (List.mem_of_getElem? (i := 13) (by decide +kernel))
theorem tw_1454 : (Cond.lays "java/lang/ArithmeticException" "java/lang/Throwable" "stackTrace" "[Ljava/lang/StackTraceElement;") ∈ lw_tbl := tk_7 (List.mem_of_getElem? (i := 14) (by decide +kernel))
theorem tw_1455 : (Cond.lays "java/lang/ArithmeticException" "java/lang/Throwable" "depth" "I") ∈ lw_tbl := tk_7 (List.mem_of_getElem? (i := 15) (by decide +kernel))
theorem tw_1456 : (Cond.lays "java/lang/ArithmeticException" "java/lang/Throwable" "suppressedExceptions" "Ljava/util/List;") ∈ lw_tbl := tk_7 (List.mem_of_getElem? (i := 16) (by decide +kernel))
theorem tw_1457 : (Cond.superclass "java/lang/ArithmeticException" "java/lang/RuntimeException") ∈ lw_tbl := tk_7 (List.mem_of_getElem? (i := 17) (by decide +kernel))
theorem tw_1458 : (Cond.castable "java/lang/ArithmeticException" "java/lang/ArithmeticException") ∈ lw_tbl := tk_7 (List.mem_of_getElem? (i := 18) (by decide +kernel))
theorem tw_1459 : (Cond.selects "java/lang/ArithmeticException" ⟨"java/lang/Throwable", "fillInStackTrace", "(I)Ljava/lang/Throwable;"⟩ ⟨"java/lang/Throwable", "fillInStackTrace", "(I)Ljava/lang/Throwable;"⟩) ∈ lw_tbl := tk_7 (List.mem_of_getElem? (i := 19) (by decide +kernel))
theorem tw_1460 : (Cond.methodLink "EchoCouncilLaw" 132 ⟨"EchoCouncil", "meanDamp", "()D"⟩) ∈ lw_tbl := tk_7 (List.mem_of_getElem? (i := 20) (by decide +kernel))
theorem tw_1461 : (Cond.instanceMethod ⟨"EchoCouncil", "meanDamp", "()D"⟩) ∈ lw_tbl := tk_7 (List.mem_of_getElem? (i := 21) (by decide +kernel))
theorem tw_1462 : (Cond.selects "EchoCouncil" ⟨"EchoCouncil", "meanDamp", "()D"⟩ ⟨"EchoCouncil", "meanDamp", "()D"⟩) ∈ lw_tbl := tk_7 (List.mem_of_getElem? (i := 22) (by decide +kernel))
theorem tw_1463 : (Cond.code ⟨"EchoCouncil", "meanDamp", "()D"⟩ prog_1_method_40_code 1 (some FieldType.double)) ∈ lw_tbl := tk_7 (List.mem_of_getElem? (i := 23) (by decide +kernel))
theorem tw_1464 : (Cond.classLink "EchoCouncil" 372 "java/lang/ArithmeticException") ∈ lw_tbl := tk_7 (List.mem_of_getElem? (i := 24) (by decide +kernel))
theorem tw_1465 : (Cond.methodLink "EchoCouncil" 374 ⟨"java/lang/ArithmeticException", "<init>", "(Ljava/lang/String;)V"⟩) ∈ lw_tbl := tk_7 (List.mem_of_getElem? (i := 25) (by decide +kernel))
theorem tw_1466 : (Cond.methodLink "EchoCouncilLaw" 285 ⟨"EchoCouncilLaw", "letShare", "(LEchoCouncil;[D)I"⟩) ∈ lw_tbl := tk_7 (List.mem_of_getElem? (i := 26) (by decide +kernel))
theorem tw_1467 : (Cond.static ⟨"EchoCouncilLaw", "letShare", "(LEchoCouncil;[D)I"⟩) ∈ lw_tbl := tk_7 (List.mem_of_getElem? (i := 27) (by decide +kernel))
theorem tw_1468 : (Cond.codeWith ⟨"EchoCouncilLaw", "letShare", "(LEchoCouncil;[D)I"⟩ method_39_code 3 (some FieldType.int) [(0, 8, 11, 136)]) ∈ lw_tbl := tk_7 (List.mem_of_getElem? (i := 28) (by decide +kernel))
theorem tw_1469 : (Cond.methodLink "EchoCouncilLaw" 138 ⟨"EchoCouncil", "letShare", "()F"⟩) ∈ lw_tbl := tk_7 (List.mem_of_getElem? (i := 29) (by decide +kernel))
theorem tw_1470 : (Cond.instanceMethod ⟨"EchoCouncil", "letShare", "()F"⟩) ∈ lw_tbl := tk_7 (List.mem_of_getElem? (i := 30) (by decide +kernel))
theorem tw_1471 : (Cond.selects "EchoCouncil" ⟨"EchoCouncil", "letShare", "()F"⟩ ⟨"EchoCouncil", "letShare", "()F"⟩) ∈ lw_tbl := tk_7 (List.mem_of_getElem? (i := 31) (by decide +kernel))
theorem tw_1472 : (Cond.code ⟨"EchoCouncil", "letShare", "()F"⟩ prog_1_method_41_code 1 (some FieldType.float)) ∈ lw_tbl := tk_7 (List.mem_of_getElem? (i := 32) (by decide +kernel))
theorem tw_1473 : (Cond.stringRef "EchoCouncil" 375 "there are no echoes") ∈ lw_tbl := tk_7 (List.mem_of_getElem? (i := 33) (by decide +kernel))
theorem tw_1474 : (Cond.methodLink "EchoCouncilLaw" 288 ⟨"EchoCouncilLaw", "undo", "(LEchoCouncil;[J)I"⟩) ∈ lw_tbl := tk_7 (List.mem_of_getElem? (i := 34) (by decide +kernel))
theorem tw_1475 : (Cond.static ⟨"EchoCouncilLaw", "undo", "(LEchoCouncil;[J)I"⟩) ∈ lw_tbl := tk_7 (List.mem_of_getElem? (i := 35) (by decide +kernel))
theorem tw_1476 : (Cond.codeWith ⟨"EchoCouncilLaw", "undo", "(LEchoCouncil;[J)I"⟩ method_40_code 3 (some FieldType.int) [(0, 8, 11, 106)]) ∈ lw_tbl := tk_7 (List.mem_of_getElem? (i := 36) (by decide +kernel))
theorem tw_1477 : (Cond.methodLink "EchoCouncilLaw" 142 ⟨"EchoCouncil", "undo", "()I"⟩) ∈ lw_tbl := tk_7 (List.mem_of_getElem? (i := 37) (by decide +kernel))
theorem tw_1478 : (Cond.instanceMethod ⟨"EchoCouncil", "undo", "()I"⟩) ∈ lw_tbl := tk_7 (List.mem_of_getElem? (i := 38) (by decide +kernel))
theorem tw_1479 : (Cond.selects "EchoCouncil" ⟨"EchoCouncil", "undo", "()I"⟩ ⟨"EchoCouncil", "undo", "()I"⟩) ∈ lw_tbl := tk_7 (List.mem_of_getElem? (i := 39) (by decide +kernel))
theorem tw_1480 : (Cond.code ⟨"EchoCouncil", "undo", "()I"⟩ prog_1_method_42_code 1 (some FieldType.int)) ∈ lw_tbl := tk_7 (List.mem_of_getElem? (i := 40) (by decide +kernel))
theorem tw_1481 : (Cond.stringRef "EchoCouncil" 377 "there is no change to undo") ∈ lw_tbl := tk_7 (List.mem_of_getElem? (i := 41) (by decide +kernel))
theorem tw_1482 : (Cond.methodLink "EchoCouncil" 379 ⟨"EchoCouncil$Past", "takeBackInto", "(LEchoCouncil$State;)V"⟩) ∈ lw_tbl := tk_7 (List.mem_of_getElem? (i := 42) (by decide +kernel))
theorem tw_1483 : (Cond.instanceMethod ⟨"EchoCouncil$Past", "takeBackInto", "(LEchoCouncil$State;)V"⟩) ∈ lw_tbl := tk_7 (List.mem_of_getElem? (i := 43) (by decide +kernel))
theorem tw_1484 : (Cond.selects "EchoCouncil$Past" ⟨"EchoCouncil$Past", "takeBackInto", "(LEchoCouncil$State;)V"⟩ ⟨"EchoCouncil$Past", "takeBackInto", "(LEchoCouncil$State;)V"⟩) ∈ lw_tbl := tk_7 (List.mem_of_getElem? (i := 44) (by decide +kernel))
theorem tw_1485 : (Cond.code ⟨"EchoCouncil$Past", "takeBackInto", "(LEchoCouncil$State;)V"⟩ prog_6_method_3_code 2 none) ∈ lw_tbl := tk_7 (List.mem_of_getElem? (i := 45) (by decide +kernel))
theorem tw_1486 : (Cond.methodLink "EchoCouncilLaw" 295 ⟨"EchoCouncilLaw", "restore", "(LEchoCouncil;[J)I"⟩) ∈ lw_tbl := tk_7 (List.mem_of_getElem? (i := 46) (by decide +kernel))
theorem tw_1487 : (Cond.static ⟨"EchoCouncilLaw", "restore", "(LEchoCouncil;[J)I"⟩) ∈ lw_tbl := tk_7 (List.mem_of_getElem? (i := 47) (by decide +kernel))
theorem tw_1488 : (Cond.codeWith ⟨"EchoCouncilLaw", "restore", "(LEchoCouncil;[J)I"⟩ method_41_code 3 (some FieldType.int) [(0, 8, 11, 106)]) ∈ lw_tbl := tk_7 (List.mem_of_getElem? (i := 48) (by decide +kernel))
theorem tw_1489 : (Cond.methodLink "EchoCouncilLaw" 145 ⟨"EchoCouncil", "restore", "()I"⟩) ∈ lw_tbl := tk_7 (List.mem_of_getElem? (i := 49) (by decide +kernel))
theorem tw_1490 : (Cond.instanceMethod ⟨"EchoCouncil", "restore", "()I"⟩) ∈ lw_tbl := tk_7 (List.mem_of_getElem? (i := 50) (by decide +kernel))
theorem tw_1491 : (Cond.selects "EchoCouncil" ⟨"EchoCouncil", "restore", "()I"⟩ ⟨"EchoCouncil", "restore", "()I"⟩) ∈ lw_tbl := tk_7 (List.mem_of_getElem? (i := 51) (by decide +kernel))
theorem tw_1492 : (Cond.code ⟨"EchoCouncil", "restore", "()I"⟩ prog_1_method_44_code 1 (some FieldType.int)) ∈ lw_tbl := tk_7 (List.mem_of_getElem? (i := 52) (by decide +kernel))
theorem tw_1493 : (Cond.stringRef "EchoCouncil" 388 "nothing was saved") ∈ lw_tbl := tk_7 (List.mem_of_getElem? (i := 53) (by decide +kernel))
theorem tw_1494 : (Cond.methodLink "EchoCouncil" 390 ⟨"EchoCouncil$Past", "forget", "()V"⟩) ∈ lw_tbl := tk_7 (List.mem_of_getElem? (i := 54) (by decide +kernel))
theorem tw_1495 : (Cond.instanceMethod ⟨"EchoCouncil$Past", "forget", "()V"⟩) ∈ lw_tbl := tk_7 (List.mem_of_getElem? (i := 55) (by decide +kernel))
theorem tw_1496 : (Cond.selects "EchoCouncil$Past" ⟨"EchoCouncil$Past", "forget", "()V"⟩ ⟨"EchoCouncil$Past", "forget", "()V"⟩) ∈ lw_tbl := tk_7 (List.mem_of_getElem? (i := 56) (by decide +kernel))
theorem tw_1497 : (Cond.code ⟨"EchoCouncil$Past", "forget", "()V"⟩ prog_6_method_4_code 1 none) ∈ lw_tbl := tk_7 (List.mem_of_getElem? (i := 57) (by decide +kernel))
theorem tw_1498 : (Cond.classLink "EchoCouncilLaw" 149 "EchoCouncilModel") ∈ lw_tbl := tk_7 (List.mem_of_getElem? (i := 58) (by decide +kernel))
theorem tw_1499 : (Cond.instantiable "EchoCouncilModel" 23) ∈ lw_tbl := tk_7 (List.mem_of_getElem? (i := 59) (by decide +kernel))
theorem tw_1500 : (Cond.methodLink "EchoCouncilLaw" 151 ⟨"EchoCouncilModel", "<init>", "()V"⟩) ∈ lw_tbl := tk_7 (List.mem_of_getElem? (i := 60) (by decide +kernel))
theorem tw_1501 : (Cond.instanceMethod ⟨"EchoCouncilModel", "<init>", "()V"⟩) ∈ lw_tbl := tk_7 (List.mem_of_getElem? (i := 61) (by decide +kernel))
theorem tw_1502 : (Cond.code ⟨"EchoCouncilModel", "<init>", "()V"⟩ prog_12_method_1_code 1 none) ∈ lw_tbl := tk_7 (List.mem_of_getElem? (i := 62) (by decide +kernel))
theorem tw_1503 : (Cond.methodLink "EchoCouncilModel" 3 ⟨"java/lang/Object", "<init>", "()V"⟩) ∈ lw_tbl := tk_7 (List.mem_of_getElem? (i := 63) (by decide +kernel))
theorem tw_1504 : (Cond.fieldLink "EchoCouncilModel" 9 "EchoCouncilModel" "now" "[I") ∈ lw_tbl := tk_7 (List.mem_of_getElem? (i := 64) (by decide +kernel))
theorem tw_1505 : (Cond.fieldLink "EchoCouncilModel" 13 "EchoCouncilModel" "before" "[I") ∈ lw_tbl := tk_7 (List.mem_of_getElem? (i := 65) (by decide +kernel))
theorem tw_1506 : (Cond.fieldLink "EchoCouncilModel" 16 "EchoCouncilModel" "saved" "[I") ∈ lw_tbl := tk_7 (List.mem_of_getElem? (i := 66) (by decide +kernel))
theorem tw_1507 : (Cond.fieldLink "EchoCouncilModel" 19 "EchoCouncilModel" "history" "[I") ∈ lw_tbl := tk_7 (List.mem_of_getElem? (i := 67) (by decide +kernel))
theorem tw_1508 : (Cond.fieldLink "EchoCouncilModel" 78 "EchoCouncilModel" "isSaved" "Z") ∈ lw_tbl := tk_7 (List.mem_of_getElem? (i := 68) (by decide +kernel))
theorem tw_1509 : (Cond.fieldLink "EchoCouncilModel" 48 "EchoCouncilModel" "remembered" "I") ∈ lw_tbl := tk_7 (List.mem_of_getElem? (i := 69) (by decide +kernel))
theorem tw_1510 : (Cond.fieldLink "EchoCouncilModel" 51 "EchoCouncilModel" "reason" "I") ∈ lw_tbl := tk_7 (List.mem_of_getElem? (i := 70) (by decide +kernel))
theorem tw_1511 : (Cond.fieldLink "EchoCouncilModel" 54 "EchoCouncilModel" "detail" "I") ∈ lw_tbl := tk_7 (List.mem_of_getElem? (i := 71) (by decide +kernel))
theorem tw_1512 : (Cond.fieldLink "EchoCouncilModel" 57 "EchoCouncilModel" "cause" "I") ∈ lw_tbl := tk_7 (List.mem_of_getElem? (i := 72) (by decide +kernel))
theorem tw_1513 : (Cond.fieldLink "EchoCouncilModel" 60 "EchoCouncilModel" "causeDetail" "I") ∈ lw_tbl := tk_7 (List.mem_of_getElem? (i := 73) (by decide +kernel))
theorem tw_1514 : (Cond.fieldLink "EchoCouncilModel" 22 "EchoCouncilModel" "faultAt" "I") ∈ lw_tbl := tk_7 (List.mem_of_getElem? (i := 74) (by decide +kernel))
theorem tw_1515 : (Cond.fieldLink "EchoCouncilModel" 26 "EchoCouncilModel" "text" "[I") ∈ lw_tbl := tk_7 (List.mem_of_getElem? (i := 75) (by decide +kernel))
theorem tw_1516 : (Cond.fieldLink "EchoCouncilModel" 214 "EchoCouncilModel" "typed" "I") ∈ lw_tbl := tk_7 (List.mem_of_getElem? (i := 76) (by decide +kernel))
theorem tw_1517 : (Cond.fieldLink "EchoCouncilModel" 29 "EchoCouncilModel" "line" "[I") ∈ lw_tbl := tk_7 (List.mem_of_getElem? (i := 77) (by decide +kernel))
theorem tw_1518 : (Cond.fieldLink "EchoCouncilModel" 205 "EchoCouncilModel" "lined" "I") ∈ lw_tbl := tk_7 (List.mem_of_getElem? (i := 78) (by decide +kernel))
theorem tw_1519 : (Cond.fieldLink "EchoCouncilModel" 35 "EchoCouncilModel" "thrown" "I") ∈ lw_tbl := tk_7 (List.mem_of_getElem? (i := 79) (by decide +kernel))
theorem tw_1520 : (Cond.fieldLink "EchoCouncilModel" 38 "EchoCouncilModel" "why" "I") ∈ lw_tbl := tk_7 (List.mem_of_getElem? (i := 80) (by decide +kernel))
theorem tw_1521 : (Cond.fieldLink "EchoCouncilModel" 41 "EchoCouncilModel" "what" "I") ∈ lw_tbl := tk_7 (List.mem_of_getElem? (i := 81) (by decide +kernel))
theorem tw_1522 : (Cond.fieldLink "EchoCouncilModel" 220 "EchoCouncilModel" "size" "I") ∈ lw_tbl := tk_7 (List.mem_of_getElem? (i := 82) (by decide +kernel))
theorem tw_1523 : (Cond.fieldLink "EchoCouncilModel" 217 "EchoCouncilModel" "place" "I") ∈ lw_tbl := tk_7 (List.mem_of_getElem? (i := 83) (by decide +kernel))
theorem tw_1524 : (Cond.fieldLink "EchoCouncilModel" 223 "EchoCouncilModel" "wrong" "I") ∈ lw_tbl := tk_7 (List.mem_of_getElem? (i := 84) (by decide +kernel))
theorem tw_1525 : (Cond.fieldLink "EchoCouncilModel" 246 "EchoCouncilModel" "told" "I") ∈ lw_tbl := tk_7 (List.mem_of_getElem? (i := 85) (by decide +kernel))
theorem tw_1526 : (Cond.fieldLink "EchoCouncilModel" 32 "EchoCouncilModel" "numbers" "[I") ∈ lw_tbl := tk_7 (List.mem_of_getElem? (i := 86) (by decide +kernel))
theorem tw_1527 : (Cond.laysFinal "EchoCouncilModel" "EchoCouncilModel" "now" "[I") ∈ lw_tbl := tk_7 (List.mem_of_getElem? (i := 87) (by decide +kernel))
theorem tw_1528 : (Cond.soleField "EchoCouncilModel" "now") ∈ lw_tbl := tk_7 (List.mem_of_getElem? (i := 88) (by decide +kernel))
theorem tw_1529 : (Cond.laysFinal "EchoCouncilModel" "EchoCouncilModel" "before" "[I") ∈ lw_tbl := tk_7 (List.mem_of_getElem? (i := 89) (by decide +kernel))
theorem tw_1530 : (Cond.soleField "EchoCouncilModel" "before") ∈ lw_tbl := tk_7 (List.mem_of_getElem? (i := 90) (by decide +kernel))
theorem tw_1531 : (Cond.laysFinal "EchoCouncilModel" "EchoCouncilModel" "saved" "[I") ∈ lw_tbl := tk_7 (List.mem_of_getElem? (i := 91) (by decide +kernel))
theorem tw_1532 : (Cond.soleField "EchoCouncilModel" "saved") ∈ lw_tbl := tk_7 (List.mem_of_getElem? (i := 92) (by decide +kernel))
theorem tw_1533 : (Cond.laysFinal "EchoCouncilModel" "EchoCouncilModel" "history" "[I") ∈ lw_tbl := tk_7 (List.mem_of_getElem? (i := 93) (by decide +kernel))
theorem tw_1534 : (Cond.soleField "EchoCouncilModel" "history") ∈ lw_tbl := tk_7 (List.mem_of_getElem? (i := 94) (by decide +kernel))
theorem tw_1535 : (Cond.lays "EchoCouncilModel" "EchoCouncilModel" "isSaved" "Z") ∈ lw_tbl := tk_7 (List.mem_of_getElem? (i := 95) (by decide +kernel))
theorem tw_1536 : (Cond.soleField "EchoCouncilModel" "isSaved") ∈ lw_tbl := tk_7 (List.mem_of_getElem? (i := 96) (by decide +kernel))
theorem tw_1537 : (Cond.lays "EchoCouncilModel" "EchoCouncilModel" "remembered" "I") ∈ lw_tbl := tk_7 (List.mem_of_getElem? (i := 97) (by decide +kernel))
theorem tw_1538 : (Cond.soleField "EchoCouncilModel" "remembered") ∈ lw_tbl := tk_7 (List.mem_of_getElem? (i := 98) (by decide +kernel))
theorem tw_1539 : (Cond.lays "EchoCouncilModel" "EchoCouncilModel" "reason" "I") ∈ lw_tbl := tk_7 (List.mem_of_getElem? (i := 99) (by decide +kernel))
theorem tw_1540 : (Cond.soleField "EchoCouncilModel" "reason") ∈ lw_tbl := tk_7 (List.mem_of_getElem? (i := 100) (by decide +kernel))
theorem tw_1541 : (Cond.lays "EchoCouncilModel" "EchoCouncilModel" "detail" "I") ∈ lw_tbl := tk_7 (List.mem_of_getElem? (i := 101) (by decide +kernel))
theorem tw_1542 : (Cond.soleField "EchoCouncilModel" "detail") ∈ lw_tbl := tk_7 (List.mem_of_getElem? (i := 102) (by decide +kernel))
theorem tw_1543 : (Cond.lays "EchoCouncilModel" "EchoCouncilModel" "cause" "I") ∈ lw_tbl := tk_7 (List.mem_of_getElem? (i := 103) (by decide +kernel))
theorem tw_1544 : (Cond.soleField "EchoCouncilModel" "cause") ∈ lw_tbl := tk_7 (List.mem_of_getElem? (i := 104) (by decide +kernel))
theorem tw_1545 : (Cond.lays "EchoCouncilModel" "EchoCouncilModel" "causeDetail" "I") ∈ lw_tbl := tk_7 (List.mem_of_getElem? (i := 105) (by decide +kernel))
theorem tw_1546 : (Cond.soleField "EchoCouncilModel" "causeDetail") ∈ lw_tbl := tk_7 (List.mem_of_getElem? (i := 106) (by decide +kernel))
theorem tw_1547 : (Cond.lays "EchoCouncilModel" "EchoCouncilModel" "faultAt" "I") ∈ lw_tbl := tk_7 (List.mem_of_getElem? (i := 107) (by decide +kernel))
theorem tw_1548 : (Cond.soleField "EchoCouncilModel" "faultAt") ∈ lw_tbl := tk_7 (List.mem_of_getElem? (i := 108) (by decide +kernel))
theorem tw_1549 : (Cond.laysFinal "EchoCouncilModel" "EchoCouncilModel" "text" "[I") ∈ lw_tbl := tk_7 (List.mem_of_getElem? (i := 109) (by decide +kernel))
theorem tw_1550 : (Cond.soleField "EchoCouncilModel" "text") ∈ lw_tbl := tk_7 (List.mem_of_getElem? (i := 110) (by decide +kernel))
theorem tw_1551 : (Cond.lays "EchoCouncilModel" "EchoCouncilModel" "typed" "I") ∈ lw_tbl := tk_7 (List.mem_of_getElem? (i := 111) (by decide +kernel))
theorem tw_1552 : (Cond.soleField "EchoCouncilModel" "typed") ∈ lw_tbl := tk_7 (List.mem_of_getElem? (i := 112) (by decide +kernel))
theorem tw_1553 : (Cond.laysFinal "EchoCouncilModel" "EchoCouncilModel" "line" "[I") ∈ lw_tbl := tk_7 (List.mem_of_getElem? (i := 113) (by decide +kernel))
theorem tw_1554 : (Cond.soleField "EchoCouncilModel" "line") ∈ lw_tbl := tk_7 (List.mem_of_getElem? (i := 114) (by decide +kernel))
theorem tw_1555 : (Cond.lays "EchoCouncilModel" "EchoCouncilModel" "lined" "I") ∈ lw_tbl := tk_7 (List.mem_of_getElem? (i := 115) (by decide +kernel))
theorem tw_1556 : (Cond.soleField "EchoCouncilModel" "lined") ∈ lw_tbl := tk_7 (List.mem_of_getElem? (i := 116) (by decide +kernel))
theorem tw_1557 : (Cond.lays "EchoCouncilModel" "EchoCouncilModel" "thrown" "I") ∈ lw_tbl := tk_7 (List.mem_of_getElem? (i := 117) (by decide +kernel))
theorem tw_1558 : (Cond.soleField "EchoCouncilModel" "thrown") ∈ lw_tbl := tk_7 (List.mem_of_getElem? (i := 118) (by decide +kernel))
theorem tw_1559 : (Cond.lays "EchoCouncilModel" "EchoCouncilModel" "why" "I") ∈ lw_tbl := tk_7 (List.mem_of_getElem? (i := 119) (by decide +kernel))
theorem tw_1560 : (Cond.soleField "EchoCouncilModel" "why") ∈ lw_tbl := tk_7 (List.mem_of_getElem? (i := 120) (by decide +kernel))
theorem tw_1561 : (Cond.lays "EchoCouncilModel" "EchoCouncilModel" "what" "I") ∈ lw_tbl := tk_7 (List.mem_of_getElem? (i := 121) (by decide +kernel))
theorem tw_1562 : (Cond.soleField "EchoCouncilModel" "what") ∈ lw_tbl := tk_7 (List.mem_of_getElem? (i := 122) (by decide +kernel))
theorem tw_1563 : (Cond.lays "EchoCouncilModel" "EchoCouncilModel" "size" "I") ∈ lw_tbl := tk_7 (List.mem_of_getElem? (i := 123) (by decide +kernel))
theorem tw_1564 : (Cond.soleField "EchoCouncilModel" "size") ∈ lw_tbl := tk_7 (List.mem_of_getElem? (i := 124) (by decide +kernel))
theorem tw_1565 : (Cond.lays "EchoCouncilModel" "EchoCouncilModel" "place" "I") ∈ lw_tbl := tk_7 (List.mem_of_getElem? (i := 125) (by decide +kernel))
theorem tw_1566 : (Cond.soleField "EchoCouncilModel" "place") ∈ lw_tbl := tk_7 (List.mem_of_getElem? (i := 126) (by decide +kernel))
theorem tw_1567 : (Cond.lays "EchoCouncilModel" "EchoCouncilModel" "wrong" "I") ∈ lw_tbl := tk_7 (List.mem_of_getElem? (i := 127) (by decide +kernel))
theorem tw_1568 : (Cond.soleField "EchoCouncilModel" "wrong") ∈ lw_tbl := tk_7 (List.mem_of_getElem? (i := 128) (by decide +kernel))
theorem tw_1569 : (Cond.lays "EchoCouncilModel" "EchoCouncilModel" "told" "I") ∈ lw_tbl := tk_7 (List.mem_of_getElem? (i := 129) (by decide +kernel))
theorem tw_1570 : (Cond.soleField "EchoCouncilModel" "told") ∈ lw_tbl := tk_7 (List.mem_of_getElem? (i := 130) (by decide +kernel))
theorem tw_1571 : (Cond.laysFinal "EchoCouncilModel" "EchoCouncilModel" "numbers" "[I") ∈ lw_tbl := tk_7 (List.mem_of_getElem? (i := 131) (by decide +kernel))
theorem tw_1572 : (Cond.soleField "EchoCouncilModel" "numbers") ∈ lw_tbl := tk_7 (List.mem_of_getElem? (i := 132) (by decide +kernel))
theorem tw_1573 : (Cond.superclass "EchoCouncilModel" "java/lang/Object") ∈ lw_tbl := tk_7 (List.mem_of_getElem? (i := 133) (by decide +kernel))
theorem tw_1574 : (Cond.methodLink "EchoCouncilLaw" 158 ⟨"EchoCouncilModel", "thrown", "()I"⟩) ∈ lw_tbl := tk_7 (List.mem_of_getElem? (i := 134) (by decide +kernel))
theorem tw_1575 : (Cond.instanceMethod ⟨"EchoCouncilModel", "thrown", "()I"⟩) ∈ lw_tbl := tk_7 (List.mem_of_getElem? (i := 135) (by decide +kernel))
theorem tw_1576 : (Cond.selects "EchoCouncilModel" ⟨"EchoCouncilModel", "thrown", "()I"⟩ ⟨"EchoCouncilModel", "thrown", "()I"⟩) ∈ lw_tbl := tk_7 (List.mem_of_getElem? (i := 136) (by decide +kernel))
theorem tw_1577 : (Cond.code ⟨"EchoCouncilModel", "thrown", "()I"⟩ prog_12_method_2_code 1 (some FieldType.int)) ∈ lw_tbl := tk_7 (List.mem_of_getElem? (i := 137) (by decide +kernel))
theorem tw_1578 : (Cond.methodLink "EchoCouncilLaw" 265 ⟨"EchoCouncilModel", "reason", "(IZ)I"⟩) ∈ lw_tbl := tk_7 (List.mem_of_getElem? (i := 138) (by decide +kernel))
theorem tw_1579 : (Cond.instanceMethod ⟨"EchoCouncilModel", "reason", "(IZ)I"⟩) ∈ lw_tbl := tk_7 (List.mem_of_getElem? (i := 139) (by decide +kernel))
theorem tw_1580 : (Cond.selects "EchoCouncilModel" ⟨"EchoCouncilModel", "reason", "(IZ)I"⟩ ⟨"EchoCouncilModel", "reason", "(IZ)I"⟩) ∈ lw_tbl := tk_7 (List.mem_of_getElem? (i := 140) (by decide +kernel))
theorem tw_1581 : (Cond.code ⟨"EchoCouncilModel", "reason", "(IZ)I"⟩ prog_12_method_11_code 4 (some FieldType.int)) ∈ lw_tbl := tk_7 (List.mem_of_getElem? (i := 141) (by decide +kernel))
theorem tw_1582 : (Cond.methodLink "EchoCouncilModel" 70 ⟨"EchoCouncilModel", "isIn", "(III)Z"⟩) ∈ lw_tbl := tk_7 (List.mem_of_getElem? (i := 142) (by decide +kernel))
theorem tw_1583 : (Cond.static ⟨"EchoCouncilModel", "isIn", "(III)Z"⟩) ∈ lw_tbl := tk_7 (List.mem_of_getElem? (i := 143) (by decide +kernel))
theorem tw_1584 : (Cond.code ⟨"EchoCouncilModel", "isIn", "(III)Z"⟩ prog_12_method_3_code 3 (some FieldType.boolean)) ∈ lw_tbl := tk_7 (List.mem_of_getElem? (i := 144) (by decide +kernel))
theorem tw_1585 : (Cond.methodLink "EchoCouncilModel" 74 ⟨"EchoCouncilModel", "goes", "(ZZ)Z"⟩) ∈ lw_tbl := tk_7 (List.mem_of_getElem? (i := 145) (by decide +kernel))
theorem tw_1586 : (Cond.privateMethod ⟨"EchoCouncilModel", "goes", "(ZZ)Z"⟩) ∈ lw_tbl := tk_7 (List.mem_of_getElem? (i := 146) (by decide +kernel))
theorem tw_1587 : (Cond.instanceMethod ⟨"EchoCouncilModel", "goes", "(ZZ)Z"⟩) ∈ lw_tbl := tk_7 (List.mem_of_getElem? (i := 147) (by decide +kernel))
theorem tw_1588 : (Cond.code ⟨"EchoCouncilModel", "goes", "(ZZ)Z"⟩ prog_12_method_5_code 3 (some FieldType.boolean)) ∈ lw_tbl := tk_7 (List.mem_of_getElem? (i := 148) (by decide +kernel))
theorem tw_1589 : (Cond.methodLink "EchoCouncilLaw" 290 ⟨"EchoCouncilModel", "undo", "()I"⟩) ∈ lw_tbl := tk_7 (List.mem_of_getElem? (i := 149) (by decide +kernel))
theorem tw_1590 : (Cond.instanceMethod ⟨"EchoCouncilModel", "undo", "()I"⟩) ∈ lw_tbl := tk_7 (List.mem_of_getElem? (i := 150) (by decide +kernel))
theorem tw_1591 : (Cond.selects "EchoCouncilModel" ⟨"EchoCouncilModel", "undo", "()I"⟩ ⟨"EchoCouncilModel", "undo", "()I"⟩) ∈ lw_tbl := tk_7 (List.mem_of_getElem? (i := 151) (by decide +kernel))
theorem tw_1592 : (Cond.code ⟨"EchoCouncilModel", "undo", "()I"⟩ prog_12_method_12_code 1 (some FieldType.int)) ∈ lw_tbl := tk_7 (List.mem_of_getElem? (i := 152) (by decide +kernel))
theorem tw_1593 : (Cond.methodLink "EchoCouncilModel" 44 ⟨"EchoCouncilModel", "copies", "([II[II)V"⟩) ∈ lw_tbl := tk_7 (List.mem_of_getElem? (i := 153) (by decide +kernel))
theorem tw_1594 : (Cond.static ⟨"EchoCouncilModel", "copies", "([II[II)V"⟩) ∈ lw_tbl := tk_7 (List.mem_of_getElem? (i := 154) (by decide +kernel))
theorem tw_1595 : (Cond.code ⟨"EchoCouncilModel", "copies", "([II[II)V"⟩ prog_12_method_4_code 5 none) ∈ lw_tbl := tk_7 (List.mem_of_getElem? (i := 155) (by decide +kernel))
theorem tw_1596 : (Cond.methodLink "EchoCouncilLaw" 294 ⟨"EchoCouncilModel", "save", "()I"⟩) ∈ lw_tbl := tk_7 (List.mem_of_getElem? (i := 156) (by decide +kernel))
theorem tw_1597 : (Cond.instanceMethod ⟨"EchoCouncilModel", "save", "()I"⟩) ∈ lw_tbl := tk_7 (List.mem_of_getElem? (i := 157) (by decide +kernel))
theorem tw_1598 : (Cond.selects "EchoCouncilModel" ⟨"EchoCouncilModel", "save", "()I"⟩ ⟨"EchoCouncilModel", "save", "()I"⟩) ∈ lw_tbl := tk_7 (List.mem_of_getElem? (i := 158) (by decide +kernel))
theorem tw_1599 : (Cond.code ⟨"EchoCouncilModel", "save", "()I"⟩ prog_12_method_13_code 1 (some FieldType.int)) ∈ lw_tbl := tk_7 (List.mem_of_getElem? (i := 159) (by decide +kernel))
theorem tw_1600 : (Cond.methodLink "EchoCouncilLaw" 297 ⟨"EchoCouncilModel", "restore", "()I"⟩) ∈ lw_tbl := tk_7 (List.mem_of_getElem? (i := 160) (by decide +kernel))
theorem tw_1601 : (Cond.instanceMethod ⟨"EchoCouncilModel", "restore", "()I"⟩) ∈ lw_tbl := tk_7 (List.mem_of_getElem? (i := 161) (by decide +kernel))
theorem tw_1602 : (Cond.selects "EchoCouncilModel" ⟨"EchoCouncilModel", "restore", "()I"⟩ ⟨"EchoCouncilModel", "restore", "()I"⟩) ∈ lw_tbl := tk_7 (List.mem_of_getElem? (i := 162) (by decide +kernel))
theorem tw_1603 : (Cond.code ⟨"EchoCouncilModel", "restore", "()I"⟩ prog_12_method_14_code 1 (some FieldType.int)) ∈ lw_tbl := tk_7 (List.mem_of_getElem? (i := 163) (by decide +kernel))
theorem tw_1604 : (Cond.methodLink "EchoCouncilLaw" 157 ⟨"EchoCouncilModel", "room", "(I)I"⟩) ∈ lw_tbl := tk_7 (List.mem_of_getElem? (i := 164) (by decide +kernel))
theorem tw_1605 : (Cond.instanceMethod ⟨"EchoCouncilModel", "room", "(I)I"⟩) ∈ lw_tbl := tk_7 (List.mem_of_getElem? (i := 165) (by decide +kernel))
theorem tw_1606 : (Cond.selects "EchoCouncilModel" ⟨"EchoCouncilModel", "room", "(I)I"⟩ ⟨"EchoCouncilModel", "room", "(I)I"⟩) ∈ lw_tbl := tk_7 (List.mem_of_getElem? (i := 166) (by decide +kernel))
theorem tw_1607 : (Cond.code ⟨"EchoCouncilModel", "room", "(I)I"⟩ prog_12_method_26_code 2 (some FieldType.int)) ∈ lw_tbl := tk_7 (List.mem_of_getElem? (i := 167) (by decide +kernel))
theorem tw_1608 : (Cond.methodLink "EchoCouncilModel" 110 ⟨"EchoCouncilModel", "begins", "()V"⟩) ∈ lw_tbl := tk_7 (List.mem_of_getElem? (i := 168) (by decide +kernel))
theorem tw_1609 : (Cond.privateMethod ⟨"EchoCouncilModel", "begins", "()V"⟩) ∈ lw_tbl := tk_7 (List.mem_of_getElem? (i := 169) (by decide +kernel))
theorem tw_1610 : (Cond.instanceMethod ⟨"EchoCouncilModel", "begins", "()V"⟩) ∈ lw_tbl := tk_7 (List.mem_of_getElem? (i := 170) (by decide +kernel))
theorem tw_1611 : (Cond.code ⟨"EchoCouncilModel", "begins", "()V"⟩ prog_12_method_7_code 1 none) ∈ lw_tbl := tk_7 (List.mem_of_getElem? (i := 171) (by decide +kernel))
theorem tw_1612 : (Cond.methodLink "EchoCouncilModel" 113 ⟨"EchoCouncilModel", "opens", "(I)I"⟩) ∈ lw_tbl := tk_7 (List.mem_of_getElem? (i := 172) (by decide +kernel))
theorem tw_1613 : (Cond.privateMethod ⟨"EchoCouncilModel", "opens", "(I)I"⟩) ∈ lw_tbl := tk_7 (List.mem_of_getElem? (i := 173) (by decide +kernel))
theorem tw_1614 : (Cond.instanceMethod ⟨"EchoCouncilModel", "opens", "(I)I"⟩) ∈ lw_tbl := tk_7 (List.mem_of_getElem? (i := 174) (by decide +kernel))
theorem tw_1615 : (Cond.code ⟨"EchoCouncilModel", "opens", "(I)I"⟩ prog_12_method_25_code 2 (some FieldType.int)) ∈ lw_tbl := tk_7 (List.mem_of_getElem? (i := 175) (by decide +kernel))
theorem tw_1616 : (Cond.methodLink "EchoCouncilModel" 106 ⟨"EchoCouncilModel", "hinders", "(ZII)V"⟩) ∈ lw_tbl := tk_7 (List.mem_of_getElem? (i := 176) (by decide +kernel))
theorem tw_1617 : (Cond.privateMethod ⟨"EchoCouncilModel", "hinders", "(ZII)V"⟩) ∈ lw_tbl := tk_7 (List.mem_of_getElem? (i := 177) (by decide +kernel))
theorem tw_1618 : (Cond.instanceMethod ⟨"EchoCouncilModel", "hinders", "(ZII)V"⟩) ∈ lw_tbl := tk_7 (List.mem_of_getElem? (i := 178) (by decide +kernel))
theorem tw_1619 : (Cond.code ⟨"EchoCouncilModel", "hinders", "(ZII)V"⟩ prog_12_method_6_code 4 none) ∈ lw_tbl := tk_7 (List.mem_of_getElem? (i := 179) (by decide +kernel))
theorem tw_1620 : (Cond.methodLink "EchoCouncilModel" 97 ⟨"EchoCouncilModel", "roomAt", "(I)I"⟩) ∈ lw_tbl := tk_7 (List.mem_of_getElem? (i := 180) (by decide +kernel))
theorem tw_1621 : (Cond.static ⟨"EchoCouncilModel", "roomAt", "(I)I"⟩) ∈ lw_tbl := tk_7 (List.mem_of_getElem? (i := 181) (by decide +kernel))
theorem tw_1622 : (Cond.code ⟨"EchoCouncilModel", "roomAt", "(I)I"⟩ prog_12_method_15_code 1 (some FieldType.int)) ∈ lw_tbl := tk_7 (List.mem_of_getElem? (i := 182) (by decide +kernel))
theorem tw_1623 : (Cond.methodLink "EchoCouncilModel" 116 ⟨"EchoCouncilModel", "ends", "(I)I"⟩) ∈ lw_tbl := tk_7 (List.mem_of_getElem? (i := 183) (by decide +kernel))
theorem tw_1624 : (Cond.privateMethod ⟨"EchoCouncilModel", "ends", "(I)I"⟩) ∈ lw_tbl := tk_7 (List.mem_of_getElem? (i := 184) (by decide +kernel))
theorem tw_1625 : (Cond.instanceMethod ⟨"EchoCouncilModel", "ends", "(I)I"⟩) ∈ lw_tbl := tk_7 (List.mem_of_getElem? (i := 185) (by decide +kernel))
theorem tw_1626 : (Cond.code ⟨"EchoCouncilModel", "ends", "(I)I"⟩ prog_12_method_10_code 2 (some FieldType.int)) ∈ lw_tbl := tk_7 (List.mem_of_getElem? (i := 186) (by decide +kernel))
theorem tw_1627 : (Cond.methodLink "EchoCouncilModel" 63 ⟨"EchoCouncilModel", "refuses", "(IIIII)I"⟩) ∈ lw_tbl := tk_7 (List.mem_of_getElem? (i := 187) (by decide +kernel))
theorem tw_1628 : (Cond.privateMethod ⟨"EchoCouncilModel", "refuses", "(IIIII)I"⟩) ∈ lw_tbl := tk_7 (List.mem_of_getElem? (i := 188) (by decide +kernel))
theorem tw_1629 : (Cond.instanceMethod ⟨"EchoCouncilModel", "refuses", "(IIIII)I"⟩) ∈ lw_tbl := tk_7 (List.mem_of_getElem? (i := 189) (by decide +kernel))
theorem tw_1630 : (Cond.code ⟨"EchoCouncilModel", "refuses", "(IIIII)I"⟩ prog_12_method_9_code 6 (some FieldType.int)) ∈ lw_tbl := tk_7 (List.mem_of_getElem? (i := 190) (by decide +kernel))
theorem tw_1631 : (Cond.methodLink "EchoCouncilModel" 67 ⟨"EchoCouncilModel", "remembers", "()V"⟩) ∈ lw_tbl := tk_7 (List.mem_of_getElem? (i := 191) (by decide +kernel))
theorem tw_1632 : (Cond.privateMethod ⟨"EchoCouncilModel", "remembers", "()V"⟩) ∈ lw_tbl := tk_7 (List.mem_of_getElem? (i := 192) (by decide +kernel))
theorem tw_1633 : (Cond.instanceMethod ⟨"EchoCouncilModel", "remembers", "()V"⟩) ∈ lw_tbl := tk_7 (List.mem_of_getElem? (i := 193) (by decide +kernel))
theorem tw_1634 : (Cond.code ⟨"EchoCouncilModel", "remembers", "()V"⟩ prog_12_method_8_code 2 none) ∈ lw_tbl := tk_7 (List.mem_of_getElem? (i := 194) (by decide +kernel))
theorem tw_1635 : (Cond.methodLink "EchoCouncilLaw" 164 ⟨"EchoCouncilModel", "echo", "(II)I"⟩) ∈ lw_tbl := tk_7 (List.mem_of_getElem? (i := 195) (by decide +kernel))
theorem tw_1636 : (Cond.instanceMethod ⟨"EchoCouncilModel", "echo", "(II)I"⟩) ∈ lw_tbl := tk_7 (List.mem_of_getElem? (i := 196) (by decide +kernel))
theorem tw_1637 : (Cond.selects "EchoCouncilModel" ⟨"EchoCouncilModel", "echo", "(II)I"⟩ ⟨"EchoCouncilModel", "echo", "(II)I"⟩) ∈ lw_tbl := tk_7 (List.mem_of_getElem? (i := 197) (by decide +kernel))
theorem tw_1638 : (Cond.code ⟨"EchoCouncilModel", "echo", "(II)I"⟩ prog_12_method_28_code 3 (some FieldType.int)) ∈ lw_tbl := tk_7 (List.mem_of_getElem? (i := 198) (by decide +kernel))
theorem tw_1639 : (Cond.methodLink "EchoCouncilModel" 123 ⟨"EchoCouncilModel", "sounds", "(II)I"⟩) ∈ lw_tbl := tk_7 (List.mem_of_getElem? (i := 199) (by decide +kernel))
theorem tw_1640 : (Cond.privateMethod ⟨"EchoCouncilModel", "sounds", "(II)I"⟩) ∈ lw_tbl := tk_7 (List.mem_of_getElem? (i := 200) (by decide +kernel))
theorem tw_1641 : (Cond.instanceMethod ⟨"EchoCouncilModel", "sounds", "(II)I"⟩) ∈ lw_tbl := tk_7 (List.mem_of_getElem? (i := 201) (by decide +kernel))
theorem tw_1642 : (Cond.code ⟨"EchoCouncilModel", "sounds", "(II)I"⟩ prog_12_method_27_code 4 (some FieldType.int)) ∈ lw_tbl := tk_7 (List.mem_of_getElem? (i := 202) (by decide +kernel))
theorem tw_1643 : (Cond.methodLink "EchoCouncilModel" 119 ⟨"EchoCouncilModel", "isRoom", "(I)Z"⟩) ∈ lw_tbl := tk_7 (List.mem_of_getElem? (i := 203) (by decide +kernel))
theorem tw_1644 : (Cond.privateMethod ⟨"EchoCouncilModel", "isRoom", "(I)Z"⟩) ∈ lw_tbl := tk_7 (List.mem_of_getElem? (i := 204) (by decide +kernel))
theorem tw_1645 : (Cond.instanceMethod ⟨"EchoCouncilModel", "isRoom", "(I)Z"⟩) ∈ lw_tbl := tk_7 (List.mem_of_getElem? (i := 205) (by decide +kernel))
theorem tw_1646 : (Cond.code ⟨"EchoCouncilModel", "isRoom", "(I)Z"⟩ prog_12_method_18_code 2 (some FieldType.boolean)) ∈ lw_tbl := tk_7 (List.mem_of_getElem? (i := 206) (by decide +kernel))
theorem tw_1647 : (Cond.methodLink "EchoCouncilModel" 86 ⟨"EchoCouncilModel", "echoAt", "(I)I"⟩) ∈ lw_tbl := tk_7 (List.mem_of_getElem? (i := 207) (by decide +kernel))
theorem tw_1648 : (Cond.static ⟨"EchoCouncilModel", "echoAt", "(I)I"⟩) ∈ lw_tbl := tk_7 (List.mem_of_getElem? (i := 208) (by decide +kernel))
theorem tw_1649 : (Cond.code ⟨"EchoCouncilModel", "echoAt", "(I)I"⟩ prog_12_method_16_code 1 (some FieldType.int)) ∈ lw_tbl := tk_7 (List.mem_of_getElem? (i := 209) (by decide +kernel))
theorem tw_1650 : (Cond.methodLink "EchoCouncilLaw" 167 ⟨"EchoCouncilModel", "singer", "(II)I"⟩) ∈ lw_tbl := tk_7 (List.mem_of_getElem? (i := 210) (by decide +kernel))
theorem tw_1651 : (Cond.instanceMethod ⟨"EchoCouncilModel", "singer", "(II)I"⟩) ∈ lw_tbl := tk_7 (List.mem_of_getElem? (i := 211) (by decide +kernel))
theorem tw_1652 : (Cond.selects "EchoCouncilModel" ⟨"EchoCouncilModel", "singer", "(II)I"⟩ ⟨"EchoCouncilModel", "singer", "(II)I"⟩) ∈ lw_tbl := tk_7 (List.mem_of_getElem? (i := 212) (by decide +kernel))
theorem tw_1653 : (Cond.code ⟨"EchoCouncilModel", "singer", "(II)I"⟩ prog_12_method_30_code 3 (some FieldType.int)) ∈ lw_tbl := tk_7 (List.mem_of_getElem? (i := 213) (by decide +kernel))
theorem tw_1654 : (Cond.methodLink "EchoCouncilModel" 126 ⟨"EchoCouncilModel", "arrives", "(II)I"⟩) ∈ lw_tbl := tk_7 (List.mem_of_getElem? (i := 214) (by decide +kernel))
theorem tw_1655 : (Cond.privateMethod ⟨"EchoCouncilModel", "arrives", "(II)I"⟩) ∈ lw_tbl := tk_7 (List.mem_of_getElem? (i := 215) (by decide +kernel))
theorem tw_1656 : (Cond.instanceMethod ⟨"EchoCouncilModel", "arrives", "(II)I"⟩) ∈ lw_tbl := tk_7 (List.mem_of_getElem? (i := 216) (by decide +kernel))
theorem tw_1657 : (Cond.code ⟨"EchoCouncilModel", "arrives", "(II)I"⟩ prog_12_method_29_code 4 (some FieldType.int)) ∈ lw_tbl := tk_7 (List.mem_of_getElem? (i := 217) (by decide +kernel))
theorem tw_1658 : (Cond.methodLink "EchoCouncilModel" 82 ⟨"EchoCouncilModel", "singerAt", "(I)I"⟩) ∈ lw_tbl := tk_7 (List.mem_of_getElem? (i := 218) (by decide +kernel))
theorem tw_1659 : (Cond.static ⟨"EchoCouncilModel", "singerAt", "(I)I"⟩) ∈ lw_tbl := tk_7 (List.mem_of_getElem? (i := 219) (by decide +kernel))
theorem tw_1660 : (Cond.code ⟨"EchoCouncilModel", "singerAt", "(I)I"⟩ prog_12_method_17_code 1 (some FieldType.int)) ∈ lw_tbl := tk_7 (List.mem_of_getElem? (i := 220) (by decide +kernel))
theorem tw_1661 : (Cond.methodLink "EchoCouncilLaw" 170 ⟨"EchoCouncilModel", "enter", "(II)I"⟩) ∈ lw_tbl := tk_7 (List.mem_of_getElem? (i := 221) (by decide +kernel))
theorem tw_1662 : (Cond.instanceMethod ⟨"EchoCouncilModel", "enter", "(II)I"⟩) ∈ lw_tbl := tk_7 (List.mem_of_getElem? (i := 222) (by decide +kernel))
theorem tw_1663 : (Cond.selects "EchoCouncilModel" ⟨"EchoCouncilModel", "enter", "(II)I"⟩ ⟨"EchoCouncilModel", "enter", "(II)I"⟩) ∈ lw_tbl := tk_7 (List.mem_of_getElem? (i := 223) (by decide +kernel))
theorem tw_1664 : (Cond.code ⟨"EchoCouncilModel", "enter", "(II)I"⟩ prog_12_method_33_code 3 (some FieldType.int)) ∈ lw_tbl := tk_7 (List.mem_of_getElem? (i := 224) (by decide +kernel))
theorem tw_1665 : (Cond.methodLink "EchoCouncilModel" 139 ⟨"EchoCouncilModel", "comesIn", "(II)I"⟩) ∈ lw_tbl := tk_7 (List.mem_of_getElem? (i := 225) (by decide +kernel))
theorem tw_1666 : (Cond.privateMethod ⟨"EchoCouncilModel", "comesIn", "(II)I"⟩) ∈ lw_tbl := tk_7 (List.mem_of_getElem? (i := 226) (by decide +kernel))
theorem tw_1667 : (Cond.instanceMethod ⟨"EchoCouncilModel", "comesIn", "(II)I"⟩) ∈ lw_tbl := tk_7 (List.mem_of_getElem? (i := 227) (by decide +kernel))
theorem tw_1668 : (Cond.code ⟨"EchoCouncilModel", "comesIn", "(II)I"⟩ prog_12_method_32_code 3 (some FieldType.int)) ∈ lw_tbl := tk_7 (List.mem_of_getElem? (i := 228) (by decide +kernel))
theorem tw_1669 : (Cond.methodLink "EchoCouncilModel" 132 ⟨"EchoCouncilModel", "isSinger", "(I)Z"⟩) ∈ lw_tbl := tk_7 (List.mem_of_getElem? (i := 229) (by decide +kernel))
theorem tw_1670 : (Cond.privateMethod ⟨"EchoCouncilModel", "isSinger", "(I)Z"⟩) ∈ lw_tbl := tk_7 (List.mem_of_getElem? (i := 230) (by decide +kernel))
theorem tw_1671 : (Cond.instanceMethod ⟨"EchoCouncilModel", "isSinger", "(I)Z"⟩) ∈ lw_tbl := tk_7 (List.mem_of_getElem? (i := 231) (by decide +kernel))
theorem tw_1672 : (Cond.code ⟨"EchoCouncilModel", "isSinger", "(I)Z"⟩ prog_12_method_20_code 2 (some FieldType.boolean)) ∈ lw_tbl := tk_7 (List.mem_of_getElem? (i := 232) (by decide +kernel))
theorem tw_1673 : (Cond.methodLink "EchoCouncilModel" 135 ⟨"EchoCouncilModel", "asksRoom", "(II)V"⟩) ∈ lw_tbl := tk_7 (List.mem_of_getElem? (i := 233) (by decide +kernel))
theorem tw_1674 : (Cond.privateMethod ⟨"EchoCouncilModel", "asksRoom", "(II)V"⟩) ∈ lw_tbl := tk_7 (List.mem_of_getElem? (i := 234) (by decide +kernel))
theorem tw_1675 : (Cond.instanceMethod ⟨"EchoCouncilModel", "asksRoom", "(II)V"⟩) ∈ lw_tbl := tk_7 (List.mem_of_getElem? (i := 235) (by decide +kernel))
theorem tw_1676 : (Cond.code ⟨"EchoCouncilModel", "asksRoom", "(II)V"⟩ prog_12_method_31_code 4 none) ∈ lw_tbl := tk_7 (List.mem_of_getElem? (i := 236) (by decide +kernel))
theorem tw_1677 : (Cond.methodLink "EchoCouncilModel" 129 ⟨"EchoCouncilModel", "othersIn", "(I)I"⟩) ∈ lw_tbl := tk_7 (List.mem_of_getElem? (i := 237) (by decide +kernel))
theorem tw_1678 : (Cond.privateMethod ⟨"EchoCouncilModel", "othersIn", "(I)I"⟩) ∈ lw_tbl := tk_7 (List.mem_of_getElem? (i := 238) (by decide +kernel))
theorem tw_1679 : (Cond.instanceMethod ⟨"EchoCouncilModel", "othersIn", "(I)I"⟩) ∈ lw_tbl := tk_7 (List.mem_of_getElem? (i := 239) (by decide +kernel))
theorem tw_1680 : (Cond.code ⟨"EchoCouncilModel", "othersIn", "(I)I"⟩ prog_12_method_23_code 2 (some FieldType.int)) ∈ lw_tbl := tk_8 (List.mem_of_getElem? (i := 0) (by decide +kernel))
theorem tw_1681 : (Cond.methodLink "EchoCouncilModel" 89 ⟨"EchoCouncilModel", "singersIn", "(I)I"⟩) ∈ lw_tbl := tk_8 (List.mem_of_getElem? (i := 1) (by decide +kernel))
theorem tw_1682 : (Cond.privateMethod ⟨"EchoCouncilModel", "singersIn", "(I)I"⟩) ∈ lw_tbl := tk_8 (List.mem_of_getElem? (i := 2) (by decide +kernel))
theorem tw_1683 : (Cond.instanceMethod ⟨"EchoCouncilModel", "singersIn", "(I)I"⟩) ∈ lw_tbl := tk_8 (List.mem_of_getElem? (i := 3) (by decide +kernel))
theorem tw_1684 : (Cond.code ⟨"EchoCouncilModel", "singersIn", "(I)I"⟩ prog_12_method_21_code 4 (some FieldType.int)) ∈ lw_tbl := tk_8 (List.mem_of_getElem? (i := 4) (by decide +kernel))
theorem tw_1685 : (Cond.methodLink "EchoCouncilModel" 92 ⟨"java/lang/Integer", "bitCount", "(I)I"⟩) ∈ lw_tbl := tk_8 (List.mem_of_getElem? (i := 5) (by decide +kernel))
theorem tw_1686 : (Cond.methodLink "EchoCouncilLaw" 173 ⟨"EchoCouncilModel", "out", "(I)I"⟩) ∈ lw_tbl := tk_8 (List.mem_of_getElem? (i := 6) (by decide +kernel))
theorem tw_1687 : (Cond.instanceMethod ⟨"EchoCouncilModel", "out", "(I)I"⟩) ∈ lw_tbl := tk_8 (List.mem_of_getElem? (i := 7) (by decide +kernel))
theorem tw_1688 : (Cond.selects "EchoCouncilModel" ⟨"EchoCouncilModel", "out", "(I)I"⟩ ⟨"EchoCouncilModel", "out", "(I)I"⟩) ∈ lw_tbl := tk_8 (List.mem_of_getElem? (i := 8) (by decide +kernel))
theorem tw_1689 : (Cond.code ⟨"EchoCouncilModel", "out", "(I)I"⟩ prog_12_method_35_code 2 (some FieldType.int)) ∈ lw_tbl := tk_8 (List.mem_of_getElem? (i := 9) (by decide +kernel))
theorem tw_1690 : (Cond.methodLink "EchoCouncilModel" 142 ⟨"EchoCouncilModel", "goesOut", "(I)I"⟩) ∈ lw_tbl := tk_8 (List.mem_of_getElem? (i := 10) (by decide +kernel))
theorem tw_1691 : (Cond.privateMethod ⟨"EchoCouncilModel", "goesOut", "(I)I"⟩) ∈ lw_tbl := tk_8 (List.mem_of_getElem? (i := 11) (by decide +kernel))
theorem tw_1692 : (Cond.instanceMethod ⟨"EchoCouncilModel", "goesOut", "(I)I"⟩) ∈ lw_tbl := tk_8 (List.mem_of_getElem? (i := 12) (by decide +kernel))
theorem tw_1693 : (Cond.code ⟨"EchoCouncilModel", "goesOut", "(I)I"⟩ prog_12_method_34_code 3 (some FieldType.int)) ∈ lw_tbl := tk_8 (List.mem_of_getElem? (i := 13) (by decide +kernel))
theorem tw_1694 : (Cond.methodLink "EchoCouncilLaw" 176 ⟨"EchoCouncilModel", "carry", "(II)I"⟩) ∈ lw_tbl := tk_8 (List.mem_of_getElem? (i := 14) (by decide +kernel))
theorem tw_1695 : (Cond.instanceMethod ⟨"EchoCouncilModel", "carry", "(II)I"⟩) ∈ lw_tbl := tk_8 (List.mem_of_getElem? (i := 15) (by decide +kernel))
theorem tw_1696 : (Cond.selects "EchoCouncilModel" ⟨"EchoCouncilModel", "carry", "(II)I"⟩ ⟨"EchoCouncilModel", "carry", "(II)I"⟩) ∈ lw_tbl := tk_8 (List.mem_of_getElem? (i := 16) (by decide +kernel))
theorem tw_1697 : (Cond.code ⟨"EchoCouncilModel", "carry", "(II)I"⟩ prog_12_method_37_code 3 (some FieldType.int)) ∈ lw_tbl := tk_8 (List.mem_of_getElem? (i := 17) (by decide +kernel))
theorem tw_1698 : (Cond.methodLink "EchoCouncilModel" 148 ⟨"EchoCouncilModel", "carries", "(II)I"⟩) ∈ lw_tbl := tk_8 (List.mem_of_getElem? (i := 18) (by decide +kernel))
theorem tw_1699 : (Cond.privateMethod ⟨"EchoCouncilModel", "carries", "(II)I"⟩) ∈ lw_tbl := tk_8 (List.mem_of_getElem? (i := 19) (by decide +kernel))
theorem tw_1700 : (Cond.instanceMethod ⟨"EchoCouncilModel", "carries", "(II)I"⟩) ∈ lw_tbl := tk_8 (List.mem_of_getElem? (i := 20) (by decide +kernel))
theorem tw_1701 : (Cond.code ⟨"EchoCouncilModel", "carries", "(II)I"⟩ prog_12_method_36_code 4 (some FieldType.int)) ∈ lw_tbl := tk_8 (List.mem_of_getElem? (i := 21) (by decide +kernel))
theorem tw_1702 : (Cond.methodLink "EchoCouncilModel" 145 ⟨"EchoCouncilModel", "isEcho", "(I)Z"⟩) ∈ lw_tbl := tk_8 (List.mem_of_getElem? (i := 22) (by decide +kernel))
theorem tw_1703 : (Cond.privateMethod ⟨"EchoCouncilModel", "isEcho", "(I)Z"⟩) ∈ lw_tbl := tk_8 (List.mem_of_getElem? (i := 23) (by decide +kernel))
theorem tw_1704 : (Cond.instanceMethod ⟨"EchoCouncilModel", "isEcho", "(I)Z"⟩) ∈ lw_tbl := tk_8 (List.mem_of_getElem? (i := 24) (by decide +kernel))
theorem tw_1705 : (Cond.code ⟨"EchoCouncilModel", "isEcho", "(I)Z"⟩ prog_12_method_19_code 2 (some FieldType.boolean)) ∈ lw_tbl := tk_8 (List.mem_of_getElem? (i := 25) (by decide +kernel))
theorem tw_1706 : (Cond.methodLink "EchoCouncilLaw" 180 ⟨"EchoCouncilModel", "rent", "(III)I"⟩) ∈ lw_tbl := tk_8 (List.mem_of_getElem? (i := 26) (by decide +kernel))
theorem tw_1707 : (Cond.instanceMethod ⟨"EchoCouncilModel", "rent", "(III)I"⟩) ∈ lw_tbl := tk_8 (List.mem_of_getElem? (i := 27) (by decide +kernel))
theorem tw_1708 : (Cond.selects "EchoCouncilModel" ⟨"EchoCouncilModel", "rent", "(III)I"⟩ ⟨"EchoCouncilModel", "rent", "(III)I"⟩) ∈ lw_tbl := tk_8 (List.mem_of_getElem? (i := 28) (by decide +kernel))
theorem tw_1709 : (Cond.code ⟨"EchoCouncilModel", "rent", "(III)I"⟩ prog_12_method_40_code 4 (some FieldType.int)) ∈ lw_tbl := tk_8 (List.mem_of_getElem? (i := 29) (by decide +kernel))
theorem tw_1710 : (Cond.methodLink "EchoCouncilModel" 154 ⟨"EchoCouncilModel", "rents", "(III)I"⟩) ∈ lw_tbl := tk_8 (List.mem_of_getElem? (i := 30) (by decide +kernel))
theorem tw_1711 : (Cond.privateMethod ⟨"EchoCouncilModel", "rents", "(III)I"⟩) ∈ lw_tbl := tk_8 (List.mem_of_getElem? (i := 31) (by decide +kernel))
theorem tw_1712 : (Cond.instanceMethod ⟨"EchoCouncilModel", "rents", "(III)I"⟩) ∈ lw_tbl := tk_8 (List.mem_of_getElem? (i := 32) (by decide +kernel))
theorem tw_1713 : (Cond.code ⟨"EchoCouncilModel", "rents", "(III)I"⟩ prog_12_method_39_code 5 (some FieldType.int)) ∈ lw_tbl := tk_8 (List.mem_of_getElem? (i := 33) (by decide +kernel))
theorem tw_1714 : (Cond.methodLink "EchoCouncilModel" 151 ⟨"EchoCouncilModel", "asksEcho", "(II)V"⟩) ∈ lw_tbl := tk_8 (List.mem_of_getElem? (i := 34) (by decide +kernel))
theorem tw_1715 : (Cond.privateMethod ⟨"EchoCouncilModel", "asksEcho", "(II)V"⟩) ∈ lw_tbl := tk_8 (List.mem_of_getElem? (i := 35) (by decide +kernel))
theorem tw_1716 : (Cond.instanceMethod ⟨"EchoCouncilModel", "asksEcho", "(II)V"⟩) ∈ lw_tbl := tk_8 (List.mem_of_getElem? (i := 36) (by decide +kernel))
theorem tw_1717 : (Cond.code ⟨"EchoCouncilModel", "asksEcho", "(II)V"⟩ prog_12_method_38_code 6 none) ∈ lw_tbl := tk_8 (List.mem_of_getElem? (i := 37) (by decide +kernel))
theorem tw_1718 : (Cond.methodLink "EchoCouncilLaw" 183 ⟨"EchoCouncilModel", "back", "(II)I"⟩) ∈ lw_tbl := tk_8 (List.mem_of_getElem? (i := 38) (by decide +kernel))
theorem tw_1719 : (Cond.instanceMethod ⟨"EchoCouncilModel", "back", "(II)I"⟩) ∈ lw_tbl := tk_8 (List.mem_of_getElem? (i := 39) (by decide +kernel))
theorem tw_1720 : (Cond.selects "EchoCouncilModel" ⟨"EchoCouncilModel", "back", "(II)I"⟩ ⟨"EchoCouncilModel", "back", "(II)I"⟩) ∈ lw_tbl := tk_8 (List.mem_of_getElem? (i := 40) (by decide +kernel))
theorem tw_1721 : (Cond.code ⟨"EchoCouncilModel", "back", "(II)I"⟩ prog_12_method_43_code 3 (some FieldType.int)) ∈ lw_tbl := tk_8 (List.mem_of_getElem? (i := 41) (by decide +kernel))
theorem tw_1722 : (Cond.methodLink "EchoCouncilModel" 167 ⟨"EchoCouncilModel", "gives", "(II)I"⟩) ∈ lw_tbl := tk_8 (List.mem_of_getElem? (i := 42) (by decide +kernel))
theorem tw_1723 : (Cond.privateMethod ⟨"EchoCouncilModel", "gives", "(II)I"⟩) ∈ lw_tbl := tk_8 (List.mem_of_getElem? (i := 43) (by decide +kernel))
theorem tw_1724 : (Cond.instanceMethod ⟨"EchoCouncilModel", "gives", "(II)I"⟩) ∈ lw_tbl := tk_8 (List.mem_of_getElem? (i := 44) (by decide +kernel))
theorem tw_1725 : (Cond.code ⟨"EchoCouncilModel", "gives", "(II)I"⟩ prog_12_method_42_code 3 (some FieldType.int)) ∈ lw_tbl := tk_8 (List.mem_of_getElem? (i := 45) (by decide +kernel))
theorem tw_1726 : (Cond.methodLink "EchoCouncilModel" 161 ⟨"java/lang/Math", "min", "(II)I"⟩) ∈ lw_tbl := tk_8 (List.mem_of_getElem? (i := 46) (by decide +kernel))
theorem tw_1727 : (Cond.methodLink "EchoCouncilModel" 100 ⟨"java/lang/Math", "max", "(II)I"⟩) ∈ lw_tbl := tk_8 (List.mem_of_getElem? (i := 47) (by decide +kernel))
theorem tw_1728 : (Cond.methodLink "EchoCouncilModel" 164 ⟨"EchoCouncilModel", "stops", "(I)I"⟩) ∈ lw_tbl := tk_8 (List.mem_of_getElem? (i := 48) (by decide +kernel))
theorem tw_1729 : (Cond.privateMethod ⟨"EchoCouncilModel", "stops", "(I)I"⟩) ∈ lw_tbl := tk_8 (List.mem_of_getElem? (i := 49) (by decide +kernel))
theorem tw_1730 : (Cond.instanceMethod ⟨"EchoCouncilModel", "stops", "(I)I"⟩) ∈ lw_tbl := tk_8 (List.mem_of_getElem? (i := 50) (by decide +kernel))
theorem tw_1731 : (Cond.code ⟨"EchoCouncilModel", "stops", "(I)I"⟩ prog_12_method_41_code 4 (some FieldType.int)) ∈ lw_tbl := tk_8 (List.mem_of_getElem? (i := 51) (by decide +kernel))
theorem tw_1732 : (Cond.methodLink "EchoCouncilModel" 158 ⟨"EchoCouncilModel", "worthOf", "(I)I"⟩) ∈ lw_tbl := tk_8 (List.mem_of_getElem? (i := 52) (by decide +kernel))
theorem tw_1733 : (Cond.privateMethod ⟨"EchoCouncilModel", "worthOf", "(I)I"⟩) ∈ lw_tbl := tk_8 (List.mem_of_getElem? (i := 53) (by decide +kernel))
theorem tw_1734 : (Cond.instanceMethod ⟨"EchoCouncilModel", "worthOf", "(I)I"⟩) ∈ lw_tbl := tk_8 (List.mem_of_getElem? (i := 54) (by decide +kernel))
theorem tw_1735 : (Cond.code ⟨"EchoCouncilModel", "worthOf", "(I)I"⟩ prog_12_method_24_code 2 (some FieldType.int)) ∈ lw_tbl := tk_8 (List.mem_of_getElem? (i := 55) (by decide +kernel))
theorem tw_1736 : (Cond.methodLink "EchoCouncilLaw" 186 ⟨"EchoCouncilModel", "sing", "(I)I"⟩) ∈ lw_tbl := tk_8 (List.mem_of_getElem? (i := 56) (by decide +kernel))
theorem tw_1737 : (Cond.instanceMethod ⟨"EchoCouncilModel", "sing", "(I)I"⟩) ∈ lw_tbl := tk_8 (List.mem_of_getElem? (i := 57) (by decide +kernel))
theorem tw_1738 : (Cond.selects "EchoCouncilModel" ⟨"EchoCouncilModel", "sing", "(I)I"⟩ ⟨"EchoCouncilModel", "sing", "(I)I"⟩) ∈ lw_tbl := tk_8 (List.mem_of_getElem? (i := 58) (by decide +kernel))
theorem tw_1739 : (Cond.code ⟨"EchoCouncilModel", "sing", "(I)I"⟩ prog_12_method_45_code 2 (some FieldType.int)) ∈ lw_tbl := tk_8 (List.mem_of_getElem? (i := 59) (by decide +kernel))
theorem tw_1740 : (Cond.methodLink "EchoCouncilModel" 170 ⟨"EchoCouncilModel", "sings", "(I)I"⟩) ∈ lw_tbl := tk_8 (List.mem_of_getElem? (i := 60) (by decide +kernel))
theorem tw_1741 : (Cond.privateMethod ⟨"EchoCouncilModel", "sings", "(I)I"⟩) ∈ lw_tbl := tk_8 (List.mem_of_getElem? (i := 61) (by decide +kernel))
theorem tw_1742 : (Cond.instanceMethod ⟨"EchoCouncilModel", "sings", "(I)I"⟩) ∈ lw_tbl := tk_8 (List.mem_of_getElem? (i := 62) (by decide +kernel))
theorem tw_1743 : (Cond.code ⟨"EchoCouncilModel", "sings", "(I)I"⟩ prog_12_method_44_code 9 (some FieldType.int)) ∈ lw_tbl := tk_8 (List.mem_of_getElem? (i := 63) (by decide +kernel))
theorem tw_1744 : (Cond.methodLink "EchoCouncilLaw" 190 ⟨"EchoCouncilModel", "night", "()I"⟩) ∈ lw_tbl := tk_8 (List.mem_of_getElem? (i := 64) (by decide +kernel))
theorem tw_1745 : (Cond.instanceMethod ⟨"EchoCouncilModel", "night", "()I"⟩) ∈ lw_tbl := tk_8 (List.mem_of_getElem? (i := 65) (by decide +kernel))
theorem tw_1746 : (Cond.selects "EchoCouncilModel" ⟨"EchoCouncilModel", "night", "()I"⟩ ⟨"EchoCouncilModel", "night", "()I"⟩) ∈ lw_tbl := tk_8 (List.mem_of_getElem? (i := 66) (by decide +kernel))
theorem tw_1747 : (Cond.code ⟨"EchoCouncilModel", "night", "()I"⟩ prog_12_method_47_code 1 (some FieldType.int)) ∈ lw_tbl := tk_8 (List.mem_of_getElem? (i := 67) (by decide +kernel))
theorem tw_1748 : (Cond.methodLink "EchoCouncilModel" 173 ⟨"EchoCouncilModel", "passes", "()I"⟩) ∈ lw_tbl := tk_8 (List.mem_of_getElem? (i := 68) (by decide +kernel))
theorem tw_1749 : (Cond.privateMethod ⟨"EchoCouncilModel", "passes", "()I"⟩) ∈ lw_tbl := tk_8 (List.mem_of_getElem? (i := 69) (by decide +kernel))
theorem tw_1750 : (Cond.instanceMethod ⟨"EchoCouncilModel", "passes", "()I"⟩) ∈ lw_tbl := tk_8 (List.mem_of_getElem? (i := 70) (by decide +kernel))
theorem tw_1751 : (Cond.code ⟨"EchoCouncilModel", "passes", "()I"⟩ prog_12_method_46_code 4 (some FieldType.int)) ∈ lw_tbl := tk_8 (List.mem_of_getElem? (i := 71) (by decide +kernel))
theorem tw_1752 : (Cond.methodLink "EchoCouncilLaw" 193 ⟨"EchoCouncilModel", "roomOf", "(II)I"⟩) ∈ lw_tbl := tk_8 (List.mem_of_getElem? (i := 72) (by decide +kernel))
theorem tw_1753 : (Cond.instanceMethod ⟨"EchoCouncilModel", "roomOf", "(II)I"⟩) ∈ lw_tbl := tk_8 (List.mem_of_getElem? (i := 73) (by decide +kernel))
theorem tw_1754 : (Cond.selects "EchoCouncilModel" ⟨"EchoCouncilModel", "roomOf", "(II)I"⟩ ⟨"EchoCouncilModel", "roomOf", "(II)I"⟩) ∈ lw_tbl := tk_8 (List.mem_of_getElem? (i := 74) (by decide +kernel))
theorem tw_1755 : (Cond.code ⟨"EchoCouncilModel", "roomOf", "(II)I"⟩ prog_12_method_48_code 3 (some FieldType.int)) ∈ lw_tbl := tk_8 (List.mem_of_getElem? (i := 75) (by decide +kernel))
theorem tw_1756 : (Cond.methodLink "EchoCouncilModel" 177 ⟨"EchoCouncilModel", "echoesIn", "(IZ)I"⟩) ∈ lw_tbl := tk_8 (List.mem_of_getElem? (i := 76) (by decide +kernel))
theorem tw_1757 : (Cond.privateMethod ⟨"EchoCouncilModel", "echoesIn", "(IZ)I"⟩) ∈ lw_tbl := tk_8 (List.mem_of_getElem? (i := 77) (by decide +kernel))
theorem tw_1758 : (Cond.instanceMethod ⟨"EchoCouncilModel", "echoesIn", "(IZ)I"⟩) ∈ lw_tbl := tk_8 (List.mem_of_getElem? (i := 78) (by decide +kernel))
theorem tw_1759 : (Cond.code ⟨"EchoCouncilModel", "echoesIn", "(IZ)I"⟩ prog_12_method_22_code 6 (some FieldType.int)) ∈ lw_tbl := tk_8 (List.mem_of_getElem? (i := 79) (by decide +kernel))
theorem tw_1760 : (Cond.methodLink "EchoCouncilLaw" 196 ⟨"EchoCouncilModel", "echoOf", "(II)I"⟩) ∈ lw_tbl := tk_8 (List.mem_of_getElem? (i := 80) (by decide +kernel))
theorem tw_1761 : (Cond.instanceMethod ⟨"EchoCouncilModel", "echoOf", "(II)I"⟩) ∈ lw_tbl := tk_8 (List.mem_of_getElem? (i := 81) (by decide +kernel))
theorem tw_1762 : (Cond.selects "EchoCouncilModel" ⟨"EchoCouncilModel", "echoOf", "(II)I"⟩ ⟨"EchoCouncilModel", "echoOf", "(II)I"⟩) ∈ lw_tbl := tk_8 (List.mem_of_getElem? (i := 82) (by decide +kernel))
theorem tw_1763 : (Cond.code ⟨"EchoCouncilModel", "echoOf", "(II)I"⟩ prog_12_method_49_code 3 (some FieldType.int)) ∈ lw_tbl := tk_8 (List.mem_of_getElem? (i := 83) (by decide +kernel))
theorem tw_1764 : (Cond.methodLink "EchoCouncilLaw" 199 ⟨"EchoCouncilModel", "singerOf", "(II)I"⟩) ∈ lw_tbl := tk_8 (List.mem_of_getElem? (i := 84) (by decide +kernel))
theorem tw_1765 : (Cond.instanceMethod ⟨"EchoCouncilModel", "singerOf", "(II)I"⟩) ∈ lw_tbl := tk_8 (List.mem_of_getElem? (i := 85) (by decide +kernel))
theorem tw_1766 : (Cond.selects "EchoCouncilModel" ⟨"EchoCouncilModel", "singerOf", "(II)I"⟩ ⟨"EchoCouncilModel", "singerOf", "(II)I"⟩) ∈ lw_tbl := tk_8 (List.mem_of_getElem? (i := 86) (by decide +kernel))
theorem tw_1767 : (Cond.code ⟨"EchoCouncilModel", "singerOf", "(II)I"⟩ prog_12_method_51_code 4 (some FieldType.int)) ∈ lw_tbl := tk_8 (List.mem_of_getElem? (i := 87) (by decide +kernel))
theorem tw_1768 : (Cond.methodLink "EchoCouncilModel" 181 ⟨"EchoCouncilModel", "letTo", "(IZ)I"⟩) ∈ lw_tbl := tk_8 (List.mem_of_getElem? (i := 88) (by decide +kernel))
theorem tw_1769 : (Cond.privateMethod ⟨"EchoCouncilModel", "letTo", "(IZ)I"⟩) ∈ lw_tbl := tk_8 (List.mem_of_getElem? (i := 89) (by decide +kernel))
theorem tw_1770 : (Cond.instanceMethod ⟨"EchoCouncilModel", "letTo", "(IZ)I"⟩) ∈ lw_tbl := tk_8 (List.mem_of_getElem? (i := 90) (by decide +kernel))
theorem tw_1771 : (Cond.code ⟨"EchoCouncilModel", "letTo", "(IZ)I"⟩ prog_12_method_50_code 6 (some FieldType.int)) ∈ lw_tbl := tk_8 (List.mem_of_getElem? (i := 91) (by decide +kernel))
theorem tw_1772 : (Cond.methodLink "EchoCouncilLaw" 202 ⟨"EchoCouncilModel", "tones", "(I)I"⟩) ∈ lw_tbl := tk_8 (List.mem_of_getElem? (i := 92) (by decide +kernel))
theorem tw_1773 : (Cond.instanceMethod ⟨"EchoCouncilModel", "tones", "(I)I"⟩) ∈ lw_tbl := tk_8 (List.mem_of_getElem? (i := 93) (by decide +kernel))
theorem tw_1774 : (Cond.selects "EchoCouncilModel" ⟨"EchoCouncilModel", "tones", "(I)I"⟩ ⟨"EchoCouncilModel", "tones", "(I)I"⟩) ∈ lw_tbl := tk_8 (List.mem_of_getElem? (i := 94) (by decide +kernel))
theorem tw_1775 : (Cond.code ⟨"EchoCouncilModel", "tones", "(I)I"⟩ prog_12_method_55_code 2 (some FieldType.int)) ∈ lw_tbl := tk_8 (List.mem_of_getElem? (i := 95) (by decide +kernel))
theorem tw_1776 : (Cond.methodLink "EchoCouncilModel" 190 ⟨"EchoCouncilModel", "tonesNow", "(I)I"⟩) ∈ lw_tbl := tk_8 (List.mem_of_getElem? (i := 96) (by decide +kernel))
theorem tw_1777 : (Cond.privateMethod ⟨"EchoCouncilModel", "tonesNow", "(I)I"⟩) ∈ lw_tbl := tk_8 (List.mem_of_getElem? (i := 97) (by decide +kernel))
theorem tw_1778 : (Cond.instanceMethod ⟨"EchoCouncilModel", "tonesNow", "(I)I"⟩) ∈ lw_tbl := tk_8 (List.mem_of_getElem? (i := 98) (by decide +kernel))
theorem tw_1779 : (Cond.code ⟨"EchoCouncilModel", "tonesNow", "(I)I"⟩ prog_12_method_54_code 2 (some FieldType.int)) ∈ lw_tbl := tk_8 (List.mem_of_getElem? (i := 99) (by decide +kernel))
theorem tw_1780 : (Cond.methodLink "EchoCouncilModel" 184 ⟨"EchoCouncilModel", "isInside", "(I)Z"⟩) ∈ lw_tbl := tk_8 (List.mem_of_getElem? (i := 100) (by decide +kernel))
theorem tw_1781 : (Cond.privateMethod ⟨"EchoCouncilModel", "isInside", "(I)Z"⟩) ∈ lw_tbl := tk_8 (List.mem_of_getElem? (i := 101) (by decide +kernel))
theorem tw_1782 : (Cond.instanceMethod ⟨"EchoCouncilModel", "isInside", "(I)Z"⟩) ∈ lw_tbl := tk_8 (List.mem_of_getElem? (i := 102) (by decide +kernel))
theorem tw_1783 : (Cond.code ⟨"EchoCouncilModel", "isInside", "(I)Z"⟩ prog_12_method_53_code 2 (some FieldType.boolean)) ∈ lw_tbl := tk_8 (List.mem_of_getElem? (i := 103) (by decide +kernel))
theorem tw_1784 : (Cond.methodLink "EchoCouncilModel" 187 ⟨"EchoCouncilModel", "tonesIn", "(III)I"⟩) ∈ lw_tbl := tk_8 (List.mem_of_getElem? (i := 104) (by decide +kernel))
theorem tw_1785 : (Cond.privateMethod ⟨"EchoCouncilModel", "tonesIn", "(III)I"⟩) ∈ lw_tbl := tk_8 (List.mem_of_getElem? (i := 105) (by decide +kernel))
theorem tw_1786 : (Cond.instanceMethod ⟨"EchoCouncilModel", "tonesIn", "(III)I"⟩) ∈ lw_tbl := tk_8 (List.mem_of_getElem? (i := 106) (by decide +kernel))
theorem tw_1787 : (Cond.code ⟨"EchoCouncilModel", "tonesIn", "(III)I"⟩ prog_12_method_52_code 9 (some FieldType.int)) ∈ lw_tbl := tk_8 (List.mem_of_getElem? (i := 107) (by decide +kernel))
theorem tw_1788 : (Cond.methodLink "EchoCouncilLaw" 205 ⟨"EchoCouncilModel", "tonesAgain", "(I)I"⟩) ∈ lw_tbl := tk_8 (List.mem_of_getElem? (i := 108) (by decide +kernel))
theorem tw_1789 : (Cond.instanceMethod ⟨"EchoCouncilModel", "tonesAgain", "(I)I"⟩) ∈ lw_tbl := tk_8 (List.mem_of_getElem? (i := 109) (by decide +kernel))
theorem tw_1790 : (Cond.selects "EchoCouncilModel" ⟨"EchoCouncilModel", "tonesAgain", "(I)I"⟩ ⟨"EchoCouncilModel", "tonesAgain", "(I)I"⟩) ∈ lw_tbl := tk_8 (List.mem_of_getElem? (i := 110) (by decide +kernel))
theorem tw_1791 : (Cond.code ⟨"EchoCouncilModel", "tonesAgain", "(I)I"⟩ prog_12_method_56_code 2 (some FieldType.int)) ∈ lw_tbl := tk_8 (List.mem_of_getElem? (i := 111) (by decide +kernel))
theorem tw_1792 : (Cond.methodLink "EchoCouncilLaw" 208 ⟨"EchoCouncilModel", "verses", "(I)I"⟩) ∈ lw_tbl := tk_8 (List.mem_of_getElem? (i := 112) (by decide +kernel))
theorem tw_1793 : (Cond.instanceMethod ⟨"EchoCouncilModel", "verses", "(I)I"⟩) ∈ lw_tbl := tk_8 (List.mem_of_getElem? (i := 113) (by decide +kernel))
theorem tw_1794 : (Cond.selects "EchoCouncilModel" ⟨"EchoCouncilModel", "verses", "(I)I"⟩ ⟨"EchoCouncilModel", "verses", "(I)I"⟩) ∈ lw_tbl := tk_8 (List.mem_of_getElem? (i := 114) (by decide +kernel))
theorem tw_1795 : (Cond.code ⟨"EchoCouncilModel", "verses", "(I)I"⟩ prog_12_method_58_code 2 (some FieldType.int)) ∈ lw_tbl := tk_8 (List.mem_of_getElem? (i := 115) (by decide +kernel))
theorem tw_1796 : (Cond.methodLink "EchoCouncilModel" 193 ⟨"EchoCouncilModel", "versesNow", "(I)I"⟩) ∈ lw_tbl := tk_8 (List.mem_of_getElem? (i := 116) (by decide +kernel))
theorem tw_1797 : (Cond.privateMethod ⟨"EchoCouncilModel", "versesNow", "(I)I"⟩) ∈ lw_tbl := tk_8 (List.mem_of_getElem? (i := 117) (by decide +kernel))
theorem tw_1798 : (Cond.instanceMethod ⟨"EchoCouncilModel", "versesNow", "(I)I"⟩) ∈ lw_tbl := tk_8 (List.mem_of_getElem? (i := 118) (by decide +kernel))
theorem tw_1799 : (Cond.code ⟨"EchoCouncilModel", "versesNow", "(I)I"⟩ prog_12_method_57_code 3 (some FieldType.int)) ∈ lw_tbl := tk_8 (List.mem_of_getElem? (i := 119) (by decide +kernel))
theorem tw_1800 : (Cond.methodLink "EchoCouncilLaw" 211 ⟨"EchoCouncilModel", "versesAgain", "(I)I"⟩) ∈ lw_tbl := tk_8 (List.mem_of_getElem? (i := 120) (by decide +kernel))
theorem tw_1801 : (Cond.instanceMethod ⟨"EchoCouncilModel", "versesAgain", "(I)I"⟩) ∈ lw_tbl := tk_8 (List.mem_of_getElem? (i := 121) (by decide +kernel))
theorem tw_1802 : (Cond.selects "EchoCouncilModel" ⟨"EchoCouncilModel", "versesAgain", "(I)I"⟩ ⟨"EchoCouncilModel", "versesAgain", "(I)I"⟩) ∈ lw_tbl := tk_8 (List.mem_of_getElem? (i := 122) (by decide +kernel))
theorem tw_1803 : (Cond.code ⟨"EchoCouncilModel", "versesAgain", "(I)I"⟩ prog_12_method_59_code 2 (some FieldType.int)) ∈ lw_tbl := tk_8 (List.mem_of_getElem? (i := 123) (by decide +kernel))
theorem tw_1804 : (Cond.methodLink "EchoCouncilLaw" 214 ⟨"EchoCouncilModel", "would", "(II)I"⟩) ∈ lw_tbl := tk_8 (List.mem_of_getElem? (i := 124) (by decide +kernel))
theorem tw_1805 : (Cond.instanceMethod ⟨"EchoCouncilModel", "would", "(II)I"⟩) ∈ lw_tbl := tk_8 (List.mem_of_getElem? (i := 125) (by decide +kernel))
theorem tw_1806 : (Cond.selects "EchoCouncilModel" ⟨"EchoCouncilModel", "would", "(II)I"⟩ ⟨"EchoCouncilModel", "would", "(II)I"⟩) ∈ lw_tbl := tk_8 (List.mem_of_getElem? (i := 126) (by decide +kernel))
theorem tw_1807 : (Cond.code ⟨"EchoCouncilModel", "would", "(II)I"⟩ prog_12_method_60_code 3 (some FieldType.int)) ∈ lw_tbl := tk_8 (List.mem_of_getElem? (i := 127) (by decide +kernel))
theorem tw_1808 : (Cond.methodLink "EchoCouncilLaw" 217 ⟨"EchoCouncilModel", "bestRoom", "(I)I"⟩) ∈ lw_tbl := tk_8 (List.mem_of_getElem? (i := 128) (by decide +kernel))
theorem tw_1809 : (Cond.instanceMethod ⟨"EchoCouncilModel", "bestRoom", "(I)I"⟩) ∈ lw_tbl := tk_8 (List.mem_of_getElem? (i := 129) (by decide +kernel))
theorem tw_1810 : (Cond.selects "EchoCouncilModel" ⟨"EchoCouncilModel", "bestRoom", "(I)I"⟩ ⟨"EchoCouncilModel", "bestRoom", "(I)I"⟩) ∈ lw_tbl := tk_8 (List.mem_of_getElem? (i := 130) (by decide +kernel))
theorem tw_1811 : (Cond.code ⟨"EchoCouncilModel", "bestRoom", "(I)I"⟩ prog_12_method_61_code 4 (some FieldType.int)) ∈ lw_tbl := tk_8 (List.mem_of_getElem? (i := 131) (by decide +kernel))
theorem tw_1812 : (Cond.methodLink "EchoCouncilLaw" 220 ⟨"EchoCouncilModel", "canEnter", "(II)Z"⟩) ∈ lw_tbl := tk_8 (List.mem_of_getElem? (i := 132) (by decide +kernel))
theorem tw_1813 : (Cond.instanceMethod ⟨"EchoCouncilModel", "canEnter", "(II)Z"⟩) ∈ lw_tbl := tk_8 (List.mem_of_getElem? (i := 133) (by decide +kernel))
theorem tw_1814 : (Cond.selects "EchoCouncilModel" ⟨"EchoCouncilModel", "canEnter", "(II)Z"⟩ ⟨"EchoCouncilModel", "canEnter", "(II)Z"⟩) ∈ lw_tbl := tk_8 (List.mem_of_getElem? (i := 134) (by decide +kernel))
theorem tw_1815 : (Cond.code ⟨"EchoCouncilModel", "canEnter", "(II)Z"⟩ prog_12_method_62_code 3 (some FieldType.boolean)) ∈ lw_tbl := tk_8 (List.mem_of_getElem? (i := 135) (by decide +kernel))
theorem tw_1816 : (Cond.methodLink "EchoCouncilLaw" 223 ⟨"EchoCouncilModel", "canRent", "(II)Z"⟩) ∈ lw_tbl := tk_8 (List.mem_of_getElem? (i := 136) (by decide +kernel))
theorem tw_1817 : (Cond.instanceMethod ⟨"EchoCouncilModel", "canRent", "(II)Z"⟩) ∈ lw_tbl := tk_8 (List.mem_of_getElem? (i := 137) (by decide +kernel))
theorem tw_1818 : (Cond.selects "EchoCouncilModel" ⟨"EchoCouncilModel", "canRent", "(II)Z"⟩ ⟨"EchoCouncilModel", "canRent", "(II)Z"⟩) ∈ lw_tbl := tk_8 (List.mem_of_getElem? (i := 138) (by decide +kernel))
theorem tw_1819 : (Cond.code ⟨"EchoCouncilModel", "canRent", "(II)Z"⟩ prog_12_method_63_code 3 (some FieldType.boolean)) ∈ lw_tbl := tk_8 (List.mem_of_getElem? (i := 139) (by decide +kernel))
theorem tw_1820 : (Cond.methodLink "EchoCouncilLaw" 226 ⟨"EchoCouncilModel", "backFor", "(I)I"⟩) ∈ lw_tbl := tk_8 (List.mem_of_getElem? (i := 140) (by decide +kernel))
theorem tw_1821 : (Cond.instanceMethod ⟨"EchoCouncilModel", "backFor", "(I)I"⟩) ∈ lw_tbl := tk_8 (List.mem_of_getElem? (i := 141) (by decide +kernel))
theorem tw_1822 : (Cond.selects "EchoCouncilModel" ⟨"EchoCouncilModel", "backFor", "(I)I"⟩ ⟨"EchoCouncilModel", "backFor", "(I)I"⟩) ∈ lw_tbl := tk_8 (List.mem_of_getElem? (i := 142) (by decide +kernel))
theorem tw_1823 : (Cond.code ⟨"EchoCouncilModel", "backFor", "(I)I"⟩ prog_12_method_64_code 3 (some FieldType.int)) ∈ lw_tbl := tk_8 (List.mem_of_getElem? (i := 143) (by decide +kernel))
theorem tw_1824 : (Cond.methodLink "EchoCouncilLaw" 229 ⟨"EchoCouncilModel", "others", "(I)I"⟩) ∈ lw_tbl := tk_8 (List.mem_of_getElem? (i := 144) (by decide +kernel))
theorem tw_1825 : (Cond.instanceMethod ⟨"EchoCouncilModel", "others", "(I)I"⟩) ∈ lw_tbl := tk_8 (List.mem_of_getElem? (i := 145) (by decide +kernel))
theorem tw_1826 : (Cond.selects "EchoCouncilModel" ⟨"EchoCouncilModel", "others", "(I)I"⟩ ⟨"EchoCouncilModel", "others", "(I)I"⟩) ∈ lw_tbl := tk_8 (List.mem_of_getElem? (i := 146) (by decide +kernel))
theorem tw_1827 : (Cond.code ⟨"EchoCouncilModel", "others", "(I)I"⟩ prog_12_method_65_code 2 (some FieldType.int)) ∈ lw_tbl := tk_8 (List.mem_of_getElem? (i := 147) (by decide +kernel))
theorem tw_1828 : (Cond.methodLink "EchoCouncilLaw" 232 ⟨"EchoCouncilModel", "free", "(I)I"⟩) ∈ lw_tbl := tk_8 (List.mem_of_getElem? (i := 148) (by decide +kernel))
theorem tw_1829 : (Cond.instanceMethod ⟨"EchoCouncilModel", "free", "(I)I"⟩) ∈ lw_tbl := tk_8 (List.mem_of_getElem? (i := 149) (by decide +kernel))
theorem tw_1830 : (Cond.selects "EchoCouncilModel" ⟨"EchoCouncilModel", "free", "(I)I"⟩ ⟨"EchoCouncilModel", "free", "(I)I"⟩) ∈ lw_tbl := tk_8 (List.mem_of_getElem? (i := 150) (by decide +kernel))
theorem tw_1831 : (Cond.code ⟨"EchoCouncilModel", "free", "(I)I"⟩ prog_12_method_66_code 2 (some FieldType.int)) ∈ lw_tbl := tk_8 (List.mem_of_getElem? (i := 151) (by decide +kernel))
theorem tw_1832 : (Cond.methodLink "EchoCouncilLaw" 235 ⟨"EchoCouncilModel", "dryIn", "(I)I"⟩) ∈ lw_tbl := tk_8 (List.mem_of_getElem? (i := 152) (by decide +kernel))
theorem tw_1833 : (Cond.instanceMethod ⟨"EchoCouncilModel", "dryIn", "(I)I"⟩) ∈ lw_tbl := tk_8 (List.mem_of_getElem? (i := 153) (by decide +kernel))
theorem tw_1834 : (Cond.selects "EchoCouncilModel" ⟨"EchoCouncilModel", "dryIn", "(I)I"⟩ ⟨"EchoCouncilModel", "dryIn", "(I)I"⟩) ∈ lw_tbl := tk_8 (List.mem_of_getElem? (i := 154) (by decide +kernel))
theorem tw_1835 : (Cond.code ⟨"EchoCouncilModel", "dryIn", "(I)I"⟩ prog_12_method_67_code 2 (some FieldType.int)) ∈ lw_tbl := tk_8 (List.mem_of_getElem? (i := 155) (by decide +kernel))
theorem tw_1836 : (Cond.methodLink "EchoCouncilLaw" 238 ⟨"EchoCouncilModel", "dampest", "(I)I"⟩) ∈ lw_tbl := tk_8 (List.mem_of_getElem? (i := 156) (by decide +kernel))
theorem tw_1837 : (Cond.instanceMethod ⟨"EchoCouncilModel", "dampest", "(I)I"⟩) ∈ lw_tbl := tk_8 (List.mem_of_getElem? (i := 157) (by decide +kernel))
theorem tw_1838 : (Cond.selects "EchoCouncilModel" ⟨"EchoCouncilModel", "dampest", "(I)I"⟩ ⟨"EchoCouncilModel", "dampest", "(I)I"⟩) ∈ lw_tbl := tk_8 (List.mem_of_getElem? (i := 158) (by decide +kernel))
theorem tw_1839 : (Cond.code ⟨"EchoCouncilModel", "dampest", "(I)I"⟩ prog_12_method_68_code 8 (some FieldType.int)) ∈ lw_tbl := tk_8 (List.mem_of_getElem? (i := 159) (by decide +kernel))
theorem tw_1840 : (Cond.methodLink "EchoCouncilLaw" 241 ⟨"EchoCouncilModel", "ranked", "(II)I"⟩) ∈ lw_tbl := tk_8 (List.mem_of_getElem? (i := 160) (by decide +kernel))
theorem tw_1841 : (Cond.instanceMethod ⟨"EchoCouncilModel", "ranked", "(II)I"⟩) ∈ lw_tbl := tk_8 (List.mem_of_getElem? (i := 161) (by decide +kernel))
theorem tw_1842 : (Cond.selects "EchoCouncilModel" ⟨"EchoCouncilModel", "ranked", "(II)I"⟩ ⟨"EchoCouncilModel", "ranked", "(II)I"⟩) ∈ lw_tbl := tk_8 (List.mem_of_getElem? (i := 162) (by decide +kernel))
theorem tw_1843 : (Cond.code ⟨"EchoCouncilModel", "ranked", "(II)I"⟩ prog_12_method_70_code 8 (some FieldType.int)) ∈ lw_tbl := tk_8 (List.mem_of_getElem? (i := 163) (by decide +kernel))
theorem tw_1844 : (Cond.methodLink "EchoCouncilModel" 196 ⟨"EchoCouncilModel", "rankOf", "(II)I"⟩) ∈ lw_tbl := tk_8 (List.mem_of_getElem? (i := 164) (by decide +kernel))
theorem tw_1845 : (Cond.privateMethod ⟨"EchoCouncilModel", "rankOf", "(II)I"⟩) ∈ lw_tbl := tk_8 (List.mem_of_getElem? (i := 165) (by decide +kernel))
theorem tw_1846 : (Cond.instanceMethod ⟨"EchoCouncilModel", "rankOf", "(II)I"⟩) ∈ lw_tbl := tk_8 (List.mem_of_getElem? (i := 166) (by decide +kernel))
theorem tw_1847 : (Cond.code ⟨"EchoCouncilModel", "rankOf", "(II)I"⟩ prog_12_method_69_code 4 (some FieldType.int)) ∈ lw_tbl := tk_8 (List.mem_of_getElem? (i := 167) (by decide +kernel))
theorem tw_1848 : (Cond.methodLink "EchoCouncilLaw" 244 ⟨"EchoCouncilModel", "strongest", "(I)I"⟩) ∈ lw_tbl := tk_8 (List.mem_of_getElem? (i := 168) (by decide +kernel))
theorem tw_1849 : (Cond.instanceMethod ⟨"EchoCouncilModel", "strongest", "(I)I"⟩) ∈ lw_tbl := tk_8 (List.mem_of_getElem? (i := 169) (by decide +kernel))
theorem tw_1850 : (Cond.selects "EchoCouncilModel" ⟨"EchoCouncilModel", "strongest", "(I)I"⟩ ⟨"EchoCouncilModel", "strongest", "(I)I"⟩) ∈ lw_tbl := tk_8 (List.mem_of_getElem? (i := 170) (by decide +kernel))
theorem tw_1851 : (Cond.code ⟨"EchoCouncilModel", "strongest", "(I)I"⟩ prog_12_method_71_code 8 (some FieldType.int)) ∈ lw_tbl := tk_8 (List.mem_of_getElem? (i := 171) (by decide +kernel))
theorem tw_1852 : (Cond.methodLink "EchoCouncilLaw" 249 ⟨"EchoCouncilModel", "isTold", "()Z"⟩) ∈ lw_tbl := tk_8 (List.mem_of_getElem? (i := 172) (by decide +kernel))
theorem tw_1853 : (Cond.instanceMethod ⟨"EchoCouncilModel", "isTold", "()Z"⟩) ∈ lw_tbl := tk_8 (List.mem_of_getElem? (i := 173) (by decide +kernel))
theorem tw_1854 : (Cond.selects "EchoCouncilModel" ⟨"EchoCouncilModel", "isTold", "()Z"⟩ ⟨"EchoCouncilModel", "isTold", "()Z"⟩) ∈ lw_tbl := tk_8 (List.mem_of_getElem? (i := 174) (by decide +kernel))
theorem tw_1855 : (Cond.code ⟨"EchoCouncilModel", "isTold", "()Z"⟩ prog_12_method_72_code 1 (some FieldType.boolean)) ∈ lw_tbl := tk_8 (List.mem_of_getElem? (i := 175) (by decide +kernel))
theorem tw_1856 : (Cond.methodLink "EchoCouncilLaw" 268 ⟨"EchoCouncilModel", "tellRoom", "(I)I"⟩) ∈ lw_tbl := tk_8 (List.mem_of_getElem? (i := 176) (by decide +kernel))
theorem tw_1857 : (Cond.instanceMethod ⟨"EchoCouncilModel", "tellRoom", "(I)I"⟩) ∈ lw_tbl := tk_8 (List.mem_of_getElem? (i := 177) (by decide +kernel))
theorem tw_1858 : (Cond.selects "EchoCouncilModel" ⟨"EchoCouncilModel", "tellRoom", "(I)I"⟩ ⟨"EchoCouncilModel", "tellRoom", "(I)I"⟩) ∈ lw_tbl := tk_8 (List.mem_of_getElem? (i := 178) (by decide +kernel))
theorem tw_1859 : (Cond.code ⟨"EchoCouncilModel", "tellRoom", "(I)I"⟩ prog_12_method_75_code 4 (some FieldType.int)) ∈ lw_tbl := tk_8 (List.mem_of_getElem? (i := 179) (by decide +kernel))
theorem tw_1860 : (Cond.methodLink "EchoCouncilModel" 202 ⟨"EchoCouncilModel", "writesNumber", "(II)I"⟩) ∈ lw_tbl := tk_8 (List.mem_of_getElem? (i := 180) (by decide +kernel))
theorem tw_1861 : (Cond.privateMethod ⟨"EchoCouncilModel", "writesNumber", "(II)I"⟩) ∈ lw_tbl := tk_8 (List.mem_of_getElem? (i := 181) (by decide +kernel))
theorem tw_1862 : (Cond.instanceMethod ⟨"EchoCouncilModel", "writesNumber", "(II)I"⟩) ∈ lw_tbl := tk_8 (List.mem_of_getElem? (i := 182) (by decide +kernel))
theorem tw_1863 : (Cond.code ⟨"EchoCouncilModel", "writesNumber", "(II)I"⟩ prog_12_method_74_code 4 (some FieldType.int)) ∈ lw_tbl := tk_8 (List.mem_of_getElem? (i := 183) (by decide +kernel))
theorem tw_1864 : (Cond.methodLink "EchoCouncilModel" 199 ⟨"EchoCouncilModel", "put", "(II)I"⟩) ∈ lw_tbl := tk_8 (List.mem_of_getElem? (i := 184) (by decide +kernel))
theorem tw_1865 : (Cond.privateMethod ⟨"EchoCouncilModel", "put", "(II)I"⟩) ∈ lw_tbl := tk_8 (List.mem_of_getElem? (i := 185) (by decide +kernel))
theorem tw_1866 : (Cond.instanceMethod ⟨"EchoCouncilModel", "put", "(II)I"⟩) ∈ lw_tbl := tk_8 (List.mem_of_getElem? (i := 186) (by decide +kernel))
theorem tw_1867 : (Cond.code ⟨"EchoCouncilModel", "put", "(II)I"⟩ prog_12_method_73_code 3 (some FieldType.int)) ∈ lw_tbl := tk_8 (List.mem_of_getElem? (i := 187) (by decide +kernel))
theorem tw_1868 : (Cond.methodLink "EchoCouncilLaw" 271 ⟨"EchoCouncilModel", "tellEcho", "(I)I"⟩) ∈ lw_tbl := tk_8 (List.mem_of_getElem? (i := 188) (by decide +kernel))
theorem tw_1869 : (Cond.instanceMethod ⟨"EchoCouncilModel", "tellEcho", "(I)I"⟩) ∈ lw_tbl := tk_8 (List.mem_of_getElem? (i := 189) (by decide +kernel))
theorem tw_1870 : (Cond.selects "EchoCouncilModel" ⟨"EchoCouncilModel", "tellEcho", "(I)I"⟩ ⟨"EchoCouncilModel", "tellEcho", "(I)I"⟩) ∈ lw_tbl := tk_8 (List.mem_of_getElem? (i := 190) (by decide +kernel))
theorem tw_1871 : (Cond.code ⟨"EchoCouncilModel", "tellEcho", "(I)I"⟩ prog_12_method_76_code 4 (some FieldType.int)) ∈ lw_tbl := tk_8 (List.mem_of_getElem? (i := 191) (by decide +kernel))
theorem tw_1872 : (Cond.methodLink "EchoCouncilLaw" 274 ⟨"EchoCouncilModel", "tellSinger", "(I)I"⟩) ∈ lw_tbl := tk_8 (List.mem_of_getElem? (i := 192) (by decide +kernel))
theorem tw_1873 : (Cond.instanceMethod ⟨"EchoCouncilModel", "tellSinger", "(I)I"⟩) ∈ lw_tbl := tk_8 (List.mem_of_getElem? (i := 193) (by decide +kernel))
theorem tw_1874 : (Cond.selects "EchoCouncilModel" ⟨"EchoCouncilModel", "tellSinger", "(I)I"⟩ ⟨"EchoCouncilModel", "tellSinger", "(I)I"⟩) ∈ lw_tbl := tk_8 (List.mem_of_getElem? (i := 194) (by decide +kernel))
theorem tw_1875 : (Cond.code ⟨"EchoCouncilModel", "tellSinger", "(I)I"⟩ prog_12_method_77_code 4 (some FieldType.int)) ∈ lw_tbl := tk_8 (List.mem_of_getElem? (i := 195) (by decide +kernel))
theorem tw_1876 : (Cond.methodLink "EchoCouncilLaw" 277 ⟨"EchoCouncilModel", "character", "(I)C"⟩) ∈ lw_tbl := tk_8 (List.mem_of_getElem? (i := 196) (by decide +kernel))
theorem tw_1877 : (Cond.instanceMethod ⟨"EchoCouncilModel", "character", "(I)C"⟩) ∈ lw_tbl := tk_8 (List.mem_of_getElem? (i := 197) (by decide +kernel))
theorem tw_1878 : (Cond.selects "EchoCouncilModel" ⟨"EchoCouncilModel", "character", "(I)C"⟩ ⟨"EchoCouncilModel", "character", "(I)C"⟩) ∈ lw_tbl := tk_8 (List.mem_of_getElem? (i := 198) (by decide +kernel))
theorem tw_1879 : (Cond.code ⟨"EchoCouncilModel", "character", "(I)C"⟩ prog_12_method_78_code 2 (some FieldType.char)) ∈ lw_tbl := tk_8 (List.mem_of_getElem? (i := 199) (by decide +kernel))
theorem tw_1880 : (Cond.methodLink "EchoCouncilLaw" 280 ⟨"EchoCouncilModel", "account", "(I)I"⟩) ∈ lw_tbl := tk_8 (List.mem_of_getElem? (i := 200) (by decide +kernel))
theorem tw_1881 : (Cond.instanceMethod ⟨"EchoCouncilModel", "account", "(I)I"⟩) ∈ lw_tbl := tk_8 (List.mem_of_getElem? (i := 201) (by decide +kernel))
theorem tw_1882 : (Cond.selects "EchoCouncilModel" ⟨"EchoCouncilModel", "account", "(I)I"⟩ ⟨"EchoCouncilModel", "account", "(I)I"⟩) ∈ lw_tbl := tk_8 (List.mem_of_getElem? (i := 202) (by decide +kernel))
theorem tw_1883 : (Cond.code ⟨"EchoCouncilModel", "account", "(I)I"⟩ prog_12_method_81_code 2 (some FieldType.int)) ∈ lw_tbl := tk_8 (List.mem_of_getElem? (i := 203) (by decide +kernel))
theorem tw_1884 : (Cond.methodLink "EchoCouncilModel" 208 ⟨"EchoCouncilModel", "allLet", "()I"⟩) ∈ lw_tbl := tk_8 (List.mem_of_getElem? (i := 204) (by decide +kernel))
theorem tw_1885 : (Cond.privateMethod ⟨"EchoCouncilModel", "allLet", "()I"⟩) ∈ lw_tbl := tk_8 (List.mem_of_getElem? (i := 205) (by decide +kernel))
theorem tw_1886 : (Cond.instanceMethod ⟨"EchoCouncilModel", "allLet", "()I"⟩) ∈ lw_tbl := tk_8 (List.mem_of_getElem? (i := 206) (by decide +kernel))
theorem tw_1887 : (Cond.code ⟨"EchoCouncilModel", "allLet", "()I"⟩ prog_12_method_80_code 3 (some FieldType.int)) ∈ lw_tbl := tk_8 (List.mem_of_getElem? (i := 207) (by decide +kernel))
theorem tw_1888 : (Cond.methodLink "EchoCouncilModel" 211 ⟨"EchoCouncilModel", "allDamp", "()I"⟩) ∈ lw_tbl := tk_8 (List.mem_of_getElem? (i := 208) (by decide +kernel))
theorem tw_1889 : (Cond.privateMethod ⟨"EchoCouncilModel", "allDamp", "()I"⟩) ∈ lw_tbl := tk_8 (List.mem_of_getElem? (i := 209) (by decide +kernel))
theorem tw_1890 : (Cond.instanceMethod ⟨"EchoCouncilModel", "allDamp", "()I"⟩) ∈ lw_tbl := tk_8 (List.mem_of_getElem? (i := 210) (by decide +kernel))
theorem tw_1891 : (Cond.code ⟨"EchoCouncilModel", "allDamp", "()I"⟩ prog_12_method_79_code 3 (some FieldType.int)) ∈ lw_tbl := tk_8 (List.mem_of_getElem? (i := 211) (by decide +kernel))
theorem tw_1892 : (Cond.methodLink "EchoCouncilLaw" 284 ⟨"EchoCouncilModel", "meanDamp", "()D"⟩) ∈ lw_tbl := tk_8 (List.mem_of_getElem? (i := 212) (by decide +kernel))
theorem tw_1893 : (Cond.instanceMethod ⟨"EchoCouncilModel", "meanDamp", "()D"⟩) ∈ lw_tbl := tk_8 (List.mem_of_getElem? (i := 213) (by decide +kernel))
theorem tw_1894 : (Cond.selects "EchoCouncilModel" ⟨"EchoCouncilModel", "meanDamp", "()D"⟩ ⟨"EchoCouncilModel", "meanDamp", "()D"⟩) ∈ lw_tbl := tk_8 (List.mem_of_getElem? (i := 214) (by decide +kernel))
theorem tw_1895 : (Cond.code ⟨"EchoCouncilModel", "meanDamp", "()D"⟩ prog_12_method_82_code 1 (some FieldType.double)) ∈ lw_tbl := tk_8 (List.mem_of_getElem? (i := 215) (by decide +kernel))
theorem tw_1896 : (Cond.methodLink "EchoCouncilLaw" 287 ⟨"EchoCouncilModel", "letShare", "()F"⟩) ∈ lw_tbl := tk_8 (List.mem_of_getElem? (i := 216) (by decide +kernel))
theorem tw_1897 : (Cond.instanceMethod ⟨"EchoCouncilModel", "letShare", "()F"⟩) ∈ lw_tbl := tk_8 (List.mem_of_getElem? (i := 217) (by decide +kernel))
theorem tw_1898 : (Cond.selects "EchoCouncilModel" ⟨"EchoCouncilModel", "letShare", "()F"⟩ ⟨"EchoCouncilModel", "letShare", "()F"⟩) ∈ lw_tbl := tk_8 (List.mem_of_getElem? (i := 218) (by decide +kernel))
theorem tw_1899 : (Cond.code ⟨"EchoCouncilModel", "letShare", "()F"⟩ prog_12_method_83_code 1 (some FieldType.float)) ∈ lw_tbl := tk_8 (List.mem_of_getElem? (i := 219) (by decide +kernel))
theorem tw_1900 : (Cond.methodLink "EchoCouncilLaw" 253 ⟨"EchoCouncilModel", "append", "(C)I"⟩) ∈ lw_tbl := tk_8 (List.mem_of_getElem? (i := 220) (by decide +kernel))
theorem tw_1901 : (Cond.instanceMethod ⟨"EchoCouncilModel", "append", "(C)I"⟩) ∈ lw_tbl := tk_8 (List.mem_of_getElem? (i := 221) (by decide +kernel))
theorem tw_1902 : (Cond.selects "EchoCouncilModel" ⟨"EchoCouncilModel", "append", "(C)I"⟩ ⟨"EchoCouncilModel", "append", "(C)I"⟩) ∈ lw_tbl := tk_8 (List.mem_of_getElem? (i := 222) (by decide +kernel))
theorem tw_1903 : (Cond.code ⟨"EchoCouncilModel", "append", "(C)I"⟩ prog_12_method_84_code 2 (some FieldType.int)) ∈ lw_tbl := tk_8 (List.mem_of_getElem? (i := 223) (by decide +kernel))
theorem tw_1904 : (Cond.methodLink "EchoCouncilLaw" 261 ⟨"EchoCouncilModel", "faultPosition", "()I"⟩) ∈ lw_tbl := tk_8 (List.mem_of_getElem? (i := 224) (by decide +kernel))
theorem tw_1905 : (Cond.instanceMethod ⟨"EchoCouncilModel", "faultPosition", "()I"⟩) ∈ lw_tbl := tk_8 (List.mem_of_getElem? (i := 225) (by decide +kernel))
theorem tw_1906 : (Cond.selects "EchoCouncilModel" ⟨"EchoCouncilModel", "faultPosition", "()I"⟩ ⟨"EchoCouncilModel", "faultPosition", "()I"⟩) ∈ lw_tbl := tk_8 (List.mem_of_getElem? (i := 226) (by decide +kernel))
theorem tw_1907 : (Cond.code ⟨"EchoCouncilModel", "faultPosition", "()I"⟩ prog_12_method_85_code 1 (some FieldType.int)) ∈ lw_tbl := tk_8 (List.mem_of_getElem? (i := 227) (by decide +kernel))
theorem tw_1908 : (Cond.methodLink "EchoCouncilLaw" 257 ⟨"EchoCouncilModel", "run", "()I"⟩) ∈ lw_tbl := tk_8 (List.mem_of_getElem? (i := 228) (by decide +kernel))
theorem tw_1909 : (Cond.instanceMethod ⟨"EchoCouncilModel", "run", "()I"⟩) ∈ lw_tbl := tk_8 (List.mem_of_getElem? (i := 229) (by decide +kernel))
theorem tw_1910 : (Cond.selects "EchoCouncilModel" ⟨"EchoCouncilModel", "run", "()I"⟩ ⟨"EchoCouncilModel", "run", "()I"⟩) ∈ lw_tbl := tk_8 (List.mem_of_getElem? (i := 230) (by decide +kernel))
theorem tw_1911 : (Cond.code ⟨"EchoCouncilModel", "run", "()I"⟩ prog_12_method_95_code 3 (some FieldType.int)) ∈ lw_tbl := tk_8 (List.mem_of_getElem? (i := 231) (by decide +kernel))
theorem tw_1912 : (Cond.methodLink "EchoCouncilModel" 258 ⟨"EchoCouncilModel", "readsAll", "()V"⟩) ∈ lw_tbl := tk_8 (List.mem_of_getElem? (i := 232) (by decide +kernel))
theorem tw_1913 : (Cond.privateMethod ⟨"EchoCouncilModel", "readsAll", "()V"⟩) ∈ lw_tbl := tk_8 (List.mem_of_getElem? (i := 233) (by decide +kernel))
theorem tw_1914 : (Cond.instanceMethod ⟨"EchoCouncilModel", "readsAll", "()V"⟩) ∈ lw_tbl := tk_8 (List.mem_of_getElem? (i := 234) (by decide +kernel))
theorem tw_1915 : (Cond.code ⟨"EchoCouncilModel", "readsAll", "()V"⟩ prog_12_method_93_code 2 none) ∈ lw_tbl := tk_8 (List.mem_of_getElem? (i := 235) (by decide +kernel))
theorem tw_1916 : (Cond.methodLink "EchoCouncilModel" 255 ⟨"EchoCouncilModel", "readsCommand", "()V"⟩) ∈ lw_tbl := tk_8 (List.mem_of_getElem? (i := 236) (by decide +kernel))
theorem tw_1917 : (Cond.privateMethod ⟨"EchoCouncilModel", "readsCommand", "()V"⟩) ∈ lw_tbl := tk_8 (List.mem_of_getElem? (i := 237) (by decide +kernel))
theorem tw_1918 : (Cond.instanceMethod ⟨"EchoCouncilModel", "readsCommand", "()V"⟩) ∈ lw_tbl := tk_8 (List.mem_of_getElem? (i := 238) (by decide +kernel))
theorem tw_1919 : (Cond.code ⟨"EchoCouncilModel", "readsCommand", "()V"⟩ prog_12_method_92_code 4 none) ∈ lw_tbl := tk_8 (List.mem_of_getElem? (i := 239) (by decide +kernel))
theorem tw_1920 : (Cond.methodLink "EchoCouncilModel" 249 ⟨"EchoCouncilModel", "kindHere", "()I"⟩) ∈ lw_tbl := tk_9 (List.mem_of_getElem? (i := 0) (by decide +kernel))
theorem tw_1921 : (Cond.privateMethod ⟨"EchoCouncilModel", "kindHere", "()I"⟩) ∈ lw_tbl := tk_9 (List.mem_of_getElem? (i := 1) (by decide +kernel))
theorem tw_1922 : (Cond.instanceMethod ⟨"EchoCouncilModel", "kindHere", "()I"⟩) ∈ lw_tbl := tk_9 (List.mem_of_getElem? (i := 2) (by decide +kernel))
theorem tw_1923 : (Cond.code ⟨"EchoCouncilModel", "kindHere", "()I"⟩ prog_12_method_91_code 6 (some FieldType.int)) ∈ lw_tbl := tk_9 (List.mem_of_getElem? (i := 3) (by decide +kernel))
theorem tw_1924 : (Cond.methodLink "EchoCouncilModel" 235 ⟨"EchoCouncilModel", "startOf", "(I)I"⟩) ∈ lw_tbl := tk_9 (List.mem_of_getElem? (i := 4) (by decide +kernel))
theorem tw_1925 : (Cond.static ⟨"EchoCouncilModel", "startOf", "(I)I"⟩) ∈ lw_tbl := tk_9 (List.mem_of_getElem? (i := 5) (by decide +kernel))
theorem tw_1926 : (Cond.code ⟨"EchoCouncilModel", "startOf", "(I)I"⟩ prog_12_method_90_code 1 (some FieldType.int)) ∈ lw_tbl := tk_9 (List.mem_of_getElem? (i := 6) (by decide +kernel))
theorem tw_1927 : (Cond.stringRef "EchoCouncilModel" 238 "room echo singer enter out carry rent back sing night") ∈ lw_tbl := tk_9 (List.mem_of_getElem? (i := 7) (by decide +kernel))
theorem tw_1928 : (Cond.methodLink "EchoCouncilModel" 240 ⟨"java/lang/String", "charAt", "(I)C"⟩) ∈ lw_tbl := tk_9 (List.mem_of_getElem? (i := 8) (by decide +kernel))
theorem tw_1929 : (Cond.methodLink "EchoCouncilModel" 232 ⟨"EchoCouncilModel", "digit", "()I"⟩) ∈ lw_tbl := tk_9 (List.mem_of_getElem? (i := 9) (by decide +kernel))
theorem tw_1930 : (Cond.privateMethod ⟨"EchoCouncilModel", "digit", "()I"⟩) ∈ lw_tbl := tk_9 (List.mem_of_getElem? (i := 10) (by decide +kernel))
theorem tw_1931 : (Cond.instanceMethod ⟨"EchoCouncilModel", "digit", "()I"⟩) ∈ lw_tbl := tk_9 (List.mem_of_getElem? (i := 11) (by decide +kernel))
theorem tw_1932 : (Cond.code ⟨"EchoCouncilModel", "digit", "()I"⟩ prog_12_method_88_code 1 (some FieldType.int)) ∈ lw_tbl := tk_9 (List.mem_of_getElem? (i := 12) (by decide +kernel))
theorem tw_1933 : (Cond.methodLink "EchoCouncilModel" 229 ⟨"EchoCouncilModel", "reads", "(II)I"⟩) ∈ lw_tbl := tk_9 (List.mem_of_getElem? (i := 13) (by decide +kernel))
theorem tw_1934 : (Cond.privateMethod ⟨"EchoCouncilModel", "reads", "(II)I"⟩) ∈ lw_tbl := tk_9 (List.mem_of_getElem? (i := 14) (by decide +kernel))
theorem tw_1935 : (Cond.instanceMethod ⟨"EchoCouncilModel", "reads", "(II)I"⟩) ∈ lw_tbl := tk_9 (List.mem_of_getElem? (i := 15) (by decide +kernel))
theorem tw_1936 : (Cond.code ⟨"EchoCouncilModel", "reads", "(II)I"⟩ prog_12_method_87_code 3 (some FieldType.int)) ∈ lw_tbl := tk_9 (List.mem_of_getElem? (i := 16) (by decide +kernel))
theorem tw_1937 : (Cond.methodLink "EchoCouncilModel" 226 ⟨"EchoCouncilModel", "letterHere", "()I"⟩) ∈ lw_tbl := tk_9 (List.mem_of_getElem? (i := 17) (by decide +kernel))
theorem tw_1938 : (Cond.privateMethod ⟨"EchoCouncilModel", "letterHere", "()I"⟩) ∈ lw_tbl := tk_9 (List.mem_of_getElem? (i := 18) (by decide +kernel))
theorem tw_1939 : (Cond.instanceMethod ⟨"EchoCouncilModel", "letterHere", "()I"⟩) ∈ lw_tbl := tk_9 (List.mem_of_getElem? (i := 19) (by decide +kernel))
theorem tw_1940 : (Cond.code ⟨"EchoCouncilModel", "letterHere", "()I"⟩ prog_12_method_86_code 1 (some FieldType.int)) ∈ lw_tbl := tk_9 (List.mem_of_getElem? (i := 20) (by decide +kernel))
theorem tw_1941 : (Cond.methodLink "EchoCouncilModel" 252 ⟨"EchoCouncilModel", "behind", "()I"⟩) ∈ lw_tbl := tk_9 (List.mem_of_getElem? (i := 21) (by decide +kernel))
theorem tw_1942 : (Cond.privateMethod ⟨"EchoCouncilModel", "behind", "()I"⟩) ∈ lw_tbl := tk_9 (List.mem_of_getElem? (i := 22) (by decide +kernel))
theorem tw_1943 : (Cond.instanceMethod ⟨"EchoCouncilModel", "behind", "()I"⟩) ∈ lw_tbl := tk_9 (List.mem_of_getElem? (i := 23) (by decide +kernel))
theorem tw_1944 : (Cond.code ⟨"EchoCouncilModel", "behind", "()I"⟩ prog_12_method_89_code 2 (some FieldType.int)) ∈ lw_tbl := tk_9 (List.mem_of_getElem? (i := 24) (by decide +kernel))
theorem tw_1945 : (Cond.methodLink "EchoCouncilModel" 261 ⟨"EchoCouncilModel", "does", "(I)I"⟩) ∈ lw_tbl := tk_9 (List.mem_of_getElem? (i := 25) (by decide +kernel))
theorem tw_1946 : (Cond.privateMethod ⟨"EchoCouncilModel", "does", "(I)I"⟩) ∈ lw_tbl := tk_9 (List.mem_of_getElem? (i := 26) (by decide +kernel))
theorem tw_1947 : (Cond.instanceMethod ⟨"EchoCouncilModel", "does", "(I)I"⟩) ∈ lw_tbl := tk_9 (List.mem_of_getElem? (i := 27) (by decide +kernel))
theorem tw_1948 : (Cond.code ⟨"EchoCouncilModel", "does", "(I)I"⟩ prog_12_method_94_code 4 (some FieldType.int)) ∈ lw_tbl := tk_9 (List.mem_of_getElem? (i := 28) (by decide +kernel))
theorem tw_1949 : (Cond.arrayClass FieldType.long) ∈ lw_tbl := tk_9 (List.mem_of_getElem? (i := 29) (by decide +kernel))
theorem tw_1950 : (Cond.arrayClass FieldType.double) ∈ lw_tbl := tk_9 (List.mem_of_getElem? (i := 30) (by decide +kernel))
theorem tw_1951 : (Cond.sameMethod "java/lang/Throwable" "java/lang/Throwable" "fillInStackTrace" "(I)Ljava/lang/Throwable;") ∈ lw_tbl := tk_9 (List.mem_of_getElem? (i := 31) (by decide +kernel))
theorem tw_1952 : (Cond.sameMethod "java/lang/AbstractStringBuilder" "java/lang/AbstractStringBuilder" "setLength" "(I)V") ∈ lw_tbl := tk_9 (List.mem_of_getElem? (i := 32) (by decide +kernel))
theorem tw_1953 : (Cond.sameMethod "java/lang/AbstractStringBuilder" "java/lang/AbstractStringBuilder" "append" "(Ljava/lang/String;)Ljava/lang/AbstractStringBuilder;") ∈ lw_tbl := tk_9 (List.mem_of_getElem? (i := 33) (by decide +kernel))
theorem tw_1954 : (Cond.sameMethod "java/lang/AbstractStringBuilder" "java/lang/AbstractStringBuilder" "appendNull" "()Ljava/lang/AbstractStringBuilder;") ∈ lw_tbl := tk_9 (List.mem_of_getElem? (i := 34) (by decide +kernel))
theorem tw_1955 : (Cond.sameMethod "java/lang/AbstractStringBuilder" "java/lang/AbstractStringBuilder" "ensureCapacityInternal" "(I)V") ∈ lw_tbl := tk_9 (List.mem_of_getElem? (i := 35) (by decide +kernel))
theorem tw_1956 : (Cond.sameMethod "java/lang/AbstractStringBuilder" "java/lang/AbstractStringBuilder" "newCapacity" "(I)I") ∈ lw_tbl := tk_9 (List.mem_of_getElem? (i := 36) (by decide +kernel))
theorem tw_1957 : (Cond.sameMethod "java/lang/AbstractStringBuilder" "java/lang/AbstractStringBuilder" "putStringAt" "(ILjava/lang/String;)V") ∈ lw_tbl := tk_9 (List.mem_of_getElem? (i := 37) (by decide +kernel))
theorem tw_1958 : (Cond.sameMethod "java/lang/AbstractStringBuilder" "java/lang/AbstractStringBuilder" "inflateIfNeededFor" "(Ljava/lang/String;)V") ∈ lw_tbl := tk_9 (List.mem_of_getElem? (i := 38) (by decide +kernel))
theorem tw_1959 : (Cond.sameMethod "java/lang/AbstractStringBuilder" "java/lang/AbstractStringBuilder" "inflate" "()V") ∈ lw_tbl := tk_9 (List.mem_of_getElem? (i := 39) (by decide +kernel))
theorem tw_1960 : (Cond.sameMethod "java/lang/AbstractStringBuilder" "java/lang/AbstractStringBuilder" "append" "(I)Ljava/lang/AbstractStringBuilder;") ∈ lw_tbl := tk_9 (List.mem_of_getElem? (i := 40) (by decide +kernel))
theorem tw_1961 : (Cond.sameMethod "java/lang/AbstractStringBuilder" "java/lang/AbstractStringBuilder" "append" "(C)Ljava/lang/AbstractStringBuilder;") ∈ lw_tbl := tk_9 (List.mem_of_getElem? (i := 41) (by decide +kernel))
theorem tw_1962 : (Cond.selects "java/lang/StringBuilder" ⟨"java/lang/StringBuilder", "length", "()I"⟩ ⟨"java/lang/StringBuilder", "length", "()I"⟩) ∈ lw_tbl := tk_9 (List.mem_of_getElem? (i := 42) (by decide +kernel))
theorem tw_1963 : (Cond.sameMethod "java/lang/AbstractStringBuilder" "java/lang/AbstractStringBuilder" "charAt" "(I)C") ∈ lw_tbl := tk_9 (List.mem_of_getElem? (i := 43) (by decide +kernel))
theorem tw_1964 : (Cond.castable "java/lang/ArrayIndexOutOfBoundsException" "java/lang/IndexOutOfBoundsException") ∈ lw_tbl := tk_9 (List.mem_of_getElem? (i := 44) (by decide +kernel))
theorem tw_1965 : (Cond.castable "java/lang/StringIndexOutOfBoundsException" "java/lang/IndexOutOfBoundsException") ∈ lw_tbl := tk_9 (List.mem_of_getElem? (i := 45) (by decide +kernel))
theorem tw_1966 : (Cond.castable "EchoCouncil" "java/lang/Object") ∈ lw_tbl := tk_9 (List.mem_of_getElem? (i := 46) (by decide +kernel))
theorem tw_1967 : (Cond.castable "EchoCouncil$State" "java/lang/Object") ∈ lw_tbl := tk_9 (List.mem_of_getElem? (i := 47) (by decide +kernel))
theorem tw_1968 : (Cond.castable "EchoCouncil$Rooms" "java/lang/Object") ∈ lw_tbl := tk_9 (List.mem_of_getElem? (i := 48) (by decide +kernel))
theorem tw_1969 : (Cond.castable "EchoCouncil$Echoes" "java/lang/Object") ∈ lw_tbl := tk_9 (List.mem_of_getElem? (i := 49) (by decide +kernel))
theorem tw_1970 : (Cond.castable "EchoCouncil$Singers" "java/lang/Object") ∈ lw_tbl := tk_9 (List.mem_of_getElem? (i := 50) (by decide +kernel))
theorem tw_1971 : (Cond.castable "EchoCouncil$Past" "java/lang/Object") ∈ lw_tbl := tk_9 (List.mem_of_getElem? (i := 51) (by decide +kernel))
theorem tw_1972 : (Cond.castable "EchoCouncil$OrderText" "java/lang/Object") ∈ lw_tbl := tk_9 (List.mem_of_getElem? (i := 52) (by decide +kernel))
theorem tw_1973 : (Cond.castable "EchoCouncil$OrderKind" "java/lang/Object") ∈ lw_tbl := tk_9 (List.mem_of_getElem? (i := 53) (by decide +kernel))
theorem tw_1974 : (Cond.castable "EchoCouncil$Refusal" "java/lang/Object") ∈ lw_tbl := tk_9 (List.mem_of_getElem? (i := 54) (by decide +kernel))
theorem tw_1975 : (Cond.castable "java/lang/StringBuilder" "java/lang/Object") ∈ lw_tbl := tk_9 (List.mem_of_getElem? (i := 55) (by decide +kernel))
theorem tw_1976 : (Cond.castable "EchoCouncilModel" "java/lang/Object") ∈ lw_tbl := tk_9 (List.mem_of_getElem? (i := 56) (by decide +kernel))
theorem tw_1977 : (Cond.castable "java/lang/UnsupportedOperationException" "java/lang/Object") ∈ lw_tbl := tk_9 (List.mem_of_getElem? (i := 57) (by decide +kernel))
theorem tw_1978 : (Cond.castable "java/lang/ArrayIndexOutOfBoundsException" "java/lang/Object") ∈ lw_tbl := tk_9 (List.mem_of_getElem? (i := 58) (by decide +kernel))
theorem tw_1979 : (Cond.castable "java/lang/IndexOutOfBoundsException" "java/lang/Object") ∈ lw_tbl := tk_9 (List.mem_of_getElem? (i := 59) (by decide +kernel))
theorem tw_1980 : (Cond.castable "java/lang/IllegalArgumentException" "java/lang/Object") ∈ lw_tbl := tk_9 (List.mem_of_getElem? (i := 60) (by decide +kernel))
theorem tw_1981 : (Cond.castable "java/util/NoSuchElementException" "java/lang/Object") ∈ lw_tbl := tk_9 (List.mem_of_getElem? (i := 61) (by decide +kernel))
theorem tw_1982 : (Cond.castable "java/lang/IllegalStateException" "java/lang/Object") ∈ lw_tbl := tk_9 (List.mem_of_getElem? (i := 62) (by decide +kernel))
theorem tw_1983 : (Cond.castable "java/lang/StringIndexOutOfBoundsException" "java/lang/Object") ∈ lw_tbl := tk_9 (List.mem_of_getElem? (i := 63) (by decide +kernel))
theorem tw_1984 : (Cond.castable "java/lang/String" "java/lang/Object") ∈ lw_tbl := tk_9 (List.mem_of_getElem? (i := 64) (by decide +kernel))
theorem tw_1985 : (Cond.castable "java/lang/ArithmeticException" "java/lang/Object") ∈ lw_tbl := tk_9 (List.mem_of_getElem? (i := 65) (by decide +kernel))
theorem tw_1986 : (Cond.castable "java/lang/Throwable" "java/lang/Object") ∈ lw_tbl := tk_9 (List.mem_of_getElem? (i := 66) (by decide +kernel))
theorem tw_1987 : (Cond.fieldLink "java/lang/Enum" 7 "java/lang/Enum" "ordinal" "I") ∈ lw_tbl := tk_9 (List.mem_of_getElem? (i := 67) (by decide +kernel))
theorem tw_1988 : (Cond.fieldLink "EchoCouncil$OrderText" 54 "EchoCouncil$OrderKind" "word" "Ljava/lang/String;") ∈ lw_tbl := tk_9 (List.mem_of_getElem? (i := 68) (by decide +kernel))
theorem tw_1989 : (Cond.fieldLink "EchoCouncil$OrderText" 84 "EchoCouncil$OrderKind" "numbers" "I") ∈ lw_tbl := tk_9 (List.mem_of_getElem? (i := 69) (by decide +kernel))
theorem tw_1990 : (Cond.fieldLink "EchoCouncil$OrderText" 93 "EchoCouncil$OrderKind" "digitsOfLast" "I") ∈ lw_tbl := tk_9 (List.mem_of_getElem? (i := 70) (by decide +kernel))
theorem tw_1991 : (Cond.stringRef "EchoCouncil$OrderKind" 95 "night") ∈ lw_tbl := tk_9 (List.mem_of_getElem? (i := 71) (by decide +kernel))
theorem tw_1992 : (Cond.stringRef "EchoCouncil$OrderKind" 65 "room ") ∈ lw_tbl := tk_9 (List.mem_of_getElem? (i := 72) (by decide +kernel))
theorem tw_1993 : (Cond.stringRef "EchoCouncil$OrderKind" 71 "echo ") ∈ lw_tbl := tk_9 (List.mem_of_getElem? (i := 73) (by decide +kernel))
theorem tw_1994 : (Cond.stringRef "EchoCouncil$OrderKind" 74 "singer ") ∈ lw_tbl := tk_9 (List.mem_of_getElem? (i := 74) (by decide +kernel))
theorem tw_1995 : (Cond.stringRef "EchoCouncil$OrderKind" 77 "enter ") ∈ lw_tbl := tk_9 (List.mem_of_getElem? (i := 75) (by decide +kernel))
theorem tw_1996 : (Cond.stringRef "EchoCouncil$OrderKind" 80 "out ") ∈ lw_tbl := tk_9 (List.mem_of_getElem? (i := 76) (by decide +kernel))
theorem tw_1997 : (Cond.stringRef "EchoCouncil$OrderKind" 83 "carry ") ∈ lw_tbl := tk_9 (List.mem_of_getElem? (i := 77) (by decide +kernel))
theorem tw_1998 : (Cond.stringRef "EchoCouncil$OrderKind" 86 "rent ") ∈ lw_tbl := tk_9 (List.mem_of_getElem? (i := 78) (by decide +kernel))
theorem tw_1999 : (Cond.stringRef "EchoCouncil$OrderKind" 89 "back ") ∈ lw_tbl := tk_9 (List.mem_of_getElem? (i := 79) (by decide +kernel))
theorem tw_2000 : (Cond.stringRef "EchoCouncil$OrderKind" 92 "sing ") ∈ lw_tbl := tk_9 (List.mem_of_getElem? (i := 80) (by decide +kernel))
end
section
/-! An abstract machine over the kit's rows: a world is a list of gN cells of fixed shape (classes, references), its numbers are one function d : place -> slot -> number; beside it a list of letters (the line of text). -/
def upR (d : Nat → Nat → Int32) (k : Nat) (f : Nat → Int32) : Nat → Nat → Int32 := fun a => if a = k then f else d a
def up2 (d : Nat → Nat → Int32) (k j : Nat) (x : Int32) : Nat → Nat → Int32 := upR d k (upd (d k) j x)
abbrev aS : Type := (Nat → Nat → Int32) × List Nat
abbrev aG : Type := va_G × List (ClassId × FieldType) × (Nat → (Nat → Int32) → va_E) × Nat × (Nat → Nat) × (List Nat → va_W → Prop) × (State → Heap → Prop) × (Nat → Prop) × (Nat → Nat)
def gD (g : aG) : va_G := g.1
def gT (g : aG) : List (ClassId × FieldType) := g.2.1
def gSh (g : aG) : Nat → (Nat → Int32) → va_E := g.2.2.1
def gN (g : aG) : Nat := g.2.2.2.1
def gAd (g : aG) : Nat → Nat := g.2.2.2.2.1
def gEX (g : aG) : List Nat → va_W → Prop := g.2.2.2.2.2.1
def gEn (g : aG) : State → Heap → Prop := g.2.2.2.2.2.2.1
def gA (g : aG) : Nat → Prop := g.2.2.2.2.2.2.2.1
def gK (g : aG) : Nat → Nat := g.2.2.2.2.2.2.2.2
/-- the class of the arrays of kind i -/
def gc (g : aG) (i : Nat) : ClassId := ((gT g).getD i (0, .int)).1
theorem gc_at {g : aG} {i : Nat} {ty : FieldType} {l : List FieldType} (h : (gT g).map Prod.snd = l) (hi : l[i]? = some ty) : (gT g)[i]? = some (gc g i, ty) := by
  subst h
  rw [List.getElem?_map] at hi
  unfold gc
  cases hq : (gT g)[i]? with
  | none => rw [hq] at hi; cases hi
  | some x =>
    rw [hq] at hi
    cases hi
    rw [List.getD_eq_getElem?_getD, hq]
    rfl
def aWl (g : aG) (d : Nat → Nat → Int32) : va_W := (List.range (gN g)).map (fun k => (gAd g k, gSh g k (d k)))
theorem aWl_len (g : aG) (d : Nat → Nat → Int32) : (aWl g d).length = gN g := by simp [aWl]
theorem aWl_at (g : aG) (d : Nat → Nat → Int32) (ex : va_W) {k : Nat} (hk : k < gN g) : (aWl g d ++ ex)[k]? = some (gAd g k, gSh g k (d k)) := by
  rw [List.getElem?_append_left (by rw [aWl_len]; exact hk)]
  simp [aWl, hk]
theorem aWl_set (g : aG) (d : Nat → Nat → Int32) (ex : va_W) {k : Nat} (hk : k < gN g) (f : Nat → Int32) : (aWl g d ++ ex).set k (gAd g k, gSh g k f) = aWl g (upR d k f) ++ ex := by
  rw [List.set_append_left _ _ (by rw [aWl_len]; exact hk)]
  congr 1
  apply List.ext_getElem?
  intro i
  rw [List.getElem?_set, aWl_len]
  by_cases hi : i < gN g
  · by_cases e : k = i
    · subst e
      simp [aWl, hk, upR]
    · have e' : ¬ i = k := fun q => e q.symm
      simp [aWl, hi, upR, e, e']
  · have e : ¬ k = i := by omega
    simp [aWl, hi, e]
def aI (g : aG) (q : aS) (ex : va_W) (H : Heap) : Prop := gEX g q.2 ex ∧ va_P (gD g) vwCl (aWl g q.1 ++ ex) H ∧ va_D (gA g) (aWl g q.1 ++ ex)
def aWd (g : aG) (q : aS) (U : State) : Prop := (∃ ex, aI g q ex U.heap) ∧ va_K (gD g) vwCl (gT g) U ∧ (∀ a, U.heap.size ≤ a → gA g a) ∧ gEn g U U.heap
/-- the world behind a method -/
def aWp (g : aG) (q : aS) (U : State) : Prop := ∃ ex, aI g q ex U.heap
def gCl (g : aG) : Prop := ∀ (u U : State) (H H1 : Heap), u.WarmedH U.vm → (∀ a : Nat, a < H.size → ¬ gA g a → H1[a]? = H[a]?) → gEn g u H → gEn g U H1
def aR (n mc ms : Nat) : Room := { frames := n, cells := mc, slots := ms, locals := 60 * n }
def aWs (y : MethodName) (cc : ByteArray) (maxL : Nat) (ret : Option FieldType) : List Cond := Cond.code y cc maxL ret :: TW
def aX (g : aG) (X : String → aS → Prop) : String → State → State → Prop := vx_X (fun _ : aS => True) (fun E u t => X E u ∧ aWp g u t) (gA g)
/-- a method that answers an int (or boolean, char): P of the answer and the world behind it -/
def aMi (l : Launch) (g : aG) (y : MethodName) (ws : List Cond) (n mc ms : Nat) (As : List Value) (q : aS) (P : Int32 → aS → Prop) (X : String → aS → Prop) : Prop :=
  vx_Met l y ws (aR n mc ms) (va_Pc As (aWd g q)) (va_Qi P (aWp g) (gA g)) (aX g X) mc ms (gA g)
def aMv (l : Launch) (g : aG) (y : MethodName) (ws : List Cond) (n mc ms : Nat) (As : List Value) (q : aS) (P : Int32 → aS → Prop) (X : String → aS → Prop) : Prop :=
  vx_Met l y ws (aR n mc ms) (va_Pc As (aWd g q)) (va_Qv (P 0) (aWp g) (gA g)) (aX g X) mc ms (gA g)
theorem aBlind {g : aG} (hcl : gCl g) (As : List Value) (q : aS) : FrameBlind (va_Pc As (aWd g q)) := by
  intro a U g9 mk ⟨h1, h2, h3, h4, h5⟩
  exact ⟨h1, h2, va_K.moved (u := U) (U := U.calling g9 mk a) (Vm.Alike.refl U.vm) h3, h4, hcl U (U.calling g9 mk a) U.heap U.heap (State.WarmedH.refl U) (fun _ _ _ => rfl) h5⟩
/-! locals: a list of places -/
def lw_has (ls : Array Slot) (L : List (Option Value)) : Prop := ls.size = L.length ∧ lv_wf ls ∧ ∀ (i : Nat) (v : Value), L[i]? = some (some v) → ls[i]? = some (.val v) ∧ v.category = 1
def lw_prs (L : List (Option Value)) : List (Nat × Value) := (List.range L.length).filterMap (fun i => (L[i]?.join).map (fun v => (i, v)))
theorem lw_prs_mem {L : List (Option Value)} {i : Nat} {v : Value} : (i, v) ∈ lw_prs L ↔ L[i]? = some (some v) := by
  unfold lw_prs
  rw [List.mem_filterMap]
  constructor
  · rintro ⟨j, hj, h⟩
    cases hq : L[j]? with
    | none => rw [hq] at h; simp at h
    | some o =>
      rw [hq] at h
      cases o with
      | none => simp at h
      | some w =>
        simp at h
        obtain ⟨rfl, rfl⟩ := h
        exact hq
  · intro h
    have hl : i < L.length := (List.getElem?_eq_some_iff.mp h).1
    exact ⟨i, List.mem_range.mpr hl, by rw [h]; rfl⟩
theorem lw_has.to {ls : Array Slot} {L : List (Option Value)} (h : lw_has ls L) : lv_has ls L.length (lw_prs L) :=
  ⟨h.1, h.2.1, fun q hq => (h.2.2 q.1 q.2 (lw_prs_mem.mp hq)).1⟩
theorem lw_has.set {ls ls' : Array Slot} {L : List (Option Value)} {i : Nat} {x : Value} (h : lw_has ls L) (hc : x.category = 1) (h' : lv_has ls' L.length ((i, x) :: (lw_prs L).filter (fun q => !(q.1 == i) && !(q.1 + 1 == i && q.2.category == 2)))) : lw_has ls' (L.set i (some x)) := by
  refine ⟨by rw [List.length_set]; exact h'.1, h'.2.1, fun j v hj => ?_⟩
  rw [List.getElem?_set] at hj
  by_cases e : i = j
  · subst e
    by_cases hi : i < L.length
    · simp [hi] at hj
      subst hj
      exact ⟨h'.2.2 (i, x) List.mem_cons_self, hc⟩
    · simp [hi] at hj
  · rw [if_neg e] at hj
    have hcv := (h.2.2 j v hj).2
    refine ⟨h'.2.2 (j, v) (List.mem_cons_of_mem _ (List.mem_filter.mpr ⟨lw_prs_mem.mpr hj, ?_⟩)), hcv⟩
    have e' : ¬ j = i := fun q => e q.symm
    simp [e', hcv]
theorem lw_sl_len : ∀ (vs : List Value), (∀ v ∈ vs, v.category = 1) → (lg_sl vs).length = vs.length
  | [], _ => rfl
  | v :: vs, h => by
    have h1 := h v List.mem_cons_self
    have h2 := lw_sl_len vs (fun w hw => h w (List.mem_cons_of_mem _ hw))
    have e : lg_sl (v :: vs) = (if v.category = 2 then [.val v, .second] else [.val v]) ++ lg_sl vs := rfl
    rw [e, h1]
    simp [h2]
theorem lw_args_mem : ∀ (vs : List Value) (j : Nat), (∀ v ∈ vs, v.category = 1) → ∀ (i : Nat) (v : Value), vs[i]? = some v → (j + i, v) ∈ lv_args j vs
  | [], _, _, i, v, h => by simp at h
  | w :: vs, j, hc, i, v, h => by
    have h1 := hc w List.mem_cons_self
    have e : lv_args j (w :: vs) = (j, w) :: lv_args (j + 1) vs := by
      show (j, w) :: lv_args (if w.category = 2 then j + 2 else j + 1) vs = _
      rw [h1]; rfl
    rw [e]
    cases i with
    | zero => simp at h; subst h; exact List.mem_cons_self
    | succ i =>
      simp at h
      have := lw_args_mem vs (j + 1) (fun w hw => hc w (List.mem_cons_of_mem _ hw)) i v h
      rw [show j + 1 + i = j + (i + 1) by omega] at this
      exact List.mem_cons_of_mem _ this
theorem lw_entry (vs : List Value) {n : Nat} (hc : ∀ v ∈ vs, v.category = 1) (h : vs.length ≤ n) : lw_has ((lg_sl vs ++ List.replicate (n - (lg_sl vs).length) Slot.unset).toArray) (vs.map some ++ List.replicate (n - vs.length) none) := by
  have h0 := lv_entry vs (n := n) (by rw [lw_sl_len vs hc]; exact h)
  refine ⟨?_, h0.2.1, fun i v hi => ?_⟩
  · rw [h0.1]; simp; omega
  · by_cases hl : i < vs.length
    · rw [List.getElem?_append_left (by simpa using hl), List.getElem?_map] at hi
      cases hq : vs[i]? with
      | none => rw [hq] at hi; simp at hi
      | some w =>
        rw [hq] at hi
        simp at hi
        subst hi
        have := lw_args_mem vs 0 hc i w hq
        rw [Nat.zero_add] at this
        exact ⟨h0.2.2 (i, w) this, hc w (List.mem_of_getElem? hq)⟩
    · rw [List.getElem?_append_right (by simpa using hl)] at hi
      rw [List.getElem?_replicate] at hi
      split at hi <;> simp at hi
/-! the frame of a method that runs -/
abbrev aF : Type := Program × Launch × Env × Room × State × MethodId × Array Value × List Frame × Method × Code × (State → Prop)
def f_p (f : aF) : Program := f.1
def f_l (f : aF) : Launch := f.2.1
def f_e (f : aF) : Env := f.2.2.1
def f_R (f : aF) : Room := f.2.2.2.1
def f_s (f : aF) : State := f.2.2.2.2.1
def f_m (f : aF) : MethodId := f.2.2.2.2.2.1
def f_a (f : aF) : Array Value := f.2.2.2.2.2.2.1
def f_b (f : aF) : List Frame := f.2.2.2.2.2.2.2.1
def f_me (f : aF) : Method := f.2.2.2.2.2.2.2.2.1
def f_c (f : aF) : Code := f.2.2.2.2.2.2.2.2.2.1
def f_Q (f : aF) : State → Prop := f.2.2.2.2.2.2.2.2.2.2
def AW (f : aF) (g : aG) (pc : Nat) (L : List (Option Value)) (st : List Value) (q : aS) (k n : Nat) : Prop :=
  ∀ (ls : Array Slot) (H : Heap) (locs : List Loc) (ex : va_W), lw_has ls L → aI g q ex H → va_S (gA g) (f_s f).heap H locs → W (f_p f) (f_l f) (f_e f) (f_R f) (f_s f) (f_m f) (f_a f) (f_b f) (f_me f) (f_c f) H locs k n (f_Q f) (F0 (f_m f) pc ls st)
def aOK (f : aF) (g : aG) (cc : ByteArray) (nL : Nat) (own : String) : Prop :=
  (f_p f).tables.exec = Jvm.exec ∧ (f_c f).code = cc ∧ (f_c f).maxLocals = nL ∧ (f_s f).vm.findClass own = some (f_m f).cls ∧ (∀ w ∈ TW, w.before (f_a f) (f_s f) = true) ∧ va_K (gD g) vwCl (gT g) (f_s f) ∧ (f_me f).locks = false ∧
  gEn g (f_s f) (f_s f).heap ∧ (∀ a, (f_s f).heap.size ≤ a → gA g a) ∧ (f_l f).stackTraces = false ∧ gCl g
/-- fewer known locals -/
def lsub : List (Option Value) → List (Option Value) → Prop
  | [], [] => True
  | none :: a, _ :: b => lsub a b
  | some v :: a, w :: b => w = some v ∧ lsub a b
  | [], _ :: _ => False
  | _ :: _, [] => False
theorem lsub_get : ∀ (a b : List (Option Value)), lsub a b → a.length = b.length ∧ ∀ (i : Nat) (v : Value), a[i]? = some (some v) → b[i]? = some (some v)
  | [], [], _ => ⟨rfl, fun _ _ h => h⟩
  | [], _ :: _, h => h.elim
  | none :: a, _ :: b, h => by
    have h1 := lsub_get a b h
    refine ⟨by simp [h1.1], fun i v hi => ?_⟩
    cases i with
    | zero => simp at hi
    | succ i => simp at hi ⊢; exact h1.2 i v hi
  | some v :: a, w :: b, h => by
    have h1 := lsub_get a b h.2
    refine ⟨by simp [h1.1], fun i x hi => ?_⟩
    cases i with
    | zero => simp at hi ⊢; rw [h.1, hi]
    | succ i => simp at hi ⊢; exact h1.2 i x hi
  | none :: _, [], h => h.elim
  | some _ :: _, [], h => h.elim
theorem AW.forget {f : aF} {g : aG} {pc : Nat} {L L' : List (Option Value)} {st : List Value} {q : aS} {k n : Nat} (h : AW f g pc L' st q k n) (hs : lsub L' L) : AW f g pc L st q k n := by
  obtain ⟨h1, h2⟩ := lsub_get L' L hs
  intro ls H locs ex hl hI hS
  exact h ls H locs ex ⟨by rw [h1]; exact hl.1, hl.2.1, fun i v hi => hl.2.2 i v (h2 i v hi)⟩ hI hS
theorem cat_all {As : List Value} (h : As.all (fun v => v.category == 1) = true) : ∀ v ∈ As, v.category = 1 := fun v hv => by simpa using List.all_eq_true.mp h v hv
section CORE
variable {f : aF} {g : aG} {cc : ByteArray} {nL : Nat} {own : String} {pc : Nat} {L : List (Option Value)} {st : List Value} {q : aS} {k n : Nat}
theorem aOK.x (h : aOK f g cc nL own) : (f_p f).tables.exec = Jvm.exec := h.1
theorem aOK.b (h : aOK f g cc nL own) : (f_c f).code = cc := h.2.1
theorem aOK.ml (h : aOK f g cc nL own) : (f_c f).maxLocals = nL := h.2.2.1
theorem aOK.o (h : aOK f g cc nL own) : (f_s f).vm.findClass own = some (f_m f).cls := h.2.2.2.1
theorem aOK.ts (h : aOK f g cc nL own) : ∀ w ∈ TW, w.before (f_a f) (f_s f) = true := h.2.2.2.2.1
theorem aOK.K (h : aOK f g cc nL own) : va_K (gD g) vwCl (gT g) (f_s f) := h.2.2.2.2.2.1
theorem aOK.lk (h : aOK f g cc nL own) : (f_me f).locks = false := h.2.2.2.2.2.2.1
theorem aOK.en (h : aOK f g cc nL own) : gEn g (f_s f) (f_s f).heap := h.2.2.2.2.2.2.2.1
theorem aOK.A (h : aOK f g cc nL own) : ∀ a, (f_s f).heap.size ≤ a → gA g a := h.2.2.2.2.2.2.2.2.1
theorem aOK.tr (h : aOK f g cc nL own) : (f_l f).stackTraces = false := h.2.2.2.2.2.2.2.2.2.1
theorem aOK.cl (h : aOK f g cc nL own) : gCl g := h.2.2.2.2.2.2.2.2.2.2
theorem aOK.w (h : aOK f g cc nL own) {w : Cond} (hw : w ∈ lw_tbl) (hg : goodWord w = true) : w.before (f_a f) (f_s f) = true := h.ts w (tk_w hw hg)
theorem aWd_of (hC : aOK f g cc nL own) {H : Heap} {locs : List Loc} {ex : va_W} (hI : aI g q ex H) (hS : va_S (gA g) (f_s f).heap H locs) {U : State} (hU : U.heap = H) (hW : (f_s f).WarmedH U.vm) : aWd g q U := by
  refine ⟨⟨ex, by rw [hU]; exact hI⟩, va_K.moved hW.alike hC.K, fun a ha => hC.A a ?_, hC.cl _ _ _ _ hW (fun a h1 h2 => ?_) hC.en⟩
  · rw [hU] at ha; exact Nat.le_trans hS.1 ha
  · rw [hU]; exact hS.2.1 a h1 h2
/-- how a body ends; it has no table of handlers -/
def aEQ (f : aF) (g : aG) (Qc : Array Value → State → Outcome → State → Prop) (X : String → aS → Prop) (mc ms : Nat) : Prop :=
  f_Q f = vx_MQ (f_b f) Qc (aX g X) (f_a f) (f_s f) mc ms (gA g) ∧ ∀ x ∈ (f_c f).exceptionTable.toList, False
/-- .. with an int -/
def aEi (f : aF) (g : aG) (ty : FieldType) (P : Int32 → aS → Prop) (X : String → aS → Prop) (mc ms : Nat) : Prop :=
  aEQ f g (va_Qi P (aWp g) (gA g)) X mc ms ∧ (f_me f).sig.returnType = some ty
def aEv (f : aF) (g : aG) (P : Int32 → aS → Prop) (X : String → aS → Prop) (mc ms : Nat) : Prop :=
  aEQ f g (va_Qv (P 0) (aWp g) (gA g)) X mc ms ∧ (f_me f).sig.returnType = none
theorem aMi_of {l : Launch} {y : MethodName} {maxL mc ms : Nat} {ty : FieldType} {As : List Value} {P : Int32 → aS → Prop} {X : String → aS → Prop} (own : String) (hy : plainName y.cls = true ∧ y.cls = own) (hcat : ∀ v ∈ As, v.category = 1) (hlen : As.length ≤ maxL) (hl : l.stackTraces = false) (hcl : gCl g)
    (body : ∀ f : aF, f_R f = aR n mc ms → aOK f g cc maxL own → aEi f g ty P X mc ms → AW f g 0 (As.map some ++ List.replicate (maxL - As.length) none) [] q 0 0) : aMi l g y (aWs y cc maxL (some ty)) n mc ms As q P X := by
  refine vx_ofW (cc := cc) (maxL := maxL) (ret := some ty) hy.1 rfl ?_
  intro p e s m args below meth c s₁ B hml ht hv
  obtain ⟨rfl, ⟨ex, hI⟩, hK, hA, hEn⟩ := hv
  have hts := atoms_spec (ws := aWs y cc maxL (some ty)) B.pre
  have hown : s.vm.findClass own = some m.cls := by rw [← hy.2]; exact findClass_of_methodNamed B.named
  have h := body (p, l, e, (headSpec (aWs y cc maxL (some ty)) (aR n mc ms)).room, s, m, As.toArray, below, meth, c, vx_MQ below (va_Qi P (aWp g) (gA g)) (aX g X) As.toArray s mc ms (gA g)) rfl
    ⟨B.exec, B.bytes, hml, hown, fun w hw => hts w (List.mem_cons_of_mem _ hw), hK, B.notSynchronized, hEn, hA, hl, hcl⟩ ⟨⟨rfl, ht⟩, B.returns⟩
  rw [lg_entry_eq]
  exact h _ _ [] ex (lw_entry As hcat hlen) hI va_S.rf
theorem aMv_of {l : Launch} {y : MethodName} {maxL mc ms : Nat} {As : List Value} {P : Int32 → aS → Prop} {X : String → aS → Prop} (own : String) (hy : plainName y.cls = true ∧ y.cls = own) (hcat : ∀ v ∈ As, v.category = 1) (hlen : As.length ≤ maxL) (hl : l.stackTraces = false) (hcl : gCl g)
    (body : ∀ f : aF, f_R f = aR n mc ms → aOK f g cc maxL own → aEv f g P X mc ms → AW f g 0 (As.map some ++ List.replicate (maxL - As.length) none) [] q 0 0) : aMv l g y (aWs y cc maxL none) n mc ms As q P X := by
  refine vx_ofW (cc := cc) (maxL := maxL) (ret := none) hy.1 rfl ?_
  intro p e s m args below meth c s₁ B hml ht hv
  obtain ⟨rfl, ⟨ex, hI⟩, hK, hA, hEn⟩ := hv
  have hts := atoms_spec (ws := aWs y cc maxL none) B.pre
  have hown : s.vm.findClass own = some m.cls := by rw [← hy.2]; exact findClass_of_methodNamed B.named
  have h := body (p, l, e, (headSpec (aWs y cc maxL none) (aR n mc ms)).room, s, m, As.toArray, below, meth, c, vx_MQ below (va_Qv (P 0) (aWp g) (gA g)) (aX g X) As.toArray s mc ms (gA g)) rfl
    ⟨B.exec, B.bytes, hml, hown, fun w hw => hts w (List.mem_cons_of_mem _ hw), hK, B.notSynchronized, hEn, hA, hl, hcl⟩ ⟨⟨rfl, ht⟩, B.returns⟩
  rw [lg_entry_eq]
  exact h _ _ [] ex (lw_entry As hcat hlen) hI va_S.rf
theorem a_zret (hC : aOK f g cc nL own) {ty : FieldType} {P : Int32 → aS → Prop} {X : String → aS → Prop} {mc ms : Nat} (hE : aEi f g ty P X mc ms) {v : Int32} (hn : narrow ty (.int v) = .int v) (hp : P v q) (h1 : k ≤ mc) (h2 : n ≤ ms) (dg : decode cc pc = .ok (.ireturn, 1)) : AW f g pc L [.int v] q k n := by
  intro ls H locs ex hl hI hS
  rw [hE.1.1]
  exact W.widen h1 h2 (vx_ret (W.zret hC.x hC.b hE.2 hn (fun t ht hW => ⟨⟨v, q, rfl, hp, ⟨ex, by rw [ht]; exact hI⟩⟩, hS.F ht⟩) hS.2.2 dg hC.lk))
theorem a_iret (hC : aOK f g cc nL own) {P : Int32 → aS → Prop} {X : String → aS → Prop} {mc ms : Nat} (hE : aEi f g .int P X mc ms) {v : Int32} (hp : P v q) (h1 : k ≤ mc) (h2 : n ≤ ms) (dg : decode cc pc = .ok (.ireturn, 1)) : AW f g pc L [.int v] q k n := a_zret hC hE rfl hp h1 h2 dg
theorem a_bret (hC : aOK f g cc nL own) {P : Int32 → aS → Prop} {X : String → aS → Prop} {mc ms : Nat} (hE : aEi f g .boolean (fun r u => (r = 0 ∨ r = 1) ∧ P r u) X mc ms) {v : Int32} (hz : v = 0 ∨ v = 1) (hp : P v q) (h1 : k ≤ mc) (h2 : n ≤ ms) (dg : decode cc pc = .ok (.ireturn, 1)) : AW f g pc L [.int v] q k n :=
  a_zret hC hE (by rcases hz with rfl | rfl <;> rfl) ⟨hz, hp⟩ h1 h2 dg
theorem a_vret (hC : aOK f g cc nL own) {P : Int32 → aS → Prop} {X : String → aS → Prop} {mc ms : Nat} (hE : aEv f g P X mc ms) (hp : P 0 q) (h1 : k ≤ mc) (h2 : n ≤ ms) (dg : decode cc pc = .ok (.return_, 1)) : AW f g pc L [] q k n := by
  intro ls H locs ex hl hI hS
  rw [hE.1.1]
  exact W.widen h1 h2 (vx_ret (W.vret hC.x hC.b hE.2 (fun t ht hW => ⟨⟨q, rfl, hp, ⟨ex, by rw [ht]; exact hI⟩⟩, hS.F ht⟩) hS.2.2 dg hC.lk))
/-! rows -/
theorem a_iconst (hC : aOK f g cc nL own) {z : Int} {v : Int32} (dg : decode cc pc = .ok (.iconst z, 1)) (hv : Int32.ofInt z = v) (kk : AW f g (pc + 1) L (.int v :: st) q k n) : AW f g pc L st q k n := fun ls H locs ex hl hI hS => lv_iconst hC.x hC.b dg hv (kk ls H locs ex hl hI hS)
theorem a_bipush (hC : aOK f g cc nL own) {z : Int} {v : Int32} (dg : decode cc pc = .ok (.bipush z, 2)) (hv : (Int8.ofInt z).toInt32 = v) (kk : AW f g (pc + 2) L (.int v :: st) q k n) : AW f g pc L st q k n := fun ls H locs ex hl hI hS => lv_bipush hC.x hC.b dg hv (kk ls H locs ex hl hI hS)
theorem a_sipush (hC : aOK f g cc nL own) {z : Int} {v : Int32} (dg : decode cc pc = .ok (.sipush z, 3)) (hv : (Int16.ofInt z).toInt32 = v) (kk : AW f g (pc + 3) L (.int v :: st) q k n) : AW f g pc L st q k n := fun ls H locs ex hl hI hS => lv_sipush hC.x hC.b dg hv (kk ls H locs ex hl hI hS)
theorem a_iload_n (hC : aOK f g cc nL own) {i : Fin 4} {x : Int32} (dg : decode cc pc = .ok (.iload_n i, 1)) (hi : L[(i : Nat)]? = some (some (.int x))) (kk : AW f g (pc + 1) L (.int x :: st) q k n) : AW f g pc L st q k n := fun ls H locs ex hl hI hS => lv_iload_n hC.x hC.b dg rfl (hl.2.2 _ _ hi).1 (kk ls H locs ex hl hI hS)
theorem a_iload (hC : aOK f g cc nL own) {i : Nat} {x : Int32} (dg : decode cc pc = .ok (.iload i, 2)) (hi : L[i]? = some (some (.int x))) (kk : AW f g (pc + 2) L (.int x :: st) q k n) : AW f g pc L st q k n := fun ls H locs ex hl hI hS => lv_iload hC.x hC.b dg (hl.2.2 _ _ hi).1 (kk ls H locs ex hl hI hS)
theorem a_aload_n (hC : aOK f g cc nL own) {i : Fin 4} {x : Nat} (dg : decode cc pc = .ok (.aload_n i, 1)) (hi : L[(i : Nat)]? = some (some (.ref x))) (kk : AW f g (pc + 1) L (.ref x :: st) q k n) : AW f g pc L st q k n := fun ls H locs ex hl hI hS => lv_aload_n hC.x hC.b dg rfl (hl.2.2 _ _ hi).1 (kk ls H locs ex hl hI hS)
theorem a_aload (hC : aOK f g cc nL own) {i : Nat} {x : Nat} (dg : decode cc pc = .ok (.aload i, 2)) (hi : L[i]? = some (some (.ref x))) (kk : AW f g (pc + 2) L (.ref x :: st) q k n) : AW f g pc L st q k n := fun ls H locs ex hl hI hS => lv_aload hC.x hC.b dg (hl.2.2 _ _ hi).1 (kk ls H locs ex hl hI hS)
theorem a_istore_n (hC : aOK f g cc nL own) {i : Fin 4} {x : Int32} (dg : decode cc pc = .ok (.istore_n i, 1)) (hi : (i : Nat) < L.length) (kk : AW f g (pc + 1) (L.set i (some (.int x))) st q k n) : AW f g pc L (.int x :: st) q k n := fun ls H locs ex hl hI hS => lv_istore_n hC.x hC.b dg rfl hl.to hi rfl (fun ls' hl' => kk ls' H locs ex (hl.set rfl hl') hI hS)
theorem a_istore (hC : aOK f g cc nL own) {i : Nat} {x : Int32} (dg : decode cc pc = .ok (.istore i, 2)) (hi : i < L.length) (kk : AW f g (pc + 2) (L.set i (some (.int x))) st q k n) : AW f g pc L (.int x :: st) q k n := fun ls H locs ex hl hI hS => lv_istore hC.x hC.b dg hl.to hi rfl (fun ls' hl' => kk ls' H locs ex (hl.set rfl hl') hI hS)
theorem a_astore_n (hC : aOK f g cc nL own) {i : Fin 4} {x : Nat} (dg : decode cc pc = .ok (.astore_n i, 1)) (hi : (i : Nat) < L.length) (kk : AW f g (pc + 1) (L.set i (some (.ref x))) st q k n) : AW f g pc L (.ref x :: st) q k n := fun ls H locs ex hl hI hS => lv_astore_n hC.x hC.b dg rfl hl.to hi rfl (fun ls' hl' => kk ls' H locs ex (hl.set rfl hl') hI hS)
theorem a_astore (hC : aOK f g cc nL own) {i : Nat} {x : Nat} (dg : decode cc pc = .ok (.astore i, 2)) (hi : i < L.length) (kk : AW f g (pc + 2) (L.set i (some (.ref x))) st q k n) : AW f g pc L (.ref x :: st) q k n := fun ls H locs ex hl hI hS => lv_astore hC.x hC.b dg hl.to hi rfl (fun ls' hl' => kk ls' H locs ex (hl.set rfl hl') hI hS)
theorem a_iinc (hC : aOK f g cc nL own) {i : Nat} {z : Int} {x c : Int32} (dg : decode cc pc = .ok (.iinc i z, 3)) (hi : L[i]? = some (some (.int x))) (hc : Int32.ofInt z = c) (kk : AW f g (pc + 3) (L.set i (some (.int (x + c)))) st q k n) : AW f g pc L st q k n := fun ls H locs ex hl hI hS => by
  obtain ⟨j, hj⟩ := List.getElem?_of_mem (lw_prs_mem.mpr hi)
  exact lv_iinc hC.x hC.b dg hl.to hj (by rw [hc]) (List.getElem?_eq_some_iff.mp hi).1 rfl (fun ls' hl' => kk ls' H locs ex (hl.set rfl hl') hI hS)
theorem a_iadd (hC : aOK f g cc nL own) {x y : Int32} (dg : decode cc pc = .ok (.iadd, 1)) (kk : AW f g (pc + 1) L (.int (x + y) :: st) q k n) : AW f g pc L (.int y :: .int x :: st) q k n := fun ls H locs ex hl hI hS => lv_iadd hC.x hC.b dg (kk ls H locs ex hl hI hS)
theorem a_isub (hC : aOK f g cc nL own) {x y : Int32} (dg : decode cc pc = .ok (.isub, 1)) (kk : AW f g (pc + 1) L (.int (x - y) :: st) q k n) : AW f g pc L (.int y :: .int x :: st) q k n := fun ls H locs ex hl hI hS => lv_isub hC.x hC.b dg (kk ls H locs ex hl hI hS)
theorem a_imul (hC : aOK f g cc nL own) {x y : Int32} (dg : decode cc pc = .ok (.imul, 1)) (kk : AW f g (pc + 1) L (.int (x * y) :: st) q k n) : AW f g pc L (.int y :: .int x :: st) q k n := fun ls H locs ex hl hI hS => lv_imul hC.x hC.b dg (kk ls H locs ex hl hI hS)
theorem a_idiv (hC : aOK f g cc nL own) {x y : Int32} (dg : decode cc pc = .ok (.idiv, 1)) (h0 : ¬ y = 0) (kk : AW f g (pc + 1) L (.int (x / y) :: st) q k n) : AW f g pc L (.int y :: .int x :: st) q k n := fun ls H locs ex hl hI hS => lv_idiv hC.x hC.b dg h0 (kk ls H locs ex hl hI hS)
theorem a_irem (hC : aOK f g cc nL own) {x y : Int32} (dg : decode cc pc = .ok (.irem, 1)) (h0 : ¬ y = 0) (kk : AW f g (pc + 1) L (.int (x - x / y * y) :: st) q k n) : AW f g pc L (.int y :: .int x :: st) q k n := fun ls H locs ex hl hI hS => lv_irem hC.x hC.b dg h0 (kk ls H locs ex hl hI hS)
theorem a_ior (hC : aOK f g cc nL own) {x y : Int32} (dg : decode cc pc = .ok (.ior, 1)) (kk : AW f g (pc + 1) L (.int (x ||| y) :: st) q k n) : AW f g pc L (.int y :: .int x :: st) q k n := fun ls H locs ex hl hI hS => lv_ior hC.x hC.b dg (kk ls H locs ex hl hI hS)
theorem a_iand (hC : aOK f g cc nL own) {x y : Int32} (dg : decode cc pc = .ok (.iand, 1)) (kk : AW f g (pc + 1) L (.int (x &&& y) :: st) q k n) : AW f g pc L (.int y :: .int x :: st) q k n := fun ls H locs ex hl hI hS => lv_iand hC.x hC.b dg (kk ls H locs ex hl hI hS)
theorem a_ixor (hC : aOK f g cc nL own) {x y : Int32} (dg : decode cc pc = .ok (.ixor, 1)) (kk : AW f g (pc + 1) L (.int (x ^^^ y) :: st) q k n) : AW f g pc L (.int y :: .int x :: st) q k n := fun ls H locs ex hl hI hS => lv_ixor hC.x hC.b dg (kk ls H locs ex hl hI hS)
theorem a_ishl (hC : aOK f g cc nL own) {x y : Int32} (dg : decode cc pc = .ok (.ishl, 1)) (kk : AW f g (pc + 1) L (.int (x <<< (y &&& 31)) :: st) q k n) : AW f g pc L (.int y :: .int x :: st) q k n := fun ls H locs ex hl hI hS => lv_ishl hC.x hC.b dg (kk ls H locs ex hl hI hS)
theorem a_i2c (hC : aOK f g cc nL own) {x : Int32} (dg : decode cc pc = .ok (.i2c, 1)) (kk : AW f g (pc + 1) L (.int (x.toUInt32 % 65536).toInt32 :: st) q k n) : AW f g pc L (.int x :: st) q k n := fun ls H locs ex hl hI hS => lv_i2c hC.x hC.b dg rfl (kk ls H locs ex hl hI hS)
theorem a_dup (hC : aOK f g cc nL own) {v : Value} (dg : decode cc pc = .ok (.dup, 1)) (hv : v.category = 1) (kk : AW f g (pc + 1) L (v :: v :: st) q k n) : AW f g pc L (v :: st) q k n := fun ls H locs ex hl hI hS => lv_dup hC.x hC.b dg hv (kk ls H locs ex hl hI hS)
theorem a_pop (hC : aOK f g cc nL own) {v : Value} (dg : decode cc pc = .ok (.pop, 1)) (hv : v.category = 1) (kk : AW f g (pc + 1) L st q k n) : AW f g pc L (v :: st) q k n := fun ls H locs ex hl hI hS => lv_pop hC.x hC.b dg hv (kk ls H locs ex hl hI hS)
theorem a_dup2 (hC : aOK f g cc nL own) {v w : Value} (dg : decode cc pc = .ok (.dup2, 1)) (hv : v.category = 1) (hw : w.category = 1) (kk : AW f g (pc + 1) L (v :: w :: v :: w :: st) q k n) : AW f g pc L (v :: w :: st) q k n := fun ls H locs ex hl hI hS => lv_dup2_11 hC.x hC.b dg hv hw (kk ls H locs ex hl hI hS)
theorem a_dup_x1 (hC : aOK f g cc nL own) {v w : Value} (dg : decode cc pc = .ok (.dup_x1, 1)) (hv : v.category = 1) (hw : w.category = 1) (kk : AW f g (pc + 1) L (v :: w :: v :: st) q k n) : AW f g pc L (v :: w :: st) q k n := fun ls H locs ex hl hI hS => lv_dup_x1 hC.x hC.b dg hv hw (kk ls H locs ex hl hI hS)
theorem a_goto (hC : aOK f g cc nL own) {off : Int} {tgt : Nat} (dg : decode cc pc = .ok (.goto off, 3)) (ht : (pc : Int) + off = (tgt : Int)) (kk : AW f g tgt L st q k n) : AW f g pc L st q k n := fun ls H locs ex hl hI hS => lv_goto hC.x hC.b dg ht (kk ls H locs ex hl hI hS)
theorem a_if_eq (hC : aOK f g cc nL own) {x : Int32} {off : Int} {tgt : Nat} (dg : decode cc pc = .ok (.ifCond .eq off, 3)) (ht : (pc : Int) + off = (tgt : Int)) (kt : x = 0 → AW f g tgt L st q k n) (kf : ¬ x = 0 → AW f g (pc + 3) L st q k n) : AW f g pc L (.int x :: st) q k n := fun ls H locs ex hl hI hS => lv_if_eq hC.x hC.b dg ht (fun h => kt h ls H locs ex hl hI hS) (fun h => kf h ls H locs ex hl hI hS)
theorem a_if_ne (hC : aOK f g cc nL own) {x : Int32} {off : Int} {tgt : Nat} (dg : decode cc pc = .ok (.ifCond .ne off, 3)) (ht : (pc : Int) + off = (tgt : Int)) (kt : ¬ x = 0 → AW f g tgt L st q k n) (kf : x = 0 → AW f g (pc + 3) L st q k n) : AW f g pc L (.int x :: st) q k n := fun ls H locs ex hl hI hS => lv_if_ne hC.x hC.b dg ht (fun h => kt h ls H locs ex hl hI hS) (fun h => kf h ls H locs ex hl hI hS)
theorem a_if_lt (hC : aOK f g cc nL own) {x : Int32} {off : Int} {tgt : Nat} (dg : decode cc pc = .ok (.ifCond .lt off, 3)) (ht : (pc : Int) + off = (tgt : Int)) (kt : x < 0 → AW f g tgt L st q k n) (kf : ¬ x < 0 → AW f g (pc + 3) L st q k n) : AW f g pc L (.int x :: st) q k n := fun ls H locs ex hl hI hS => lv_if_lt hC.x hC.b dg ht (fun h => kt h ls H locs ex hl hI hS) (fun h => kf h ls H locs ex hl hI hS)
theorem a_if_ge (hC : aOK f g cc nL own) {x : Int32} {off : Int} {tgt : Nat} (dg : decode cc pc = .ok (.ifCond .ge off, 3)) (ht : (pc : Int) + off = (tgt : Int)) (kt : 0 ≤ x → AW f g tgt L st q k n) (kf : ¬ 0 ≤ x → AW f g (pc + 3) L st q k n) : AW f g pc L (.int x :: st) q k n := fun ls H locs ex hl hI hS => lv_if_ge hC.x hC.b dg ht (fun h => kt h ls H locs ex hl hI hS) (fun h => kf h ls H locs ex hl hI hS)
theorem a_if_gt (hC : aOK f g cc nL own) {x : Int32} {off : Int} {tgt : Nat} (dg : decode cc pc = .ok (.ifCond .gt off, 3)) (ht : (pc : Int) + off = (tgt : Int)) (kt : 0 < x → AW f g tgt L st q k n) (kf : ¬ 0 < x → AW f g (pc + 3) L st q k n) : AW f g pc L (.int x :: st) q k n := fun ls H locs ex hl hI hS => lv_if_gt hC.x hC.b dg ht (fun h => kt h ls H locs ex hl hI hS) (fun h => kf h ls H locs ex hl hI hS)
theorem a_if_le (hC : aOK f g cc nL own) {x : Int32} {off : Int} {tgt : Nat} (dg : decode cc pc = .ok (.ifCond .le off, 3)) (ht : (pc : Int) + off = (tgt : Int)) (kt : x ≤ 0 → AW f g tgt L st q k n) (kf : ¬ x ≤ 0 → AW f g (pc + 3) L st q k n) : AW f g pc L (.int x :: st) q k n := fun ls H locs ex hl hI hS => lv_if_le hC.x hC.b dg ht (fun h => kt h ls H locs ex hl hI hS) (fun h => kf h ls H locs ex hl hI hS)
theorem a_icmp_eq (hC : aOK f g cc nL own) {x y : Int32} {off : Int} {tgt : Nat} (dg : decode cc pc = .ok (.if_icmp .eq off, 3)) (ht : (pc : Int) + off = (tgt : Int)) (kt : x = y → AW f g tgt L st q k n) (kf : ¬ x = y → AW f g (pc + 3) L st q k n) : AW f g pc L (.int y :: .int x :: st) q k n := fun ls H locs ex hl hI hS => lv_icmp_eq hC.x hC.b dg ht (fun h => kt h ls H locs ex hl hI hS) (fun h => kf h ls H locs ex hl hI hS)
theorem a_icmp_ne (hC : aOK f g cc nL own) {x y : Int32} {off : Int} {tgt : Nat} (dg : decode cc pc = .ok (.if_icmp .ne off, 3)) (ht : (pc : Int) + off = (tgt : Int)) (kt : ¬ x = y → AW f g tgt L st q k n) (kf : x = y → AW f g (pc + 3) L st q k n) : AW f g pc L (.int y :: .int x :: st) q k n := fun ls H locs ex hl hI hS => lv_icmp_ne hC.x hC.b dg ht (fun h => kt h ls H locs ex hl hI hS) (fun h => kf h ls H locs ex hl hI hS)
theorem a_icmp_lt (hC : aOK f g cc nL own) {x y : Int32} {off : Int} {tgt : Nat} (dg : decode cc pc = .ok (.if_icmp .lt off, 3)) (ht : (pc : Int) + off = (tgt : Int)) (kt : x < y → AW f g tgt L st q k n) (kf : ¬ x < y → AW f g (pc + 3) L st q k n) : AW f g pc L (.int y :: .int x :: st) q k n := fun ls H locs ex hl hI hS => lv_icmp_lt hC.x hC.b dg ht (fun h => kt h ls H locs ex hl hI hS) (fun h => kf h ls H locs ex hl hI hS)
theorem a_icmp_ge (hC : aOK f g cc nL own) {x y : Int32} {off : Int} {tgt : Nat} (dg : decode cc pc = .ok (.if_icmp .ge off, 3)) (ht : (pc : Int) + off = (tgt : Int)) (kt : y ≤ x → AW f g tgt L st q k n) (kf : ¬ y ≤ x → AW f g (pc + 3) L st q k n) : AW f g pc L (.int y :: .int x :: st) q k n := fun ls H locs ex hl hI hS => lv_icmp_ge hC.x hC.b dg ht (fun h => kt h ls H locs ex hl hI hS) (fun h => kf h ls H locs ex hl hI hS)
theorem a_icmp_gt (hC : aOK f g cc nL own) {x y : Int32} {off : Int} {tgt : Nat} (dg : decode cc pc = .ok (.if_icmp .gt off, 3)) (ht : (pc : Int) + off = (tgt : Int)) (kt : y < x → AW f g tgt L st q k n) (kf : ¬ y < x → AW f g (pc + 3) L st q k n) : AW f g pc L (.int y :: .int x :: st) q k n := fun ls H locs ex hl hI hS => lv_icmp_gt hC.x hC.b dg ht (fun h => kt h ls H locs ex hl hI hS) (fun h => kf h ls H locs ex hl hI hS)
theorem a_icmp_le (hC : aOK f g cc nL own) {x y : Int32} {off : Int} {tgt : Nat} (dg : decode cc pc = .ok (.if_icmp .le off, 3)) (ht : (pc : Int) + off = (tgt : Int)) (kt : x ≤ y → AW f g tgt L st q k n) (kf : ¬ x ≤ y → AW f g (pc + 3) L st q k n) : AW f g pc L (.int y :: .int x :: st) q k n := fun ls H locs ex hl hI hS => lv_icmp_le hC.x hC.b dg ht (fun h => kt h ls H locs ex hl hI hS) (fun h => kf h ls H locs ex hl hI hS)
theorem a_tabOut (hC : aOK f g cc nL own) {dflt lo hi : Int} {offs : Array Int} {len : Nat} {x : Int32} {tgt : Nat} (dg : decode cc pc = .ok (.tableswitch dflt lo hi offs, len)) (h : x.toInt < lo ∨ hi < x.toInt) (ht : (pc : Int) + dflt = (tgt : Int)) (kk : AW f g tgt L st q k n) : AW f g pc L (.int x :: st) q k n := fun ls H locs ex hl hI hS => lv_tableOut hC.x hC.b dg h ht (kk ls H locs ex hl hI hS)
theorem a_tabIn (hC : aOK f g cc nL own) {dflt lo hi : Int} {offs : Array Int} {len : Nat} {x : Int32} {off : Int} {tgt : Nat} (dg : decode cc pc = .ok (.tableswitch dflt lo hi offs, len)) (h1 : ¬ x.toInt < lo) (h2 : ¬ hi < x.toInt) (ho : offs[(x.toInt - lo).toNat]? = some off) (ht : (pc : Int) + off = (tgt : Int)) (kk : AW f g tgt L st q k n) : AW f g pc L (.int x :: st) q k n := fun ls H locs ex hl hI hS => lv_tableIn hC.x hC.b dg h1 h2 ho ht (kk ls H locs ex hl hI hS)
/-- a class of the worlds: its row of vwCl, its fields' words -/
def aCl (ci : Nat) (C : String) (T : u_T) (N : Nat) : Prop := vwCl[ci]? = some (C, T, N) ∧ (∀ w ∈ u_ws C T N, w ∈ TW) ∧ (∀ a, a < N → ∀ b, b < N → a ≠ b → (T a).2.1 ≠ (T b).2.1)
/-- the shape of the cell at place k: an object of class ci, its fields by F -/
def aOb (g : aG) (k ci : Nat) (F : (Nat → Int32) → List Value) : Prop := k < gN g ∧ ∀ d, gSh g k d = .inr (ci, F d)
/-- .. an array of n ints (chars, bytes) of the array class t -/
def aAr (g : aG) (k t n : Nat) (ty : FieldType) : Prop := k < gN g ∧ (∀ d, gSh g k d = .inl (gc g t, n, .inl d)) ∧ (gT g)[t]? = some (gc g t, ty)
/-- .. an array of n references of the array class t, F the numbers' reading -/
def aQr (g : aG) (k t n : Nat) (ty : FieldType) (F : (Nat → Int32) → Nat → Option Nat) : Prop := k < gN g ∧ (∀ d, gSh g k d = .inl (gc g t, n, .inr (.inr (.inr (.inr (F d)))))) ∧ (gT g)[t]? = some (gc g t, ty)
theorem a_get (hC : aOK f g cc nL own) {ci p N index : Nat} {C : String} {T : u_T} {F : (Nat → Int32) → List Value} (hc : aCl ci C T N) (hp : aOb g p ci F) (j : Nat) (hj : j < N) (hw : Cond.fieldLink own index (T j).1 (T j).2.1 (T j).2.2.1 ∈ lw_tbl) {v : Value} (hv : (F (q.1 p))[j]? = some v) (dg : decode cc pc = .ok (.getfield index, 3)) (kk : AW f g (pc + 3) L (v :: st) q k n) : AW f g pc L (.ref (gAd g p) :: st) q k n := fun ls H locs ex hl hI hS =>
  va_get hC.x hC.b hC.ts hc.2.1 hC.o hC.K hI.2.1 p ((aWl_at g q.1 ex hp.1).trans (by rw [hp.2])) hc.1 j hj (hC.w hw rfl) (fun _ h => h) hv dg (kk ls H locs ex hl hI hS)
theorem a_put (hC : aOK f g cc nL own) {ci p N index : Nat} {C : String} {T : u_T} {F : (Nat → Int32) → List Value} (hc : aCl ci C T N) (hp : aOb g p ci F) (j : Nat) (hj : j < N) (hw : Cond.fieldLink own index (T j).1 (T j).2.1 (T j).2.2.1 ∈ lw_tbl) {x : Int32} (ty0 : Nat → FieldType) (hty : ∀ k, k < N → parseFieldDescriptor (T k).2.2.1 = some (ty0 k)) (hfin : (T j).2.2.2 = false) (hn : narrow (ty0 j) (.int x) = .int x) (hfit : fits (ty0 j) (.int x) = true) (hl0 : j < (F (q.1 p)).length) (hF : (F (q.1 p)).set j (.int x) = F (upd (q.1 p) j x)) (dg : decode cc pc = .ok (.putfield index, 3)) (kk : AW f g (pc + 3) L st (up2 q.1 p j x, q.2) k n) : AW f g pc L (.int x :: .ref (gAd g p) :: st) q k n := fun ls H locs ex hl hI hS =>
  va_put hC.x hC.b hC.ts hc.2.1 ty0 hty hc.2.2 hC.o hC.K hI.2.1 hI.2.2 hS p ((aWl_at g q.1 ex hp.1).trans (by rw [hp.2])) hc.1 j hj (hC.w hw rfl) (fun _ h => h) hfin (hty j hj) hn hfit hl0 dg (fun H1 locs1 hP hD hS1 => by
    rw [hF, ← hp.2, aWl_set g q.1 ex hp.1] at hP hD
    exact kk ls H1 locs1 ex hl ⟨hI.1, hP, hD⟩ hS1)
theorem a_iald (hC : aOK f g cc nL own) {p t N : Nat} (hp : aAr g p t N .int) {i : Int32} (hin : vp_in i N) (dg : decode cc pc = .ok (.iaload, 1)) (kk : AW f g (pc + 1) L (.int (q.1 p i.toNatClampNeg) :: st) q k n) : AW f g pc L (.int i :: .ref (gAd g p) :: st) q k n := fun ls H locs ex hl hI hS =>
  va_iald hC.x hC.b hC.K hI.2.1 p t ((aWl_at g q.1 ex hp.1).trans (by rw [hp.2.1])) hp.2.2 hin dg (kk ls H locs ex hl hI hS)
theorem a_cald (hC : aOK f g cc nL own) {p t N : Nat} (hp : aAr g p t N .char) {i : Int32} (hin : vp_in i N) (dg : decode cc pc = .ok (.caload, 1)) (kk : AW f g (pc + 1) L (.int (q.1 p i.toNatClampNeg) :: st) q k n) : AW f g pc L (.int i :: .ref (gAd g p) :: st) q k n := fun ls H locs ex hl hI hS =>
  va_cald hC.x hC.b hC.K hI.2.1 p t ((aWl_at g q.1 ex hp.1).trans (by rw [hp.2.1])) hp.2.2 hin dg (kk ls H locs ex hl hI hS)
theorem a_iast (hC : aOK f g cc nL own) {p t N : Nat} (hp : aAr g p t N .int) {i x : Int32} (hin : vp_in i N) (dg : decode cc pc = .ok (.iastore, 1)) (kk : AW f g (pc + 1) L st (up2 q.1 p i.toNatClampNeg x, q.2) k n) : AW f g pc L (.int x :: .int i :: .ref (gAd g p) :: st) q k n := fun ls H locs ex hl hI hS =>
  va_iast hC.x hC.b hC.K hI.2.1 hI.2.2 hS p t ((aWl_at g q.1 ex hp.1).trans (by rw [hp.2.1])) hp.2.2 hin dg (fun H1 locs1 hP hD hS1 => by
    rw [← hp.2.1, aWl_set g q.1 ex hp.1] at hP hD
    exact kk ls H1 locs1 ex hl ⟨hI.1, hP, hD⟩ hS1)
theorem a_cast (hC : aOK f g cc nL own) {p t N : Nat} (hp : aAr g p t N .char) {i x : Int32} (hin : vp_in i N) (dg : decode cc pc = .ok (.castore, 1)) (kk : AW f g (pc + 1) L st (up2 q.1 p i.toNatClampNeg (vp_nar .char x), q.2) k n) : AW f g pc L (.int x :: .int i :: .ref (gAd g p) :: st) q k n := fun ls H locs ex hl hI hS =>
  va_cast hC.x hC.b hC.K hI.2.1 hI.2.2 hS p t ((aWl_at g q.1 ex hp.1).trans (by rw [hp.2.1])) hp.2.2 hin dg (fun H1 locs1 hP hD hS1 => by
    rw [← hp.2.1, aWl_set g q.1 ex hp.1] at hP hD
    exact kk ls H1 locs1 ex hl ⟨hI.1, hP, hD⟩ hS1)
theorem a_alen (hC : aOK f g cc nL own) {p t N : Nat} {ty : FieldType} (hp : aAr g p t N ty) {v : Int32} (hv : Int32.ofNat N = v) (dg : decode cc pc = .ok (.arraylength, 1)) (kk : AW f g (pc + 1) L (.int v :: st) q k n) : AW f g pc L (.ref (gAd g p) :: st) q k n := fun ls H locs ex hl hI hS =>
  va_alen hC.x hC.b hC.K hI.2.1 p t ((aWl_at g q.1 ex hp.1).trans (by rw [hp.2.1])) hp.2.2 hv dg (kk ls H locs ex hl hI hS)
/-- aaload: the place of the array, what the reading names there -/
theorem a_aald (hC : aOK f g cc nL own) {p t N : Nat} {ty : FieldType} {F : (Nat → Int32) → Nat → Option Nat} (hp : aQr g p t N ty F) (hr : ty.isReference = true) {i : Int32} (hin : vp_in i N) {a : Nat} (ha : F (q.1 p) i.toNatClampNeg = some a) (dg : decode cc pc = .ok (.aaload, 1)) (kk : AW f g (pc + 1) L (.ref a :: st) q k n) : AW f g pc L (.int i :: .ref (gAd g p) :: st) q k n := fun ls H locs ex hl hI hS => by
  have hlt : i.toNatClampNeg < N := Nat.not_le.mp fun q => hin (Or.inr q)
  have h1 := hI.2.1 p _ ((aWl_at g q.1 ex hp.1).trans (by rw [hp.2.1]))
  refine W.aald (v := .ref a) (ty := ty) hC.x hC.b h1 ((hC.K.2 t _ hp.2.2).1 N (fun j => va_rf (F (q.1 p) j))) hr (fun q => by cases q) (by show ¬ (i < 0 ∨ (arrV _ _ _).slots.size ≤ _); rw [arrV_size]; exact hin) (by show (arrV _ _ _).slots[_]? = _; rw [arrV_read _ _ hlt, ha]; rfl) rfl rfl dg (kk ls H locs ex hl hI hS)
/-- what a method is, by the tables: its code, an instance method that is its own selection on C (of C itself) -/
def aVm (y : MethodName) (C : String) (bytes : ByteArray) (maxL : Nat) (ret : Option FieldType) (n : Nat) : Prop :=
  Cond.code y bytes maxL ret ∈ lw_tbl ∧ Cond.instanceMethod y ∈ lw_tbl ∧ Cond.selects C y y ∈ lw_tbl ∧ Cond.initialized C ∈ lw_tbl ∧ (y.cls = C ∧ y.cls ≠ "java/lang/invoke/MethodHandle" ∧ y.cls ≠ "java/lang/invoke/VarHandle" ∧ (parseMethodDescriptor y.desc).map (fun d => d.parameters.length) = some n)
def aSm (y : MethodName) (bytes : ByteArray) (maxL : Nat) (ret : Option FieldType) (n : Nat) : Prop :=
  Cond.code y bytes maxL ret ∈ lw_tbl ∧ Cond.static y ∈ lw_tbl ∧ Cond.initialized y.cls ∈ lw_tbl ∧ (y.cls ≠ "java/lang/invoke/MethodHandle" ∧ y.cls ≠ "java/lang/invoke/VarHandle" ∧ (parseMethodDescriptor y.desc).map (fun d => d.parameters.length) = some n)
theorem good_TW {w : Cond} (h : w ∈ TW) : w ∈ TW ∧ ((w.onTables && w.keeps) = true ∨ ∃ ty, w = .arrayClass ty) := ⟨h, good_of_word (List.mem_filter.mp h).2⟩
theorem good_V {y : MethodName} {C own : String} {bytes : ByteArray} {maxL : Nat} {ret : Option FieldType} {m index : Nat} (hm : aVm y C bytes maxL ret m) (hw : Cond.methodLink own index y ∈ lw_tbl) : GoodIn TW (wsV own index C y (aWs y bytes maxL ret)) := by
  intro w h
  refine good_TW ?_
  rcases List.mem_append.mp h with h | h
  · simp only [List.mem_cons, List.not_mem_nil, or_false] at h
    rcases h with rfl | rfl | rfl | rfl
    · exact tk_w hw rfl
    · exact tk_w hm.2.1 rfl
    · exact tk_w hm.2.2.1 rfl
    · exact tk_w hm.2.2.2.1 rfl
  · rcases List.mem_cons.mp h with rfl | h
    · exact tk_w hm.1 rfl
    · exact h
theorem good_S {y : MethodName} {own : String} {bytes : ByteArray} {maxL : Nat} {ret : Option FieldType} {m index : Nat} (hm : aSm y bytes maxL ret m) (hw : Cond.methodLink own index y ∈ lw_tbl) : GoodIn TW (va_wsS own index y (aWs y bytes maxL ret)) := by
  intro w h
  refine good_TW ?_
  rcases List.mem_append.mp h with h | h
  · simp only [List.mem_cons, List.not_mem_nil, or_false] at h
    rcases h with rfl | rfl | rfl
    · exact tk_w hw rfl
    · exact tk_w hm.2.1 rfl
    · exact tk_w hm.2.2.1 rfl
  · rcases List.mem_cons.mp h with rfl | h
    · exact tk_w hm.1 rfl
    · exact h
/-- the room of a call, by numbers -/
def aFit (maxL n' mc ms k n N mcR msR : Nat) : Prop := n' + 1 ≤ N ∧ maxL ≤ 41 ∧ k + mc ≤ mcR ∧ n + ms ≤ msR
theorem aFit.loc {maxL n' mc ms k n N mcR msR : Nat} (h : aFit maxL n' mc ms k n N mcR msR) : (aR n' mc ms).frames + 1 ≤ (aR N mcR msR).frames ∧ 8 + (maxL + 11) + (aR n' mc ms).locals ≤ (aR N mcR msR).locals := by
  obtain ⟨h1, h2, -, -⟩ := h
  refine ⟨h1, ?_⟩
  show 8 + (maxL + 11) + 60 * n' ≤ 60 * N
  omega
theorem a_recv (hC : aOK f g cc nL own) {H : Heap} {ex : va_W} (hI : aI g q ex H) {ci p N : Nat} {C : String} {T : u_T} {F : (Nat → Int32) → List Value} (hc : aCl ci C T N) (hp : aOb g p ci F) : ∃ cell : Cell, H[gAd g p]? = some cell ∧ cell.vm.isStatics = false ∧ (f_s f).vm.findClass C = some cell.cls :=
  va_recv hC.K hI.2.1 hc.1 ((aWl_at g q.1 ex hp.1).trans (by rw [hp.2]))
theorem a_preV (hC : aOK f g cc nL own) {H : Heap} {locs : List Loc} {ex : va_W} (hI : aI g q ex H) (hS : va_S (gA g) (f_s f).heap H locs) {ci p N : Nat} {C : String} {T : u_T} {F : (Nat → Int32) → List Value} (hc : aCl ci C T N) (hp : aOb g p ci F) (As : List Value) : PreV (f_s f) H C (gAd g p) (va_Pc (.ref (gAd g p) :: As) (aWd g q)) As :=
  ⟨aBlind hC.cl _ q, a_recv hC hI hc hp, fun U hU hW => ⟨rfl, aWd_of hC hI hS hU hW⟩⟩
theorem a_preS (hC : aOK f g cc nL own) {H : Heap} {locs : List Loc} {ex : va_W} (hI : aI g q ex H) (hS : va_S (gA g) (f_s f).heap H locs) (As : List Value) : PreS (f_s f) H (va_Pc As (aWd g q)) As :=
  ⟨aBlind hC.cl _ q, fun U hU hW => ⟨rfl, aWd_of hC hI hS hU hW⟩⟩
theorem a_callV {y : MethodName} {C : String} {bytes : ByteArray} {maxL n' mc ms N mcR msR index ci p Nf m : Nat} {ty : FieldType} {As : List Value} {T : u_T} {F : (Nat → Int32) → List Value} {P : Int32 → aS → Prop}
    (hC : aOK f g cc nL own) (hR : f_R f = aR N mcR msR) (hm : aVm y C bytes maxL (some ty) m) (hw : Cond.methodLink own index y ∈ lw_tbl) (hc : aCl ci C T Nf) (hp : aOb g p ci F) (hfit : aFit maxL n' mc ms k n N mcR msR) {rest : List Value} (dg : decode cc pc = .ok (.invokevirtual index, 3))
    (hM : aMi (f_l f) g y (aWs y bytes maxL (some ty)) n' mc ms (.ref (gAd g p) :: As) q P (fun _ _ => False)) (hst : st = As.reverse ++ .ref (gAd g p) :: rest) (hn : As.length = m) (hL : L.length = nL) (hrest : (rest.map fun v => v.category).sum ≤ 8) (kk : ∀ (r : Int32) (q' : aS), P r q' → AW f g (pc + 3) L (.int r :: rest) q' (k + mc) (n + ms)) : AW f g pc L st q k n := by
  intro ls H locs ex hl hI hS
  subst hst
  have hf := hfit.loc
  rw [← hR] at hf
  have hrun := vx_runV (rest := rest) (g := F0 (f_m f) pc ls (As.reverse ++ .ref (gAd g p) :: rest)) (locs := locs) (meth := f_me f) (below := f_b f) (e := f_e f) (cells := k) (slots := n) (S := (⟨hC.x, hC.b, hC.ml, hC.o, hC.ts⟩ : CallFix (f_p f) (f_m f) (f_c f) cc nL (f_s f) (f_a f) TW own)) hM (cwV m hC.ts (good_V hm hw) rfl rfl rfl hm.2.2.2.2 hf) (a_preV hC hI hS hc hp As) rfl hn (hl.1.trans hL) rfl (lv_room hrest) dg (by rw [hR]; exact ⟨hfit.2.2.1, hfit.2.2.2⟩)
  refine vx_calli hrun hS (fun _ _ h => h) (fun _ h => h) (fun _ _ h => h) (fun E ce q9 u t H1 locs1 ht hvm _ hB => hB.1.elim) (fun r u t H1 locs1 ht hvm hp1 hB hz hk1 hS1 => ?_)
  obtain ⟨ex', hI'⟩ := hB
  rw [ht] at hI'
  exact kk r u hp1 ls H1 locs1 ex' hl hI' hS1
theorem a_callVv {y : MethodName} {C : String} {bytes : ByteArray} {maxL n' mc ms N mcR msR index ci p Nf m : Nat} {As : List Value} {T : u_T} {F : (Nat → Int32) → List Value} {P : Int32 → aS → Prop}
    (hC : aOK f g cc nL own) (hR : f_R f = aR N mcR msR) (hm : aVm y C bytes maxL none m) (hw : Cond.methodLink own index y ∈ lw_tbl) (hc : aCl ci C T Nf) (hp : aOb g p ci F) (hfit : aFit maxL n' mc ms k n N mcR msR) {rest : List Value} (dg : decode cc pc = .ok (.invokevirtual index, 3))
    (hM : aMv (f_l f) g y (aWs y bytes maxL none) n' mc ms (.ref (gAd g p) :: As) q P (fun _ _ => False)) (hst : st = As.reverse ++ .ref (gAd g p) :: rest) (hn : As.length = m) (hL : L.length = nL) (hrest : (rest.map fun v => v.category).sum ≤ 8) (kk : ∀ (q' : aS), P 0 q' → AW f g (pc + 3) L rest q' (k + mc) (n + ms)) : AW f g pc L st q k n := by
  intro ls H locs ex hl hI hS
  subst hst
  have hf := hfit.loc
  rw [← hR] at hf
  have hrun := vx_runV (rest := rest) (g := F0 (f_m f) pc ls (As.reverse ++ .ref (gAd g p) :: rest)) (locs := locs) (meth := f_me f) (below := f_b f) (e := f_e f) (cells := k) (slots := n) (S := (⟨hC.x, hC.b, hC.ml, hC.o, hC.ts⟩ : CallFix (f_p f) (f_m f) (f_c f) cc nL (f_s f) (f_a f) TW own)) hM (cwV m hC.ts (good_V hm hw) rfl rfl rfl hm.2.2.2.2 hf) (a_preV hC hI hS hc hp As) rfl hn (hl.1.trans hL) rfl (lv_room hrest) dg (by rw [hR]; exact ⟨hfit.2.2.1, hfit.2.2.2⟩)
  refine vx_callv hrun hS (fun _ _ h => h) (fun _ h => h) (fun _ _ h => h) (fun E ce q9 u t H1 locs1 ht hvm _ hB => hB.1.elim) (fun u t H1 locs1 ht hvm hp1 hB hz hk1 hS1 => ?_)
  obtain ⟨ex', hI'⟩ := hB
  rw [ht] at hI'
  exact kk u hp1 ls H1 locs1 ex' hl hI' hS1
theorem a_callS {y : MethodName} {bytes : ByteArray} {maxL n' mc ms N mcR msR index m : Nat} {ty : FieldType} {As : List Value} {P : Int32 → aS → Prop}
    (hC : aOK f g cc nL own) (hR : f_R f = aR N mcR msR) (hm : aSm y bytes maxL (some ty) m) (hw : Cond.methodLink own index y ∈ lw_tbl) (hfit : aFit maxL n' mc ms k n N mcR msR) {rest : List Value} (dg : decode cc pc = .ok (.invokestatic index, 3))
    (hM : aMi (f_l f) g y (aWs y bytes maxL (some ty)) n' mc ms As q P (fun _ _ => False)) (hst : st = As.reverse ++ rest) (hn : As.length = m) (hL : L.length = nL) (hrest : (rest.map fun v => v.category).sum ≤ 8) (kk : ∀ (r : Int32) (q' : aS), P r q' → AW f g (pc + 3) L (.int r :: rest) q' (k + mc) (n + ms)) : AW f g pc L st q k n := by
  intro ls H locs ex hl hI hS
  subst hst
  have hf := hfit.loc
  rw [← hR] at hf
  have hrun := vx_runS (rest := rest) (g := F0 (f_m f) pc ls (As.reverse ++ rest)) (locs := locs) (meth := f_me f) (below := f_b f) (e := f_e f) (cells := k) (slots := n) (S := (⟨hC.x, hC.b, hC.ml, hC.o, hC.ts⟩ : CallFix (f_p f) (f_m f) (f_c f) cc nL (f_s f) (f_a f) TW own)) hM (va_cwS m hC.ts (good_S hm hw) rfl rfl rfl hm.2.2.2 hf) (a_preS hC hI hS As) rfl hn (hl.1.trans hL) rfl (lv_room hrest) dg (by rw [hR]; exact ⟨hfit.2.2.1, hfit.2.2.2⟩)
  refine vx_calli hrun hS (fun _ _ h => h) (fun _ h => h) (fun _ _ h => h) (fun E ce q9 u t H1 locs1 ht hvm _ hB => hB.1.elim) (fun r u t H1 locs1 ht hvm hp1 hB hz hk1 hS1 => ?_)
  obtain ⟨ex', hI'⟩ := hB
  rw [ht] at hI'
  exact kk r u hp1 ls H1 locs1 ex' hl hI' hS1
theorem a_callSv {y : MethodName} {bytes : ByteArray} {maxL n' mc ms N mcR msR index m : Nat} {As : List Value} {P : Int32 → aS → Prop}
    (hC : aOK f g cc nL own) (hR : f_R f = aR N mcR msR) (hm : aSm y bytes maxL none m) (hw : Cond.methodLink own index y ∈ lw_tbl) (hfit : aFit maxL n' mc ms k n N mcR msR) {rest : List Value} (dg : decode cc pc = .ok (.invokestatic index, 3))
    (hM : aMv (f_l f) g y (aWs y bytes maxL none) n' mc ms As q P (fun _ _ => False)) (hst : st = As.reverse ++ rest) (hn : As.length = m) (hL : L.length = nL) (hrest : (rest.map fun v => v.category).sum ≤ 8) (kk : ∀ (q' : aS), P 0 q' → AW f g (pc + 3) L rest q' (k + mc) (n + ms)) : AW f g pc L st q k n := by
  intro ls H locs ex hl hI hS
  subst hst
  have hf := hfit.loc
  rw [← hR] at hf
  have hrun := vx_runS (rest := rest) (g := F0 (f_m f) pc ls (As.reverse ++ rest)) (locs := locs) (meth := f_me f) (below := f_b f) (e := f_e f) (cells := k) (slots := n) (S := (⟨hC.x, hC.b, hC.ml, hC.o, hC.ts⟩ : CallFix (f_p f) (f_m f) (f_c f) cc nL (f_s f) (f_a f) TW own)) hM (va_cwS m hC.ts (good_S hm hw) rfl rfl rfl hm.2.2.2 hf) (a_preS hC hI hS As) rfl hn (hl.1.trans hL) rfl (lv_room hrest) dg (by rw [hR]; exact ⟨hfit.2.2.1, hfit.2.2.2⟩)
  refine vx_callv hrun hS (fun _ _ h => h) (fun _ h => h) (fun _ _ h => h) (fun E ce q9 u t H1 locs1 ht hvm _ hB => hB.1.elim) (fun u t H1 locs1 ht hvm hp1 hB hz hk1 hS1 => ?_)
  obtain ⟨ex', hI'⟩ := hB
  rw [ht] at hI'
  exact kk u hp1 ls H1 locs1 ex' hl hI' hS1
theorem a_mmax (hC : aOK f g cc nL own) {N mcR msR index : Nat} (hR : f_R f = aR N mcR msR) (hN : 1 ≤ N ∧ k ≤ mcR ∧ n ≤ msR) (hL : L.length = nL) (hw : Cond.methodLink own index Lib.Math.max.name ∈ lw_tbl) (hstat : Cond.static Lib.Math.max.name ∈ lw_tbl) (hini : Cond.initialized "java/lang/Math" ∈ lw_tbl) (hcode : Cond.code Lib.Math.max.name Lib.Math.max.code 2 (some .int) ∈ lw_tbl) (hrest : (st.map fun v => v.category).sum ≤ 8) {x y : Int32} (dg : decode cc pc = .ok (.invokestatic index, 3)) (kk : AW f g (pc + 3) L (.int (if x < y then y else x) :: st) q k n) : AW f g pc L (.int y :: .int x :: st) q k n := fun ls H locs ex hl hI hS =>
  va_mmax hC.x hC.b (hC.ml.trans (hL.symm.trans hl.1.symm)) hC.o (hC.w hw rfl) (hC.w hstat rfl) (hC.w hini rfl) (hC.w hcode rfl) (by rw [hR]; exact hN.1) (by rw [hR]; show _ + 13 ≤ 60 * N; omega) (by rw [hR]; exact hN.2.1) (by rw [hR]; exact hN.2.2) dg (kk ls H locs ex hl hI hS)
theorem a_mmin (hC : aOK f g cc nL own) {N mcR msR index : Nat} (hR : f_R f = aR N mcR msR) (hN : 1 ≤ N ∧ k ≤ mcR ∧ n ≤ msR) (hL : L.length = nL) (hw : Cond.methodLink own index Lib.Math.min.name ∈ lw_tbl) (hstat : Cond.static Lib.Math.min.name ∈ lw_tbl) (hini : Cond.initialized "java/lang/Math" ∈ lw_tbl) (hcode : Cond.code Lib.Math.min.name Lib.Math.min.code 2 (some .int) ∈ lw_tbl) (hrest : (st.map fun v => v.category).sum ≤ 8) {x y : Int32} (dg : decode cc pc = .ok (.invokestatic index, 3)) (kk : AW f g (pc + 3) L (.int (if y < x then y else x) :: st) q k n) : AW f g pc L (.int y :: .int x :: st) q k n := fun ls H locs ex hl hI hS =>
  va_mmin hC.x hC.b (hC.ml.trans (hL.symm.trans hl.1.symm)) hC.o (hC.w hw rfl) (hC.w hstat rfl) (hC.w hini rfl) (hC.w hcode rfl) (by rw [hR]; exact hN.1) (by rw [hR]; show _ + 13 ≤ 60 * N; omega) (by rw [hR]; exact hN.2.1) (by rw [hR]; exact hN.2.2) dg (kk ls H locs ex hl hI hS)
theorem a_cret (hC : aOK f g cc nL own) {P : Int32 → aS → Prop} {X : String → aS → Prop} {mc ms : Nat} (hE : aEi f g .char P X mc ms) {v : Int32} (hn : narrow .char (.int v) = .int v) (hp : P v q) (h1 : k ≤ mc) (h2 : n ≤ ms) (dg : decode cc pc = .ok (.ireturn, 1)) : AW f g pc L [.int v] q k n := a_zret hC hE hn hp h1 h2 dg
/-- System.arraycopy of ints: where it keeps to its rows -/
def cpok (n0 n1 : Nat) (sp dp n : Int32) : Prop := ¬ sp < 0 ∧ ¬ dp < 0 ∧ ¬ n < 0 ∧ sp.toNatClampNeg + n.toNatClampNeg ≤ n0 ∧ dp.toNatClampNeg + n.toNatClampNeg ≤ n1
theorem nfw_le : nativeFrameWords "java/lang/System" "arraycopy" 5 ≤ 30 := by decide +kernel
theorem a_copy (hC : aOK f g cc nL own) {N mcR msR index : Nat} (hR : f_R f = aR N mcR msR) (hN : 1 ≤ N) (hL : L.length = nL) (hw : Cond.methodLink own index arraycopyName ∈ lw_tbl) (hnat : Cond.native arraycopyName ∈ lw_tbl) (hstat : Cond.static arraycopyName ∈ lw_tbl) (hini : Cond.initialized "java/lang/System" ∈ lw_tbl) {p0 p1 t0 t1 n0 n1 : Nat} (h0 : aAr g p0 t0 n0 .int) (h1 : aAr g p1 t1 n1 .int) {sp dp z : Int32} (hok : cpok n0 n1 sp dp z) (dg : decode cc pc = .ok (.invokestatic index, 3)) (hrest : (st.map fun v => v.category).sum ≤ 8)
    (kk : AW f g (pc + 3) L st (upR q.1 p1 (va_cpy (q.1 p0) (q.1 p1) sp.toNatClampNeg dp.toNatClampNeg z.toNatClampNeg), q.2) k n) : AW f g pc L (.int z :: .int dp :: .ref (gAd g p1) :: .int sp :: .ref (gAd g p0) :: st) q k n := fun ls H locs ex hl hI hS =>
  va_copyi hC.x hC.b (hC.ml.trans (hL.symm.trans hl.1.symm)) hC.o (hC.w hw rfl) (hC.w hnat rfl) (hC.w hstat rfl) (hC.w hini rfl) hC.K hI.2.1 hI.2.2 hS p0 p1 t0 t1 ((aWl_at g q.1 ex h0.1).trans (by rw [h0.2.1])) ((aWl_at g q.1 ex h1.1).trans (by rw [h1.2.1])) h0.2.2 h1.2.2 rfl hok.1 hok.2.1 hok.2.2.1 hok.2.2.2.1 hok.2.2.2.2 (fun _ _ => rfl) (by rw [hR]; exact hN) (by rw [hR]; exact Nat.le_trans (Nat.add_le_add hrest (Nat.add_le_add_right nfw_le 11)) (Nat.le_trans (Nat.le_of_ble_eq_true rfl : 8 + (30 + 11) ≤ 60 * 1) (Nat.mul_le_mul_left 60 hN))) dg (fun H1 locs1 hP hD hS1 => by
    rw [← h1.2.1, aWl_set g q.1 ex h1.1] at hP hD
    exact kk ls H1 locs1 ex hl ⟨hI.1, hP, hD⟩ hS1)
theorem tab_or {c A B G : Prop} (a : c → A → G) (b : ¬ c → B → G) (h : (c → A) ∧ (¬ c → B)) : G := by
  by_cases e : c
  · exact a e (h.1 e)
  · exact b e (h.2 e)
theorem tab_ne {x v : Int32} {z : Int} (hv : v.toInt = z) (h : ¬ x = v) : x.toInt ≠ z := fun e => h (Int32.toInt_inj.mp (e.trans hv.symm))
end CORE
end
section
/-! more rows: constants, shifts, doubles and floats -/
def aMd (l : Launch) (g : aG) (y : MethodName) (ws : List Cond) (n mc ms : Nat) (As : List Value) (q : aS) (P : UInt64 → aS → Prop) (X : String → aS → Prop) : Prop :=
  vx_Met l y ws (aR n mc ms) (va_Pc As (aWd g q)) (va_Qd P (aWp g) (gA g)) (aX g X) mc ms (gA g)
def aMf (l : Launch) (g : aG) (y : MethodName) (ws : List Cond) (n mc ms : Nat) (As : List Value) (q : aS) (P : UInt32 → aS → Prop) (X : String → aS → Prop) : Prop :=
  vx_Met l y ws (aR n mc ms) (va_Pc As (aWd g q)) (va_Qf P (aWp g) (gA g)) (aX g X) mc ms (gA g)
section CORE2
variable {f : aF} {g : aG} {cc : ByteArray} {nL : Nat} {own : String} {pc : Nat} {L : List (Option Value)} {st : List Value} {q : aS} {k n : Nat}
def aEd (f : aF) (g : aG) (P : UInt64 → aS → Prop) (X : String → aS → Prop) (mc ms : Nat) : Prop :=
  aEQ f g (va_Qd P (aWp g) (gA g)) X mc ms ∧ (f_me f).sig.returnType = some .double
def aEf (f : aF) (g : aG) (P : UInt32 → aS → Prop) (X : String → aS → Prop) (mc ms : Nat) : Prop :=
  aEQ f g (va_Qf P (aWp g) (gA g)) X mc ms ∧ (f_me f).sig.returnType = some .float
theorem aMd_of {l : Launch} {y : MethodName} {maxL mc ms : Nat} {As : List Value} {P : UInt64 → aS → Prop} {X : String → aS → Prop} (own : String) (hy : plainName y.cls = true ∧ y.cls = own) (hcat : ∀ v ∈ As, v.category = 1) (hlen : As.length ≤ maxL) (hl : l.stackTraces = false) (hcl : gCl g)
    (body : ∀ f : aF, f_R f = aR n mc ms → aOK f g cc maxL own → aEd f g P X mc ms → AW f g 0 (As.map some ++ List.replicate (maxL - As.length) none) [] q 0 0) : aMd l g y (aWs y cc maxL (some .double)) n mc ms As q P X := by
  refine vx_ofW (cc := cc) (maxL := maxL) (ret := some .double) hy.1 rfl ?_
  intro p e s m args below meth c s₁ B hml ht hv
  obtain ⟨rfl, ⟨ex, hI⟩, hK, hA, hEn⟩ := hv
  have hts := atoms_spec (ws := aWs y cc maxL (some .double)) B.pre
  have hown : s.vm.findClass own = some m.cls := by rw [← hy.2]; exact findClass_of_methodNamed B.named
  have h := body (p, l, e, (headSpec (aWs y cc maxL (some .double)) (aR n mc ms)).room, s, m, As.toArray, below, meth, c, vx_MQ below (va_Qd P (aWp g) (gA g)) (aX g X) As.toArray s mc ms (gA g)) rfl
    ⟨B.exec, B.bytes, hml, hown, fun w hw => hts w (List.mem_cons_of_mem _ hw), hK, B.notSynchronized, hEn, hA, hl, hcl⟩ ⟨⟨rfl, ht⟩, B.returns⟩
  rw [lg_entry_eq]
  exact h _ _ [] ex (lw_entry As hcat hlen) hI va_S.rf
theorem aMf_of {l : Launch} {y : MethodName} {maxL mc ms : Nat} {As : List Value} {P : UInt32 → aS → Prop} {X : String → aS → Prop} (own : String) (hy : plainName y.cls = true ∧ y.cls = own) (hcat : ∀ v ∈ As, v.category = 1) (hlen : As.length ≤ maxL) (hl : l.stackTraces = false) (hcl : gCl g)
    (body : ∀ f : aF, f_R f = aR n mc ms → aOK f g cc maxL own → aEf f g P X mc ms → AW f g 0 (As.map some ++ List.replicate (maxL - As.length) none) [] q 0 0) : aMf l g y (aWs y cc maxL (some .float)) n mc ms As q P X := by
  refine vx_ofW (cc := cc) (maxL := maxL) (ret := some .float) hy.1 rfl ?_
  intro p e s m args below meth c s₁ B hml ht hv
  obtain ⟨rfl, ⟨ex, hI⟩, hK, hA, hEn⟩ := hv
  have hts := atoms_spec (ws := aWs y cc maxL (some .float)) B.pre
  have hown : s.vm.findClass own = some m.cls := by rw [← hy.2]; exact findClass_of_methodNamed B.named
  have h := body (p, l, e, (headSpec (aWs y cc maxL (some .float)) (aR n mc ms)).room, s, m, As.toArray, below, meth, c, vx_MQ below (va_Qf P (aWp g) (gA g)) (aX g X) As.toArray s mc ms (gA g)) rfl
    ⟨B.exec, B.bytes, hml, hown, fun w hw => hts w (List.mem_cons_of_mem _ hw), hK, B.notSynchronized, hEn, hA, hl, hcl⟩ ⟨⟨rfl, ht⟩, B.returns⟩
  rw [lg_entry_eq]
  exact h _ _ [] ex (lw_entry As hcat hlen) hI va_S.rf
theorem a_dret (hC : aOK f g cc nL own) {P : UInt64 → aS → Prop} {X : String → aS → Prop} {mc ms : Nat} (hE : aEd f g P X mc ms) {v : UInt64} (hp : P v q) (h1 : k ≤ mc) (h2 : n ≤ ms) (dg : decode cc pc = .ok (.dreturn, 1)) : AW f g pc L [.double v] q k n := by
  intro ls H locs ex hl hI hS
  rw [hE.1.1]
  exact W.widen h1 h2 (vx_ret (W.dret hC.x hC.b hE.2 (fun t ht hW => ⟨⟨v, q, rfl, hp, ⟨ex, by rw [ht]; exact hI⟩⟩, hS.F ht⟩) hS.2.2 dg hC.lk))
theorem a_fret (hC : aOK f g cc nL own) {P : UInt32 → aS → Prop} {X : String → aS → Prop} {mc ms : Nat} (hE : aEf f g P X mc ms) {v : UInt32} (hp : P v q) (h1 : k ≤ mc) (h2 : n ≤ ms) (dg : decode cc pc = .ok (.freturn, 1)) : AW f g pc L [.float v] q k n := by
  intro ls H locs ex hl hI hS
  rw [hE.1.1]
  exact W.widen h1 h2 (vx_ret (W.fret hC.x hC.b hE.2 (fun t ht hW => ⟨⟨v, q, rfl, hp, ⟨ex, by rw [ht]; exact hI⟩⟩, hS.F ht⟩) hS.2.2 dg hC.lk))
theorem a_i2d (hC : aOK f g cc nL own) {x : Int32} (dg : decode cc pc = .ok (.i2d, 1)) (kk : AW f g (pc + 1) L (.double (FP.i2d x) :: st) q k n) : AW f g pc L (.int x :: st) q k n := fun ls H locs ex hl hI hS => lv_i2d hC.x hC.b dg (kk ls H locs ex hl hI hS)
theorem a_i2f (hC : aOK f g cc nL own) {x : Int32} (dg : decode cc pc = .ok (.i2f, 1)) (kk : AW f g (pc + 1) L (.float (FP.i2f x) :: st) q k n) : AW f g pc L (.int x :: st) q k n := fun ls H locs ex hl hI hS => lv_i2f hC.x hC.b dg (kk ls H locs ex hl hI hS)
theorem a_ddiv (hC : aOK f g cc nL own) {x y : UInt64} (dg : decode cc pc = .ok (.ddiv, 1)) (hne : vf_n64 (FP.ddiv x y)) (kk : AW f g (pc + 1) L (.double (FP.ddiv x y) :: st) q k n) : AW f g pc L (.double y :: .double x :: st) q k n := fun ls H locs ex hl hI hS => lv_ddiv hC.x hC.b dg hne (kk ls H locs ex hl hI hS)
theorem a_fdiv (hC : aOK f g cc nL own) {x y : UInt32} (dg : decode cc pc = .ok (.fdiv, 1)) (hne : vf_n32 (FP.fdiv x y)) (kk : AW f g (pc + 1) L (.float (FP.fdiv x y) :: st) q k n) : AW f g pc L (.float y :: .float x :: st) q k n := fun ls H locs ex hl hI hS => lv_fdiv hC.x hC.b dg hne (kk ls H locs ex hl hI hS)
theorem a_dconst0 (hC : aOK f g cc nL own) (dg : decode cc pc = .ok (.dconst 0, 1)) (kk : AW f g (pc + 1) L (.double FP.dconst0 :: st) q k n) : AW f g pc L st q k n := fun ls H locs ex hl hI hS => lv_dconst0 hC.x hC.b dg (kk ls H locs ex hl hI hS)
theorem a_fconst0 (hC : aOK f g cc nL own) (dg : decode cc pc = .ok (.fconst 0, 1)) (kk : AW f g (pc + 1) L (.float FP.fconst0 :: st) q k n) : AW f g pc L st q k n := fun ls H locs ex hl hI hS => lv_fconst0 hC.x hC.b dg (kk ls H locs ex hl hI hS)
def ushr (x y : Int32) : Int32 := (x.toUInt32 >>> (y.toUInt32 &&& Int32.toUInt32 31)).toInt32
theorem a_iushr (hC : aOK f g cc nL own) {x y : Int32} (dg : decode cc pc = .ok (.iushr, 1)) (kk : AW f g (pc + 1) L (.int (ushr x y) :: st) q k n) : AW f g pc L (.int y :: .int x :: st) q k n := fun ls H locs ex hl hI hS => lv_iushr hC.x hC.b dg rfl (kk ls H locs ex hl hI hS)
theorem a_ishr (hC : aOK f g cc nL own) {x y : Int32} (dg : decode cc pc = .ok (.ishr, 1)) (kk : AW f g (pc + 1) L (.int (x >>> (y &&& 31)) :: st) q k n) : AW f g pc L (.int y :: .int x :: st) q k n := fun ls H locs ex hl hI hS => lv_ishr hC.x hC.b dg (kk ls H locs ex hl hI hS)
theorem a_ineg (hC : aOK f g cc nL own) {x : Int32} (dg : decode cc pc = .ok (.ineg, 1)) (kk : AW f g (pc + 1) L (.int (-x) :: st) q k n) : AW f g pc L (.int x :: st) q k n := fun ls H locs ex hl hI hS => lv_ineg hC.x hC.b dg (kk ls H locs ex hl hI hS)
theorem a_ldcwI (hC : aOK f g cc nL own) {index : Nat} {v : Int32} (hw : Cond.constant own index v ∈ lw_tbl) (dg : decode cc pc = .ok (.ldc_w index, 3)) (kk : AW f g (pc + 3) L (.int v :: st) q k n) : AW f g pc L st q k n := fun ls H locs ex hl hI hS => lv_ldcw hC.x hC.b hC.o (hC.w hw rfl) dg (kk ls H locs ex hl hI hS)
theorem a_ldcI (hC : aOK f g cc nL own) {index : Nat} {v : Int32} (hw : Cond.constant own index v ∈ lw_tbl) (dg : decode cc pc = .ok (.ldc index, 2)) (kk : AW f g (pc + 2) L (.int v :: st) q k n) : AW f g pc L st q k n := fun ls H locs ex hl hI hS => lv_ldc hC.x hC.b hC.o (hC.w hw rfl) dg (kk ls H locs ex hl hI hS)
end CORE2
end
section
/-! what the tables and the start say of constants: strings, the kinds of orders, the exceptions' statics; gK: 0..9 the kinds, 10 KINDS, 11 the switch row, 20+i a text, 40+i its bytes -/
def sLen : List Nat := [5, 5, 7, 6, 4, 6, 5, 5, 5, 5, 53]
def sByt : List (List Int32) := [[114, 111, 111, 109, 32], [101, 99, 104, 111, 32], [115, 105, 110, 103, 101, 114, 32], [101, 110, 116, 101, 114, 32], [111, 117, 116, 32], [99, 97, 114, 114, 121, 32], [114, 101, 110, 116, 32], [98, 97, 99, 107, 32], [115, 105, 110, 103, 32], [110, 105, 103, 104, 116], [114, 111, 111, 109, 32, 101, 99, 104, 111, 32, 115, 105, 110, 103, 101, 114, 32, 101, 110, 116, 101, 114, 32, 111, 117, 116, 32, 99, 97, 114, 114, 121, 32, 114, 101, 110, 116, 32, 98, 97, 99, 107, 32, 115, 105, 110, 103, 32, 110, 105, 103, 104, 116]]
def sMsg : List (Nat × String) := [(414, "this is refused"), (396, "there is no such room"), (129, "no such number of a room"), (401, "there is no such echo"), (156, "no such number of an echo"), (406, "there is no such singer"), (182, "no such number of a singer"), (408, "the singer is outside"), (206, "there are no rooms"), (226, "the echo is not let"), (234, "no such place in the order of rooms"), (236, "no such order of singers"), (242, "no such place in the order of singers"), (248, "no such place in the order of echoes"), (268, "the character cannot be in the input"), (275, "the input is full"), (288, "the text has a fault"), (296, "an order is refused"), (302, "no such depth"), (308, "nothing was refused"), (319, "there is no cause"), (347, "no such index in the line"), (370, "no such account"), (375, "there are no echoes"), (377, "there is no change to undo"), (388, "nothing was saved")]
def sExc : List String := ["java/lang/UnsupportedOperationException", "java/lang/IndexOutOfBoundsException", "java/lang/IllegalArgumentException", "java/util/NoSuchElementException", "java/lang/IllegalStateException", "java/lang/ArithmeticException"]
def sDec : List String := ["java/lang/RuntimeException", "java/lang/Exception", Bundle.tN]
def eNm : List String := ["ROOM", "ECHO", "SINGER", "ENTER", "OUT", "CARRY", "RENT", "BACK", "SING", "NIGHT"]
def eF : List (String × String × String × List Int32) := [("java/lang/Enum", "ordinal", "I", [0, 1, 2, 3, 4, 5, 6, 7, 8, 9]), ("EchoCouncil$OrderKind", "numbers", "I", [1, 2, 2, 2, 1, 2, 3, 2, 1, 0]), ("EchoCouncil$OrderKind", "digitsOfLast", "I", [1, 1, 2, 1, 1, 1, 1, 1, 1, 0])]
def EnvS (A : Nat → Prop) (kd : Nat → Nat) (U : State) (H : Heap) : Prop :=
  vk_S 11 sLen sByt (fun i => kd (20 + i)) (fun i => kd (40 + i)) A U H ∧ va_Z "java/lang/String" "COMPACT_STRINGS" "Z" (.int 1) A U H ∧ va_Zq "jdk/internal/util/Preconditions" "SIOOBE_FORMATTER" "Ljava/util/function/BiFunction;" A U H
def EnvM (A : Nat → Prop) (kd : Nat → Nat) (U : State) (H : Heap) : Prop :=
  EnvS A kd U H ∧ vk_R "EchoCouncilModel" 238 "room echo singer enter out carry rent back sing night" (kd 30) U
def EnvT (A : Nat → Prop) (U : State) (H : Heap) : Prop :=
  vx_Zq Bundle.tN "UNASSIGNED_STACK" Bundle.steD A U H ∧ vx_Zq Bundle.tN "SUPPRESSED_SENTINEL" Bundle.listD A U H ∧ (∀ E ∈ sExc, va_Nw (.castable E E) U ∧ ∀ w ∈ sDec, va_Nw (.declares (Bundle.initS w)) U) ∧ (∀ p ∈ sMsg, ∃ a, vk_R "EchoCouncil" p.1 p.2 a U)
def EnvK (A : Nat → Prop) (kd : Nat → Nat) (U : State) (H : Heap) : Prop :=
  va_En "EchoCouncil$OrderKind" "LEchoCouncil$OrderKind;" eNm eF kd A U H ∧ va_Ef 10 "EchoCouncil$OrderKind" "word" "Ljava/lang/String;" (fun i => .ref (kd (20 + i))) kd A U H ∧
  va_Z "EchoCouncil" "KINDS" "[LEchoCouncil$OrderKind;" (.ref (kd 10)) A U H ∧ va_T (.object "EchoCouncil$OrderKind") (kd 10) 10 (fun j => .ref (kd j)) A U H ∧
  va_Z "EchoCouncil$1" "$SwitchMap$EchoCouncil$OrderKind" "[I" (.ref (kd 11)) A U H ∧ va_T .int (kd 11) 10 (fun j => .int (nI (j + 1))) A U H ∧
  va_Nw (.fieldLinkNest "EchoCouncil$OrderText" 51 "EchoCouncil" "KINDS" "[LEchoCouncil$OrderKind;" "EchoCouncil") U
def EnvX (A : Nat → Prop) (kd : Nat → Nat) (U : State) (H : Heap) : Prop := EnvS A kd U H ∧ EnvT A U H ∧ EnvK A kd U H
theorem EnvS.go {A : Nat → Prop} {kd : Nat → Nat} {u U : State} {H H1 : Heap} (hW : u.WarmedH U.vm) (hq : ∀ a : Nat, a < H.size → ¬ A a → H1[a]? = H[a]?) (h : EnvS A kd u H) : EnvS A kd U H1 :=
  ⟨(vk_S.moved hW.alike h.1).kept hq, (va_Z.moved hW.alike h.2.1).kept hq, (va_Zq.moved hW.alike h.2.2).kept hq⟩
theorem EnvM.go {A : Nat → Prop} {kd : Nat → Nat} {u U : State} {H H1 : Heap} (hW : u.WarmedH U.vm) (hq : ∀ a : Nat, a < H.size → ¬ A a → H1[a]? = H[a]?) (h : EnvM A kd u H) : EnvM A kd U H1 :=
  ⟨h.1.go hW hq, h.2.warm hW⟩
theorem EnvT.go {A : Nat → Prop} {u U : State} {H H1 : Heap} (hW : u.WarmedH U.vm) (hq : ∀ a : Nat, a < H.size → ¬ A a → H1[a]? = H[a]?) (h : EnvT A u H) : EnvT A U H1 :=
  ⟨(vx_Zq.moved hW.alike h.1).kept hq, (vx_Zq.moved hW.alike h.2.1).kept hq, fun E hE => ⟨(h.2.2.1 E hE).1.warmC hW, fun w hw => ((h.2.2.1 E hE).2 w hw).warmD hW⟩, fun p hp => by
    obtain ⟨a, ha⟩ := h.2.2.2 p hp
    exact ⟨a, ha.warm hW⟩⟩
theorem EnvK.go {A : Nat → Prop} {kd : Nat → Nat} {u U : State} {H H1 : Heap} (hW : u.WarmedH U.vm) (hq : ∀ a : Nat, a < H.size → ¬ A a → H1[a]? = H[a]?) (h : EnvK A kd u H) : EnvK A kd U H1 :=
  ⟨(va_En.moved hW.alike h.1).kept hq, (va_Ef.moved hW.alike h.2.1).kept hq, (va_Z.moved hW.alike h.2.2.1).kept hq, (va_T.moved hW.alike h.2.2.2.1).kept hq, (va_Z.moved hW.alike h.2.2.2.2.1).kept hq, (va_T.moved hW.alike h.2.2.2.2.2.1).kept hq, h.2.2.2.2.2.2.warmF hW⟩
theorem EnvX.go {A : Nat → Prop} {kd : Nat → Nat} {u U : State} {H H1 : Heap} (hW : u.WarmedH U.vm) (hq : ∀ a : Nat, a < H.size → ¬ A a → H1[a]? = H[a]?) (h : EnvX A kd u H) : EnvX A kd U H1 :=
  ⟨h.1.go hW hq, h.2.1.go hW hq, h.2.2.go hW hq⟩
def isS (g : aG) : Prop := gCl g ∧ ∀ U H, gEn g U H → EnvS (gA g) (gK g) U H
theorem isS.cl {g : aG} (h : isS g) : gCl g := h.1
end
section
/-! the reference: one object and its rows of ints -/
def shM (ad : Nat → Nat) (c : Nat → ClassId) : Nat → (Nat → Int32) → va_E := fun k f => match k with
  | 0 => .inr (12, [.ref (ad 1), .ref (ad 2), .ref (ad 3), .ref (ad 4), .int (f 4), .int (f 5), .int (f 6), .int (f 7), .int (f 8), .int (f 9), .int (f 10), .ref (ad 5), .int (f 12), .ref (ad 6), .int (f 14), .int (f 15), .int (f 16), .int (f 17), .int (f 18), .int (f 19), .int (f 20), .int (f 21), .ref (ad 7)])
  | 1 => .inl (c 0, (97, .inl f))
  | 2 => .inl (c 0, (97, .inl f))
  | 3 => .inl (c 0, (97, .inl f))
  | 4 => .inl (c 0, (776, .inl f))
  | 5 => .inl (c 0, (60, .inl f))
  | 6 => .inl (c 0, (60, .inl f))
  | _ => .inl (c 0, (120, .inl f))
def tyX : List FieldType := [.int, .char, .object "EchoCouncil$State", .object "EchoCouncil$OrderKind", .array .int, .byte, .long, .double]
def isM (g : aG) : Prop := gSh g = shM (gAd g) (gc g) ∧ gN g = 8 ∧ (gT g).map Prod.snd = tyX ∧ gCl g ∧ ∀ U H, gEn g U H → EnvM (gA g) (gK g) U H
theorem isM.cl {g : aG} (h : isM g) : gCl g := h.2.2.2.1
theorem isM.toS {g : aG} (h : isM g) : isS g := ⟨h.2.2.2.1, fun U H e => (h.2.2.2.2 U H e).1⟩
theorem oM_0 {g : aG} (h : isM g) : aOb g 0 12 (fun f => [.ref (gAd g 1), .ref (gAd g 2), .ref (gAd g 3), .ref (gAd g 4), .int (f 4), .int (f 5), .int (f 6), .int (f 7), .int (f 8), .int (f 9), .int (f 10), .ref (gAd g 5), .int (f 12), .ref (gAd g 6), .int (f 14), .int (f 15), .int (f 16), .int (f 17), .int (f 18), .int (f 19), .int (f 20), .int (f 21), .ref (gAd g 7)]) := ⟨by rw [h.2.1]; decide, fun d => by rw [h.1]; rfl⟩
theorem oM_1 {g : aG} (h : isM g) : aAr g 1 0 97 .int := ⟨by rw [h.2.1]; decide, fun d => by rw [h.1]; rfl, gc_at h.2.2.1 rfl⟩
theorem oM_2 {g : aG} (h : isM g) : aAr g 2 0 97 .int := ⟨by rw [h.2.1]; decide, fun d => by rw [h.1]; rfl, gc_at h.2.2.1 rfl⟩
theorem oM_3 {g : aG} (h : isM g) : aAr g 3 0 97 .int := ⟨by rw [h.2.1]; decide, fun d => by rw [h.1]; rfl, gc_at h.2.2.1 rfl⟩
theorem oM_4 {g : aG} (h : isM g) : aAr g 4 0 776 .int := ⟨by rw [h.2.1]; decide, fun d => by rw [h.1]; rfl, gc_at h.2.2.1 rfl⟩
theorem oM_5 {g : aG} (h : isM g) : aAr g 5 0 60 .int := ⟨by rw [h.2.1]; decide, fun d => by rw [h.1]; rfl, gc_at h.2.2.1 rfl⟩
theorem oM_6 {g : aG} (h : isM g) : aAr g 6 0 60 .int := ⟨by rw [h.2.1]; decide, fun d => by rw [h.1]; rfl, gc_at h.2.2.1 rfl⟩
theorem oM_7 {g : aG} (h : isM g) : aAr g 7 0 120 .int := ⟨by rw [h.2.1]; decide, fun d => by rw [h.1]; rfl, gc_at h.2.2.1 rfl⟩
/-! the class: its State at b: 17 places -/
def shS (ad : Nat → Nat) (c : Nat → ClassId) (b j : Nat) (f : Nat → Int32) : va_E := match j with
  | 0 => .inr (10, [.ref (ad (b + 1)), .ref (ad (b + 5)), .ref (ad (b + 11)), .int (f 3), .int (f 4), .int (f 5), .int (f 6)])
  | 1 => .inr (8, [.int (f 0), .ref (ad (b + 2)), .ref (ad (b + 3)), .ref (ad (b + 4))])
  | 2 => .inl (c 0, (6, .inl f))
  | 3 => .inl (c 0, (6, .inl f))
  | 4 => .inl (c 0, (6, .inl f))
  | 5 => .inr (4, [.int (f 0), .ref (ad (b + 6)), .ref (ad (b + 7)), .ref (ad (b + 8)), .ref (ad (b + 9)), .ref (ad (b + 10))])
  | 6 => .inl (c 0, (8, .inl f))
  | 7 => .inl (c 0, (8, .inl f))
  | 8 => .inl (c 0, (8, .inl f))
  | 9 => .inl (c 0, (8, .inl f))
  | 10 => .inl (c 0, (8, .inl f))
  | 11 => .inr (9, [.int (f 0), .ref (ad (b + 12)), .ref (ad (b + 13)), .ref (ad (b + 14)), .ref (ad (b + 15)), .ref (ad (b + 16))])
  | 12 => .inl (c 0, (6, .inl f))
  | 13 => .inl (c 0, (6, .inl f))
  | 14 => .inl (c 0, (6, .inl f))
  | 15 => .inl (c 0, (6, .inl f))
  | _ => .inl (c 0, (6, .inl f))
def shX (ad kd : Nat → Nat) (c : Nat → ClassId) (k : Nat) (f : Nat → Int32) : va_E :=
  if k = 0 then .inr (11, [.ref (ad 1), .ref (ad 18), .ref (ad 35), .int (f 3), .ref (ad 52), .ref (ad 190), .ref (ad 204), .ref (ad 205)])
  else if k < 52 then shS ad c (17 * ((k - 1) / 17) + 1) ((k - 1) % 17) f
  else if k = 52 then .inr (6, [.ref (ad 53), .int (f 1), .int (f 2)])
  else if k = 53 then .inl (c 2, (8, .inr (.inr (.inr (.inr (fun j => some (ad (54 + 17 * j))))))))
  else if k < 190 then shS ad c (17 * ((k - 54) / 17) + 54) ((k - 54) % 17) f
  else if k = 190 then .inr (5, [.ref (ad 191), .int (f 1), .int (f 2), .int (f 3), .ref (ad 192), .ref (ad 193), .int (f 6)])
  else if k = 191 then .inl (c 1, (60, .inl f))
  else if k = 192 then .inl (c 3, (10, .inr (.inr (.inr (.inr (fun j => some (kd (f j).toNatClampNeg)))))))
  else if k = 193 then .inl (c 4, (10, .inr (.inr (.inr (.inr (fun j => some (ad (194 + j))))))))
  else if k < 204 then .inl (c 0, (3, .inl f))
  else .inr (7, [.int (f 0), .int (f 1), .int (f 2), .int (f 3), .int (f 4), .int (f 5)])
def isX (g : aG) : Prop := gSh g = shX (gAd g) (gK g) (gc g) ∧ gN g = 205 ∧ (gT g).map Prod.snd = tyX ∧ gCl g ∧ ∀ U H, gEn g U H → EnvX (gA g) (gK g) U H
theorem isX.cl {g : aG} (h : isX g) : gCl g := h.2.2.2.1
theorem isX.toS {g : aG} (h : isX g) : isS g := ⟨h.2.2.2.1, fun U H e => (h.2.2.2.2 U H e).1⟩
theorem oX_0 {g : aG} (h : isX g) : aOb g 0 11 (fun f => [.ref (gAd g 1), .ref (gAd g 18), .ref (gAd g 35), .int (f 3), .ref (gAd g 52), .ref (gAd g 190), .ref (gAd g 204), .ref (gAd g 205)]) := ⟨by rw [h.2.1]; decide, fun d => by rw [h.1]; rfl⟩
theorem oX_1 {g : aG} (h : isX g) : aOb g 1 10 (fun f => [.ref (gAd g 2), .ref (gAd g 6), .ref (gAd g 12), .int (f 3), .int (f 4), .int (f 5), .int (f 6)]) := ⟨by rw [h.2.1]; decide, fun d => by rw [h.1]; rfl⟩
theorem oX_2 {g : aG} (h : isX g) : aOb g 2 8 (fun f => [.int (f 0), .ref (gAd g 3), .ref (gAd g 4), .ref (gAd g 5)]) := ⟨by rw [h.2.1]; decide, fun d => by rw [h.1]; rfl⟩
theorem oX_3 {g : aG} (h : isX g) : aAr g 3 0 6 .int := ⟨by rw [h.2.1]; decide, fun d => by rw [h.1]; rfl, gc_at h.2.2.1 rfl⟩
theorem oX_4 {g : aG} (h : isX g) : aAr g 4 0 6 .int := ⟨by rw [h.2.1]; decide, fun d => by rw [h.1]; rfl, gc_at h.2.2.1 rfl⟩
theorem oX_5 {g : aG} (h : isX g) : aAr g 5 0 6 .int := ⟨by rw [h.2.1]; decide, fun d => by rw [h.1]; rfl, gc_at h.2.2.1 rfl⟩
theorem oX_6 {g : aG} (h : isX g) : aOb g 6 4 (fun f => [.int (f 0), .ref (gAd g 7), .ref (gAd g 8), .ref (gAd g 9), .ref (gAd g 10), .ref (gAd g 11)]) := ⟨by rw [h.2.1]; decide, fun d => by rw [h.1]; rfl⟩
theorem oX_7 {g : aG} (h : isX g) : aAr g 7 0 8 .int := ⟨by rw [h.2.1]; decide, fun d => by rw [h.1]; rfl, gc_at h.2.2.1 rfl⟩
theorem oX_8 {g : aG} (h : isX g) : aAr g 8 0 8 .int := ⟨by rw [h.2.1]; decide, fun d => by rw [h.1]; rfl, gc_at h.2.2.1 rfl⟩
theorem oX_9 {g : aG} (h : isX g) : aAr g 9 0 8 .int := ⟨by rw [h.2.1]; decide, fun d => by rw [h.1]; rfl, gc_at h.2.2.1 rfl⟩
theorem oX_10 {g : aG} (h : isX g) : aAr g 10 0 8 .int := ⟨by rw [h.2.1]; decide, fun d => by rw [h.1]; rfl, gc_at h.2.2.1 rfl⟩
theorem oX_11 {g : aG} (h : isX g) : aAr g 11 0 8 .int := ⟨by rw [h.2.1]; decide, fun d => by rw [h.1]; rfl, gc_at h.2.2.1 rfl⟩
theorem oX_12 {g : aG} (h : isX g) : aOb g 12 9 (fun f => [.int (f 0), .ref (gAd g 13), .ref (gAd g 14), .ref (gAd g 15), .ref (gAd g 16), .ref (gAd g 17)]) := ⟨by rw [h.2.1]; decide, fun d => by rw [h.1]; rfl⟩
theorem oX_13 {g : aG} (h : isX g) : aAr g 13 0 6 .int := ⟨by rw [h.2.1]; decide, fun d => by rw [h.1]; rfl, gc_at h.2.2.1 rfl⟩
theorem oX_14 {g : aG} (h : isX g) : aAr g 14 0 6 .int := ⟨by rw [h.2.1]; decide, fun d => by rw [h.1]; rfl, gc_at h.2.2.1 rfl⟩
theorem oX_15 {g : aG} (h : isX g) : aAr g 15 0 6 .int := ⟨by rw [h.2.1]; decide, fun d => by rw [h.1]; rfl, gc_at h.2.2.1 rfl⟩
theorem oX_16 {g : aG} (h : isX g) : aAr g 16 0 6 .int := ⟨by rw [h.2.1]; decide, fun d => by rw [h.1]; rfl, gc_at h.2.2.1 rfl⟩
theorem oX_17 {g : aG} (h : isX g) : aAr g 17 0 6 .int := ⟨by rw [h.2.1]; decide, fun d => by rw [h.1]; rfl, gc_at h.2.2.1 rfl⟩
theorem oX_52 {g : aG} (h : isX g) : aOb g 52 6 (fun f => [.ref (gAd g 53), .int (f 1), .int (f 2)]) := ⟨by rw [h.2.1]; decide, fun d => by rw [h.1]; rfl⟩
theorem oX_53 {g : aG} (h : isX g) : aQr g 53 2 8 (.object "EchoCouncil$State") (fun _ j => some (gAd g (54 + 17 * j))) := ⟨by rw [h.2.1]; decide, fun d => by rw [h.1]; rfl, gc_at h.2.2.1 rfl⟩
theorem oX_190 {g : aG} (h : isX g) : aOb g 190 5 (fun f => [.ref (gAd g 191), .int (f 1), .int (f 2), .int (f 3), .ref (gAd g 192), .ref (gAd g 193), .int (f 6)]) := ⟨by rw [h.2.1]; decide, fun d => by rw [h.1]; rfl⟩
theorem oX_191 {g : aG} (h : isX g) : aAr g 191 1 60 .char := ⟨by rw [h.2.1]; decide, fun d => by rw [h.1]; rfl, gc_at h.2.2.1 rfl⟩
theorem oX_192 {g : aG} (h : isX g) : aQr g 192 3 10 (.object "EchoCouncil$OrderKind") (fun f j => some (gK g (f j).toNatClampNeg)) := ⟨by rw [h.2.1]; decide, fun d => by rw [h.1]; rfl, gc_at h.2.2.1 rfl⟩
theorem oX_193 {g : aG} (h : isX g) : aQr g 193 4 10 (.array .int) (fun _ j => some (gAd g (194 + j))) := ⟨by rw [h.2.1]; decide, fun d => by rw [h.1]; rfl, gc_at h.2.2.1 rfl⟩
theorem oX_204 {g : aG} (h : isX g) : aOb g 204 7 (fun f => [.int (f 0), .int (f 1), .int (f 2), .int (f 3), .int (f 4), .int (f 5)]) := ⟨by rw [h.2.1]; decide, fun d => by rw [h.1]; rfl⟩
theorem row_lt {i : Int32} (h : vp_in i 10) : i.toNatClampNeg < 10 := Nat.not_le.mp fun q => h (Or.inr q)
/-- a row of the orders' numbers -/
theorem oX_row {g : aG} (h : isX g) (r : Nat) (hr : r < 10) : aAr g (194 + r) 0 3 .int := ⟨by rw [h.2.1]; omega, fun d => by rw [h.1]; rcases (show r = 0 ∨ r = 1 ∨ r = 2 ∨ r = 3 ∨ r = 4 ∨ r = 5 ∨ r = 6 ∨ r = 7 ∨ r = 8 ∨ r = 9 by omega) with rfl | rfl | rfl | rfl | rfl | rfl | rfl | rfl | rfl | rfl <;> rfl, gc_at h.2.2.1 rfl⟩
/-- where a State stands -/
def isB (b : Nat) : Prop := b = 1 ∨ b = 18 ∨ b = 35 ∨ ∃ i, i < 8 ∧ b = 54 + 17 * i
theorem isB.sh {b : Nat} (h : isB b) (ad kd : Nat → Nat) (c : Nat → ClassId) (j : Nat) (hj : j < 17) (f : Nat → Int32) : shX ad kd c (b + j) f = shS ad c b j f ∧ b + j < 205 := by
  rcases h with rfl | rfl | rfl | ⟨i, hi, rfl⟩
  · refine ⟨?_, by omega⟩
    unfold shX
    rw [if_neg (by omega), if_pos (by omega), show (1 + j - 1) / 17 = 0 by omega, show (1 + j - 1) % 17 = j by omega]
  · refine ⟨?_, by omega⟩
    unfold shX
    rw [if_neg (by omega), if_pos (by omega), show (18 + j - 1) / 17 = 1 by omega, show (18 + j - 1) % 17 = j by omega]
  · refine ⟨?_, by omega⟩
    unfold shX
    rw [if_neg (by omega), if_pos (by omega), show (35 + j - 1) / 17 = 2 by omega, show (35 + j - 1) % 17 = j by omega]
  · refine ⟨?_, by omega⟩
    unfold shX
    rw [if_neg (by omega), if_neg (by omega), if_neg (by omega), if_neg (by omega), if_pos (by omega), show (54 + 17 * i + j - 54) / 17 = i by omega, show (54 + 17 * i + j - 54) % 17 = j by omega, Nat.add_comm (17 * i)]
theorem isB_past {i : Int32} (h : vp_in i 8) : isB (54 + 17 * i.toNatClampNeg) := Or.inr (Or.inr (Or.inr ⟨_, Nat.not_le.mp fun q => h (Or.inr q), rfl⟩))
theorem oB_0 {g : aG} (h : isX g) {b : Nat} (hb : isB b) : aOb g (b + 0) 10 (fun f => [.ref (gAd g (b + 1)), .ref (gAd g (b + 5)), .ref (gAd g (b + 11)), .int (f 3), .int (f 4), .int (f 5), .int (f 6)]) := ⟨by rw [h.2.1]; exact (hb.sh (gAd g) (gK g) (gc g) 0 (by decide) (fun _ => 0)).2, fun d => by rw [h.1]; exact (hb.sh (gAd g) (gK g) (gc g) 0 (by decide) d).1⟩
theorem oB_1 {g : aG} (h : isX g) {b : Nat} (hb : isB b) : aOb g (b + 1) 8 (fun f => [.int (f 0), .ref (gAd g (b + 2)), .ref (gAd g (b + 3)), .ref (gAd g (b + 4))]) := ⟨by rw [h.2.1]; exact (hb.sh (gAd g) (gK g) (gc g) 1 (by decide) (fun _ => 0)).2, fun d => by rw [h.1]; exact (hb.sh (gAd g) (gK g) (gc g) 1 (by decide) d).1⟩
theorem oB_2 {g : aG} (h : isX g) {b : Nat} (hb : isB b) : aAr g (b + 2) 0 6 .int := ⟨by rw [h.2.1]; exact (hb.sh (gAd g) (gK g) (gc g) 2 (by decide) (fun _ => 0)).2, fun d => by rw [h.1]; exact (hb.sh (gAd g) (gK g) (gc g) 2 (by decide) d).1, gc_at h.2.2.1 rfl⟩
theorem oB_3 {g : aG} (h : isX g) {b : Nat} (hb : isB b) : aAr g (b + 3) 0 6 .int := ⟨by rw [h.2.1]; exact (hb.sh (gAd g) (gK g) (gc g) 3 (by decide) (fun _ => 0)).2, fun d => by rw [h.1]; exact (hb.sh (gAd g) (gK g) (gc g) 3 (by decide) d).1, gc_at h.2.2.1 rfl⟩
theorem oB_4 {g : aG} (h : isX g) {b : Nat} (hb : isB b) : aAr g (b + 4) 0 6 .int := ⟨by rw [h.2.1]; exact (hb.sh (gAd g) (gK g) (gc g) 4 (by decide) (fun _ => 0)).2, fun d => by rw [h.1]; exact (hb.sh (gAd g) (gK g) (gc g) 4 (by decide) d).1, gc_at h.2.2.1 rfl⟩
theorem oB_5 {g : aG} (h : isX g) {b : Nat} (hb : isB b) : aOb g (b + 5) 4 (fun f => [.int (f 0), .ref (gAd g (b + 6)), .ref (gAd g (b + 7)), .ref (gAd g (b + 8)), .ref (gAd g (b + 9)), .ref (gAd g (b + 10))]) := ⟨by rw [h.2.1]; exact (hb.sh (gAd g) (gK g) (gc g) 5 (by decide) (fun _ => 0)).2, fun d => by rw [h.1]; exact (hb.sh (gAd g) (gK g) (gc g) 5 (by decide) d).1⟩
theorem oB_6 {g : aG} (h : isX g) {b : Nat} (hb : isB b) : aAr g (b + 6) 0 8 .int := ⟨by rw [h.2.1]; exact (hb.sh (gAd g) (gK g) (gc g) 6 (by decide) (fun _ => 0)).2, fun d => by rw [h.1]; exact (hb.sh (gAd g) (gK g) (gc g) 6 (by decide) d).1, gc_at h.2.2.1 rfl⟩
theorem oB_7 {g : aG} (h : isX g) {b : Nat} (hb : isB b) : aAr g (b + 7) 0 8 .int := ⟨by rw [h.2.1]; exact (hb.sh (gAd g) (gK g) (gc g) 7 (by decide) (fun _ => 0)).2, fun d => by rw [h.1]; exact (hb.sh (gAd g) (gK g) (gc g) 7 (by decide) d).1, gc_at h.2.2.1 rfl⟩
theorem oB_8 {g : aG} (h : isX g) {b : Nat} (hb : isB b) : aAr g (b + 8) 0 8 .int := ⟨by rw [h.2.1]; exact (hb.sh (gAd g) (gK g) (gc g) 8 (by decide) (fun _ => 0)).2, fun d => by rw [h.1]; exact (hb.sh (gAd g) (gK g) (gc g) 8 (by decide) d).1, gc_at h.2.2.1 rfl⟩
theorem oB_9 {g : aG} (h : isX g) {b : Nat} (hb : isB b) : aAr g (b + 9) 0 8 .int := ⟨by rw [h.2.1]; exact (hb.sh (gAd g) (gK g) (gc g) 9 (by decide) (fun _ => 0)).2, fun d => by rw [h.1]; exact (hb.sh (gAd g) (gK g) (gc g) 9 (by decide) d).1, gc_at h.2.2.1 rfl⟩
theorem oB_10 {g : aG} (h : isX g) {b : Nat} (hb : isB b) : aAr g (b + 10) 0 8 .int := ⟨by rw [h.2.1]; exact (hb.sh (gAd g) (gK g) (gc g) 10 (by decide) (fun _ => 0)).2, fun d => by rw [h.1]; exact (hb.sh (gAd g) (gK g) (gc g) 10 (by decide) d).1, gc_at h.2.2.1 rfl⟩
theorem oB_11 {g : aG} (h : isX g) {b : Nat} (hb : isB b) : aOb g (b + 11) 9 (fun f => [.int (f 0), .ref (gAd g (b + 12)), .ref (gAd g (b + 13)), .ref (gAd g (b + 14)), .ref (gAd g (b + 15)), .ref (gAd g (b + 16))]) := ⟨by rw [h.2.1]; exact (hb.sh (gAd g) (gK g) (gc g) 11 (by decide) (fun _ => 0)).2, fun d => by rw [h.1]; exact (hb.sh (gAd g) (gK g) (gc g) 11 (by decide) d).1⟩
theorem oB_12 {g : aG} (h : isX g) {b : Nat} (hb : isB b) : aAr g (b + 12) 0 6 .int := ⟨by rw [h.2.1]; exact (hb.sh (gAd g) (gK g) (gc g) 12 (by decide) (fun _ => 0)).2, fun d => by rw [h.1]; exact (hb.sh (gAd g) (gK g) (gc g) 12 (by decide) d).1, gc_at h.2.2.1 rfl⟩
theorem oB_13 {g : aG} (h : isX g) {b : Nat} (hb : isB b) : aAr g (b + 13) 0 6 .int := ⟨by rw [h.2.1]; exact (hb.sh (gAd g) (gK g) (gc g) 13 (by decide) (fun _ => 0)).2, fun d => by rw [h.1]; exact (hb.sh (gAd g) (gK g) (gc g) 13 (by decide) d).1, gc_at h.2.2.1 rfl⟩
theorem oB_14 {g : aG} (h : isX g) {b : Nat} (hb : isB b) : aAr g (b + 14) 0 6 .int := ⟨by rw [h.2.1]; exact (hb.sh (gAd g) (gK g) (gc g) 14 (by decide) (fun _ => 0)).2, fun d => by rw [h.1]; exact (hb.sh (gAd g) (gK g) (gc g) 14 (by decide) d).1, gc_at h.2.2.1 rfl⟩
theorem oB_15 {g : aG} (h : isX g) {b : Nat} (hb : isB b) : aAr g (b + 15) 0 6 .int := ⟨by rw [h.2.1]; exact (hb.sh (gAd g) (gK g) (gc g) 15 (by decide) (fun _ => 0)).2, fun d => by rw [h.1]; exact (hb.sh (gAd g) (gK g) (gc g) 15 (by decide) d).1, gc_at h.2.2.1 rfl⟩
theorem oB_16 {g : aG} (h : isX g) {b : Nat} (hb : isB b) : aAr g (b + 16) 0 6 .int := ⟨by rw [h.2.1]; exact (hb.sh (gAd g) (gK g) (gc g) 16 (by decide) (fun _ => 0)).2, fun d => by rw [h.1]; exact (hb.sh (gAd g) (gK g) (gc g) 16 (by decide) d).1, gc_at h.2.2.1 rfl⟩
theorem cl_X1 : aCl 4 RX1 TX1 6 := ⟨rfl, fun w h => tk_w ((by decide +kernel : ∀ w ∈ u_ws RX1 TX1 6, w ∈ lw_tbl) w h) ((by decide +kernel : ∀ w ∈ u_ws RX1 TX1 6, goodWord w = true) w h), nmX1⟩
theorem cl_X3 : aCl 5 RX3 TX3 7 := ⟨rfl, fun w h => tk_w ((by decide +kernel : ∀ w ∈ u_ws RX3 TX3 7, w ∈ lw_tbl) w h) ((by decide +kernel : ∀ w ∈ u_ws RX3 TX3 7, goodWord w = true) w h), nmX3⟩
theorem cl_X4 : aCl 6 RX4 TX4 3 := ⟨rfl, fun w h => tk_w ((by decide +kernel : ∀ w ∈ u_ws RX4 TX4 3, w ∈ lw_tbl) w h) ((by decide +kernel : ∀ w ∈ u_ws RX4 TX4 3, goodWord w = true) w h), nmX4⟩
theorem cl_X5 : aCl 7 RX5 TX5 6 := ⟨rfl, fun w h => tk_w ((by decide +kernel : ∀ w ∈ u_ws RX5 TX5 6, w ∈ lw_tbl) w h) ((by decide +kernel : ∀ w ∈ u_ws RX5 TX5 6, goodWord w = true) w h), nmX5⟩
theorem cl_X6 : aCl 8 RX6 TX6 4 := ⟨rfl, fun w h => tk_w ((by decide +kernel : ∀ w ∈ u_ws RX6 TX6 4, w ∈ lw_tbl) w h) ((by decide +kernel : ∀ w ∈ u_ws RX6 TX6 4, goodWord w = true) w h), nmX6⟩
theorem cl_X7 : aCl 9 RX7 TX7 6 := ⟨rfl, fun w h => tk_w ((by decide +kernel : ∀ w ∈ u_ws RX7 TX7 6, w ∈ lw_tbl) w h) ((by decide +kernel : ∀ w ∈ u_ws RX7 TX7 6, goodWord w = true) w h), nmX7⟩
theorem cl_X8 : aCl 10 RX8 TX8 7 := ⟨rfl, fun w h => tk_w ((by decide +kernel : ∀ w ∈ u_ws RX8 TX8 7, w ∈ lw_tbl) w h) ((by decide +kernel : ∀ w ∈ u_ws RX8 TX8 7, goodWord w = true) w h), nmX8⟩
theorem cl_X9 : aCl 11 RX9 TX9 8 := ⟨rfl, fun w h => tk_w ((by decide +kernel : ∀ w ∈ u_ws RX9 TX9 8, w ∈ lw_tbl) w h) ((by decide +kernel : ∀ w ∈ u_ws RX9 TX9 8, goodWord w = true) w h), nmX9⟩
theorem cl_X10 : aCl 12 RX10 TX10 23 := ⟨rfl, fun w h => tk_w ((by decide +kernel : ∀ w ∈ u_ws RX10 TX10 23, w ∈ lw_tbl) w h) ((by decide +kernel : ∀ w ∈ u_ws RX10 TX10 23, goodWord w = true) w h), nmX10⟩
theorem cl_J4 : aCl 1 RJ4 TJ4 4 := ⟨rfl, fun w h => tk_w ((by decide +kernel : ∀ w ∈ u_ws RJ4 TJ4 4, w ∈ lw_tbl) w h) ((by decide +kernel : ∀ w ∈ u_ws RJ4 TJ4 4, goodWord w = true) w h), nmJ4⟩
end
section
/-! throws, calls that may throw, constants -/
theorem excs_names : ∀ n ∈ ["java/lang/RuntimeException", "java/lang/Exception"], Bundle.fit n = true := by decide +kernel
/-- the throw of cls by the constructor at ic of EchoCouncil's pool: all that a program decides -/
def excOk (ik ic : Nat) (cls : String) : Prop :=
  Bundle.fit cls = true ∧ Cond.classLink "EchoCouncil" ik cls ∈ lw_tbl ∧ Cond.initialized cls ∈ lw_tbl ∧ (∀ w ∈ (vx_atS "EchoCouncil" ic cls ["java/lang/RuntimeException", "java/lang/Exception"]).filter goodWord, w ∈ lw_tbl) ∧
  (∀ w ∈ (vx_atS "EchoCouncil" ic cls ["java/lang/RuntimeException", "java/lang/Exception"]).filter (fun w => !goodWord w), w ∈ Cond.castable cls cls :: sDec.map (fun x => Cond.declares (Bundle.initS x))) ∧
  (∀ w ∈ Cond.classLink "EchoCouncil" ik cls :: Cond.initialized cls :: vx_atS "EchoCouncil" ic cls ["java/lang/RuntimeException", "java/lang/Exception"], vx_ot w = true) ∧ cls ∈ sExc
theorem isX.en {g : aG} (h : isX g) {U : State} {H : Heap} (e : gEn g U H) : EnvX (gA g) (gK g) U H := h.2.2.2.2 U H e
section CORE3
variable {f : aF} {g : aG} {cc : ByteArray} {nL : Nat} {own : String} {pc : Nat} {L : List (Option Value)} {st : List Value} {q : aS} {k n : Nat}
theorem a_hat (hC : aOK f g cc nL own) (hT : EnvT (gA g) (f_s f) (f_s f).heap) {ik ic : Nat} {cls : String} (ho : excOk ik ic cls) : ∀ w ∈ vx_atS "EchoCouncil" ic cls ["java/lang/RuntimeException", "java/lang/Exception"], w.before (f_a f) (f_s f) = true :=
  vx_hat (B := Cond.castable cls cls :: sDec.map (fun x => Cond.declares (Bundle.initS x))) (fun w hw => hC.w (ho.2.2.2.1 w hw) (List.mem_filter.mp hw).2) ho.2.2.2.2.1 (fun w hw => by
    rcases List.mem_cons.mp hw with rfl | hw
    · exact (hT.2.2.1 cls ho.2.2.2.2.2.2).1.use rfl
    · obtain ⟨x, hx, rfl⟩ := List.mem_map.mp hw
      exact ((hT.2.2.1 cls ho.2.2.2.2.2.2).2 x hx).use rfl)
theorem a_thrown (hC : aOK f g cc nL own) {X : String → aS → Prop} {cls : String} (hp : X cls q) {H : Heap} {locs : List Loc} {ex : va_W} (hI : aI g q ex H) (hS : va_S (gA g) (f_s f).heap H locs) (t : State) (h1 : H.size ≤ t.heap.size) (h2 : ∀ a : Nat, a < H.size → t.heap[a]? = H[a]?) : aX g X cls (f_s f) t :=
  ⟨q, trivial, ⟨hp, ex, hI.1, hI.2.1.kept (fun k9 x hx => h2 x.1 (hI.2.1 k9 x hx).lt), hI.2.2⟩, Nat.le_trans hS.1 h1, fun a ha hn => (h2 a (Nat.lt_of_lt_of_le ha hS.1)).trans (hS.2.1 a ha hn)⟩
theorem a_throw (hX : isX g) (hC : aOK f g cc nL "EchoCouncil") {N mcR msR : Nat} (hR : f_R f = aR N mcR msR) {Qc : Array Value → State → Outcome → State → Prop} {X : String → aS → Prop} {mc ms : Nat} (hQ : aEQ f g Qc X mc ms) {ik is ic : Nat} {cls text : String} (ho : excOk ik ic cls) (hm : (is, text) ∈ sMsg) (hL : L.length = nL) (hn : 8 ≤ N ∧ k + 1 ≤ mc ∧ n + 6 ≤ ms ∧ mc ≤ mcR ∧ ms ≤ msR) (hrest : (st.map fun v => v.category).sum ≤ 8)
    (d0 : decode cc pc = .ok (.new ik, 3)) (d3 : decode cc (pc + 3) = .ok (.dup, 1)) (d4 : decode cc (pc + 4) = .ok (.ldc is, 2)) (d6 : decode cc (pc + 6) = .ok (.invokespecial ic, 3)) (d9 : decode cc (pc + 9) = .ok (.athrow, 1)) (hp : X cls q) : AW f g pc L st q k n := by
  intro ls H locs ex hl hI hS
  have hT := (hX.en hC.en).2.1
  obtain ⟨sa, hsa⟩ := hT.2.2.2 (is, text) hm
  rw [hQ.1]
  exact vx_throwS hC.x hC.b hC.tr hC.o ho.1 excs_names (hC.w ho.2.1 rfl) (hC.w ho.2.2.1 rfl) hsa (a_hat hC hT ho) ho.2.2.2.2.2.1 hT.1 hT.2.1 hS (hl.1.trans (hL.trans hC.ml.symm)) d0 d3 d4 d6 d9 (fun x hx => (hQ.2 x hx).elim) (by rw [hR]; exact Nat.lt_of_lt_of_le (by decide) hn.1) (by rw [hR]; exact Nat.le_trans (Nat.add_le_add_right hrest _) (Nat.le_trans (by decide : 8 + (13 * (2 + 1) + 43) ≤ 60 * 8) (Nat.mul_le_mul_left 60 hn.1))) (by rw [hR]; exact Nat.le_trans hn.2.1 hn.2.2.2.1) (by rw [hR]; exact Nat.le_trans hn.2.2.1 hn.2.2.2.2) hC.lk (fun t _ h1 h2 => a_thrown hC hp hI hS t h1 h2) hS.2.2 hn.2.1 hn.2.2.1
theorem a_throwW (hX : isX g) (hC : aOK f g cc nL "EchoCouncil") {N mcR msR : Nat} (hR : f_R f = aR N mcR msR) {Qc : Array Value → State → Outcome → State → Prop} {X : String → aS → Prop} {mc ms : Nat} (hQ : aEQ f g Qc X mc ms) {ik is ic : Nat} {cls text : String} (ho : excOk ik ic cls) (hm : (is, text) ∈ sMsg) (hL : L.length = nL) (hn : 8 ≤ N ∧ k + 1 ≤ mc ∧ n + 6 ≤ ms ∧ mc ≤ mcR ∧ ms ≤ msR) (hrest : (st.map fun v => v.category).sum ≤ 8)
    (d0 : decode cc pc = .ok (.new ik, 3)) (d3 : decode cc (pc + 3) = .ok (.dup, 1)) (d4 : decode cc (pc + 4) = .ok (.ldc_w is, 3)) (d6 : decode cc (pc + 7) = .ok (.invokespecial ic, 3)) (d9 : decode cc (pc + 10) = .ok (.athrow, 1)) (hp : X cls q) : AW f g pc L st q k n := by
  intro ls H locs ex hl hI hS
  have hT := (hX.en hC.en).2.1
  obtain ⟨sa, hsa⟩ := hT.2.2.2 (is, text) hm
  rw [hQ.1]
  exact vx_throwSW hC.x hC.b hC.tr hC.o ho.1 excs_names (hC.w ho.2.1 rfl) (hC.w ho.2.2.1 rfl) hsa (a_hat hC hT ho) ho.2.2.2.2.2.1 hT.1 hT.2.1 hS (hl.1.trans (hL.trans hC.ml.symm)) d0 d3 d4 d6 d9 (fun x hx => (hQ.2 x hx).elim) (by rw [hR]; exact Nat.lt_of_lt_of_le (by decide) hn.1) (by rw [hR]; exact Nat.le_trans (Nat.add_le_add_right hrest _) (Nat.le_trans (by decide : 8 + (13 * (2 + 1) + 43) ≤ 60 * 8) (Nat.mul_le_mul_left 60 hn.1))) (by rw [hR]; exact Nat.le_trans hn.2.1 hn.2.2.2.1) (by rw [hR]; exact Nat.le_trans hn.2.2.1 hn.2.2.2.2) hC.lk (fun t _ h1 h2 => a_thrown hC hp hI hS t h1 h2) hS.2.2 hn.2.1 hn.2.2.1
/-- an exception of a callee that goes on to the caller -/
theorem a_outs (hC : aOK f g cc nL own) {Qc : Array Value → State → Outcome → State → Prop} {X : String → aS → Prop} {mcE msE : Nat} (hQ : aEQ f g Qc X mcE msE) (h1 : k ≤ mcE) (h2 : n ≤ msE) {E : String} {ce : Cell} {q9 : Addr} {u : aS} {t : State} {H1 : Heap} {locs1 : List Loc} {ls : Array Slot} {rest : List Value} (ht : t.heap = H1) (hp : X E u ∧ aWp g u t) (hS : va_S (gA g) (f_s f).heap H1 locs1) (hce : H1[q9]? = some ce) (hv : ce.vm = .none) (hcl : (f_s f).vm.findClass E = some ce.cls) :
    vx_W (f_p f) (f_l f) (f_e f) (f_R f) (f_s f) (f_m f) (f_a f) (f_b f) (f_me f) (f_c f) H1 locs1 k n (f_Q f) (F0 (f_m f) pc ls rest) q9 := by
  rw [hQ.1]
  refine vx_out (fun x hx => (hQ.2 x hx).elim) hC.lk hce hv hcl (fun t' ht' _ => ?_) hS.2.2 h1 h2
  obtain ⟨hx, ex, hI⟩ := hp
  rw [ht] at hI
  exact ⟨u, trivial, ⟨hx, ex, by rw [ht']; exact hI⟩, hS.F ht'⟩
theorem a_callVx {y : MethodName} {C : String} {bytes : ByteArray} {maxL n' mc ms N mcR msR index ci p Nf m : Nat} {ty : FieldType} {As : List Value} {T : u_T} {F : (Nat → Int32) → List Value} {P : Int32 → aS → Prop} {Qc : Array Value → State → Outcome → State → Prop} {X : String → aS → Prop} {mcE msE : Nat}
    (hC : aOK f g cc nL own) (hR : f_R f = aR N mcR msR) (hQ : aEQ f g Qc X mcE msE) (hE : k + mc ≤ mcE ∧ n + ms ≤ msE) (hm : aVm y C bytes maxL (some ty) m) (hw : Cond.methodLink own index y ∈ lw_tbl) (hc : aCl ci C T Nf) (hp : aOb g p ci F) (hfit : aFit maxL n' mc ms k n N mcR msR) {rest : List Value} (dg : decode cc pc = .ok (.invokevirtual index, 3))
    (hM : aMi (f_l f) g y (aWs y bytes maxL (some ty)) n' mc ms (.ref (gAd g p) :: As) q P X) (hst : st = As.reverse ++ .ref (gAd g p) :: rest) (hn : As.length = m) (hL : L.length = nL) (hrest : (rest.map fun v => v.category).sum ≤ 8) (kk : ∀ (r : Int32) (q' : aS), P r q' → AW f g (pc + 3) L (.int r :: rest) q' (k + mc) (n + ms)) : AW f g pc L st q k n := by
  intro ls H locs ex hl hI hS
  subst hst
  have hf := hfit.loc
  rw [← hR] at hf
  have hrun := vx_runV (rest := rest) (g := F0 (f_m f) pc ls (As.reverse ++ .ref (gAd g p) :: rest)) (locs := locs) (meth := f_me f) (below := f_b f) (e := f_e f) (cells := k) (slots := n) (S := (⟨hC.x, hC.b, hC.ml, hC.o, hC.ts⟩ : CallFix (f_p f) (f_m f) (f_c f) cc nL (f_s f) (f_a f) TW own)) hM (cwV m hC.ts (good_V hm hw) rfl rfl rfl hm.2.2.2.2 hf) (a_preV hC hI hS hc hp As) rfl hn (hl.1.trans hL) rfl (lv_room hrest) dg (by rw [hR]; exact ⟨hfit.2.2.1, hfit.2.2.2⟩)
  refine vx_calli hrun hS (fun _ _ h => h) (fun _ h => h) (fun _ _ h => h) (fun E ce q9 u t H1 locs1 ht hvm _ hB _ _ hS1 hce hv hcl => a_outs hC hQ hE.1 hE.2 ht hB hS1 hce hv hcl) (fun r u t H1 locs1 ht hvm hp1 hB hz hk1 hS1 => ?_)
  obtain ⟨ex', hI'⟩ := hB
  rw [ht] at hI'
  exact kk r u hp1 ls H1 locs1 ex' hl hI' hS1
theorem a_callVvx {y : MethodName} {C : String} {bytes : ByteArray} {maxL n' mc ms N mcR msR index ci p Nf m : Nat} {As : List Value} {T : u_T} {F : (Nat → Int32) → List Value} {P : Int32 → aS → Prop} {Qc : Array Value → State → Outcome → State → Prop} {X : String → aS → Prop} {mcE msE : Nat}
    (hC : aOK f g cc nL own) (hR : f_R f = aR N mcR msR) (hQ : aEQ f g Qc X mcE msE) (hE : k + mc ≤ mcE ∧ n + ms ≤ msE) (hm : aVm y C bytes maxL none m) (hw : Cond.methodLink own index y ∈ lw_tbl) (hc : aCl ci C T Nf) (hp : aOb g p ci F) (hfit : aFit maxL n' mc ms k n N mcR msR) {rest : List Value} (dg : decode cc pc = .ok (.invokevirtual index, 3))
    (hM : aMv (f_l f) g y (aWs y bytes maxL none) n' mc ms (.ref (gAd g p) :: As) q P X) (hst : st = As.reverse ++ .ref (gAd g p) :: rest) (hn : As.length = m) (hL : L.length = nL) (hrest : (rest.map fun v => v.category).sum ≤ 8) (kk : ∀ (q' : aS), P 0 q' → AW f g (pc + 3) L rest q' (k + mc) (n + ms)) : AW f g pc L st q k n := by
  intro ls H locs ex hl hI hS
  subst hst
  have hf := hfit.loc
  rw [← hR] at hf
  have hrun := vx_runV (rest := rest) (g := F0 (f_m f) pc ls (As.reverse ++ .ref (gAd g p) :: rest)) (locs := locs) (meth := f_me f) (below := f_b f) (e := f_e f) (cells := k) (slots := n) (S := (⟨hC.x, hC.b, hC.ml, hC.o, hC.ts⟩ : CallFix (f_p f) (f_m f) (f_c f) cc nL (f_s f) (f_a f) TW own)) hM (cwV m hC.ts (good_V hm hw) rfl rfl rfl hm.2.2.2.2 hf) (a_preV hC hI hS hc hp As) rfl hn (hl.1.trans hL) rfl (lv_room hrest) dg (by rw [hR]; exact ⟨hfit.2.2.1, hfit.2.2.2⟩)
  refine vx_callv hrun hS (fun _ _ h => h) (fun _ h => h) (fun _ _ h => h) (fun E ce q9 u t H1 locs1 ht hvm _ hB _ _ hS1 hce hv hcl => a_outs hC hQ hE.1 hE.2 ht hB hS1 hce hv hcl) (fun u t H1 locs1 ht hvm hp1 hB hz hk1 hS1 => ?_)
  obtain ⟨ex', hI'⟩ := hB
  rw [ht] at hI'
  exact kk u hp1 ls H1 locs1 ex' hl hI' hS1
theorem AW.widen {k2 n2 : Nat} (h1 : k ≤ k2) (h2 : n ≤ n2) (kk : AW f g pc L st q k2 n2) : AW f g pc L st q k n := fun ls H locs ex hl hI hS => W.widen h1 h2 (kk ls H locs ex hl hI hS)
/-! constants -/
theorem a_gets (hC : aOK f g cc nL own) {C d nm : String} {v : Value} {index : Nat} (hZ : va_Z C nm d v (gA g) (f_s f) (f_s f).heap) (hw : Cond.fieldLink own index C nm d ∈ lw_tbl) (dg : decode cc pc = .ok (.getstatic index, 3)) (kk : AW f g (pc + 3) L (v :: st) q k n) : AW f g pc L st q k n := fun ls H locs ex hl hI hS =>
  va_gets hC.x hC.b hZ hS hC.o (hC.w hw rfl) (fun _ h => h) dg (kk ls H locs ex hl hI hS)
theorem a_getsN (hC : aOK f g cc nL own) {C d nm host : String} {v : Value} {index : Nat} (hZ : va_Z C nm d v (gA g) (f_s f) (f_s f).heap) (hw : va_Nw (.fieldLinkNest own index C nm d host) (f_s f)) (dg : decode cc pc = .ok (.getstatic index, 3)) (kk : AW f g (pc + 3) L (v :: st) q k n) : AW f g pc L st q k n := fun ls H locs ex hl hI hS =>
  va_getsN hC.x hC.b hZ hS hC.o (hw.use rfl) (fun _ h => h) dg (kk ls H locs ex hl hI hS)
theorem a_tini (hC : aOK f g cc nL own) {t N : Nat} {fv : Nat → Value} (hT : va_T .int t N fv (gA g) (f_s f) (f_s f).heap) {i : Int32} (hin : vp_in i N) (dg : decode cc pc = .ok (.iaload, 1)) (kk : AW f g (pc + 1) L (fv i.toNatClampNeg :: st) q k n) : AW f g pc L (.int i :: .ref t :: st) q k n := fun ls H locs ex hl hI hS =>
  va_ti hC.x hC.b hT hS hin rfl dg (kk ls H locs ex hl hI hS)
theorem a_tinb (hC : aOK f g cc nL own) {t N : Nat} {fv : Nat → Value} (hT : va_T .byte t N fv (gA g) (f_s f) (f_s f).heap) {i : Int32} (hin : vp_in i N) (dg : decode cc pc = .ok (.baload, 1)) (kk : AW f g (pc + 1) L (fv i.toNatClampNeg :: st) q k n) : AW f g pc L (.int i :: .ref t :: st) q k n := fun ls H locs ex hl hI hS =>
  va_tb hC.x hC.b hT hS hin rfl dg (kk ls H locs ex hl hI hS)
theorem a_tinq (hC : aOK f g cc nL own) {t N : Nat} {C : String} {fv : Nat → Value} (hT : va_T (.object C) t N fv (gA g) (f_s f) (f_s f).heap) {i : Int32} (hin : vp_in i N) {a : Nat} (ha : fv i.toNatClampNeg = .ref a) (dg : decode cc pc = .ok (.aaload, 1)) (kk : AW f g (pc + 1) L (.ref a :: st) q k n) : AW f g pc L (.int i :: .ref t :: st) q k n := fun ls H locs ex hl hI hS =>
  vb_tq hC.x hC.b hT hS hin ha dg (kk ls H locs ex hl hI hS)
theorem a_tlen (hC : aOK f g cc nL own) {t N : Nat} {ty : FieldType} {fv : Nat → Value} (hT : va_T ty t N fv (gA g) (f_s f) (f_s f).heap) (dg : decode cc pc = .ok (.arraylength, 1)) (kk : AW f g (pc + 1) L (.int (Int32.ofNat N) :: st) q k n) : AW f g pc L (.ref t :: st) q k n := fun ls H locs ex hl hI hS =>
  va_tlen hC.x hC.b hT hS rfl dg (kk ls H locs ex hl hI hS)
/-- a field of a constant object -/
theorem a_getf (hC : aOK f g cc nL own) {o d nm : String} {v : Value} {t index : Nat} (hE : va_OF o nm d v t (gA g) (f_s f) (f_s f).heap) (hw : Cond.fieldLink own index o nm d ∈ lw_tbl) (dg : decode cc pc = .ok (.getfield index, 3)) (kk : AW f g (pc + 3) L (v :: st) q k n) : AW f g pc L (.ref t :: st) q k n := fun ls H locs ex hl hI hS =>
  vk_getf hC.x hC.b hE hS hC.o (hC.w hw rfl) (fun _ h => h) dg (kk ls H locs ex hl hI hS)
end CORE3
/-- a plain method by its own, out of one that may throw what can't be -/
theorem aMet_of {l : Launch} {y : MethodName} {ws : List Cond} {rm : Room} {Pc : Array Value → State → Prop} {Qc : Array Value → State → Outcome → State → Prop} {XC : String → State → State → Prop} {mc ms : Nat} {free : Addr → Prop} (h : vx_Met l y ws rm Pc Qc XC mc ms free) (hx : ∀ E s t, ¬ XC E s t) : Met l y ws rm Pc Qc mc ms free := by
  intro p e h1 h2 h3 s m args below h4 h5 h6 h7
  obtain ⟨n, o, a1, a2, a3, a4⟩ := h p e h1 h2 h3 s m args below h4 h5 h6 h7
  refine ⟨n, o, a1, a2, a3, ?_⟩
  rcases a4 with a4 | ⟨q, -, E, ce, L, hxe, -⟩
  · exact a4
  · exact (hx _ _ _ hxe).elim
theorem aX_no {g : aG} : ∀ (E : String) (s t : State), ¬ aX g (fun _ _ => False) E s t := fun _ _ _ ⟨_, _, h, _⟩ => h.1
/-! the kinds of orders -/
section KIND
variable {f : aF} {g : aG} {cc : ByteArray} {nL : Nat} {own : String} {pc : Nat} {L : List (Option Value)} {st : List Value} {q : aS} {k n : Nat}
theorem eF_ord {i : Nat} (hi : i < 10) : ([0, 1, 2, 3, 4, 5, 6, 7, 8, 9] : List Int32).getD i 0 = nI i := by
  rcases (show i = 0 ∨ i = 1 ∨ i = 2 ∨ i = 3 ∨ i = 4 ∨ i = 5 ∨ i = 6 ∨ i = 7 ∨ i = 8 ∨ i = 9 by omega) with rfl | rfl | rfl | rfl | rfl | rfl | rfl | rfl | rfl | rfl <;> rfl
def kNum (i : Nat) : Int32 := ([1, 2, 2, 2, 1, 2, 3, 2, 1, 0] : List Int32).getD i 0
def kDig (i : Nat) : Int32 := ([1, 1, 2, 1, 1, 1, 1, 1, 1, 0] : List Int32).getD i 0
theorem a_kget (hX : isX g) (hC : aOK f g cc nL own) {i : Nat} (hi : i < 10) {p : String × String × String × List Int32} (hp : p ∈ eF) {index : Nat} (hw : Cond.fieldLink own index p.1 p.2.1 p.2.2.1 ∈ lw_tbl) {v : Int32} (hv : p.2.2.2.getD i 0 = v) (dg : decode cc pc = .ok (.getfield index, 3)) (kk : AW f g (pc + 3) L (.int v :: st) q k n) : AW f g pc L (.ref (gK g i) :: st) q k n :=
  a_getf hC (((hX.en hC.en).2.2.1.1 i hi).2.2 p hp) hw dg (by rw [hv]; exact kk)
theorem a_kword (hX : isX g) (hC : aOK f g cc nL own) {i : Nat} (hi : i < 10) {index : Nat} (hw : Cond.fieldLink own index "EchoCouncil$OrderKind" "word" "Ljava/lang/String;" ∈ lw_tbl) (dg : decode cc pc = .ok (.getfield index, 3)) (kk : AW f g (pc + 3) L (.ref (gK g (20 + i)) :: st) q k n) : AW f g pc L (.ref (gK g i) :: st) q k n :=
  a_getf hC ((hX.en hC.en).2.2.2.1 i hi) hw dg kk
theorem a_kst (hX : isX g) (hC : aOK f g cc nL own) (i : Nat) (hi : i < 10) {nm : String} (hn : eNm.getD i "" = nm) {index : Nat} (hw : Cond.fieldLink own index "EchoCouncil$OrderKind" nm "LEchoCouncil$OrderKind;" ∈ lw_tbl) (dg : decode cc pc = .ok (.getstatic index, 3)) (kk : AW f g (pc + 3) L (.ref (gK g i) :: st) q k n) : AW f g pc L st q k n :=
  a_gets hC (by rw [← hn]; exact ((hX.en hC.en).2.2.1.1 i hi).1) hw dg kk
theorem a_sw (hX : isX g) (hC : aOK f g cc nL own) {index : Nat} (hw : Cond.fieldLink own index "EchoCouncil$1" "$SwitchMap$EchoCouncil$OrderKind" "[I" ∈ lw_tbl) (dg : decode cc pc = .ok (.getstatic index, 3)) (kk : AW f g (pc + 3) L (.ref (gK g 11) :: st) q k n) : AW f g pc L st q k n :=
  a_gets hC (hX.en hC.en).2.2.2.2.2.2.1 hw dg kk
theorem a_swi (hX : isX g) (hC : aOK f g cc nL own) {i : Nat} (hi : i < 10) (dg : decode cc pc = .ok (.iaload, 1)) (kk : AW f g (pc + 1) L (.int (nI (i + 1)) :: st) q k n) : AW f g pc L (.int (nI i) :: .ref (gK g 11) :: st) q k n :=
  a_tini hC (hX.en hC.en).2.2.2.2.2.2.2.1 (vp_in_nI hi (by decide)) dg (by rw [nI_clamp (show i < 2 ^ 31 by omega)]; exact kk)
theorem a_kinds (hX : isX g) (hC : aOK f g cc nL "EchoCouncil$OrderText") (dg : decode cc pc = .ok (.getstatic 51, 3)) (kk : AW f g (pc + 3) L (.ref (gK g 10) :: st) q k n) : AW f g pc L st q k n :=
  a_getsN hC (hX.en hC.en).2.2.2.2.1 (hX.en hC.en).2.2.2.2.2.2.2.2 dg kk
theorem a_kindsi (hX : isX g) (hC : aOK f g cc nL own) {i : Int32} (hin : vp_in i 10) (dg : decode cc pc = .ok (.aaload, 1)) (kk : AW f g (pc + 1) L (.ref (gK g i.toNatClampNeg) :: st) q k n) : AW f g pc L (.int i :: .ref (gK g 10) :: st) q k n :=
  a_tinq hC (hX.en hC.en).2.2.2.2.2.1 hin rfl dg kk
theorem a_kindsl (hX : isX g) (hC : aOK f g cc nL own) (dg : decode cc pc = .ok (.arraylength, 1)) (kk : AW f g (pc + 1) L (.int 10 :: st) q k n) : AW f g pc L (.ref (gK g 10) :: st) q k n :=
  a_tlen hC (hX.en hC.en).2.2.2.2.2.1 dg kk
end KIND
end
section
/-! Enum.ordinal of a kind -/
theorem dord_0 : decode cJx29ce0_ordinal_8abf5 0 = .ok (.aload_n 0, 1) := by decide +kernel
theorem dord_1 : decode cJx29ce0_ordinal_8abf5 1 = .ok (.getfield 7, 3) := by decide +kernel
theorem dord_4 : decode cJx29ce0_ordinal_8abf5 4 = .ok (.ireturn, 1) := by decide +kernel
theorem t_ord {l : Launch} {g : aG} (hX : isX g) (hl : l.stackTraces = false) {i : Nat} (hi : i < 10) (q : aS) (P : Int32 → aS → Prop) (h : P (nI i) q) : aMi l g yJx29ce0_ordinal_8abf5 (aWs yJx29ce0_ordinal_8abf5 cJx29ce0_ordinal_8abf5 1 (some .int)) 0 0 0 [.ref (gK g i)] q P (fun _ _ => False) := by
  refine aMi_of RJx29ce0 ⟨by decide +kernel, rfl⟩ (cat_all rfl) (Nat.le_of_ble_eq_true rfl) hl hX.cl (fun f hR hC hE => ?_)
  show AW f g 0 [some (.ref (gK g i))] [] q 0 0
  refine a_aload_n (pc := 0) hC dord_0 rfl ?_
  refine a_kget (pc := 1) hX hC hi (p := eF[0]) (by decide) tw_1987 (v := nI i) (eF_ord hi) dord_1 ?_
  exact a_iret (pc := 4) hC hE h (Nat.le_refl _) (Nat.le_refl _) dord_4
section ORD
variable {f : aF} {g : aG} {cc : ByteArray} {nL : Nat} {own : String} {pc : Nat} {L : List (Option Value)} {st : List Value} {q : aS} {k n : Nat}
theorem a_ord (hX : isX g) (hC : aOK f g cc nL "EchoCouncil") {N mcR msR : Nat} (hR : f_R f = aR N mcR msR) {i : Nat} (hi : i < 10) (hL : L.length = nL) (hN : 1 ≤ N ∧ k ≤ mcR ∧ n ≤ msR) (hrest : (st.map fun v => v.category).sum ≤ 8) (dg : decode cc pc = .ok (.invokevirtual 436, 3)) (kk : AW f g (pc + 3) L (.int (nI i) :: st) q k n) : AW f g pc L (.ref (gK g i) :: st) q k n := by
  intro ls H locs ex hl hI hS
  have hg : GoodIn TW (va_wsU "EchoCouncil" 436 "EchoCouncil$OrderKind" "java/lang/Enum" ⟨"EchoCouncil$OrderKind", "ordinal", "()I"⟩ yJx29ce0_ordinal_8abf5 (aWs yJx29ce0_ordinal_8abf5 cJx29ce0_ordinal_8abf5 1 (some .int))) := by
    intro w h
    refine good_TW ?_
    rcases List.mem_append.mp h with h | h
    · simp only [List.mem_cons, List.not_mem_nil, or_false] at h
      rcases h with rfl | rfl | rfl | rfl | rfl
      · exact tk_w tw_452 rfl
      · exact tk_w tw_453 rfl
      · exact tk_w tw_455 rfl
      · exact tk_w tw_456 rfl
      · exact tk_w tw_8 rfl
    · rcases List.mem_cons.mp h with rfl | h
      · exact tk_w tw_457 rfl
      · exact h
  have hf : (aR 0 0 0).frames + 1 ≤ (f_R f).frames ∧ 8 + (1 + 11) + (aR 0 0 0).locals ≤ (f_R f).locals := by
    rw [hR]
    refine ⟨hN.1, ?_⟩
    show 8 + (1 + 11) + 60 * 0 ≤ 60 * N
    omega
  have hrun := va_runU (rest := st) (As := []) (g := F0 (f_m f) pc ls (([] : List Value).reverse ++ .ref (gK g i) :: st)) (locs := locs) (meth := f_me f) (below := f_b f) (e := f_e f) (cells := k) (slots := n) (S := (⟨hC.x, hC.b, hC.ml, hC.o, hC.ts⟩ : CallFix (f_p f) (f_m f) (f_c f) cc nL (f_s f) (f_a f) TW "EchoCouncil")) (aMet_of (t_ord (l := f_l f) hX hC.tr hi q (fun r u => r = nI i ∧ u = q) ⟨rfl, rfl⟩) aX_no) (va_cwU 0 hC.ts hg rfl rfl rfl rfl (by decide +kernel) hf)
    ⟨aBlind hC.cl _ q, va_recvE (hX.en hC.en).2.2.1 hi hS, fun U hU hW => ⟨rfl, aWd_of hC hI hS hU hW⟩⟩ rfl rfl (hl.1.trans hL) rfl (lv_room hrest) dg (by rw [hR]; exact ⟨hN.2.1, hN.2.2⟩)
  refine va_calli hrun hS (fun _ _ h => h) (fun _ h => h) (fun r u t H1 locs1 ht hvm hp1 hB hz hk1 hS1 => ?_)
  obtain ⟨ex', hI'⟩ := hB
  obtain ⟨rfl, rfl⟩ := hp1
  rw [ht] at hI'
  exact kk ls H1 locs1 ex' hl hI' hS1
end ORD
end
section
/-! 'throw new NoSuchElementException(text)': her constructor's link stands at 13, not at 7 as the kit's chain has it. The rows below follow the library's for the other classes (JvmDerived/BundleOwnThrow.lean, laws/EXCEPTIONS), with the first link by itself; of the cell they say its class alone. -/
def nseN : String := "java/util/NoSuchElementException"
def nseC : ByteArray := prog_41_method_4_code
theorem nse_0 : decode nseC 0 = .ok (.aload_n 0, 1) := by decide +kernel
theorem nse_1 : decode nseC 1 = .ok (.aload_n 1, 1) := by decide +kernel
theorem nse_2 : decode nseC 2 = .ok (.invokespecial 13, 3) := by decide +kernel
theorem nse_5 : decode nseC 5 = .ok (.return_, 1) := by decide +kernel
def nseT (own : String) (ic : Nat) : List Cond :=
  [.methodLink own ic (Bundle.initS nseN), .instantiable nseN 6, .castable nseN nseN, .selects nseN Bundle.tFill0 Bundle.tFill0, .selects nseN Bundle.tFill Bundle.tFill,
   .lays nseN Bundle.tN "cause" "Ljava/lang/Throwable;", .lays nseN Bundle.tN "stackTrace" Bundle.steD, .lays nseN Bundle.tN "suppressedExceptions" Bundle.listD, .lays nseN Bundle.tN "detailMessage" "Ljava/lang/String;",
   .isRef (.static Bundle.tN "UNASSIGNED_STACK" Bundle.steD), .isRef (.static Bundle.tN "SUPPRESSED_SENTINEL" Bundle.listD),
   .fieldLink Bundle.tN 198 Bundle.tN "backtrace" "Ljava/lang/Object;", .lays Bundle.tN Bundle.tN "backtrace" "Ljava/lang/Object;", .lays nseN Bundle.tN "backtrace" "Ljava/lang/Object;"]
def nseW (own : String) (ic : Nat) : List Cond :=
  Bundle.throwableAtoms ++ (Bundle.throwableSAtoms ++ (Bundle.passSAtoms nseN "java/lang/RuntimeException" 13 nseC ++ (Bundle.chainSAtoms "java/lang/RuntimeException" ["java/lang/Exception"] ++ nseT own ic)))
theorem nseW_a {own : String} {ic : Nat} {w : Cond} (h : w ∈ Bundle.throwableAtoms) : w ∈ nseW own ic := List.mem_append_left _ h
theorem nseW_b {own : String} {ic : Nat} {w : Cond} (h : w ∈ Bundle.throwableSAtoms) : w ∈ nseW own ic := List.mem_append_right _ (List.mem_append_left _ h)
theorem nseW_c {own : String} {ic : Nat} {w : Cond} (h : w ∈ Bundle.passSAtoms nseN "java/lang/RuntimeException" 13 nseC) : w ∈ nseW own ic := List.mem_append_right _ (List.mem_append_right _ (List.mem_append_left _ h))
theorem nseW_d {own : String} {ic : Nat} {w : Cond} (h : w ∈ Bundle.chainSAtoms "java/lang/RuntimeException" ["java/lang/Exception"]) : w ∈ nseW own ic := List.mem_append_right _ (List.mem_append_right _ (List.mem_append_right _ (List.mem_append_left _ h)))
theorem nseW_e {own : String} {ic : Nat} {w : Cond} (h : w ∈ nseT own ic) : w ∈ nseW own ic := List.mem_append_right _ (List.mem_append_right _ (List.mem_append_right _ (List.mem_append_right _ h)))
section NSE
variable {p : Program} {l : Launch} {e : Env} {R : Room} {s : State} {m₀ : MethodId} {args : Array Value} {below : List Frame} {meth : Method} {c : Code} {W : State} {locs : List Loc} {cells slots : Nat}
set_option maxHeartbeats 4000000 in
theorem nse_ctor (X : Stand p l e R s m₀ args below meth c W locs cells slots) (hexec : p.tables.exec = Jvm.exec) (htr : e.platform.stackTraces = false) {own : String} {ic : Nat}
    (hown : s.vm.findClass own = some m₀.cls) (h : ∀ a ∈ nseW own ic, a.before args s = true)
    (hlocs : ∀ x ∈ locs, ∀ cell, s.heap[x.base]? = some cell → cell.vm.isStatics = false)
    {a : Addr} {cX : ClassId} {kX : Class} (hfoundX : s.vm.findClass nseN = some cX) (hkX : s.vm.classes[cX]? = some kX) (hcell : W.heap[a]? = some (freshCell cX kX)) (hnew : s.heap.size ≤ a)
    {msg : Value} (hmsg : msg.isRef = true)
    {g : JFrame} (hg : g.method = m₀) (hsize : g.locals.size = c.maxLocals) (hlocked : g.locked = none) (hentered : g.entered = []) {rest : List Value} (hstack : g.stack = msg :: .ref a :: .ref a :: rest)
    (hd6 : decode c.code g.pc = .ok (.invokespecial ic, 3)) (hd9 : decode c.code (g.pc + 3) = .ok (.athrow, 1)) (hout : ∀ x ∈ c.exceptionTable.toList, covers x (g.pc + 3) = false)
    (hRframes : 5 < R.frames) (hRlocals : 2 * g.monitorRoom + ((Value.ref a :: rest).map fun v => v.category).sum + (13 * 3 + 42) ≤ R.locals) (hlocks : meth.locks = false) :
    ∃ U : State, Steps p.tables e below (W.setTop g) U ∧ U.status = .running ∧ Ended U below (.threw a) ∧ s.WarmedH U.vm ∧ s.sameButNew ({ U with vm := s.vm } : State) locs cells slots ∧
      ∃ ce, U.heap[a]? = some ce ∧ ce.vm = .none ∧ s.vm.findClass nseN = some ce.cls := by
  have howns : e.platform.frameOwnsMonitors = true := by rw [X.admits.platform]
  have hfin : e.platform.finalization = false := by rw [X.admits.platform]
  have hpl : e.platform.magicAccessors = ({} : Platform).magicAccessors := by rw [X.admits.platform]
  have a' : ∀ x, x ∈ nseT own ic → x.holds args s none s [] = true := fun x hx => h x (nseW_e hx)
  obtain ⟨T, Z0, L, -, Y⟩ := ThrowableC.of_atoms (args := args) howns hfin hpl (fun x hx => h x (nseW_a hx))
  obtain ⟨Z, M, LZ, LM, hnZ⟩ := Init0T.ofS_atoms (args := args) hpl L Y (fun x hx => h x (nseW_b hx))
  obtain ⟨P1, L1, hP1m, hsup⟩ := PassC.ofS_atoms (args := args) (s := s) hpl (X := nseN) (Y := "java/lang/RuntimeException") (by decide +kernel) (by decide) nse_0 nse_1 nse_2 nse_5 (fun x hx => h x (nseW_c hx))
  obtain ⟨P2, Ps, hlen, L2, hL, hP2m, hlink2, hlink⟩ := Bundle.chainS (args := args) hpl hnZ ["java/lang/Exception"] "java/lang/RuntimeException" (by decide +kernel) (by decide +kernel) (fun x hx => h x (nseW_d hx))
  have hsup1 : P1.sup = P2.m := Option.some.inj (hsup.symm.trans hP2m)
  have hfound : s.vm.findClass nseN = some P1.m.cls := findClass_of_methodNamed hP1m
  cases Option.some.inj (hfoundX.symm.trans hfound)
  obtain ⟨c1, kX', hc1, hk, hord, -, -, hn6⟩ := Cond.instantiable_spec (a' (.instantiable nseN 6) (by simp [nseT]))
  cases Option.some.inj (hc1.symm.trans hfound)
  cases Option.some.inj (hkX.symm.trans hk)
  have hsel0 : selectMethod e.platform s.vm P1.m.cls T.fill0 = .method T.fill0 := by
    obtain ⟨c2, r2, m2, q1, q2, q3, q4, -⟩ := Cond.selects_spec (a' (.selects nseN Bundle.tFill0 Bundle.tFill0) (by simp [nseT]))
    cases Option.some.inj (q1.symm.trans hfound)
    cases Option.some.inj (q2.symm.trans (State.methodFound?_of_named Y.fill0 (by decide)))
    cases Option.some.inj (q3.symm.trans Y.fill0)
    rw [Launch.admits_selectMethod X.admits]; exact q4
  have hselF : selectMethod e.platform s.vm P1.m.cls T.fill = .method T.fill := by
    obtain ⟨c2, r2, m2, q1, q2, q3, q4, -⟩ := Cond.selects_spec (a' (.selects nseN Bundle.tFill Bundle.tFill) (by simp [nseT]))
    cases Option.some.inj (q1.symm.trans hfound)
    cases Option.some.inj (q2.symm.trans (State.methodFound?_of_named Y.fill (by decide)))
    cases Option.some.inj (q3.symm.trans Y.fill)
    rw [Launch.admits_selectMethod X.admits]; exact q4
  obtain ⟨cellS0, hcS0, hiss⟩ := Y.statics
  obtain ⟨u0, hu0⟩ := Cond.staticRefV Y.unassigned L.unassignedStatic L.statics hcS0 hiss (a' (.isRef (.static Bundle.tN "UNASSIGNED_STACK" Bundle.steD)) (by simp [nseT]))
  obtain ⟨sen, hsen⟩ := Cond.staticRefV Y.sentinel L.sentinelStatic L.statics hcS0 hiss (a' (.isRef (.static Bundle.tN "SUPPRESSED_SENTINEL" Bundle.listD)) (by simp [nseT]))
  obtain ⟨ci198, i198, fB, hk198, hg198, ha198, hsB, -, hnB, htB, hffB⟩ := Cond.ownField (t := .object "java/lang/Object") Y.found L.cls (by decide +kernel) (a' (.fieldLink Bundle.tN 198 Bundle.tN "backtrace" "Ljava/lang/Object;") (by simp [nseT])) (a' (.lays Bundle.tN Bundle.tN "backtrace" "Ljava/lang/Object;") (by simp [nseT])) e.platform hpl
  obtain ⟨cellS, hcS', heS, -, hkeep⟩ := X.same.2.2.2.2.2 T.aS cellS0 hcS0
  have hcellS : W.heap[T.aS]? = some cellS := hcS'
  have hout' : ∀ i, (⟨T.aS, i⟩ : Loc) ∉ locs := fun i hmem => by
    have := hlocs _ hmem cellS0 hcS0
    rw [hiss] at this; cases this
  have hknownS : cellS.vm ≠ .unknown := by
    rw [heS]; intro hu
    rw [show cellS0.vm = .unknown from hu] at hiss
    cases hiss
  have hneS : T.aS ≠ a := Nat.ne_of_lt (Nat.lt_of_lt_of_le (Array.getElem?_eq_some_iff.mp hcS0).1 hnew)
  obtain ⟨iM, hffM⟩ := Y.msg
  obtain ⟨tyC, dC, hdC, hdnC⟩ := Cond.laysAt hfound hk Y.cause (a' (.lays nseN Bundle.tN "cause" "Ljava/lang/Throwable;") (by simp [nseT]))
  obtain ⟨tyS, dS, hdS, hdnS⟩ := Cond.laysAt hfound hk Y.stack (a' (.lays nseN Bundle.tN "stackTrace" Bundle.steD) (by simp [nseT]))
  obtain ⟨tyP, dP, hdP, hdnP⟩ := Cond.laysAt hfound hk Y.supp (a' (.lays nseN Bundle.tN "suppressedExceptions" Bundle.listD) (by simp [nseT]))
  obtain ⟨tyM, dM, hdM, hdnM⟩ := Cond.laysAt hfound hk hffM (a' (.lays nseN Bundle.tN "detailMessage" "Ljava/lang/String;") (by simp [nseT]))
  obtain ⟨tyB, dB, hdB, hdnB⟩ := Cond.laysAt hfound hk hffB (a' (.lays nseN Bundle.tN "backtrace" "Ljava/lang/Object;") (by simp [nseT]))
  have bC := Cond.laysApart hdB hdC hdnB hdnC (by rw [hnB, Y.causeName]; decide)
  have bS := Cond.laysApart hdB hdS hdnB hdnS (by rw [hnB, Y.stackName]; decide)
  have bP := Cond.laysApart hdB hdP hdnB hdnP (by rw [hnB, Y.suppName]; decide)
  have hskip : SkipFacts T e.platform s (fun u => u) u0 ((preparedCellV T.toThrowableT (freshCell P1.m.cls kX) a u0 sen).withEntry W.cur) :=
    ⟨{ ci198 := ci198, i198 := i198, fBack := fB }, ⟨hk198, hg198, ha198, hsB⟩, by
      have := fresh_default (c := P1.m.cls) tyB
      rw [htB] at this
      simpa [preparedCellV, Cell.setSlot, Cell.withEntry, Array.getElem?_setIfInBounds, bC, bS, bP, bC.symm, bS.symm, bP.symm, defaultValue] using this, fun _ _ => rfl⟩
  obtain ⟨tm, methC, cdC, kC, vm₁, hnC, -, -, -, -, -, -, -, hW₁, st1⟩ := Steps.initColdS (tb := p.tables) (e := e) (below := below) (s := s) (U := W) X.here hexec X.warmed hpl hown (t := Bundle.initS nseN) rfl rfl (by decide)
    (a' (.methodLink own ic (Bundle.initS nseN)) (by simp [nseT])) (h (.instanceMethod (Bundle.initS nseN)) (nseW_c (by simp [Bundle.passSAtoms]))) (bytes := nseC) (maxL := 2) (h (.code (Bundle.initS nseN) nseC 2 none) (nseW_c (by simp [Bundle.passSAtoms])))
    (f := g) hg (a := a) (msg := msg) (rest := .ref a :: rest) hstack hd6
  cases Option.some.inj (hnC.symm.trans hP1m)
  have X₁ := X.noted hW₁
  obtain ⟨vm₂, X₂, st2⟩ := X₁.ctorMessageOffV hexec (g := { g with stack := .ref a :: rest }) hg hsize T L Z LZ M LM (P1 :: P2 :: Ps)
    (fun P hP => by rcases List.mem_cons.mp hP with rfl | hP; exact L1; rcases List.mem_cons.mp hP with rfl | hP; exact L2; exact hL P hP) ⟨hsup1, hlink2, hlink⟩ (u0 := u0) (sen := sen) (self := a) hmsg (cell := freshCell P1.m.cls kX) (cellS := cellS)
    hcell (fun _ => by simp) (by simp) rfl rfl hsel0 hselF hcellS hneS hknownS (by rw [hkeep _ (hout' _)]; exact hu0) (by rw [hkeep _ (hout' _)]; exact hsen)
    (Takes.of_laid hk hord tyC (by rw [Y.causeType]; rfl)) (Takes.of_laid hk hord tyS (by rw [Y.stackType]; exact fits_refV_array _ u0)) (Takes.of_laid hk hord tyP (by rw [Y.suppType]; exact fits_refV_object _ sen))
    (Takes.of_laid hk hord tyM (by rw [Y.msgType]; exact fits_refV_object _ ⟨msg, hmsg⟩)) Y.objLocals hskip htr [] hd6
    (by simp only [List.length_cons, hlen, List.length_nil]; omega) (by simp only [List.length_cons, hlen, List.length_nil]; exact hRlocals)
  obtain ⟨hwalk, hrun, hended, hWU, hsame⟩ := X₂.athrowLeaves hexec (g := { g with stack := .ref a :: rest, pc := g.pc + 3 }) hg hlocked hentered hout (a := a) (rest := rest) rfl hd9
  have hlt : a < ((W.setVm vm₁).setVm vm₂).heap.size := (Array.getElem?_eq_some_iff.mp hcell).1
  have hU := heapAt_setCell_self (s := (W.setVm vm₁).setVm vm₂) (plainBareV T.toThrowableT (freshCell P1.m.cls kX) a u0 sen msg) hlt
  refine ⟨_, st1 _ (fun acts => ?_), hrun, hended, hWU, hsame.weaken (fun y hy hlt' => ?_) (Nat.le_refl _) (Nat.le_refl _), _, hU, rfl, hfound⟩
  · rw [doInvoke_state]
    exact st2 _ hwalk
  · rcases List.mem_append.mp hy with h1 | h1
    · exact h1
    · exfalso
      have hb : y.base = a := by
        simp only [List.mem_cons, List.not_mem_nil, or_false] at h1
        rcases h1 with rfl | rfl | rfl | rfl | rfl <;> rfl
      rw [hb] at hlt'
      exact Nat.not_lt.mpr hnew hlt'
end NSE
def nseA (own : String) (ic : Nat) : List Cond := (nseW own ic).filter vx_no
section NSE2
variable {p : Program} {l : Launch} {e : Env} {R : Room} {s : State} {m : MethodId} {args : Array Value} {below : List Frame} {meth : Method} {c : Code} {H : Heap} {locs : List Loc} {cells slots : Nat}
variable {free : Addr → Prop} {ls : Array Slot} {rest : List Value} {Qc : Array Value → State → Outcome → State → Prop} {XC : String → State → State → Prop}
/-- w2: 0 where the text's index is short (ldc), 1 where it is wide (ldc_w) -/
theorem nse_throw {cc : ByteArray} {pc : Nat} (hexec : p.tables.exec = Jvm.exec) (hb : c.code = cc) (hl : l.stackTraces = false) {own text : String} {ik is ic mc ms sa : Nat} {A : Nat → Prop} (w2 : Bool)
    (hown : s.vm.findClass own = some m.cls)
    (hk : (Cond.classLink own ik nseN).before args s = true) (hini : (Cond.initialized nseN).before args s = true) (hstr : vk_R own is text sa s) (hat : ∀ w ∈ nseA own ic, w.before args s = true)
    (hgood : ∀ w ∈ Cond.classLink own ik nseN :: Cond.initialized nseN :: nseA own ic, vx_ot w = true)
    (hU : vx_Zq Bundle.tN "UNASSIGNED_STACK" Bundle.steD A s s.heap) (hN : vx_Zq Bundle.tN "SUPPRESSED_SENTINEL" Bundle.listD A s s.heap) (hS : va_S A s.heap H locs) (hsize : ls.size = c.maxLocals)
    (d0 : decode cc pc = .ok (.new ik, 3)) (d3 : decode cc (pc + 3) = .ok (.dup, 1)) (d4 : decode cc (pc + 4) = .ok (if w2 then .ldc_w is else .ldc is, if w2 then 3 else 2)) (d6 : decode cc (pc + 6 + w2.toNat) = .ok (.invokespecial ic, 3)) (d9 : decode cc (pc + 9 + w2.toNat) = .ok (.athrow, 1))
    (hout : ∀ x ∈ c.exceptionTable.toList, covers x (pc + 9 + w2.toNat) = false)
    (hRframes : 5 < R.frames) (hRlocals : (rest.map fun v => v.category).sum + (13 * 3 + 43) ≤ R.locals) (hRcells : cells + 1 ≤ R.cells) (hRslots : slots + 6 ≤ R.slots) (hlocks : meth.locks = false)
    (hx : ∀ t : State, s.vm.Alike t.vm → H.size ≤ t.heap.size → (∀ q : Nat, q < H.size → t.heap[q]? = H[q]?) → XC nseN s t)
    (hf : ∀ z ∈ locs, free z.base) (hc : cells + 1 ≤ mc) (hs : slots + 6 ≤ ms) :
    W p l e R s m args below meth c H locs cells slots (vx_MQ below Qc XC args s mc ms free) (F0 m pc ls rest) := by
  intro T hT X
  have htr : e.platform.stackTraces = false := (show e.platform.stackTraces = l.stackTraces by rw [X.admits.platform]).trans hl
  have Y := vx_rebase X (R' := { frames := R.frames, locals := R.locals, cells := 1, slots := 6 }) (Nat.le_refl _) (Nat.le_refl _) hRcells hRslots
  obtain ⟨s', hA⟩ : ∃ z, z = (T.setVm s.vm).setFrames (.invoking m args :: below) := ⟨_, rfl⟩
  rw [← hA] at Y
  have hvm : s'.vm = s.vm := by rw [hA]; rfl
  have hhp : s'.heap = H := by rw [hA]; exact hT
  have hW0 : s.WarmedH s'.vm := by rw [hvm]; exact State.WarmedH.refl s
  have hat' : ∀ w ∈ nseA own ic, w.before args s' = true := fun w hw => vx_ot_at hW0 hvm.symm (hgood w (List.mem_cons_of_mem _ (List.mem_cons_of_mem _ hw))) (hat w hw)
  have hk' : (Cond.classLink own ik nseN).before args s' = true := vx_ot_at hW0 hvm.symm (hgood _ List.mem_cons_self) hk
  have hini' : (Cond.initialized nseN).before args s' = true := vx_ot_at hW0 hvm.symm (hgood _ (List.mem_cons_of_mem _ List.mem_cons_self)) hini
  have hU' : vx_Zq Bundle.tN "UNASSIGNED_STACK" Bundle.steD A s' s'.heap := by rw [hhp]; exact vx_Zq.moved hW0.alike (hU.kept hS.2.1)
  have hN' : vx_Zq Bundle.tN "SUPPRESSED_SENTINEL" Bundle.listD A s' s'.heap := by rw [hhp]; exact vx_Zq.moved hW0.alike (hN.kept hS.2.1)
  have h : ∀ w ∈ nseW own ic, w.before args s' = true := vx_own hat' (vx_isRefq hU'.1) (vx_isRefq hN'.1) hU'.2.word hN'.2.word
  have hown' : s'.vm.findClass own = some m.cls := by rw [hvm]; exact hown
  have hins : (Cond.instantiable nseN 6).before args s' = true := h _ (nseW_e (by simp [nseT]))
  obtain ⟨vm₁, cX, kX, hfX, hkX, -, -, X₁, st1⟩ := Y.newCold hexec (own := own) (C := nseN) (index := ik) (n := 6) hown' hk' hins hini'
    (g := F0 m pc ls rest) rfl (by rw [hb]; exact d0) (Nat.le_refl _) (Nat.le_refl _)
  generalize hT1 : (T.setVm vm₁).pushCell { cls := cX, slots := kX.instanceTypes.map defaultValue, vm := .none } = T1 at X₁ st1
  have hcat : (Value.ref T.heap.size).category = 1 := rfl
  have hcellA : T1.heap[T.heap.size]? = some (freshCell cX kX) := by rw [← hT1]; exact State.heap_pushCell_size _ _
  have d3' : decode c.code (pc + 3) = .ok (.dup, 1) := by rw [hb]; exact d3
  have hstr' : vk_R own is text sa s' := vk_R.warm hW0 hstr
  obtain ⟨U, hsteps, hrun, hend, hW, hsame, ce, hce, hOv, hOc⟩ := nse_ctor X₁ hexec htr (own := own) (ic := ic) hown' h (fun x hx => nomatch hx) hfX hkX hcellA (by rw [hhp, hT]; exact Nat.le_refl _) (msg := .ref sa) rfl
    (g := { method := m, pc := pc + 6 + w2.toNat, locals := ls, stack := .ref sa :: .ref T.heap.size :: .ref T.heap.size :: rest, locked := none }) rfl hsize rfl rfl (rest := rest) rfl
    (by rw [hb]; exact d6) (by rw [hb]; rw [show pc + 6 + w2.toNat + 3 = pc + 9 + w2.toNat by omega]; exact d9) (by intro x hx; rw [show pc + 6 + w2.toNat + 3 = pc + 9 + w2.toNat by omega]; exact hout x hx) hRframes (by simp only [List.map_cons, List.sum_cons, hcat]; omega) hlocks
  obtain ⟨f1, f2⟩ := vx_frame hsame
  rw [hhp] at f1 f2
  have hWs : s.WarmedH U.vm := State.WarmedH.trans hW0 hW
  have hcl : s.vm.findClass nseN = some ce.cls := by
    rw [hvm] at hOc
    exact hOc
  have hall : s.sameButNew ({ U with vm := s.vm } : State) locs mc ms := by
    subst hA
    obtain ⟨e1, e2⟩ := hsame
    rw [State.setFrames_setFrames] at e1
    have h2 : (T.setVm s.vm).sameButNew ({ U with vm := s.vm } : State) [] (0 + 1) (0 + 6) := ⟨e1, e2⟩
    have h3 := X.same.trans h2
    rw [List.append_nil] at h3
    exact h3.mono hc hs
  refine ⟨U, ?_, .threw T.heap.size, hrun, hend, Or.inr ⟨T.heap.size, rfl, nseN, ce, locs, hx U hWs.alike f1 (fun q hq => f2 q hq (fun z hz => nomatch hz)), hce, hOv, hcl, hWs, hall, hf⟩⟩
  refine st1 _ ?_
  show Steps p.tables e below (T1.setTop { method := m, pc := pc + 3, locals := ls, stack := .ref T.heap.size :: rest, locked := none }) _
  jvm_step X₁.here [X₁.here.top, hexec, d3', Value.category]
  cases w2 with
  | false =>
    exact X₁.ldcString hexec (own := own) (text := text) (index := is) (a := sa) hown' hstr'.1 hstr'.2
      (g := { method := m, pc := pc + 4, locals := ls, stack := .ref T.heap.size :: .ref T.heap.size :: rest, locked := none }) rfl (by rw [hb]; exact d4) _ hsteps
  | true =>
    exact X₁.ldcStringW hexec (own := own) (text := text) (index := is) (a := sa) hown' hstr'.1 hstr'.2
      (g := { method := m, pc := pc + 4, locals := ls, stack := .ref T.heap.size :: .ref T.heap.size :: rest, locked := none }) rfl (by rw [hb]; exact d4) _ hsteps
end NSE2
/-- all that a program decides of the throw of a NoSuchElementException by EchoCouncil -/
def nseOk (ik ic : Nat) : Prop :=
  Cond.classLink "EchoCouncil" ik nseN ∈ lw_tbl ∧ Cond.initialized nseN ∈ lw_tbl ∧ (∀ w ∈ (nseA "EchoCouncil" ic).filter goodWord, w ∈ lw_tbl) ∧
  (∀ w ∈ (nseA "EchoCouncil" ic).filter (fun w => !goodWord w), w ∈ Cond.castable nseN nseN :: sDec.map (fun x => Cond.declares (Bundle.initS x))) ∧
  (∀ w ∈ Cond.classLink "EchoCouncil" ik nseN :: Cond.initialized nseN :: nseA "EchoCouncil" ic, vx_ot w = true)
section NSE3
variable {f : aF} {g : aG} {cc : ByteArray} {nL : Nat} {own : String} {pc : Nat} {L : List (Option Value)} {st : List Value} {q : aS} {k n : Nat}
theorem a_throwN (w2 : Bool) (hX : isX g) (hC : aOK f g cc nL "EchoCouncil") {N mcR msR : Nat} (hR : f_R f = aR N mcR msR) {Qc : Array Value → State → Outcome → State → Prop} {X : String → aS → Prop} {mc ms : Nat} (hQ : aEQ f g Qc X mc ms) {ik is ic : Nat} {text : String} (ho : nseOk ik ic) (hm : (is, text) ∈ sMsg) (hL : L.length = nL) (hn : 8 ≤ N ∧ k + 1 ≤ mc ∧ n + 6 ≤ ms ∧ mc ≤ mcR ∧ ms ≤ msR) (hrest : (st.map fun v => v.category).sum ≤ 8)
    (d0 : decode cc pc = .ok (.new ik, 3)) (d3 : decode cc (pc + 3) = .ok (.dup, 1)) (d4 : decode cc (pc + 4) = .ok (if w2 then .ldc_w is else .ldc is, if w2 then 3 else 2)) (d6 : decode cc (pc + 6 + w2.toNat) = .ok (.invokespecial ic, 3)) (d9 : decode cc (pc + 9 + w2.toNat) = .ok (.athrow, 1)) (hp : X nseN q) : AW f g pc L st q k n := by
  intro ls H locs ex hl hI hS
  have hT := (hX.en hC.en).2.1
  obtain ⟨sa, hsa⟩ := hT.2.2.2 (is, text) hm
  have hE : nseN ∈ sExc := by decide +kernel
  have hat : ∀ w ∈ nseA "EchoCouncil" ic, w.before (f_a f) (f_s f) = true := vx_hat (B := Cond.castable nseN nseN :: sDec.map (fun x => Cond.declares (Bundle.initS x))) (fun w hw => hC.w (ho.2.2.1 w hw) (List.mem_filter.mp hw).2) ho.2.2.2.1 (fun w hw => by
    rcases List.mem_cons.mp hw with rfl | hw
    · exact (hT.2.2.1 nseN hE).1.use rfl
    · obtain ⟨x, hx, rfl⟩ := List.mem_map.mp hw
      exact ((hT.2.2.1 nseN hE).2 x hx).use rfl)
  rw [hQ.1]
  exact nse_throw hC.x hC.b hC.tr w2 hC.o (hC.w ho.1 rfl) (hC.w ho.2.1 rfl) hsa hat ho.2.2.2.2 hT.1 hT.2.1 hS (hl.1.trans (hL.trans hC.ml.symm)) d0 d3 d4 d6 d9 (fun x hx => (hQ.2 x hx).elim) (by rw [hR]; exact Nat.lt_of_lt_of_le (by decide) hn.1) (by rw [hR]; exact Nat.le_trans (Nat.add_le_add_right hrest _) (Nat.le_trans (by decide : 8 + (13 * 3 + 43) ≤ 60 * 8) (Nat.mul_le_mul_left 60 hn.1))) (by rw [hR]; exact Nat.le_trans hn.2.1 hn.2.2.2.1) (by rw [hR]; exact Nat.le_trans hn.2.2.1 hn.2.2.2.2) hC.lk (fun t _ h1 h2 => a_thrown hC hp hI hS t h1 h2) hS.2.2 hn.2.1 hn.2.2.1
end NSE3
theorem ex_204 : nseOk 204 208 := ⟨tw_848, tw_28, by decide +kernel, by decide +kernel, by decide +kernel⟩
end
section
theorem ex_127 : excOk 127 131 "java/lang/IllegalArgumentException" := ⟨by decide +kernel, tw_789, tw_27, by decide +kernel, by decide +kernel, by decide +kernel, by decide +kernel⟩
theorem ex_273 : excOk 273 277 "java/lang/IllegalStateException" := ⟨by decide +kernel, tw_1002, tw_29, by decide +kernel, by decide +kernel, by decide +kernel, by decide +kernel⟩
theorem ex_294 : excOk 294 298 "java/lang/UnsupportedOperationException" := ⟨by decide +kernel, tw_542, tw_22, by decide +kernel, by decide +kernel, by decide +kernel, by decide +kernel⟩
theorem ex_345 : excOk 345 349 "java/lang/IndexOutOfBoundsException" := ⟨by decide +kernel, tw_767, tw_25, by decide +kernel, by decide +kernel, by decide +kernel, by decide +kernel⟩
theorem ex_372 : excOk 372 374 "java/lang/ArithmeticException" := ⟨by decide +kernel, tw_1464, tw_35, by decide +kernel, by decide +kernel, by decide +kernel, by decide +kernel⟩
theorem mm_414 : (414, "this is refused") ∈ sMsg := List.mem_of_getElem? (i := 0) rfl
theorem mm_396 : (396, "there is no such room") ∈ sMsg := List.mem_of_getElem? (i := 1) rfl
theorem mm_129 : (129, "no such number of a room") ∈ sMsg := List.mem_of_getElem? (i := 2) rfl
theorem mm_401 : (401, "there is no such echo") ∈ sMsg := List.mem_of_getElem? (i := 3) rfl
theorem mm_156 : (156, "no such number of an echo") ∈ sMsg := List.mem_of_getElem? (i := 4) rfl
theorem mm_406 : (406, "there is no such singer") ∈ sMsg := List.mem_of_getElem? (i := 5) rfl
theorem mm_182 : (182, "no such number of a singer") ∈ sMsg := List.mem_of_getElem? (i := 6) rfl
theorem mm_408 : (408, "the singer is outside") ∈ sMsg := List.mem_of_getElem? (i := 7) rfl
theorem mm_206 : (206, "there are no rooms") ∈ sMsg := List.mem_of_getElem? (i := 8) rfl
theorem mm_226 : (226, "the echo is not let") ∈ sMsg := List.mem_of_getElem? (i := 9) rfl
theorem mm_234 : (234, "no such place in the order of rooms") ∈ sMsg := List.mem_of_getElem? (i := 10) rfl
theorem mm_236 : (236, "no such order of singers") ∈ sMsg := List.mem_of_getElem? (i := 11) rfl
theorem mm_242 : (242, "no such place in the order of singers") ∈ sMsg := List.mem_of_getElem? (i := 12) rfl
theorem mm_248 : (248, "no such place in the order of echoes") ∈ sMsg := List.mem_of_getElem? (i := 13) rfl
theorem mm_268 : (268, "the character cannot be in the input") ∈ sMsg := List.mem_of_getElem? (i := 14) rfl
theorem mm_275 : (275, "the input is full") ∈ sMsg := List.mem_of_getElem? (i := 15) rfl
theorem mm_288 : (288, "the text has a fault") ∈ sMsg := List.mem_of_getElem? (i := 16) rfl
theorem mm_296 : (296, "an order is refused") ∈ sMsg := List.mem_of_getElem? (i := 17) rfl
theorem mm_302 : (302, "no such depth") ∈ sMsg := List.mem_of_getElem? (i := 18) rfl
theorem mm_308 : (308, "nothing was refused") ∈ sMsg := List.mem_of_getElem? (i := 19) rfl
theorem mm_319 : (319, "there is no cause") ∈ sMsg := List.mem_of_getElem? (i := 20) rfl
theorem mm_347 : (347, "no such index in the line") ∈ sMsg := List.mem_of_getElem? (i := 21) rfl
theorem mm_370 : (370, "no such account") ∈ sMsg := List.mem_of_getElem? (i := 22) rfl
theorem mm_375 : (375, "there are no echoes") ∈ sMsg := List.mem_of_getElem? (i := 23) rfl
theorem mm_377 : (377, "there is no change to undo") ∈ sMsg := List.mem_of_getElem? (i := 24) rfl
theorem mm_388 : (388, "nothing was saved") ∈ sMsg := List.mem_of_getElem? (i := 25) rfl
end
section
theorem dJ0_isLatin1_aae02_0 : decode cJ0_isLatin1_aae02 0 = .ok (.getstatic 38, 3) := by decide +kernel
theorem dJ0_isLatin1_aae02_3 : decode cJ0_isLatin1_aae02 3 = .ok (.ifCond .eq 14, 3) := by decide +kernel
theorem dJ0_isLatin1_aae02_6 : decode cJ0_isLatin1_aae02 6 = .ok (.aload_n 0, 1) := by decide +kernel
theorem dJ0_isLatin1_aae02_7 : decode cJ0_isLatin1_aae02 7 = .ok (.getfield 15, 3) := by decide +kernel
theorem dJ0_isLatin1_aae02_10 : decode cJ0_isLatin1_aae02 10 = .ok (.ifCond .ne 7, 3) := by decide +kernel
theorem dJ0_isLatin1_aae02_13 : decode cJ0_isLatin1_aae02 13 = .ok (.iconst 1, 1) := by decide +kernel
theorem dJ0_isLatin1_aae02_14 : decode cJ0_isLatin1_aae02 14 = .ok (.goto 4, 3) := by decide +kernel
theorem dJ0_isLatin1_aae02_17 : decode cJ0_isLatin1_aae02 17 = .ok (.iconst 0, 1) := by decide +kernel
theorem dJ0_isLatin1_aae02_18 : decode cJ0_isLatin1_aae02 18 = .ok (.ireturn, 1) := by decide +kernel
theorem vm_J0_isLatin1_aae02 : aVm yJ0_isLatin1_aae02 RJ0 cJ0_isLatin1_aae02 1 (some .boolean) 0 := ⟨tw_1055, tw_1053, tw_1054, tw_13, rfl, by decide +kernel, by decide +kernel, by decide +kernel⟩
theorem dJ0_coder_7d493_0 : decode cJ0_coder_7d493 0 = .ok (.getstatic 38, 3) := by decide +kernel
theorem dJ0_coder_7d493_3 : decode cJ0_coder_7d493 3 = .ok (.ifCond .eq 10, 3) := by decide +kernel
theorem dJ0_coder_7d493_6 : decode cJ0_coder_7d493 6 = .ok (.aload_n 0, 1) := by decide +kernel
theorem dJ0_coder_7d493_7 : decode cJ0_coder_7d493 7 = .ok (.getfield 15, 3) := by decide +kernel
theorem dJ0_coder_7d493_10 : decode cJ0_coder_7d493 10 = .ok (.goto 4, 3) := by decide +kernel
theorem dJ0_coder_7d493_13 : decode cJ0_coder_7d493 13 = .ok (.iconst 1, 1) := by decide +kernel
theorem dJ0_coder_7d493_14 : decode cJ0_coder_7d493 14 = .ok (.ireturn, 1) := by decide +kernel
theorem vm_J0_coder_7d493 : aVm yJ0_coder_7d493 RJ0 cJ0_coder_7d493 1 (some .byte) 0 := ⟨tw_1046, tw_1044, tw_1045, tw_13, rfl, by decide +kernel, by decide +kernel, by decide +kernel⟩
theorem dJ0_length_8abf5_0 : decode cJ0_length_8abf5 0 = .ok (.aload_n 0, 1) := by decide +kernel
theorem dJ0_length_8abf5_1 : decode cJ0_length_8abf5 1 = .ok (.getfield 9, 3) := by decide +kernel
theorem dJ0_length_8abf5_4 : decode cJ0_length_8abf5 4 = .ok (.arraylength, 1) := by decide +kernel
theorem dJ0_length_8abf5_5 : decode cJ0_length_8abf5 5 = .ok (.aload_n 0, 1) := by decide +kernel
theorem dJ0_length_8abf5_6 : decode cJ0_length_8abf5 6 = .ok (.invokevirtual 335, 3) := by decide +kernel
theorem dJ0_length_8abf5_9 : decode cJ0_length_8abf5 9 = .ok (.ishr, 1) := by decide +kernel
theorem dJ0_length_8abf5_10 : decode cJ0_length_8abf5 10 = .ok (.ireturn, 1) := by decide +kernel
theorem vm_J0_length_8abf5 : aVm yJ0_length_8abf5 RJ0 cJ0_length_8abf5 1 (some .int) 0 := ⟨tw_1042, tw_1040, tw_1041, tw_13, rfl, by decide +kernel, by decide +kernel, by decide +kernel⟩
theorem dJ0_charAt_5068e_0 : decode cJ0_charAt_5068e 0 = .ok (.aload_n 0, 1) := by decide +kernel
theorem dJ0_charAt_5068e_1 : decode cJ0_charAt_5068e 1 = .ok (.invokevirtual 492, 3) := by decide +kernel
theorem dJ0_charAt_5068e_4 : decode cJ0_charAt_5068e 4 = .ok (.ifCond .eq 12, 3) := by decide +kernel
theorem dJ0_charAt_5068e_7 : decode cJ0_charAt_5068e 7 = .ok (.aload_n 0, 1) := by decide +kernel
theorem dJ0_charAt_5068e_8 : decode cJ0_charAt_5068e 8 = .ok (.getfield 9, 3) := by decide +kernel
theorem dJ0_charAt_5068e_11 : decode cJ0_charAt_5068e 11 = .ok (.iload_n 1, 1) := by decide +kernel
theorem dJ0_charAt_5068e_12 : decode cJ0_charAt_5068e 12 = .ok (.invokestatic 495, 3) := by decide +kernel
theorem dJ0_charAt_5068e_15 : decode cJ0_charAt_5068e 15 = .ok (.ireturn, 1) := by decide +kernel
theorem dJ0_charAt_5068e_16 : decode cJ0_charAt_5068e 16 = .ok (.aload_n 0, 1) := by decide +kernel
theorem dJ0_charAt_5068e_17 : decode cJ0_charAt_5068e 17 = .ok (.getfield 9, 3) := by decide +kernel
theorem dJ0_charAt_5068e_20 : decode cJ0_charAt_5068e 20 = .ok (.iload_n 1, 1) := by decide +kernel
theorem dJ0_charAt_5068e_21 : decode cJ0_charAt_5068e 21 = .ok (.invokestatic 498, 3) := by decide +kernel
theorem dJ0_charAt_5068e_24 : decode cJ0_charAt_5068e 24 = .ok (.ireturn, 1) := by decide +kernel
theorem vm_J0_charAt_5068e : aVm yJ0_charAt_5068e RJ0 cJ0_charAt_5068e 2 (some .char) 1 := ⟨tw_1051, tw_1049, tw_1050, tw_13, rfl, by decide +kernel, by decide +kernel, by decide +kernel⟩
theorem dJ1_charAt_3b067_0 : decode cJ1_charAt_3b067 0 = .ok (.iload_n 1, 1) := by decide +kernel
theorem dJ1_charAt_3b067_1 : decode cJ1_charAt_3b067 1 = .ok (.aload_n 0, 1) := by decide +kernel
theorem dJ1_charAt_3b067_2 : decode cJ1_charAt_3b067 2 = .ok (.arraylength, 1) := by decide +kernel
theorem dJ1_charAt_3b067_3 : decode cJ1_charAt_3b067 3 = .ok (.invokestatic 9, 3) := by decide +kernel
theorem dJ1_charAt_3b067_6 : decode cJ1_charAt_3b067 6 = .ok (.aload_n 0, 1) := by decide +kernel
theorem dJ1_charAt_3b067_7 : decode cJ1_charAt_3b067 7 = .ok (.iload_n 1, 1) := by decide +kernel
theorem dJ1_charAt_3b067_8 : decode cJ1_charAt_3b067 8 = .ok (.baload, 1) := by decide +kernel
theorem dJ1_charAt_3b067_9 : decode cJ1_charAt_3b067 9 = .ok (.sipush 255, 3) := by decide +kernel
theorem dJ1_charAt_3b067_12 : decode cJ1_charAt_3b067 12 = .ok (.iand, 1) := by decide +kernel
theorem dJ1_charAt_3b067_13 : decode cJ1_charAt_3b067 13 = .ok (.i2c, 1) := by decide +kernel
theorem dJ1_charAt_3b067_14 : decode cJ1_charAt_3b067 14 = .ok (.ireturn, 1) := by decide +kernel
theorem sm_J1_charAt_3b067 : aSm yJ1_charAt_3b067 cJ1_charAt_3b067 2 (some .char) 2 := ⟨tw_1058, tw_1057, tw_30, by decide +kernel, by decide +kernel, by decide +kernel⟩
theorem dJ0_checkIndex_df160_0 : decode cJ0_checkIndex_df160 0 = .ok (.iload_n 0, 1) := by decide +kernel
theorem dJ0_checkIndex_df160_1 : decode cJ0_checkIndex_df160 1 = .ok (.iload_n 1, 1) := by decide +kernel
theorem dJ0_checkIndex_df160_2 : decode cJ0_checkIndex_df160 2 = .ok (.getstatic 1053, 3) := by decide +kernel
theorem dJ0_checkIndex_df160_5 : decode cJ0_checkIndex_df160 5 = .ok (.invokestatic 1059, 3) := by decide +kernel
theorem dJ0_checkIndex_df160_8 : decode cJ0_checkIndex_df160 8 = .ok (.pop, 1) := by decide +kernel
theorem dJ0_checkIndex_df160_9 : decode cJ0_checkIndex_df160 9 = .ok (.return_, 1) := by decide +kernel
theorem sm_J0_checkIndex_df160 : aSm yJ0_checkIndex_df160 cJ0_checkIndex_df160 2 none 2 := ⟨tw_1061, tw_1060, tw_13, by decide +kernel, by decide +kernel, by decide +kernel⟩
theorem dJ3_checkIndex_8e157_0 : decode cJ3_checkIndex_8e157 0 = .ok (.iload_n 0, 1) := by decide +kernel
theorem dJ3_checkIndex_8e157_1 : decode cJ3_checkIndex_8e157 1 = .ok (.ifCond .lt 8, 3) := by decide +kernel
theorem dJ3_checkIndex_8e157_4 : decode cJ3_checkIndex_8e157 4 = .ok (.iload_n 0, 1) := by decide +kernel
theorem dJ3_checkIndex_8e157_5 : decode cJ3_checkIndex_8e157 5 = .ok (.iload_n 1, 1) := by decide +kernel
theorem dJ3_checkIndex_8e157_6 : decode cJ3_checkIndex_8e157 6 = .ok (.if_icmp .lt 10, 3) := by decide +kernel
theorem dJ3_checkIndex_8e157_9 : decode cJ3_checkIndex_8e157 9 = .ok (.aload_n 2, 1) := by decide +kernel
theorem dJ3_checkIndex_8e157_10 : decode cJ3_checkIndex_8e157 10 = .ok (.iload_n 0, 1) := by decide +kernel
theorem dJ3_checkIndex_8e157_11 : decode cJ3_checkIndex_8e157 11 = .ok (.iload_n 1, 1) := by decide +kernel
theorem dJ3_checkIndex_8e157_12 : decode cJ3_checkIndex_8e157 12 = .ok (.invokestatic 95, 3) := by decide +kernel
theorem dJ3_checkIndex_8e157_15 : decode cJ3_checkIndex_8e157 15 = .ok (.athrow, 1) := by decide +kernel
theorem dJ3_checkIndex_8e157_16 : decode cJ3_checkIndex_8e157 16 = .ok (.iload_n 0, 1) := by decide +kernel
theorem dJ3_checkIndex_8e157_17 : decode cJ3_checkIndex_8e157 17 = .ok (.ireturn, 1) := by decide +kernel
theorem sm_J3_checkIndex_8e157 : aSm yJ3_checkIndex_8e157 cJ3_checkIndex_8e157 3 (some .int) 3 := ⟨tw_1066, tw_1065, tw_31, by decide +kernel, by decide +kernel, by decide +kernel⟩
section STR
variable {f : aF} {g : aG} {cc : ByteArray} {nL : Nat} {own : String} {pc : Nat} {L : List (Option Value)} {st : List Value} {q : aS} {k n : Nat}
theorem isS.en {g : aG} (h : isS g) {U : State} {H : Heap} (e : gEn g U H) : EnvS (gA g) (gK g) U H := h.2 U H e
/-- a call of a method of a constant object -/
theorem a_callR {y : MethodName} {C : String} {bytes : ByteArray} {maxL n' mc ms N mcR msR index m t : Nat} {ty : FieldType} {As : List Value} {P : Int32 → aS → Prop}
    (hC : aOK f g cc nL own) (hR : f_R f = aR N mcR msR) (hm : aVm y C bytes maxL (some ty) m) (hw : Cond.methodLink own index y ∈ lw_tbl) (hrec : ∀ (H : Heap) (locs : List Loc), va_S (gA g) (f_s f).heap H locs → ∃ cell : Cell, H[t]? = some cell ∧ cell.vm.isStatics = false ∧ (f_s f).vm.findClass C = some cell.cls) (hfit : aFit maxL n' mc ms k n N mcR msR) {rest : List Value} (dg : decode cc pc = .ok (.invokevirtual index, 3))
    (hM : aMi (f_l f) g y (aWs y bytes maxL (some ty)) n' mc ms (.ref t :: As) q P (fun _ _ => False)) (hst : st = As.reverse ++ .ref t :: rest) (hn : As.length = m) (hL : L.length = nL) (hrest : (rest.map fun v => v.category).sum ≤ 8) (kk : ∀ (r : Int32) (q' : aS), P r q' → AW f g (pc + 3) L (.int r :: rest) q' (k + mc) (n + ms)) : AW f g pc L st q k n := by
  intro ls H locs ex hl hI hS
  subst hst
  have hf := hfit.loc
  rw [← hR] at hf
  have hrun := vx_runV (rest := rest) (g := F0 (f_m f) pc ls (As.reverse ++ .ref t :: rest)) (locs := locs) (meth := f_me f) (below := f_b f) (e := f_e f) (cells := k) (slots := n) (S := (⟨hC.x, hC.b, hC.ml, hC.o, hC.ts⟩ : CallFix (f_p f) (f_m f) (f_c f) cc nL (f_s f) (f_a f) TW own)) hM (cwV m hC.ts (good_V hm hw) rfl rfl rfl hm.2.2.2.2 hf) ⟨aBlind hC.cl _ q, hrec H locs hS, fun U hU hW => ⟨rfl, aWd_of hC hI hS hU hW⟩⟩ rfl hn (hl.1.trans hL) rfl (lv_room hrest) dg (by rw [hR]; exact ⟨hfit.2.2.1, hfit.2.2.2⟩)
  refine vx_calli hrun hS (fun _ _ h => h) (fun _ h => h) (fun _ _ h => h) (fun E ce q9 u t H1 locs1 ht hvm _ hB => hB.1.elim) (fun r u t H1 locs1 ht hvm hp1 hB hz hk1 hS1 => ?_)
  obtain ⟨ex', hI'⟩ := hB
  rw [ht] at hI'
  exact kk r u hp1 ls H1 locs1 ex' hl hI' hS1
theorem a_srec (hX : isS g) (hC : aOK f g cc nL own) {i : Nat} (hi : i < 11) : ∀ (H : Heap) (locs : List Loc), va_S (gA g) (f_s f).heap H locs → ∃ cell : Cell, H[gK g (20 + i)]? = some cell ∧ cell.vm.isStatics = false ∧ (f_s f).vm.findClass "java/lang/String" = some cell.cls := fun H locs hS => vk_recv (adK := fun i => gK g (20 + i)) (i := i) (hX.en hC.en).1 hi hS
end STR
theorem t_J0_isLatin1 {l : Launch} {g : aG} (hX : isS g) (hl : l.stackTraces = false) {i : Nat} (hi : i < 11) (q : aS) (P : Int32 → aS → Prop) (h : P 1 q) : aMi l g yJ0_isLatin1_aae02 (aWs yJ0_isLatin1_aae02 cJ0_isLatin1_aae02 1 (some .boolean)) 0 0 0 [.ref (gK g (20 + i))] q P (fun _ _ => False) := by
  refine aMi_of RJ0 ⟨by decide +kernel, rfl⟩ (cat_all rfl) (Nat.le_of_ble_eq_true rfl) hl hX.cl (fun f hR hC hE => ?_)
  show AW f g 0 [some (.ref (gK g (20 + i)))] [] q 0 0
  refine a_gets (pc := 0) hC (hX.en hC.en).2.1 tw_1047 dJ0_isLatin1_aae02_0 ?_
  refine a_if_eq (pc := 3) (tgt := 17) hC dJ0_isLatin1_aae02_3 (by decide) (fun c => absurd c (by decide)) (fun _ => ?_)
  refine a_aload_n (pc := 6) hC dJ0_isLatin1_aae02_6 rfl ?_
  refine a_getf (pc := 7) hC ((hX.en hC.en).1.1 i hi).2.1 tw_1323 dJ0_isLatin1_aae02_7 ?_
  refine a_if_ne (pc := 10) (tgt := 17) hC dJ0_isLatin1_aae02_10 (by decide) (fun c => absurd rfl c) (fun _ => ?_)
  refine a_iconst (pc := 13) hC dJ0_isLatin1_aae02_13 (v := 1) rfl ?_
  refine a_goto (pc := 14) (tgt := 18) hC dJ0_isLatin1_aae02_14 (by decide) ?_
  exact a_zret (pc := 18) hC hE rfl h (Nat.le_refl _) (Nat.le_refl _) dJ0_isLatin1_aae02_18
theorem t_J0_coder {l : Launch} {g : aG} (hX : isS g) (hl : l.stackTraces = false) {i : Nat} (hi : i < 11) (q : aS) (P : Int32 → aS → Prop) (h : P 0 q) : aMi l g yJ0_coder_7d493 (aWs yJ0_coder_7d493 cJ0_coder_7d493 1 (some .byte)) 0 0 0 [.ref (gK g (20 + i))] q P (fun _ _ => False) := by
  refine aMi_of RJ0 ⟨by decide +kernel, rfl⟩ (cat_all rfl) (Nat.le_of_ble_eq_true rfl) hl hX.cl (fun f hR hC hE => ?_)
  show AW f g 0 [some (.ref (gK g (20 + i)))] [] q 0 0
  refine a_gets (pc := 0) hC (hX.en hC.en).2.1 tw_1047 dJ0_coder_7d493_0 ?_
  refine a_if_eq (pc := 3) (tgt := 13) hC dJ0_coder_7d493_3 (by decide) (fun c => absurd c (by decide)) (fun _ => ?_)
  refine a_aload_n (pc := 6) hC dJ0_coder_7d493_6 rfl ?_
  refine a_getf (pc := 7) hC ((hX.en hC.en).1.1 i hi).2.1 tw_1323 dJ0_coder_7d493_7 ?_
  refine a_goto (pc := 10) (tgt := 14) hC dJ0_coder_7d493_10 (by decide) ?_
  exact a_zret (pc := 14) hC hE rfl h (Nat.le_refl _) (Nat.le_refl _) dJ0_coder_7d493_14
theorem t_strlen {l : Launch} {g : aG} (hX : isS g) (hl : l.stackTraces = false) {i : Nat} (hi : i < 11) (q : aS) (P : Int32 → aS → Prop) (h : P (Int32.ofNat (sLen.getD i 0)) q) : aMi l g yJ0_length_8abf5 (aWs yJ0_length_8abf5 cJ0_length_8abf5 1 (some .int)) 1 0 0 [.ref (gK g (20 + i))] q P (fun _ _ => False) := by
  refine aMi_of RJ0 ⟨by decide +kernel, rfl⟩ (cat_all rfl) (Nat.le_of_ble_eq_true rfl) hl hX.cl (fun f hR hC hE => ?_)
  show AW f g 0 [some (.ref (gK g (20 + i)))] [] q 0 0
  refine a_aload_n (pc := 0) hC dJ0_length_8abf5_0 rfl ?_
  refine a_getf (pc := 1) hC ((hX.en hC.en).1.1 i hi).2.2.1 tw_1322 dJ0_length_8abf5_1 ?_
  refine a_tlen (pc := 4) hC ((hX.en hC.en).1.1 i hi).2.2.2 dJ0_length_8abf5_4 ?_
  refine a_aload_n (pc := 5) hC dJ0_length_8abf5_5 rfl ?_
  refine a_callR (pc := 6) hC hR vm_J0_coder_7d493 tw_1043 (a_srec hX hC hi) ⟨Nat.le_of_ble_eq_true rfl, Nat.le_of_ble_eq_true rfl, Nat.le_of_ble_eq_true rfl, Nat.le_of_ble_eq_true rfl⟩ dJ0_length_8abf5_6 (t_J0_coder hX hC.tr hi q (fun r u => r = 0 ∧ u = q) ⟨rfl, rfl⟩) rfl rfl rfl (Nat.le_of_ble_eq_true rfl) (fun r q2 h2 => ?_)
  obtain ⟨rfl, rfl⟩ := h2
  refine a_ishr (pc := 9) hC dJ0_length_8abf5_9 ?_
  have e : ∀ x : Int32, x >>> ((0 : Int32) &&& 31) = x := fun x => by
    rw [show (0 : Int32) &&& 31 = 0 by decide]
    exact Int32.shiftRight_zero
  rw [e]
  exact a_iret (pc := 10) hC hE h (Nat.le_refl _) (Nat.le_refl _) dJ0_length_8abf5_10
theorem t_J3_checkIndex {l : Launch} {g : aG} (hcl : gCl g) (hl : l.stackTraces = false) (x y : Int32) (v : Value) (hv : v.category = 1) (q : aS) (P : Int32 → aS → Prop) (h0 : ¬ x < 0) (h1 : x < y) (h : P x q) : aMi l g yJ3_checkIndex_8e157 (aWs yJ3_checkIndex_8e157 cJ3_checkIndex_8e157 3 (some .int)) 0 0 0 [.int x, .int y, v] q P (fun _ _ => False) := by
  refine aMi_of RJ3 ⟨by decide +kernel, rfl⟩ (fun w hw => by
    simp only [List.mem_cons, List.not_mem_nil, or_false] at hw
    rcases hw with rfl | rfl | rfl
    · rfl
    · rfl
    · exact hv) (Nat.le_of_ble_eq_true rfl) hl hcl (fun f hR hC hE => ?_)
  show AW f g 0 [some (.int x), some (.int y), some v] [] q 0 0
  refine a_iload_n (pc := 0) hC dJ3_checkIndex_8e157_0 rfl ?_
  refine a_if_lt (pc := 1) (tgt := 9) hC dJ3_checkIndex_8e157_1 (by decide) (fun c => absurd c h0) (fun _ => ?_)
  refine a_iload_n (pc := 4) hC dJ3_checkIndex_8e157_4 rfl ?_
  refine a_iload_n (pc := 5) hC dJ3_checkIndex_8e157_5 rfl ?_
  refine a_icmp_lt (pc := 6) (tgt := 16) hC dJ3_checkIndex_8e157_6 (by decide) (fun _ => ?_) (fun c => absurd h1 c)
  refine a_iload_n (pc := 16) hC dJ3_checkIndex_8e157_16 rfl ?_
  exact a_iret (pc := 17) hC hE h (Nat.le_refl _) (Nat.le_refl _) dJ3_checkIndex_8e157_17
theorem t_J0_checkIndex {l : Launch} {g : aG} (hX : isS g) (hl : l.stackTraces = false) (x y : Int32) (q : aS) (P : Int32 → aS → Prop) (h0 : ¬ x < 0) (h1 : x < y) (h : P 0 q) : aMv l g yJ0_checkIndex_df160 (aWs yJ0_checkIndex_df160 cJ0_checkIndex_df160 2 none) 1 0 0 [.int x, .int y] q P (fun _ _ => False) := by
  refine aMv_of RJ0 ⟨by decide +kernel, rfl⟩ (cat_all rfl) (Nat.le_of_ble_eq_true rfl) hl hX.cl (fun f hR hC hE => ?_)
  show AW f g 0 [some (.int x), some (.int y)] [] q 0 0
  have go : ∀ v : Value, v.category = 1 → va_Z "jdk/internal/util/Preconditions" "SIOOBE_FORMATTER" "Ljava/util/function/BiFunction;" v (gA g) (f_s f) (f_s f).heap → AW f g 0 [some (.int x), some (.int y)] [] q 0 0 := by
    intro v hv hZ
    refine a_iload_n (pc := 0) hC dJ0_checkIndex_df160_0 rfl ?_
    refine a_iload_n (pc := 1) hC dJ0_checkIndex_df160_1 rfl ?_
    refine a_gets (pc := 2) hC hZ tw_1062 dJ0_checkIndex_df160_2 ?_
    refine a_callS (pc := 5) hC hR sm_J3_checkIndex_8e157 tw_1064 ⟨Nat.le_of_ble_eq_true rfl, Nat.le_of_ble_eq_true rfl, Nat.le_of_ble_eq_true rfl, Nat.le_of_ble_eq_true rfl⟩ dJ0_checkIndex_df160_5 (t_J3_checkIndex hX.cl hC.tr x y v hv q (fun r u => u = q) h0 h1 rfl) rfl rfl rfl (Nat.le_of_ble_eq_true rfl) (fun r q2 h2 => ?_)
    subst h2
    refine a_pop (pc := 8) hC dJ0_checkIndex_df160_8 rfl ?_
    exact a_vret (pc := 9) hC hE h (Nat.le_refl _) (Nat.le_refl _) dJ0_checkIndex_df160_9
  rcases (hX.en hC.en).2.2 with hz | ⟨t, hz⟩
  · exact go _ rfl hz
  · exact go _ rfl hz
/-- the letter of a constant text at a place -/
def sChr (i j : Nat) : Int32 := (((sByt.getD i []).getD j 0 &&& 255).toUInt32 % 65536).toInt32
theorem t_J1_charAt {l : Launch} {g : aG} (hX : isS g) (hl : l.stackTraces = false) {i : Nat} (hi : i < 11) (x : Int32) (q : aS) (P : Int32 → aS → Prop) (hin : vp_in x (sLen.getD i 0)) (h : P (sChr i x.toNatClampNeg) q) : aMi l g yJ1_charAt_3b067 (aWs yJ1_charAt_3b067 cJ1_charAt_3b067 2 (some .char)) 2 0 0 [.ref (gK g (40 + i)), .int x] q P (fun _ _ => False) := by
  refine aMi_of RJ1 ⟨by decide +kernel, rfl⟩ (cat_all rfl) (Nat.le_of_ble_eq_true rfl) hl hX.cl (fun f hR hC hE => ?_)
  show AW f g 0 [some (.ref (gK g (40 + i))), some (.int x)] [] q 0 0
  have hlen : sLen.getD i 0 < 2 ^ 31 := co_dec (N := 11) (P := fun i => sLen.getD i 0 < 2 ^ 31) (by decide +kernel) hi
  have hlt : x < Int32.ofNat (sLen.getD i 0) := by
    obtain ⟨j, hj, rfl⟩ := vp_in_of hin hlen
    exact nI_lt hj hlen
  refine a_iload_n (pc := 0) hC dJ1_charAt_3b067_0 rfl ?_
  refine a_aload_n (pc := 1) hC dJ1_charAt_3b067_1 rfl ?_
  refine a_tlen (pc := 2) hC ((hX.en hC.en).1.1 i hi).2.2.2 dJ1_charAt_3b067_2 ?_
  refine a_callSv (pc := 3) hC hR sm_J0_checkIndex_df160 tw_1059 ⟨Nat.le_of_ble_eq_true rfl, Nat.le_of_ble_eq_true rfl, Nat.le_of_ble_eq_true rfl, Nat.le_of_ble_eq_true rfl⟩ dJ1_charAt_3b067_3 (t_J0_checkIndex hX hC.tr x _ q (fun r u => u = q) (fun c => hin (Or.inl c)) hlt rfl) rfl rfl rfl (Nat.le_of_ble_eq_true rfl) (fun q2 h2 => ?_)
  subst h2
  refine a_aload_n (pc := 6) hC dJ1_charAt_3b067_6 rfl ?_
  refine a_iload_n (pc := 7) hC dJ1_charAt_3b067_7 rfl ?_
  refine a_tinb (pc := 8) hC ((hX.en hC.en).1.1 i hi).2.2.2 hin dJ1_charAt_3b067_8 ?_
  refine a_sipush (pc := 9) hC dJ1_charAt_3b067_9 (v := 255) rfl ?_
  refine a_iand (pc := 12) hC dJ1_charAt_3b067_12 ?_
  refine a_i2c (pc := 13) hC dJ1_charAt_3b067_13 ?_
  exact a_zret (pc := 14) hC hE (pk_nc _) h (Nat.le_refl _) (Nat.le_refl _) dJ1_charAt_3b067_14
theorem t_strchr {l : Launch} {g : aG} (hX : isS g) (hl : l.stackTraces = false) {i : Nat} (hi : i < 11) (x : Int32) (q : aS) (P : Int32 → aS → Prop) (hin : vp_in x (sLen.getD i 0)) (h : P (sChr i x.toNatClampNeg) q) : aMi l g yJ0_charAt_5068e (aWs yJ0_charAt_5068e cJ0_charAt_5068e 2 (some .char)) 3 0 0 [.ref (gK g (20 + i)), .int x] q P (fun _ _ => False) := by
  refine aMi_of RJ0 ⟨by decide +kernel, rfl⟩ (cat_all rfl) (Nat.le_of_ble_eq_true rfl) hl hX.cl (fun f hR hC hE => ?_)
  show AW f g 0 [some (.ref (gK g (20 + i))), some (.int x)] [] q 0 0
  refine a_aload_n (pc := 0) hC dJ0_charAt_5068e_0 rfl ?_
  refine a_callR (pc := 1) hC hR vm_J0_isLatin1_aae02 tw_1052 (a_srec hX hC hi) ⟨Nat.le_of_ble_eq_true rfl, Nat.le_of_ble_eq_true rfl, Nat.le_of_ble_eq_true rfl, Nat.le_of_ble_eq_true rfl⟩ dJ0_charAt_5068e_1 (t_J0_isLatin1 hX hC.tr hi q (fun r u => r = 1 ∧ u = q) ⟨rfl, rfl⟩) rfl rfl rfl (Nat.le_of_ble_eq_true rfl) (fun r q2 h2 => ?_)
  obtain ⟨rfl, rfl⟩ := h2
  refine a_if_eq (pc := 4) (tgt := 16) hC dJ0_charAt_5068e_4 (by decide) (fun c => absurd c (by decide)) (fun _ => ?_)
  refine a_aload_n (pc := 7) hC dJ0_charAt_5068e_7 rfl ?_
  refine a_getf (pc := 8) hC ((hX.en hC.en).1.1 i hi).2.2.1 tw_1322 dJ0_charAt_5068e_8 ?_
  refine a_iload_n (pc := 11) hC dJ0_charAt_5068e_11 rfl ?_
  refine a_callS (pc := 12) hC hR sm_J1_charAt_3b067 tw_1056 ⟨Nat.le_of_ble_eq_true rfl, Nat.le_of_ble_eq_true rfl, Nat.le_of_ble_eq_true rfl, Nat.le_of_ble_eq_true rfl⟩ dJ0_charAt_5068e_12 (t_J1_charAt hX hC.tr hi x q2 (fun r u => r = sChr i x.toNatClampNeg ∧ u = q2) hin ⟨rfl, rfl⟩) rfl rfl rfl (Nat.le_of_ble_eq_true rfl) (fun r q3 h3 => ?_)
  obtain ⟨rfl, rfl⟩ := h3
  exact a_zret (pc := 15) hC hE (pk_nc _) h (Nat.le_refl _) (Nat.le_refl _) dJ0_charAt_5068e_15
section STR2
variable {f : aF} {g : aG} {cc : ByteArray} {nL : Nat} {own : String} {pc : Nat} {L : List (Option Value)} {st : List Value} {q : aS} {k n : Nat}
theorem a_strlen (hX : isS g) (hC : aOK f g cc nL own) {N mcR msR index : Nat} (hR : f_R f = aR N mcR msR) {i : Nat} (hi : i < 11) (hw : Cond.methodLink own index yJ0_length_8abf5 ∈ lw_tbl) (hL : L.length = nL) (hN : 2 ≤ N ∧ k ≤ mcR ∧ n ≤ msR) (hrest : (st.map fun v => v.category).sum ≤ 8) (dg : decode cc pc = .ok (.invokevirtual index, 3)) (kk : AW f g (pc + 3) L (.int (Int32.ofNat (sLen.getD i 0)) :: st) q k n) : AW f g pc L (.ref (gK g (20 + i)) :: st) q k n :=
  a_callR hC hR vm_J0_length_8abf5 hw (a_srec hX hC hi) ⟨hN.1, Nat.le_of_ble_eq_true rfl, hN.2.1, hN.2.2⟩ dg (t_strlen hX hC.tr hi q (fun r u => r = Int32.ofNat (sLen.getD i 0) ∧ u = q) ⟨rfl, rfl⟩) rfl rfl hL hrest (fun r q2 h2 => by
    obtain ⟨rfl, rfl⟩ := h2
    exact kk)
theorem a_strchr (hX : isS g) (hC : aOK f g cc nL own) {N mcR msR index : Nat} (hR : f_R f = aR N mcR msR) {i : Nat} (hi : i < 11) (hw : Cond.methodLink own index yJ0_charAt_5068e ∈ lw_tbl) (hL : L.length = nL) (hN : 4 ≤ N ∧ k ≤ mcR ∧ n ≤ msR) (hrest : (st.map fun v => v.category).sum ≤ 8) {x : Int32} (hin : vp_in x (sLen.getD i 0)) (dg : decode cc pc = .ok (.invokevirtual index, 3)) (kk : AW f g (pc + 3) L (.int (sChr i x.toNatClampNeg) :: st) q k n) : AW f g pc L (.int x :: .ref (gK g (20 + i)) :: st) q k n :=
  a_callR (As := [.int x]) hC hR vm_J0_charAt_5068e hw (a_srec hX hC hi) ⟨hN.1, Nat.le_of_ble_eq_true rfl, hN.2.1, hN.2.2⟩ dg (t_strchr hX hC.tr hi x q (fun r u => r = sChr i x.toNatClampNeg ∧ u = q) hin ⟨rfl, rfl⟩) rfl rfl hL hrest (fun r q2 h2 => by
    obtain ⟨rfl, rfl⟩ := h2
    exact kk)
/-- the reference's row of words -/
theorem a_ldcM (hX : isM g) (hC : aOK f g cc nL "EchoCouncilModel") (dg : decode cc pc = .ok (.ldc 238, 2)) (kk : AW f g (pc + 2) L (.ref (gK g (20 + 10)) :: st) q k n) : AW f g pc L st q k n := fun ls H locs ex hl hI hS =>
  va_ldcS hC.x hC.b hC.o (hX.2.2.2.2 _ _ hC.en).2 dg (kk ls H locs ex hl hI hS)
/-- a kind is put into the orders' kinds -/
theorem a_aastk (hX : isX g) (hC : aOK f g cc nL own) {j : Nat} (hj : j < 10) {i : Int32} (hin : vp_in i 10) (dg : decode cc pc = .ok (.aastore, 1)) (kk : AW f g (pc + 1) L st (up2 q.1 192 i.toNatClampNeg (nI j), q.2) k n) : AW f g pc L (.ref (gK g j) :: .int i :: .ref (gAd g 192) :: st) q k n := fun ls H locs ex hl hI hS => by
  have hp := oX_192 hX
  have hO := ((hX.en hC.en).2.2.1.1 j hj).2.1
  obtain ⟨cell, h1, h2, h3, -⟩ := hO.kept hS.2.1
  have hany : va_Any "EchoCouncil$OrderKind" (f_s f) H (gK g j) := by
    obtain ⟨kC, hkC, -⟩ := Vm.findClass_spec h3
    refine ⟨cell, h1, h2, ⟨kC, hkC⟩, fun comp hc => ?_⟩
    cases Option.some.inj (hc.symm.trans h3)
    show Vm.assignableAux _ (255 + 1) _ _ = true
    rw [Vm.assignableAux]
    simp
  refine va_astqM hC.x hC.b hC.K hI.2.1 hI.2.2 hS 192 3 ((aWl_at g q.1 ex hp.1).trans (by rw [hp.2.1])) hp.2.2 hany hin dg (fun H1 locs1 hP hD hS1 => ?_)
  have e : va_up (fun j => some (gK g (q.1 192 j).toNatClampNeg)) i.toNatClampNeg (some (gK g j)) = (fun j' => some (gK g (upd (q.1 192) i.toNatClampNeg (nI j) j').toNatClampNeg)) := by
    funext j'
    unfold va_up upd
    by_cases c : j' = i.toNatClampNeg
    · rw [if_pos c, if_pos c, nI_clamp (show j < 2 ^ 31 by omega)]
    · rw [if_neg c, if_neg c]
  rw [e] at hP hD
  have hs := hp.2.1 (upd (q.1 192) i.toNatClampNeg (nI j))
  rw [← hs, aWl_set g q.1 ex hp.1] at hP hD
  exact kk ls H1 locs1 ex hl ⟨hI.1, hP, hD⟩ hS1
end STR2
end
section
/-! the law's world: the class' 205 places, the text's two cells, the two rows that take answers, the reference's 8 places; both sides see it by a context of their own -/
/-- worlds as sets: the order doesn't matter -/
theorem wP_perm {D : va_G} {cl : List vw_C} {a b : va_W} {H : Heap} (h : List.Perm a b) (hP : va_P D cl a H) : va_P D cl b H := by
  intro k q hk
  obtain ⟨i, hi⟩ := List.getElem?_of_mem (h.mem_iff.mpr (List.mem_of_getElem? hk))
  exact hP i q hi
theorem wD_nodup {A : Nat → Prop} {a : va_W} : va_D A a ↔ (a.map Prod.fst).Nodup ∧ ∀ q ∈ a, A q.1 := by
  constructor
  · intro h
    refine ⟨?_, fun q hq => ?_⟩
    · show List.Pairwise _ _
      rw [List.pairwise_iff_getElem]
      intro i j hi hj hij he
      have hil : i < a.length := by simpa using hi
      have hjl : j < a.length := by simpa using hj
      rw [List.getElem_map, List.getElem_map] at he
      have := h.1 i j _ _ (List.getElem?_eq_getElem hil) (List.getElem?_eq_getElem hjl) he
      omega
    · obtain ⟨i, hi⟩ := List.getElem?_of_mem hq
      exact h.2 i q hi
  · rintro ⟨hn, hA⟩
    refine ⟨fun i j p q hi hj e => ?_, fun k q hk => hA q (List.mem_of_getElem? hk)⟩
    have hn' : List.Pairwise (fun x y => x ≠ y) (a.map Prod.fst) := hn
    rw [List.pairwise_iff_getElem] at hn'
    obtain ⟨hil, ei⟩ := List.getElem?_eq_some_iff.mp hi
    obtain ⟨hjl, ej⟩ := List.getElem?_eq_some_iff.mp hj
    rcases Nat.lt_trichotomy i j with c | c | c
    · refine absurd ?_ (hn' i j (by simpa using hil) (by simpa using hjl) c)
      rw [List.getElem_map, List.getElem_map, ei, ej]
      exact e
    · exact c
    · refine absurd ?_ (hn' j i (by simpa using hjl) (by simpa using hil) c)
      rw [List.getElem_map, List.getElem_map, ei, ej]
      exact e.symm
theorem wD_perm {A : Nat → Prop} {a b : va_W} (h : List.Perm a b) (hD : va_D A a) : va_D A b := by
  rw [wD_nodup] at hD ⊢
  exact ⟨(h.map Prod.fst).nodup_iff.mp hD.1, fun q hq => hD.2 q (h.mem_iff.mpr hq)⟩
/-- what the law keeps fixed: D, tys, the places of the class, of the reference, of the constants, the rows for answers, base -/
abbrev lP : Type := va_G × List (ClassId × FieldType) × (Nat → Nat) × (Nat → Nat) × (Nat → Nat) × Nat × Nat × Nat
def lc (z : lP) (i : Nat) : ClassId := (z.2.1.getD i (0, .int)).1
def lA (z : lP) : Nat → Prop := fun a => z.2.2.2.2.2.2.2 ≤ a
def lEn (z : lP) : State → Heap → Prop := fun U H => EnvX (lA z) z.2.2.2.2.1 U H ∧ EnvM (lA z) z.2.2.2.2.1 U H
/-- the text's cells: the builder at place 205, its bytes -/
def sbEX (z : lP) (t : List Nat) (sb : va_W) : Prop :=
  ∃ (m qv : Nat) (by_ : Nat → Int32) (ml : Int32), sb = [(z.2.2.1 205, .inr (1, [.ref qv, .int 0, .int ml, .int (nI t.length)])), (qv, .inl (lc z 5, (m, .inl by_)))] ∧ t.length ≤ m ∧ m ≤ 200 ∧ t.length ≤ 60 ∧ (∀ j, j < t.length → t.getD j 0 < 128 ∧ by_ j = nI (t.getD j 0))
def lOut (z : lP) (v : Nat → Int64) (vd : Nat → UInt64) : va_W := [(z.2.2.2.2.2.1, .inl (lc z 6, (1, .inr (.inl v)))), (z.2.2.2.2.2.2.1, .inl (lc z 7, (1, .inr (.inr (.inr (.inl vd))))))]
def lWX (z : lP) (d : Nat → Nat → Int32) : va_W := (List.range 205).map (fun k => (z.2.2.1 k, shX z.2.2.1 z.2.2.2.2.1 (lc z) k (d k)))
def lWM (z : lP) (d : Nat → Nat → Int32) : va_W := (List.range 8).map (fun k => (z.2.2.2.1 k, shM z.2.2.2.1 (lc z) k (d k)))
/-- the class' context: beside it the reference's numbers dM, the answers v, vd -/
def lX (z : lP) (dM : Nat → Nat → Int32) (v : Nat → Int64) (vd : Nat → UInt64) : aG :=
  (z.1, z.2.1, shX z.2.2.1 z.2.2.2.2.1 (lc z), 205, z.2.2.1, fun t ex => ∃ sb, sbEX z t sb ∧ ex = sb ++ (lOut z v vd ++ lWM z dM), lEn z, lA z, z.2.2.2.2.1)
/-- the reference's context: beside it the class' numbers and text -/
def lM (z : lP) (dX : Nat → Nat → Int32) (t : List Nat) (v : Nat → Int64) (vd : Nat → UInt64) : aG :=
  (z.1, z.2.1, shM z.2.2.2.1 (lc z), 8, z.2.2.2.1, fun _ ex => ∃ sb, sbEX z t sb ∧ ex = sb ++ (lOut z v vd ++ lWX z dX), lEn z, lA z, z.2.2.2.2.1)
theorem lEn_cl {z : lP} {g : aG} (h1 : gEn g = lEn z) (h2 : gA g = lA z) : gCl g := by
  intro u U H H1 hW hq h
  rw [h1] at h ⊢
  rw [h2] at hq
  exact ⟨h.1.go hW hq, h.2.go hW hq⟩
theorem lX_is {z : lP} (ht : z.2.1.map Prod.snd = tyX) (dM : Nat → Nat → Int32) (v : Nat → Int64) (vd : Nat → UInt64) : isX (lX z dM v vd) := ⟨rfl, rfl, ht, lEn_cl (z := z) rfl rfl, fun _ _ h => h.1⟩
theorem lM_is {z : lP} (ht : z.2.1.map Prod.snd = tyX) (dX : Nat → Nat → Int32) (t : List Nat) (v : Nat → Int64) (vd : Nat → UInt64) : isM (lM z dX t v vd) := ⟨rfl, rfl, ht, lEn_cl (z := z) rfl rfl, fun _ _ h => h.2⟩
theorem lX_wl (z : lP) (dM : Nat → Nat → Int32) (v : Nat → Int64) (vd : Nat → UInt64) (d : Nat → Nat → Int32) : aWl (lX z dM v vd) d = lWX z d := rfl
theorem lM_wl (z : lP) (dX : Nat → Nat → Int32) (t : List Nat) (v : Nat → Int64) (vd : Nat → UInt64) (d : Nat → Nat → Int32) : aWl (lM z dX t v vd) d = lWM z d := rfl
theorem l_perm (a b c d : va_W) : List.Perm (a ++ (b ++ (c ++ d))) (d ++ (b ++ (c ++ a))) := by
  have h1 : List.Perm (a ++ (b ++ (c ++ d))) ((b ++ c) ++ (d ++ a)) := by
    have := List.perm_append_comm (l₁ := a) (l₂ := b ++ (c ++ d))
    simpa [List.append_assoc] using this
  have h2 : List.Perm ((b ++ c) ++ (d ++ a)) (d ++ (a ++ (b ++ c))) := by
    have := List.perm_append_comm (l₁ := b ++ c) (l₂ := d ++ a)
    simpa [List.append_assoc] using this
  have h3 : List.Perm (d ++ (a ++ (b ++ c))) (d ++ (b ++ (c ++ a))) := by
    have := List.Perm.append_left d (List.perm_append_comm (l₁ := a) (l₂ := b ++ c))
    simpa [List.append_assoc] using this
  exact h1.trans (h2.trans h3)
/-- from the class' side to the reference's, and back -/
theorem lX_M {z : lP} {dX dM : Nat → Nat → Int32} {t t' : List Nat} {v : Nat → Int64} {vd : Nat → UInt64} {ex : va_W} {H : Heap} (h : aI (lX z dM v vd) (dX, t) ex H) : ∃ ex', aI (lM z dX t v vd) (dM, t') ex' H := by
  obtain ⟨⟨sb, hsb, rfl⟩, hP, hD⟩ := h
  exact ⟨sb ++ (lOut z v vd ++ lWX z dX), ⟨sb, hsb, rfl⟩, wP_perm (l_perm _ _ _ _) hP, wD_perm (l_perm _ _ _ _) hD⟩
theorem lM_X {z : lP} {dX dM : Nat → Nat → Int32} {t t' : List Nat} {v : Nat → Int64} {vd : Nat → UInt64} {ex : va_W} {H : Heap} (h : aI (lM z dX t v vd) (dM, t') ex H) : ∃ ex', aI (lX z dM v vd) (dX, t) ex' H := by
  obtain ⟨⟨sb, hsb, rfl⟩, hP, hD⟩ := h
  exact ⟨sb ++ (lOut z v vd ++ lWM z dM), ⟨sb, hsb, rfl⟩, wP_perm (l_perm _ _ _ _) hP, wD_perm (l_perm _ _ _ _) hD⟩
section LAW
variable {f : aF} {z : lP} {cc : ByteArray} {nL : Nat} {own : String} {pc : Nat} {L : List (Option Value)} {st : List Value} {dX dM : Nat → Nat → Int32} {t : List Nat} {v : Nat → Int64} {vd : Nat → UInt64} {k n : Nat}
/-- the law's frame, whatever the answers and the reference's numbers are -/
theorem lOK_M (hC : aOK f (lX z dM v vd) cc nL own) (dX : Nat → Nat → Int32) (t : List Nat) : aOK f (lM z dX t v vd) cc nL own :=
  ⟨hC.1, hC.2.1, hC.2.2.1, hC.2.2.2.1, hC.2.2.2.2.1, hC.2.2.2.2.2.1, hC.2.2.2.2.2.2.1, hC.2.2.2.2.2.2.2.1, hC.2.2.2.2.2.2.2.2.1, hC.2.2.2.2.2.2.2.2.2.1, lEn_cl (z := z) rfl rfl⟩
theorem lOK_X (hC : aOK f (lX z dM v vd) cc nL own) (dM' : Nat → Nat → Int32) (v' : Nat → Int64) (vd' : Nat → UInt64) : aOK f (lX z dM' v' vd') cc nL own :=
  ⟨hC.1, hC.2.1, hC.2.2.1, hC.2.2.2.1, hC.2.2.2.2.1, hC.2.2.2.2.2.1, hC.2.2.2.2.2.2.1, hC.2.2.2.2.2.2.2.1, hC.2.2.2.2.2.2.2.2.1, hC.2.2.2.2.2.2.2.2.2.1, lEn_cl (z := z) rfl rfl⟩
/-- a piece of the walk, seen from the reference's side -/
theorem AW.toX (h : AW f (lM z dX t v vd) pc L st (dM, []) k n) : AW f (lX z dM v vd) pc L st (dX, t) k n := by
  intro ls H locs ex hl hI hS
  obtain ⟨ex', hI'⟩ := lX_M (t' := []) hI
  exact h ls H locs ex' hl hI' hS
theorem AW.toM {t' : List Nat} (h : AW f (lX z dM v vd) pc L st (dX, t) k n) : AW f (lM z dX t v vd) pc L st (dM, t') k n := by
  intro ls H locs ex hl hI hS
  obtain ⟨ex', hI'⟩ := lM_X hI
  exact h ls H locs ex' hl hI' hS
theorem a_i2l {g : aG} {q : aS} (hC : aOK f g cc nL own) {x : Int32} (dg : decode cc pc = .ok (.i2l, 1)) (kk : AW f g (pc + 1) L (.long x.toInt64 :: st) q k n) : AW f g pc L (.int x :: st) q k n := fun ls H locs ex hl hI hS => lv_i2l hC.x hC.b dg rfl (kk ls H locs ex hl hI hS)
theorem a_lconst {g : aG} {q : aS} (hC : aOK f g cc nL own) {i : Fin 2} {w : Int64} (dg : decode cc pc = .ok (.lconst i, 1)) (hw : Int64.ofNat (i : Nat) = w) (kk : AW f g (pc + 1) L (.long w :: st) q k n) : AW f g pc L st q k n := fun ls H locs ex hl hI hS => lv_lconst hC.x hC.b dg hw (kk ls H locs ex hl hI hS)
theorem a_lcmp {g : aG} {q : aS} (hC : aOK f g cc nL own) {x y : Int64} (dg : decode cc pc = .ok (.lcmp, 1)) (kk : AW f g (pc + 1) L (.int (lg_cmp x y) :: st) q k n) : AW f g pc L (.long y :: .long x :: st) q k n := fun ls H locs ex hl hI hS => W.lcmp hC.x hC.b dg (kk ls H locs ex hl hI hS)
theorem a_dcmp {g : aG} {q : aS} (hC : aOK f g cc nL own) {x y : UInt64} {op : CmpOp} (dg : decode cc pc = .ok (.dcmp op, 1)) (kk : AW f g (pc + 1) L (.int (Op.cmpValue (FP.dcmp x y) op) :: st) q k n) : AW f g pc L (.double y :: .double x :: st) q k n := fun ls H locs ex hl hI hS => lv_dcmp hC.x hC.b dg (kk ls H locs ex hl hI hS)
theorem a_f2d {g : aG} {q : aS} (hC : aOK f g cc nL own) {x : UInt32} (dg : decode cc pc = .ok (.f2d, 1)) (hne : vf_n64 (FP.f2d x)) (kk : AW f g (pc + 1) L (.double (FP.f2d x) :: st) q k n) : AW f g pc L (.float x :: st) q k n := fun ls H locs ex hl hI hS => lv_f2d hC.x hC.b dg hne (kk ls H locs ex hl hI hS)
/-- the row of answers: its place in the class' world behind the 205 and the text's two -/
theorem lX_out {ex : va_W} {H : Heap} (hI : aI (lX z dM v vd) (dX, t) ex H) : (aWl (lX z dM v vd) dX ++ ex)[207]? = some (z.2.2.2.2.2.1, .inl (lc z 6, (1, .inr (.inl v)))) ∧ (aWl (lX z dM v vd) dX ++ ex)[208]? = some (z.2.2.2.2.2.2.1, .inl (lc z 7, (1, .inr (.inr (.inr (.inl vd)))))) := by
  obtain ⟨⟨sb, ⟨m, qv, by_, ml, rfl, -⟩, rfl⟩, -⟩ := hI
  constructor <;> (rw [List.getElem?_append_right (by rw [aWl_len]; show 205 ≤ _; decide), aWl_len]; rfl)
theorem lX_set {ex : va_W} {H : Heap} (hI : aI (lX z dM v vd) (dX, t) ex H) (v' : Nat → Int64) {H1 : Heap} (hP : va_P z.1 vwCl ((aWl (lX z dM v vd) dX ++ ex).set 207 (z.2.2.2.2.2.1, .inl (lc z 6, (1, .inr (.inl v'))))) H1) (hD : va_D (lA z) ((aWl (lX z dM v vd) dX ++ ex).set 207 (z.2.2.2.2.2.1, .inl (lc z 6, (1, .inr (.inl v')))))) : ∃ ex', aI (lX z dM v' vd) (dX, t) ex' H1 := by
  obtain ⟨⟨sb, hsb, rfl⟩, -⟩ := hI
  have hs := hsb
  obtain ⟨m, qv, by_, ml, rfl, -⟩ := hs
  rw [List.set_append_right _ _ (by rw [aWl_len]; show 205 ≤ _; decide), aWl_len] at hP hD
  exact ⟨_, ⟨_, hsb, rfl⟩, hP, hD⟩
theorem lX_setD {ex : va_W} {H : Heap} (hI : aI (lX z dM v vd) (dX, t) ex H) (v' : Nat → UInt64) {H1 : Heap} (hP : va_P z.1 vwCl ((aWl (lX z dM v vd) dX ++ ex).set 208 (z.2.2.2.2.2.2.1, .inl (lc z 7, (1, .inr (.inr (.inr (.inl v'))))))) H1) (hD : va_D (lA z) ((aWl (lX z dM v vd) dX ++ ex).set 208 (z.2.2.2.2.2.2.1, .inl (lc z 7, (1, .inr (.inr (.inr (.inl v')))))))) : ∃ ex', aI (lX z dM v v') (dX, t) ex' H1 := by
  obtain ⟨⟨sb, hsb, rfl⟩, -⟩ := hI
  have hs := hsb
  obtain ⟨m, qv, by_, ml, rfl, -⟩ := hs
  rw [List.set_append_right _ _ (by rw [aWl_len]; show 205 ≤ _; decide), aWl_len] at hP hD
  exact ⟨_, ⟨_, hsb, rfl⟩, hP, hD⟩
theorem a_lastO (ht : z.2.1.map Prod.snd = tyX) (hC : aOK f (lX z dM v vd) cc nL own) {x : Int64} (dg : decode cc pc = .ok (.lastore, 1)) (kk : AW f (lX z dM (vp_updL v 0 x) vd) (pc + 1) L st (dX, t) k n) : AW f (lX z dM v vd) pc L (.long x :: .int 0 :: .ref z.2.2.2.2.2.1 :: st) (dX, t) k n := fun ls H locs ex hl hI hS =>
  va_last hC.x hC.b hC.K hI.2.1 hI.2.2 hS 207 6 (lX_out hI).1 (gc_at (g := lX z dM v vd) ht rfl) (by decide) dg (fun H1 locs1 hP hD hS1 => by
    obtain ⟨ex', hI'⟩ := lX_set hI _ hP hD
    exact kk ls H1 locs1 ex' hl hI' hS1)
theorem a_dastO (ht : z.2.1.map Prod.snd = tyX) (hC : aOK f (lX z dM v vd) cc nL own) {x : UInt64} (dg : decode cc pc = .ok (.dastore, 1)) (kk : AW f (lX z dM v (vf_upd vd 0 x)) (pc + 1) L st (dX, t) k n) : AW f (lX z dM v vd) pc L (.double x :: .int 0 :: .ref z.2.2.2.2.2.2.1 :: st) (dX, t) k n := fun ls H locs ex hl hI hS =>
  va_dast hC.x hC.b hC.K hI.2.1 hI.2.2 hS 208 7 (lX_out hI).2 (gc_at (g := lX z dM v vd) ht rfl) (by decide) dg (fun H1 locs1 hP hD hS1 => by
    obtain ⟨ex', hI'⟩ := lX_setD hI _ hP hD
    exact kk ls H1 locs1 ex' hl hI' hS1)
theorem a_laldO (ht : z.2.1.map Prod.snd = tyX) (hC : aOK f (lX z dM v vd) cc nL own) (dg : decode cc pc = .ok (.laload, 1)) (kk : AW f (lX z dM v vd) (pc + 1) L (.long (v 0) :: st) (dX, t) k n) : AW f (lX z dM v vd) pc L (.int 0 :: .ref z.2.2.2.2.2.1 :: st) (dX, t) k n := fun ls H locs ex hl hI hS =>
  va_lald hC.x hC.b hC.K hI.2.1 207 6 (lX_out hI).1 (gc_at (g := lX z dM v vd) ht rfl) (by decide) dg (kk ls H locs ex hl hI hS)
theorem a_daldO (ht : z.2.1.map Prod.snd = tyX) (hC : aOK f (lX z dM v vd) cc nL own) (dg : decode cc pc = .ok (.daload, 1)) (kk : AW f (lX z dM v vd) (pc + 1) L (.double (vd 0) :: st) (dX, t) k n) : AW f (lX z dM v vd) pc L (.int 0 :: .ref z.2.2.2.2.2.2.1 :: st) (dX, t) k n := fun ls H locs ex hl hI hS =>
  va_dald hC.x hC.b hC.K hI.2.1 208 7 (lX_out hI).2 (gc_at (g := lX z dM v vd) ht rfl) (by decide) dg (kk ls H locs ex hl hI hS)
end LAW
end
