section
-- ===== PART A: goes FIRST, ahead of the names: the tables' words, and 'selects' of the private methods out of them =====
/-- a private method of a class that the tables say can be made, by its rows of tables_1 -/
def lw_okq (q : MethodName × Nat) : Prop := (q.1.cls ≠ "java/lang/invoke/MethodHandle" ∧ q.1.cls ≠ "java/lang/invoke/VarHandle") ∧ Cond.instantiable q.1.cls q.2 ∈ tables_1 ∧ Cond.privateMethod q.1 ∈ tables_1 ∧ Cond.instanceMethod q.1 ∈ tables_1
theorem lw_p0 : lw_okq (⟨"OnlineRooms$Board", "isOpen", "(I)Z"⟩, 13) := ⟨⟨by decide +kernel, by decide +kernel⟩, List.mem_of_getElem? (i := 21) (by decide +kernel), List.mem_of_getElem? (i := 177) (by decide +kernel), List.mem_of_getElem? (i := 178) (by decide +kernel)⟩
theorem lw_p1 : lw_okq (⟨"OnlineRooms$Board", "canHold", "(IIJ)Z"⟩, 13) := ⟨⟨by decide +kernel, by decide +kernel⟩, List.mem_of_getElem? (i := 21) (by decide +kernel), List.mem_of_getElem? (i := 181) (by decide +kernel), List.mem_of_getElem? (i := 182) (by decide +kernel)⟩
theorem lw_p2 : lw_okq (⟨"OnlineRooms$Board", "rankByRule", "(III)I"⟩, 13) := ⟨⟨by decide +kernel, by decide +kernel⟩, List.mem_of_getElem? (i := 21) (by decide +kernel), List.mem_of_getElem? (i := 185) (by decide +kernel), List.mem_of_getElem? (i := 186) (by decide +kernel)⟩
theorem lw_p3 : lw_okq (⟨"OnlineRooms$Board", "gapAhead", "(II)I"⟩, 13) := ⟨⟨by decide +kernel, by decide +kernel⟩, List.mem_of_getElem? (i := 21) (by decide +kernel), List.mem_of_getElem? (i := 189) (by decide +kernel), List.mem_of_getElem? (i := 190) (by decide +kernel)⟩
theorem lw_p4 : lw_okq (⟨"OnlineRooms$Board", "roomToOpen", "(I)I"⟩, 13) := ⟨⟨by decide +kernel, by decide +kernel⟩, List.mem_of_getElem? (i := 21) (by decide +kernel), List.mem_of_getElem? (i := 199) (by decide +kernel), List.mem_of_getElem? (i := 200) (by decide +kernel)⟩
theorem lw_p5 : lw_okq (⟨"OnlineRooms$Board", "putIn", "(II)V"⟩, 13) := ⟨⟨by decide +kernel, by decide +kernel⟩, List.mem_of_getElem? (i := 21) (by decide +kernel), List.mem_of_getElem? (i := 208) (by decide +kernel), List.mem_of_getElem? (i := 209) (by decide +kernel)⟩
theorem lw_p6 : lw_okq (⟨"OnlineRooms", "keepTrial", "(I)I"⟩, 4) := ⟨⟨by decide +kernel, by decide +kernel⟩, List.mem_of_getElem? (i := 13) (by decide +kernel), List.mem_of_getElem? (i := 212) (by decide +kernel), List.mem_of_getElem? (i := 213) (by decide +kernel)⟩
theorem lw_p7 : lw_okq (⟨"OnlineRooms$Board", "placeOf", "(I)I"⟩, 13) := ⟨⟨by decide +kernel, by decide +kernel⟩, List.mem_of_getElem? (i := 21) (by decide +kernel), List.mem_of_getElem? (i := 233) (by decide +kernel), List.mem_of_getElem? (i := 234) (by decide +kernel)⟩
theorem lw_p8 : lw_okq (⟨"OnlineRooms$Board", "takeOut", "(II)V"⟩, 13) := ⟨⟨by decide +kernel, by decide +kernel⟩, List.mem_of_getElem? (i := 21) (by decide +kernel), List.mem_of_getElem? (i := 237) (by decide +kernel), List.mem_of_getElem? (i := 238) (by decide +kernel)⟩
theorem lw_p9 : lw_okq (⟨"OnlineRooms$Board", "couldGo", "(II)Z"⟩, 13) := ⟨⟨by decide +kernel, by decide +kernel⟩, List.mem_of_getElem? (i := 21) (by decide +kernel), List.mem_of_getElem? (i := 250) (by decide +kernel), List.mem_of_getElem? (i := 251) (by decide +kernel)⟩
theorem lw_p10 : lw_okq (⟨"OnlineRooms", "tryAnew", "(I)I"⟩, 4) := ⟨⟨by decide +kernel, by decide +kernel⟩, List.mem_of_getElem? (i := 13) (by decide +kernel), List.mem_of_getElem? (i := 289) (by decide +kernel), List.mem_of_getElem? (i := 290) (by decide +kernel)⟩
theorem lw_p11 : lw_okq (⟨"OnlineRooms$Board", "forgetRooms", "()V"⟩, 13) := ⟨⟨by decide +kernel, by decide +kernel⟩, List.mem_of_getElem? (i := 21) (by decide +kernel), List.mem_of_getElem? (i := 297) (by decide +kernel), List.mem_of_getElem? (i := 298) (by decide +kernel)⟩
theorem lw_p12 : lw_okq (⟨"OnlineRooms$Board", "otherRooms", "(I)I"⟩, 13) := ⟨⟨by decide +kernel, by decide +kernel⟩, List.mem_of_getElem? (i := 21) (by decide +kernel), List.mem_of_getElem? (i := 321) (by decide +kernel), List.mem_of_getElem? (i := 322) (by decide +kernel)⟩
theorem lw_p13 : lw_okq (⟨"OnlineRooms$Board", "talksBeside", "(I)I"⟩, 13) := ⟨⟨by decide +kernel, by decide +kernel⟩, List.mem_of_getElem? (i := 21) (by decide +kernel), List.mem_of_getElem? (i := 325) (by decide +kernel), List.mem_of_getElem? (i := 326) (by decide +kernel)⟩
theorem lw_p14 : lw_okq (⟨"OnlineRooms$Board", "talksIn", "(I)I"⟩, 13) := ⟨⟨by decide +kernel, by decide +kernel⟩, List.mem_of_getElem? (i := 21) (by decide +kernel), List.mem_of_getElem? (i := 337) (by decide +kernel), List.mem_of_getElem? (i := 338) (by decide +kernel)⟩
theorem lw_p15 : lw_okq (⟨"OnlineRooms$Board", "longestFree", "(I)I"⟩, 13) := ⟨⟨by decide +kernel, by decide +kernel⟩, List.mem_of_getElem? (i := 21) (by decide +kernel), List.mem_of_getElem? (i := 341) (by decide +kernel), List.mem_of_getElem? (i := 342) (by decide +kernel)⟩
def lw_privs_1 : List (MethodName × Nat) := [(⟨"OnlineRooms$Board", "isOpen", "(I)Z"⟩, 13), (⟨"OnlineRooms$Board", "canHold", "(IIJ)Z"⟩, 13), (⟨"OnlineRooms$Board", "rankByRule", "(III)I"⟩, 13), (⟨"OnlineRooms$Board", "gapAhead", "(II)I"⟩, 13), (⟨"OnlineRooms$Board", "roomToOpen", "(I)I"⟩, 13), (⟨"OnlineRooms$Board", "putIn", "(II)V"⟩, 13), (⟨"OnlineRooms", "keepTrial", "(I)I"⟩, 4), (⟨"OnlineRooms$Board", "placeOf", "(I)I"⟩, 13), (⟨"OnlineRooms$Board", "takeOut", "(II)V"⟩, 13), (⟨"OnlineRooms$Board", "couldGo", "(II)Z"⟩, 13), (⟨"OnlineRooms", "tryAnew", "(I)I"⟩, 4), (⟨"OnlineRooms$Board", "forgetRooms", "()V"⟩, 13), (⟨"OnlineRooms$Board", "otherRooms", "(I)I"⟩, 13), (⟨"OnlineRooms$Board", "talksBeside", "(I)I"⟩, 13), (⟨"OnlineRooms$Board", "talksIn", "(I)I"⟩, 13), (⟨"OnlineRooms$Board", "longestFree", "(I)I"⟩, 13)]
theorem lw_r1 : ∀ q ∈ lw_privs_1, lw_okq q := List.forall_mem_cons.mpr ⟨lw_p0, List.forall_mem_cons.mpr ⟨lw_p1, List.forall_mem_cons.mpr ⟨lw_p2, List.forall_mem_cons.mpr ⟨lw_p3, List.forall_mem_cons.mpr ⟨lw_p4, List.forall_mem_cons.mpr ⟨lw_p5, List.forall_mem_cons.mpr ⟨lw_p6, List.forall_mem_cons.mpr ⟨lw_p7, List.forall_mem_cons.mpr ⟨lw_p8, List.forall_mem_cons.mpr ⟨lw_p9, List.forall_mem_cons.mpr ⟨lw_p10, List.forall_mem_cons.mpr ⟨lw_p11, List.forall_mem_cons.mpr ⟨lw_p12, List.forall_mem_cons.mpr ⟨lw_p13, List.forall_mem_cons.mpr ⟨lw_p14, List.forall_mem_cons.mpr ⟨lw_p15, fun _ h => absurd h List.not_mem_nil⟩⟩⟩⟩⟩⟩⟩⟩⟩⟩⟩⟩⟩⟩⟩⟩
theorem lw_p16 : lw_okq (⟨"OnlineRooms$Board", "isTaken", "(II)Z"⟩, 13) := ⟨⟨by decide +kernel, by decide +kernel⟩, List.mem_of_getElem? (i := 21) (by decide +kernel), List.mem_of_getElem? (i := 345) (by decide +kernel), List.mem_of_getElem? (i := 346) (by decide +kernel)⟩
theorem lw_p17 : lw_okq (⟨"OnlineRooms$Board", "takesHour", "(II)Z"⟩, 13) := ⟨⟨by decide +kernel, by decide +kernel⟩, List.mem_of_getElem? (i := 21) (by decide +kernel), List.mem_of_getElem? (i := 361) (by decide +kernel), List.mem_of_getElem? (i := 362) (by decide +kernel)⟩
theorem lw_p18 : lw_okq (⟨"OnlineRooms", "couldBeEmptied", "(I)Z"⟩, 4) := ⟨⟨by decide +kernel, by decide +kernel⟩, List.mem_of_getElem? (i := 13) (by decide +kernel), List.mem_of_getElem? (i := 418) (by decide +kernel), List.mem_of_getElem? (i := 419) (by decide +kernel)⟩
theorem lw_p19 : lw_okq (⟨"OnlineRooms$Board", "lowestOther", "(I)I"⟩, 13) := ⟨⟨by decide +kernel, by decide +kernel⟩, List.mem_of_getElem? (i := 21) (by decide +kernel), List.mem_of_getElem? (i := 426) (by decide +kernel), List.mem_of_getElem? (i := 427) (by decide +kernel)⟩
theorem lw_p20 : lw_okq (⟨"OnlineRooms$Board", "fewestRooms", "()I"⟩, 13) := ⟨⟨by decide +kernel, by decide +kernel⟩, List.mem_of_getElem? (i := 21) (by decide +kernel), List.mem_of_getElem? (i := 447) (by decide +kernel), List.mem_of_getElem? (i := 448) (by decide +kernel)⟩
theorem lw_p21 : lw_okq (⟨"OnlineRooms$Board", "hoursTaken", "()I"⟩, 13) := ⟨⟨by decide +kernel, by decide +kernel⟩, List.mem_of_getElem? (i := 21) (by decide +kernel), List.mem_of_getElem? (i := 452) (by decide +kernel), List.mem_of_getElem? (i := 453) (by decide +kernel)⟩
theorem lw_p22 : lw_okq (⟨"OnlineRooms$Order", "readKind", "([CI)I"⟩, 3) := ⟨⟨by decide +kernel, by decide +kernel⟩, List.mem_of_getElem? (i := 93) (by decide +kernel), List.mem_of_getElem? (i := 494) (by decide +kernel), List.mem_of_getElem? (i := 495) (by decide +kernel)⟩
theorem lw_p23 : lw_okq (⟨"OnlineRooms$Order", "isSignLeft", "([CI)Z"⟩, 3) := ⟨⟨by decide +kernel, by decide +kernel⟩, List.mem_of_getElem? (i := 93) (by decide +kernel), List.mem_of_getElem? (i := 498) (by decide +kernel), List.mem_of_getElem? (i := 499) (by decide +kernel)⟩
theorem lw_p24 : lw_okq (⟨"OnlineRooms$Order", "readNumber", "([CII)Z"⟩, 3) := ⟨⟨by decide +kernel, by decide +kernel⟩, List.mem_of_getElem? (i := 93) (by decide +kernel), List.mem_of_getElem? (i := 502) (by decide +kernel), List.mem_of_getElem? (i := 503) (by decide +kernel)⟩
theorem lw_p25 : lw_okq (⟨"OnlineRooms$Order", "isDigitLeft", "([CI)Z"⟩, 3) := ⟨⟨by decide +kernel, by decide +kernel⟩, List.mem_of_getElem? (i := 93) (by decide +kernel), List.mem_of_getElem? (i := 506) (by decide +kernel), List.mem_of_getElem? (i := 507) (by decide +kernel)⟩
theorem lw_p26 : lw_okq (⟨"OnlineRooms$Order", "readSign", "([CIC)Z"⟩, 3) := ⟨⟨by decide +kernel, by decide +kernel⟩, List.mem_of_getElem? (i := 93) (by decide +kernel), List.mem_of_getElem? (i := 510) (by decide +kernel), List.mem_of_getElem? (i := 511) (by decide +kernel)⟩
theorem lw_p27 : lw_okq (⟨"OnlineRooms$Script", "stopAt", "(III)Z"⟩, 7) := ⟨⟨by decide +kernel, by decide +kernel⟩, List.mem_of_getElem? (i := 87) (by decide +kernel), List.mem_of_getElem? (i := 518) (by decide +kernel), List.mem_of_getElem? (i := 519) (by decide +kernel)⟩
theorem lw_p28 : lw_okq (⟨"OnlineRoomsModel", "refusesTalk", "(III)I"⟩, 17) := ⟨⟨by decide +kernel, by decide +kernel⟩, List.mem_of_getElem? (i := 544) (by decide +kernel), List.mem_of_getElem? (i := 607) (by decide +kernel), List.mem_of_getElem? (i := 608) (by decide +kernel)⟩
theorem lw_p29 : lw_okq (⟨"OnlineRoomsModel", "gets", "(IIII)I"⟩, 17) := ⟨⟨by decide +kernel, by decide +kernel⟩, List.mem_of_getElem? (i := 544) (by decide +kernel), List.mem_of_getElem? (i := 615) (by decide +kernel), List.mem_of_getElem? (i := 616) (by decide +kernel)⟩
theorem lw_p30 : lw_okq (⟨"OnlineRoomsModel", "canBe", "(IIIII)Z"⟩, 17) := ⟨⟨by decide +kernel, by decide +kernel⟩, List.mem_of_getElem? (i := 544) (by decide +kernel), List.mem_of_getElem? (i := 619) (by decide +kernel), List.mem_of_getElem? (i := 620) (by decide +kernel)⟩
theorem lw_p31 : lw_okq (⟨"OnlineRoomsModel", "room0", "(II)I"⟩, 17) := ⟨⟨by decide +kernel, by decide +kernel⟩, List.mem_of_getElem? (i := 544) (by decide +kernel), List.mem_of_getElem? (i := 623) (by decide +kernel), List.mem_of_getElem? (i := 624) (by decide +kernel)⟩
def lw_privs_2 : List (MethodName × Nat) := [(⟨"OnlineRooms$Board", "isTaken", "(II)Z"⟩, 13), (⟨"OnlineRooms$Board", "takesHour", "(II)Z"⟩, 13), (⟨"OnlineRooms", "couldBeEmptied", "(I)Z"⟩, 4), (⟨"OnlineRooms$Board", "lowestOther", "(I)I"⟩, 13), (⟨"OnlineRooms$Board", "fewestRooms", "()I"⟩, 13), (⟨"OnlineRooms$Board", "hoursTaken", "()I"⟩, 13), (⟨"OnlineRooms$Order", "readKind", "([CI)I"⟩, 3), (⟨"OnlineRooms$Order", "isSignLeft", "([CI)Z"⟩, 3), (⟨"OnlineRooms$Order", "readNumber", "([CII)Z"⟩, 3), (⟨"OnlineRooms$Order", "isDigitLeft", "([CI)Z"⟩, 3), (⟨"OnlineRooms$Order", "readSign", "([CIC)Z"⟩, 3), (⟨"OnlineRooms$Script", "stopAt", "(III)Z"⟩, 7), (⟨"OnlineRoomsModel", "refusesTalk", "(III)I"⟩, 17), (⟨"OnlineRoomsModel", "gets", "(IIII)I"⟩, 17), (⟨"OnlineRoomsModel", "canBe", "(IIIII)Z"⟩, 17), (⟨"OnlineRoomsModel", "room0", "(II)I"⟩, 17)]
theorem lw_r2 : ∀ q ∈ lw_privs_2, lw_okq q := List.forall_mem_cons.mpr ⟨lw_p16, List.forall_mem_cons.mpr ⟨lw_p17, List.forall_mem_cons.mpr ⟨lw_p18, List.forall_mem_cons.mpr ⟨lw_p19, List.forall_mem_cons.mpr ⟨lw_p20, List.forall_mem_cons.mpr ⟨lw_p21, List.forall_mem_cons.mpr ⟨lw_p22, List.forall_mem_cons.mpr ⟨lw_p23, List.forall_mem_cons.mpr ⟨lw_p24, List.forall_mem_cons.mpr ⟨lw_p25, List.forall_mem_cons.mpr ⟨lw_p26, List.forall_mem_cons.mpr ⟨lw_p27, List.forall_mem_cons.mpr ⟨lw_p28, List.forall_mem_cons.mpr ⟨lw_p29, List.forall_mem_cons.mpr ⟨lw_p30, List.forall_mem_cons.mpr ⟨lw_p31, fun _ h => absurd h List.not_mem_nil⟩⟩⟩⟩⟩⟩⟩⟩⟩⟩⟩⟩⟩⟩⟩⟩
theorem lw_p32 : lw_okq (⟨"OnlineRoomsModel", "of", "(II)I"⟩, 17) := ⟨⟨by decide +kernel, by decide +kernel⟩, List.mem_of_getElem? (i := 544) (by decide +kernel), List.mem_of_getElem? (i := 627) (by decide +kernel), List.mem_of_getElem? (i := 628) (by decide +kernel)⟩
theorem lw_p33 : lw_okq (⟨"OnlineRoomsModel", "isOpen", "(I)Z"⟩, 17) := ⟨⟨by decide +kernel, by decide +kernel⟩, List.mem_of_getElem? (i := 544) (by decide +kernel), List.mem_of_getElem? (i := 631) (by decide +kernel), List.mem_of_getElem? (i := 632) (by decide +kernel)⟩
theorem lw_p34 : lw_okq (⟨"OnlineRoomsModel", "worth", "(III)I"⟩, 17) := ⟨⟨by decide +kernel, by decide +kernel⟩, List.mem_of_getElem? (i := 544) (by decide +kernel), List.mem_of_getElem? (i := 635) (by decide +kernel), List.mem_of_getElem? (i := 636) (by decide +kernel)⟩
theorem lw_p35 : lw_okq (⟨"OnlineRoomsModel", "gap", "(II)I"⟩, 17) := ⟨⟨by decide +kernel, by decide +kernel⟩, List.mem_of_getElem? (i := 544) (by decide +kernel), List.mem_of_getElem? (i := 639) (by decide +kernel), List.mem_of_getElem? (i := 640) (by decide +kernel)⟩
theorem lw_p36 : lw_okq (⟨"OnlineRoomsModel", "taken", "(I)I"⟩, 17) := ⟨⟨by decide +kernel, by decide +kernel⟩, List.mem_of_getElem? (i := 544) (by decide +kernel), List.mem_of_getElem? (i := 643) (by decide +kernel), List.mem_of_getElem? (i := 644) (by decide +kernel)⟩
theorem lw_p37 : lw_okq (⟨"OnlineRoomsModel", "dearness", "(I)I"⟩, 17) := ⟨⟨by decide +kernel, by decide +kernel⟩, List.mem_of_getElem? (i := 544) (by decide +kernel), List.mem_of_getElem? (i := 647) (by decide +kernel), List.mem_of_getElem? (i := 648) (by decide +kernel)⟩
theorem lw_p38 : lw_okq (⟨"OnlineRoomsModel", "records", "()V"⟩, 17) := ⟨⟨by decide +kernel, by decide +kernel⟩, List.mem_of_getElem? (i := 544) (by decide +kernel), List.mem_of_getElem? (i := 653) (by decide +kernel), List.mem_of_getElem? (i := 654) (by decide +kernel)⟩
theorem lw_p39 : lw_okq (⟨"OnlineRoomsModel", "tells", "(III)I"⟩, 17) := ⟨⟨by decide +kernel, by decide +kernel⟩, List.mem_of_getElem? (i := 544) (by decide +kernel), List.mem_of_getElem? (i := 657) (by decide +kernel), List.mem_of_getElem? (i := 658) (by decide +kernel)⟩
theorem lw_p40 : lw_okq (⟨"OnlineRoomsModel", "opens", "(I)V"⟩, 17) := ⟨⟨by decide +kernel, by decide +kernel⟩, List.mem_of_getElem? (i := 544) (by decide +kernel), List.mem_of_getElem? (i := 661) (by decide +kernel), List.mem_of_getElem? (i := 662) (by decide +kernel)⟩
theorem lw_p41 : lw_okq (⟨"OnlineRoomsModel", "isTalk", "(I)Z"⟩, 17) := ⟨⟨by decide +kernel, by decide +kernel⟩, List.mem_of_getElem? (i := 544) (by decide +kernel), List.mem_of_getElem? (i := 669) (by decide +kernel), List.mem_of_getElem? (i := 670) (by decide +kernel)⟩
theorem lw_p42 : lw_okq (⟨"OnlineRoomsModel", "withdraws", "(I)I"⟩, 17) := ⟨⟨by decide +kernel, by decide +kernel⟩, List.mem_of_getElem? (i := 544) (by decide +kernel), List.mem_of_getElem? (i := 673) (by decide +kernel), List.mem_of_getElem? (i := 674) (by decide +kernel)⟩
theorem lw_p43 : lw_okq (⟨"OnlineRoomsModel", "canMove", "(II)Z"⟩, 17) := ⟨⟨by decide +kernel, by decide +kernel⟩, List.mem_of_getElem? (i := 544) (by decide +kernel), List.mem_of_getElem? (i := 684) (by decide +kernel), List.mem_of_getElem? (i := 685) (by decide +kernel)⟩
theorem lw_p44 : lw_okq (⟨"OnlineRoomsModel", "refusesRoom", "(III)I"⟩, 17) := ⟨⟨by decide +kernel, by decide +kernel⟩, List.mem_of_getElem? (i := 544) (by decide +kernel), List.mem_of_getElem? (i := 692) (by decide +kernel), List.mem_of_getElem? (i := 693) (by decide +kernel)⟩
theorem lw_p45 : lw_okq (⟨"OnlineRoomsModel", "laysRoom", "(III)I"⟩, 17) := ⟨⟨by decide +kernel, by decide +kernel⟩, List.mem_of_getElem? (i := 544) (by decide +kernel), List.mem_of_getElem? (i := 696) (by decide +kernel), List.mem_of_getElem? (i := 697) (by decide +kernel)⟩
theorem lw_p46 : lw_okq (⟨"OnlineRoomsModel", "talksIn", "(I)I"⟩, 17) := ⟨⟨by decide +kernel, by decide +kernel⟩, List.mem_of_getElem? (i := 544) (by decide +kernel), List.mem_of_getElem? (i := 704) (by decide +kernel), List.mem_of_getElem? (i := 705) (by decide +kernel)⟩
theorem lw_p47 : lw_okq (⟨"OnlineRoomsModel", "openMany", "()I"⟩, 17) := ⟨⟨by decide +kernel, by decide +kernel⟩, List.mem_of_getElem? (i := 544) (by decide +kernel), List.mem_of_getElem? (i := 708) (by decide +kernel), List.mem_of_getElem? (i := 709) (by decide +kernel)⟩
def lw_privs_3 : List (MethodName × Nat) := [(⟨"OnlineRoomsModel", "of", "(II)I"⟩, 17), (⟨"OnlineRoomsModel", "isOpen", "(I)Z"⟩, 17), (⟨"OnlineRoomsModel", "worth", "(III)I"⟩, 17), (⟨"OnlineRoomsModel", "gap", "(II)I"⟩, 17), (⟨"OnlineRoomsModel", "taken", "(I)I"⟩, 17), (⟨"OnlineRoomsModel", "dearness", "(I)I"⟩, 17), (⟨"OnlineRoomsModel", "records", "()V"⟩, 17), (⟨"OnlineRoomsModel", "tells", "(III)I"⟩, 17), (⟨"OnlineRoomsModel", "opens", "(I)V"⟩, 17), (⟨"OnlineRoomsModel", "isTalk", "(I)Z"⟩, 17), (⟨"OnlineRoomsModel", "withdraws", "(I)I"⟩, 17), (⟨"OnlineRoomsModel", "canMove", "(II)Z"⟩, 17), (⟨"OnlineRoomsModel", "refusesRoom", "(III)I"⟩, 17), (⟨"OnlineRoomsModel", "laysRoom", "(III)I"⟩, 17), (⟨"OnlineRoomsModel", "talksIn", "(I)I"⟩, 17), (⟨"OnlineRoomsModel", "openMany", "()I"⟩, 17)]
theorem lw_r3 : ∀ q ∈ lw_privs_3, lw_okq q := List.forall_mem_cons.mpr ⟨lw_p32, List.forall_mem_cons.mpr ⟨lw_p33, List.forall_mem_cons.mpr ⟨lw_p34, List.forall_mem_cons.mpr ⟨lw_p35, List.forall_mem_cons.mpr ⟨lw_p36, List.forall_mem_cons.mpr ⟨lw_p37, List.forall_mem_cons.mpr ⟨lw_p38, List.forall_mem_cons.mpr ⟨lw_p39, List.forall_mem_cons.mpr ⟨lw_p40, List.forall_mem_cons.mpr ⟨lw_p41, List.forall_mem_cons.mpr ⟨lw_p42, List.forall_mem_cons.mpr ⟨lw_p43, List.forall_mem_cons.mpr ⟨lw_p44, List.forall_mem_cons.mpr ⟨lw_p45, List.forall_mem_cons.mpr ⟨lw_p46, List.forall_mem_cons.mpr ⟨lw_p47, fun _ h => absurd h List.not_mem_nil⟩⟩⟩⟩⟩⟩⟩⟩⟩⟩⟩⟩⟩⟩⟩⟩
theorem lw_p48 : lw_okq (⟨"OnlineRoomsModel", "priceBy", "(I)I"⟩, 17) := ⟨⟨by decide +kernel, by decide +kernel⟩, List.mem_of_getElem? (i := 544) (by decide +kernel), List.mem_of_getElem? (i := 716) (by decide +kernel), List.mem_of_getElem? (i := 717) (by decide +kernel)⟩
theorem lw_p49 : lw_okq (⟨"OnlineRoomsModel", "tellsAnew", "(I)Z"⟩, 17) := ⟨⟨by decide +kernel, by decide +kernel⟩, List.mem_of_getElem? (i := 544) (by decide +kernel), List.mem_of_getElem? (i := 720) (by decide +kernel), List.mem_of_getElem? (i := 721) (by decide +kernel)⟩
theorem lw_p50 : lw_okq (⟨"OnlineRoomsModel", "putAside", "()V"⟩, 17) := ⟨⟨by decide +kernel, by decide +kernel⟩, List.mem_of_getElem? (i := 544) (by decide +kernel), List.mem_of_getElem? (i := 724) (by decide +kernel), List.mem_of_getElem? (i := 725) (by decide +kernel)⟩
theorem lw_p51 : lw_okq (⟨"OnlineRoomsModel", "nextTalk", "()I"⟩, 17) := ⟨⟨by decide +kernel, by decide +kernel⟩, List.mem_of_getElem? (i := 544) (by decide +kernel), List.mem_of_getElem? (i := 728) (by decide +kernel), List.mem_of_getElem? (i := 729) (by decide +kernel)⟩
theorem lw_p52 : lw_okq (⟨"OnlineRoomsModel", "takeBack", "()V"⟩, 17) := ⟨⟨by decide +kernel, by decide +kernel⟩, List.mem_of_getElem? (i := 544) (by decide +kernel), List.mem_of_getElem? (i := 732) (by decide +kernel), List.mem_of_getElem? (i := 733) (by decide +kernel)⟩
theorem lw_p53 : lw_okq (⟨"OnlineRoomsModel", "instead", "(I)I"⟩, 17) := ⟨⟨by decide +kernel, by decide +kernel⟩, List.mem_of_getElem? (i := 544) (by decide +kernel), List.mem_of_getElem? (i := 744) (by decide +kernel), List.mem_of_getElem? (i := 745) (by decide +kernel)⟩
theorem lw_p54 : lw_okq (⟨"OnlineRoomsModel", "beside", "(I)I"⟩, 17) := ⟨⟨by decide +kernel, by decide +kernel⟩, List.mem_of_getElem? (i := 544) (by decide +kernel), List.mem_of_getElem? (i := 748) (by decide +kernel), List.mem_of_getElem? (i := 749) (by decide +kernel)⟩
theorem lw_p55 : lw_okq (⟨"OnlineRoomsModel", "longestFree", "(I)I"⟩, 17) := ⟨⟨by decide +kernel, by decide +kernel⟩, List.mem_of_getElem? (i := 544) (by decide +kernel), List.mem_of_getElem? (i := 759) (by decide +kernel), List.mem_of_getElem? (i := 760) (by decide +kernel)⟩
theorem lw_p56 : lw_okq (⟨"OnlineRoomsModel", "talkAt", "(II)I"⟩, 17) := ⟨⟨by decide +kernel, by decide +kernel⟩, List.mem_of_getElem? (i := 544) (by decide +kernel), List.mem_of_getElem? (i := 763) (by decide +kernel), List.mem_of_getElem? (i := 764) (by decide +kernel)⟩
theorem lw_p57 : lw_okq (⟨"OnlineRoomsModel", "talksAt", "(I)I"⟩, 17) := ⟨⟨by decide +kernel, by decide +kernel⟩, List.mem_of_getElem? (i := 544) (by decide +kernel), List.mem_of_getElem? (i := 776) (by decide +kernel), List.mem_of_getElem? (i := 777) (by decide +kernel)⟩
theorem lw_p58 : lw_okq (⟨"OnlineRoomsModel", "freeAt", "(I)I"⟩, 17) := ⟨⟨by decide +kernel, by decide +kernel⟩, List.mem_of_getElem? (i := 544) (by decide +kernel), List.mem_of_getElem? (i := 780) (by decide +kernel), List.mem_of_getElem? (i := 781) (by decide +kernel)⟩
theorem lw_p59 : lw_okq (⟨"OnlineRoomsModel", "talks", "()I"⟩, 17) := ⟨⟨by decide +kernel, by decide +kernel⟩, List.mem_of_getElem? (i := 544) (by decide +kernel), List.mem_of_getElem? (i := 800) (by decide +kernel), List.mem_of_getElem? (i := 801) (by decide +kernel)⟩
theorem lw_p60 : lw_okq (⟨"OnlineRoomsModel", "empties", "(I)Z"⟩, 17) := ⟨⟨by decide +kernel, by decide +kernel⟩, List.mem_of_getElem? (i := 544) (by decide +kernel), List.mem_of_getElem? (i := 822) (by decide +kernel), List.mem_of_getElem? (i := 823) (by decide +kernel)⟩
theorem lw_p61 : lw_okq (⟨"OnlineRoomsModel", "lowestFor", "(I)I"⟩, 17) := ⟨⟨by decide +kernel, by decide +kernel⟩, List.mem_of_getElem? (i := 544) (by decide +kernel), List.mem_of_getElem? (i := 826) (by decide +kernel), List.mem_of_getElem? (i := 827) (by decide +kernel)⟩
theorem lw_p62 : lw_okq (⟨"OnlineRoomsModel", "fewest", "()I"⟩, 17) := ⟨⟨by decide +kernel, by decide +kernel⟩, List.mem_of_getElem? (i := 544) (by decide +kernel), List.mem_of_getElem? (i := 834) (by decide +kernel), List.mem_of_getElem? (i := 835) (by decide +kernel)⟩
theorem lw_p63 : lw_okq (⟨"OnlineRoomsModel", "hoursTaken", "()I"⟩, 17) := ⟨⟨by decide +kernel, by decide +kernel⟩, List.mem_of_getElem? (i := 544) (by decide +kernel), List.mem_of_getElem? (i := 838) (by decide +kernel), List.mem_of_getElem? (i := 839) (by decide +kernel)⟩
def lw_privs_4 : List (MethodName × Nat) := [(⟨"OnlineRoomsModel", "priceBy", "(I)I"⟩, 17), (⟨"OnlineRoomsModel", "tellsAnew", "(I)Z"⟩, 17), (⟨"OnlineRoomsModel", "putAside", "()V"⟩, 17), (⟨"OnlineRoomsModel", "nextTalk", "()I"⟩, 17), (⟨"OnlineRoomsModel", "takeBack", "()V"⟩, 17), (⟨"OnlineRoomsModel", "instead", "(I)I"⟩, 17), (⟨"OnlineRoomsModel", "beside", "(I)I"⟩, 17), (⟨"OnlineRoomsModel", "longestFree", "(I)I"⟩, 17), (⟨"OnlineRoomsModel", "talkAt", "(II)I"⟩, 17), (⟨"OnlineRoomsModel", "talksAt", "(I)I"⟩, 17), (⟨"OnlineRoomsModel", "freeAt", "(I)I"⟩, 17), (⟨"OnlineRoomsModel", "talks", "()I"⟩, 17), (⟨"OnlineRoomsModel", "empties", "(I)Z"⟩, 17), (⟨"OnlineRoomsModel", "lowestFor", "(I)I"⟩, 17), (⟨"OnlineRoomsModel", "fewest", "()I"⟩, 17), (⟨"OnlineRoomsModel", "hoursTaken", "()I"⟩, 17)]
theorem lw_r4 : ∀ q ∈ lw_privs_4, lw_okq q := List.forall_mem_cons.mpr ⟨lw_p48, List.forall_mem_cons.mpr ⟨lw_p49, List.forall_mem_cons.mpr ⟨lw_p50, List.forall_mem_cons.mpr ⟨lw_p51, List.forall_mem_cons.mpr ⟨lw_p52, List.forall_mem_cons.mpr ⟨lw_p53, List.forall_mem_cons.mpr ⟨lw_p54, List.forall_mem_cons.mpr ⟨lw_p55, List.forall_mem_cons.mpr ⟨lw_p56, List.forall_mem_cons.mpr ⟨lw_p57, List.forall_mem_cons.mpr ⟨lw_p58, List.forall_mem_cons.mpr ⟨lw_p59, List.forall_mem_cons.mpr ⟨lw_p60, List.forall_mem_cons.mpr ⟨lw_p61, List.forall_mem_cons.mpr ⟨lw_p62, List.forall_mem_cons.mpr ⟨lw_p63, fun _ h => absurd h List.not_mem_nil⟩⟩⟩⟩⟩⟩⟩⟩⟩⟩⟩⟩⟩⟩⟩⟩
theorem lw_p64 : lw_okq (⟨"OnlineRoomsModel", "reads", "()I"⟩, 17) := ⟨⟨by decide +kernel, by decide +kernel⟩, List.mem_of_getElem? (i := 544) (by decide +kernel), List.mem_of_getElem? (i := 858) (by decide +kernel), List.mem_of_getElem? (i := 859) (by decide +kernel)⟩
theorem lw_p65 : lw_okq (⟨"OnlineRoomsModel", "order", "()I"⟩, 17) := ⟨⟨by decide +kernel, by decide +kernel⟩, List.mem_of_getElem? (i := 544) (by decide +kernel), List.mem_of_getElem? (i := 862) (by decide +kernel), List.mem_of_getElem? (i := 863) (by decide +kernel)⟩
theorem lw_p66 : lw_okq (⟨"OnlineRoomsModel", "sign", "()I"⟩, 17) := ⟨⟨by decide +kernel, by decide +kernel⟩, List.mem_of_getElem? (i := 544) (by decide +kernel), List.mem_of_getElem? (i := 866) (by decide +kernel), List.mem_of_getElem? (i := 867) (by decide +kernel)⟩
theorem lw_p67 : lw_okq (⟨"OnlineRoomsModel", "number", "()I"⟩, 17) := ⟨⟨by decide +kernel, by decide +kernel⟩, List.mem_of_getElem? (i := 544) (by decide +kernel), List.mem_of_getElem? (i := 870) (by decide +kernel), List.mem_of_getElem? (i := 871) (by decide +kernel)⟩
theorem lw_p68 : lw_okq (⟨"OnlineRoomsModel", "wants", "(I)V"⟩, 17) := ⟨⟨by decide +kernel, by decide +kernel⟩, List.mem_of_getElem? (i := 544) (by decide +kernel), List.mem_of_getElem? (i := 874) (by decide +kernel), List.mem_of_getElem? (i := 875) (by decide +kernel)⟩
theorem lw_p69 : lw_okq (⟨"OnlineRoomsModel", "does", "(IIII)I"⟩, 17) := ⟨⟨by decide +kernel, by decide +kernel⟩, List.mem_of_getElem? (i := 544) (by decide +kernel), List.mem_of_getElem? (i := 878) (by decide +kernel), List.mem_of_getElem? (i := 879) (by decide +kernel)⟩
def lw_privs_5 : List (MethodName × Nat) := [(⟨"OnlineRoomsModel", "reads", "()I"⟩, 17), (⟨"OnlineRoomsModel", "order", "()I"⟩, 17), (⟨"OnlineRoomsModel", "sign", "()I"⟩, 17), (⟨"OnlineRoomsModel", "number", "()I"⟩, 17), (⟨"OnlineRoomsModel", "wants", "(I)V"⟩, 17), (⟨"OnlineRoomsModel", "does", "(IIII)I"⟩, 17)]
theorem lw_r5 : ∀ q ∈ lw_privs_5, lw_okq q := List.forall_mem_cons.mpr ⟨lw_p64, List.forall_mem_cons.mpr ⟨lw_p65, List.forall_mem_cons.mpr ⟨lw_p66, List.forall_mem_cons.mpr ⟨lw_p67, List.forall_mem_cons.mpr ⟨lw_p68, List.forall_mem_cons.mpr ⟨lw_p69, fun _ h => absurd h List.not_mem_nil⟩⟩⟩⟩⟩⟩
def lw_privs : List (MethodName × Nat) := lw_privs_1 ++ (lw_privs_2 ++ (lw_privs_3 ++ (lw_privs_4 ++ (lw_privs_5))))
def lw_tbl : List Cond := k2_sels lw_privs ++ tables_1
theorem lw_privs_ok : ∀ q ∈ lw_privs, lw_okq q := by
  show ∀ q ∈ lw_privs_1 ++ (lw_privs_2 ++ (lw_privs_3 ++ (lw_privs_4 ++ (lw_privs_5)))), lw_okq q
  exact List.forall_mem_append.mpr ⟨lw_r1, List.forall_mem_append.mpr ⟨lw_r2, List.forall_mem_append.mpr ⟨lw_r3, List.forall_mem_append.mpr ⟨lw_r4, lw_r5⟩⟩⟩⟩
/-- the streams that the claim lets the run draw from -/
abbrev lw_cs : List Choice := [Jvm.Choice.named "NaN.bits"]
theorem lw_bits : nanBits ∈ lw_cs := by first | decide | exact List.mem_cons_self | simp [lw_cs, nanBits]
-- ===== end of PART A =====
def RX0 : String := "OnlineRooms$Board"
def TX0 : u_T := fun k => match k with
  | 0 => ("OnlineRooms$Board", "first", "[I", true)
  | 1 => ("OnlineRooms$Board", "end", "[I", true)
  | 2 => ("OnlineRooms$Board", "size", "[I", true)
  | 3 => ("OnlineRooms$Board", "place", "[I", true)
  | 4 => ("OnlineRooms$Board", "roomSize", "[I", true)
  | 5 => ("OnlineRooms$Board", "price", "[I", true)
  | 6 => ("OnlineRooms$Board", "taken", "[J", true)
  | 7 => ("OnlineRooms$Board", "open", "I", false)
  | 8 => ("OnlineRooms$Board", "told", "I", false)
  | 9 => ("OnlineRooms$Board", "withdrawn", "I", false)
  | 10 => ("OnlineRooms$Board", "openings", "I", false)
  | 11 => ("OnlineRooms$Board", "paid", "I", false)
  | _ => ("OnlineRooms$Board", "rule", "I", false)
def tyX0 : Nat → FieldType := fun k => match k with
  | 0 => .array .int
  | 1 => .array .int
  | 2 => .array .int
  | 3 => .array .int
  | 4 => .array .int
  | 5 => .array .int
  | 6 => .array .long
  | 7 => .int
  | 8 => .int
  | 9 => .int
  | 10 => .int
  | 11 => .int
  | _ => .int
theorem nmX0 : ∀ a, a < 13 → ∀ b, b < 13 → a ≠ b → (TX0 a).2.1 ≠ (TX0 b).2.1 := by decide +kernel
theorem tyX0_ok : ∀ k, k < 13 → parseFieldDescriptor (TX0 k).2.2.1 = some (tyX0 k) := by decide +kernel
abbrev cX0_init : ByteArray := prog_2_method_1_code
def yX0_init : MethodName := ⟨RX0, "<init>", "()V"⟩
abbrev cX0_copyFrom : ByteArray := prog_2_method_2_code
def yX0_copyFrom : MethodName := ⟨RX0, "copyFrom", "(LOnlineRooms$Board;)V"⟩
abbrev cX0_tell : ByteArray := prog_2_method_3_code
def yX0_tell : MethodName := ⟨RX0, "tell", "(III)I"⟩
abbrev cX0_drop : ByteArray := prog_2_method_4_code
def yX0_drop : MethodName := ⟨RX0, "drop", "(I)I"⟩
abbrev cX0_shift : ByteArray := prog_2_method_5_code
def yX0_shift : MethodName := ⟨RX0, "shift", "(II)I"⟩
abbrev cX0_furnish : ByteArray := prog_2_method_6_code
def yX0_furnish : MethodName := ⟨RX0, "furnish", "(III)I"⟩
abbrev cX0_shut : ByteArray := prog_2_method_7_code
def yX0_shut : MethodName := ⟨RX0, "shut", "(I)I"⟩
abbrev cX0_chooseRule : ByteArray := prog_2_method_8_code
def yX0_chooseRule : MethodName := ⟨RX0, "chooseRule", "(I)I"⟩
abbrev cX0_tellAnew : ByteArray := prog_2_method_9_code
def yX0_tellAnew : MethodName := ⟨RX0, "tellAnew", "(I)I"⟩
abbrev cX0_forgetRooms : ByteArray := prog_2_method_10_code
def yX0_forgetRooms : MethodName := ⟨RX0, "forgetRooms", "()V"⟩
abbrev cX0_emptyOut : ByteArray := prog_2_method_11_code
def yX0_emptyOut : MethodName := ⟨RX0, "emptyOut", "(I)Z"⟩
abbrev cX0_lowestOther : ByteArray := prog_2_method_12_code
def yX0_lowestOther : MethodName := ⟨RX0, "lowestOther", "(I)I"⟩
abbrev cX0_roomFor : ByteArray := prog_2_method_13_code
def yX0_roomFor : MethodName := ⟨RX0, "roomFor", "(IIII)I"⟩
abbrev cX0_rankByRule : ByteArray := prog_2_method_14_code
def yX0_rankByRule : MethodName := ⟨RX0, "rankByRule", "(III)I"⟩
abbrev cX0_gapAhead : ByteArray := prog_2_method_15_code
def yX0_gapAhead : MethodName := ⟨RX0, "gapAhead", "(II)I"⟩
abbrev cX0_roomToOpen : ByteArray := prog_2_method_16_code
def yX0_roomToOpen : MethodName := ⟨RX0, "roomToOpen", "(I)I"⟩
abbrev cX0_putIn : ByteArray := prog_2_method_17_code
def yX0_putIn : MethodName := ⟨RX0, "putIn", "(II)V"⟩
abbrev cX0_takeOut : ByteArray := prog_2_method_18_code
def yX0_takeOut : MethodName := ⟨RX0, "takeOut", "(II)V"⟩
abbrev cX0_couldGo : ByteArray := prog_2_method_19_code
def yX0_couldGo : MethodName := ⟨RX0, "couldGo", "(II)Z"⟩
abbrev cX0_canHold : ByteArray := prog_2_method_20_code
def yX0_canHold : MethodName := ⟨RX0, "canHold", "(IIJ)Z"⟩
abbrev cX0_isOpen : ByteArray := prog_2_method_21_code
def yX0_isOpen : MethodName := ⟨RX0, "isOpen", "(I)Z"⟩
abbrev cX0_isTaken : ByteArray := prog_2_method_22_code
def yX0_isTaken : MethodName := ⟨RX0, "isTaken", "(II)Z"⟩
abbrev cX0_takesHour : ByteArray := prog_2_method_23_code
def yX0_takesHour : MethodName := ⟨RX0, "takesHour", "(II)Z"⟩
abbrev cX0_hoursOf : ByteArray := prog_2_method_24_code
def yX0_hoursOf : MethodName := ⟨RX0, "hoursOf", "(II)J"⟩
abbrev cX0_placeOf : ByteArray := prog_2_method_25_code
def yX0_placeOf : MethodName := ⟨RX0, "placeOf", "(I)I"⟩
abbrev cX0_ofTalk : ByteArray := prog_2_method_26_code
def yX0_ofTalk : MethodName := ⟨RX0, "ofTalk", "(II)I"⟩
abbrev cX0_otherRooms : ByteArray := prog_2_method_27_code
def yX0_otherRooms : MethodName := ⟨RX0, "otherRooms", "(I)I"⟩
abbrev cX0_talksBeside : ByteArray := prog_2_method_28_code
def yX0_talksBeside : MethodName := ⟨RX0, "talksBeside", "(I)I"⟩
abbrev cX0_ofRoom : ByteArray := prog_2_method_29_code
def yX0_ofRoom : MethodName := ⟨RX0, "ofRoom", "(II)I"⟩
abbrev cX0_talksIn : ByteArray := prog_2_method_30_code
def yX0_talksIn : MethodName := ⟨RX0, "talksIn", "(I)I"⟩
abbrev cX0_longestFree : ByteArray := prog_2_method_31_code
def yX0_longestFree : MethodName := ⟨RX0, "longestFree", "(I)I"⟩
abbrev cX0_talkIn : ByteArray := prog_2_method_32_code
def yX0_talkIn : MethodName := ⟨RX0, "talkIn", "(II)I"⟩
abbrev cX0_talksAt : ByteArray := prog_2_method_33_code
def yX0_talksAt : MethodName := ⟨RX0, "talksAt", "(I)I"⟩
abbrev cX0_freeRoomsAt : ByteArray := prog_2_method_34_code
def yX0_freeRoomsAt : MethodName := ⟨RX0, "freeRoomsAt", "(I)I"⟩
abbrev cX0_number : ByteArray := prog_2_method_35_code
def yX0_number : MethodName := ⟨RX0, "number", "(I)I"⟩
abbrev cX0_fewestRooms : ByteArray := prog_2_method_36_code
def yX0_fewestRooms : MethodName := ⟨RX0, "fewestRooms", "()I"⟩
abbrev cX0_hoursTaken : ByteArray := prog_2_method_37_code
def yX0_hoursTaken : MethodName := ⟨RX0, "hoursTaken", "()I"⟩
abbrev cX0_openRooms : ByteArray := prog_2_method_38_code
def yX0_openRooms : MethodName := ⟨RX0, "openRooms", "()I"⟩
abbrev cX0_paidSoFar : ByteArray := prog_2_method_39_code
def yX0_paidSoFar : MethodName := ⟨RX0, "paidSoFar", "()I"⟩
abbrev cX0_ruleOfNow : ByteArray := prog_2_method_40_code
def yX0_ruleOfNow : MethodName := ⟨RX0, "ruleOfNow", "()I"⟩
abbrev cX0_placedElsewhereThan : ByteArray := prog_2_method_41_code
def yX0_placedElsewhereThan : MethodName := ⟨RX0, "placedElsewhereThan", "(LOnlineRooms$Board;)I"⟩
def RX1 : String := "OnlineRooms$History"
def TX1 : u_T := fun k => match k with
  | 0 => ("OnlineRooms$History", "states", "[LOnlineRooms$Board;", true)
  | 1 => ("OnlineRooms$History", "next", "I", false)
  | _ => ("OnlineRooms$History", "kept", "I", false)
def tyX1 : Nat → FieldType := fun k => match k with
  | 0 => .array (.object "OnlineRooms$Board")
  | 1 => .int
  | _ => .int
theorem nmX1 : ∀ a, a < 3 → ∀ b, b < 3 → a ≠ b → (TX1 a).2.1 ≠ (TX1 b).2.1 := by decide +kernel
theorem tyX1_ok : ∀ k, k < 3 → parseFieldDescriptor (TX1 k).2.2.1 = some (tyX1 k) := by decide +kernel
abbrev cX1_init : ByteArray := prog_3_method_1_code
def yX1_init : MethodName := ⟨RX1, "<init>", "()V"⟩
abbrev cX1_keep : ByteArray := prog_3_method_2_code
def yX1_keep : MethodName := ⟨RX1, "keep", "(LOnlineRooms$Board;)V"⟩
abbrev cX1_giveBack : ByteArray := prog_3_method_3_code
def yX1_giveBack : MethodName := ⟨RX1, "giveBack", "(LOnlineRooms$Board;)I"⟩
abbrev cX1_size : ByteArray := prog_3_method_4_code
def yX1_size : MethodName := ⟨RX1, "size", "()I"⟩
def RX2 : String := "OnlineRooms$Order"
def TX2 : u_T := fun k => match k with
  | 0 => ("OnlineRooms$Order", "numbers", "[I", true)
  | 1 => ("OnlineRooms$Order", "kind", "C", false)
  | _ => ("OnlineRooms$Order", "unread", "I", false)
def tyX2 : Nat → FieldType := fun k => match k with
  | 0 => .array .int
  | 1 => .char
  | _ => .int
theorem nmX2 : ∀ a, a < 3 → ∀ b, b < 3 → a ≠ b → (TX2 a).2.1 ≠ (TX2 b).2.1 := by decide +kernel
theorem tyX2_ok : ∀ k, k < 3 → parseFieldDescriptor (TX2 k).2.2.1 = some (tyX2 k) := by decide +kernel
abbrev cX2_init : ByteArray := prog_4_method_1_code
def yX2_init : MethodName := ⟨RX2, "<init>", "()V"⟩
abbrev cX2_read : ByteArray := prog_4_method_2_code
def yX2_read : MethodName := ⟨RX2, "read", "([CII)Z"⟩
abbrev cX2_next : ByteArray := prog_4_method_3_code
def yX2_next : MethodName := ⟨RX2, "next", "()I"⟩
abbrev cX2_doOn : ByteArray := prog_4_method_4_code
def yX2_doOn : MethodName := ⟨RX2, "doOn", "(LOnlineRooms$Board;)I"⟩
abbrev cX2_readKind : ByteArray := prog_4_method_5_code
def yX2_readKind : MethodName := ⟨RX2, "readKind", "([CI)I"⟩
abbrev cX2_readNumber : ByteArray := prog_4_method_6_code
def yX2_readNumber : MethodName := ⟨RX2, "readNumber", "([CII)Z"⟩
abbrev cX2_readSign : ByteArray := prog_4_method_7_code
def yX2_readSign : MethodName := ⟨RX2, "readSign", "([CIC)Z"⟩
abbrev cX2_isDigitLeft : ByteArray := prog_4_method_8_code
def yX2_isDigitLeft : MethodName := ⟨RX2, "isDigitLeft", "([CI)Z"⟩
abbrev cX2_isSignLeft : ByteArray := prog_4_method_9_code
def yX2_isSignLeft : MethodName := ⟨RX2, "isSignLeft", "([CI)Z"⟩
def RX3 : String := "OnlineRooms$Script"
def TX3 : u_T := fun k => match k with
  | 0 => ("OnlineRooms$Script", "signs", "[C", true)
  | 1 => ("OnlineRooms$Script", "order", "LOnlineRooms$Order;", true)
  | 2 => ("OnlineRooms$Script", "length", "I", false)
  | 3 => ("OnlineRooms$Script", "orders", "I", false)
  | 4 => ("OnlineRooms$Script", "position", "I", false)
  | 5 => ("OnlineRooms$Script", "reason", "I", false)
  | _ => ("OnlineRooms$Script", "cause", "I", false)
def tyX3 : Nat → FieldType := fun k => match k with
  | 0 => .array .char
  | 1 => .object "OnlineRooms$Order"
  | 2 => .int
  | 3 => .int
  | 4 => .int
  | 5 => .int
  | _ => .int
theorem nmX3 : ∀ a, a < 7 → ∀ b, b < 7 → a ≠ b → (TX3 a).2.1 ≠ (TX3 b).2.1 := by decide +kernel
theorem tyX3_ok : ∀ k, k < 7 → parseFieldDescriptor (TX3 k).2.2.1 = some (tyX3 k) := by decide +kernel
abbrev cX3_init : ByteArray := prog_5_method_1_code
def yX3_init : MethodName := ⟨RX3, "<init>", "()V"⟩
abbrev cX3_append : ByteArray := prog_5_method_2_code
def yX3_append : MethodName := ⟨RX3, "append", "(C)I"⟩
abbrev cX3_clear : ByteArray := prog_5_method_3_code
def yX3_clear : MethodName := ⟨RX3, "clear", "()I"⟩
abbrev cX3_size : ByteArray := prog_5_method_4_code
def yX3_size : MethodName := ⟨RX3, "size", "()I"⟩
abbrev cX3_runOn : ByteArray := prog_5_method_5_code
def yX3_runOn : MethodName := ⟨RX3, "runOn", "(LOnlineRooms$Board;)Z"⟩
abbrev cX3_stopAt : ByteArray := prog_5_method_6_code
def yX3_stopAt : MethodName := ⟨RX3, "stopAt", "(III)Z"⟩
abbrev cX3_ordersDone : ByteArray := prog_5_method_7_code
def yX3_ordersDone : MethodName := ⟨RX3, "ordersDone", "()I"⟩
abbrev cX3_ofFault : ByteArray := prog_5_method_8_code
def yX3_ofFault : MethodName := ⟨RX3, "ofFault", "(I)I"⟩
def RX4 : String := "OnlineRooms"
def TX4 : u_T := fun k => match k with
  | 0 => ("OnlineRooms", "now", "LOnlineRooms$Board;", true)
  | 1 => ("OnlineRooms", "trial", "LOnlineRooms$Board;", true)
  | 2 => ("OnlineRooms", "history", "LOnlineRooms$History;", true)
  | _ => ("OnlineRooms", "script", "LOnlineRooms$Script;", true)
def tyX4 : Nat → FieldType := fun k => match k with
  | 0 => .object "OnlineRooms$Board"
  | 1 => .object "OnlineRooms$Board"
  | 2 => .object "OnlineRooms$History"
  | _ => .object "OnlineRooms$Script"
theorem nmX4 : ∀ a, a < 4 → ∀ b, b < 4 → a ≠ b → (TX4 a).2.1 ≠ (TX4 b).2.1 := by decide +kernel
theorem tyX4_ok : ∀ k, k < 4 → parseFieldDescriptor (TX4 k).2.2.1 = some (tyX4 k) := by decide +kernel
abbrev cX4_init : ByteArray := prog_1_method_1_code
def yX4_init : MethodName := ⟨RX4, "<init>", "()V"⟩
abbrev cX4_talk : ByteArray := prog_1_method_2_code
def yX4_talk : MethodName := ⟨RX4, "talk", "(III)I"⟩
abbrev cX4_withdraw : ByteArray := prog_1_method_3_code
def yX4_withdraw : MethodName := ⟨RX4, "withdraw", "(I)I"⟩
abbrev cX4_move : ByteArray := prog_1_method_4_code
def yX4_move : MethodName := ⟨RX4, "move", "(II)I"⟩
abbrev cX4_room : ByteArray := prog_1_method_5_code
def yX4_room : MethodName := ⟨RX4, "room", "(III)I"⟩
abbrev cX4_close : ByteArray := prog_1_method_6_code
def yX4_close : MethodName := ⟨RX4, "close", "(I)I"⟩
abbrev cX4_anew : ByteArray := prog_1_method_7_code
def yX4_anew : MethodName := ⟨RX4, "anew", "()I"⟩
abbrev cX4_set : ByteArray := prog_1_method_8_code
def yX4_set : MethodName := ⟨RX4, "set", "(II)I"⟩
abbrev cX4_talkOf : ByteArray := prog_1_method_9_code
def yX4_talkOf : MethodName := ⟨RX4, "talkOf", "(II)I"⟩
abbrev cX4_roomOf : ByteArray := prog_1_method_10_code
def yX4_roomOf : MethodName := ⟨RX4, "roomOf", "(II)I"⟩
abbrev cX4_at : ByteArray := prog_1_method_11_code
def yX4_at : MethodName := ⟨RX4, "at", "(II)I"⟩
abbrev cX4_hourOf : ByteArray := prog_1_method_12_code
def yX4_hourOf : MethodName := ⟨RX4, "hourOf", "(II)I"⟩
abbrev cX4_would : ByteArray := prog_1_method_13_code
def yX4_would : MethodName := ⟨RX4, "would", "(IIII)I"⟩
abbrev cX4_known : ByteArray := prog_1_method_14_code
def yX4_known : MethodName := ⟨RX4, "known", "(II)I"⟩
abbrev cX4_unknowing : ByteArray := prog_1_method_15_code
def yX4_unknowing : MethodName := ⟨RX4, "unknowing", "()I"⟩
abbrev cX4_share : ByteArray := prog_1_method_16_code
def yX4_share : MethodName := ⟨RX4, "share", "()I"⟩
abbrev cX4_bestRule : ByteArray := prog_1_method_17_code
def yX4_bestRule : MethodName := ⟨RX4, "bestRule", "(I)I"⟩
abbrev cX4_emptied : ByteArray := prog_1_method_18_code
def yX4_emptied : MethodName := ⟨RX4, "emptied", "(I)I"⟩
abbrev cX4_count : ByteArray := prog_1_method_19_code
def yX4_count : MethodName := ⟨RX4, "count", "(I)I"⟩
abbrev cX4_undo : ByteArray := prog_1_method_20_code
def yX4_undo : MethodName := ⟨RX4, "undo", "()I"⟩
abbrev cX4_type : ByteArray := prog_1_method_21_code
def yX4_type : MethodName := ⟨RX4, "type", "(I)I"⟩
abbrev cX4_clearText : ByteArray := prog_1_method_22_code
def yX4_clearText : MethodName := ⟨RX4, "clearText", "()I"⟩
abbrev cX4_fault : ByteArray := prog_1_method_23_code
def yX4_fault : MethodName := ⟨RX4, "fault", "(I)I"⟩
abbrev cX4_play : ByteArray := prog_1_method_24_code
def yX4_play : MethodName := ⟨RX4, "play", "()I"⟩
abbrev cX4_keepTrial : ByteArray := prog_1_method_25_code
def yX4_keepTrial : MethodName := ⟨RX4, "keepTrial", "(I)I"⟩
abbrev cX4_tryAnew : ByteArray := prog_1_method_26_code
def yX4_tryAnew : MethodName := ⟨RX4, "tryAnew", "(I)I"⟩
abbrev cX4_couldBeEmptied : ByteArray := prog_1_method_27_code
def yX4_couldBeEmptied : MethodName := ⟨RX4, "couldBeEmptied", "(I)Z"⟩
abbrev cX4_isTalk : ByteArray := prog_1_method_28_code
def yX4_isTalk : MethodName := ⟨RX4, "isTalk", "(III)Z"⟩
abbrev cX4_isHour : ByteArray := prog_1_method_29_code
def yX4_isHour : MethodName := ⟨RX4, "isHour", "(I)Z"⟩
abbrev cX4_isSize : ByteArray := prog_1_method_30_code
def yX4_isSize : MethodName := ⟨RX4, "isSize", "(I)Z"⟩
abbrev cX4_isRoom : ByteArray := prog_1_method_31_code
def yX4_isRoom : MethodName := ⟨RX4, "isRoom", "(I)Z"⟩
abbrev cX4_isRule : ByteArray := prog_1_method_32_code
def yX4_isRule : MethodName := ⟨RX4, "isRule", "(I)Z"⟩
abbrev cX4_bitsOf : ByteArray := prog_1_method_33_code
def yX4_bitsOf : MethodName := ⟨RX4, "bitsOf", "(F)I"⟩
def RX5 : String := "OnlineRoomsModel"
def TX5 : u_T := fun k => match k with
  | 0 => ("OnlineRoomsModel", "thrown", "I", false)
  | 1 => ("OnlineRoomsModel", "s", "[I", true)
  | 2 => ("OnlineRoomsModel", "aside", "[I", true)
  | 3 => ("OnlineRoomsModel", "saved", "[I", true)
  | 4 => ("OnlineRoomsModel", "savedMany", "I", false)
  | 5 => ("OnlineRoomsModel", "text", "[I", true)
  | 6 => ("OnlineRoomsModel", "length", "I", false)
  | 7 => ("OnlineRoomsModel", "isTold", "[Z", true)
  | 8 => ("OnlineRoomsModel", "price", "I", false)
  | 9 => ("OnlineRoomsModel", "opened", "I", false)
  | 10 => ("OnlineRoomsModel", "others", "I", false)
  | 11 => ("OnlineRoomsModel", "at", "I", false)
  | 12 => ("OnlineRoomsModel", "isWell", "Z", false)
  | 13 => ("OnlineRoomsModel", "place", "I", false)
  | 14 => ("OnlineRoomsModel", "why", "I", false)
  | 15 => ("OnlineRoomsModel", "cause", "I", false)
  | _ => ("OnlineRoomsModel", "orders", "I", false)
def tyX5 : Nat → FieldType := fun k => match k with
  | 0 => .int
  | 1 => .array .int
  | 2 => .array .int
  | 3 => .array .int
  | 4 => .int
  | 5 => .array .int
  | 6 => .int
  | 7 => .array .boolean
  | 8 => .int
  | 9 => .int
  | 10 => .int
  | 11 => .int
  | 12 => .boolean
  | 13 => .int
  | 14 => .int
  | 15 => .int
  | _ => .int
theorem nmX5 : ∀ a, a < 17 → ∀ b, b < 17 → a ≠ b → (TX5 a).2.1 ≠ (TX5 b).2.1 := by decide +kernel
theorem tyX5_ok : ∀ k, k < 17 → parseFieldDescriptor (TX5 k).2.2.1 = some (tyX5 k) := by decide +kernel
abbrev cX5_init : ByteArray := prog_7_method_1_code
def yX5_init : MethodName := ⟨RX5, "<init>", "()V"⟩
abbrev cX5_in : ByteArray := prog_7_method_3_code
def yX5_in : MethodName := ⟨RX5, "in", "(III)Z"⟩
abbrev cX5_isRoom : ByteArray := prog_7_method_4_code
def yX5_isRoom : MethodName := ⟨RX5, "isRoom", "(I)Z"⟩
abbrev cX5_of : ByteArray := prog_7_method_5_code
def yX5_of : MethodName := ⟨RX5, "of", "(II)I"⟩
abbrev cX5_room0 : ByteArray := prog_7_method_6_code
def yX5_room0 : MethodName := ⟨RX5, "room0", "(II)I"⟩
abbrev cX5_isTalk : ByteArray := prog_7_method_7_code
def yX5_isTalk : MethodName := ⟨RX5, "isTalk", "(I)Z"⟩
abbrev cX5_isOpen : ByteArray := prog_7_method_8_code
def yX5_isOpen : MethodName := ⟨RX5, "isOpen", "(I)Z"⟩
abbrev cX5_records : ByteArray := prog_7_method_9_code
def yX5_records : MethodName := ⟨RX5, "records", "()V"⟩
abbrev cX5_putAside : ByteArray := prog_7_method_10_code
def yX5_putAside : MethodName := ⟨RX5, "putAside", "()V"⟩
abbrev cX5_takeBack : ByteArray := prog_7_method_11_code
def yX5_takeBack : MethodName := ⟨RX5, "takeBack", "()V"⟩
abbrev cX5_talkAt : ByteArray := prog_7_method_12_code
def yX5_talkAt : MethodName := ⟨RX5, "talkAt", "(II)I"⟩
abbrev cX5_canBe : ByteArray := prog_7_method_13_code
def yX5_canBe : MethodName := ⟨RX5, "canBe", "(IIIII)Z"⟩
abbrev cX5_taken : ByteArray := prog_7_method_14_code
def yX5_taken : MethodName := ⟨RX5, "taken", "(I)I"⟩
abbrev cX5_gap : ByteArray := prog_7_method_15_code
def yX5_gap : MethodName := ⟨RX5, "gap", "(II)I"⟩
abbrev cX5_worth : ByteArray := prog_7_method_16_code
def yX5_worth : MethodName := ⟨RX5, "worth", "(III)I"⟩
abbrev cX5_gets : ByteArray := prog_7_method_17_code
def yX5_gets : MethodName := ⟨RX5, "gets", "(IIII)I"⟩
abbrev cX5_dearness : ByteArray := prog_7_method_18_code
def yX5_dearness : MethodName := ⟨RX5, "dearness", "(I)I"⟩
abbrev cX5_opens : ByteArray := prog_7_method_19_code
def yX5_opens : MethodName := ⟨RX5, "opens", "(I)V"⟩
abbrev cX5_openMany : ByteArray := prog_7_method_20_code
def yX5_openMany : MethodName := ⟨RX5, "openMany", "()I"⟩
abbrev cX5_refusesTalk : ByteArray := prog_7_method_21_code
def yX5_refusesTalk : MethodName := ⟨RX5, "refusesTalk", "(III)I"⟩
abbrev cX5_tells : ByteArray := prog_7_method_22_code
def yX5_tells : MethodName := ⟨RX5, "tells", "(III)I"⟩
abbrev cX5_talk : ByteArray := prog_7_method_23_code
def yX5_talk : MethodName := ⟨RX5, "talk", "(III)I"⟩
abbrev cX5_withdraws : ByteArray := prog_7_method_24_code
def yX5_withdraws : MethodName := ⟨RX5, "withdraws", "(I)I"⟩
abbrev cX5_withdraw : ByteArray := prog_7_method_25_code
def yX5_withdraw : MethodName := ⟨RX5, "withdraw", "(I)I"⟩
abbrev cX5_canMove : ByteArray := prog_7_method_26_code
def yX5_canMove : MethodName := ⟨RX5, "canMove", "(II)Z"⟩
abbrev cX5_move : ByteArray := prog_7_method_27_code
def yX5_move : MethodName := ⟨RX5, "move", "(II)I"⟩
abbrev cX5_refusesRoom : ByteArray := prog_7_method_28_code
def yX5_refusesRoom : MethodName := ⟨RX5, "refusesRoom", "(III)I"⟩
abbrev cX5_laysRoom : ByteArray := prog_7_method_29_code
def yX5_laysRoom : MethodName := ⟨RX5, "laysRoom", "(III)I"⟩
abbrev cX5_room : ByteArray := prog_7_method_30_code
def yX5_room : MethodName := ⟨RX5, "room", "(III)I"⟩
abbrev cX5_talksIn : ByteArray := prog_7_method_31_code
def yX5_talksIn : MethodName := ⟨RX5, "talksIn", "(I)I"⟩
abbrev cX5_close : ByteArray := prog_7_method_32_code
def yX5_close : MethodName := ⟨RX5, "close", "(I)I"⟩
abbrev cX5_nextTalk : ByteArray := prog_7_method_33_code
def yX5_nextTalk : MethodName := ⟨RX5, "nextTalk", "()I"⟩
abbrev cX5_tellsAnew : ByteArray := prog_7_method_34_code
def yX5_tellsAnew : MethodName := ⟨RX5, "tellsAnew", "(I)Z"⟩
abbrev cX5_priceBy : ByteArray := prog_7_method_35_code
def yX5_priceBy : MethodName := ⟨RX5, "priceBy", "(I)I"⟩
abbrev cX5_anew : ByteArray := prog_7_method_36_code
def yX5_anew : MethodName := ⟨RX5, "anew", "()I"⟩
abbrev cX5_set : ByteArray := prog_7_method_37_code
def yX5_set : MethodName := ⟨RX5, "set", "(II)I"⟩
abbrev cX5_instead : ByteArray := prog_7_method_38_code
def yX5_instead : MethodName := ⟨RX5, "instead", "(I)I"⟩
abbrev cX5_beside : ByteArray := prog_7_method_39_code
def yX5_beside : MethodName := ⟨RX5, "beside", "(I)I"⟩
abbrev cX5_talkOf : ByteArray := prog_7_method_40_code
def yX5_talkOf : MethodName := ⟨RX5, "talkOf", "(II)I"⟩
abbrev cX5_ones : ByteArray := prog_7_method_41_code
def yX5_ones : MethodName := ⟨RX5, "ones", "(I)I"⟩
abbrev cX5_longestFree : ByteArray := prog_7_method_42_code
def yX5_longestFree : MethodName := ⟨RX5, "longestFree", "(I)I"⟩
abbrev cX5_roomOf : ByteArray := prog_7_method_43_code
def yX5_roomOf : MethodName := ⟨RX5, "roomOf", "(II)I"⟩
abbrev cX5_at : ByteArray := prog_7_method_44_code
def yX5_at : MethodName := ⟨RX5, "at", "(II)I"⟩
abbrev cX5_talksAt : ByteArray := prog_7_method_45_code
def yX5_talksAt : MethodName := ⟨RX5, "talksAt", "(I)I"⟩
abbrev cX5_freeAt : ByteArray := prog_7_method_46_code
def yX5_freeAt : MethodName := ⟨RX5, "freeAt", "(I)I"⟩
abbrev cX5_hourOf : ByteArray := prog_7_method_47_code
def yX5_hourOf : MethodName := ⟨RX5, "hourOf", "(II)I"⟩
abbrev cX5_would : ByteArray := prog_7_method_48_code
def yX5_would : MethodName := ⟨RX5, "would", "(IIII)I"⟩
abbrev cX5_known : ByteArray := prog_7_method_49_code
def yX5_known : MethodName := ⟨RX5, "known", "(II)I"⟩
abbrev cX5_unknowing : ByteArray := prog_7_method_50_code
def yX5_unknowing : MethodName := ⟨RX5, "unknowing", "()I"⟩
abbrev cX5_talks : ByteArray := prog_7_method_51_code
def yX5_talks : MethodName := ⟨RX5, "talks", "()I"⟩
abbrev cX5_share : ByteArray := prog_7_method_52_code
def yX5_share : MethodName := ⟨RX5, "share", "()I"⟩
abbrev cX5_bestRule : ByteArray := prog_7_method_53_code
def yX5_bestRule : MethodName := ⟨RX5, "bestRule", "(I)I"⟩
abbrev cX5_empties : ByteArray := prog_7_method_54_code
def yX5_empties : MethodName := ⟨RX5, "empties", "(I)Z"⟩
abbrev cX5_lowestFor : ByteArray := prog_7_method_55_code
def yX5_lowestFor : MethodName := ⟨RX5, "lowestFor", "(I)I"⟩
abbrev cX5_emptied : ByteArray := prog_7_method_56_code
def yX5_emptied : MethodName := ⟨RX5, "emptied", "(I)I"⟩
abbrev cX5_fewest : ByteArray := prog_7_method_57_code
def yX5_fewest : MethodName := ⟨RX5, "fewest", "()I"⟩
abbrev cX5_hoursTaken : ByteArray := prog_7_method_58_code
def yX5_hoursTaken : MethodName := ⟨RX5, "hoursTaken", "()I"⟩
abbrev cX5_count : ByteArray := prog_7_method_59_code
def yX5_count : MethodName := ⟨RX5, "count", "(I)I"⟩
abbrev cX5_undo : ByteArray := prog_7_method_60_code
def yX5_undo : MethodName := ⟨RX5, "undo", "()I"⟩
abbrev cX5_type : ByteArray := prog_7_method_61_code
def yX5_type : MethodName := ⟨RX5, "type", "(I)I"⟩
abbrev cX5_clearText : ByteArray := prog_7_method_62_code
def yX5_clearText : MethodName := ⟨RX5, "clearText", "()I"⟩
abbrev cX5_sign : ByteArray := prog_7_method_63_code
def yX5_sign : MethodName := ⟨RX5, "sign", "()I"⟩
abbrev cX5_wants : ByteArray := prog_7_method_64_code
def yX5_wants : MethodName := ⟨RX5, "wants", "(I)V"⟩
abbrev cX5_number : ByteArray := prog_7_method_65_code
def yX5_number : MethodName := ⟨RX5, "number", "()I"⟩
abbrev cX5_order : ByteArray := prog_7_method_66_code
def yX5_order : MethodName := ⟨RX5, "order", "()I"⟩
abbrev cX5_does : ByteArray := prog_7_method_67_code
def yX5_does : MethodName := ⟨RX5, "does", "(IIII)I"⟩
abbrev cX5_reads : ByteArray := prog_7_method_68_code
def yX5_reads : MethodName := ⟨RX5, "reads", "()I"⟩
abbrev cX5_fault : ByteArray := prog_7_method_69_code
def yX5_fault : MethodName := ⟨RX5, "fault", "(I)I"⟩
abbrev cX5_play : ByteArray := prog_7_method_70_code
def yX5_play : MethodName := ⟨RX5, "play", "()I"⟩
def RJxf58ca : String := "java/lang/Float"
def TJxf58ca : u_T := fun k => match k with
  | _ => ("", "", "", false)
def tyJxf58ca : Nat → FieldType := fun k => match k with
  | _ => .int
theorem nmJxf58ca : ∀ a, a < 0 → ∀ b, b < 0 → a ≠ b → (TJxf58ca a).2.1 ≠ (TJxf58ca b).2.1 := by decide +kernel
theorem tyJxf58ca_ok : ∀ k, k < 0 → parseFieldDescriptor (TJxf58ca k).2.2.1 = some (tyJxf58ca k) := by decide +kernel
abbrev cJxf58ca_isNaN_12338 : ByteArray := prog_8_method_6_code
def yJxf58ca_isNaN_12338 : MethodName := ⟨RJxf58ca, "isNaN", "(F)Z"⟩
abbrev cJxf58ca_floatToIntBits_5c35a : ByteArray := prog_8_method_24_code
def yJxf58ca_floatToIntBits_5c35a : MethodName := ⟨RJxf58ca, "floatToIntBits", "(F)I"⟩
def RJ6 : String := "java/lang/Integer"
def TJ6 : u_T := fun k => match k with
  | _ => ("", "", "", false)
def tyJ6 : Nat → FieldType := fun k => match k with
  | _ => .int
theorem nmJ6 : ∀ a, a < 0 → ∀ b, b < 0 → a ≠ b → (TJ6 a).2.1 ≠ (TJ6 b).2.1 := by decide +kernel
theorem tyJ6_ok : ∀ k, k < 0 → parseFieldDescriptor (TJ6 k).2.2.1 = some (tyJ6 k) := by decide +kernel
abbrev cJ6_bitCount_0f7a4 : ByteArray := prog_9_method_49_code
def yJ6_bitCount_0f7a4 : MethodName := ⟨RJ6, "bitCount", "(I)I"⟩
def RJ13 : String := "java/lang/Long"
def TJ13 : u_T := fun k => match k with
  | _ => ("", "", "", false)
def tyJ13 : Nat → FieldType := fun k => match k with
  | _ => .int
theorem nmJ13 : ∀ a, a < 0 → ∀ b, b < 0 → a ≠ b → (TJ13 a).2.1 ≠ (TJ13 b).2.1 := by decide +kernel
theorem tyJ13_ok : ∀ k, k < 0 → parseFieldDescriptor (TJ13 k).2.2.1 = some (tyJ13 k) := by decide +kernel
abbrev cJ13_bitCount_95d88 : ByteArray := prog_10_method_50_code
def yJ13_bitCount_95d88 : MethodName := ⟨RJ13, "bitCount", "(J)I"⟩
def RJ9 : String := "java/lang/Math"
def TJ9 : u_T := fun k => match k with
  | _ => ("", "", "", false)
def tyJ9 : Nat → FieldType := fun k => match k with
  | _ => .int
theorem nmJ9 : ∀ a, a < 0 → ∀ b, b < 0 → a ≠ b → (TJ9 a).2.1 ≠ (TJ9 b).2.1 := by decide +kernel
theorem tyJ9_ok : ∀ k, k < 0 → parseFieldDescriptor (TJ9 k).2.2.1 = some (tyJ9 k) := by decide +kernel
abbrev cJ9_max_7cf53 : ByteArray := prog_11_method_65_code
def yJ9_max_7cf53 : MethodName := ⟨RJ9, "max", "(II)I"⟩
abbrev cJ9_min_7cf53 : ByteArray := prog_11_method_69_code
def yJ9_min_7cf53 : MethodName := ⟨RJ9, "min", "(II)I"⟩
def RJ10 : String := "java/lang/System"
def TJ10 : u_T := fun k => match k with
  | _ => ("", "", "", false)
def tyJ10 : Nat → FieldType := fun k => match k with
  | _ => .int
theorem nmJ10 : ∀ a, a < 0 → ∀ b, b < 0 → a ≠ b → (TJ10 a).2.1 ≠ (TJ10 b).2.1 := by decide +kernel
theorem tyJ10_ok : ∀ k, k < 0 → parseFieldDescriptor (TJ10 k).2.2.1 = some (tyJ10 k) := by decide +kernel
def RL : String := "OnlineRoomsLaw"
abbrev cL_law : ByteArray := code
def yL_law : MethodName := ⟨RL, "law", "([I)Z"⟩
theorem dX0_init_0 : decode cX0_init 0 = .ok (.aload_n 0, 1) := by decide +kernel
theorem dX0_init_1 : decode cX0_init 1 = .ok (.invokespecial 3, 3) := by decide +kernel
theorem dX0_init_4 : decode cX0_init 4 = .ok (.aload_n 0, 1) := by decide +kernel
theorem dX0_init_5 : decode cX0_init 5 = .ok (.bipush 20, 2) := by decide +kernel
theorem dX0_init_7 : decode cX0_init 7 = .ok (.newarray .int, 2) := by decide +kernel
theorem dX0_init_9 : decode cX0_init 9 = .ok (.putfield 9, 3) := by decide +kernel
theorem dX0_init_12 : decode cX0_init 12 = .ok (.aload_n 0, 1) := by decide +kernel
theorem dX0_init_13 : decode cX0_init 13 = .ok (.bipush 20, 2) := by decide +kernel
theorem dX0_init_15 : decode cX0_init 15 = .ok (.newarray .int, 2) := by decide +kernel
theorem dX0_init_17 : decode cX0_init 17 = .ok (.putfield 15, 3) := by decide +kernel
theorem dX0_init_20 : decode cX0_init 20 = .ok (.aload_n 0, 1) := by decide +kernel
theorem dX0_init_21 : decode cX0_init 21 = .ok (.bipush 20, 2) := by decide +kernel
theorem dX0_init_23 : decode cX0_init 23 = .ok (.newarray .int, 2) := by decide +kernel
theorem dX0_init_25 : decode cX0_init 25 = .ok (.putfield 18, 3) := by decide +kernel
theorem dX0_init_28 : decode cX0_init 28 = .ok (.aload_n 0, 1) := by decide +kernel
theorem dX0_init_29 : decode cX0_init 29 = .ok (.bipush 20, 2) := by decide +kernel
theorem dX0_init_31 : decode cX0_init 31 = .ok (.newarray .int, 2) := by decide +kernel
theorem dX0_init_33 : decode cX0_init 33 = .ok (.putfield 21, 3) := by decide +kernel
theorem dX0_init_36 : decode cX0_init 36 = .ok (.aload_n 0, 1) := by decide +kernel
theorem dX0_init_37 : decode cX0_init 37 = .ok (.bipush 8, 2) := by decide +kernel
theorem dX0_init_39 : decode cX0_init 39 = .ok (.newarray .int, 2) := by decide +kernel
theorem dX0_init_41 : decode cX0_init 41 = .ok (.putfield 24, 3) := by decide +kernel
theorem dX0_init_44 : decode cX0_init 44 = .ok (.aload_n 0, 1) := by decide +kernel
theorem dX0_init_45 : decode cX0_init 45 = .ok (.bipush 8, 2) := by decide +kernel
theorem dX0_init_47 : decode cX0_init 47 = .ok (.newarray .int, 2) := by decide +kernel
theorem dX0_init_49 : decode cX0_init 49 = .ok (.putfield 27, 3) := by decide +kernel
theorem dX0_init_52 : decode cX0_init 52 = .ok (.aload_n 0, 1) := by decide +kernel
theorem dX0_init_53 : decode cX0_init 53 = .ok (.bipush 8, 2) := by decide +kernel
theorem dX0_init_55 : decode cX0_init 55 = .ok (.newarray .long, 2) := by decide +kernel
theorem dX0_init_57 : decode cX0_init 57 = .ok (.putfield 30, 3) := by decide +kernel
theorem dX0_init_60 : decode cX0_init 60 = .ok (.iconst 0, 1) := by decide +kernel
theorem dX0_init_61 : decode cX0_init 61 = .ok (.istore_n 1, 1) := by decide +kernel
theorem dX0_init_62 : decode cX0_init 62 = .ok (.iload_n 1, 1) := by decide +kernel
theorem dX0_init_63 : decode cX0_init 63 = .ok (.bipush 20, 2) := by decide +kernel
theorem dX0_init_65 : decode cX0_init 65 = .ok (.if_icmp .ge 16, 3) := by decide +kernel
theorem dX0_init_68 : decode cX0_init 68 = .ok (.aload_n 0, 1) := by decide +kernel
theorem dX0_init_69 : decode cX0_init 69 = .ok (.getfield 21, 3) := by decide +kernel
theorem dX0_init_72 : decode cX0_init 72 = .ok (.iload_n 1, 1) := by decide +kernel
theorem dX0_init_73 : decode cX0_init 73 = .ok (.iconst (-1), 1) := by decide +kernel
theorem dX0_init_74 : decode cX0_init 74 = .ok (.iastore, 1) := by decide +kernel
theorem dX0_init_75 : decode cX0_init 75 = .ok (.iinc 1 1, 3) := by decide +kernel
theorem dX0_init_78 : decode cX0_init 78 = .ok (.goto (-16), 3) := by decide +kernel
theorem dX0_init_81 : decode cX0_init 81 = .ok (.iconst 0, 1) := by decide +kernel
theorem dX0_init_82 : decode cX0_init 82 = .ok (.istore_n 1, 1) := by decide +kernel
theorem dX0_init_83 : decode cX0_init 83 = .ok (.iload_n 1, 1) := by decide +kernel
theorem dX0_init_84 : decode cX0_init 84 = .ok (.bipush 8, 2) := by decide +kernel
theorem dX0_init_86 : decode cX0_init 86 = .ok (.if_icmp .ge 25, 3) := by decide +kernel
theorem dX0_init_89 : decode cX0_init 89 = .ok (.aload_n 0, 1) := by decide +kernel
theorem dX0_init_90 : decode cX0_init 90 = .ok (.getfield 24, 3) := by decide +kernel
theorem dX0_init_93 : decode cX0_init 93 = .ok (.iload_n 1, 1) := by decide +kernel
theorem dX0_init_94 : decode cX0_init 94 = .ok (.bipush 9, 2) := by decide +kernel
theorem dX0_init_96 : decode cX0_init 96 = .ok (.iastore, 1) := by decide +kernel
theorem dX0_init_97 : decode cX0_init 97 = .ok (.aload_n 0, 1) := by decide +kernel
theorem dX0_init_98 : decode cX0_init 98 = .ok (.getfield 27, 3) := by decide +kernel
theorem dX0_init_101 : decode cX0_init 101 = .ok (.iload_n 1, 1) := by decide +kernel
theorem dX0_init_102 : decode cX0_init 102 = .ok (.bipush 10, 2) := by decide +kernel
theorem dX0_init_104 : decode cX0_init 104 = .ok (.iastore, 1) := by decide +kernel
theorem dX0_init_105 : decode cX0_init 105 = .ok (.iinc 1 1, 3) := by decide +kernel
theorem dX0_init_108 : decode cX0_init 108 = .ok (.goto (-25), 3) := by decide +kernel
theorem dX0_init_111 : decode cX0_init 111 = .ok (.return_, 1) := by decide +kernel
theorem dX0_copyFrom_0 : decode cX0_copyFrom 0 = .ok (.aload_n 1, 1) := by decide +kernel
theorem dX0_copyFrom_1 : decode cX0_copyFrom 1 = .ok (.getfield 9, 3) := by decide +kernel
theorem dX0_copyFrom_4 : decode cX0_copyFrom 4 = .ok (.iconst 0, 1) := by decide +kernel
theorem dX0_copyFrom_5 : decode cX0_copyFrom 5 = .ok (.aload_n 0, 1) := by decide +kernel
theorem dX0_copyFrom_6 : decode cX0_copyFrom 6 = .ok (.getfield 9, 3) := by decide +kernel
theorem dX0_copyFrom_9 : decode cX0_copyFrom 9 = .ok (.iconst 0, 1) := by decide +kernel
theorem dX0_copyFrom_10 : decode cX0_copyFrom 10 = .ok (.bipush 20, 2) := by decide +kernel
theorem dX0_copyFrom_12 : decode cX0_copyFrom 12 = .ok (.invokestatic 34, 3) := by decide +kernel
theorem dX0_copyFrom_15 : decode cX0_copyFrom 15 = .ok (.aload_n 1, 1) := by decide +kernel
theorem dX0_copyFrom_16 : decode cX0_copyFrom 16 = .ok (.getfield 15, 3) := by decide +kernel
theorem dX0_copyFrom_19 : decode cX0_copyFrom 19 = .ok (.iconst 0, 1) := by decide +kernel
theorem dX0_copyFrom_20 : decode cX0_copyFrom 20 = .ok (.aload_n 0, 1) := by decide +kernel
theorem dX0_copyFrom_21 : decode cX0_copyFrom 21 = .ok (.getfield 15, 3) := by decide +kernel
theorem dX0_copyFrom_24 : decode cX0_copyFrom 24 = .ok (.iconst 0, 1) := by decide +kernel
theorem dX0_copyFrom_25 : decode cX0_copyFrom 25 = .ok (.bipush 20, 2) := by decide +kernel
theorem dX0_copyFrom_27 : decode cX0_copyFrom 27 = .ok (.invokestatic 34, 3) := by decide +kernel
theorem dX0_copyFrom_30 : decode cX0_copyFrom 30 = .ok (.aload_n 1, 1) := by decide +kernel
theorem dX0_copyFrom_31 : decode cX0_copyFrom 31 = .ok (.getfield 18, 3) := by decide +kernel
theorem dX0_copyFrom_34 : decode cX0_copyFrom 34 = .ok (.iconst 0, 1) := by decide +kernel
theorem dX0_copyFrom_35 : decode cX0_copyFrom 35 = .ok (.aload_n 0, 1) := by decide +kernel
theorem dX0_copyFrom_36 : decode cX0_copyFrom 36 = .ok (.getfield 18, 3) := by decide +kernel
theorem dX0_copyFrom_39 : decode cX0_copyFrom 39 = .ok (.iconst 0, 1) := by decide +kernel
theorem dX0_copyFrom_40 : decode cX0_copyFrom 40 = .ok (.bipush 20, 2) := by decide +kernel
theorem dX0_copyFrom_42 : decode cX0_copyFrom 42 = .ok (.invokestatic 34, 3) := by decide +kernel
theorem dX0_copyFrom_45 : decode cX0_copyFrom 45 = .ok (.aload_n 1, 1) := by decide +kernel
theorem dX0_copyFrom_46 : decode cX0_copyFrom 46 = .ok (.getfield 21, 3) := by decide +kernel
theorem dX0_copyFrom_49 : decode cX0_copyFrom 49 = .ok (.iconst 0, 1) := by decide +kernel
theorem dX0_copyFrom_50 : decode cX0_copyFrom 50 = .ok (.aload_n 0, 1) := by decide +kernel
theorem dX0_copyFrom_51 : decode cX0_copyFrom 51 = .ok (.getfield 21, 3) := by decide +kernel
theorem dX0_copyFrom_54 : decode cX0_copyFrom 54 = .ok (.iconst 0, 1) := by decide +kernel
theorem dX0_copyFrom_55 : decode cX0_copyFrom 55 = .ok (.bipush 20, 2) := by decide +kernel
theorem dX0_copyFrom_57 : decode cX0_copyFrom 57 = .ok (.invokestatic 34, 3) := by decide +kernel
theorem dX0_copyFrom_60 : decode cX0_copyFrom 60 = .ok (.aload_n 1, 1) := by decide +kernel
theorem dX0_copyFrom_61 : decode cX0_copyFrom 61 = .ok (.getfield 24, 3) := by decide +kernel
theorem dX0_copyFrom_64 : decode cX0_copyFrom 64 = .ok (.iconst 0, 1) := by decide +kernel
theorem dX0_copyFrom_65 : decode cX0_copyFrom 65 = .ok (.aload_n 0, 1) := by decide +kernel
theorem dX0_copyFrom_66 : decode cX0_copyFrom 66 = .ok (.getfield 24, 3) := by decide +kernel
theorem dX0_copyFrom_69 : decode cX0_copyFrom 69 = .ok (.iconst 0, 1) := by decide +kernel
theorem dX0_copyFrom_70 : decode cX0_copyFrom 70 = .ok (.bipush 8, 2) := by decide +kernel
theorem dX0_copyFrom_72 : decode cX0_copyFrom 72 = .ok (.invokestatic 34, 3) := by decide +kernel
theorem dX0_copyFrom_75 : decode cX0_copyFrom 75 = .ok (.aload_n 1, 1) := by decide +kernel
theorem dX0_copyFrom_76 : decode cX0_copyFrom 76 = .ok (.getfield 27, 3) := by decide +kernel
theorem dX0_copyFrom_79 : decode cX0_copyFrom 79 = .ok (.iconst 0, 1) := by decide +kernel
theorem dX0_copyFrom_80 : decode cX0_copyFrom 80 = .ok (.aload_n 0, 1) := by decide +kernel
theorem dX0_copyFrom_81 : decode cX0_copyFrom 81 = .ok (.getfield 27, 3) := by decide +kernel
theorem dX0_copyFrom_84 : decode cX0_copyFrom 84 = .ok (.iconst 0, 1) := by decide +kernel
theorem dX0_copyFrom_85 : decode cX0_copyFrom 85 = .ok (.bipush 8, 2) := by decide +kernel
theorem dX0_copyFrom_87 : decode cX0_copyFrom 87 = .ok (.invokestatic 34, 3) := by decide +kernel
theorem dX0_copyFrom_90 : decode cX0_copyFrom 90 = .ok (.aload_n 1, 1) := by decide +kernel
theorem dX0_copyFrom_91 : decode cX0_copyFrom 91 = .ok (.getfield 30, 3) := by decide +kernel
theorem dX0_copyFrom_94 : decode cX0_copyFrom 94 = .ok (.iconst 0, 1) := by decide +kernel
theorem dX0_copyFrom_95 : decode cX0_copyFrom 95 = .ok (.aload_n 0, 1) := by decide +kernel
theorem dX0_copyFrom_96 : decode cX0_copyFrom 96 = .ok (.getfield 30, 3) := by decide +kernel
theorem dX0_copyFrom_99 : decode cX0_copyFrom 99 = .ok (.iconst 0, 1) := by decide +kernel
theorem dX0_copyFrom_100 : decode cX0_copyFrom 100 = .ok (.bipush 8, 2) := by decide +kernel
theorem dX0_copyFrom_102 : decode cX0_copyFrom 102 = .ok (.invokestatic 34, 3) := by decide +kernel
theorem dX0_copyFrom_105 : decode cX0_copyFrom 105 = .ok (.aload_n 0, 1) := by decide +kernel
theorem dX0_copyFrom_106 : decode cX0_copyFrom 106 = .ok (.aload_n 1, 1) := by decide +kernel
theorem dX0_copyFrom_107 : decode cX0_copyFrom 107 = .ok (.getfield 40, 3) := by decide +kernel
theorem dX0_copyFrom_110 : decode cX0_copyFrom 110 = .ok (.putfield 40, 3) := by decide +kernel
theorem dX0_copyFrom_113 : decode cX0_copyFrom 113 = .ok (.aload_n 0, 1) := by decide +kernel
theorem dX0_copyFrom_114 : decode cX0_copyFrom 114 = .ok (.aload_n 1, 1) := by decide +kernel
theorem dX0_copyFrom_115 : decode cX0_copyFrom 115 = .ok (.getfield 44, 3) := by decide +kernel
theorem dX0_copyFrom_118 : decode cX0_copyFrom 118 = .ok (.putfield 44, 3) := by decide +kernel
theorem dX0_copyFrom_121 : decode cX0_copyFrom 121 = .ok (.aload_n 0, 1) := by decide +kernel
theorem dX0_copyFrom_122 : decode cX0_copyFrom 122 = .ok (.aload_n 1, 1) := by decide +kernel
theorem dX0_copyFrom_123 : decode cX0_copyFrom 123 = .ok (.getfield 47, 3) := by decide +kernel
theorem dX0_copyFrom_126 : decode cX0_copyFrom 126 = .ok (.putfield 47, 3) := by decide +kernel
theorem dX0_copyFrom_129 : decode cX0_copyFrom 129 = .ok (.aload_n 0, 1) := by decide +kernel
theorem dX0_copyFrom_130 : decode cX0_copyFrom 130 = .ok (.aload_n 1, 1) := by decide +kernel
theorem dX0_copyFrom_131 : decode cX0_copyFrom 131 = .ok (.getfield 50, 3) := by decide +kernel
theorem dX0_copyFrom_134 : decode cX0_copyFrom 134 = .ok (.putfield 50, 3) := by decide +kernel
theorem dX0_copyFrom_137 : decode cX0_copyFrom 137 = .ok (.aload_n 0, 1) := by decide +kernel
theorem dX0_copyFrom_138 : decode cX0_copyFrom 138 = .ok (.aload_n 1, 1) := by decide +kernel
theorem dX0_copyFrom_139 : decode cX0_copyFrom 139 = .ok (.getfield 53, 3) := by decide +kernel
theorem dX0_copyFrom_142 : decode cX0_copyFrom 142 = .ok (.putfield 53, 3) := by decide +kernel
theorem dX0_copyFrom_145 : decode cX0_copyFrom 145 = .ok (.aload_n 0, 1) := by decide +kernel
theorem dX0_copyFrom_146 : decode cX0_copyFrom 146 = .ok (.aload_n 1, 1) := by decide +kernel
theorem dX0_copyFrom_147 : decode cX0_copyFrom 147 = .ok (.getfield 56, 3) := by decide +kernel
theorem dX0_copyFrom_150 : decode cX0_copyFrom 150 = .ok (.putfield 56, 3) := by decide +kernel
theorem dX0_copyFrom_153 : decode cX0_copyFrom 153 = .ok (.return_, 1) := by decide +kernel
theorem dX0_tell_0 : decode cX0_tell 0 = .ok (.iload_n 1, 1) := by decide +kernel
theorem dX0_tell_1 : decode cX0_tell 1 = .ok (.iload_n 2, 1) := by decide +kernel
theorem dX0_tell_2 : decode cX0_tell 2 = .ok (.iload_n 3, 1) := by decide +kernel
theorem dX0_tell_3 : decode cX0_tell 3 = .ok (.invokestatic 59, 3) := by decide +kernel
theorem dX0_tell_6 : decode cX0_tell 6 = .ok (.ifCond .ne 6, 3) := by decide +kernel
theorem dX0_tell_9 : decode cX0_tell 9 = .ok (.ldc 63, 2) := by decide +kernel
theorem dX0_tell_11 : decode cX0_tell 11 = .ok (.ireturn, 1) := by decide +kernel
theorem dX0_tell_12 : decode cX0_tell 12 = .ok (.aload_n 0, 1) := by decide +kernel
theorem dX0_tell_13 : decode cX0_tell 13 = .ok (.iload_n 1, 1) := by decide +kernel
theorem dX0_tell_14 : decode cX0_tell 14 = .ok (.iload_n 2, 1) := by decide +kernel
theorem dX0_tell_15 : decode cX0_tell 15 = .ok (.iload_n 3, 1) := by decide +kernel
theorem dX0_tell_16 : decode cX0_tell 16 = .ok (.aload_n 0, 1) := by decide +kernel
theorem dX0_tell_17 : decode cX0_tell 17 = .ok (.getfield 56, 3) := by decide +kernel
theorem dX0_tell_20 : decode cX0_tell 20 = .ok (.invokevirtual 64, 3) := by decide +kernel
theorem dX0_tell_23 : decode cX0_tell 23 = .ok (.istore 4, 2) := by decide +kernel
theorem dX0_tell_25 : decode cX0_tell 25 = .ok (.iload 4, 2) := by decide +kernel
theorem dX0_tell_27 : decode cX0_tell 27 = .ok (.invokestatic 68, 3) := by decide +kernel
theorem dX0_tell_30 : decode cX0_tell 30 = .ok (.ifCond .ne 6, 3) := by decide +kernel
theorem dX0_tell_33 : decode cX0_tell 33 = .ok (.ldc 72, 2) := by decide +kernel
theorem dX0_tell_35 : decode cX0_tell 35 = .ok (.ireturn, 1) := by decide +kernel
theorem dX0_tell_36 : decode cX0_tell 36 = .ok (.aload_n 0, 1) := by decide +kernel
theorem dX0_tell_37 : decode cX0_tell 37 = .ok (.getfield 44, 3) := by decide +kernel
theorem dX0_tell_40 : decode cX0_tell 40 = .ok (.bipush 20, 2) := by decide +kernel
theorem dX0_tell_42 : decode cX0_tell 42 = .ok (.if_icmp .lt 6, 3) := by decide +kernel
theorem dX0_tell_45 : decode cX0_tell 45 = .ok (.ldc 73, 2) := by decide +kernel
theorem dX0_tell_47 : decode cX0_tell 47 = .ok (.ireturn, 1) := by decide +kernel
theorem dX0_tell_48 : decode cX0_tell 48 = .ok (.aload_n 0, 1) := by decide +kernel
theorem dX0_tell_49 : decode cX0_tell 49 = .ok (.getfield 9, 3) := by decide +kernel
theorem dX0_tell_52 : decode cX0_tell 52 = .ok (.aload_n 0, 1) := by decide +kernel
theorem dX0_tell_53 : decode cX0_tell 53 = .ok (.getfield 44, 3) := by decide +kernel
theorem dX0_tell_56 : decode cX0_tell 56 = .ok (.iload_n 1, 1) := by decide +kernel
theorem dX0_tell_57 : decode cX0_tell 57 = .ok (.iastore, 1) := by decide +kernel
theorem dX0_tell_58 : decode cX0_tell 58 = .ok (.aload_n 0, 1) := by decide +kernel
theorem dX0_tell_59 : decode cX0_tell 59 = .ok (.getfield 15, 3) := by decide +kernel
theorem dX0_tell_62 : decode cX0_tell 62 = .ok (.aload_n 0, 1) := by decide +kernel
theorem dX0_tell_63 : decode cX0_tell 63 = .ok (.getfield 44, 3) := by decide +kernel
theorem dX0_tell_66 : decode cX0_tell 66 = .ok (.iload_n 2, 1) := by decide +kernel
theorem dX0_tell_67 : decode cX0_tell 67 = .ok (.iastore, 1) := by decide +kernel
theorem dX0_tell_68 : decode cX0_tell 68 = .ok (.aload_n 0, 1) := by decide +kernel
theorem dX0_tell_69 : decode cX0_tell 69 = .ok (.getfield 18, 3) := by decide +kernel
theorem dX0_tell_72 : decode cX0_tell 72 = .ok (.aload_n 0, 1) := by decide +kernel
theorem dX0_tell_73 : decode cX0_tell 73 = .ok (.getfield 44, 3) := by decide +kernel
theorem dX0_tell_76 : decode cX0_tell 76 = .ok (.iload_n 3, 1) := by decide +kernel
theorem dX0_tell_77 : decode cX0_tell 77 = .ok (.iastore, 1) := by decide +kernel
theorem dX0_tell_78 : decode cX0_tell 78 = .ok (.aload_n 0, 1) := by decide +kernel
theorem dX0_tell_79 : decode cX0_tell 79 = .ok (.aload_n 0, 1) := by decide +kernel
theorem dX0_tell_80 : decode cX0_tell 80 = .ok (.getfield 44, 3) := by decide +kernel
theorem dX0_tell_83 : decode cX0_tell 83 = .ok (.iload 4, 2) := by decide +kernel
theorem dX0_tell_85 : decode cX0_tell 85 = .ok (.invokevirtual 74, 3) := by decide +kernel
theorem dX0_tell_88 : decode cX0_tell 88 = .ok (.aload_n 0, 1) := by decide +kernel
theorem dX0_tell_89 : decode cX0_tell 89 = .ok (.dup, 1) := by decide +kernel
theorem dX0_tell_90 : decode cX0_tell 90 = .ok (.getfield 44, 3) := by decide +kernel
theorem dX0_tell_93 : decode cX0_tell 93 = .ok (.iconst 1, 1) := by decide +kernel
theorem dX0_tell_94 : decode cX0_tell 94 = .ok (.iadd, 1) := by decide +kernel
theorem dX0_tell_95 : decode cX0_tell 95 = .ok (.putfield 44, 3) := by decide +kernel
theorem dX0_tell_98 : decode cX0_tell 98 = .ok (.iload 4, 2) := by decide +kernel
theorem dX0_tell_100 : decode cX0_tell 100 = .ok (.ireturn, 1) := by decide +kernel
theorem dX0_drop_0 : decode cX0_drop 0 = .ok (.aload_n 0, 1) := by decide +kernel
theorem dX0_drop_1 : decode cX0_drop 1 = .ok (.iload_n 1, 1) := by decide +kernel
theorem dX0_drop_2 : decode cX0_drop 2 = .ok (.invokevirtual 78, 3) := by decide +kernel
theorem dX0_drop_5 : decode cX0_drop 5 = .ok (.istore_n 2, 1) := by decide +kernel
theorem dX0_drop_6 : decode cX0_drop 6 = .ok (.iload_n 2, 1) := by decide +kernel
theorem dX0_drop_7 : decode cX0_drop 7 = .ok (.invokestatic 68, 3) := by decide +kernel
theorem dX0_drop_10 : decode cX0_drop 10 = .ok (.ifCond .ne 6, 3) := by decide +kernel
theorem dX0_drop_13 : decode cX0_drop 13 = .ok (.ldc 63, 2) := by decide +kernel
theorem dX0_drop_15 : decode cX0_drop 15 = .ok (.ireturn, 1) := by decide +kernel
theorem dX0_drop_16 : decode cX0_drop 16 = .ok (.aload_n 0, 1) := by decide +kernel
theorem dX0_drop_17 : decode cX0_drop 17 = .ok (.iload_n 1, 1) := by decide +kernel
theorem dX0_drop_18 : decode cX0_drop 18 = .ok (.iload_n 2, 1) := by decide +kernel
theorem dX0_drop_19 : decode cX0_drop 19 = .ok (.invokevirtual 82, 3) := by decide +kernel
theorem dX0_drop_22 : decode cX0_drop 22 = .ok (.aload_n 0, 1) := by decide +kernel
theorem dX0_drop_23 : decode cX0_drop 23 = .ok (.dup, 1) := by decide +kernel
theorem dX0_drop_24 : decode cX0_drop 24 = .ok (.getfield 47, 3) := by decide +kernel
theorem dX0_drop_27 : decode cX0_drop 27 = .ok (.iconst 1, 1) := by decide +kernel
theorem dX0_drop_28 : decode cX0_drop 28 = .ok (.iadd, 1) := by decide +kernel
theorem dX0_drop_29 : decode cX0_drop 29 = .ok (.putfield 47, 3) := by decide +kernel
theorem dX0_drop_32 : decode cX0_drop 32 = .ok (.iload_n 2, 1) := by decide +kernel
theorem dX0_drop_33 : decode cX0_drop 33 = .ok (.ireturn, 1) := by decide +kernel
theorem dX0_shift_0 : decode cX0_shift 0 = .ok (.aload_n 0, 1) := by decide +kernel
theorem dX0_shift_1 : decode cX0_shift 1 = .ok (.iload_n 1, 1) := by decide +kernel
theorem dX0_shift_2 : decode cX0_shift 2 = .ok (.invokevirtual 78, 3) := by decide +kernel
theorem dX0_shift_5 : decode cX0_shift 5 = .ok (.istore_n 3, 1) := by decide +kernel
theorem dX0_shift_6 : decode cX0_shift 6 = .ok (.iload_n 3, 1) := by decide +kernel
theorem dX0_shift_7 : decode cX0_shift 7 = .ok (.invokestatic 68, 3) := by decide +kernel
theorem dX0_shift_10 : decode cX0_shift 10 = .ok (.ifCond .eq 10, 3) := by decide +kernel
theorem dX0_shift_13 : decode cX0_shift 13 = .ok (.iload_n 2, 1) := by decide +kernel
theorem dX0_shift_14 : decode cX0_shift 14 = .ok (.invokestatic 68, 3) := by decide +kernel
theorem dX0_shift_17 : decode cX0_shift 17 = .ok (.ifCond .ne 6, 3) := by decide +kernel
theorem dX0_shift_20 : decode cX0_shift 20 = .ok (.ldc 63, 2) := by decide +kernel
theorem dX0_shift_22 : decode cX0_shift 22 = .ok (.ireturn, 1) := by decide +kernel
theorem dX0_shift_23 : decode cX0_shift 23 = .ok (.aload_n 0, 1) := by decide +kernel
theorem dX0_shift_24 : decode cX0_shift 24 = .ok (.iload_n 1, 1) := by decide +kernel
theorem dX0_shift_25 : decode cX0_shift 25 = .ok (.iload_n 2, 1) := by decide +kernel
theorem dX0_shift_26 : decode cX0_shift 26 = .ok (.invokevirtual 85, 3) := by decide +kernel
theorem dX0_shift_29 : decode cX0_shift 29 = .ok (.ifCond .ne 6, 3) := by decide +kernel
theorem dX0_shift_32 : decode cX0_shift 32 = .ok (.ldc 72, 2) := by decide +kernel
theorem dX0_shift_34 : decode cX0_shift 34 = .ok (.ireturn, 1) := by decide +kernel
theorem dX0_shift_35 : decode cX0_shift 35 = .ok (.aload_n 0, 1) := by decide +kernel
theorem dX0_shift_36 : decode cX0_shift 36 = .ok (.iload_n 1, 1) := by decide +kernel
theorem dX0_shift_37 : decode cX0_shift 37 = .ok (.iload_n 3, 1) := by decide +kernel
theorem dX0_shift_38 : decode cX0_shift 38 = .ok (.invokevirtual 82, 3) := by decide +kernel
theorem dX0_shift_41 : decode cX0_shift 41 = .ok (.aload_n 0, 1) := by decide +kernel
theorem dX0_shift_42 : decode cX0_shift 42 = .ok (.iload_n 1, 1) := by decide +kernel
theorem dX0_shift_43 : decode cX0_shift 43 = .ok (.iload_n 2, 1) := by decide +kernel
theorem dX0_shift_44 : decode cX0_shift 44 = .ok (.invokevirtual 74, 3) := by decide +kernel
theorem dX0_shift_47 : decode cX0_shift 47 = .ok (.iload_n 3, 1) := by decide +kernel
theorem dX0_shift_48 : decode cX0_shift 48 = .ok (.ireturn, 1) := by decide +kernel
theorem dX0_furnish_0 : decode cX0_furnish 0 = .ok (.iload_n 1, 1) := by decide +kernel
theorem dX0_furnish_1 : decode cX0_furnish 1 = .ok (.invokestatic 68, 3) := by decide +kernel
theorem dX0_furnish_4 : decode cX0_furnish 4 = .ok (.ifCond .eq 21, 3) := by decide +kernel
theorem dX0_furnish_7 : decode cX0_furnish 7 = .ok (.iload_n 2, 1) := by decide +kernel
theorem dX0_furnish_8 : decode cX0_furnish 8 = .ok (.invokestatic 89, 3) := by decide +kernel
theorem dX0_furnish_11 : decode cX0_furnish 11 = .ok (.ifCond .eq 14, 3) := by decide +kernel
theorem dX0_furnish_14 : decode cX0_furnish 14 = .ok (.iload_n 3, 1) := by decide +kernel
theorem dX0_furnish_15 : decode cX0_furnish 15 = .ok (.iconst 1, 1) := by decide +kernel
theorem dX0_furnish_16 : decode cX0_furnish 16 = .ok (.if_icmp .lt 9, 3) := by decide +kernel
theorem dX0_furnish_19 : decode cX0_furnish 19 = .ok (.iload_n 3, 1) := by decide +kernel
theorem dX0_furnish_20 : decode cX0_furnish 20 = .ok (.bipush 99, 2) := by decide +kernel
theorem dX0_furnish_22 : decode cX0_furnish 22 = .ok (.if_icmp .le 6, 3) := by decide +kernel
theorem dX0_furnish_25 : decode cX0_furnish 25 = .ok (.ldc 63, 2) := by decide +kernel
theorem dX0_furnish_27 : decode cX0_furnish 27 = .ok (.ireturn, 1) := by decide +kernel
theorem dX0_furnish_28 : decode cX0_furnish 28 = .ok (.aload_n 0, 1) := by decide +kernel
theorem dX0_furnish_29 : decode cX0_furnish 29 = .ok (.iload_n 1, 1) := by decide +kernel
theorem dX0_furnish_30 : decode cX0_furnish 30 = .ok (.invokevirtual 92, 3) := by decide +kernel
theorem dX0_furnish_33 : decode cX0_furnish 33 = .ok (.ifCond .eq 6, 3) := by decide +kernel
theorem dX0_furnish_36 : decode cX0_furnish 36 = .ok (.ldc 72, 2) := by decide +kernel
theorem dX0_furnish_38 : decode cX0_furnish 38 = .ok (.ireturn, 1) := by decide +kernel
theorem dX0_furnish_39 : decode cX0_furnish 39 = .ok (.bipush 100, 2) := by decide +kernel
theorem dX0_furnish_41 : decode cX0_furnish 41 = .ok (.aload_n 0, 1) := by decide +kernel
theorem dX0_furnish_42 : decode cX0_furnish 42 = .ok (.getfield 24, 3) := by decide +kernel
theorem dX0_furnish_45 : decode cX0_furnish 45 = .ok (.iload_n 1, 1) := by decide +kernel
theorem dX0_furnish_46 : decode cX0_furnish 46 = .ok (.iaload, 1) := by decide +kernel
theorem dX0_furnish_47 : decode cX0_furnish 47 = .ok (.imul, 1) := by decide +kernel
theorem dX0_furnish_48 : decode cX0_furnish 48 = .ok (.aload_n 0, 1) := by decide +kernel
theorem dX0_furnish_49 : decode cX0_furnish 49 = .ok (.getfield 27, 3) := by decide +kernel
theorem dX0_furnish_52 : decode cX0_furnish 52 = .ok (.iload_n 1, 1) := by decide +kernel
theorem dX0_furnish_53 : decode cX0_furnish 53 = .ok (.iaload, 1) := by decide +kernel
theorem dX0_furnish_54 : decode cX0_furnish 54 = .ok (.iadd, 1) := by decide +kernel
theorem dX0_furnish_55 : decode cX0_furnish 55 = .ok (.istore 4, 2) := by decide +kernel
theorem dX0_furnish_57 : decode cX0_furnish 57 = .ok (.aload_n 0, 1) := by decide +kernel
theorem dX0_furnish_58 : decode cX0_furnish 58 = .ok (.getfield 24, 3) := by decide +kernel
theorem dX0_furnish_61 : decode cX0_furnish 61 = .ok (.iload_n 1, 1) := by decide +kernel
theorem dX0_furnish_62 : decode cX0_furnish 62 = .ok (.iload_n 2, 1) := by decide +kernel
theorem dX0_furnish_63 : decode cX0_furnish 63 = .ok (.iastore, 1) := by decide +kernel
theorem dX0_furnish_64 : decode cX0_furnish 64 = .ok (.aload_n 0, 1) := by decide +kernel
theorem dX0_furnish_65 : decode cX0_furnish 65 = .ok (.getfield 27, 3) := by decide +kernel
theorem dX0_furnish_68 : decode cX0_furnish 68 = .ok (.iload_n 1, 1) := by decide +kernel
theorem dX0_furnish_69 : decode cX0_furnish 69 = .ok (.iload_n 3, 1) := by decide +kernel
theorem dX0_furnish_70 : decode cX0_furnish 70 = .ok (.iastore, 1) := by decide +kernel
theorem dX0_furnish_71 : decode cX0_furnish 71 = .ok (.iload 4, 2) := by decide +kernel
theorem dX0_furnish_73 : decode cX0_furnish 73 = .ok (.ireturn, 1) := by decide +kernel
theorem dX0_shut_0 : decode cX0_shut 0 = .ok (.iload_n 1, 1) := by decide +kernel
theorem dX0_shut_1 : decode cX0_shut 1 = .ok (.invokestatic 68, 3) := by decide +kernel
theorem dX0_shut_4 : decode cX0_shut 4 = .ok (.ifCond .ne 6, 3) := by decide +kernel
theorem dX0_shut_7 : decode cX0_shut 7 = .ok (.ldc 63, 2) := by decide +kernel
theorem dX0_shut_9 : decode cX0_shut 9 = .ok (.ireturn, 1) := by decide +kernel
theorem dX0_shut_10 : decode cX0_shut 10 = .ok (.aload_n 0, 1) := by decide +kernel
theorem dX0_shut_11 : decode cX0_shut 11 = .ok (.iload_n 1, 1) := by decide +kernel
theorem dX0_shut_12 : decode cX0_shut 12 = .ok (.invokevirtual 92, 3) := by decide +kernel
theorem dX0_shut_15 : decode cX0_shut 15 = .ok (.ifCond .eq 14, 3) := by decide +kernel
theorem dX0_shut_18 : decode cX0_shut 18 = .ok (.aload_n 0, 1) := by decide +kernel
theorem dX0_shut_19 : decode cX0_shut 19 = .ok (.getfield 30, 3) := by decide +kernel
theorem dX0_shut_22 : decode cX0_shut 22 = .ok (.iload_n 1, 1) := by decide +kernel
theorem dX0_shut_23 : decode cX0_shut 23 = .ok (.laload, 1) := by decide +kernel
theorem dX0_shut_24 : decode cX0_shut 24 = .ok (.lconst 0, 1) := by decide +kernel
theorem dX0_shut_25 : decode cX0_shut 25 = .ok (.lcmp, 1) := by decide +kernel
theorem dX0_shut_26 : decode cX0_shut 26 = .ok (.ifCond .eq 6, 3) := by decide +kernel
theorem dX0_shut_29 : decode cX0_shut 29 = .ok (.ldc 72, 2) := by decide +kernel
theorem dX0_shut_31 : decode cX0_shut 31 = .ok (.ireturn, 1) := by decide +kernel
theorem dX0_shut_32 : decode cX0_shut 32 = .ok (.aload_n 0, 1) := by decide +kernel
theorem dX0_shut_33 : decode cX0_shut 33 = .ok (.dup, 1) := by decide +kernel
theorem dX0_shut_34 : decode cX0_shut 34 = .ok (.getfield 40, 3) := by decide +kernel
theorem dX0_shut_37 : decode cX0_shut 37 = .ok (.iconst 1, 1) := by decide +kernel
theorem dX0_shut_38 : decode cX0_shut 38 = .ok (.iload_n 1, 1) := by decide +kernel
theorem dX0_shut_39 : decode cX0_shut 39 = .ok (.ishl, 1) := by decide +kernel
theorem dX0_shut_40 : decode cX0_shut 40 = .ok (.iconst (-1), 1) := by decide +kernel
theorem dX0_shut_41 : decode cX0_shut 41 = .ok (.ixor, 1) := by decide +kernel
theorem dX0_shut_42 : decode cX0_shut 42 = .ok (.iand, 1) := by decide +kernel
theorem dX0_shut_43 : decode cX0_shut 43 = .ok (.putfield 40, 3) := by decide +kernel
theorem dX0_shut_46 : decode cX0_shut 46 = .ok (.aload_n 0, 1) := by decide +kernel
theorem dX0_shut_47 : decode cX0_shut 47 = .ok (.invokevirtual 95, 3) := by decide +kernel
theorem dX0_shut_50 : decode cX0_shut 50 = .ok (.ireturn, 1) := by decide +kernel
theorem dX0_chooseRule_0 : decode cX0_chooseRule 0 = .ok (.iload_n 1, 1) := by decide +kernel
theorem dX0_chooseRule_1 : decode cX0_chooseRule 1 = .ok (.invokestatic 99, 3) := by decide +kernel
theorem dX0_chooseRule_4 : decode cX0_chooseRule 4 = .ok (.ifCond .ne 6, 3) := by decide +kernel
theorem dX0_chooseRule_7 : decode cX0_chooseRule 7 = .ok (.ldc 63, 2) := by decide +kernel
theorem dX0_chooseRule_9 : decode cX0_chooseRule 9 = .ok (.ireturn, 1) := by decide +kernel
theorem dX0_chooseRule_10 : decode cX0_chooseRule 10 = .ok (.aload_n 0, 1) := by decide +kernel
theorem dX0_chooseRule_11 : decode cX0_chooseRule 11 = .ok (.getfield 56, 3) := by decide +kernel
theorem dX0_chooseRule_14 : decode cX0_chooseRule 14 = .ok (.istore_n 2, 1) := by decide +kernel
theorem dX0_chooseRule_15 : decode cX0_chooseRule 15 = .ok (.aload_n 0, 1) := by decide +kernel
theorem dX0_chooseRule_16 : decode cX0_chooseRule 16 = .ok (.iload_n 1, 1) := by decide +kernel
theorem dX0_chooseRule_17 : decode cX0_chooseRule 17 = .ok (.putfield 56, 3) := by decide +kernel
theorem dX0_chooseRule_20 : decode cX0_chooseRule 20 = .ok (.iload_n 2, 1) := by decide +kernel
theorem dX0_chooseRule_21 : decode cX0_chooseRule 21 = .ok (.ireturn, 1) := by decide +kernel
theorem dX0_tellAnew_0 : decode cX0_tellAnew 0 = .ok (.aload_n 0, 1) := by decide +kernel
theorem dX0_tellAnew_1 : decode cX0_tellAnew 1 = .ok (.invokevirtual 102, 3) := by decide +kernel
theorem dX0_tellAnew_4 : decode cX0_tellAnew 4 = .ok (.iconst 0, 1) := by decide +kernel
theorem dX0_tellAnew_5 : decode cX0_tellAnew 5 = .ok (.istore_n 2, 1) := by decide +kernel
theorem dX0_tellAnew_6 : decode cX0_tellAnew 6 = .ok (.iload_n 2, 1) := by decide +kernel
theorem dX0_tellAnew_7 : decode cX0_tellAnew 7 = .ok (.bipush 48, 2) := by decide +kernel
theorem dX0_tellAnew_9 : decode cX0_tellAnew 9 = .ok (.if_icmp .ge 81, 3) := by decide +kernel
theorem dX0_tellAnew_12 : decode cX0_tellAnew 12 = .ok (.iconst 0, 1) := by decide +kernel
theorem dX0_tellAnew_13 : decode cX0_tellAnew 13 = .ok (.istore_n 3, 1) := by decide +kernel
theorem dX0_tellAnew_14 : decode cX0_tellAnew 14 = .ok (.iload_n 3, 1) := by decide +kernel
theorem dX0_tellAnew_15 : decode cX0_tellAnew 15 = .ok (.bipush 20, 2) := by decide +kernel
theorem dX0_tellAnew_17 : decode cX0_tellAnew 17 = .ok (.if_icmp .ge 67, 3) := by decide +kernel
theorem dX0_tellAnew_20 : decode cX0_tellAnew 20 = .ok (.aload_n 0, 1) := by decide +kernel
theorem dX0_tellAnew_21 : decode cX0_tellAnew 21 = .ok (.getfield 21, 3) := by decide +kernel
theorem dX0_tellAnew_24 : decode cX0_tellAnew 24 = .ok (.iload_n 3, 1) := by decide +kernel
theorem dX0_tellAnew_25 : decode cX0_tellAnew 25 = .ok (.iaload, 1) := by decide +kernel
theorem dX0_tellAnew_26 : decode cX0_tellAnew 26 = .ok (.iconst (-1), 1) := by decide +kernel
theorem dX0_tellAnew_27 : decode cX0_tellAnew 27 = .ok (.if_icmp .eq 51, 3) := by decide +kernel
theorem dX0_tellAnew_30 : decode cX0_tellAnew 30 = .ok (.aload_n 0, 1) := by decide +kernel
theorem dX0_tellAnew_31 : decode cX0_tellAnew 31 = .ok (.getfield 9, 3) := by decide +kernel
theorem dX0_tellAnew_34 : decode cX0_tellAnew 34 = .ok (.iload_n 3, 1) := by decide +kernel
theorem dX0_tellAnew_35 : decode cX0_tellAnew 35 = .ok (.iaload, 1) := by decide +kernel
theorem dX0_tellAnew_36 : decode cX0_tellAnew 36 = .ok (.iload_n 2, 1) := by decide +kernel
theorem dX0_tellAnew_37 : decode cX0_tellAnew 37 = .ok (.if_icmp .ne 41, 3) := by decide +kernel
theorem dX0_tellAnew_40 : decode cX0_tellAnew 40 = .ok (.aload_n 0, 1) := by decide +kernel
theorem dX0_tellAnew_41 : decode cX0_tellAnew 41 = .ok (.iload_n 2, 1) := by decide +kernel
theorem dX0_tellAnew_42 : decode cX0_tellAnew 42 = .ok (.aload_n 0, 1) := by decide +kernel
theorem dX0_tellAnew_43 : decode cX0_tellAnew 43 = .ok (.getfield 15, 3) := by decide +kernel
theorem dX0_tellAnew_46 : decode cX0_tellAnew 46 = .ok (.iload_n 3, 1) := by decide +kernel
theorem dX0_tellAnew_47 : decode cX0_tellAnew 47 = .ok (.iaload, 1) := by decide +kernel
theorem dX0_tellAnew_48 : decode cX0_tellAnew 48 = .ok (.aload_n 0, 1) := by decide +kernel
theorem dX0_tellAnew_49 : decode cX0_tellAnew 49 = .ok (.getfield 18, 3) := by decide +kernel
theorem dX0_tellAnew_52 : decode cX0_tellAnew 52 = .ok (.iload_n 3, 1) := by decide +kernel
theorem dX0_tellAnew_53 : decode cX0_tellAnew 53 = .ok (.iaload, 1) := by decide +kernel
theorem dX0_tellAnew_54 : decode cX0_tellAnew 54 = .ok (.iload_n 1, 1) := by decide +kernel
theorem dX0_tellAnew_55 : decode cX0_tellAnew 55 = .ok (.invokevirtual 64, 3) := by decide +kernel
theorem dX0_tellAnew_58 : decode cX0_tellAnew 58 = .ok (.istore 4, 2) := by decide +kernel
theorem dX0_tellAnew_60 : decode cX0_tellAnew 60 = .ok (.iload 4, 2) := by decide +kernel
theorem dX0_tellAnew_62 : decode cX0_tellAnew 62 = .ok (.invokestatic 68, 3) := by decide +kernel
theorem dX0_tellAnew_65 : decode cX0_tellAnew 65 = .ok (.ifCond .ne 6, 3) := by decide +kernel
theorem dX0_tellAnew_68 : decode cX0_tellAnew 68 = .ok (.ldc 72, 2) := by decide +kernel
theorem dX0_tellAnew_70 : decode cX0_tellAnew 70 = .ok (.ireturn, 1) := by decide +kernel
theorem dX0_tellAnew_71 : decode cX0_tellAnew 71 = .ok (.aload_n 0, 1) := by decide +kernel
theorem dX0_tellAnew_72 : decode cX0_tellAnew 72 = .ok (.iload_n 3, 1) := by decide +kernel
theorem dX0_tellAnew_73 : decode cX0_tellAnew 73 = .ok (.iload 4, 2) := by decide +kernel
theorem dX0_tellAnew_75 : decode cX0_tellAnew 75 = .ok (.invokevirtual 74, 3) := by decide +kernel
theorem dX0_tellAnew_78 : decode cX0_tellAnew 78 = .ok (.iinc 3 1, 3) := by decide +kernel
theorem dX0_tellAnew_81 : decode cX0_tellAnew 81 = .ok (.goto (-67), 3) := by decide +kernel
theorem dX0_tellAnew_84 : decode cX0_tellAnew 84 = .ok (.iinc 2 1, 3) := by decide +kernel
theorem dX0_tellAnew_87 : decode cX0_tellAnew 87 = .ok (.goto (-81), 3) := by decide +kernel
theorem dX0_tellAnew_90 : decode cX0_tellAnew 90 = .ok (.aload_n 0, 1) := by decide +kernel
theorem dX0_tellAnew_91 : decode cX0_tellAnew 91 = .ok (.getfield 53, 3) := by decide +kernel
theorem dX0_tellAnew_94 : decode cX0_tellAnew 94 = .ok (.ireturn, 1) := by decide +kernel
theorem dX0_forgetRooms_0 : decode cX0_forgetRooms 0 = .ok (.iconst 0, 1) := by decide +kernel
theorem dX0_forgetRooms_1 : decode cX0_forgetRooms 1 = .ok (.istore_n 1, 1) := by decide +kernel
theorem dX0_forgetRooms_2 : decode cX0_forgetRooms 2 = .ok (.iload_n 1, 1) := by decide +kernel
theorem dX0_forgetRooms_3 : decode cX0_forgetRooms 3 = .ok (.bipush 8, 2) := by decide +kernel
theorem dX0_forgetRooms_5 : decode cX0_forgetRooms 5 = .ok (.if_icmp .ge 16, 3) := by decide +kernel
theorem dX0_forgetRooms_8 : decode cX0_forgetRooms 8 = .ok (.aload_n 0, 1) := by decide +kernel
theorem dX0_forgetRooms_9 : decode cX0_forgetRooms 9 = .ok (.getfield 30, 3) := by decide +kernel
theorem dX0_forgetRooms_12 : decode cX0_forgetRooms 12 = .ok (.iload_n 1, 1) := by decide +kernel
theorem dX0_forgetRooms_13 : decode cX0_forgetRooms 13 = .ok (.lconst 0, 1) := by decide +kernel
theorem dX0_forgetRooms_14 : decode cX0_forgetRooms 14 = .ok (.lastore, 1) := by decide +kernel
theorem dX0_forgetRooms_15 : decode cX0_forgetRooms 15 = .ok (.iinc 1 1, 3) := by decide +kernel
theorem dX0_forgetRooms_18 : decode cX0_forgetRooms 18 = .ok (.goto (-16), 3) := by decide +kernel
theorem dX0_forgetRooms_21 : decode cX0_forgetRooms 21 = .ok (.aload_n 0, 1) := by decide +kernel
theorem dX0_forgetRooms_22 : decode cX0_forgetRooms 22 = .ok (.iconst 0, 1) := by decide +kernel
theorem dX0_forgetRooms_23 : decode cX0_forgetRooms 23 = .ok (.putfield 40, 3) := by decide +kernel
theorem dX0_forgetRooms_26 : decode cX0_forgetRooms 26 = .ok (.aload_n 0, 1) := by decide +kernel
theorem dX0_forgetRooms_27 : decode cX0_forgetRooms 27 = .ok (.iconst 0, 1) := by decide +kernel
theorem dX0_forgetRooms_28 : decode cX0_forgetRooms 28 = .ok (.putfield 53, 3) := by decide +kernel
theorem dX0_forgetRooms_31 : decode cX0_forgetRooms 31 = .ok (.return_, 1) := by decide +kernel
theorem dX0_emptyOut_0 : decode cX0_emptyOut 0 = .ok (.iload_n 1, 1) := by decide +kernel
theorem dX0_emptyOut_1 : decode cX0_emptyOut 1 = .ok (.invokestatic 68, 3) := by decide +kernel
theorem dX0_emptyOut_4 : decode cX0_emptyOut 4 = .ok (.ifCond .eq 14, 3) := by decide +kernel
theorem dX0_emptyOut_7 : decode cX0_emptyOut 7 = .ok (.aload_n 0, 1) := by decide +kernel
theorem dX0_emptyOut_8 : decode cX0_emptyOut 8 = .ok (.getfield 30, 3) := by decide +kernel
theorem dX0_emptyOut_11 : decode cX0_emptyOut 11 = .ok (.iload_n 1, 1) := by decide +kernel
theorem dX0_emptyOut_12 : decode cX0_emptyOut 12 = .ok (.laload, 1) := by decide +kernel
theorem dX0_emptyOut_13 : decode cX0_emptyOut 13 = .ok (.lconst 0, 1) := by decide +kernel
theorem dX0_emptyOut_14 : decode cX0_emptyOut 14 = .ok (.lcmp, 1) := by decide +kernel
theorem dX0_emptyOut_15 : decode cX0_emptyOut 15 = .ok (.ifCond .ne 5, 3) := by decide +kernel
theorem dX0_emptyOut_18 : decode cX0_emptyOut 18 = .ok (.iconst 0, 1) := by decide +kernel
theorem dX0_emptyOut_19 : decode cX0_emptyOut 19 = .ok (.ireturn, 1) := by decide +kernel
theorem dX0_emptyOut_20 : decode cX0_emptyOut 20 = .ok (.iconst 0, 1) := by decide +kernel
theorem dX0_emptyOut_21 : decode cX0_emptyOut 21 = .ok (.istore_n 2, 1) := by decide +kernel
theorem dX0_emptyOut_22 : decode cX0_emptyOut 22 = .ok (.iload_n 2, 1) := by decide +kernel
theorem dX0_emptyOut_23 : decode cX0_emptyOut 23 = .ok (.bipush 20, 2) := by decide +kernel
theorem dX0_emptyOut_25 : decode cX0_emptyOut 25 = .ok (.if_icmp .ge 34, 3) := by decide +kernel
theorem dX0_emptyOut_28 : decode cX0_emptyOut 28 = .ok (.aload_n 0, 1) := by decide +kernel
theorem dX0_emptyOut_29 : decode cX0_emptyOut 29 = .ok (.getfield 21, 3) := by decide +kernel
theorem dX0_emptyOut_32 : decode cX0_emptyOut 32 = .ok (.iload_n 2, 1) := by decide +kernel
theorem dX0_emptyOut_33 : decode cX0_emptyOut 33 = .ok (.iaload, 1) := by decide +kernel
theorem dX0_emptyOut_34 : decode cX0_emptyOut 34 = .ok (.iload_n 1, 1) := by decide +kernel
theorem dX0_emptyOut_35 : decode cX0_emptyOut 35 = .ok (.if_icmp .ne 18, 3) := by decide +kernel
theorem dX0_emptyOut_38 : decode cX0_emptyOut 38 = .ok (.aload_n 0, 1) := by decide +kernel
theorem dX0_emptyOut_39 : decode cX0_emptyOut 39 = .ok (.iload_n 2, 1) := by decide +kernel
theorem dX0_emptyOut_40 : decode cX0_emptyOut 40 = .ok (.aload_n 0, 1) := by decide +kernel
theorem dX0_emptyOut_41 : decode cX0_emptyOut 41 = .ok (.iload_n 2, 1) := by decide +kernel
theorem dX0_emptyOut_42 : decode cX0_emptyOut 42 = .ok (.invokevirtual 105, 3) := by decide +kernel
theorem dX0_emptyOut_45 : decode cX0_emptyOut 45 = .ok (.invokevirtual 108, 3) := by decide +kernel
theorem dX0_emptyOut_48 : decode cX0_emptyOut 48 = .ok (.ifCond .ge 5, 3) := by decide +kernel
theorem dX0_emptyOut_51 : decode cX0_emptyOut 51 = .ok (.iconst 0, 1) := by decide +kernel
theorem dX0_emptyOut_52 : decode cX0_emptyOut 52 = .ok (.ireturn, 1) := by decide +kernel
theorem dX0_emptyOut_53 : decode cX0_emptyOut 53 = .ok (.iinc 2 1, 3) := by decide +kernel
theorem dX0_emptyOut_56 : decode cX0_emptyOut 56 = .ok (.goto (-34), 3) := by decide +kernel
theorem dX0_emptyOut_59 : decode cX0_emptyOut 59 = .ok (.iconst 1, 1) := by decide +kernel
theorem dX0_emptyOut_60 : decode cX0_emptyOut 60 = .ok (.ireturn, 1) := by decide +kernel
theorem dX0_lowestOther_0 : decode cX0_lowestOther 0 = .ok (.iconst 0, 1) := by decide +kernel
theorem dX0_lowestOther_1 : decode cX0_lowestOther 1 = .ok (.istore_n 2, 1) := by decide +kernel
theorem dX0_lowestOther_2 : decode cX0_lowestOther 2 = .ok (.iload_n 2, 1) := by decide +kernel
theorem dX0_lowestOther_3 : decode cX0_lowestOther 3 = .ok (.bipush 8, 2) := by decide +kernel
theorem dX0_lowestOther_5 : decode cX0_lowestOther 5 = .ok (.if_icmp .ge 20, 3) := by decide +kernel
theorem dX0_lowestOther_8 : decode cX0_lowestOther 8 = .ok (.aload_n 0, 1) := by decide +kernel
theorem dX0_lowestOther_9 : decode cX0_lowestOther 9 = .ok (.iload_n 1, 1) := by decide +kernel
theorem dX0_lowestOther_10 : decode cX0_lowestOther 10 = .ok (.iload_n 2, 1) := by decide +kernel
theorem dX0_lowestOther_11 : decode cX0_lowestOther 11 = .ok (.invokevirtual 85, 3) := by decide +kernel
theorem dX0_lowestOther_14 : decode cX0_lowestOther 14 = .ok (.ifCond .eq 5, 3) := by decide +kernel
theorem dX0_lowestOther_17 : decode cX0_lowestOther 17 = .ok (.iload_n 2, 1) := by decide +kernel
theorem dX0_lowestOther_18 : decode cX0_lowestOther 18 = .ok (.ireturn, 1) := by decide +kernel
theorem dX0_lowestOther_19 : decode cX0_lowestOther 19 = .ok (.iinc 2 1, 3) := by decide +kernel
theorem dX0_lowestOther_22 : decode cX0_lowestOther 22 = .ok (.goto (-20), 3) := by decide +kernel
theorem dX0_lowestOther_25 : decode cX0_lowestOther 25 = .ok (.iconst (-1), 1) := by decide +kernel
theorem dX0_lowestOther_26 : decode cX0_lowestOther 26 = .ok (.ireturn, 1) := by decide +kernel
theorem dX0_roomFor_0 : decode cX0_roomFor 0 = .ok (.iload_n 1, 1) := by decide +kernel
theorem dX0_roomFor_1 : decode cX0_roomFor 1 = .ok (.iload_n 2, 1) := by decide +kernel
theorem dX0_roomFor_2 : decode cX0_roomFor 2 = .ok (.invokestatic 112, 3) := by decide +kernel
theorem dX0_roomFor_5 : decode cX0_roomFor 5 = .ok (.lstore 5, 2) := by decide +kernel
theorem dX0_roomFor_7 : decode cX0_roomFor 7 = .ok (.iconst (-1), 1) := by decide +kernel
theorem dX0_roomFor_8 : decode cX0_roomFor 8 = .ok (.istore 7, 2) := by decide +kernel
theorem dX0_roomFor_10 : decode cX0_roomFor 10 = .ok (.iconst 0, 1) := by decide +kernel
theorem dX0_roomFor_11 : decode cX0_roomFor 11 = .ok (.istore 8, 2) := by decide +kernel
theorem dX0_roomFor_13 : decode cX0_roomFor 13 = .ok (.iconst 0, 1) := by decide +kernel
theorem dX0_roomFor_14 : decode cX0_roomFor 14 = .ok (.istore 9, 2) := by decide +kernel
theorem dX0_roomFor_16 : decode cX0_roomFor 16 = .ok (.iload 9, 2) := by decide +kernel
theorem dX0_roomFor_18 : decode cX0_roomFor 18 = .ok (.bipush 8, 2) := by decide +kernel
theorem dX0_roomFor_20 : decode cX0_roomFor 20 = .ok (.if_icmp .ge 62, 3) := by decide +kernel
theorem dX0_roomFor_23 : decode cX0_roomFor 23 = .ok (.aload_n 0, 1) := by decide +kernel
theorem dX0_roomFor_24 : decode cX0_roomFor 24 = .ok (.iload 9, 2) := by decide +kernel
theorem dX0_roomFor_26 : decode cX0_roomFor 26 = .ok (.invokevirtual 92, 3) := by decide +kernel
theorem dX0_roomFor_29 : decode cX0_roomFor 29 = .ok (.ifCond .eq 47, 3) := by decide +kernel
theorem dX0_roomFor_32 : decode cX0_roomFor 32 = .ok (.aload_n 0, 1) := by decide +kernel
theorem dX0_roomFor_33 : decode cX0_roomFor 33 = .ok (.iload 9, 2) := by decide +kernel
theorem dX0_roomFor_35 : decode cX0_roomFor 35 = .ok (.iload_n 3, 1) := by decide +kernel
theorem dX0_roomFor_36 : decode cX0_roomFor 36 = .ok (.lload 5, 2) := by decide +kernel
theorem dX0_roomFor_38 : decode cX0_roomFor 38 = .ok (.invokevirtual 116, 3) := by decide +kernel
theorem dX0_roomFor_41 : decode cX0_roomFor 41 = .ok (.ifCond .eq 35, 3) := by decide +kernel
theorem dX0_roomFor_44 : decode cX0_roomFor 44 = .ok (.aload_n 0, 1) := by decide +kernel
theorem dX0_roomFor_45 : decode cX0_roomFor 45 = .ok (.iload 9, 2) := by decide +kernel
theorem dX0_roomFor_47 : decode cX0_roomFor 47 = .ok (.iload_n 1, 1) := by decide +kernel
theorem dX0_roomFor_48 : decode cX0_roomFor 48 = .ok (.iload 4, 2) := by decide +kernel
theorem dX0_roomFor_50 : decode cX0_roomFor 50 = .ok (.invokevirtual 120, 3) := by decide +kernel
theorem dX0_roomFor_53 : decode cX0_roomFor 53 = .ok (.istore 10, 2) := by decide +kernel
theorem dX0_roomFor_55 : decode cX0_roomFor 55 = .ok (.iload 7, 2) := by decide +kernel
theorem dX0_roomFor_57 : decode cX0_roomFor 57 = .ok (.iconst (-1), 1) := by decide +kernel
theorem dX0_roomFor_58 : decode cX0_roomFor 58 = .ok (.if_icmp .eq 10, 3) := by decide +kernel
theorem dX0_roomFor_61 : decode cX0_roomFor 61 = .ok (.iload 10, 2) := by decide +kernel
theorem dX0_roomFor_63 : decode cX0_roomFor 63 = .ok (.iload 8, 2) := by decide +kernel
theorem dX0_roomFor_65 : decode cX0_roomFor 65 = .ok (.if_icmp .ge 11, 3) := by decide +kernel
theorem dX0_roomFor_68 : decode cX0_roomFor 68 = .ok (.iload 9, 2) := by decide +kernel
theorem dX0_roomFor_70 : decode cX0_roomFor 70 = .ok (.istore 7, 2) := by decide +kernel
theorem dX0_roomFor_72 : decode cX0_roomFor 72 = .ok (.iload 10, 2) := by decide +kernel
theorem dX0_roomFor_74 : decode cX0_roomFor 74 = .ok (.istore 8, 2) := by decide +kernel
theorem dX0_roomFor_76 : decode cX0_roomFor 76 = .ok (.iinc 9 1, 3) := by decide +kernel
theorem dX0_roomFor_79 : decode cX0_roomFor 79 = .ok (.goto (-63), 3) := by decide +kernel
theorem dX0_roomFor_82 : decode cX0_roomFor 82 = .ok (.iload 7, 2) := by decide +kernel
theorem dX0_roomFor_84 : decode cX0_roomFor 84 = .ok (.iconst (-1), 1) := by decide +kernel
theorem dX0_roomFor_85 : decode cX0_roomFor 85 = .ok (.if_icmp .ne 11, 3) := by decide +kernel
theorem dX0_roomFor_88 : decode cX0_roomFor 88 = .ok (.aload_n 0, 1) := by decide +kernel
theorem dX0_roomFor_89 : decode cX0_roomFor 89 = .ok (.iload_n 3, 1) := by decide +kernel
theorem dX0_roomFor_90 : decode cX0_roomFor 90 = .ok (.invokevirtual 124, 3) := by decide +kernel
theorem dX0_roomFor_93 : decode cX0_roomFor 93 = .ok (.goto 5, 3) := by decide +kernel
theorem dX0_roomFor_96 : decode cX0_roomFor 96 = .ok (.iload 7, 2) := by decide +kernel
theorem dX0_roomFor_98 : decode cX0_roomFor 98 = .ok (.ireturn, 1) := by decide +kernel
theorem dX0_rankByRule_0 : decode cX0_rankByRule 0 = .ok (.iload_n 3, 1) := by decide +kernel
theorem dX0_rankByRule_1 : decode cX0_rankByRule 1 = .ok (.tableswitch 52 1 3 #[27, 34, 41], 27) := by decide +kernel
theorem dX0_rankByRule_28 : decode cX0_rankByRule 28 = .ok (.aload_n 0, 1) := by decide +kernel
theorem dX0_rankByRule_29 : decode cX0_rankByRule 29 = .ok (.iload_n 1, 1) := by decide +kernel
theorem dX0_rankByRule_30 : decode cX0_rankByRule 30 = .ok (.iload_n 2, 1) := by decide +kernel
theorem dX0_rankByRule_31 : decode cX0_rankByRule 31 = .ok (.invokevirtual 127, 3) := by decide +kernel
theorem dX0_rankByRule_34 : decode cX0_rankByRule 34 = .ok (.ireturn, 1) := by decide +kernel
theorem dX0_rankByRule_35 : decode cX0_rankByRule 35 = .ok (.aload_n 0, 1) := by decide +kernel
theorem dX0_rankByRule_36 : decode cX0_rankByRule 36 = .ok (.getfield 24, 3) := by decide +kernel
theorem dX0_rankByRule_39 : decode cX0_rankByRule 39 = .ok (.iload_n 1, 1) := by decide +kernel
theorem dX0_rankByRule_40 : decode cX0_rankByRule 40 = .ok (.iaload, 1) := by decide +kernel
theorem dX0_rankByRule_41 : decode cX0_rankByRule 41 = .ok (.ireturn, 1) := by decide +kernel
theorem dX0_rankByRule_42 : decode cX0_rankByRule 42 = .ok (.aload_n 0, 1) := by decide +kernel
theorem dX0_rankByRule_43 : decode cX0_rankByRule 43 = .ok (.getfield 30, 3) := by decide +kernel
theorem dX0_rankByRule_46 : decode cX0_rankByRule 46 = .ok (.iload_n 1, 1) := by decide +kernel
theorem dX0_rankByRule_47 : decode cX0_rankByRule 47 = .ok (.laload, 1) := by decide +kernel
theorem dX0_rankByRule_48 : decode cX0_rankByRule 48 = .ok (.invokestatic 130, 3) := by decide +kernel
theorem dX0_rankByRule_51 : decode cX0_rankByRule 51 = .ok (.ineg, 1) := by decide +kernel
theorem dX0_rankByRule_52 : decode cX0_rankByRule 52 = .ok (.ireturn, 1) := by decide +kernel
theorem dX0_rankByRule_53 : decode cX0_rankByRule 53 = .ok (.iconst 0, 1) := by decide +kernel
theorem dX0_rankByRule_54 : decode cX0_rankByRule 54 = .ok (.ireturn, 1) := by decide +kernel
theorem dX0_gapAhead_0 : decode cX0_gapAhead 0 = .ok (.aload_n 0, 1) := by decide +kernel
theorem dX0_gapAhead_1 : decode cX0_gapAhead 1 = .ok (.getfield 30, 3) := by decide +kernel
theorem dX0_gapAhead_4 : decode cX0_gapAhead 4 = .ok (.iload_n 1, 1) := by decide +kernel
theorem dX0_gapAhead_5 : decode cX0_gapAhead 5 = .ok (.laload, 1) := by decide +kernel
theorem dX0_gapAhead_6 : decode cX0_gapAhead 6 = .ok (.lstore_n 3, 1) := by decide +kernel
theorem dX0_gapAhead_7 : decode cX0_gapAhead 7 = .ok (.iconst 0, 1) := by decide +kernel
theorem dX0_gapAhead_8 : decode cX0_gapAhead 8 = .ok (.istore 5, 2) := by decide +kernel
theorem dX0_gapAhead_10 : decode cX0_gapAhead 10 = .ok (.iload 5, 2) := by decide +kernel
theorem dX0_gapAhead_12 : decode cX0_gapAhead 12 = .ok (.iload_n 2, 1) := by decide +kernel
theorem dX0_gapAhead_13 : decode cX0_gapAhead 13 = .ok (.if_icmp .ge 24, 3) := by decide +kernel
theorem dX0_gapAhead_16 : decode cX0_gapAhead 16 = .ok (.lload_n 3, 1) := by decide +kernel
theorem dX0_gapAhead_17 : decode cX0_gapAhead 17 = .ok (.iload_n 2, 1) := by decide +kernel
theorem dX0_gapAhead_18 : decode cX0_gapAhead 18 = .ok (.iconst 1, 1) := by decide +kernel
theorem dX0_gapAhead_19 : decode cX0_gapAhead 19 = .ok (.isub, 1) := by decide +kernel
theorem dX0_gapAhead_20 : decode cX0_gapAhead 20 = .ok (.iload 5, 2) := by decide +kernel
theorem dX0_gapAhead_22 : decode cX0_gapAhead 22 = .ok (.isub, 1) := by decide +kernel
theorem dX0_gapAhead_23 : decode cX0_gapAhead 23 = .ok (.lshr, 1) := by decide +kernel
theorem dX0_gapAhead_24 : decode cX0_gapAhead 24 = .ok (.lconst 1, 1) := by decide +kernel
theorem dX0_gapAhead_25 : decode cX0_gapAhead 25 = .ok (.land, 1) := by decide +kernel
theorem dX0_gapAhead_26 : decode cX0_gapAhead 26 = .ok (.lconst 0, 1) := by decide +kernel
theorem dX0_gapAhead_27 : decode cX0_gapAhead 27 = .ok (.lcmp, 1) := by decide +kernel
theorem dX0_gapAhead_28 : decode cX0_gapAhead 28 = .ok (.ifCond .ne 9, 3) := by decide +kernel
theorem dX0_gapAhead_31 : decode cX0_gapAhead 31 = .ok (.iinc 5 1, 3) := by decide +kernel
theorem dX0_gapAhead_34 : decode cX0_gapAhead 34 = .ok (.goto (-24), 3) := by decide +kernel
theorem dX0_gapAhead_37 : decode cX0_gapAhead 37 = .ok (.iload 5, 2) := by decide +kernel
theorem dX0_gapAhead_39 : decode cX0_gapAhead 39 = .ok (.ireturn, 1) := by decide +kernel
theorem dX0_roomToOpen_0 : decode cX0_roomToOpen 0 = .ok (.iconst (-1), 1) := by decide +kernel
theorem dX0_roomToOpen_1 : decode cX0_roomToOpen 1 = .ok (.istore_n 2, 1) := by decide +kernel
theorem dX0_roomToOpen_2 : decode cX0_roomToOpen 2 = .ok (.iconst 0, 1) := by decide +kernel
theorem dX0_roomToOpen_3 : decode cX0_roomToOpen 3 = .ok (.istore_n 3, 1) := by decide +kernel
theorem dX0_roomToOpen_4 : decode cX0_roomToOpen 4 = .ok (.iconst 0, 1) := by decide +kernel
theorem dX0_roomToOpen_5 : decode cX0_roomToOpen 5 = .ok (.istore 4, 2) := by decide +kernel
theorem dX0_roomToOpen_7 : decode cX0_roomToOpen 7 = .ok (.iload 4, 2) := by decide +kernel
theorem dX0_roomToOpen_9 : decode cX0_roomToOpen 9 = .ok (.bipush 8, 2) := by decide +kernel
theorem dX0_roomToOpen_11 : decode cX0_roomToOpen 11 = .ok (.if_icmp .ge 66, 3) := by decide +kernel
theorem dX0_roomToOpen_14 : decode cX0_roomToOpen 14 = .ok (.aload_n 0, 1) := by decide +kernel
theorem dX0_roomToOpen_15 : decode cX0_roomToOpen 15 = .ok (.iload 4, 2) := by decide +kernel
theorem dX0_roomToOpen_17 : decode cX0_roomToOpen 17 = .ok (.invokevirtual 92, 3) := by decide +kernel
theorem dX0_roomToOpen_20 : decode cX0_roomToOpen 20 = .ok (.ifCond .ne 51, 3) := by decide +kernel
theorem dX0_roomToOpen_23 : decode cX0_roomToOpen 23 = .ok (.aload_n 0, 1) := by decide +kernel
theorem dX0_roomToOpen_24 : decode cX0_roomToOpen 24 = .ok (.getfield 24, 3) := by decide +kernel
theorem dX0_roomToOpen_27 : decode cX0_roomToOpen 27 = .ok (.iload 4, 2) := by decide +kernel
theorem dX0_roomToOpen_29 : decode cX0_roomToOpen 29 = .ok (.iaload, 1) := by decide +kernel
theorem dX0_roomToOpen_30 : decode cX0_roomToOpen 30 = .ok (.iload_n 1, 1) := by decide +kernel
theorem dX0_roomToOpen_31 : decode cX0_roomToOpen 31 = .ok (.if_icmp .lt 40, 3) := by decide +kernel
theorem dX0_roomToOpen_34 : decode cX0_roomToOpen 34 = .ok (.bipush 10, 2) := by decide +kernel
theorem dX0_roomToOpen_36 : decode cX0_roomToOpen 36 = .ok (.aload_n 0, 1) := by decide +kernel
theorem dX0_roomToOpen_37 : decode cX0_roomToOpen 37 = .ok (.getfield 27, 3) := by decide +kernel
theorem dX0_roomToOpen_40 : decode cX0_roomToOpen 40 = .ok (.iload 4, 2) := by decide +kernel
theorem dX0_roomToOpen_42 : decode cX0_roomToOpen 42 = .ok (.iaload, 1) := by decide +kernel
theorem dX0_roomToOpen_43 : decode cX0_roomToOpen 43 = .ok (.imul, 1) := by decide +kernel
theorem dX0_roomToOpen_44 : decode cX0_roomToOpen 44 = .ok (.aload_n 0, 1) := by decide +kernel
theorem dX0_roomToOpen_45 : decode cX0_roomToOpen 45 = .ok (.getfield 24, 3) := by decide +kernel
theorem dX0_roomToOpen_48 : decode cX0_roomToOpen 48 = .ok (.iload 4, 2) := by decide +kernel
theorem dX0_roomToOpen_50 : decode cX0_roomToOpen 50 = .ok (.iaload, 1) := by decide +kernel
theorem dX0_roomToOpen_51 : decode cX0_roomToOpen 51 = .ok (.iadd, 1) := by decide +kernel
theorem dX0_roomToOpen_52 : decode cX0_roomToOpen 52 = .ok (.istore 5, 2) := by decide +kernel
theorem dX0_roomToOpen_54 : decode cX0_roomToOpen 54 = .ok (.iload_n 2, 1) := by decide +kernel
theorem dX0_roomToOpen_55 : decode cX0_roomToOpen 55 = .ok (.iconst (-1), 1) := by decide +kernel
theorem dX0_roomToOpen_56 : decode cX0_roomToOpen 56 = .ok (.if_icmp .eq 9, 3) := by decide +kernel
theorem dX0_roomToOpen_59 : decode cX0_roomToOpen 59 = .ok (.iload 5, 2) := by decide +kernel
theorem dX0_roomToOpen_61 : decode cX0_roomToOpen 61 = .ok (.iload_n 3, 1) := by decide +kernel
theorem dX0_roomToOpen_62 : decode cX0_roomToOpen 62 = .ok (.if_icmp .ge 9, 3) := by decide +kernel
theorem dX0_roomToOpen_65 : decode cX0_roomToOpen 65 = .ok (.iload 4, 2) := by decide +kernel
theorem dX0_roomToOpen_67 : decode cX0_roomToOpen 67 = .ok (.istore_n 2, 1) := by decide +kernel
theorem dX0_roomToOpen_68 : decode cX0_roomToOpen 68 = .ok (.iload 5, 2) := by decide +kernel
theorem dX0_roomToOpen_70 : decode cX0_roomToOpen 70 = .ok (.istore_n 3, 1) := by decide +kernel
theorem dX0_roomToOpen_71 : decode cX0_roomToOpen 71 = .ok (.iinc 4 1, 3) := by decide +kernel
theorem dX0_roomToOpen_74 : decode cX0_roomToOpen 74 = .ok (.goto (-67), 3) := by decide +kernel
theorem dX0_roomToOpen_77 : decode cX0_roomToOpen 77 = .ok (.iload_n 2, 1) := by decide +kernel
theorem dX0_roomToOpen_78 : decode cX0_roomToOpen 78 = .ok (.ireturn, 1) := by decide +kernel
theorem dX0_putIn_0 : decode cX0_putIn 0 = .ok (.aload_n 0, 1) := by decide +kernel
theorem dX0_putIn_1 : decode cX0_putIn 1 = .ok (.iload_n 2, 1) := by decide +kernel
theorem dX0_putIn_2 : decode cX0_putIn 2 = .ok (.invokevirtual 92, 3) := by decide +kernel
theorem dX0_putIn_5 : decode cX0_putIn 5 = .ok (.ifCond .ne 40, 3) := by decide +kernel
theorem dX0_putIn_8 : decode cX0_putIn 8 = .ok (.aload_n 0, 1) := by decide +kernel
theorem dX0_putIn_9 : decode cX0_putIn 9 = .ok (.dup, 1) := by decide +kernel
theorem dX0_putIn_10 : decode cX0_putIn 10 = .ok (.getfield 40, 3) := by decide +kernel
theorem dX0_putIn_13 : decode cX0_putIn 13 = .ok (.iconst 1, 1) := by decide +kernel
theorem dX0_putIn_14 : decode cX0_putIn 14 = .ok (.iload_n 2, 1) := by decide +kernel
theorem dX0_putIn_15 : decode cX0_putIn 15 = .ok (.ishl, 1) := by decide +kernel
theorem dX0_putIn_16 : decode cX0_putIn 16 = .ok (.ior, 1) := by decide +kernel
theorem dX0_putIn_17 : decode cX0_putIn 17 = .ok (.putfield 40, 3) := by decide +kernel
theorem dX0_putIn_20 : decode cX0_putIn 20 = .ok (.aload_n 0, 1) := by decide +kernel
theorem dX0_putIn_21 : decode cX0_putIn 21 = .ok (.dup, 1) := by decide +kernel
theorem dX0_putIn_22 : decode cX0_putIn 22 = .ok (.getfield 50, 3) := by decide +kernel
theorem dX0_putIn_25 : decode cX0_putIn 25 = .ok (.iconst 1, 1) := by decide +kernel
theorem dX0_putIn_26 : decode cX0_putIn 26 = .ok (.iadd, 1) := by decide +kernel
theorem dX0_putIn_27 : decode cX0_putIn 27 = .ok (.putfield 50, 3) := by decide +kernel
theorem dX0_putIn_30 : decode cX0_putIn 30 = .ok (.aload_n 0, 1) := by decide +kernel
theorem dX0_putIn_31 : decode cX0_putIn 31 = .ok (.dup, 1) := by decide +kernel
theorem dX0_putIn_32 : decode cX0_putIn 32 = .ok (.getfield 53, 3) := by decide +kernel
theorem dX0_putIn_35 : decode cX0_putIn 35 = .ok (.aload_n 0, 1) := by decide +kernel
theorem dX0_putIn_36 : decode cX0_putIn 36 = .ok (.getfield 27, 3) := by decide +kernel
theorem dX0_putIn_39 : decode cX0_putIn 39 = .ok (.iload_n 2, 1) := by decide +kernel
theorem dX0_putIn_40 : decode cX0_putIn 40 = .ok (.iaload, 1) := by decide +kernel
theorem dX0_putIn_41 : decode cX0_putIn 41 = .ok (.iadd, 1) := by decide +kernel
theorem dX0_putIn_42 : decode cX0_putIn 42 = .ok (.putfield 53, 3) := by decide +kernel
theorem dX0_putIn_45 : decode cX0_putIn 45 = .ok (.aload_n 0, 1) := by decide +kernel
theorem dX0_putIn_46 : decode cX0_putIn 46 = .ok (.getfield 21, 3) := by decide +kernel
theorem dX0_putIn_49 : decode cX0_putIn 49 = .ok (.iload_n 1, 1) := by decide +kernel
theorem dX0_putIn_50 : decode cX0_putIn 50 = .ok (.iload_n 2, 1) := by decide +kernel
theorem dX0_putIn_51 : decode cX0_putIn 51 = .ok (.iastore, 1) := by decide +kernel
theorem dX0_putIn_52 : decode cX0_putIn 52 = .ok (.aload_n 0, 1) := by decide +kernel
theorem dX0_putIn_53 : decode cX0_putIn 53 = .ok (.getfield 30, 3) := by decide +kernel
theorem dX0_putIn_56 : decode cX0_putIn 56 = .ok (.iload_n 2, 1) := by decide +kernel
theorem dX0_putIn_57 : decode cX0_putIn 57 = .ok (.dup2, 1) := by decide +kernel
theorem dX0_putIn_58 : decode cX0_putIn 58 = .ok (.laload, 1) := by decide +kernel
theorem dX0_putIn_59 : decode cX0_putIn 59 = .ok (.aload_n 0, 1) := by decide +kernel
theorem dX0_putIn_60 : decode cX0_putIn 60 = .ok (.getfield 9, 3) := by decide +kernel
theorem dX0_putIn_63 : decode cX0_putIn 63 = .ok (.iload_n 1, 1) := by decide +kernel
theorem dX0_putIn_64 : decode cX0_putIn 64 = .ok (.iaload, 1) := by decide +kernel
theorem dX0_putIn_65 : decode cX0_putIn 65 = .ok (.aload_n 0, 1) := by decide +kernel
theorem dX0_putIn_66 : decode cX0_putIn 66 = .ok (.getfield 15, 3) := by decide +kernel
theorem dX0_putIn_69 : decode cX0_putIn 69 = .ok (.iload_n 1, 1) := by decide +kernel
theorem dX0_putIn_70 : decode cX0_putIn 70 = .ok (.iaload, 1) := by decide +kernel
theorem dX0_putIn_71 : decode cX0_putIn 71 = .ok (.invokestatic 112, 3) := by decide +kernel
theorem dX0_putIn_74 : decode cX0_putIn 74 = .ok (.lor, 1) := by decide +kernel
theorem dX0_putIn_75 : decode cX0_putIn 75 = .ok (.lastore, 1) := by decide +kernel
theorem dX0_putIn_76 : decode cX0_putIn 76 = .ok (.return_, 1) := by decide +kernel
theorem dX0_takeOut_0 : decode cX0_takeOut 0 = .ok (.aload_n 0, 1) := by decide +kernel
theorem dX0_takeOut_1 : decode cX0_takeOut 1 = .ok (.getfield 21, 3) := by decide +kernel
theorem dX0_takeOut_4 : decode cX0_takeOut 4 = .ok (.iload_n 1, 1) := by decide +kernel
theorem dX0_takeOut_5 : decode cX0_takeOut 5 = .ok (.iconst (-1), 1) := by decide +kernel
theorem dX0_takeOut_6 : decode cX0_takeOut 6 = .ok (.iastore, 1) := by decide +kernel
theorem dX0_takeOut_7 : decode cX0_takeOut 7 = .ok (.aload_n 0, 1) := by decide +kernel
theorem dX0_takeOut_8 : decode cX0_takeOut 8 = .ok (.getfield 30, 3) := by decide +kernel
theorem dX0_takeOut_11 : decode cX0_takeOut 11 = .ok (.iload_n 2, 1) := by decide +kernel
theorem dX0_takeOut_12 : decode cX0_takeOut 12 = .ok (.dup2, 1) := by decide +kernel
theorem dX0_takeOut_13 : decode cX0_takeOut 13 = .ok (.laload, 1) := by decide +kernel
theorem dX0_takeOut_14 : decode cX0_takeOut 14 = .ok (.aload_n 0, 1) := by decide +kernel
theorem dX0_takeOut_15 : decode cX0_takeOut 15 = .ok (.getfield 9, 3) := by decide +kernel
theorem dX0_takeOut_18 : decode cX0_takeOut 18 = .ok (.iload_n 1, 1) := by decide +kernel
theorem dX0_takeOut_19 : decode cX0_takeOut 19 = .ok (.iaload, 1) := by decide +kernel
theorem dX0_takeOut_20 : decode cX0_takeOut 20 = .ok (.aload_n 0, 1) := by decide +kernel
theorem dX0_takeOut_21 : decode cX0_takeOut 21 = .ok (.getfield 15, 3) := by decide +kernel
theorem dX0_takeOut_24 : decode cX0_takeOut 24 = .ok (.iload_n 1, 1) := by decide +kernel
theorem dX0_takeOut_25 : decode cX0_takeOut 25 = .ok (.iaload, 1) := by decide +kernel
theorem dX0_takeOut_26 : decode cX0_takeOut 26 = .ok (.invokestatic 112, 3) := by decide +kernel
theorem dX0_takeOut_29 : decode cX0_takeOut 29 = .ok (.ldc2_w 136, 3) := by decide +kernel
theorem dX0_takeOut_32 : decode cX0_takeOut 32 = .ok (.lxor, 1) := by decide +kernel
theorem dX0_takeOut_33 : decode cX0_takeOut 33 = .ok (.land, 1) := by decide +kernel
theorem dX0_takeOut_34 : decode cX0_takeOut 34 = .ok (.lastore, 1) := by decide +kernel
theorem dX0_takeOut_35 : decode cX0_takeOut 35 = .ok (.return_, 1) := by decide +kernel
theorem dX0_couldGo_0 : decode cX0_couldGo 0 = .ok (.iload_n 2, 1) := by decide +kernel
theorem dX0_couldGo_1 : decode cX0_couldGo 1 = .ok (.aload_n 0, 1) := by decide +kernel
theorem dX0_couldGo_2 : decode cX0_couldGo 2 = .ok (.getfield 21, 3) := by decide +kernel
theorem dX0_couldGo_5 : decode cX0_couldGo 5 = .ok (.iload_n 1, 1) := by decide +kernel
theorem dX0_couldGo_6 : decode cX0_couldGo 6 = .ok (.iaload, 1) := by decide +kernel
theorem dX0_couldGo_7 : decode cX0_couldGo 7 = .ok (.if_icmp .eq 44, 3) := by decide +kernel
theorem dX0_couldGo_10 : decode cX0_couldGo 10 = .ok (.aload_n 0, 1) := by decide +kernel
theorem dX0_couldGo_11 : decode cX0_couldGo 11 = .ok (.iload_n 2, 1) := by decide +kernel
theorem dX0_couldGo_12 : decode cX0_couldGo 12 = .ok (.invokevirtual 92, 3) := by decide +kernel
theorem dX0_couldGo_15 : decode cX0_couldGo 15 = .ok (.ifCond .eq 36, 3) := by decide +kernel
theorem dX0_couldGo_18 : decode cX0_couldGo 18 = .ok (.aload_n 0, 1) := by decide +kernel
theorem dX0_couldGo_19 : decode cX0_couldGo 19 = .ok (.iload_n 2, 1) := by decide +kernel
theorem dX0_couldGo_20 : decode cX0_couldGo 20 = .ok (.aload_n 0, 1) := by decide +kernel
theorem dX0_couldGo_21 : decode cX0_couldGo 21 = .ok (.getfield 18, 3) := by decide +kernel
theorem dX0_couldGo_24 : decode cX0_couldGo 24 = .ok (.iload_n 1, 1) := by decide +kernel
theorem dX0_couldGo_25 : decode cX0_couldGo 25 = .ok (.iaload, 1) := by decide +kernel
theorem dX0_couldGo_26 : decode cX0_couldGo 26 = .ok (.aload_n 0, 1) := by decide +kernel
theorem dX0_couldGo_27 : decode cX0_couldGo 27 = .ok (.getfield 9, 3) := by decide +kernel
theorem dX0_couldGo_30 : decode cX0_couldGo 30 = .ok (.iload_n 1, 1) := by decide +kernel
theorem dX0_couldGo_31 : decode cX0_couldGo 31 = .ok (.iaload, 1) := by decide +kernel
theorem dX0_couldGo_32 : decode cX0_couldGo 32 = .ok (.aload_n 0, 1) := by decide +kernel
theorem dX0_couldGo_33 : decode cX0_couldGo 33 = .ok (.getfield 15, 3) := by decide +kernel
theorem dX0_couldGo_36 : decode cX0_couldGo 36 = .ok (.iload_n 1, 1) := by decide +kernel
theorem dX0_couldGo_37 : decode cX0_couldGo 37 = .ok (.iaload, 1) := by decide +kernel
theorem dX0_couldGo_38 : decode cX0_couldGo 38 = .ok (.invokestatic 112, 3) := by decide +kernel
theorem dX0_couldGo_41 : decode cX0_couldGo 41 = .ok (.invokevirtual 116, 3) := by decide +kernel
theorem dX0_couldGo_44 : decode cX0_couldGo 44 = .ok (.ifCond .eq 7, 3) := by decide +kernel
theorem dX0_couldGo_47 : decode cX0_couldGo 47 = .ok (.iconst 1, 1) := by decide +kernel
theorem dX0_couldGo_48 : decode cX0_couldGo 48 = .ok (.goto 4, 3) := by decide +kernel
theorem dX0_couldGo_51 : decode cX0_couldGo 51 = .ok (.iconst 0, 1) := by decide +kernel
theorem dX0_couldGo_52 : decode cX0_couldGo 52 = .ok (.ireturn, 1) := by decide +kernel
theorem dX0_canHold_0 : decode cX0_canHold 0 = .ok (.aload_n 0, 1) := by decide +kernel
theorem dX0_canHold_1 : decode cX0_canHold 1 = .ok (.getfield 24, 3) := by decide +kernel
theorem dX0_canHold_4 : decode cX0_canHold 4 = .ok (.iload_n 1, 1) := by decide +kernel
theorem dX0_canHold_5 : decode cX0_canHold 5 = .ok (.iaload, 1) := by decide +kernel
theorem dX0_canHold_6 : decode cX0_canHold 6 = .ok (.iload_n 2, 1) := by decide +kernel
theorem dX0_canHold_7 : decode cX0_canHold 7 = .ok (.if_icmp .lt 20, 3) := by decide +kernel
theorem dX0_canHold_10 : decode cX0_canHold 10 = .ok (.aload_n 0, 1) := by decide +kernel
theorem dX0_canHold_11 : decode cX0_canHold 11 = .ok (.getfield 30, 3) := by decide +kernel
theorem dX0_canHold_14 : decode cX0_canHold 14 = .ok (.iload_n 1, 1) := by decide +kernel
theorem dX0_canHold_15 : decode cX0_canHold 15 = .ok (.laload, 1) := by decide +kernel
theorem dX0_canHold_16 : decode cX0_canHold 16 = .ok (.lload_n 3, 1) := by decide +kernel
theorem dX0_canHold_17 : decode cX0_canHold 17 = .ok (.land, 1) := by decide +kernel
theorem dX0_canHold_18 : decode cX0_canHold 18 = .ok (.lconst 0, 1) := by decide +kernel
theorem dX0_canHold_19 : decode cX0_canHold 19 = .ok (.lcmp, 1) := by decide +kernel
theorem dX0_canHold_20 : decode cX0_canHold 20 = .ok (.ifCond .ne 7, 3) := by decide +kernel
theorem dX0_canHold_23 : decode cX0_canHold 23 = .ok (.iconst 1, 1) := by decide +kernel
theorem dX0_canHold_24 : decode cX0_canHold 24 = .ok (.goto 4, 3) := by decide +kernel
theorem dX0_canHold_27 : decode cX0_canHold 27 = .ok (.iconst 0, 1) := by decide +kernel
theorem dX0_canHold_28 : decode cX0_canHold 28 = .ok (.ireturn, 1) := by decide +kernel
theorem dX0_isOpen_0 : decode cX0_isOpen 0 = .ok (.aload_n 0, 1) := by decide +kernel
theorem dX0_isOpen_1 : decode cX0_isOpen 1 = .ok (.getfield 40, 3) := by decide +kernel
theorem dX0_isOpen_4 : decode cX0_isOpen 4 = .ok (.iload_n 1, 1) := by decide +kernel
theorem dX0_isOpen_5 : decode cX0_isOpen 5 = .ok (.ishr, 1) := by decide +kernel
theorem dX0_isOpen_6 : decode cX0_isOpen 6 = .ok (.iconst 1, 1) := by decide +kernel
theorem dX0_isOpen_7 : decode cX0_isOpen 7 = .ok (.iand, 1) := by decide +kernel
theorem dX0_isOpen_8 : decode cX0_isOpen 8 = .ok (.iconst 1, 1) := by decide +kernel
theorem dX0_isOpen_9 : decode cX0_isOpen 9 = .ok (.if_icmp .ne 7, 3) := by decide +kernel
theorem dX0_isOpen_12 : decode cX0_isOpen 12 = .ok (.iconst 1, 1) := by decide +kernel
theorem dX0_isOpen_13 : decode cX0_isOpen 13 = .ok (.goto 4, 3) := by decide +kernel
theorem dX0_isOpen_16 : decode cX0_isOpen 16 = .ok (.iconst 0, 1) := by decide +kernel
theorem dX0_isOpen_17 : decode cX0_isOpen 17 = .ok (.ireturn, 1) := by decide +kernel
theorem dX0_isTaken_0 : decode cX0_isTaken 0 = .ok (.aload_n 0, 1) := by decide +kernel
theorem dX0_isTaken_1 : decode cX0_isTaken 1 = .ok (.getfield 30, 3) := by decide +kernel
theorem dX0_isTaken_4 : decode cX0_isTaken 4 = .ok (.iload_n 1, 1) := by decide +kernel
theorem dX0_isTaken_5 : decode cX0_isTaken 5 = .ok (.laload, 1) := by decide +kernel
theorem dX0_isTaken_6 : decode cX0_isTaken 6 = .ok (.iload_n 2, 1) := by decide +kernel
theorem dX0_isTaken_7 : decode cX0_isTaken 7 = .ok (.lshr, 1) := by decide +kernel
theorem dX0_isTaken_8 : decode cX0_isTaken 8 = .ok (.lconst 1, 1) := by decide +kernel
theorem dX0_isTaken_9 : decode cX0_isTaken 9 = .ok (.land, 1) := by decide +kernel
theorem dX0_isTaken_10 : decode cX0_isTaken 10 = .ok (.lconst 1, 1) := by decide +kernel
theorem dX0_isTaken_11 : decode cX0_isTaken 11 = .ok (.lcmp, 1) := by decide +kernel
theorem dX0_isTaken_12 : decode cX0_isTaken 12 = .ok (.ifCond .ne 7, 3) := by decide +kernel
theorem dX0_isTaken_15 : decode cX0_isTaken 15 = .ok (.iconst 1, 1) := by decide +kernel
theorem dX0_isTaken_16 : decode cX0_isTaken 16 = .ok (.goto 4, 3) := by decide +kernel
theorem dX0_isTaken_19 : decode cX0_isTaken 19 = .ok (.iconst 0, 1) := by decide +kernel
theorem dX0_isTaken_20 : decode cX0_isTaken 20 = .ok (.ireturn, 1) := by decide +kernel
theorem dX0_takesHour_0 : decode cX0_takesHour 0 = .ok (.aload_n 0, 1) := by decide +kernel
theorem dX0_takesHour_1 : decode cX0_takesHour 1 = .ok (.getfield 21, 3) := by decide +kernel
theorem dX0_takesHour_4 : decode cX0_takesHour 4 = .ok (.iload_n 1, 1) := by decide +kernel
theorem dX0_takesHour_5 : decode cX0_takesHour 5 = .ok (.iaload, 1) := by decide +kernel
theorem dX0_takesHour_6 : decode cX0_takesHour 6 = .ok (.iconst (-1), 1) := by decide +kernel
theorem dX0_takesHour_7 : decode cX0_takesHour 7 = .ok (.if_icmp .eq 27, 3) := by decide +kernel
theorem dX0_takesHour_10 : decode cX0_takesHour 10 = .ok (.aload_n 0, 1) := by decide +kernel
theorem dX0_takesHour_11 : decode cX0_takesHour 11 = .ok (.getfield 9, 3) := by decide +kernel
theorem dX0_takesHour_14 : decode cX0_takesHour 14 = .ok (.iload_n 1, 1) := by decide +kernel
theorem dX0_takesHour_15 : decode cX0_takesHour 15 = .ok (.iaload, 1) := by decide +kernel
theorem dX0_takesHour_16 : decode cX0_takesHour 16 = .ok (.iload_n 2, 1) := by decide +kernel
theorem dX0_takesHour_17 : decode cX0_takesHour 17 = .ok (.if_icmp .gt 17, 3) := by decide +kernel
theorem dX0_takesHour_20 : decode cX0_takesHour 20 = .ok (.iload_n 2, 1) := by decide +kernel
theorem dX0_takesHour_21 : decode cX0_takesHour 21 = .ok (.aload_n 0, 1) := by decide +kernel
theorem dX0_takesHour_22 : decode cX0_takesHour 22 = .ok (.getfield 15, 3) := by decide +kernel
theorem dX0_takesHour_25 : decode cX0_takesHour 25 = .ok (.iload_n 1, 1) := by decide +kernel
theorem dX0_takesHour_26 : decode cX0_takesHour 26 = .ok (.iaload, 1) := by decide +kernel
theorem dX0_takesHour_27 : decode cX0_takesHour 27 = .ok (.if_icmp .ge 7, 3) := by decide +kernel
theorem dX0_takesHour_30 : decode cX0_takesHour 30 = .ok (.iconst 1, 1) := by decide +kernel
theorem dX0_takesHour_31 : decode cX0_takesHour 31 = .ok (.goto 4, 3) := by decide +kernel
theorem dX0_takesHour_34 : decode cX0_takesHour 34 = .ok (.iconst 0, 1) := by decide +kernel
theorem dX0_takesHour_35 : decode cX0_takesHour 35 = .ok (.ireturn, 1) := by decide +kernel
theorem dX0_hoursOf_0 : decode cX0_hoursOf 0 = .ok (.lconst 1, 1) := by decide +kernel
theorem dX0_hoursOf_1 : decode cX0_hoursOf 1 = .ok (.iload_n 1, 1) := by decide +kernel
theorem dX0_hoursOf_2 : decode cX0_hoursOf 2 = .ok (.iload_n 0, 1) := by decide +kernel
theorem dX0_hoursOf_3 : decode cX0_hoursOf 3 = .ok (.isub, 1) := by decide +kernel
theorem dX0_hoursOf_4 : decode cX0_hoursOf 4 = .ok (.lshl, 1) := by decide +kernel
theorem dX0_hoursOf_5 : decode cX0_hoursOf 5 = .ok (.lconst 1, 1) := by decide +kernel
theorem dX0_hoursOf_6 : decode cX0_hoursOf 6 = .ok (.lsub, 1) := by decide +kernel
theorem dX0_hoursOf_7 : decode cX0_hoursOf 7 = .ok (.iload_n 0, 1) := by decide +kernel
theorem dX0_hoursOf_8 : decode cX0_hoursOf 8 = .ok (.lshl, 1) := by decide +kernel
theorem dX0_hoursOf_9 : decode cX0_hoursOf 9 = .ok (.lreturn, 1) := by decide +kernel
theorem dX0_placeOf_0 : decode cX0_placeOf 0 = .ok (.iload_n 1, 1) := by decide +kernel
theorem dX0_placeOf_1 : decode cX0_placeOf 1 = .ok (.ifCond .lt 18, 3) := by decide +kernel
theorem dX0_placeOf_4 : decode cX0_placeOf 4 = .ok (.iload_n 1, 1) := by decide +kernel
theorem dX0_placeOf_5 : decode cX0_placeOf 5 = .ok (.bipush 20, 2) := by decide +kernel
theorem dX0_placeOf_7 : decode cX0_placeOf 7 = .ok (.if_icmp .ge 12, 3) := by decide +kernel
theorem dX0_placeOf_10 : decode cX0_placeOf 10 = .ok (.aload_n 0, 1) := by decide +kernel
theorem dX0_placeOf_11 : decode cX0_placeOf 11 = .ok (.getfield 21, 3) := by decide +kernel
theorem dX0_placeOf_14 : decode cX0_placeOf 14 = .ok (.iload_n 1, 1) := by decide +kernel
theorem dX0_placeOf_15 : decode cX0_placeOf 15 = .ok (.iaload, 1) := by decide +kernel
theorem dX0_placeOf_16 : decode cX0_placeOf 16 = .ok (.goto 4, 3) := by decide +kernel
theorem dX0_placeOf_19 : decode cX0_placeOf 19 = .ok (.iconst (-1), 1) := by decide +kernel
theorem dX0_placeOf_20 : decode cX0_placeOf 20 = .ok (.ireturn, 1) := by decide +kernel
theorem dX0_ofTalk_0 : decode cX0_ofTalk 0 = .ok (.aload_n 0, 1) := by decide +kernel
theorem dX0_ofTalk_1 : decode cX0_ofTalk 1 = .ok (.iload_n 1, 1) := by decide +kernel
theorem dX0_ofTalk_2 : decode cX0_ofTalk 2 = .ok (.invokevirtual 78, 3) := by decide +kernel
theorem dX0_ofTalk_5 : decode cX0_ofTalk 5 = .ok (.istore_n 3, 1) := by decide +kernel
theorem dX0_ofTalk_6 : decode cX0_ofTalk 6 = .ok (.iload_n 3, 1) := by decide +kernel
theorem dX0_ofTalk_7 : decode cX0_ofTalk 7 = .ok (.iconst (-1), 1) := by decide +kernel
theorem dX0_ofTalk_8 : decode cX0_ofTalk 8 = .ok (.if_icmp .ne 6, 3) := by decide +kernel
theorem dX0_ofTalk_11 : decode cX0_ofTalk 11 = .ok (.ldc 63, 2) := by decide +kernel
theorem dX0_ofTalk_13 : decode cX0_ofTalk 13 = .ok (.ireturn, 1) := by decide +kernel
theorem dX0_ofTalk_14 : decode cX0_ofTalk 14 = .ok (.iload_n 2, 1) := by decide +kernel
theorem dX0_ofTalk_15 : decode cX0_ofTalk 15 = .ok (.tableswitch 72 0 5 #[37, 44, 51, 58, 60, 66], 37) := by decide +kernel
theorem dX0_ofTalk_52 : decode cX0_ofTalk 52 = .ok (.aload_n 0, 1) := by decide +kernel
theorem dX0_ofTalk_53 : decode cX0_ofTalk 53 = .ok (.getfield 9, 3) := by decide +kernel
theorem dX0_ofTalk_56 : decode cX0_ofTalk 56 = .ok (.iload_n 1, 1) := by decide +kernel
theorem dX0_ofTalk_57 : decode cX0_ofTalk 57 = .ok (.iaload, 1) := by decide +kernel
theorem dX0_ofTalk_58 : decode cX0_ofTalk 58 = .ok (.ireturn, 1) := by decide +kernel
theorem dX0_ofTalk_59 : decode cX0_ofTalk 59 = .ok (.aload_n 0, 1) := by decide +kernel
theorem dX0_ofTalk_60 : decode cX0_ofTalk 60 = .ok (.getfield 15, 3) := by decide +kernel
theorem dX0_ofTalk_63 : decode cX0_ofTalk 63 = .ok (.iload_n 1, 1) := by decide +kernel
theorem dX0_ofTalk_64 : decode cX0_ofTalk 64 = .ok (.iaload, 1) := by decide +kernel
theorem dX0_ofTalk_65 : decode cX0_ofTalk 65 = .ok (.ireturn, 1) := by decide +kernel
theorem dX0_ofTalk_66 : decode cX0_ofTalk 66 = .ok (.aload_n 0, 1) := by decide +kernel
theorem dX0_ofTalk_67 : decode cX0_ofTalk 67 = .ok (.getfield 18, 3) := by decide +kernel
theorem dX0_ofTalk_70 : decode cX0_ofTalk 70 = .ok (.iload_n 1, 1) := by decide +kernel
theorem dX0_ofTalk_71 : decode cX0_ofTalk 71 = .ok (.iaload, 1) := by decide +kernel
theorem dX0_ofTalk_72 : decode cX0_ofTalk 72 = .ok (.ireturn, 1) := by decide +kernel
theorem dX0_ofTalk_73 : decode cX0_ofTalk 73 = .ok (.iload_n 3, 1) := by decide +kernel
theorem dX0_ofTalk_74 : decode cX0_ofTalk 74 = .ok (.ireturn, 1) := by decide +kernel
theorem dX0_ofTalk_75 : decode cX0_ofTalk 75 = .ok (.aload_n 0, 1) := by decide +kernel
theorem dX0_ofTalk_76 : decode cX0_ofTalk 76 = .ok (.iload_n 1, 1) := by decide +kernel
theorem dX0_ofTalk_77 : decode cX0_ofTalk 77 = .ok (.invokevirtual 138, 3) := by decide +kernel
theorem dX0_ofTalk_80 : decode cX0_ofTalk 80 = .ok (.ireturn, 1) := by decide +kernel
theorem dX0_ofTalk_81 : decode cX0_ofTalk 81 = .ok (.aload_n 0, 1) := by decide +kernel
theorem dX0_ofTalk_82 : decode cX0_ofTalk 82 = .ok (.iload_n 1, 1) := by decide +kernel
theorem dX0_ofTalk_83 : decode cX0_ofTalk 83 = .ok (.invokevirtual 141, 3) := by decide +kernel
theorem dX0_ofTalk_86 : decode cX0_ofTalk 86 = .ok (.ireturn, 1) := by decide +kernel
theorem dX0_ofTalk_87 : decode cX0_ofTalk 87 = .ok (.ldc 63, 2) := by decide +kernel
theorem dX0_ofTalk_89 : decode cX0_ofTalk 89 = .ok (.ireturn, 1) := by decide +kernel
theorem dX0_otherRooms_0 : decode cX0_otherRooms 0 = .ok (.iconst 0, 1) := by decide +kernel
theorem dX0_otherRooms_1 : decode cX0_otherRooms 1 = .ok (.istore_n 2, 1) := by decide +kernel
theorem dX0_otherRooms_2 : decode cX0_otherRooms 2 = .ok (.iconst 0, 1) := by decide +kernel
theorem dX0_otherRooms_3 : decode cX0_otherRooms 3 = .ok (.istore_n 3, 1) := by decide +kernel
theorem dX0_otherRooms_4 : decode cX0_otherRooms 4 = .ok (.iload_n 3, 1) := by decide +kernel
theorem dX0_otherRooms_5 : decode cX0_otherRooms 5 = .ok (.bipush 8, 2) := by decide +kernel
theorem dX0_otherRooms_7 : decode cX0_otherRooms 7 = .ok (.if_icmp .ge 24, 3) := by decide +kernel
theorem dX0_otherRooms_10 : decode cX0_otherRooms 10 = .ok (.aload_n 0, 1) := by decide +kernel
theorem dX0_otherRooms_11 : decode cX0_otherRooms 11 = .ok (.iload_n 1, 1) := by decide +kernel
theorem dX0_otherRooms_12 : decode cX0_otherRooms 12 = .ok (.iload_n 3, 1) := by decide +kernel
theorem dX0_otherRooms_13 : decode cX0_otherRooms 13 = .ok (.invokevirtual 85, 3) := by decide +kernel
theorem dX0_otherRooms_16 : decode cX0_otherRooms 16 = .ok (.ifCond .eq 9, 3) := by decide +kernel
theorem dX0_otherRooms_19 : decode cX0_otherRooms 19 = .ok (.iload_n 2, 1) := by decide +kernel
theorem dX0_otherRooms_20 : decode cX0_otherRooms 20 = .ok (.iconst 1, 1) := by decide +kernel
theorem dX0_otherRooms_21 : decode cX0_otherRooms 21 = .ok (.iload_n 3, 1) := by decide +kernel
theorem dX0_otherRooms_22 : decode cX0_otherRooms 22 = .ok (.ishl, 1) := by decide +kernel
theorem dX0_otherRooms_23 : decode cX0_otherRooms 23 = .ok (.ior, 1) := by decide +kernel
theorem dX0_otherRooms_24 : decode cX0_otherRooms 24 = .ok (.istore_n 2, 1) := by decide +kernel
theorem dX0_otherRooms_25 : decode cX0_otherRooms 25 = .ok (.iinc 3 1, 3) := by decide +kernel
theorem dX0_otherRooms_28 : decode cX0_otherRooms 28 = .ok (.goto (-24), 3) := by decide +kernel
theorem dX0_otherRooms_31 : decode cX0_otherRooms 31 = .ok (.iload_n 2, 1) := by decide +kernel
theorem dX0_otherRooms_32 : decode cX0_otherRooms 32 = .ok (.ireturn, 1) := by decide +kernel
theorem dX0_talksBeside_0 : decode cX0_talksBeside 0 = .ok (.aload_n 0, 1) := by decide +kernel
theorem dX0_talksBeside_1 : decode cX0_talksBeside 1 = .ok (.getfield 9, 3) := by decide +kernel
theorem dX0_talksBeside_4 : decode cX0_talksBeside 4 = .ok (.iload_n 1, 1) := by decide +kernel
theorem dX0_talksBeside_5 : decode cX0_talksBeside 5 = .ok (.iaload, 1) := by decide +kernel
theorem dX0_talksBeside_6 : decode cX0_talksBeside 6 = .ok (.aload_n 0, 1) := by decide +kernel
theorem dX0_talksBeside_7 : decode cX0_talksBeside 7 = .ok (.getfield 15, 3) := by decide +kernel
theorem dX0_talksBeside_10 : decode cX0_talksBeside 10 = .ok (.iload_n 1, 1) := by decide +kernel
theorem dX0_talksBeside_11 : decode cX0_talksBeside 11 = .ok (.iaload, 1) := by decide +kernel
theorem dX0_talksBeside_12 : decode cX0_talksBeside 12 = .ok (.invokestatic 112, 3) := by decide +kernel
theorem dX0_talksBeside_15 : decode cX0_talksBeside 15 = .ok (.lstore_n 2, 1) := by decide +kernel
theorem dX0_talksBeside_16 : decode cX0_talksBeside 16 = .ok (.iconst 0, 1) := by decide +kernel
theorem dX0_talksBeside_17 : decode cX0_talksBeside 17 = .ok (.istore 4, 2) := by decide +kernel
theorem dX0_talksBeside_19 : decode cX0_talksBeside 19 = .ok (.iconst 0, 1) := by decide +kernel
theorem dX0_talksBeside_20 : decode cX0_talksBeside 20 = .ok (.istore 5, 2) := by decide +kernel
theorem dX0_talksBeside_22 : decode cX0_talksBeside 22 = .ok (.iload 5, 2) := by decide +kernel
theorem dX0_talksBeside_24 : decode cX0_talksBeside 24 = .ok (.bipush 20, 2) := by decide +kernel
theorem dX0_talksBeside_26 : decode cX0_talksBeside 26 = .ok (.if_icmp .ge 59, 3) := by decide +kernel
theorem dX0_talksBeside_29 : decode cX0_talksBeside 29 = .ok (.iload 5, 2) := by decide +kernel
theorem dX0_talksBeside_31 : decode cX0_talksBeside 31 = .ok (.iload_n 1, 1) := by decide +kernel
theorem dX0_talksBeside_32 : decode cX0_talksBeside 32 = .ok (.if_icmp .eq 47, 3) := by decide +kernel
theorem dX0_talksBeside_35 : decode cX0_talksBeside 35 = .ok (.aload_n 0, 1) := by decide +kernel
theorem dX0_talksBeside_36 : decode cX0_talksBeside 36 = .ok (.getfield 21, 3) := by decide +kernel
theorem dX0_talksBeside_39 : decode cX0_talksBeside 39 = .ok (.iload 5, 2) := by decide +kernel
theorem dX0_talksBeside_41 : decode cX0_talksBeside 41 = .ok (.iaload, 1) := by decide +kernel
theorem dX0_talksBeside_42 : decode cX0_talksBeside 42 = .ok (.iconst (-1), 1) := by decide +kernel
theorem dX0_talksBeside_43 : decode cX0_talksBeside 43 = .ok (.if_icmp .eq 36, 3) := by decide +kernel
theorem dX0_talksBeside_46 : decode cX0_talksBeside 46 = .ok (.lload_n 2, 1) := by decide +kernel
theorem dX0_talksBeside_47 : decode cX0_talksBeside 47 = .ok (.aload_n 0, 1) := by decide +kernel
theorem dX0_talksBeside_48 : decode cX0_talksBeside 48 = .ok (.getfield 9, 3) := by decide +kernel
theorem dX0_talksBeside_51 : decode cX0_talksBeside 51 = .ok (.iload 5, 2) := by decide +kernel
theorem dX0_talksBeside_53 : decode cX0_talksBeside 53 = .ok (.iaload, 1) := by decide +kernel
theorem dX0_talksBeside_54 : decode cX0_talksBeside 54 = .ok (.aload_n 0, 1) := by decide +kernel
theorem dX0_talksBeside_55 : decode cX0_talksBeside 55 = .ok (.getfield 15, 3) := by decide +kernel
theorem dX0_talksBeside_58 : decode cX0_talksBeside 58 = .ok (.iload 5, 2) := by decide +kernel
theorem dX0_talksBeside_60 : decode cX0_talksBeside 60 = .ok (.iaload, 1) := by decide +kernel
theorem dX0_talksBeside_61 : decode cX0_talksBeside 61 = .ok (.invokestatic 112, 3) := by decide +kernel
theorem dX0_talksBeside_64 : decode cX0_talksBeside 64 = .ok (.land, 1) := by decide +kernel
theorem dX0_talksBeside_65 : decode cX0_talksBeside 65 = .ok (.lconst 0, 1) := by decide +kernel
theorem dX0_talksBeside_66 : decode cX0_talksBeside 66 = .ok (.lcmp, 1) := by decide +kernel
theorem dX0_talksBeside_67 : decode cX0_talksBeside 67 = .ok (.ifCond .eq 12, 3) := by decide +kernel
theorem dX0_talksBeside_70 : decode cX0_talksBeside 70 = .ok (.iload 4, 2) := by decide +kernel
theorem dX0_talksBeside_72 : decode cX0_talksBeside 72 = .ok (.iconst 1, 1) := by decide +kernel
theorem dX0_talksBeside_73 : decode cX0_talksBeside 73 = .ok (.iload 5, 2) := by decide +kernel
theorem dX0_talksBeside_75 : decode cX0_talksBeside 75 = .ok (.ishl, 1) := by decide +kernel
theorem dX0_talksBeside_76 : decode cX0_talksBeside 76 = .ok (.ior, 1) := by decide +kernel
theorem dX0_talksBeside_77 : decode cX0_talksBeside 77 = .ok (.istore 4, 2) := by decide +kernel
theorem dX0_talksBeside_79 : decode cX0_talksBeside 79 = .ok (.iinc 5 1, 3) := by decide +kernel
theorem dX0_talksBeside_82 : decode cX0_talksBeside 82 = .ok (.goto (-60), 3) := by decide +kernel
theorem dX0_talksBeside_85 : decode cX0_talksBeside 85 = .ok (.iload 4, 2) := by decide +kernel
theorem dX0_talksBeside_87 : decode cX0_talksBeside 87 = .ok (.ireturn, 1) := by decide +kernel
theorem dX0_ofRoom_0 : decode cX0_ofRoom 0 = .ok (.iload_n 1, 1) := by decide +kernel
theorem dX0_ofRoom_1 : decode cX0_ofRoom 1 = .ok (.invokestatic 68, 3) := by decide +kernel
theorem dX0_ofRoom_4 : decode cX0_ofRoom 4 = .ok (.ifCond .ne 6, 3) := by decide +kernel
theorem dX0_ofRoom_7 : decode cX0_ofRoom 7 = .ok (.ldc 63, 2) := by decide +kernel
theorem dX0_ofRoom_9 : decode cX0_ofRoom 9 = .ok (.ireturn, 1) := by decide +kernel
theorem dX0_ofRoom_10 : decode cX0_ofRoom 10 = .ok (.iload_n 2, 1) := by decide +kernel
theorem dX0_ofRoom_11 : decode cX0_ofRoom 11 = .ok (.tableswitch 100 0 6 #[41, 48, 55, 69, 78, 88, 94], 41) := by decide +kernel
theorem dX0_ofRoom_52 : decode cX0_ofRoom 52 = .ok (.aload_n 0, 1) := by decide +kernel
theorem dX0_ofRoom_53 : decode cX0_ofRoom 53 = .ok (.getfield 24, 3) := by decide +kernel
theorem dX0_ofRoom_56 : decode cX0_ofRoom 56 = .ok (.iload_n 1, 1) := by decide +kernel
theorem dX0_ofRoom_57 : decode cX0_ofRoom 57 = .ok (.iaload, 1) := by decide +kernel
theorem dX0_ofRoom_58 : decode cX0_ofRoom 58 = .ok (.ireturn, 1) := by decide +kernel
theorem dX0_ofRoom_59 : decode cX0_ofRoom 59 = .ok (.aload_n 0, 1) := by decide +kernel
theorem dX0_ofRoom_60 : decode cX0_ofRoom 60 = .ok (.getfield 27, 3) := by decide +kernel
theorem dX0_ofRoom_63 : decode cX0_ofRoom 63 = .ok (.iload_n 1, 1) := by decide +kernel
theorem dX0_ofRoom_64 : decode cX0_ofRoom 64 = .ok (.iaload, 1) := by decide +kernel
theorem dX0_ofRoom_65 : decode cX0_ofRoom 65 = .ok (.ireturn, 1) := by decide +kernel
theorem dX0_ofRoom_66 : decode cX0_ofRoom 66 = .ok (.aload_n 0, 1) := by decide +kernel
theorem dX0_ofRoom_67 : decode cX0_ofRoom 67 = .ok (.iload_n 1, 1) := by decide +kernel
theorem dX0_ofRoom_68 : decode cX0_ofRoom 68 = .ok (.invokevirtual 92, 3) := by decide +kernel
theorem dX0_ofRoom_71 : decode cX0_ofRoom 71 = .ok (.ifCond .eq 7, 3) := by decide +kernel
theorem dX0_ofRoom_74 : decode cX0_ofRoom 74 = .ok (.iconst 1, 1) := by decide +kernel
theorem dX0_ofRoom_75 : decode cX0_ofRoom 75 = .ok (.goto 4, 3) := by decide +kernel
theorem dX0_ofRoom_78 : decode cX0_ofRoom 78 = .ok (.iconst 0, 1) := by decide +kernel
theorem dX0_ofRoom_79 : decode cX0_ofRoom 79 = .ok (.ireturn, 1) := by decide +kernel
theorem dX0_ofRoom_80 : decode cX0_ofRoom 80 = .ok (.aload_n 0, 1) := by decide +kernel
theorem dX0_ofRoom_81 : decode cX0_ofRoom 81 = .ok (.iload_n 1, 1) := by decide +kernel
theorem dX0_ofRoom_82 : decode cX0_ofRoom 82 = .ok (.invokevirtual 144, 3) := by decide +kernel
theorem dX0_ofRoom_85 : decode cX0_ofRoom 85 = .ok (.invokestatic 147, 3) := by decide +kernel
theorem dX0_ofRoom_88 : decode cX0_ofRoom 88 = .ok (.ireturn, 1) := by decide +kernel
theorem dX0_ofRoom_89 : decode cX0_ofRoom 89 = .ok (.aload_n 0, 1) := by decide +kernel
theorem dX0_ofRoom_90 : decode cX0_ofRoom 90 = .ok (.getfield 30, 3) := by decide +kernel
theorem dX0_ofRoom_93 : decode cX0_ofRoom 93 = .ok (.iload_n 1, 1) := by decide +kernel
theorem dX0_ofRoom_94 : decode cX0_ofRoom 94 = .ok (.laload, 1) := by decide +kernel
theorem dX0_ofRoom_95 : decode cX0_ofRoom 95 = .ok (.invokestatic 130, 3) := by decide +kernel
theorem dX0_ofRoom_98 : decode cX0_ofRoom 98 = .ok (.ireturn, 1) := by decide +kernel
theorem dX0_ofRoom_99 : decode cX0_ofRoom 99 = .ok (.aload_n 0, 1) := by decide +kernel
theorem dX0_ofRoom_100 : decode cX0_ofRoom 100 = .ok (.iload_n 1, 1) := by decide +kernel
theorem dX0_ofRoom_101 : decode cX0_ofRoom 101 = .ok (.invokevirtual 144, 3) := by decide +kernel
theorem dX0_ofRoom_104 : decode cX0_ofRoom 104 = .ok (.ireturn, 1) := by decide +kernel
theorem dX0_ofRoom_105 : decode cX0_ofRoom 105 = .ok (.aload_n 0, 1) := by decide +kernel
theorem dX0_ofRoom_106 : decode cX0_ofRoom 106 = .ok (.iload_n 1, 1) := by decide +kernel
theorem dX0_ofRoom_107 : decode cX0_ofRoom 107 = .ok (.invokevirtual 151, 3) := by decide +kernel
theorem dX0_ofRoom_110 : decode cX0_ofRoom 110 = .ok (.ireturn, 1) := by decide +kernel
theorem dX0_ofRoom_111 : decode cX0_ofRoom 111 = .ok (.ldc 63, 2) := by decide +kernel
theorem dX0_ofRoom_113 : decode cX0_ofRoom 113 = .ok (.ireturn, 1) := by decide +kernel
theorem dX0_talksIn_0 : decode cX0_talksIn 0 = .ok (.iconst 0, 1) := by decide +kernel
theorem dX0_talksIn_1 : decode cX0_talksIn 1 = .ok (.istore_n 2, 1) := by decide +kernel
theorem dX0_talksIn_2 : decode cX0_talksIn 2 = .ok (.iconst 0, 1) := by decide +kernel
theorem dX0_talksIn_3 : decode cX0_talksIn 3 = .ok (.istore_n 3, 1) := by decide +kernel
theorem dX0_talksIn_4 : decode cX0_talksIn 4 = .ok (.iload_n 3, 1) := by decide +kernel
theorem dX0_talksIn_5 : decode cX0_talksIn 5 = .ok (.bipush 20, 2) := by decide +kernel
theorem dX0_talksIn_7 : decode cX0_talksIn 7 = .ok (.if_icmp .ge 25, 3) := by decide +kernel
theorem dX0_talksIn_10 : decode cX0_talksIn 10 = .ok (.aload_n 0, 1) := by decide +kernel
theorem dX0_talksIn_11 : decode cX0_talksIn 11 = .ok (.getfield 21, 3) := by decide +kernel
theorem dX0_talksIn_14 : decode cX0_talksIn 14 = .ok (.iload_n 3, 1) := by decide +kernel
theorem dX0_talksIn_15 : decode cX0_talksIn 15 = .ok (.iaload, 1) := by decide +kernel
theorem dX0_talksIn_16 : decode cX0_talksIn 16 = .ok (.iload_n 1, 1) := by decide +kernel
theorem dX0_talksIn_17 : decode cX0_talksIn 17 = .ok (.if_icmp .ne 9, 3) := by decide +kernel
theorem dX0_talksIn_20 : decode cX0_talksIn 20 = .ok (.iload_n 2, 1) := by decide +kernel
theorem dX0_talksIn_21 : decode cX0_talksIn 21 = .ok (.iconst 1, 1) := by decide +kernel
theorem dX0_talksIn_22 : decode cX0_talksIn 22 = .ok (.iload_n 3, 1) := by decide +kernel
theorem dX0_talksIn_23 : decode cX0_talksIn 23 = .ok (.ishl, 1) := by decide +kernel
theorem dX0_talksIn_24 : decode cX0_talksIn 24 = .ok (.ior, 1) := by decide +kernel
theorem dX0_talksIn_25 : decode cX0_talksIn 25 = .ok (.istore_n 2, 1) := by decide +kernel
theorem dX0_talksIn_26 : decode cX0_talksIn 26 = .ok (.iinc 3 1, 3) := by decide +kernel
theorem dX0_talksIn_29 : decode cX0_talksIn 29 = .ok (.goto (-25), 3) := by decide +kernel
theorem dX0_talksIn_32 : decode cX0_talksIn 32 = .ok (.iload_n 2, 1) := by decide +kernel
theorem dX0_talksIn_33 : decode cX0_talksIn 33 = .ok (.ireturn, 1) := by decide +kernel
theorem dX0_longestFree_0 : decode cX0_longestFree 0 = .ok (.iconst 0, 1) := by decide +kernel
theorem dX0_longestFree_1 : decode cX0_longestFree 1 = .ok (.istore_n 2, 1) := by decide +kernel
theorem dX0_longestFree_2 : decode cX0_longestFree 2 = .ok (.iconst 0, 1) := by decide +kernel
theorem dX0_longestFree_3 : decode cX0_longestFree 3 = .ok (.istore_n 3, 1) := by decide +kernel
theorem dX0_longestFree_4 : decode cX0_longestFree 4 = .ok (.iconst 0, 1) := by decide +kernel
theorem dX0_longestFree_5 : decode cX0_longestFree 5 = .ok (.istore 4, 2) := by decide +kernel
theorem dX0_longestFree_7 : decode cX0_longestFree 7 = .ok (.iload 4, 2) := by decide +kernel
theorem dX0_longestFree_9 : decode cX0_longestFree 9 = .ok (.bipush 48, 2) := by decide +kernel
theorem dX0_longestFree_11 : decode cX0_longestFree 11 = .ok (.if_icmp .ge 33, 3) := by decide +kernel
theorem dX0_longestFree_14 : decode cX0_longestFree 14 = .ok (.aload_n 0, 1) := by decide +kernel
theorem dX0_longestFree_15 : decode cX0_longestFree 15 = .ok (.iload_n 1, 1) := by decide +kernel
theorem dX0_longestFree_16 : decode cX0_longestFree 16 = .ok (.iload 4, 2) := by decide +kernel
theorem dX0_longestFree_18 : decode cX0_longestFree 18 = .ok (.invokevirtual 154, 3) := by decide +kernel
theorem dX0_longestFree_21 : decode cX0_longestFree 21 = .ok (.ifCond .eq 7, 3) := by decide +kernel
theorem dX0_longestFree_24 : decode cX0_longestFree 24 = .ok (.iconst 0, 1) := by decide +kernel
theorem dX0_longestFree_25 : decode cX0_longestFree 25 = .ok (.goto 6, 3) := by decide +kernel
theorem dX0_longestFree_28 : decode cX0_longestFree 28 = .ok (.iload_n 3, 1) := by decide +kernel
theorem dX0_longestFree_29 : decode cX0_longestFree 29 = .ok (.iconst 1, 1) := by decide +kernel
theorem dX0_longestFree_30 : decode cX0_longestFree 30 = .ok (.iadd, 1) := by decide +kernel
theorem dX0_longestFree_31 : decode cX0_longestFree 31 = .ok (.istore_n 3, 1) := by decide +kernel
theorem dX0_longestFree_32 : decode cX0_longestFree 32 = .ok (.iload_n 2, 1) := by decide +kernel
theorem dX0_longestFree_33 : decode cX0_longestFree 33 = .ok (.iload_n 3, 1) := by decide +kernel
theorem dX0_longestFree_34 : decode cX0_longestFree 34 = .ok (.invokestatic 157, 3) := by decide +kernel
theorem dX0_longestFree_37 : decode cX0_longestFree 37 = .ok (.istore_n 2, 1) := by decide +kernel
theorem dX0_longestFree_38 : decode cX0_longestFree 38 = .ok (.iinc 4 1, 3) := by decide +kernel
theorem dX0_longestFree_41 : decode cX0_longestFree 41 = .ok (.goto (-34), 3) := by decide +kernel
theorem dX0_longestFree_44 : decode cX0_longestFree 44 = .ok (.iload_n 2, 1) := by decide +kernel
theorem dX0_longestFree_45 : decode cX0_longestFree 45 = .ok (.ireturn, 1) := by decide +kernel
theorem dX0_talkIn_0 : decode cX0_talkIn 0 = .ok (.iconst 0, 1) := by decide +kernel
theorem dX0_talkIn_1 : decode cX0_talkIn 1 = .ok (.istore_n 3, 1) := by decide +kernel
theorem dX0_talkIn_2 : decode cX0_talkIn 2 = .ok (.iload_n 3, 1) := by decide +kernel
theorem dX0_talkIn_3 : decode cX0_talkIn 3 = .ok (.bipush 20, 2) := by decide +kernel
theorem dX0_talkIn_5 : decode cX0_talkIn 5 = .ok (.if_icmp .ge 30, 3) := by decide +kernel
theorem dX0_talkIn_8 : decode cX0_talkIn 8 = .ok (.aload_n 0, 1) := by decide +kernel
theorem dX0_talkIn_9 : decode cX0_talkIn 9 = .ok (.getfield 21, 3) := by decide +kernel
theorem dX0_talkIn_12 : decode cX0_talkIn 12 = .ok (.iload_n 3, 1) := by decide +kernel
theorem dX0_talkIn_13 : decode cX0_talkIn 13 = .ok (.iaload, 1) := by decide +kernel
theorem dX0_talkIn_14 : decode cX0_talkIn 14 = .ok (.iload_n 1, 1) := by decide +kernel
theorem dX0_talkIn_15 : decode cX0_talkIn 15 = .ok (.if_icmp .ne 14, 3) := by decide +kernel
theorem dX0_talkIn_18 : decode cX0_talkIn 18 = .ok (.aload_n 0, 1) := by decide +kernel
theorem dX0_talkIn_19 : decode cX0_talkIn 19 = .ok (.iload_n 3, 1) := by decide +kernel
theorem dX0_talkIn_20 : decode cX0_talkIn 20 = .ok (.iload_n 2, 1) := by decide +kernel
theorem dX0_talkIn_21 : decode cX0_talkIn 21 = .ok (.invokevirtual 162, 3) := by decide +kernel
theorem dX0_talkIn_24 : decode cX0_talkIn 24 = .ok (.ifCond .eq 5, 3) := by decide +kernel
theorem dX0_talkIn_27 : decode cX0_talkIn 27 = .ok (.iload_n 3, 1) := by decide +kernel
theorem dX0_talkIn_28 : decode cX0_talkIn 28 = .ok (.ireturn, 1) := by decide +kernel
theorem dX0_talkIn_29 : decode cX0_talkIn 29 = .ok (.iinc 3 1, 3) := by decide +kernel
theorem dX0_talkIn_32 : decode cX0_talkIn 32 = .ok (.goto (-30), 3) := by decide +kernel
theorem dX0_talkIn_35 : decode cX0_talkIn 35 = .ok (.iconst (-1), 1) := by decide +kernel
theorem dX0_talkIn_36 : decode cX0_talkIn 36 = .ok (.ireturn, 1) := by decide +kernel
theorem dX0_talksAt_0 : decode cX0_talksAt 0 = .ok (.iconst 0, 1) := by decide +kernel
theorem dX0_talksAt_1 : decode cX0_talksAt 1 = .ok (.istore_n 2, 1) := by decide +kernel
theorem dX0_talksAt_2 : decode cX0_talksAt 2 = .ok (.iconst 0, 1) := by decide +kernel
theorem dX0_talksAt_3 : decode cX0_talksAt 3 = .ok (.istore_n 3, 1) := by decide +kernel
theorem dX0_talksAt_4 : decode cX0_talksAt 4 = .ok (.iload_n 3, 1) := by decide +kernel
theorem dX0_talksAt_5 : decode cX0_talksAt 5 = .ok (.bipush 20, 2) := by decide +kernel
theorem dX0_talksAt_7 : decode cX0_talksAt 7 = .ok (.if_icmp .ge 21, 3) := by decide +kernel
theorem dX0_talksAt_10 : decode cX0_talksAt 10 = .ok (.aload_n 0, 1) := by decide +kernel
theorem dX0_talksAt_11 : decode cX0_talksAt 11 = .ok (.iload_n 3, 1) := by decide +kernel
theorem dX0_talksAt_12 : decode cX0_talksAt 12 = .ok (.iload_n 1, 1) := by decide +kernel
theorem dX0_talksAt_13 : decode cX0_talksAt 13 = .ok (.invokevirtual 162, 3) := by decide +kernel
theorem dX0_talksAt_16 : decode cX0_talksAt 16 = .ok (.ifCond .eq 6, 3) := by decide +kernel
theorem dX0_talksAt_19 : decode cX0_talksAt 19 = .ok (.iinc 2 1, 3) := by decide +kernel
theorem dX0_talksAt_22 : decode cX0_talksAt 22 = .ok (.iinc 3 1, 3) := by decide +kernel
theorem dX0_talksAt_25 : decode cX0_talksAt 25 = .ok (.goto (-21), 3) := by decide +kernel
theorem dX0_talksAt_28 : decode cX0_talksAt 28 = .ok (.iload_n 2, 1) := by decide +kernel
theorem dX0_talksAt_29 : decode cX0_talksAt 29 = .ok (.ireturn, 1) := by decide +kernel
theorem dX0_freeRoomsAt_0 : decode cX0_freeRoomsAt 0 = .ok (.iconst 0, 1) := by decide +kernel
theorem dX0_freeRoomsAt_1 : decode cX0_freeRoomsAt 1 = .ok (.istore_n 2, 1) := by decide +kernel
theorem dX0_freeRoomsAt_2 : decode cX0_freeRoomsAt 2 = .ok (.iconst 0, 1) := by decide +kernel
theorem dX0_freeRoomsAt_3 : decode cX0_freeRoomsAt 3 = .ok (.istore_n 3, 1) := by decide +kernel
theorem dX0_freeRoomsAt_4 : decode cX0_freeRoomsAt 4 = .ok (.iload_n 3, 1) := by decide +kernel
theorem dX0_freeRoomsAt_5 : decode cX0_freeRoomsAt 5 = .ok (.bipush 8, 2) := by decide +kernel
theorem dX0_freeRoomsAt_7 : decode cX0_freeRoomsAt 7 = .ok (.if_icmp .ge 32, 3) := by decide +kernel
theorem dX0_freeRoomsAt_10 : decode cX0_freeRoomsAt 10 = .ok (.aload_n 0, 1) := by decide +kernel
theorem dX0_freeRoomsAt_11 : decode cX0_freeRoomsAt 11 = .ok (.iload_n 3, 1) := by decide +kernel
theorem dX0_freeRoomsAt_12 : decode cX0_freeRoomsAt 12 = .ok (.invokevirtual 92, 3) := by decide +kernel
theorem dX0_freeRoomsAt_15 : decode cX0_freeRoomsAt 15 = .ok (.ifCond .eq 18, 3) := by decide +kernel
theorem dX0_freeRoomsAt_18 : decode cX0_freeRoomsAt 18 = .ok (.aload_n 0, 1) := by decide +kernel
theorem dX0_freeRoomsAt_19 : decode cX0_freeRoomsAt 19 = .ok (.iload_n 3, 1) := by decide +kernel
theorem dX0_freeRoomsAt_20 : decode cX0_freeRoomsAt 20 = .ok (.iload_n 1, 1) := by decide +kernel
theorem dX0_freeRoomsAt_21 : decode cX0_freeRoomsAt 21 = .ok (.invokevirtual 154, 3) := by decide +kernel
theorem dX0_freeRoomsAt_24 : decode cX0_freeRoomsAt 24 = .ok (.ifCond .ne 9, 3) := by decide +kernel
theorem dX0_freeRoomsAt_27 : decode cX0_freeRoomsAt 27 = .ok (.iload_n 2, 1) := by decide +kernel
theorem dX0_freeRoomsAt_28 : decode cX0_freeRoomsAt 28 = .ok (.iconst 1, 1) := by decide +kernel
theorem dX0_freeRoomsAt_29 : decode cX0_freeRoomsAt 29 = .ok (.iload_n 3, 1) := by decide +kernel
theorem dX0_freeRoomsAt_30 : decode cX0_freeRoomsAt 30 = .ok (.ishl, 1) := by decide +kernel
theorem dX0_freeRoomsAt_31 : decode cX0_freeRoomsAt 31 = .ok (.ior, 1) := by decide +kernel
theorem dX0_freeRoomsAt_32 : decode cX0_freeRoomsAt 32 = .ok (.istore_n 2, 1) := by decide +kernel
theorem dX0_freeRoomsAt_33 : decode cX0_freeRoomsAt 33 = .ok (.iinc 3 1, 3) := by decide +kernel
theorem dX0_freeRoomsAt_36 : decode cX0_freeRoomsAt 36 = .ok (.goto (-32), 3) := by decide +kernel
theorem dX0_freeRoomsAt_39 : decode cX0_freeRoomsAt 39 = .ok (.iload_n 2, 1) := by decide +kernel
theorem dX0_freeRoomsAt_40 : decode cX0_freeRoomsAt 40 = .ok (.ireturn, 1) := by decide +kernel
theorem dX0_number_0 : decode cX0_number 0 = .ok (.iload_n 1, 1) := by decide +kernel
theorem dX0_number_1 : decode cX0_number 1 = .ok (.tableswitch 92 0 7 #[47, 57, 62, 67, 72, 77, 82, 87], 47) := by decide +kernel
theorem dX0_number_48 : decode cX0_number 48 = .ok (.aload_n 0, 1) := by decide +kernel
theorem dX0_number_49 : decode cX0_number 49 = .ok (.getfield 44, 3) := by decide +kernel
theorem dX0_number_52 : decode cX0_number 52 = .ok (.aload_n 0, 1) := by decide +kernel
theorem dX0_number_53 : decode cX0_number 53 = .ok (.getfield 47, 3) := by decide +kernel
theorem dX0_number_56 : decode cX0_number 56 = .ok (.isub, 1) := by decide +kernel
theorem dX0_number_57 : decode cX0_number 57 = .ok (.ireturn, 1) := by decide +kernel
theorem dX0_number_58 : decode cX0_number 58 = .ok (.aload_n 0, 1) := by decide +kernel
theorem dX0_number_59 : decode cX0_number 59 = .ok (.getfield 44, 3) := by decide +kernel
theorem dX0_number_62 : decode cX0_number 62 = .ok (.ireturn, 1) := by decide +kernel
theorem dX0_number_63 : decode cX0_number 63 = .ok (.aload_n 0, 1) := by decide +kernel
theorem dX0_number_64 : decode cX0_number 64 = .ok (.invokevirtual 95, 3) := by decide +kernel
theorem dX0_number_67 : decode cX0_number 67 = .ok (.ireturn, 1) := by decide +kernel
theorem dX0_number_68 : decode cX0_number 68 = .ok (.aload_n 0, 1) := by decide +kernel
theorem dX0_number_69 : decode cX0_number 69 = .ok (.getfield 50, 3) := by decide +kernel
theorem dX0_number_72 : decode cX0_number 72 = .ok (.ireturn, 1) := by decide +kernel
theorem dX0_number_73 : decode cX0_number 73 = .ok (.aload_n 0, 1) := by decide +kernel
theorem dX0_number_74 : decode cX0_number 74 = .ok (.getfield 53, 3) := by decide +kernel
theorem dX0_number_77 : decode cX0_number 77 = .ok (.ireturn, 1) := by decide +kernel
theorem dX0_number_78 : decode cX0_number 78 = .ok (.aload_n 0, 1) := by decide +kernel
theorem dX0_number_79 : decode cX0_number 79 = .ok (.invokevirtual 165, 3) := by decide +kernel
theorem dX0_number_82 : decode cX0_number 82 = .ok (.ireturn, 1) := by decide +kernel
theorem dX0_number_83 : decode cX0_number 83 = .ok (.aload_n 0, 1) := by decide +kernel
theorem dX0_number_84 : decode cX0_number 84 = .ok (.invokevirtual 168, 3) := by decide +kernel
theorem dX0_number_87 : decode cX0_number 87 = .ok (.ireturn, 1) := by decide +kernel
theorem dX0_number_88 : decode cX0_number 88 = .ok (.aload_n 0, 1) := by decide +kernel
theorem dX0_number_89 : decode cX0_number 89 = .ok (.getfield 47, 3) := by decide +kernel
theorem dX0_number_92 : decode cX0_number 92 = .ok (.ireturn, 1) := by decide +kernel
theorem dX0_number_93 : decode cX0_number 93 = .ok (.ldc 63, 2) := by decide +kernel
theorem dX0_number_95 : decode cX0_number 95 = .ok (.ireturn, 1) := by decide +kernel
theorem dX0_fewestRooms_0 : decode cX0_fewestRooms 0 = .ok (.iconst 0, 1) := by decide +kernel
theorem dX0_fewestRooms_1 : decode cX0_fewestRooms 1 = .ok (.istore_n 1, 1) := by decide +kernel
theorem dX0_fewestRooms_2 : decode cX0_fewestRooms 2 = .ok (.iconst 0, 1) := by decide +kernel
theorem dX0_fewestRooms_3 : decode cX0_fewestRooms 3 = .ok (.istore_n 2, 1) := by decide +kernel
theorem dX0_fewestRooms_4 : decode cX0_fewestRooms 4 = .ok (.iload_n 2, 1) := by decide +kernel
theorem dX0_fewestRooms_5 : decode cX0_fewestRooms 5 = .ok (.bipush 48, 2) := by decide +kernel
theorem dX0_fewestRooms_7 : decode cX0_fewestRooms 7 = .ok (.if_icmp .ge 19, 3) := by decide +kernel
theorem dX0_fewestRooms_10 : decode cX0_fewestRooms 10 = .ok (.iload_n 1, 1) := by decide +kernel
theorem dX0_fewestRooms_11 : decode cX0_fewestRooms 11 = .ok (.aload_n 0, 1) := by decide +kernel
theorem dX0_fewestRooms_12 : decode cX0_fewestRooms 12 = .ok (.iload_n 2, 1) := by decide +kernel
theorem dX0_fewestRooms_13 : decode cX0_fewestRooms 13 = .ok (.invokevirtual 171, 3) := by decide +kernel
theorem dX0_fewestRooms_16 : decode cX0_fewestRooms 16 = .ok (.invokestatic 157, 3) := by decide +kernel
theorem dX0_fewestRooms_19 : decode cX0_fewestRooms 19 = .ok (.istore_n 1, 1) := by decide +kernel
theorem dX0_fewestRooms_20 : decode cX0_fewestRooms 20 = .ok (.iinc 2 1, 3) := by decide +kernel
theorem dX0_fewestRooms_23 : decode cX0_fewestRooms 23 = .ok (.goto (-19), 3) := by decide +kernel
theorem dX0_fewestRooms_26 : decode cX0_fewestRooms 26 = .ok (.iload_n 1, 1) := by decide +kernel
theorem dX0_fewestRooms_27 : decode cX0_fewestRooms 27 = .ok (.ireturn, 1) := by decide +kernel
theorem dX0_hoursTaken_0 : decode cX0_hoursTaken 0 = .ok (.iconst 0, 1) := by decide +kernel
theorem dX0_hoursTaken_1 : decode cX0_hoursTaken 1 = .ok (.istore_n 1, 1) := by decide +kernel
theorem dX0_hoursTaken_2 : decode cX0_hoursTaken 2 = .ok (.iconst 0, 1) := by decide +kernel
theorem dX0_hoursTaken_3 : decode cX0_hoursTaken 3 = .ok (.istore_n 2, 1) := by decide +kernel
theorem dX0_hoursTaken_4 : decode cX0_hoursTaken 4 = .ok (.iload_n 2, 1) := by decide +kernel
theorem dX0_hoursTaken_5 : decode cX0_hoursTaken 5 = .ok (.bipush 8, 2) := by decide +kernel
theorem dX0_hoursTaken_7 : decode cX0_hoursTaken 7 = .ok (.if_icmp .ge 21, 3) := by decide +kernel
theorem dX0_hoursTaken_10 : decode cX0_hoursTaken 10 = .ok (.iload_n 1, 1) := by decide +kernel
theorem dX0_hoursTaken_11 : decode cX0_hoursTaken 11 = .ok (.aload_n 0, 1) := by decide +kernel
theorem dX0_hoursTaken_12 : decode cX0_hoursTaken 12 = .ok (.getfield 30, 3) := by decide +kernel
theorem dX0_hoursTaken_15 : decode cX0_hoursTaken 15 = .ok (.iload_n 2, 1) := by decide +kernel
theorem dX0_hoursTaken_16 : decode cX0_hoursTaken 16 = .ok (.laload, 1) := by decide +kernel
theorem dX0_hoursTaken_17 : decode cX0_hoursTaken 17 = .ok (.invokestatic 130, 3) := by decide +kernel
theorem dX0_hoursTaken_20 : decode cX0_hoursTaken 20 = .ok (.iadd, 1) := by decide +kernel
theorem dX0_hoursTaken_21 : decode cX0_hoursTaken 21 = .ok (.istore_n 1, 1) := by decide +kernel
theorem dX0_hoursTaken_22 : decode cX0_hoursTaken 22 = .ok (.iinc 2 1, 3) := by decide +kernel
theorem dX0_hoursTaken_25 : decode cX0_hoursTaken 25 = .ok (.goto (-21), 3) := by decide +kernel
theorem dX0_hoursTaken_28 : decode cX0_hoursTaken 28 = .ok (.iload_n 1, 1) := by decide +kernel
theorem dX0_hoursTaken_29 : decode cX0_hoursTaken 29 = .ok (.ireturn, 1) := by decide +kernel
theorem dX0_openRooms_0 : decode cX0_openRooms 0 = .ok (.aload_n 0, 1) := by decide +kernel
theorem dX0_openRooms_1 : decode cX0_openRooms 1 = .ok (.getfield 40, 3) := by decide +kernel
theorem dX0_openRooms_4 : decode cX0_openRooms 4 = .ok (.invokestatic 147, 3) := by decide +kernel
theorem dX0_openRooms_7 : decode cX0_openRooms 7 = .ok (.ireturn, 1) := by decide +kernel
theorem dX0_paidSoFar_0 : decode cX0_paidSoFar 0 = .ok (.aload_n 0, 1) := by decide +kernel
theorem dX0_paidSoFar_1 : decode cX0_paidSoFar 1 = .ok (.getfield 53, 3) := by decide +kernel
theorem dX0_paidSoFar_4 : decode cX0_paidSoFar 4 = .ok (.ireturn, 1) := by decide +kernel
theorem dX0_ruleOfNow_0 : decode cX0_ruleOfNow 0 = .ok (.aload_n 0, 1) := by decide +kernel
theorem dX0_ruleOfNow_1 : decode cX0_ruleOfNow 1 = .ok (.getfield 56, 3) := by decide +kernel
theorem dX0_ruleOfNow_4 : decode cX0_ruleOfNow 4 = .ok (.ireturn, 1) := by decide +kernel
theorem dX0_placedElsewhereThan_0 : decode cX0_placedElsewhereThan 0 = .ok (.iconst 0, 1) := by decide +kernel
theorem dX0_placedElsewhereThan_1 : decode cX0_placedElsewhereThan 1 = .ok (.istore_n 2, 1) := by decide +kernel
theorem dX0_placedElsewhereThan_2 : decode cX0_placedElsewhereThan 2 = .ok (.iconst 0, 1) := by decide +kernel
theorem dX0_placedElsewhereThan_3 : decode cX0_placedElsewhereThan 3 = .ok (.istore_n 3, 1) := by decide +kernel
theorem dX0_placedElsewhereThan_4 : decode cX0_placedElsewhereThan 4 = .ok (.iload_n 3, 1) := by decide +kernel
theorem dX0_placedElsewhereThan_5 : decode cX0_placedElsewhereThan 5 = .ok (.bipush 20, 2) := by decide +kernel
theorem dX0_placedElsewhereThan_7 : decode cX0_placedElsewhereThan 7 = .ok (.if_icmp .ge 27, 3) := by decide +kernel
theorem dX0_placedElsewhereThan_10 : decode cX0_placedElsewhereThan 10 = .ok (.aload_n 0, 1) := by decide +kernel
theorem dX0_placedElsewhereThan_11 : decode cX0_placedElsewhereThan 11 = .ok (.getfield 21, 3) := by decide +kernel
theorem dX0_placedElsewhereThan_14 : decode cX0_placedElsewhereThan 14 = .ok (.iload_n 3, 1) := by decide +kernel
theorem dX0_placedElsewhereThan_15 : decode cX0_placedElsewhereThan 15 = .ok (.iaload, 1) := by decide +kernel
theorem dX0_placedElsewhereThan_16 : decode cX0_placedElsewhereThan 16 = .ok (.aload_n 1, 1) := by decide +kernel
theorem dX0_placedElsewhereThan_17 : decode cX0_placedElsewhereThan 17 = .ok (.getfield 21, 3) := by decide +kernel
theorem dX0_placedElsewhereThan_20 : decode cX0_placedElsewhereThan 20 = .ok (.iload_n 3, 1) := by decide +kernel
theorem dX0_placedElsewhereThan_21 : decode cX0_placedElsewhereThan 21 = .ok (.iaload, 1) := by decide +kernel
theorem dX0_placedElsewhereThan_22 : decode cX0_placedElsewhereThan 22 = .ok (.if_icmp .eq 6, 3) := by decide +kernel
theorem dX0_placedElsewhereThan_25 : decode cX0_placedElsewhereThan 25 = .ok (.iinc 2 1, 3) := by decide +kernel
theorem dX0_placedElsewhereThan_28 : decode cX0_placedElsewhereThan 28 = .ok (.iinc 3 1, 3) := by decide +kernel
theorem dX0_placedElsewhereThan_31 : decode cX0_placedElsewhereThan 31 = .ok (.goto (-27), 3) := by decide +kernel
theorem dX0_placedElsewhereThan_34 : decode cX0_placedElsewhereThan 34 = .ok (.iload_n 2, 1) := by decide +kernel
theorem dX0_placedElsewhereThan_35 : decode cX0_placedElsewhereThan 35 = .ok (.ireturn, 1) := by decide +kernel
theorem dX1_init_0 : decode cX1_init 0 = .ok (.aload_n 0, 1) := by decide +kernel
theorem dX1_init_1 : decode cX1_init 1 = .ok (.invokespecial 3, 3) := by decide +kernel
theorem dX1_init_4 : decode cX1_init 4 = .ok (.aload_n 0, 1) := by decide +kernel
theorem dX1_init_5 : decode cX1_init 5 = .ok (.iconst 4, 1) := by decide +kernel
theorem dX1_init_6 : decode cX1_init 6 = .ok (.anewarray 11, 3) := by decide +kernel
theorem dX1_init_9 : decode cX1_init 9 = .ok (.putfield 13, 3) := by decide +kernel
theorem dX1_init_12 : decode cX1_init 12 = .ok (.return_, 1) := by decide +kernel
theorem dX1_keep_0 : decode cX1_keep 0 = .ok (.aload_n 0, 1) := by decide +kernel
theorem dX1_keep_1 : decode cX1_keep 1 = .ok (.getfield 17, 3) := by decide +kernel
theorem dX1_keep_4 : decode cX1_keep 4 = .ok (.iconst 3, 1) := by decide +kernel
theorem dX1_keep_5 : decode cX1_keep 5 = .ok (.iand, 1) := by decide +kernel
theorem dX1_keep_6 : decode cX1_keep 6 = .ok (.istore_n 2, 1) := by decide +kernel
theorem dX1_keep_7 : decode cX1_keep 7 = .ok (.aload_n 0, 1) := by decide +kernel
theorem dX1_keep_8 : decode cX1_keep 8 = .ok (.getfield 13, 3) := by decide +kernel
theorem dX1_keep_11 : decode cX1_keep 11 = .ok (.iload_n 2, 1) := by decide +kernel
theorem dX1_keep_12 : decode cX1_keep 12 = .ok (.aaload, 1) := by decide +kernel
theorem dX1_keep_13 : decode cX1_keep 13 = .ok (.astore_n 3, 1) := by decide +kernel
theorem dX1_keep_14 : decode cX1_keep 14 = .ok (.aload_n 3, 1) := by decide +kernel
theorem dX1_keep_15 : decode cX1_keep 15 = .ok (.ifnonnull 18, 3) := by decide +kernel
theorem dX1_keep_18 : decode cX1_keep 18 = .ok (.new 11, 3) := by decide +kernel
theorem dX1_keep_21 : decode cX1_keep 21 = .ok (.dup, 1) := by decide +kernel
theorem dX1_keep_22 : decode cX1_keep 22 = .ok (.invokespecial 21, 3) := by decide +kernel
theorem dX1_keep_25 : decode cX1_keep 25 = .ok (.astore_n 3, 1) := by decide +kernel
theorem dX1_keep_26 : decode cX1_keep 26 = .ok (.aload_n 0, 1) := by decide +kernel
theorem dX1_keep_27 : decode cX1_keep 27 = .ok (.getfield 13, 3) := by decide +kernel
theorem dX1_keep_30 : decode cX1_keep 30 = .ok (.iload_n 2, 1) := by decide +kernel
theorem dX1_keep_31 : decode cX1_keep 31 = .ok (.aload_n 3, 1) := by decide +kernel
theorem dX1_keep_32 : decode cX1_keep 32 = .ok (.aastore, 1) := by decide +kernel
theorem dX1_keep_33 : decode cX1_keep 33 = .ok (.aload_n 3, 1) := by decide +kernel
theorem dX1_keep_34 : decode cX1_keep 34 = .ok (.aload_n 1, 1) := by decide +kernel
theorem dX1_keep_35 : decode cX1_keep 35 = .ok (.invokevirtual 22, 3) := by decide +kernel
theorem dX1_keep_38 : decode cX1_keep 38 = .ok (.aload_n 0, 1) := by decide +kernel
theorem dX1_keep_39 : decode cX1_keep 39 = .ok (.dup, 1) := by decide +kernel
theorem dX1_keep_40 : decode cX1_keep 40 = .ok (.getfield 17, 3) := by decide +kernel
theorem dX1_keep_43 : decode cX1_keep 43 = .ok (.iconst 1, 1) := by decide +kernel
theorem dX1_keep_44 : decode cX1_keep 44 = .ok (.iadd, 1) := by decide +kernel
theorem dX1_keep_45 : decode cX1_keep 45 = .ok (.putfield 17, 3) := by decide +kernel
theorem dX1_keep_48 : decode cX1_keep 48 = .ok (.aload_n 0, 1) := by decide +kernel
theorem dX1_keep_49 : decode cX1_keep 49 = .ok (.aload_n 0, 1) := by decide +kernel
theorem dX1_keep_50 : decode cX1_keep 50 = .ok (.getfield 26, 3) := by decide +kernel
theorem dX1_keep_53 : decode cX1_keep 53 = .ok (.iconst 1, 1) := by decide +kernel
theorem dX1_keep_54 : decode cX1_keep 54 = .ok (.iadd, 1) := by decide +kernel
theorem dX1_keep_55 : decode cX1_keep 55 = .ok (.iconst 4, 1) := by decide +kernel
theorem dX1_keep_56 : decode cX1_keep 56 = .ok (.invokestatic 29, 3) := by decide +kernel
theorem dX1_keep_59 : decode cX1_keep 59 = .ok (.putfield 26, 3) := by decide +kernel
theorem dX1_keep_62 : decode cX1_keep 62 = .ok (.return_, 1) := by decide +kernel
theorem dX1_giveBack_0 : decode cX1_giveBack 0 = .ok (.aload_n 0, 1) := by decide +kernel
theorem dX1_giveBack_1 : decode cX1_giveBack 1 = .ok (.getfield 13, 3) := by decide +kernel
theorem dX1_giveBack_4 : decode cX1_giveBack 4 = .ok (.aload_n 0, 1) := by decide +kernel
theorem dX1_giveBack_5 : decode cX1_giveBack 5 = .ok (.getfield 17, 3) := by decide +kernel
theorem dX1_giveBack_8 : decode cX1_giveBack 8 = .ok (.iconst 1, 1) := by decide +kernel
theorem dX1_giveBack_9 : decode cX1_giveBack 9 = .ok (.isub, 1) := by decide +kernel
theorem dX1_giveBack_10 : decode cX1_giveBack 10 = .ok (.iconst 3, 1) := by decide +kernel
theorem dX1_giveBack_11 : decode cX1_giveBack 11 = .ok (.iand, 1) := by decide +kernel
theorem dX1_giveBack_12 : decode cX1_giveBack 12 = .ok (.aaload, 1) := by decide +kernel
theorem dX1_giveBack_13 : decode cX1_giveBack 13 = .ok (.astore_n 2, 1) := by decide +kernel
theorem dX1_giveBack_14 : decode cX1_giveBack 14 = .ok (.aload_n 0, 1) := by decide +kernel
theorem dX1_giveBack_15 : decode cX1_giveBack 15 = .ok (.getfield 26, 3) := by decide +kernel
theorem dX1_giveBack_18 : decode cX1_giveBack 18 = .ok (.ifCond .eq 7, 3) := by decide +kernel
theorem dX1_giveBack_21 : decode cX1_giveBack 21 = .ok (.aload_n 2, 1) := by decide +kernel
theorem dX1_giveBack_22 : decode cX1_giveBack 22 = .ok (.ifnonnull 6, 3) := by decide +kernel
theorem dX1_giveBack_25 : decode cX1_giveBack 25 = .ok (.ldc 35, 2) := by decide +kernel
theorem dX1_giveBack_27 : decode cX1_giveBack 27 = .ok (.ireturn, 1) := by decide +kernel
theorem dX1_giveBack_28 : decode cX1_giveBack 28 = .ok (.aload_n 1, 1) := by decide +kernel
theorem dX1_giveBack_29 : decode cX1_giveBack 29 = .ok (.aload_n 2, 1) := by decide +kernel
theorem dX1_giveBack_30 : decode cX1_giveBack 30 = .ok (.invokevirtual 22, 3) := by decide +kernel
theorem dX1_giveBack_33 : decode cX1_giveBack 33 = .ok (.aload_n 0, 1) := by decide +kernel
theorem dX1_giveBack_34 : decode cX1_giveBack 34 = .ok (.dup, 1) := by decide +kernel
theorem dX1_giveBack_35 : decode cX1_giveBack 35 = .ok (.getfield 17, 3) := by decide +kernel
theorem dX1_giveBack_38 : decode cX1_giveBack 38 = .ok (.iconst 1, 1) := by decide +kernel
theorem dX1_giveBack_39 : decode cX1_giveBack 39 = .ok (.isub, 1) := by decide +kernel
theorem dX1_giveBack_40 : decode cX1_giveBack 40 = .ok (.putfield 17, 3) := by decide +kernel
theorem dX1_giveBack_43 : decode cX1_giveBack 43 = .ok (.aload_n 0, 1) := by decide +kernel
theorem dX1_giveBack_44 : decode cX1_giveBack 44 = .ok (.dup, 1) := by decide +kernel
theorem dX1_giveBack_45 : decode cX1_giveBack 45 = .ok (.getfield 26, 3) := by decide +kernel
theorem dX1_giveBack_48 : decode cX1_giveBack 48 = .ok (.iconst 1, 1) := by decide +kernel
theorem dX1_giveBack_49 : decode cX1_giveBack 49 = .ok (.isub, 1) := by decide +kernel
theorem dX1_giveBack_50 : decode cX1_giveBack 50 = .ok (.putfield 26, 3) := by decide +kernel
theorem dX1_giveBack_53 : decode cX1_giveBack 53 = .ok (.aload_n 0, 1) := by decide +kernel
theorem dX1_giveBack_54 : decode cX1_giveBack 54 = .ok (.getfield 26, 3) := by decide +kernel
theorem dX1_giveBack_57 : decode cX1_giveBack 57 = .ok (.ireturn, 1) := by decide +kernel
theorem dX1_size_0 : decode cX1_size 0 = .ok (.aload_n 0, 1) := by decide +kernel
theorem dX1_size_1 : decode cX1_size 1 = .ok (.getfield 26, 3) := by decide +kernel
theorem dX1_size_4 : decode cX1_size 4 = .ok (.ireturn, 1) := by decide +kernel
theorem dX2_init_0 : decode cX2_init 0 = .ok (.aload_n 0, 1) := by decide +kernel
theorem dX2_init_1 : decode cX2_init 1 = .ok (.invokespecial 3, 3) := by decide +kernel
theorem dX2_init_4 : decode cX2_init 4 = .ok (.aload_n 0, 1) := by decide +kernel
theorem dX2_init_5 : decode cX2_init 5 = .ok (.iconst 3, 1) := by decide +kernel
theorem dX2_init_6 : decode cX2_init 6 = .ok (.newarray .int, 2) := by decide +kernel
theorem dX2_init_8 : decode cX2_init 8 = .ok (.putfield 11, 3) := by decide +kernel
theorem dX2_init_11 : decode cX2_init 11 = .ok (.return_, 1) := by decide +kernel
theorem dX2_read_0 : decode cX2_read 0 = .ok (.aload_n 0, 1) := by decide +kernel
theorem dX2_read_1 : decode cX2_read 1 = .ok (.iload_n 3, 1) := by decide +kernel
theorem dX2_read_2 : decode cX2_read 2 = .ok (.putfield 15, 3) := by decide +kernel
theorem dX2_read_5 : decode cX2_read 5 = .ok (.aload_n 0, 1) := by decide +kernel
theorem dX2_read_6 : decode cX2_read 6 = .ok (.aload_n 1, 1) := by decide +kernel
theorem dX2_read_7 : decode cX2_read 7 = .ok (.iload_n 2, 1) := by decide +kernel
theorem dX2_read_8 : decode cX2_read 8 = .ok (.invokevirtual 19, 3) := by decide +kernel
theorem dX2_read_11 : decode cX2_read 11 = .ok (.istore 4, 2) := by decide +kernel
theorem dX2_read_13 : decode cX2_read 13 = .ok (.iconst 0, 1) := by decide +kernel
theorem dX2_read_14 : decode cX2_read 14 = .ok (.istore 5, 2) := by decide +kernel
theorem dX2_read_16 : decode cX2_read 16 = .ok (.iload 5, 2) := by decide +kernel
theorem dX2_read_18 : decode cX2_read 18 = .ok (.iload 4, 2) := by decide +kernel
theorem dX2_read_20 : decode cX2_read 20 = .ok (.if_icmp .ge 51, 3) := by decide +kernel
theorem dX2_read_23 : decode cX2_read 23 = .ok (.iload 5, 2) := by decide +kernel
theorem dX2_read_25 : decode cX2_read 25 = .ok (.iload 4, 2) := by decide +kernel
theorem dX2_read_27 : decode cX2_read 27 = .ok (.iconst 1, 1) := by decide +kernel
theorem dX2_read_28 : decode cX2_read 28 = .ok (.isub, 1) := by decide +kernel
theorem dX2_read_29 : decode cX2_read 29 = .ok (.if_icmp .ne 8, 3) := by decide +kernel
theorem dX2_read_32 : decode cX2_read 32 = .ok (.bipush 59, 2) := by decide +kernel
theorem dX2_read_34 : decode cX2_read 34 = .ok (.goto 5, 3) := by decide +kernel
theorem dX2_read_37 : decode cX2_read 37 = .ok (.bipush 44, 2) := by decide +kernel
theorem dX2_read_39 : decode cX2_read 39 = .ok (.istore 6, 2) := by decide +kernel
theorem dX2_read_41 : decode cX2_read 41 = .ok (.aload_n 0, 1) := by decide +kernel
theorem dX2_read_42 : decode cX2_read 42 = .ok (.aload_n 1, 1) := by decide +kernel
theorem dX2_read_43 : decode cX2_read 43 = .ok (.iload_n 2, 1) := by decide +kernel
theorem dX2_read_44 : decode cX2_read 44 = .ok (.iload 5, 2) := by decide +kernel
theorem dX2_read_46 : decode cX2_read 46 = .ok (.invokevirtual 23, 3) := by decide +kernel
theorem dX2_read_49 : decode cX2_read 49 = .ok (.ifCond .eq 14, 3) := by decide +kernel
theorem dX2_read_52 : decode cX2_read 52 = .ok (.aload_n 0, 1) := by decide +kernel
theorem dX2_read_53 : decode cX2_read 53 = .ok (.aload_n 1, 1) := by decide +kernel
theorem dX2_read_54 : decode cX2_read 54 = .ok (.iload_n 2, 1) := by decide +kernel
theorem dX2_read_55 : decode cX2_read 55 = .ok (.iload 6, 2) := by decide +kernel
theorem dX2_read_57 : decode cX2_read 57 = .ok (.invokevirtual 27, 3) := by decide +kernel
theorem dX2_read_60 : decode cX2_read 60 = .ok (.ifCond .ne 5, 3) := by decide +kernel
theorem dX2_read_63 : decode cX2_read 63 = .ok (.iconst 0, 1) := by decide +kernel
theorem dX2_read_64 : decode cX2_read 64 = .ok (.ireturn, 1) := by decide +kernel
theorem dX2_read_65 : decode cX2_read 65 = .ok (.iinc 5 1, 3) := by decide +kernel
theorem dX2_read_68 : decode cX2_read 68 = .ok (.goto (-52), 3) := by decide +kernel
theorem dX2_read_71 : decode cX2_read 71 = .ok (.iload 4, 2) := by decide +kernel
theorem dX2_read_73 : decode cX2_read 73 = .ok (.ifCond .le 7, 3) := by decide +kernel
theorem dX2_read_76 : decode cX2_read 76 = .ok (.iconst 1, 1) := by decide +kernel
theorem dX2_read_77 : decode cX2_read 77 = .ok (.goto 4, 3) := by decide +kernel
theorem dX2_read_80 : decode cX2_read 80 = .ok (.iconst 0, 1) := by decide +kernel
theorem dX2_read_81 : decode cX2_read 81 = .ok (.ireturn, 1) := by decide +kernel
theorem dX2_next_0 : decode cX2_next 0 = .ok (.aload_n 0, 1) := by decide +kernel
theorem dX2_next_1 : decode cX2_next 1 = .ok (.getfield 15, 3) := by decide +kernel
theorem dX2_next_4 : decode cX2_next 4 = .ok (.ireturn, 1) := by decide +kernel
theorem dX2_doOn_0 : decode cX2_doOn 0 = .ok (.aload_n 0, 1) := by decide +kernel
theorem dX2_doOn_1 : decode cX2_doOn 1 = .ok (.getfield 31, 3) := by decide +kernel
theorem dX2_doOn_4 : decode cX2_doOn 4 = .ok (.tableswitch 108 114 119 #[74, 108, 40, 97, 108, 63], 40) := by decide +kernel
theorem dX2_doOn_44 : decode cX2_doOn 44 = .ok (.aload_n 1, 1) := by decide +kernel
theorem dX2_doOn_45 : decode cX2_doOn 45 = .ok (.aload_n 0, 1) := by decide +kernel
theorem dX2_doOn_46 : decode cX2_doOn 46 = .ok (.getfield 11, 3) := by decide +kernel
theorem dX2_doOn_49 : decode cX2_doOn 49 = .ok (.iconst 0, 1) := by decide +kernel
theorem dX2_doOn_50 : decode cX2_doOn 50 = .ok (.iaload, 1) := by decide +kernel
theorem dX2_doOn_51 : decode cX2_doOn 51 = .ok (.aload_n 0, 1) := by decide +kernel
theorem dX2_doOn_52 : decode cX2_doOn 52 = .ok (.getfield 11, 3) := by decide +kernel
theorem dX2_doOn_55 : decode cX2_doOn 55 = .ok (.iconst 1, 1) := by decide +kernel
theorem dX2_doOn_56 : decode cX2_doOn 56 = .ok (.iaload, 1) := by decide +kernel
theorem dX2_doOn_57 : decode cX2_doOn 57 = .ok (.aload_n 0, 1) := by decide +kernel
theorem dX2_doOn_58 : decode cX2_doOn 58 = .ok (.getfield 11, 3) := by decide +kernel
theorem dX2_doOn_61 : decode cX2_doOn 61 = .ok (.iconst 2, 1) := by decide +kernel
theorem dX2_doOn_62 : decode cX2_doOn 62 = .ok (.iaload, 1) := by decide +kernel
theorem dX2_doOn_63 : decode cX2_doOn 63 = .ok (.invokevirtual 35, 3) := by decide +kernel
theorem dX2_doOn_66 : decode cX2_doOn 66 = .ok (.ireturn, 1) := by decide +kernel
theorem dX2_doOn_67 : decode cX2_doOn 67 = .ok (.aload_n 1, 1) := by decide +kernel
theorem dX2_doOn_68 : decode cX2_doOn 68 = .ok (.aload_n 0, 1) := by decide +kernel
theorem dX2_doOn_69 : decode cX2_doOn 69 = .ok (.getfield 11, 3) := by decide +kernel
theorem dX2_doOn_72 : decode cX2_doOn 72 = .ok (.iconst 0, 1) := by decide +kernel
theorem dX2_doOn_73 : decode cX2_doOn 73 = .ok (.iaload, 1) := by decide +kernel
theorem dX2_doOn_74 : decode cX2_doOn 74 = .ok (.invokevirtual 41, 3) := by decide +kernel
theorem dX2_doOn_77 : decode cX2_doOn 77 = .ok (.ireturn, 1) := by decide +kernel
theorem dX2_doOn_78 : decode cX2_doOn 78 = .ok (.aload_n 1, 1) := by decide +kernel
theorem dX2_doOn_79 : decode cX2_doOn 79 = .ok (.aload_n 0, 1) := by decide +kernel
theorem dX2_doOn_80 : decode cX2_doOn 80 = .ok (.getfield 11, 3) := by decide +kernel
theorem dX2_doOn_83 : decode cX2_doOn 83 = .ok (.iconst 0, 1) := by decide +kernel
theorem dX2_doOn_84 : decode cX2_doOn 84 = .ok (.iaload, 1) := by decide +kernel
theorem dX2_doOn_85 : decode cX2_doOn 85 = .ok (.aload_n 0, 1) := by decide +kernel
theorem dX2_doOn_86 : decode cX2_doOn 86 = .ok (.getfield 11, 3) := by decide +kernel
theorem dX2_doOn_89 : decode cX2_doOn 89 = .ok (.iconst 1, 1) := by decide +kernel
theorem dX2_doOn_90 : decode cX2_doOn 90 = .ok (.iaload, 1) := by decide +kernel
theorem dX2_doOn_91 : decode cX2_doOn 91 = .ok (.aload_n 0, 1) := by decide +kernel
theorem dX2_doOn_92 : decode cX2_doOn 92 = .ok (.getfield 11, 3) := by decide +kernel
theorem dX2_doOn_95 : decode cX2_doOn 95 = .ok (.iconst 2, 1) := by decide +kernel
theorem dX2_doOn_96 : decode cX2_doOn 96 = .ok (.iaload, 1) := by decide +kernel
theorem dX2_doOn_97 : decode cX2_doOn 97 = .ok (.invokevirtual 45, 3) := by decide +kernel
theorem dX2_doOn_100 : decode cX2_doOn 100 = .ok (.ireturn, 1) := by decide +kernel
theorem dX2_doOn_101 : decode cX2_doOn 101 = .ok (.aload_n 1, 1) := by decide +kernel
theorem dX2_doOn_102 : decode cX2_doOn 102 = .ok (.aload_n 0, 1) := by decide +kernel
theorem dX2_doOn_103 : decode cX2_doOn 103 = .ok (.getfield 11, 3) := by decide +kernel
theorem dX2_doOn_106 : decode cX2_doOn 106 = .ok (.iconst 0, 1) := by decide +kernel
theorem dX2_doOn_107 : decode cX2_doOn 107 = .ok (.iaload, 1) := by decide +kernel
theorem dX2_doOn_108 : decode cX2_doOn 108 = .ok (.invokevirtual 48, 3) := by decide +kernel
theorem dX2_doOn_111 : decode cX2_doOn 111 = .ok (.ireturn, 1) := by decide +kernel
theorem dX2_doOn_112 : decode cX2_doOn 112 = .ok (.ldc 51, 2) := by decide +kernel
theorem dX2_doOn_114 : decode cX2_doOn 114 = .ok (.ireturn, 1) := by decide +kernel
theorem dX2_readKind_0 : decode cX2_readKind 0 = .ok (.aload_n 0, 1) := by decide +kernel
theorem dX2_readKind_1 : decode cX2_readKind 1 = .ok (.aload_n 1, 1) := by decide +kernel
theorem dX2_readKind_2 : decode cX2_readKind 2 = .ok (.iload_n 2, 1) := by decide +kernel
theorem dX2_readKind_3 : decode cX2_readKind 3 = .ok (.invokevirtual 52, 3) := by decide +kernel
theorem dX2_readKind_6 : decode cX2_readKind 6 = .ok (.ifCond .ne 5, 3) := by decide +kernel
theorem dX2_readKind_9 : decode cX2_readKind 9 = .ok (.iconst 0, 1) := by decide +kernel
theorem dX2_readKind_10 : decode cX2_readKind 10 = .ok (.ireturn, 1) := by decide +kernel
theorem dX2_readKind_11 : decode cX2_readKind 11 = .ok (.aload_n 0, 1) := by decide +kernel
theorem dX2_readKind_12 : decode cX2_readKind 12 = .ok (.aload_n 1, 1) := by decide +kernel
theorem dX2_readKind_13 : decode cX2_readKind 13 = .ok (.aload_n 0, 1) := by decide +kernel
theorem dX2_readKind_14 : decode cX2_readKind 14 = .ok (.getfield 15, 3) := by decide +kernel
theorem dX2_readKind_17 : decode cX2_readKind 17 = .ok (.caload, 1) := by decide +kernel
theorem dX2_readKind_18 : decode cX2_readKind 18 = .ok (.putfield 31, 3) := by decide +kernel
theorem dX2_readKind_21 : decode cX2_readKind 21 = .ok (.aload_n 0, 1) := by decide +kernel
theorem dX2_readKind_22 : decode cX2_readKind 22 = .ok (.getfield 31, 3) := by decide +kernel
theorem dX2_readKind_25 : decode cX2_readKind 25 = .ok (.tableswitch 63 114 119 #[39, 63, 39, 51, 63, 51], 39) := by decide +kernel
theorem dX2_readKind_64 : decode cX2_readKind 64 = .ok (.aload_n 0, 1) := by decide +kernel
theorem dX2_readKind_65 : decode cX2_readKind 65 = .ok (.dup, 1) := by decide +kernel
theorem dX2_readKind_66 : decode cX2_readKind 66 = .ok (.getfield 15, 3) := by decide +kernel
theorem dX2_readKind_69 : decode cX2_readKind 69 = .ok (.iconst 1, 1) := by decide +kernel
theorem dX2_readKind_70 : decode cX2_readKind 70 = .ok (.iadd, 1) := by decide +kernel
theorem dX2_readKind_71 : decode cX2_readKind 71 = .ok (.putfield 15, 3) := by decide +kernel
theorem dX2_readKind_74 : decode cX2_readKind 74 = .ok (.iconst 3, 1) := by decide +kernel
theorem dX2_readKind_75 : decode cX2_readKind 75 = .ok (.ireturn, 1) := by decide +kernel
theorem dX2_readKind_76 : decode cX2_readKind 76 = .ok (.aload_n 0, 1) := by decide +kernel
theorem dX2_readKind_77 : decode cX2_readKind 77 = .ok (.dup, 1) := by decide +kernel
theorem dX2_readKind_78 : decode cX2_readKind 78 = .ok (.getfield 15, 3) := by decide +kernel
theorem dX2_readKind_81 : decode cX2_readKind 81 = .ok (.iconst 1, 1) := by decide +kernel
theorem dX2_readKind_82 : decode cX2_readKind 82 = .ok (.iadd, 1) := by decide +kernel
theorem dX2_readKind_83 : decode cX2_readKind 83 = .ok (.putfield 15, 3) := by decide +kernel
theorem dX2_readKind_86 : decode cX2_readKind 86 = .ok (.iconst 1, 1) := by decide +kernel
theorem dX2_readKind_87 : decode cX2_readKind 87 = .ok (.ireturn, 1) := by decide +kernel
theorem dX2_readKind_88 : decode cX2_readKind 88 = .ok (.iconst 0, 1) := by decide +kernel
theorem dX2_readKind_89 : decode cX2_readKind 89 = .ok (.ireturn, 1) := by decide +kernel
theorem dX2_readNumber_0 : decode cX2_readNumber 0 = .ok (.iload_n 3, 1) := by decide +kernel
theorem dX2_readNumber_1 : decode cX2_readNumber 1 = .ok (.ifCond .lt 17, 3) := by decide +kernel
theorem dX2_readNumber_4 : decode cX2_readNumber 4 = .ok (.iload_n 3, 1) := by decide +kernel
theorem dX2_readNumber_5 : decode cX2_readNumber 5 = .ok (.iconst 3, 1) := by decide +kernel
theorem dX2_readNumber_6 : decode cX2_readNumber 6 = .ok (.if_icmp .ge 12, 3) := by decide +kernel
theorem dX2_readNumber_9 : decode cX2_readNumber 9 = .ok (.aload_n 0, 1) := by decide +kernel
theorem dX2_readNumber_10 : decode cX2_readNumber 10 = .ok (.aload_n 1, 1) := by decide +kernel
theorem dX2_readNumber_11 : decode cX2_readNumber 11 = .ok (.iload_n 2, 1) := by decide +kernel
theorem dX2_readNumber_12 : decode cX2_readNumber 12 = .ok (.invokevirtual 56, 3) := by decide +kernel
theorem dX2_readNumber_15 : decode cX2_readNumber 15 = .ok (.ifCond .ne 5, 3) := by decide +kernel
theorem dX2_readNumber_18 : decode cX2_readNumber 18 = .ok (.iconst 0, 1) := by decide +kernel
theorem dX2_readNumber_19 : decode cX2_readNumber 19 = .ok (.ireturn, 1) := by decide +kernel
theorem dX2_readNumber_20 : decode cX2_readNumber 20 = .ok (.aload_n 0, 1) := by decide +kernel
theorem dX2_readNumber_21 : decode cX2_readNumber 21 = .ok (.getfield 11, 3) := by decide +kernel
theorem dX2_readNumber_24 : decode cX2_readNumber 24 = .ok (.iload_n 3, 1) := by decide +kernel
theorem dX2_readNumber_25 : decode cX2_readNumber 25 = .ok (.aload_n 1, 1) := by decide +kernel
theorem dX2_readNumber_26 : decode cX2_readNumber 26 = .ok (.aload_n 0, 1) := by decide +kernel
theorem dX2_readNumber_27 : decode cX2_readNumber 27 = .ok (.getfield 15, 3) := by decide +kernel
theorem dX2_readNumber_30 : decode cX2_readNumber 30 = .ok (.caload, 1) := by decide +kernel
theorem dX2_readNumber_31 : decode cX2_readNumber 31 = .ok (.bipush 48, 2) := by decide +kernel
theorem dX2_readNumber_33 : decode cX2_readNumber 33 = .ok (.isub, 1) := by decide +kernel
theorem dX2_readNumber_34 : decode cX2_readNumber 34 = .ok (.iastore, 1) := by decide +kernel
theorem dX2_readNumber_35 : decode cX2_readNumber 35 = .ok (.aload_n 0, 1) := by decide +kernel
theorem dX2_readNumber_36 : decode cX2_readNumber 36 = .ok (.dup, 1) := by decide +kernel
theorem dX2_readNumber_37 : decode cX2_readNumber 37 = .ok (.getfield 15, 3) := by decide +kernel
theorem dX2_readNumber_40 : decode cX2_readNumber 40 = .ok (.iconst 1, 1) := by decide +kernel
theorem dX2_readNumber_41 : decode cX2_readNumber 41 = .ok (.iadd, 1) := by decide +kernel
theorem dX2_readNumber_42 : decode cX2_readNumber 42 = .ok (.putfield 15, 3) := by decide +kernel
theorem dX2_readNumber_45 : decode cX2_readNumber 45 = .ok (.aload_n 0, 1) := by decide +kernel
theorem dX2_readNumber_46 : decode cX2_readNumber 46 = .ok (.aload_n 1, 1) := by decide +kernel
theorem dX2_readNumber_47 : decode cX2_readNumber 47 = .ok (.iload_n 2, 1) := by decide +kernel
theorem dX2_readNumber_48 : decode cX2_readNumber 48 = .ok (.invokevirtual 56, 3) := by decide +kernel
theorem dX2_readNumber_51 : decode cX2_readNumber 51 = .ok (.ifCond .eq 38, 3) := by decide +kernel
theorem dX2_readNumber_54 : decode cX2_readNumber 54 = .ok (.aload_n 0, 1) := by decide +kernel
theorem dX2_readNumber_55 : decode cX2_readNumber 55 = .ok (.getfield 11, 3) := by decide +kernel
theorem dX2_readNumber_58 : decode cX2_readNumber 58 = .ok (.iload_n 3, 1) := by decide +kernel
theorem dX2_readNumber_59 : decode cX2_readNumber 59 = .ok (.bipush 10, 2) := by decide +kernel
theorem dX2_readNumber_61 : decode cX2_readNumber 61 = .ok (.aload_n 0, 1) := by decide +kernel
theorem dX2_readNumber_62 : decode cX2_readNumber 62 = .ok (.getfield 11, 3) := by decide +kernel
theorem dX2_readNumber_65 : decode cX2_readNumber 65 = .ok (.iload_n 3, 1) := by decide +kernel
theorem dX2_readNumber_66 : decode cX2_readNumber 66 = .ok (.iaload, 1) := by decide +kernel
theorem dX2_readNumber_67 : decode cX2_readNumber 67 = .ok (.imul, 1) := by decide +kernel
theorem dX2_readNumber_68 : decode cX2_readNumber 68 = .ok (.aload_n 1, 1) := by decide +kernel
theorem dX2_readNumber_69 : decode cX2_readNumber 69 = .ok (.aload_n 0, 1) := by decide +kernel
theorem dX2_readNumber_70 : decode cX2_readNumber 70 = .ok (.getfield 15, 3) := by decide +kernel
theorem dX2_readNumber_73 : decode cX2_readNumber 73 = .ok (.caload, 1) := by decide +kernel
theorem dX2_readNumber_74 : decode cX2_readNumber 74 = .ok (.iadd, 1) := by decide +kernel
theorem dX2_readNumber_75 : decode cX2_readNumber 75 = .ok (.bipush 48, 2) := by decide +kernel
theorem dX2_readNumber_77 : decode cX2_readNumber 77 = .ok (.isub, 1) := by decide +kernel
theorem dX2_readNumber_78 : decode cX2_readNumber 78 = .ok (.iastore, 1) := by decide +kernel
theorem dX2_readNumber_79 : decode cX2_readNumber 79 = .ok (.aload_n 0, 1) := by decide +kernel
theorem dX2_readNumber_80 : decode cX2_readNumber 80 = .ok (.dup, 1) := by decide +kernel
theorem dX2_readNumber_81 : decode cX2_readNumber 81 = .ok (.getfield 15, 3) := by decide +kernel
theorem dX2_readNumber_84 : decode cX2_readNumber 84 = .ok (.iconst 1, 1) := by decide +kernel
theorem dX2_readNumber_85 : decode cX2_readNumber 85 = .ok (.iadd, 1) := by decide +kernel
theorem dX2_readNumber_86 : decode cX2_readNumber 86 = .ok (.putfield 15, 3) := by decide +kernel
theorem dX2_readNumber_89 : decode cX2_readNumber 89 = .ok (.iconst 1, 1) := by decide +kernel
theorem dX2_readNumber_90 : decode cX2_readNumber 90 = .ok (.ireturn, 1) := by decide +kernel
theorem dX2_readSign_0 : decode cX2_readSign 0 = .ok (.aload_n 0, 1) := by decide +kernel
theorem dX2_readSign_1 : decode cX2_readSign 1 = .ok (.aload_n 1, 1) := by decide +kernel
theorem dX2_readSign_2 : decode cX2_readSign 2 = .ok (.iload_n 2, 1) := by decide +kernel
theorem dX2_readSign_3 : decode cX2_readSign 3 = .ok (.invokevirtual 52, 3) := by decide +kernel
theorem dX2_readSign_6 : decode cX2_readSign 6 = .ok (.ifCond .eq 13, 3) := by decide +kernel
theorem dX2_readSign_9 : decode cX2_readSign 9 = .ok (.aload_n 1, 1) := by decide +kernel
theorem dX2_readSign_10 : decode cX2_readSign 10 = .ok (.aload_n 0, 1) := by decide +kernel
theorem dX2_readSign_11 : decode cX2_readSign 11 = .ok (.getfield 15, 3) := by decide +kernel
theorem dX2_readSign_14 : decode cX2_readSign 14 = .ok (.caload, 1) := by decide +kernel
theorem dX2_readSign_15 : decode cX2_readSign 15 = .ok (.iload_n 3, 1) := by decide +kernel
theorem dX2_readSign_16 : decode cX2_readSign 16 = .ok (.if_icmp .eq 5, 3) := by decide +kernel
theorem dX2_readSign_19 : decode cX2_readSign 19 = .ok (.iconst 0, 1) := by decide +kernel
theorem dX2_readSign_20 : decode cX2_readSign 20 = .ok (.ireturn, 1) := by decide +kernel
theorem dX2_readSign_21 : decode cX2_readSign 21 = .ok (.aload_n 0, 1) := by decide +kernel
theorem dX2_readSign_22 : decode cX2_readSign 22 = .ok (.dup, 1) := by decide +kernel
theorem dX2_readSign_23 : decode cX2_readSign 23 = .ok (.getfield 15, 3) := by decide +kernel
theorem dX2_readSign_26 : decode cX2_readSign 26 = .ok (.iconst 1, 1) := by decide +kernel
theorem dX2_readSign_27 : decode cX2_readSign 27 = .ok (.iadd, 1) := by decide +kernel
theorem dX2_readSign_28 : decode cX2_readSign 28 = .ok (.putfield 15, 3) := by decide +kernel
theorem dX2_readSign_31 : decode cX2_readSign 31 = .ok (.iconst 1, 1) := by decide +kernel
theorem dX2_readSign_32 : decode cX2_readSign 32 = .ok (.ireturn, 1) := by decide +kernel
theorem dX2_isDigitLeft_0 : decode cX2_isDigitLeft 0 = .ok (.aload_n 0, 1) := by decide +kernel
theorem dX2_isDigitLeft_1 : decode cX2_isDigitLeft 1 = .ok (.aload_n 1, 1) := by decide +kernel
theorem dX2_isDigitLeft_2 : decode cX2_isDigitLeft 2 = .ok (.iload_n 2, 1) := by decide +kernel
theorem dX2_isDigitLeft_3 : decode cX2_isDigitLeft 3 = .ok (.invokevirtual 52, 3) := by decide +kernel
theorem dX2_isDigitLeft_6 : decode cX2_isDigitLeft 6 = .ok (.ifCond .eq 29, 3) := by decide +kernel
theorem dX2_isDigitLeft_9 : decode cX2_isDigitLeft 9 = .ok (.aload_n 1, 1) := by decide +kernel
theorem dX2_isDigitLeft_10 : decode cX2_isDigitLeft 10 = .ok (.aload_n 0, 1) := by decide +kernel
theorem dX2_isDigitLeft_11 : decode cX2_isDigitLeft 11 = .ok (.getfield 15, 3) := by decide +kernel
theorem dX2_isDigitLeft_14 : decode cX2_isDigitLeft 14 = .ok (.caload, 1) := by decide +kernel
theorem dX2_isDigitLeft_15 : decode cX2_isDigitLeft 15 = .ok (.bipush 48, 2) := by decide +kernel
theorem dX2_isDigitLeft_17 : decode cX2_isDigitLeft 17 = .ok (.if_icmp .lt 18, 3) := by decide +kernel
theorem dX2_isDigitLeft_20 : decode cX2_isDigitLeft 20 = .ok (.aload_n 1, 1) := by decide +kernel
theorem dX2_isDigitLeft_21 : decode cX2_isDigitLeft 21 = .ok (.aload_n 0, 1) := by decide +kernel
theorem dX2_isDigitLeft_22 : decode cX2_isDigitLeft 22 = .ok (.getfield 15, 3) := by decide +kernel
theorem dX2_isDigitLeft_25 : decode cX2_isDigitLeft 25 = .ok (.caload, 1) := by decide +kernel
theorem dX2_isDigitLeft_26 : decode cX2_isDigitLeft 26 = .ok (.bipush 57, 2) := by decide +kernel
theorem dX2_isDigitLeft_28 : decode cX2_isDigitLeft 28 = .ok (.if_icmp .gt 7, 3) := by decide +kernel
theorem dX2_isDigitLeft_31 : decode cX2_isDigitLeft 31 = .ok (.iconst 1, 1) := by decide +kernel
theorem dX2_isDigitLeft_32 : decode cX2_isDigitLeft 32 = .ok (.goto 4, 3) := by decide +kernel
theorem dX2_isDigitLeft_35 : decode cX2_isDigitLeft 35 = .ok (.iconst 0, 1) := by decide +kernel
theorem dX2_isDigitLeft_36 : decode cX2_isDigitLeft 36 = .ok (.ireturn, 1) := by decide +kernel
theorem dX2_isSignLeft_0 : decode cX2_isSignLeft 0 = .ok (.aload_n 0, 1) := by decide +kernel
theorem dX2_isSignLeft_1 : decode cX2_isSignLeft 1 = .ok (.getfield 15, 3) := by decide +kernel
theorem dX2_isSignLeft_4 : decode cX2_isSignLeft 4 = .ok (.ifCond .lt 24, 3) := by decide +kernel
theorem dX2_isSignLeft_7 : decode cX2_isSignLeft 7 = .ok (.aload_n 0, 1) := by decide +kernel
theorem dX2_isSignLeft_8 : decode cX2_isSignLeft 8 = .ok (.getfield 15, 3) := by decide +kernel
theorem dX2_isSignLeft_11 : decode cX2_isSignLeft 11 = .ok (.iload_n 2, 1) := by decide +kernel
theorem dX2_isSignLeft_12 : decode cX2_isSignLeft 12 = .ok (.if_icmp .ge 16, 3) := by decide +kernel
theorem dX2_isSignLeft_15 : decode cX2_isSignLeft 15 = .ok (.aload_n 0, 1) := by decide +kernel
theorem dX2_isSignLeft_16 : decode cX2_isSignLeft 16 = .ok (.getfield 15, 3) := by decide +kernel
theorem dX2_isSignLeft_19 : decode cX2_isSignLeft 19 = .ok (.aload_n 1, 1) := by decide +kernel
theorem dX2_isSignLeft_20 : decode cX2_isSignLeft 20 = .ok (.arraylength, 1) := by decide +kernel
theorem dX2_isSignLeft_21 : decode cX2_isSignLeft 21 = .ok (.if_icmp .ge 7, 3) := by decide +kernel
theorem dX2_isSignLeft_24 : decode cX2_isSignLeft 24 = .ok (.iconst 1, 1) := by decide +kernel
theorem dX2_isSignLeft_25 : decode cX2_isSignLeft 25 = .ok (.goto 4, 3) := by decide +kernel
theorem dX2_isSignLeft_28 : decode cX2_isSignLeft 28 = .ok (.iconst 0, 1) := by decide +kernel
theorem dX2_isSignLeft_29 : decode cX2_isSignLeft 29 = .ok (.ireturn, 1) := by decide +kernel
theorem dX3_init_0 : decode cX3_init 0 = .ok (.aload_n 0, 1) := by decide +kernel
theorem dX3_init_1 : decode cX3_init 1 = .ok (.invokespecial 3, 3) := by decide +kernel
theorem dX3_init_4 : decode cX3_init 4 = .ok (.aload_n 0, 1) := by decide +kernel
theorem dX3_init_5 : decode cX3_init 5 = .ok (.bipush 60, 2) := by decide +kernel
theorem dX3_init_7 : decode cX3_init 7 = .ok (.newarray .char, 2) := by decide +kernel
theorem dX3_init_9 : decode cX3_init 9 = .ok (.putfield 9, 3) := by decide +kernel
theorem dX3_init_12 : decode cX3_init 12 = .ok (.aload_n 0, 1) := by decide +kernel
theorem dX3_init_13 : decode cX3_init 13 = .ok (.new 15, 3) := by decide +kernel
theorem dX3_init_16 : decode cX3_init 16 = .ok (.dup, 1) := by decide +kernel
theorem dX3_init_17 : decode cX3_init 17 = .ok (.invokespecial 17, 3) := by decide +kernel
theorem dX3_init_20 : decode cX3_init 20 = .ok (.putfield 18, 3) := by decide +kernel
theorem dX3_init_23 : decode cX3_init 23 = .ok (.return_, 1) := by decide +kernel
theorem dX3_append_0 : decode cX3_append 0 = .ok (.aload_n 0, 1) := by decide +kernel
theorem dX3_append_1 : decode cX3_append 1 = .ok (.getfield 22, 3) := by decide +kernel
theorem dX3_append_4 : decode cX3_append 4 = .ok (.bipush 60, 2) := by decide +kernel
theorem dX3_append_6 : decode cX3_append 6 = .ok (.if_icmp .lt 6, 3) := by decide +kernel
theorem dX3_append_9 : decode cX3_append 9 = .ok (.ldc 26, 2) := by decide +kernel
theorem dX3_append_11 : decode cX3_append 11 = .ok (.ireturn, 1) := by decide +kernel
theorem dX3_append_12 : decode cX3_append 12 = .ok (.aload_n 0, 1) := by decide +kernel
theorem dX3_append_13 : decode cX3_append 13 = .ok (.getfield 9, 3) := by decide +kernel
theorem dX3_append_16 : decode cX3_append 16 = .ok (.aload_n 0, 1) := by decide +kernel
theorem dX3_append_17 : decode cX3_append 17 = .ok (.getfield 22, 3) := by decide +kernel
theorem dX3_append_20 : decode cX3_append 20 = .ok (.iload_n 1, 1) := by decide +kernel
theorem dX3_append_21 : decode cX3_append 21 = .ok (.castore, 1) := by decide +kernel
theorem dX3_append_22 : decode cX3_append 22 = .ok (.aload_n 0, 1) := by decide +kernel
theorem dX3_append_23 : decode cX3_append 23 = .ok (.dup, 1) := by decide +kernel
theorem dX3_append_24 : decode cX3_append 24 = .ok (.getfield 22, 3) := by decide +kernel
theorem dX3_append_27 : decode cX3_append 27 = .ok (.iconst 1, 1) := by decide +kernel
theorem dX3_append_28 : decode cX3_append 28 = .ok (.iadd, 1) := by decide +kernel
theorem dX3_append_29 : decode cX3_append 29 = .ok (.putfield 22, 3) := by decide +kernel
theorem dX3_append_32 : decode cX3_append 32 = .ok (.aload_n 0, 1) := by decide +kernel
theorem dX3_append_33 : decode cX3_append 33 = .ok (.getfield 22, 3) := by decide +kernel
theorem dX3_append_36 : decode cX3_append 36 = .ok (.ireturn, 1) := by decide +kernel
theorem dX3_clear_0 : decode cX3_clear 0 = .ok (.aload_n 0, 1) := by decide +kernel
theorem dX3_clear_1 : decode cX3_clear 1 = .ok (.getfield 22, 3) := by decide +kernel
theorem dX3_clear_4 : decode cX3_clear 4 = .ok (.istore_n 1, 1) := by decide +kernel
theorem dX3_clear_5 : decode cX3_clear 5 = .ok (.aload_n 0, 1) := by decide +kernel
theorem dX3_clear_6 : decode cX3_clear 6 = .ok (.iconst 0, 1) := by decide +kernel
theorem dX3_clear_7 : decode cX3_clear 7 = .ok (.putfield 22, 3) := by decide +kernel
theorem dX3_clear_10 : decode cX3_clear 10 = .ok (.iload_n 1, 1) := by decide +kernel
theorem dX3_clear_11 : decode cX3_clear 11 = .ok (.ireturn, 1) := by decide +kernel
theorem dX3_size_0 : decode cX3_size 0 = .ok (.aload_n 0, 1) := by decide +kernel
theorem dX3_size_1 : decode cX3_size 1 = .ok (.getfield 22, 3) := by decide +kernel
theorem dX3_size_4 : decode cX3_size 4 = .ok (.ireturn, 1) := by decide +kernel
theorem dX3_runOn_0 : decode cX3_runOn 0 = .ok (.iconst 0, 1) := by decide +kernel
theorem dX3_runOn_1 : decode cX3_runOn 1 = .ok (.istore_n 2, 1) := by decide +kernel
theorem dX3_runOn_2 : decode cX3_runOn 2 = .ok (.aload_n 0, 1) := by decide +kernel
theorem dX3_runOn_3 : decode cX3_runOn 3 = .ok (.iconst 0, 1) := by decide +kernel
theorem dX3_runOn_4 : decode cX3_runOn 4 = .ok (.putfield 27, 3) := by decide +kernel
theorem dX3_runOn_7 : decode cX3_runOn 7 = .ok (.aload_n 0, 1) := by decide +kernel
theorem dX3_runOn_8 : decode cX3_runOn 8 = .ok (.getfield 27, 3) := by decide +kernel
theorem dX3_runOn_11 : decode cX3_runOn 11 = .ok (.bipush 60, 2) := by decide +kernel
theorem dX3_runOn_13 : decode cX3_runOn 13 = .ok (.if_icmp .ge 88, 3) := by decide +kernel
theorem dX3_runOn_16 : decode cX3_runOn 16 = .ok (.iload_n 2, 1) := by decide +kernel
theorem dX3_runOn_17 : decode cX3_runOn 17 = .ok (.aload_n 0, 1) := by decide +kernel
theorem dX3_runOn_18 : decode cX3_runOn 18 = .ok (.getfield 22, 3) := by decide +kernel
theorem dX3_runOn_21 : decode cX3_runOn 21 = .ok (.if_icmp .ge 80, 3) := by decide +kernel
theorem dX3_runOn_24 : decode cX3_runOn 24 = .ok (.aload_n 0, 1) := by decide +kernel
theorem dX3_runOn_25 : decode cX3_runOn 25 = .ok (.getfield 18, 3) := by decide +kernel
theorem dX3_runOn_28 : decode cX3_runOn 28 = .ok (.aload_n 0, 1) := by decide +kernel
theorem dX3_runOn_29 : decode cX3_runOn 29 = .ok (.getfield 9, 3) := by decide +kernel
theorem dX3_runOn_32 : decode cX3_runOn 32 = .ok (.aload_n 0, 1) := by decide +kernel
theorem dX3_runOn_33 : decode cX3_runOn 33 = .ok (.getfield 22, 3) := by decide +kernel
theorem dX3_runOn_36 : decode cX3_runOn 36 = .ok (.iload_n 2, 1) := by decide +kernel
theorem dX3_runOn_37 : decode cX3_runOn 37 = .ok (.invokevirtual 30, 3) := by decide +kernel
theorem dX3_runOn_40 : decode cX3_runOn 40 = .ok (.ifCond .ne 19, 3) := by decide +kernel
theorem dX3_runOn_43 : decode cX3_runOn 43 = .ok (.aload_n 0, 1) := by decide +kernel
theorem dX3_runOn_44 : decode cX3_runOn 44 = .ok (.iload_n 2, 1) := by decide +kernel
theorem dX3_runOn_45 : decode cX3_runOn 45 = .ok (.iconst 1, 1) := by decide +kernel
theorem dX3_runOn_46 : decode cX3_runOn 46 = .ok (.aload_n 0, 1) := by decide +kernel
theorem dX3_runOn_47 : decode cX3_runOn 47 = .ok (.getfield 18, 3) := by decide +kernel
theorem dX3_runOn_50 : decode cX3_runOn 50 = .ok (.invokevirtual 34, 3) := by decide +kernel
theorem dX3_runOn_53 : decode cX3_runOn 53 = .ok (.iload_n 2, 1) := by decide +kernel
theorem dX3_runOn_54 : decode cX3_runOn 54 = .ok (.isub, 1) := by decide +kernel
theorem dX3_runOn_55 : decode cX3_runOn 55 = .ok (.invokevirtual 38, 3) := by decide +kernel
theorem dX3_runOn_58 : decode cX3_runOn 58 = .ok (.ireturn, 1) := by decide +kernel
theorem dX3_runOn_59 : decode cX3_runOn 59 = .ok (.aload_n 0, 1) := by decide +kernel
theorem dX3_runOn_60 : decode cX3_runOn 60 = .ok (.getfield 18, 3) := by decide +kernel
theorem dX3_runOn_63 : decode cX3_runOn 63 = .ok (.aload_n 1, 1) := by decide +kernel
theorem dX3_runOn_64 : decode cX3_runOn 64 = .ok (.invokevirtual 42, 3) := by decide +kernel
theorem dX3_runOn_67 : decode cX3_runOn 67 = .ok (.istore_n 3, 1) := by decide +kernel
theorem dX3_runOn_68 : decode cX3_runOn 68 = .ok (.iload_n 3, 1) := by decide +kernel
theorem dX3_runOn_69 : decode cX3_runOn 69 = .ok (.ifCond .ge 11, 3) := by decide +kernel
theorem dX3_runOn_72 : decode cX3_runOn 72 = .ok (.aload_n 0, 1) := by decide +kernel
theorem dX3_runOn_73 : decode cX3_runOn 73 = .ok (.iload_n 2, 1) := by decide +kernel
theorem dX3_runOn_74 : decode cX3_runOn 74 = .ok (.iconst 2, 1) := by decide +kernel
theorem dX3_runOn_75 : decode cX3_runOn 75 = .ok (.iload_n 3, 1) := by decide +kernel
theorem dX3_runOn_76 : decode cX3_runOn 76 = .ok (.invokevirtual 38, 3) := by decide +kernel
theorem dX3_runOn_79 : decode cX3_runOn 79 = .ok (.ireturn, 1) := by decide +kernel
theorem dX3_runOn_80 : decode cX3_runOn 80 = .ok (.aload_n 0, 1) := by decide +kernel
theorem dX3_runOn_81 : decode cX3_runOn 81 = .ok (.dup, 1) := by decide +kernel
theorem dX3_runOn_82 : decode cX3_runOn 82 = .ok (.getfield 27, 3) := by decide +kernel
theorem dX3_runOn_85 : decode cX3_runOn 85 = .ok (.iconst 1, 1) := by decide +kernel
theorem dX3_runOn_86 : decode cX3_runOn 86 = .ok (.iadd, 1) := by decide +kernel
theorem dX3_runOn_87 : decode cX3_runOn 87 = .ok (.putfield 27, 3) := by decide +kernel
theorem dX3_runOn_90 : decode cX3_runOn 90 = .ok (.aload_n 0, 1) := by decide +kernel
theorem dX3_runOn_91 : decode cX3_runOn 91 = .ok (.getfield 18, 3) := by decide +kernel
theorem dX3_runOn_94 : decode cX3_runOn 94 = .ok (.invokevirtual 34, 3) := by decide +kernel
theorem dX3_runOn_97 : decode cX3_runOn 97 = .ok (.istore_n 2, 1) := by decide +kernel
theorem dX3_runOn_98 : decode cX3_runOn 98 = .ok (.goto (-91), 3) := by decide +kernel
theorem dX3_runOn_101 : decode cX3_runOn 101 = .ok (.iconst 1, 1) := by decide +kernel
theorem dX3_runOn_102 : decode cX3_runOn 102 = .ok (.ireturn, 1) := by decide +kernel
theorem dX3_stopAt_0 : decode cX3_stopAt 0 = .ok (.aload_n 0, 1) := by decide +kernel
theorem dX3_stopAt_1 : decode cX3_stopAt 1 = .ok (.iload_n 1, 1) := by decide +kernel
theorem dX3_stopAt_2 : decode cX3_stopAt 2 = .ok (.putfield 46, 3) := by decide +kernel
theorem dX3_stopAt_5 : decode cX3_stopAt 5 = .ok (.aload_n 0, 1) := by decide +kernel
theorem dX3_stopAt_6 : decode cX3_stopAt 6 = .ok (.iload_n 2, 1) := by decide +kernel
theorem dX3_stopAt_7 : decode cX3_stopAt 7 = .ok (.putfield 49, 3) := by decide +kernel
theorem dX3_stopAt_10 : decode cX3_stopAt 10 = .ok (.aload_n 0, 1) := by decide +kernel
theorem dX3_stopAt_11 : decode cX3_stopAt 11 = .ok (.iload_n 3, 1) := by decide +kernel
theorem dX3_stopAt_12 : decode cX3_stopAt 12 = .ok (.putfield 52, 3) := by decide +kernel
theorem dX3_stopAt_15 : decode cX3_stopAt 15 = .ok (.iconst 0, 1) := by decide +kernel
theorem dX3_stopAt_16 : decode cX3_stopAt 16 = .ok (.ireturn, 1) := by decide +kernel
theorem dX3_ordersDone_0 : decode cX3_ordersDone 0 = .ok (.aload_n 0, 1) := by decide +kernel
theorem dX3_ordersDone_1 : decode cX3_ordersDone 1 = .ok (.getfield 27, 3) := by decide +kernel
theorem dX3_ordersDone_4 : decode cX3_ordersDone 4 = .ok (.ireturn, 1) := by decide +kernel
theorem dX3_ofFault_0 : decode cX3_ofFault 0 = .ok (.iload_n 1, 1) := by decide +kernel
theorem dX3_ofFault_1 : decode cX3_ofFault 1 = .ok (.lookupswitch 37 #[(0, 27), (1, 32)], 27) := by decide +kernel
theorem dX3_ofFault_28 : decode cX3_ofFault 28 = .ok (.aload_n 0, 1) := by decide +kernel
theorem dX3_ofFault_29 : decode cX3_ofFault 29 = .ok (.getfield 46, 3) := by decide +kernel
theorem dX3_ofFault_32 : decode cX3_ofFault 32 = .ok (.ireturn, 1) := by decide +kernel
theorem dX3_ofFault_33 : decode cX3_ofFault 33 = .ok (.aload_n 0, 1) := by decide +kernel
theorem dX3_ofFault_34 : decode cX3_ofFault 34 = .ok (.getfield 49, 3) := by decide +kernel
theorem dX3_ofFault_37 : decode cX3_ofFault 37 = .ok (.ireturn, 1) := by decide +kernel
theorem dX3_ofFault_38 : decode cX3_ofFault 38 = .ok (.aload_n 0, 1) := by decide +kernel
theorem dX3_ofFault_39 : decode cX3_ofFault 39 = .ok (.getfield 52, 3) := by decide +kernel
theorem dX3_ofFault_42 : decode cX3_ofFault 42 = .ok (.ireturn, 1) := by decide +kernel
theorem dX4_init_0 : decode cX4_init 0 = .ok (.aload_n 0, 1) := by decide +kernel
theorem dX4_init_1 : decode cX4_init 1 = .ok (.invokespecial 1, 3) := by decide +kernel
theorem dX4_init_4 : decode cX4_init 4 = .ok (.aload_n 0, 1) := by decide +kernel
theorem dX4_init_5 : decode cX4_init 5 = .ok (.new 7, 3) := by decide +kernel
theorem dX4_init_8 : decode cX4_init 8 = .ok (.dup, 1) := by decide +kernel
theorem dX4_init_9 : decode cX4_init 9 = .ok (.invokespecial 9, 3) := by decide +kernel
theorem dX4_init_12 : decode cX4_init 12 = .ok (.putfield 10, 3) := by decide +kernel
theorem dX4_init_15 : decode cX4_init 15 = .ok (.aload_n 0, 1) := by decide +kernel
theorem dX4_init_16 : decode cX4_init 16 = .ok (.new 7, 3) := by decide +kernel
theorem dX4_init_19 : decode cX4_init 19 = .ok (.dup, 1) := by decide +kernel
theorem dX4_init_20 : decode cX4_init 20 = .ok (.invokespecial 9, 3) := by decide +kernel
theorem dX4_init_23 : decode cX4_init 23 = .ok (.putfield 16, 3) := by decide +kernel
theorem dX4_init_26 : decode cX4_init 26 = .ok (.aload_n 0, 1) := by decide +kernel
theorem dX4_init_27 : decode cX4_init 27 = .ok (.new 19, 3) := by decide +kernel
theorem dX4_init_30 : decode cX4_init 30 = .ok (.dup, 1) := by decide +kernel
theorem dX4_init_31 : decode cX4_init 31 = .ok (.invokespecial 21, 3) := by decide +kernel
theorem dX4_init_34 : decode cX4_init 34 = .ok (.putfield 22, 3) := by decide +kernel
theorem dX4_init_37 : decode cX4_init 37 = .ok (.aload_n 0, 1) := by decide +kernel
theorem dX4_init_38 : decode cX4_init 38 = .ok (.new 26, 3) := by decide +kernel
theorem dX4_init_41 : decode cX4_init 41 = .ok (.dup, 1) := by decide +kernel
theorem dX4_init_42 : decode cX4_init 42 = .ok (.invokespecial 28, 3) := by decide +kernel
theorem dX4_init_45 : decode cX4_init 45 = .ok (.putfield 29, 3) := by decide +kernel
theorem dX4_init_48 : decode cX4_init 48 = .ok (.return_, 1) := by decide +kernel
theorem dX4_talk_0 : decode cX4_talk 0 = .ok (.aload_n 0, 1) := by decide +kernel
theorem dX4_talk_1 : decode cX4_talk 1 = .ok (.getfield 16, 3) := by decide +kernel
theorem dX4_talk_4 : decode cX4_talk 4 = .ok (.aload_n 0, 1) := by decide +kernel
theorem dX4_talk_5 : decode cX4_talk 5 = .ok (.getfield 10, 3) := by decide +kernel
theorem dX4_talk_8 : decode cX4_talk 8 = .ok (.invokevirtual 33, 3) := by decide +kernel
theorem dX4_talk_11 : decode cX4_talk 11 = .ok (.aload_n 0, 1) := by decide +kernel
theorem dX4_talk_12 : decode cX4_talk 12 = .ok (.aload_n 0, 1) := by decide +kernel
theorem dX4_talk_13 : decode cX4_talk 13 = .ok (.getfield 16, 3) := by decide +kernel
theorem dX4_talk_16 : decode cX4_talk 16 = .ok (.iload_n 1, 1) := by decide +kernel
theorem dX4_talk_17 : decode cX4_talk 17 = .ok (.iload_n 2, 1) := by decide +kernel
theorem dX4_talk_18 : decode cX4_talk 18 = .ok (.iload_n 3, 1) := by decide +kernel
theorem dX4_talk_19 : decode cX4_talk 19 = .ok (.invokevirtual 37, 3) := by decide +kernel
theorem dX4_talk_22 : decode cX4_talk 22 = .ok (.invokevirtual 41, 3) := by decide +kernel
theorem dX4_talk_25 : decode cX4_talk 25 = .ok (.ireturn, 1) := by decide +kernel
theorem dX4_withdraw_0 : decode cX4_withdraw 0 = .ok (.aload_n 0, 1) := by decide +kernel
theorem dX4_withdraw_1 : decode cX4_withdraw 1 = .ok (.getfield 16, 3) := by decide +kernel
theorem dX4_withdraw_4 : decode cX4_withdraw 4 = .ok (.aload_n 0, 1) := by decide +kernel
theorem dX4_withdraw_5 : decode cX4_withdraw 5 = .ok (.getfield 10, 3) := by decide +kernel
theorem dX4_withdraw_8 : decode cX4_withdraw 8 = .ok (.invokevirtual 33, 3) := by decide +kernel
theorem dX4_withdraw_11 : decode cX4_withdraw 11 = .ok (.aload_n 0, 1) := by decide +kernel
theorem dX4_withdraw_12 : decode cX4_withdraw 12 = .ok (.aload_n 0, 1) := by decide +kernel
theorem dX4_withdraw_13 : decode cX4_withdraw 13 = .ok (.getfield 16, 3) := by decide +kernel
theorem dX4_withdraw_16 : decode cX4_withdraw 16 = .ok (.iload_n 1, 1) := by decide +kernel
theorem dX4_withdraw_17 : decode cX4_withdraw 17 = .ok (.invokevirtual 45, 3) := by decide +kernel
theorem dX4_withdraw_20 : decode cX4_withdraw 20 = .ok (.invokevirtual 41, 3) := by decide +kernel
theorem dX4_withdraw_23 : decode cX4_withdraw 23 = .ok (.ireturn, 1) := by decide +kernel
theorem dX4_move_0 : decode cX4_move 0 = .ok (.aload_n 0, 1) := by decide +kernel
theorem dX4_move_1 : decode cX4_move 1 = .ok (.getfield 16, 3) := by decide +kernel
theorem dX4_move_4 : decode cX4_move 4 = .ok (.aload_n 0, 1) := by decide +kernel
theorem dX4_move_5 : decode cX4_move 5 = .ok (.getfield 10, 3) := by decide +kernel
theorem dX4_move_8 : decode cX4_move 8 = .ok (.invokevirtual 33, 3) := by decide +kernel
theorem dX4_move_11 : decode cX4_move 11 = .ok (.aload_n 0, 1) := by decide +kernel
theorem dX4_move_12 : decode cX4_move 12 = .ok (.aload_n 0, 1) := by decide +kernel
theorem dX4_move_13 : decode cX4_move 13 = .ok (.getfield 16, 3) := by decide +kernel
theorem dX4_move_16 : decode cX4_move 16 = .ok (.iload_n 1, 1) := by decide +kernel
theorem dX4_move_17 : decode cX4_move 17 = .ok (.iload_n 2, 1) := by decide +kernel
theorem dX4_move_18 : decode cX4_move 18 = .ok (.invokevirtual 48, 3) := by decide +kernel
theorem dX4_move_21 : decode cX4_move 21 = .ok (.invokevirtual 41, 3) := by decide +kernel
theorem dX4_move_24 : decode cX4_move 24 = .ok (.ireturn, 1) := by decide +kernel
theorem dX4_room_0 : decode cX4_room 0 = .ok (.aload_n 0, 1) := by decide +kernel
theorem dX4_room_1 : decode cX4_room 1 = .ok (.getfield 16, 3) := by decide +kernel
theorem dX4_room_4 : decode cX4_room 4 = .ok (.aload_n 0, 1) := by decide +kernel
theorem dX4_room_5 : decode cX4_room 5 = .ok (.getfield 10, 3) := by decide +kernel
theorem dX4_room_8 : decode cX4_room 8 = .ok (.invokevirtual 33, 3) := by decide +kernel
theorem dX4_room_11 : decode cX4_room 11 = .ok (.aload_n 0, 1) := by decide +kernel
theorem dX4_room_12 : decode cX4_room 12 = .ok (.aload_n 0, 1) := by decide +kernel
theorem dX4_room_13 : decode cX4_room 13 = .ok (.getfield 16, 3) := by decide +kernel
theorem dX4_room_16 : decode cX4_room 16 = .ok (.iload_n 1, 1) := by decide +kernel
theorem dX4_room_17 : decode cX4_room 17 = .ok (.iload_n 2, 1) := by decide +kernel
theorem dX4_room_18 : decode cX4_room 18 = .ok (.iload_n 3, 1) := by decide +kernel
theorem dX4_room_19 : decode cX4_room 19 = .ok (.invokevirtual 52, 3) := by decide +kernel
theorem dX4_room_22 : decode cX4_room 22 = .ok (.invokevirtual 41, 3) := by decide +kernel
theorem dX4_room_25 : decode cX4_room 25 = .ok (.ireturn, 1) := by decide +kernel
theorem dX4_close_0 : decode cX4_close 0 = .ok (.aload_n 0, 1) := by decide +kernel
theorem dX4_close_1 : decode cX4_close 1 = .ok (.getfield 16, 3) := by decide +kernel
theorem dX4_close_4 : decode cX4_close 4 = .ok (.aload_n 0, 1) := by decide +kernel
theorem dX4_close_5 : decode cX4_close 5 = .ok (.getfield 10, 3) := by decide +kernel
theorem dX4_close_8 : decode cX4_close 8 = .ok (.invokevirtual 33, 3) := by decide +kernel
theorem dX4_close_11 : decode cX4_close 11 = .ok (.aload_n 0, 1) := by decide +kernel
theorem dX4_close_12 : decode cX4_close 12 = .ok (.aload_n 0, 1) := by decide +kernel
theorem dX4_close_13 : decode cX4_close 13 = .ok (.getfield 16, 3) := by decide +kernel
theorem dX4_close_16 : decode cX4_close 16 = .ok (.iload_n 1, 1) := by decide +kernel
theorem dX4_close_17 : decode cX4_close 17 = .ok (.invokevirtual 55, 3) := by decide +kernel
theorem dX4_close_20 : decode cX4_close 20 = .ok (.invokevirtual 41, 3) := by decide +kernel
theorem dX4_close_23 : decode cX4_close 23 = .ok (.ireturn, 1) := by decide +kernel
theorem dX4_anew_0 : decode cX4_anew 0 = .ok (.aload_n 0, 1) := by decide +kernel
theorem dX4_anew_1 : decode cX4_anew 1 = .ok (.aload_n 0, 1) := by decide +kernel
theorem dX4_anew_2 : decode cX4_anew 2 = .ok (.aload_n 0, 1) := by decide +kernel
theorem dX4_anew_3 : decode cX4_anew 3 = .ok (.getfield 10, 3) := by decide +kernel
theorem dX4_anew_6 : decode cX4_anew 6 = .ok (.invokevirtual 58, 3) := by decide +kernel
theorem dX4_anew_9 : decode cX4_anew 9 = .ok (.invokevirtual 62, 3) := by decide +kernel
theorem dX4_anew_12 : decode cX4_anew 12 = .ok (.invokevirtual 41, 3) := by decide +kernel
theorem dX4_anew_15 : decode cX4_anew 15 = .ok (.ireturn, 1) := by decide +kernel
theorem dX4_set_0 : decode cX4_set 0 = .ok (.aload_n 0, 1) := by decide +kernel
theorem dX4_set_1 : decode cX4_set 1 = .ok (.getfield 16, 3) := by decide +kernel
theorem dX4_set_4 : decode cX4_set 4 = .ok (.aload_n 0, 1) := by decide +kernel
theorem dX4_set_5 : decode cX4_set 5 = .ok (.getfield 10, 3) := by decide +kernel
theorem dX4_set_8 : decode cX4_set 8 = .ok (.invokevirtual 33, 3) := by decide +kernel
theorem dX4_set_11 : decode cX4_set 11 = .ok (.aload_n 0, 1) := by decide +kernel
theorem dX4_set_12 : decode cX4_set 12 = .ok (.iload_n 1, 1) := by decide +kernel
theorem dX4_set_13 : decode cX4_set 13 = .ok (.ifCond .ne 14, 3) := by decide +kernel
theorem dX4_set_16 : decode cX4_set 16 = .ok (.aload_n 0, 1) := by decide +kernel
theorem dX4_set_17 : decode cX4_set 17 = .ok (.getfield 16, 3) := by decide +kernel
theorem dX4_set_20 : decode cX4_set 20 = .ok (.iload_n 2, 1) := by decide +kernel
theorem dX4_set_21 : decode cX4_set 21 = .ok (.invokevirtual 65, 3) := by decide +kernel
theorem dX4_set_24 : decode cX4_set 24 = .ok (.goto 5, 3) := by decide +kernel
theorem dX4_set_27 : decode cX4_set 27 = .ok (.ldc 68, 2) := by decide +kernel
theorem dX4_set_29 : decode cX4_set 29 = .ok (.invokevirtual 41, 3) := by decide +kernel
theorem dX4_set_32 : decode cX4_set 32 = .ok (.ireturn, 1) := by decide +kernel
theorem dX4_talkOf_0 : decode cX4_talkOf 0 = .ok (.aload_n 0, 1) := by decide +kernel
theorem dX4_talkOf_1 : decode cX4_talkOf 1 = .ok (.getfield 10, 3) := by decide +kernel
theorem dX4_talkOf_4 : decode cX4_talkOf 4 = .ok (.iload_n 1, 1) := by decide +kernel
theorem dX4_talkOf_5 : decode cX4_talkOf 5 = .ok (.iload_n 2, 1) := by decide +kernel
theorem dX4_talkOf_6 : decode cX4_talkOf 6 = .ok (.invokevirtual 69, 3) := by decide +kernel
theorem dX4_talkOf_9 : decode cX4_talkOf 9 = .ok (.ireturn, 1) := by decide +kernel
theorem dX4_roomOf_0 : decode cX4_roomOf 0 = .ok (.aload_n 0, 1) := by decide +kernel
theorem dX4_roomOf_1 : decode cX4_roomOf 1 = .ok (.getfield 10, 3) := by decide +kernel
theorem dX4_roomOf_4 : decode cX4_roomOf 4 = .ok (.iload_n 1, 1) := by decide +kernel
theorem dX4_roomOf_5 : decode cX4_roomOf 5 = .ok (.iload_n 2, 1) := by decide +kernel
theorem dX4_roomOf_6 : decode cX4_roomOf 6 = .ok (.invokevirtual 72, 3) := by decide +kernel
theorem dX4_roomOf_9 : decode cX4_roomOf 9 = .ok (.ireturn, 1) := by decide +kernel
theorem dX4_at_0 : decode cX4_at 0 = .ok (.iload_n 1, 1) := by decide +kernel
theorem dX4_at_1 : decode cX4_at 1 = .ok (.invokestatic 75, 3) := by decide +kernel
theorem dX4_at_4 : decode cX4_at 4 = .ok (.ifCond .eq 10, 3) := by decide +kernel
theorem dX4_at_7 : decode cX4_at 7 = .ok (.iload_n 2, 1) := by decide +kernel
theorem dX4_at_8 : decode cX4_at 8 = .ok (.invokestatic 79, 3) := by decide +kernel
theorem dX4_at_11 : decode cX4_at 11 = .ok (.ifCond .ne 6, 3) := by decide +kernel
theorem dX4_at_14 : decode cX4_at 14 = .ok (.ldc 68, 2) := by decide +kernel
theorem dX4_at_16 : decode cX4_at 16 = .ok (.ireturn, 1) := by decide +kernel
theorem dX4_at_17 : decode cX4_at 17 = .ok (.aload_n 0, 1) := by decide +kernel
theorem dX4_at_18 : decode cX4_at 18 = .ok (.getfield 10, 3) := by decide +kernel
theorem dX4_at_21 : decode cX4_at 21 = .ok (.iload_n 1, 1) := by decide +kernel
theorem dX4_at_22 : decode cX4_at 22 = .ok (.iload_n 2, 1) := by decide +kernel
theorem dX4_at_23 : decode cX4_at 23 = .ok (.invokevirtual 82, 3) := by decide +kernel
theorem dX4_at_26 : decode cX4_at 26 = .ok (.istore_n 3, 1) := by decide +kernel
theorem dX4_at_27 : decode cX4_at 27 = .ok (.iload_n 3, 1) := by decide +kernel
theorem dX4_at_28 : decode cX4_at 28 = .ok (.iconst (-1), 1) := by decide +kernel
theorem dX4_at_29 : decode cX4_at 29 = .ok (.if_icmp .ne 8, 3) := by decide +kernel
theorem dX4_at_32 : decode cX4_at 32 = .ok (.ldc 85, 2) := by decide +kernel
theorem dX4_at_34 : decode cX4_at 34 = .ok (.goto 4, 3) := by decide +kernel
theorem dX4_at_37 : decode cX4_at 37 = .ok (.iload_n 3, 1) := by decide +kernel
theorem dX4_at_38 : decode cX4_at 38 = .ok (.ireturn, 1) := by decide +kernel
theorem dX4_hourOf_0 : decode cX4_hourOf 0 = .ok (.iload_n 1, 1) := by decide +kernel
theorem dX4_hourOf_1 : decode cX4_hourOf 1 = .ok (.invokestatic 79, 3) := by decide +kernel
theorem dX4_hourOf_4 : decode cX4_hourOf 4 = .ok (.ifCond .ne 6, 3) := by decide +kernel
theorem dX4_hourOf_7 : decode cX4_hourOf 7 = .ok (.ldc 68, 2) := by decide +kernel
theorem dX4_hourOf_9 : decode cX4_hourOf 9 = .ok (.ireturn, 1) := by decide +kernel
theorem dX4_hourOf_10 : decode cX4_hourOf 10 = .ok (.iload_n 2, 1) := by decide +kernel
theorem dX4_hourOf_11 : decode cX4_hourOf 11 = .ok (.lookupswitch 43 #[(0, 25), (1, 34)], 25) := by decide +kernel
theorem dX4_hourOf_36 : decode cX4_hourOf 36 = .ok (.aload_n 0, 1) := by decide +kernel
theorem dX4_hourOf_37 : decode cX4_hourOf 37 = .ok (.getfield 10, 3) := by decide +kernel
theorem dX4_hourOf_40 : decode cX4_hourOf 40 = .ok (.iload_n 1, 1) := by decide +kernel
theorem dX4_hourOf_41 : decode cX4_hourOf 41 = .ok (.invokevirtual 86, 3) := by decide +kernel
theorem dX4_hourOf_44 : decode cX4_hourOf 44 = .ok (.ireturn, 1) := by decide +kernel
theorem dX4_hourOf_45 : decode cX4_hourOf 45 = .ok (.aload_n 0, 1) := by decide +kernel
theorem dX4_hourOf_46 : decode cX4_hourOf 46 = .ok (.getfield 10, 3) := by decide +kernel
theorem dX4_hourOf_49 : decode cX4_hourOf 49 = .ok (.iload_n 1, 1) := by decide +kernel
theorem dX4_hourOf_50 : decode cX4_hourOf 50 = .ok (.invokevirtual 89, 3) := by decide +kernel
theorem dX4_hourOf_53 : decode cX4_hourOf 53 = .ok (.ireturn, 1) := by decide +kernel
theorem dX4_hourOf_54 : decode cX4_hourOf 54 = .ok (.ldc 68, 2) := by decide +kernel
theorem dX4_hourOf_56 : decode cX4_hourOf 56 = .ok (.ireturn, 1) := by decide +kernel
theorem dX4_would_0 : decode cX4_would 0 = .ok (.iload_n 1, 1) := by decide +kernel
theorem dX4_would_1 : decode cX4_would 1 = .ok (.iload_n 2, 1) := by decide +kernel
theorem dX4_would_2 : decode cX4_would 2 = .ok (.iload_n 3, 1) := by decide +kernel
theorem dX4_would_3 : decode cX4_would 3 = .ok (.invokestatic 92, 3) := by decide +kernel
theorem dX4_would_6 : decode cX4_would 6 = .ok (.ifCond .eq 11, 3) := by decide +kernel
theorem dX4_would_9 : decode cX4_would 9 = .ok (.iload 4, 2) := by decide +kernel
theorem dX4_would_11 : decode cX4_would 11 = .ok (.invokestatic 96, 3) := by decide +kernel
theorem dX4_would_14 : decode cX4_would 14 = .ok (.ifCond .ne 6, 3) := by decide +kernel
theorem dX4_would_17 : decode cX4_would 17 = .ok (.ldc 68, 2) := by decide +kernel
theorem dX4_would_19 : decode cX4_would 19 = .ok (.ireturn, 1) := by decide +kernel
theorem dX4_would_20 : decode cX4_would 20 = .ok (.aload_n 0, 1) := by decide +kernel
theorem dX4_would_21 : decode cX4_would 21 = .ok (.getfield 10, 3) := by decide +kernel
theorem dX4_would_24 : decode cX4_would 24 = .ok (.iload_n 1, 1) := by decide +kernel
theorem dX4_would_25 : decode cX4_would 25 = .ok (.iload_n 2, 1) := by decide +kernel
theorem dX4_would_26 : decode cX4_would 26 = .ok (.iload_n 3, 1) := by decide +kernel
theorem dX4_would_27 : decode cX4_would 27 = .ok (.iload 4, 2) := by decide +kernel
theorem dX4_would_29 : decode cX4_would 29 = .ok (.invokevirtual 99, 3) := by decide +kernel
theorem dX4_would_32 : decode cX4_would 32 = .ok (.istore 5, 2) := by decide +kernel
theorem dX4_would_34 : decode cX4_would 34 = .ok (.iload 5, 2) := by decide +kernel
theorem dX4_would_36 : decode cX4_would 36 = .ok (.iconst (-1), 1) := by decide +kernel
theorem dX4_would_37 : decode cX4_would 37 = .ok (.if_icmp .ne 8, 3) := by decide +kernel
theorem dX4_would_40 : decode cX4_would 40 = .ok (.ldc 85, 2) := by decide +kernel
theorem dX4_would_42 : decode cX4_would 42 = .ok (.goto 5, 3) := by decide +kernel
theorem dX4_would_45 : decode cX4_would 45 = .ok (.iload 5, 2) := by decide +kernel
theorem dX4_would_47 : decode cX4_would 47 = .ok (.ireturn, 1) := by decide +kernel
theorem dX4_known_0 : decode cX4_known 0 = .ok (.iload_n 1, 1) := by decide +kernel
theorem dX4_known_1 : decode cX4_known 1 = .ok (.invokestatic 96, 3) := by decide +kernel
theorem dX4_known_4 : decode cX4_known 4 = .ok (.ifCond .eq 12, 3) := by decide +kernel
theorem dX4_known_7 : decode cX4_known 7 = .ok (.iload_n 2, 1) := by decide +kernel
theorem dX4_known_8 : decode cX4_known 8 = .ok (.ifCond .lt 8, 3) := by decide +kernel
theorem dX4_known_11 : decode cX4_known 11 = .ok (.iload_n 2, 1) := by decide +kernel
theorem dX4_known_12 : decode cX4_known 12 = .ok (.iconst 2, 1) := by decide +kernel
theorem dX4_known_13 : decode cX4_known 13 = .ok (.if_icmp .le 6, 3) := by decide +kernel
theorem dX4_known_16 : decode cX4_known 16 = .ok (.ldc 68, 2) := by decide +kernel
theorem dX4_known_18 : decode cX4_known 18 = .ok (.ireturn, 1) := by decide +kernel
theorem dX4_known_19 : decode cX4_known 19 = .ok (.aload_n 0, 1) := by decide +kernel
theorem dX4_known_20 : decode cX4_known 20 = .ok (.iload_n 1, 1) := by decide +kernel
theorem dX4_known_21 : decode cX4_known 21 = .ok (.invokevirtual 62, 3) := by decide +kernel
theorem dX4_known_24 : decode cX4_known 24 = .ok (.istore_n 3, 1) := by decide +kernel
theorem dX4_known_25 : decode cX4_known 25 = .ok (.iload_n 3, 1) := by decide +kernel
theorem dX4_known_26 : decode cX4_known 26 = .ok (.ifCond .lt 7, 3) := by decide +kernel
theorem dX4_known_29 : decode cX4_known 29 = .ok (.iload_n 2, 1) := by decide +kernel
theorem dX4_known_30 : decode cX4_known 30 = .ok (.ifCond .ne 5, 3) := by decide +kernel
theorem dX4_known_33 : decode cX4_known 33 = .ok (.iload_n 3, 1) := by decide +kernel
theorem dX4_known_34 : decode cX4_known 34 = .ok (.ireturn, 1) := by decide +kernel
theorem dX4_known_35 : decode cX4_known 35 = .ok (.iload_n 2, 1) := by decide +kernel
theorem dX4_known_36 : decode cX4_known 36 = .ok (.iconst 1, 1) := by decide +kernel
theorem dX4_known_37 : decode cX4_known 37 = .ok (.if_icmp .ne 13, 3) := by decide +kernel
theorem dX4_known_40 : decode cX4_known 40 = .ok (.aload_n 0, 1) := by decide +kernel
theorem dX4_known_41 : decode cX4_known 41 = .ok (.getfield 16, 3) := by decide +kernel
theorem dX4_known_44 : decode cX4_known 44 = .ok (.invokevirtual 103, 3) := by decide +kernel
theorem dX4_known_47 : decode cX4_known 47 = .ok (.goto 14, 3) := by decide +kernel
theorem dX4_known_50 : decode cX4_known 50 = .ok (.aload_n 0, 1) := by decide +kernel
theorem dX4_known_51 : decode cX4_known 51 = .ok (.getfield 16, 3) := by decide +kernel
theorem dX4_known_54 : decode cX4_known 54 = .ok (.aload_n 0, 1) := by decide +kernel
theorem dX4_known_55 : decode cX4_known 55 = .ok (.getfield 10, 3) := by decide +kernel
theorem dX4_known_58 : decode cX4_known 58 = .ok (.invokevirtual 106, 3) := by decide +kernel
theorem dX4_known_61 : decode cX4_known 61 = .ok (.ireturn, 1) := by decide +kernel
theorem dX4_unknowing_0 : decode cX4_unknowing 0 = .ok (.aload_n 0, 1) := by decide +kernel
theorem dX4_unknowing_1 : decode cX4_unknowing 1 = .ok (.aload_n 0, 1) := by decide +kernel
theorem dX4_unknowing_2 : decode cX4_unknowing 2 = .ok (.getfield 10, 3) := by decide +kernel
theorem dX4_unknowing_5 : decode cX4_unknowing 5 = .ok (.invokevirtual 58, 3) := by decide +kernel
theorem dX4_unknowing_8 : decode cX4_unknowing 8 = .ok (.invokevirtual 62, 3) := by decide +kernel
theorem dX4_unknowing_11 : decode cX4_unknowing 11 = .ok (.istore_n 1, 1) := by decide +kernel
theorem dX4_unknowing_12 : decode cX4_unknowing 12 = .ok (.iload_n 1, 1) := by decide +kernel
theorem dX4_unknowing_13 : decode cX4_unknowing 13 = .ok (.ifCond .ge 7, 3) := by decide +kernel
theorem dX4_unknowing_16 : decode cX4_unknowing 16 = .ok (.iload_n 1, 1) := by decide +kernel
theorem dX4_unknowing_17 : decode cX4_unknowing 17 = .ok (.goto 16, 3) := by decide +kernel
theorem dX4_unknowing_20 : decode cX4_unknowing 20 = .ok (.aload_n 0, 1) := by decide +kernel
theorem dX4_unknowing_21 : decode cX4_unknowing 21 = .ok (.getfield 10, 3) := by decide +kernel
theorem dX4_unknowing_24 : decode cX4_unknowing 24 = .ok (.invokevirtual 110, 3) := by decide +kernel
theorem dX4_unknowing_27 : decode cX4_unknowing 27 = .ok (.iload_n 1, 1) := by decide +kernel
theorem dX4_unknowing_28 : decode cX4_unknowing 28 = .ok (.isub, 1) := by decide +kernel
theorem dX4_unknowing_29 : decode cX4_unknowing 29 = .ok (.sipush 10000, 3) := by decide +kernel
theorem dX4_unknowing_32 : decode cX4_unknowing 32 = .ok (.iadd, 1) := by decide +kernel
theorem dX4_unknowing_33 : decode cX4_unknowing 33 = .ok (.ireturn, 1) := by decide +kernel
theorem dX4_share_0 : decode cX4_share 0 = .ok (.aload_n 0, 1) := by decide +kernel
theorem dX4_share_1 : decode cX4_share 1 = .ok (.aload_n 0, 1) := by decide +kernel
theorem dX4_share_2 : decode cX4_share 2 = .ok (.getfield 10, 3) := by decide +kernel
theorem dX4_share_5 : decode cX4_share 5 = .ok (.invokevirtual 58, 3) := by decide +kernel
theorem dX4_share_8 : decode cX4_share 8 = .ok (.invokevirtual 62, 3) := by decide +kernel
theorem dX4_share_11 : decode cX4_share 11 = .ok (.istore_n 1, 1) := by decide +kernel
theorem dX4_share_12 : decode cX4_share 12 = .ok (.iload_n 1, 1) := by decide +kernel
theorem dX4_share_13 : decode cX4_share 13 = .ok (.ifCond .ge 5, 3) := by decide +kernel
theorem dX4_share_16 : decode cX4_share 16 = .ok (.iload_n 1, 1) := by decide +kernel
theorem dX4_share_17 : decode cX4_share 17 = .ok (.ireturn, 1) := by decide +kernel
theorem dX4_share_18 : decode cX4_share 18 = .ok (.iload_n 1, 1) := by decide +kernel
theorem dX4_share_19 : decode cX4_share 19 = .ok (.ifCond .ne 6, 3) := by decide +kernel
theorem dX4_share_22 : decode cX4_share 22 = .ok (.ldc 85, 2) := by decide +kernel
theorem dX4_share_24 : decode cX4_share 24 = .ok (.ireturn, 1) := by decide +kernel
theorem dX4_share_25 : decode cX4_share 25 = .ok (.aload_n 0, 1) := by decide +kernel
theorem dX4_share_26 : decode cX4_share 26 = .ok (.getfield 10, 3) := by decide +kernel
theorem dX4_share_29 : decode cX4_share 29 = .ok (.invokevirtual 110, 3) := by decide +kernel
theorem dX4_share_32 : decode cX4_share 32 = .ok (.i2f, 1) := by decide +kernel
theorem dX4_share_33 : decode cX4_share 33 = .ok (.iload_n 1, 1) := by decide +kernel
theorem dX4_share_34 : decode cX4_share 34 = .ok (.i2f, 1) := by decide +kernel
theorem dX4_share_35 : decode cX4_share 35 = .ok (.fdiv, 1) := by decide +kernel
theorem dX4_share_36 : decode cX4_share 36 = .ok (.invokestatic 113, 3) := by decide +kernel
theorem dX4_share_39 : decode cX4_share 39 = .ok (.ireturn, 1) := by decide +kernel
theorem dX4_bestRule_0 : decode cX4_bestRule 0 = .ok (.iload_n 1, 1) := by decide +kernel
theorem dX4_bestRule_1 : decode cX4_bestRule 1 = .ok (.ifCond .lt 8, 3) := by decide +kernel
theorem dX4_bestRule_4 : decode cX4_bestRule 4 = .ok (.iload_n 1, 1) := by decide +kernel
theorem dX4_bestRule_5 : decode cX4_bestRule 5 = .ok (.iconst 1, 1) := by decide +kernel
theorem dX4_bestRule_6 : decode cX4_bestRule 6 = .ok (.if_icmp .le 6, 3) := by decide +kernel
theorem dX4_bestRule_9 : decode cX4_bestRule 9 = .ok (.ldc 68, 2) := by decide +kernel
theorem dX4_bestRule_11 : decode cX4_bestRule 11 = .ok (.ireturn, 1) := by decide +kernel
theorem dX4_bestRule_12 : decode cX4_bestRule 12 = .ok (.iconst (-1), 1) := by decide +kernel
theorem dX4_bestRule_13 : decode cX4_bestRule 13 = .ok (.istore_n 2, 1) := by decide +kernel
theorem dX4_bestRule_14 : decode cX4_bestRule 14 = .ok (.iconst 0, 1) := by decide +kernel
theorem dX4_bestRule_15 : decode cX4_bestRule 15 = .ok (.istore_n 3, 1) := by decide +kernel
theorem dX4_bestRule_16 : decode cX4_bestRule 16 = .ok (.iconst 0, 1) := by decide +kernel
theorem dX4_bestRule_17 : decode cX4_bestRule 17 = .ok (.istore 4, 2) := by decide +kernel
theorem dX4_bestRule_19 : decode cX4_bestRule 19 = .ok (.iload 4, 2) := by decide +kernel
theorem dX4_bestRule_21 : decode cX4_bestRule 21 = .ok (.iconst 4, 1) := by decide +kernel
theorem dX4_bestRule_22 : decode cX4_bestRule 22 = .ok (.if_icmp .ge 39, 3) := by decide +kernel
theorem dX4_bestRule_25 : decode cX4_bestRule 25 = .ok (.aload_n 0, 1) := by decide +kernel
theorem dX4_bestRule_26 : decode cX4_bestRule 26 = .ok (.iload 4, 2) := by decide +kernel
theorem dX4_bestRule_28 : decode cX4_bestRule 28 = .ok (.invokevirtual 62, 3) := by decide +kernel
theorem dX4_bestRule_31 : decode cX4_bestRule 31 = .ok (.istore 5, 2) := by decide +kernel
theorem dX4_bestRule_33 : decode cX4_bestRule 33 = .ok (.iload 5, 2) := by decide +kernel
theorem dX4_bestRule_35 : decode cX4_bestRule 35 = .ok (.ifCond .lt 20, 3) := by decide +kernel
theorem dX4_bestRule_38 : decode cX4_bestRule 38 = .ok (.iload_n 2, 1) := by decide +kernel
theorem dX4_bestRule_39 : decode cX4_bestRule 39 = .ok (.iconst (-1), 1) := by decide +kernel
theorem dX4_bestRule_40 : decode cX4_bestRule 40 = .ok (.if_icmp .eq 9, 3) := by decide +kernel
theorem dX4_bestRule_43 : decode cX4_bestRule 43 = .ok (.iload 5, 2) := by decide +kernel
theorem dX4_bestRule_45 : decode cX4_bestRule 45 = .ok (.iload_n 3, 1) := by decide +kernel
theorem dX4_bestRule_46 : decode cX4_bestRule 46 = .ok (.if_icmp .ge 9, 3) := by decide +kernel
theorem dX4_bestRule_49 : decode cX4_bestRule 49 = .ok (.iload 4, 2) := by decide +kernel
theorem dX4_bestRule_51 : decode cX4_bestRule 51 = .ok (.istore_n 2, 1) := by decide +kernel
theorem dX4_bestRule_52 : decode cX4_bestRule 52 = .ok (.iload 5, 2) := by decide +kernel
theorem dX4_bestRule_54 : decode cX4_bestRule 54 = .ok (.istore_n 3, 1) := by decide +kernel
theorem dX4_bestRule_55 : decode cX4_bestRule 55 = .ok (.iinc 4 1, 3) := by decide +kernel
theorem dX4_bestRule_58 : decode cX4_bestRule 58 = .ok (.goto (-39), 3) := by decide +kernel
theorem dX4_bestRule_61 : decode cX4_bestRule 61 = .ok (.iload_n 2, 1) := by decide +kernel
theorem dX4_bestRule_62 : decode cX4_bestRule 62 = .ok (.iconst (-1), 1) := by decide +kernel
theorem dX4_bestRule_63 : decode cX4_bestRule 63 = .ok (.if_icmp .ne 6, 3) := by decide +kernel
theorem dX4_bestRule_66 : decode cX4_bestRule 66 = .ok (.ldc 85, 2) := by decide +kernel
theorem dX4_bestRule_68 : decode cX4_bestRule 68 = .ok (.ireturn, 1) := by decide +kernel
theorem dX4_bestRule_69 : decode cX4_bestRule 69 = .ok (.iload_n 1, 1) := by decide +kernel
theorem dX4_bestRule_70 : decode cX4_bestRule 70 = .ok (.ifCond .ne 7, 3) := by decide +kernel
theorem dX4_bestRule_73 : decode cX4_bestRule 73 = .ok (.iload_n 2, 1) := by decide +kernel
theorem dX4_bestRule_74 : decode cX4_bestRule 74 = .ok (.goto 4, 3) := by decide +kernel
theorem dX4_bestRule_77 : decode cX4_bestRule 77 = .ok (.iload_n 3, 1) := by decide +kernel
theorem dX4_bestRule_78 : decode cX4_bestRule 78 = .ok (.ireturn, 1) := by decide +kernel
theorem dX4_emptied_0 : decode cX4_emptied 0 = .ok (.iload_n 1, 1) := by decide +kernel
theorem dX4_emptied_1 : decode cX4_emptied 1 = .ok (.ifCond .lt 8, 3) := by decide +kernel
theorem dX4_emptied_4 : decode cX4_emptied 4 = .ok (.iload_n 1, 1) := by decide +kernel
theorem dX4_emptied_5 : decode cX4_emptied 5 = .ok (.iconst 1, 1) := by decide +kernel
theorem dX4_emptied_6 : decode cX4_emptied 6 = .ok (.if_icmp .le 6, 3) := by decide +kernel
theorem dX4_emptied_9 : decode cX4_emptied 9 = .ok (.ldc 68, 2) := by decide +kernel
theorem dX4_emptied_11 : decode cX4_emptied 11 = .ok (.ireturn, 1) := by decide +kernel
theorem dX4_emptied_12 : decode cX4_emptied 12 = .ok (.iconst (-1), 1) := by decide +kernel
theorem dX4_emptied_13 : decode cX4_emptied 13 = .ok (.istore_n 2, 1) := by decide +kernel
theorem dX4_emptied_14 : decode cX4_emptied 14 = .ok (.iconst 0, 1) := by decide +kernel
theorem dX4_emptied_15 : decode cX4_emptied 15 = .ok (.istore_n 3, 1) := by decide +kernel
theorem dX4_emptied_16 : decode cX4_emptied 16 = .ok (.iconst 0, 1) := by decide +kernel
theorem dX4_emptied_17 : decode cX4_emptied 17 = .ok (.istore 4, 2) := by decide +kernel
theorem dX4_emptied_19 : decode cX4_emptied 19 = .ok (.iload 4, 2) := by decide +kernel
theorem dX4_emptied_21 : decode cX4_emptied 21 = .ok (.bipush 8, 2) := by decide +kernel
theorem dX4_emptied_23 : decode cX4_emptied 23 = .ok (.if_icmp .ge 42, 3) := by decide +kernel
theorem dX4_emptied_26 : decode cX4_emptied 26 = .ok (.aload_n 0, 1) := by decide +kernel
theorem dX4_emptied_27 : decode cX4_emptied 27 = .ok (.getfield 10, 3) := by decide +kernel
theorem dX4_emptied_30 : decode cX4_emptied 30 = .ok (.iload 4, 2) := by decide +kernel
theorem dX4_emptied_32 : decode cX4_emptied 32 = .ok (.iconst 1, 1) := by decide +kernel
theorem dX4_emptied_33 : decode cX4_emptied 33 = .ok (.invokevirtual 72, 3) := by decide +kernel
theorem dX4_emptied_36 : decode cX4_emptied 36 = .ok (.istore 5, 2) := by decide +kernel
theorem dX4_emptied_38 : decode cX4_emptied 38 = .ok (.iload 5, 2) := by decide +kernel
theorem dX4_emptied_40 : decode cX4_emptied 40 = .ok (.iload_n 3, 1) := by decide +kernel
theorem dX4_emptied_41 : decode cX4_emptied 41 = .ok (.if_icmp .le 18, 3) := by decide +kernel
theorem dX4_emptied_44 : decode cX4_emptied 44 = .ok (.aload_n 0, 1) := by decide +kernel
theorem dX4_emptied_45 : decode cX4_emptied 45 = .ok (.iload 4, 2) := by decide +kernel
theorem dX4_emptied_47 : decode cX4_emptied 47 = .ok (.invokevirtual 117, 3) := by decide +kernel
theorem dX4_emptied_50 : decode cX4_emptied 50 = .ok (.ifCond .eq 9, 3) := by decide +kernel
theorem dX4_emptied_53 : decode cX4_emptied 53 = .ok (.iload 4, 2) := by decide +kernel
theorem dX4_emptied_55 : decode cX4_emptied 55 = .ok (.istore_n 2, 1) := by decide +kernel
theorem dX4_emptied_56 : decode cX4_emptied 56 = .ok (.iload 5, 2) := by decide +kernel
theorem dX4_emptied_58 : decode cX4_emptied 58 = .ok (.istore_n 3, 1) := by decide +kernel
theorem dX4_emptied_59 : decode cX4_emptied 59 = .ok (.iinc 4 1, 3) := by decide +kernel
theorem dX4_emptied_62 : decode cX4_emptied 62 = .ok (.goto (-43), 3) := by decide +kernel
theorem dX4_emptied_65 : decode cX4_emptied 65 = .ok (.iload_n 2, 1) := by decide +kernel
theorem dX4_emptied_66 : decode cX4_emptied 66 = .ok (.iconst (-1), 1) := by decide +kernel
theorem dX4_emptied_67 : decode cX4_emptied 67 = .ok (.if_icmp .ne 6, 3) := by decide +kernel
theorem dX4_emptied_70 : decode cX4_emptied 70 = .ok (.ldc 85, 2) := by decide +kernel
theorem dX4_emptied_72 : decode cX4_emptied 72 = .ok (.ireturn, 1) := by decide +kernel
theorem dX4_emptied_73 : decode cX4_emptied 73 = .ok (.iload_n 1, 1) := by decide +kernel
theorem dX4_emptied_74 : decode cX4_emptied 74 = .ok (.ifCond .ne 7, 3) := by decide +kernel
theorem dX4_emptied_77 : decode cX4_emptied 77 = .ok (.iload_n 2, 1) := by decide +kernel
theorem dX4_emptied_78 : decode cX4_emptied 78 = .ok (.goto 12, 3) := by decide +kernel
theorem dX4_emptied_81 : decode cX4_emptied 81 = .ok (.aload_n 0, 1) := by decide +kernel
theorem dX4_emptied_82 : decode cX4_emptied 82 = .ok (.getfield 10, 3) := by decide +kernel
theorem dX4_emptied_85 : decode cX4_emptied 85 = .ok (.iload_n 2, 1) := by decide +kernel
theorem dX4_emptied_86 : decode cX4_emptied 86 = .ok (.iconst 3, 1) := by decide +kernel
theorem dX4_emptied_87 : decode cX4_emptied 87 = .ok (.invokevirtual 72, 3) := by decide +kernel
theorem dX4_emptied_90 : decode cX4_emptied 90 = .ok (.ireturn, 1) := by decide +kernel
theorem dX4_count_0 : decode cX4_count 0 = .ok (.iload_n 1, 1) := by decide +kernel
theorem dX4_count_1 : decode cX4_count 1 = .ok (.lookupswitch 59 #[(8, 35), (9, 43), (20, 51)], 35) := by decide +kernel
theorem dX4_count_36 : decode cX4_count 36 = .ok (.aload_n 0, 1) := by decide +kernel
theorem dX4_count_37 : decode cX4_count 37 = .ok (.getfield 22, 3) := by decide +kernel
theorem dX4_count_40 : decode cX4_count 40 = .ok (.invokevirtual 120, 3) := by decide +kernel
theorem dX4_count_43 : decode cX4_count 43 = .ok (.ireturn, 1) := by decide +kernel
theorem dX4_count_44 : decode cX4_count 44 = .ok (.aload_n 0, 1) := by decide +kernel
theorem dX4_count_45 : decode cX4_count 45 = .ok (.getfield 29, 3) := by decide +kernel
theorem dX4_count_48 : decode cX4_count 48 = .ok (.invokevirtual 123, 3) := by decide +kernel
theorem dX4_count_51 : decode cX4_count 51 = .ok (.ireturn, 1) := by decide +kernel
theorem dX4_count_52 : decode cX4_count 52 = .ok (.aload_n 0, 1) := by decide +kernel
theorem dX4_count_53 : decode cX4_count 53 = .ok (.getfield 10, 3) := by decide +kernel
theorem dX4_count_56 : decode cX4_count 56 = .ok (.invokevirtual 58, 3) := by decide +kernel
theorem dX4_count_59 : decode cX4_count 59 = .ok (.ireturn, 1) := by decide +kernel
theorem dX4_count_60 : decode cX4_count 60 = .ok (.aload_n 0, 1) := by decide +kernel
theorem dX4_count_61 : decode cX4_count 61 = .ok (.getfield 10, 3) := by decide +kernel
theorem dX4_count_64 : decode cX4_count 64 = .ok (.iload_n 1, 1) := by decide +kernel
theorem dX4_count_65 : decode cX4_count 65 = .ok (.invokevirtual 124, 3) := by decide +kernel
theorem dX4_count_68 : decode cX4_count 68 = .ok (.ireturn, 1) := by decide +kernel
theorem dX4_undo_0 : decode cX4_undo 0 = .ok (.aload_n 0, 1) := by decide +kernel
theorem dX4_undo_1 : decode cX4_undo 1 = .ok (.getfield 22, 3) := by decide +kernel
theorem dX4_undo_4 : decode cX4_undo 4 = .ok (.aload_n 0, 1) := by decide +kernel
theorem dX4_undo_5 : decode cX4_undo 5 = .ok (.getfield 10, 3) := by decide +kernel
theorem dX4_undo_8 : decode cX4_undo 8 = .ok (.invokevirtual 127, 3) := by decide +kernel
theorem dX4_undo_11 : decode cX4_undo 11 = .ok (.ireturn, 1) := by decide +kernel
theorem dX4_type_0 : decode cX4_type 0 = .ok (.iload_n 1, 1) := by decide +kernel
theorem dX4_type_1 : decode cX4_type 1 = .ok (.bipush 32, 2) := by decide +kernel
theorem dX4_type_3 : decode cX4_type 3 = .ok (.if_icmp .lt 9, 3) := by decide +kernel
theorem dX4_type_6 : decode cX4_type 6 = .ok (.iload_n 1, 1) := by decide +kernel
theorem dX4_type_7 : decode cX4_type 7 = .ok (.bipush 126, 2) := by decide +kernel
theorem dX4_type_9 : decode cX4_type 9 = .ok (.if_icmp .le 6, 3) := by decide +kernel
theorem dX4_type_12 : decode cX4_type 12 = .ok (.ldc 68, 2) := by decide +kernel
theorem dX4_type_14 : decode cX4_type 14 = .ok (.ireturn, 1) := by decide +kernel
theorem dX4_type_15 : decode cX4_type 15 = .ok (.aload_n 0, 1) := by decide +kernel
theorem dX4_type_16 : decode cX4_type 16 = .ok (.getfield 29, 3) := by decide +kernel
theorem dX4_type_19 : decode cX4_type 19 = .ok (.iload_n 1, 1) := by decide +kernel
theorem dX4_type_20 : decode cX4_type 20 = .ok (.i2c, 1) := by decide +kernel
theorem dX4_type_21 : decode cX4_type 21 = .ok (.invokevirtual 130, 3) := by decide +kernel
theorem dX4_type_24 : decode cX4_type 24 = .ok (.ireturn, 1) := by decide +kernel
theorem dX4_clearText_0 : decode cX4_clearText 0 = .ok (.aload_n 0, 1) := by decide +kernel
theorem dX4_clearText_1 : decode cX4_clearText 1 = .ok (.getfield 29, 3) := by decide +kernel
theorem dX4_clearText_4 : decode cX4_clearText 4 = .ok (.invokevirtual 134, 3) := by decide +kernel
theorem dX4_clearText_7 : decode cX4_clearText 7 = .ok (.ireturn, 1) := by decide +kernel
theorem dX4_fault_0 : decode cX4_fault 0 = .ok (.iload_n 1, 1) := by decide +kernel
theorem dX4_fault_1 : decode cX4_fault 1 = .ok (.ifCond .lt 8, 3) := by decide +kernel
theorem dX4_fault_4 : decode cX4_fault 4 = .ok (.iload_n 1, 1) := by decide +kernel
theorem dX4_fault_5 : decode cX4_fault 5 = .ok (.iconst 2, 1) := by decide +kernel
theorem dX4_fault_6 : decode cX4_fault 6 = .ok (.if_icmp .le 6, 3) := by decide +kernel
theorem dX4_fault_9 : decode cX4_fault 9 = .ok (.ldc 68, 2) := by decide +kernel
theorem dX4_fault_11 : decode cX4_fault 11 = .ok (.ireturn, 1) := by decide +kernel
theorem dX4_fault_12 : decode cX4_fault 12 = .ok (.aload_n 0, 1) := by decide +kernel
theorem dX4_fault_13 : decode cX4_fault 13 = .ok (.getfield 16, 3) := by decide +kernel
theorem dX4_fault_16 : decode cX4_fault 16 = .ok (.aload_n 0, 1) := by decide +kernel
theorem dX4_fault_17 : decode cX4_fault 17 = .ok (.getfield 10, 3) := by decide +kernel
theorem dX4_fault_20 : decode cX4_fault 20 = .ok (.invokevirtual 33, 3) := by decide +kernel
theorem dX4_fault_23 : decode cX4_fault 23 = .ok (.aload_n 0, 1) := by decide +kernel
theorem dX4_fault_24 : decode cX4_fault 24 = .ok (.getfield 29, 3) := by decide +kernel
theorem dX4_fault_27 : decode cX4_fault 27 = .ok (.aload_n 0, 1) := by decide +kernel
theorem dX4_fault_28 : decode cX4_fault 28 = .ok (.getfield 16, 3) := by decide +kernel
theorem dX4_fault_31 : decode cX4_fault 31 = .ok (.invokevirtual 137, 3) := by decide +kernel
theorem dX4_fault_34 : decode cX4_fault 34 = .ok (.ifCond .eq 8, 3) := by decide +kernel
theorem dX4_fault_37 : decode cX4_fault 37 = .ok (.ldc 85, 2) := by decide +kernel
theorem dX4_fault_39 : decode cX4_fault 39 = .ok (.goto 11, 3) := by decide +kernel
theorem dX4_fault_42 : decode cX4_fault 42 = .ok (.aload_n 0, 1) := by decide +kernel
theorem dX4_fault_43 : decode cX4_fault 43 = .ok (.getfield 29, 3) := by decide +kernel
theorem dX4_fault_46 : decode cX4_fault 46 = .ok (.iload_n 1, 1) := by decide +kernel
theorem dX4_fault_47 : decode cX4_fault 47 = .ok (.invokevirtual 141, 3) := by decide +kernel
theorem dX4_fault_50 : decode cX4_fault 50 = .ok (.ireturn, 1) := by decide +kernel
theorem dX4_play_0 : decode cX4_play 0 = .ok (.aload_n 0, 1) := by decide +kernel
theorem dX4_play_1 : decode cX4_play 1 = .ok (.getfield 16, 3) := by decide +kernel
theorem dX4_play_4 : decode cX4_play 4 = .ok (.aload_n 0, 1) := by decide +kernel
theorem dX4_play_5 : decode cX4_play 5 = .ok (.getfield 10, 3) := by decide +kernel
theorem dX4_play_8 : decode cX4_play 8 = .ok (.invokevirtual 33, 3) := by decide +kernel
theorem dX4_play_11 : decode cX4_play 11 = .ok (.aload_n 0, 1) := by decide +kernel
theorem dX4_play_12 : decode cX4_play 12 = .ok (.aload_n 0, 1) := by decide +kernel
theorem dX4_play_13 : decode cX4_play 13 = .ok (.getfield 29, 3) := by decide +kernel
theorem dX4_play_16 : decode cX4_play 16 = .ok (.aload_n 0, 1) := by decide +kernel
theorem dX4_play_17 : decode cX4_play 17 = .ok (.getfield 16, 3) := by decide +kernel
theorem dX4_play_20 : decode cX4_play 20 = .ok (.invokevirtual 137, 3) := by decide +kernel
theorem dX4_play_23 : decode cX4_play 23 = .ok (.ifCond .eq 13, 3) := by decide +kernel
theorem dX4_play_26 : decode cX4_play 26 = .ok (.aload_n 0, 1) := by decide +kernel
theorem dX4_play_27 : decode cX4_play 27 = .ok (.getfield 29, 3) := by decide +kernel
theorem dX4_play_30 : decode cX4_play 30 = .ok (.invokevirtual 144, 3) := by decide +kernel
theorem dX4_play_33 : decode cX4_play 33 = .ok (.goto 5, 3) := by decide +kernel
theorem dX4_play_36 : decode cX4_play 36 = .ok (.ldc 147, 2) := by decide +kernel
theorem dX4_play_38 : decode cX4_play 38 = .ok (.invokevirtual 41, 3) := by decide +kernel
theorem dX4_play_41 : decode cX4_play 41 = .ok (.ireturn, 1) := by decide +kernel
theorem dX4_keepTrial_0 : decode cX4_keepTrial 0 = .ok (.iload_n 1, 1) := by decide +kernel
theorem dX4_keepTrial_1 : decode cX4_keepTrial 1 = .ok (.ifCond .lt 25, 3) := by decide +kernel
theorem dX4_keepTrial_4 : decode cX4_keepTrial 4 = .ok (.aload_n 0, 1) := by decide +kernel
theorem dX4_keepTrial_5 : decode cX4_keepTrial 5 = .ok (.getfield 22, 3) := by decide +kernel
theorem dX4_keepTrial_8 : decode cX4_keepTrial 8 = .ok (.aload_n 0, 1) := by decide +kernel
theorem dX4_keepTrial_9 : decode cX4_keepTrial 9 = .ok (.getfield 10, 3) := by decide +kernel
theorem dX4_keepTrial_12 : decode cX4_keepTrial 12 = .ok (.invokevirtual 148, 3) := by decide +kernel
theorem dX4_keepTrial_15 : decode cX4_keepTrial 15 = .ok (.aload_n 0, 1) := by decide +kernel
theorem dX4_keepTrial_16 : decode cX4_keepTrial 16 = .ok (.getfield 10, 3) := by decide +kernel
theorem dX4_keepTrial_19 : decode cX4_keepTrial 19 = .ok (.aload_n 0, 1) := by decide +kernel
theorem dX4_keepTrial_20 : decode cX4_keepTrial 20 = .ok (.getfield 16, 3) := by decide +kernel
theorem dX4_keepTrial_23 : decode cX4_keepTrial 23 = .ok (.invokevirtual 33, 3) := by decide +kernel
theorem dX4_keepTrial_26 : decode cX4_keepTrial 26 = .ok (.iload_n 1, 1) := by decide +kernel
theorem dX4_keepTrial_27 : decode cX4_keepTrial 27 = .ok (.ireturn, 1) := by decide +kernel
theorem dX4_tryAnew_0 : decode cX4_tryAnew 0 = .ok (.aload_n 0, 1) := by decide +kernel
theorem dX4_tryAnew_1 : decode cX4_tryAnew 1 = .ok (.getfield 16, 3) := by decide +kernel
theorem dX4_tryAnew_4 : decode cX4_tryAnew 4 = .ok (.aload_n 0, 1) := by decide +kernel
theorem dX4_tryAnew_5 : decode cX4_tryAnew 5 = .ok (.getfield 10, 3) := by decide +kernel
theorem dX4_tryAnew_8 : decode cX4_tryAnew 8 = .ok (.invokevirtual 33, 3) := by decide +kernel
theorem dX4_tryAnew_11 : decode cX4_tryAnew 11 = .ok (.aload_n 0, 1) := by decide +kernel
theorem dX4_tryAnew_12 : decode cX4_tryAnew 12 = .ok (.getfield 16, 3) := by decide +kernel
theorem dX4_tryAnew_15 : decode cX4_tryAnew 15 = .ok (.iload_n 1, 1) := by decide +kernel
theorem dX4_tryAnew_16 : decode cX4_tryAnew 16 = .ok (.invokevirtual 151, 3) := by decide +kernel
theorem dX4_tryAnew_19 : decode cX4_tryAnew 19 = .ok (.ireturn, 1) := by decide +kernel
theorem dX4_couldBeEmptied_0 : decode cX4_couldBeEmptied 0 = .ok (.aload_n 0, 1) := by decide +kernel
theorem dX4_couldBeEmptied_1 : decode cX4_couldBeEmptied 1 = .ok (.getfield 16, 3) := by decide +kernel
theorem dX4_couldBeEmptied_4 : decode cX4_couldBeEmptied 4 = .ok (.aload_n 0, 1) := by decide +kernel
theorem dX4_couldBeEmptied_5 : decode cX4_couldBeEmptied 5 = .ok (.getfield 10, 3) := by decide +kernel
theorem dX4_couldBeEmptied_8 : decode cX4_couldBeEmptied 8 = .ok (.invokevirtual 33, 3) := by decide +kernel
theorem dX4_couldBeEmptied_11 : decode cX4_couldBeEmptied 11 = .ok (.aload_n 0, 1) := by decide +kernel
theorem dX4_couldBeEmptied_12 : decode cX4_couldBeEmptied 12 = .ok (.getfield 16, 3) := by decide +kernel
theorem dX4_couldBeEmptied_15 : decode cX4_couldBeEmptied 15 = .ok (.iload_n 1, 1) := by decide +kernel
theorem dX4_couldBeEmptied_16 : decode cX4_couldBeEmptied 16 = .ok (.invokevirtual 154, 3) := by decide +kernel
theorem dX4_couldBeEmptied_19 : decode cX4_couldBeEmptied 19 = .ok (.ireturn, 1) := by decide +kernel
theorem dX4_isTalk_0 : decode cX4_isTalk 0 = .ok (.iload_n 0, 1) := by decide +kernel
theorem dX4_isTalk_1 : decode cX4_isTalk 1 = .ok (.invokestatic 79, 3) := by decide +kernel
theorem dX4_isTalk_4 : decode cX4_isTalk 4 = .ok (.ifCond .eq 25, 3) := by decide +kernel
theorem dX4_isTalk_7 : decode cX4_isTalk 7 = .ok (.iload_n 1, 1) := by decide +kernel
theorem dX4_isTalk_8 : decode cX4_isTalk 8 = .ok (.iload_n 0, 1) := by decide +kernel
theorem dX4_isTalk_9 : decode cX4_isTalk 9 = .ok (.if_icmp .le 20, 3) := by decide +kernel
theorem dX4_isTalk_12 : decode cX4_isTalk 12 = .ok (.iload_n 1, 1) := by decide +kernel
theorem dX4_isTalk_13 : decode cX4_isTalk 13 = .ok (.bipush 48, 2) := by decide +kernel
theorem dX4_isTalk_15 : decode cX4_isTalk 15 = .ok (.if_icmp .gt 14, 3) := by decide +kernel
theorem dX4_isTalk_18 : decode cX4_isTalk 18 = .ok (.iload_n 2, 1) := by decide +kernel
theorem dX4_isTalk_19 : decode cX4_isTalk 19 = .ok (.invokestatic 157, 3) := by decide +kernel
theorem dX4_isTalk_22 : decode cX4_isTalk 22 = .ok (.ifCond .eq 7, 3) := by decide +kernel
theorem dX4_isTalk_25 : decode cX4_isTalk 25 = .ok (.iconst 1, 1) := by decide +kernel
theorem dX4_isTalk_26 : decode cX4_isTalk 26 = .ok (.goto 4, 3) := by decide +kernel
theorem dX4_isTalk_29 : decode cX4_isTalk 29 = .ok (.iconst 0, 1) := by decide +kernel
theorem dX4_isTalk_30 : decode cX4_isTalk 30 = .ok (.ireturn, 1) := by decide +kernel
theorem dX4_isHour_0 : decode cX4_isHour 0 = .ok (.iload_n 0, 1) := by decide +kernel
theorem dX4_isHour_1 : decode cX4_isHour 1 = .ok (.ifCond .lt 13, 3) := by decide +kernel
theorem dX4_isHour_4 : decode cX4_isHour 4 = .ok (.iload_n 0, 1) := by decide +kernel
theorem dX4_isHour_5 : decode cX4_isHour 5 = .ok (.bipush 48, 2) := by decide +kernel
theorem dX4_isHour_7 : decode cX4_isHour 7 = .ok (.if_icmp .ge 7, 3) := by decide +kernel
theorem dX4_isHour_10 : decode cX4_isHour 10 = .ok (.iconst 1, 1) := by decide +kernel
theorem dX4_isHour_11 : decode cX4_isHour 11 = .ok (.goto 4, 3) := by decide +kernel
theorem dX4_isHour_14 : decode cX4_isHour 14 = .ok (.iconst 0, 1) := by decide +kernel
theorem dX4_isHour_15 : decode cX4_isHour 15 = .ok (.ireturn, 1) := by decide +kernel
theorem dX4_isSize_0 : decode cX4_isSize 0 = .ok (.iload_n 0, 1) := by decide +kernel
theorem dX4_isSize_1 : decode cX4_isSize 1 = .ok (.iconst 1, 1) := by decide +kernel
theorem dX4_isSize_2 : decode cX4_isSize 2 = .ok (.if_icmp .lt 13, 3) := by decide +kernel
theorem dX4_isSize_5 : decode cX4_isSize 5 = .ok (.iload_n 0, 1) := by decide +kernel
theorem dX4_isSize_6 : decode cX4_isSize 6 = .ok (.bipush 9, 2) := by decide +kernel
theorem dX4_isSize_8 : decode cX4_isSize 8 = .ok (.if_icmp .gt 7, 3) := by decide +kernel
theorem dX4_isSize_11 : decode cX4_isSize 11 = .ok (.iconst 1, 1) := by decide +kernel
theorem dX4_isSize_12 : decode cX4_isSize 12 = .ok (.goto 4, 3) := by decide +kernel
theorem dX4_isSize_15 : decode cX4_isSize 15 = .ok (.iconst 0, 1) := by decide +kernel
theorem dX4_isSize_16 : decode cX4_isSize 16 = .ok (.ireturn, 1) := by decide +kernel
theorem dX4_isRoom_0 : decode cX4_isRoom 0 = .ok (.iload_n 0, 1) := by decide +kernel
theorem dX4_isRoom_1 : decode cX4_isRoom 1 = .ok (.ifCond .lt 13, 3) := by decide +kernel
theorem dX4_isRoom_4 : decode cX4_isRoom 4 = .ok (.iload_n 0, 1) := by decide +kernel
theorem dX4_isRoom_5 : decode cX4_isRoom 5 = .ok (.bipush 8, 2) := by decide +kernel
theorem dX4_isRoom_7 : decode cX4_isRoom 7 = .ok (.if_icmp .ge 7, 3) := by decide +kernel
theorem dX4_isRoom_10 : decode cX4_isRoom 10 = .ok (.iconst 1, 1) := by decide +kernel
theorem dX4_isRoom_11 : decode cX4_isRoom 11 = .ok (.goto 4, 3) := by decide +kernel
theorem dX4_isRoom_14 : decode cX4_isRoom 14 = .ok (.iconst 0, 1) := by decide +kernel
theorem dX4_isRoom_15 : decode cX4_isRoom 15 = .ok (.ireturn, 1) := by decide +kernel
theorem dX4_isRule_0 : decode cX4_isRule 0 = .ok (.iload_n 0, 1) := by decide +kernel
theorem dX4_isRule_1 : decode cX4_isRule 1 = .ok (.ifCond .lt 12, 3) := by decide +kernel
theorem dX4_isRule_4 : decode cX4_isRule 4 = .ok (.iload_n 0, 1) := by decide +kernel
theorem dX4_isRule_5 : decode cX4_isRule 5 = .ok (.iconst 4, 1) := by decide +kernel
theorem dX4_isRule_6 : decode cX4_isRule 6 = .ok (.if_icmp .ge 7, 3) := by decide +kernel
theorem dX4_isRule_9 : decode cX4_isRule 9 = .ok (.iconst 1, 1) := by decide +kernel
theorem dX4_isRule_10 : decode cX4_isRule 10 = .ok (.goto 4, 3) := by decide +kernel
theorem dX4_isRule_13 : decode cX4_isRule 13 = .ok (.iconst 0, 1) := by decide +kernel
theorem dX4_isRule_14 : decode cX4_isRule 14 = .ok (.ireturn, 1) := by decide +kernel
theorem dX4_bitsOf_0 : decode cX4_bitsOf 0 = .ok (.fload_n 0, 1) := by decide +kernel
theorem dX4_bitsOf_1 : decode cX4_bitsOf 1 = .ok (.fstore_n 1, 1) := by decide +kernel
theorem dX4_bitsOf_2 : decode cX4_bitsOf 2 = .ok (.bipush 127, 2) := by decide +kernel
theorem dX4_bitsOf_4 : decode cX4_bitsOf 4 = .ok (.istore_n 2, 1) := by decide +kernel
theorem dX4_bitsOf_5 : decode cX4_bitsOf 5 = .ok (.fload_n 1, 1) := by decide +kernel
theorem dX4_bitsOf_6 : decode cX4_bitsOf 6 = .ok (.fconst 2, 1) := by decide +kernel
theorem dX4_bitsOf_7 : decode cX4_bitsOf 7 = .ok (.fcmp .l, 1) := by decide +kernel
theorem dX4_bitsOf_8 : decode cX4_bitsOf 8 = .ok (.ifCond .lt 20, 3) := by decide +kernel
theorem dX4_bitsOf_11 : decode cX4_bitsOf 11 = .ok (.iload_n 2, 1) := by decide +kernel
theorem dX4_bitsOf_12 : decode cX4_bitsOf 12 = .ok (.sipush 254, 3) := by decide +kernel
theorem dX4_bitsOf_15 : decode cX4_bitsOf 15 = .ok (.if_icmp .ge 13, 3) := by decide +kernel
theorem dX4_bitsOf_18 : decode cX4_bitsOf 18 = .ok (.fload_n 1, 1) := by decide +kernel
theorem dX4_bitsOf_19 : decode cX4_bitsOf 19 = .ok (.fconst 2, 1) := by decide +kernel
theorem dX4_bitsOf_20 : decode cX4_bitsOf 20 = .ok (.fdiv, 1) := by decide +kernel
theorem dX4_bitsOf_21 : decode cX4_bitsOf 21 = .ok (.fstore_n 1, 1) := by decide +kernel
theorem dX4_bitsOf_22 : decode cX4_bitsOf 22 = .ok (.iinc 2 1, 3) := by decide +kernel
theorem dX4_bitsOf_25 : decode cX4_bitsOf 25 = .ok (.goto (-20), 3) := by decide +kernel
theorem dX4_bitsOf_28 : decode cX4_bitsOf 28 = .ok (.fload_n 1, 1) := by decide +kernel
theorem dX4_bitsOf_29 : decode cX4_bitsOf 29 = .ok (.fconst 1, 1) := by decide +kernel
theorem dX4_bitsOf_30 : decode cX4_bitsOf 30 = .ok (.fcmp .g, 1) := by decide +kernel
theorem dX4_bitsOf_31 : decode cX4_bitsOf 31 = .ok (.ifCond .ge 18, 3) := by decide +kernel
theorem dX4_bitsOf_34 : decode cX4_bitsOf 34 = .ok (.iload_n 2, 1) := by decide +kernel
theorem dX4_bitsOf_35 : decode cX4_bitsOf 35 = .ok (.iconst 1, 1) := by decide +kernel
theorem dX4_bitsOf_36 : decode cX4_bitsOf 36 = .ok (.if_icmp .le 13, 3) := by decide +kernel
theorem dX4_bitsOf_39 : decode cX4_bitsOf 39 = .ok (.fload_n 1, 1) := by decide +kernel
theorem dX4_bitsOf_40 : decode cX4_bitsOf 40 = .ok (.fconst 2, 1) := by decide +kernel
theorem dX4_bitsOf_41 : decode cX4_bitsOf 41 = .ok (.fmul, 1) := by decide +kernel
theorem dX4_bitsOf_42 : decode cX4_bitsOf 42 = .ok (.fstore_n 1, 1) := by decide +kernel
theorem dX4_bitsOf_43 : decode cX4_bitsOf 43 = .ok (.iinc 2 (-1), 3) := by decide +kernel
theorem dX4_bitsOf_46 : decode cX4_bitsOf 46 = .ok (.goto (-18), 3) := by decide +kernel
theorem dX4_bitsOf_49 : decode cX4_bitsOf 49 = .ok (.iload_n 2, 1) := by decide +kernel
theorem dX4_bitsOf_50 : decode cX4_bitsOf 50 = .ok (.bipush 23, 2) := by decide +kernel
theorem dX4_bitsOf_52 : decode cX4_bitsOf 52 = .ok (.ishl, 1) := by decide +kernel
theorem dX4_bitsOf_53 : decode cX4_bitsOf 53 = .ok (.fload_n 1, 1) := by decide +kernel
theorem dX4_bitsOf_54 : decode cX4_bitsOf 54 = .ok (.fconst 1, 1) := by decide +kernel
theorem dX4_bitsOf_55 : decode cX4_bitsOf 55 = .ok (.fsub, 1) := by decide +kernel
theorem dX4_bitsOf_56 : decode cX4_bitsOf 56 = .ok (.ldc 160, 2) := by decide +kernel
theorem dX4_bitsOf_58 : decode cX4_bitsOf 58 = .ok (.fmul, 1) := by decide +kernel
theorem dX4_bitsOf_59 : decode cX4_bitsOf 59 = .ok (.f2i, 1) := by decide +kernel
theorem dX4_bitsOf_60 : decode cX4_bitsOf 60 = .ok (.iadd, 1) := by decide +kernel
theorem dX4_bitsOf_61 : decode cX4_bitsOf 61 = .ok (.ireturn, 1) := by decide +kernel
theorem dX5_init_0 : decode cX5_init 0 = .ok (.aload_n 0, 1) := by decide +kernel
theorem dX5_init_1 : decode cX5_init 1 = .ok (.invokespecial 1, 3) := by decide +kernel
theorem dX5_init_4 : decode cX5_init 4 = .ok (.aload_n 0, 1) := by decide +kernel
theorem dX5_init_5 : decode cX5_init 5 = .ok (.bipush 109, 2) := by decide +kernel
theorem dX5_init_7 : decode cX5_init 7 = .ok (.newarray .int, 2) := by decide +kernel
theorem dX5_init_9 : decode cX5_init 9 = .ok (.putfield 7, 3) := by decide +kernel
theorem dX5_init_12 : decode cX5_init 12 = .ok (.aload_n 0, 1) := by decide +kernel
theorem dX5_init_13 : decode cX5_init 13 = .ok (.bipush 109, 2) := by decide +kernel
theorem dX5_init_15 : decode cX5_init 15 = .ok (.newarray .int, 2) := by decide +kernel
theorem dX5_init_17 : decode cX5_init 17 = .ok (.putfield 13, 3) := by decide +kernel
theorem dX5_init_20 : decode cX5_init 20 = .ok (.aload_n 0, 1) := by decide +kernel
theorem dX5_init_21 : decode cX5_init 21 = .ok (.sipush 436, 3) := by decide +kernel
theorem dX5_init_24 : decode cX5_init 24 = .ok (.newarray .int, 2) := by decide +kernel
theorem dX5_init_26 : decode cX5_init 26 = .ok (.putfield 16, 3) := by decide +kernel
theorem dX5_init_29 : decode cX5_init 29 = .ok (.aload_n 0, 1) := by decide +kernel
theorem dX5_init_30 : decode cX5_init 30 = .ok (.bipush 60, 2) := by decide +kernel
theorem dX5_init_32 : decode cX5_init 32 = .ok (.newarray .int, 2) := by decide +kernel
theorem dX5_init_34 : decode cX5_init 34 = .ok (.putfield 19, 3) := by decide +kernel
theorem dX5_init_37 : decode cX5_init 37 = .ok (.aload_n 0, 1) := by decide +kernel
theorem dX5_init_38 : decode cX5_init 38 = .ok (.bipush 20, 2) := by decide +kernel
theorem dX5_init_40 : decode cX5_init 40 = .ok (.newarray .boolean, 2) := by decide +kernel
theorem dX5_init_42 : decode cX5_init 42 = .ok (.putfield 22, 3) := by decide +kernel
theorem dX5_init_45 : decode cX5_init 45 = .ok (.aload_n 0, 1) := by decide +kernel
theorem dX5_init_46 : decode cX5_init 46 = .ok (.iconst 0, 1) := by decide +kernel
theorem dX5_init_47 : decode cX5_init 47 = .ok (.putfield 26, 3) := by decide +kernel
theorem dX5_init_50 : decode cX5_init 50 = .ok (.iconst 0, 1) := by decide +kernel
theorem dX5_init_51 : decode cX5_init 51 = .ok (.istore_n 1, 1) := by decide +kernel
theorem dX5_init_52 : decode cX5_init 52 = .ok (.iload_n 1, 1) := by decide +kernel
theorem dX5_init_53 : decode cX5_init 53 = .ok (.bipush 8, 2) := by decide +kernel
theorem dX5_init_55 : decode cX5_init 55 = .ok (.if_icmp .ge 37, 3) := by decide +kernel
theorem dX5_init_58 : decode cX5_init 58 = .ok (.aload_n 0, 1) := by decide +kernel
theorem dX5_init_59 : decode cX5_init 59 = .ok (.getfield 7, 3) := by decide +kernel
theorem dX5_init_62 : decode cX5_init 62 = .ok (.iconst 5, 1) := by decide +kernel
theorem dX5_init_63 : decode cX5_init 63 = .ok (.iconst 3, 1) := by decide +kernel
theorem dX5_init_64 : decode cX5_init 64 = .ok (.iload_n 1, 1) := by decide +kernel
theorem dX5_init_65 : decode cX5_init 65 = .ok (.imul, 1) := by decide +kernel
theorem dX5_init_66 : decode cX5_init 66 = .ok (.iadd, 1) := by decide +kernel
theorem dX5_init_67 : decode cX5_init 67 = .ok (.iconst 0, 1) := by decide +kernel
theorem dX5_init_68 : decode cX5_init 68 = .ok (.iadd, 1) := by decide +kernel
theorem dX5_init_69 : decode cX5_init 69 = .ok (.bipush 9, 2) := by decide +kernel
theorem dX5_init_71 : decode cX5_init 71 = .ok (.iastore, 1) := by decide +kernel
theorem dX5_init_72 : decode cX5_init 72 = .ok (.aload_n 0, 1) := by decide +kernel
theorem dX5_init_73 : decode cX5_init 73 = .ok (.getfield 7, 3) := by decide +kernel
theorem dX5_init_76 : decode cX5_init 76 = .ok (.iconst 5, 1) := by decide +kernel
theorem dX5_init_77 : decode cX5_init 77 = .ok (.iconst 3, 1) := by decide +kernel
theorem dX5_init_78 : decode cX5_init 78 = .ok (.iload_n 1, 1) := by decide +kernel
theorem dX5_init_79 : decode cX5_init 79 = .ok (.imul, 1) := by decide +kernel
theorem dX5_init_80 : decode cX5_init 80 = .ok (.iadd, 1) := by decide +kernel
theorem dX5_init_81 : decode cX5_init 81 = .ok (.iconst 1, 1) := by decide +kernel
theorem dX5_init_82 : decode cX5_init 82 = .ok (.iadd, 1) := by decide +kernel
theorem dX5_init_83 : decode cX5_init 83 = .ok (.bipush 10, 2) := by decide +kernel
theorem dX5_init_85 : decode cX5_init 85 = .ok (.iastore, 1) := by decide +kernel
theorem dX5_init_86 : decode cX5_init 86 = .ok (.iinc 1 1, 3) := by decide +kernel
theorem dX5_init_89 : decode cX5_init 89 = .ok (.goto (-37), 3) := by decide +kernel
theorem dX5_init_92 : decode cX5_init 92 = .ok (.return_, 1) := by decide +kernel
theorem dX5_in_0 : decode cX5_in 0 = .ok (.iload_n 0, 1) := by decide +kernel
theorem dX5_in_1 : decode cX5_in 1 = .ok (.iload_n 1, 1) := by decide +kernel
theorem dX5_in_2 : decode cX5_in 2 = .ok (.if_icmp .lt 12, 3) := by decide +kernel
theorem dX5_in_5 : decode cX5_in 5 = .ok (.iload_n 0, 1) := by decide +kernel
theorem dX5_in_6 : decode cX5_in 6 = .ok (.iload_n 2, 1) := by decide +kernel
theorem dX5_in_7 : decode cX5_in 7 = .ok (.if_icmp .gt 7, 3) := by decide +kernel
theorem dX5_in_10 : decode cX5_in 10 = .ok (.iconst 1, 1) := by decide +kernel
theorem dX5_in_11 : decode cX5_in 11 = .ok (.goto 4, 3) := by decide +kernel
theorem dX5_in_14 : decode cX5_in 14 = .ok (.iconst 0, 1) := by decide +kernel
theorem dX5_in_15 : decode cX5_in 15 = .ok (.ireturn, 1) := by decide +kernel
theorem dX5_isRoom_0 : decode cX5_isRoom 0 = .ok (.iload_n 0, 1) := by decide +kernel
theorem dX5_isRoom_1 : decode cX5_isRoom 1 = .ok (.iconst 0, 1) := by decide +kernel
theorem dX5_isRoom_2 : decode cX5_isRoom 2 = .ok (.bipush 7, 2) := by decide +kernel
theorem dX5_isRoom_4 : decode cX5_isRoom 4 = .ok (.invokestatic 30, 3) := by decide +kernel
theorem dX5_isRoom_7 : decode cX5_isRoom 7 = .ok (.ireturn, 1) := by decide +kernel
theorem dX5_of_0 : decode cX5_of 0 = .ok (.aload_n 0, 1) := by decide +kernel
theorem dX5_of_1 : decode cX5_of 1 = .ok (.getfield 7, 3) := by decide +kernel
theorem dX5_of_4 : decode cX5_of 4 = .ok (.bipush 29, 2) := by decide +kernel
theorem dX5_of_6 : decode cX5_of 6 = .ok (.iconst 4, 1) := by decide +kernel
theorem dX5_of_7 : decode cX5_of 7 = .ok (.iload_n 1, 1) := by decide +kernel
theorem dX5_of_8 : decode cX5_of 8 = .ok (.imul, 1) := by decide +kernel
theorem dX5_of_9 : decode cX5_of 9 = .ok (.iadd, 1) := by decide +kernel
theorem dX5_of_10 : decode cX5_of 10 = .ok (.iload_n 2, 1) := by decide +kernel
theorem dX5_of_11 : decode cX5_of 11 = .ok (.iadd, 1) := by decide +kernel
theorem dX5_of_12 : decode cX5_of 12 = .ok (.iaload, 1) := by decide +kernel
theorem dX5_of_13 : decode cX5_of 13 = .ok (.ireturn, 1) := by decide +kernel
theorem dX5_room0_0 : decode cX5_room0 0 = .ok (.aload_n 0, 1) := by decide +kernel
theorem dX5_room0_1 : decode cX5_room0 1 = .ok (.getfield 7, 3) := by decide +kernel
theorem dX5_room0_4 : decode cX5_room0 4 = .ok (.iconst 5, 1) := by decide +kernel
theorem dX5_room0_5 : decode cX5_room0 5 = .ok (.iconst 3, 1) := by decide +kernel
theorem dX5_room0_6 : decode cX5_room0 6 = .ok (.iload_n 1, 1) := by decide +kernel
theorem dX5_room0_7 : decode cX5_room0 7 = .ok (.imul, 1) := by decide +kernel
theorem dX5_room0_8 : decode cX5_room0 8 = .ok (.iadd, 1) := by decide +kernel
theorem dX5_room0_9 : decode cX5_room0 9 = .ok (.iload_n 2, 1) := by decide +kernel
theorem dX5_room0_10 : decode cX5_room0 10 = .ok (.iadd, 1) := by decide +kernel
theorem dX5_room0_11 : decode cX5_room0 11 = .ok (.iaload, 1) := by decide +kernel
theorem dX5_room0_12 : decode cX5_room0 12 = .ok (.ireturn, 1) := by decide +kernel
theorem dX5_isTalk_0 : decode cX5_isTalk 0 = .ok (.iload_n 1, 1) := by decide +kernel
theorem dX5_isTalk_1 : decode cX5_isTalk 1 = .ok (.iconst 0, 1) := by decide +kernel
theorem dX5_isTalk_2 : decode cX5_isTalk 2 = .ok (.aload_n 0, 1) := by decide +kernel
theorem dX5_isTalk_3 : decode cX5_isTalk 3 = .ok (.getfield 7, 3) := by decide +kernel
theorem dX5_isTalk_6 : decode cX5_isTalk 6 = .ok (.iconst 1, 1) := by decide +kernel
theorem dX5_isTalk_7 : decode cX5_isTalk 7 = .ok (.iaload, 1) := by decide +kernel
theorem dX5_isTalk_8 : decode cX5_isTalk 8 = .ok (.iconst 1, 1) := by decide +kernel
theorem dX5_isTalk_9 : decode cX5_isTalk 9 = .ok (.isub, 1) := by decide +kernel
theorem dX5_isTalk_10 : decode cX5_isTalk 10 = .ok (.invokestatic 30, 3) := by decide +kernel
theorem dX5_isTalk_13 : decode cX5_isTalk 13 = .ok (.ifCond .eq 17, 3) := by decide +kernel
theorem dX5_isTalk_16 : decode cX5_isTalk 16 = .ok (.aload_n 0, 1) := by decide +kernel
theorem dX5_isTalk_17 : decode cX5_isTalk 17 = .ok (.iload_n 1, 1) := by decide +kernel
theorem dX5_isTalk_18 : decode cX5_isTalk 18 = .ok (.iconst 3, 1) := by decide +kernel
theorem dX5_isTalk_19 : decode cX5_isTalk 19 = .ok (.invokevirtual 34, 3) := by decide +kernel
theorem dX5_isTalk_22 : decode cX5_isTalk 22 = .ok (.iconst (-1), 1) := by decide +kernel
theorem dX5_isTalk_23 : decode cX5_isTalk 23 = .ok (.if_icmp .eq 7, 3) := by decide +kernel
theorem dX5_isTalk_26 : decode cX5_isTalk 26 = .ok (.iconst 1, 1) := by decide +kernel
theorem dX5_isTalk_27 : decode cX5_isTalk 27 = .ok (.goto 4, 3) := by decide +kernel
theorem dX5_isTalk_30 : decode cX5_isTalk 30 = .ok (.iconst 0, 1) := by decide +kernel
theorem dX5_isTalk_31 : decode cX5_isTalk 31 = .ok (.ireturn, 1) := by decide +kernel
theorem dX5_isOpen_0 : decode cX5_isOpen 0 = .ok (.aload_n 0, 1) := by decide +kernel
theorem dX5_isOpen_1 : decode cX5_isOpen 1 = .ok (.iload_n 1, 1) := by decide +kernel
theorem dX5_isOpen_2 : decode cX5_isOpen 2 = .ok (.iconst 2, 1) := by decide +kernel
theorem dX5_isOpen_3 : decode cX5_isOpen 3 = .ok (.invokevirtual 38, 3) := by decide +kernel
theorem dX5_isOpen_6 : decode cX5_isOpen 6 = .ok (.iconst 1, 1) := by decide +kernel
theorem dX5_isOpen_7 : decode cX5_isOpen 7 = .ok (.if_icmp .ne 7, 3) := by decide +kernel
theorem dX5_isOpen_10 : decode cX5_isOpen 10 = .ok (.iconst 1, 1) := by decide +kernel
theorem dX5_isOpen_11 : decode cX5_isOpen 11 = .ok (.goto 4, 3) := by decide +kernel
theorem dX5_isOpen_14 : decode cX5_isOpen 14 = .ok (.iconst 0, 1) := by decide +kernel
theorem dX5_isOpen_15 : decode cX5_isOpen 15 = .ok (.ireturn, 1) := by decide +kernel
theorem dX5_records_0 : decode cX5_records 0 = .ok (.aload_n 0, 1) := by decide +kernel
theorem dX5_records_1 : decode cX5_records 1 = .ok (.getfield 41, 3) := by decide +kernel
theorem dX5_records_4 : decode cX5_records 4 = .ok (.iconst 4, 1) := by decide +kernel
theorem dX5_records_5 : decode cX5_records 5 = .ok (.if_icmp .ne 43, 3) := by decide +kernel
theorem dX5_records_8 : decode cX5_records 8 = .ok (.iconst 0, 1) := by decide +kernel
theorem dX5_records_9 : decode cX5_records 9 = .ok (.istore_n 1, 1) := by decide +kernel
theorem dX5_records_10 : decode cX5_records 10 = .ok (.iload_n 1, 1) := by decide +kernel
theorem dX5_records_11 : decode cX5_records 11 = .ok (.sipush 327, 3) := by decide +kernel
theorem dX5_records_14 : decode cX5_records 14 = .ok (.if_icmp .ge 24, 3) := by decide +kernel
theorem dX5_records_17 : decode cX5_records 17 = .ok (.aload_n 0, 1) := by decide +kernel
theorem dX5_records_18 : decode cX5_records 18 = .ok (.getfield 16, 3) := by decide +kernel
theorem dX5_records_21 : decode cX5_records 21 = .ok (.iload_n 1, 1) := by decide +kernel
theorem dX5_records_22 : decode cX5_records 22 = .ok (.aload_n 0, 1) := by decide +kernel
theorem dX5_records_23 : decode cX5_records 23 = .ok (.getfield 16, 3) := by decide +kernel
theorem dX5_records_26 : decode cX5_records 26 = .ok (.iload_n 1, 1) := by decide +kernel
theorem dX5_records_27 : decode cX5_records 27 = .ok (.bipush 109, 2) := by decide +kernel
theorem dX5_records_29 : decode cX5_records 29 = .ok (.iadd, 1) := by decide +kernel
theorem dX5_records_30 : decode cX5_records 30 = .ok (.iaload, 1) := by decide +kernel
theorem dX5_records_31 : decode cX5_records 31 = .ok (.iastore, 1) := by decide +kernel
theorem dX5_records_32 : decode cX5_records 32 = .ok (.iinc 1 1, 3) := by decide +kernel
theorem dX5_records_35 : decode cX5_records 35 = .ok (.goto (-25), 3) := by decide +kernel
theorem dX5_records_38 : decode cX5_records 38 = .ok (.aload_n 0, 1) := by decide +kernel
theorem dX5_records_39 : decode cX5_records 39 = .ok (.dup, 1) := by decide +kernel
theorem dX5_records_40 : decode cX5_records 40 = .ok (.getfield 41, 3) := by decide +kernel
theorem dX5_records_43 : decode cX5_records 43 = .ok (.iconst 1, 1) := by decide +kernel
theorem dX5_records_44 : decode cX5_records 44 = .ok (.isub, 1) := by decide +kernel
theorem dX5_records_45 : decode cX5_records 45 = .ok (.putfield 41, 3) := by decide +kernel
theorem dX5_records_48 : decode cX5_records 48 = .ok (.iconst 0, 1) := by decide +kernel
theorem dX5_records_49 : decode cX5_records 49 = .ok (.istore_n 1, 1) := by decide +kernel
theorem dX5_records_50 : decode cX5_records 50 = .ok (.iload_n 1, 1) := by decide +kernel
theorem dX5_records_51 : decode cX5_records 51 = .ok (.bipush 109, 2) := by decide +kernel
theorem dX5_records_53 : decode cX5_records 53 = .ok (.if_icmp .ge 29, 3) := by decide +kernel
theorem dX5_records_56 : decode cX5_records 56 = .ok (.aload_n 0, 1) := by decide +kernel
theorem dX5_records_57 : decode cX5_records 57 = .ok (.getfield 16, 3) := by decide +kernel
theorem dX5_records_60 : decode cX5_records 60 = .ok (.bipush 109, 2) := by decide +kernel
theorem dX5_records_62 : decode cX5_records 62 = .ok (.aload_n 0, 1) := by decide +kernel
theorem dX5_records_63 : decode cX5_records 63 = .ok (.getfield 41, 3) := by decide +kernel
theorem dX5_records_66 : decode cX5_records 66 = .ok (.imul, 1) := by decide +kernel
theorem dX5_records_67 : decode cX5_records 67 = .ok (.iload_n 1, 1) := by decide +kernel
theorem dX5_records_68 : decode cX5_records 68 = .ok (.iadd, 1) := by decide +kernel
theorem dX5_records_69 : decode cX5_records 69 = .ok (.aload_n 0, 1) := by decide +kernel
theorem dX5_records_70 : decode cX5_records 70 = .ok (.getfield 7, 3) := by decide +kernel
theorem dX5_records_73 : decode cX5_records 73 = .ok (.iload_n 1, 1) := by decide +kernel
theorem dX5_records_74 : decode cX5_records 74 = .ok (.iaload, 1) := by decide +kernel
theorem dX5_records_75 : decode cX5_records 75 = .ok (.iastore, 1) := by decide +kernel
theorem dX5_records_76 : decode cX5_records 76 = .ok (.iinc 1 1, 3) := by decide +kernel
theorem dX5_records_79 : decode cX5_records 79 = .ok (.goto (-29), 3) := by decide +kernel
theorem dX5_records_82 : decode cX5_records 82 = .ok (.aload_n 0, 1) := by decide +kernel
theorem dX5_records_83 : decode cX5_records 83 = .ok (.dup, 1) := by decide +kernel
theorem dX5_records_84 : decode cX5_records 84 = .ok (.getfield 41, 3) := by decide +kernel
theorem dX5_records_87 : decode cX5_records 87 = .ok (.iconst 1, 1) := by decide +kernel
theorem dX5_records_88 : decode cX5_records 88 = .ok (.iadd, 1) := by decide +kernel
theorem dX5_records_89 : decode cX5_records 89 = .ok (.putfield 41, 3) := by decide +kernel
theorem dX5_records_92 : decode cX5_records 92 = .ok (.return_, 1) := by decide +kernel
theorem dX5_putAside_0 : decode cX5_putAside 0 = .ok (.iconst 0, 1) := by decide +kernel
theorem dX5_putAside_1 : decode cX5_putAside 1 = .ok (.istore_n 1, 1) := by decide +kernel
theorem dX5_putAside_2 : decode cX5_putAside 2 = .ok (.iload_n 1, 1) := by decide +kernel
theorem dX5_putAside_3 : decode cX5_putAside 3 = .ok (.bipush 109, 2) := by decide +kernel
theorem dX5_putAside_5 : decode cX5_putAside 5 = .ok (.if_icmp .ge 21, 3) := by decide +kernel
theorem dX5_putAside_8 : decode cX5_putAside 8 = .ok (.aload_n 0, 1) := by decide +kernel
theorem dX5_putAside_9 : decode cX5_putAside 9 = .ok (.getfield 13, 3) := by decide +kernel
theorem dX5_putAside_12 : decode cX5_putAside 12 = .ok (.iload_n 1, 1) := by decide +kernel
theorem dX5_putAside_13 : decode cX5_putAside 13 = .ok (.aload_n 0, 1) := by decide +kernel
theorem dX5_putAside_14 : decode cX5_putAside 14 = .ok (.getfield 7, 3) := by decide +kernel
theorem dX5_putAside_17 : decode cX5_putAside 17 = .ok (.iload_n 1, 1) := by decide +kernel
theorem dX5_putAside_18 : decode cX5_putAside 18 = .ok (.iaload, 1) := by decide +kernel
theorem dX5_putAside_19 : decode cX5_putAside 19 = .ok (.iastore, 1) := by decide +kernel
theorem dX5_putAside_20 : decode cX5_putAside 20 = .ok (.iinc 1 1, 3) := by decide +kernel
theorem dX5_putAside_23 : decode cX5_putAside 23 = .ok (.goto (-21), 3) := by decide +kernel
theorem dX5_putAside_26 : decode cX5_putAside 26 = .ok (.return_, 1) := by decide +kernel
theorem dX5_takeBack_0 : decode cX5_takeBack 0 = .ok (.iconst 0, 1) := by decide +kernel
theorem dX5_takeBack_1 : decode cX5_takeBack 1 = .ok (.istore_n 1, 1) := by decide +kernel
theorem dX5_takeBack_2 : decode cX5_takeBack 2 = .ok (.iload_n 1, 1) := by decide +kernel
theorem dX5_takeBack_3 : decode cX5_takeBack 3 = .ok (.bipush 109, 2) := by decide +kernel
theorem dX5_takeBack_5 : decode cX5_takeBack 5 = .ok (.if_icmp .ge 21, 3) := by decide +kernel
theorem dX5_takeBack_8 : decode cX5_takeBack 8 = .ok (.aload_n 0, 1) := by decide +kernel
theorem dX5_takeBack_9 : decode cX5_takeBack 9 = .ok (.getfield 7, 3) := by decide +kernel
theorem dX5_takeBack_12 : decode cX5_takeBack 12 = .ok (.iload_n 1, 1) := by decide +kernel
theorem dX5_takeBack_13 : decode cX5_takeBack 13 = .ok (.aload_n 0, 1) := by decide +kernel
theorem dX5_takeBack_14 : decode cX5_takeBack 14 = .ok (.getfield 13, 3) := by decide +kernel
theorem dX5_takeBack_17 : decode cX5_takeBack 17 = .ok (.iload_n 1, 1) := by decide +kernel
theorem dX5_takeBack_18 : decode cX5_takeBack 18 = .ok (.iaload, 1) := by decide +kernel
theorem dX5_takeBack_19 : decode cX5_takeBack 19 = .ok (.iastore, 1) := by decide +kernel
theorem dX5_takeBack_20 : decode cX5_takeBack 20 = .ok (.iinc 1 1, 3) := by decide +kernel
theorem dX5_takeBack_23 : decode cX5_takeBack 23 = .ok (.goto (-21), 3) := by decide +kernel
theorem dX5_takeBack_26 : decode cX5_takeBack 26 = .ok (.return_, 1) := by decide +kernel
theorem dX5_talkAt_0 : decode cX5_talkAt 0 = .ok (.iconst 0, 1) := by decide +kernel
theorem dX5_talkAt_1 : decode cX5_talkAt 1 = .ok (.istore_n 3, 1) := by decide +kernel
theorem dX5_talkAt_2 : decode cX5_talkAt 2 = .ok (.iload_n 3, 1) := by decide +kernel
theorem dX5_talkAt_3 : decode cX5_talkAt 3 = .ok (.aload_n 0, 1) := by decide +kernel
theorem dX5_talkAt_4 : decode cX5_talkAt 4 = .ok (.getfield 7, 3) := by decide +kernel
theorem dX5_talkAt_7 : decode cX5_talkAt 7 = .ok (.iconst 1, 1) := by decide +kernel
theorem dX5_talkAt_8 : decode cX5_talkAt 8 = .ok (.iaload, 1) := by decide +kernel
theorem dX5_talkAt_9 : decode cX5_talkAt 9 = .ok (.if_icmp .ge 42, 3) := by decide +kernel
theorem dX5_talkAt_12 : decode cX5_talkAt 12 = .ok (.aload_n 0, 1) := by decide +kernel
theorem dX5_talkAt_13 : decode cX5_talkAt 13 = .ok (.iload_n 3, 1) := by decide +kernel
theorem dX5_talkAt_14 : decode cX5_talkAt 14 = .ok (.iconst 3, 1) := by decide +kernel
theorem dX5_talkAt_15 : decode cX5_talkAt 15 = .ok (.invokevirtual 34, 3) := by decide +kernel
theorem dX5_talkAt_18 : decode cX5_talkAt 18 = .ok (.iload_n 1, 1) := by decide +kernel
theorem dX5_talkAt_19 : decode cX5_talkAt 19 = .ok (.if_icmp .ne 26, 3) := by decide +kernel
theorem dX5_talkAt_22 : decode cX5_talkAt 22 = .ok (.iload_n 2, 1) := by decide +kernel
theorem dX5_talkAt_23 : decode cX5_talkAt 23 = .ok (.aload_n 0, 1) := by decide +kernel
theorem dX5_talkAt_24 : decode cX5_talkAt 24 = .ok (.iload_n 3, 1) := by decide +kernel
theorem dX5_talkAt_25 : decode cX5_talkAt 25 = .ok (.iconst 0, 1) := by decide +kernel
theorem dX5_talkAt_26 : decode cX5_talkAt 26 = .ok (.invokevirtual 34, 3) := by decide +kernel
theorem dX5_talkAt_29 : decode cX5_talkAt 29 = .ok (.aload_n 0, 1) := by decide +kernel
theorem dX5_talkAt_30 : decode cX5_talkAt 30 = .ok (.iload_n 3, 1) := by decide +kernel
theorem dX5_talkAt_31 : decode cX5_talkAt 31 = .ok (.iconst 1, 1) := by decide +kernel
theorem dX5_talkAt_32 : decode cX5_talkAt 32 = .ok (.invokevirtual 34, 3) := by decide +kernel
theorem dX5_talkAt_35 : decode cX5_talkAt 35 = .ok (.iconst 1, 1) := by decide +kernel
theorem dX5_talkAt_36 : decode cX5_talkAt 36 = .ok (.isub, 1) := by decide +kernel
theorem dX5_talkAt_37 : decode cX5_talkAt 37 = .ok (.invokestatic 30, 3) := by decide +kernel
theorem dX5_talkAt_40 : decode cX5_talkAt 40 = .ok (.ifCond .eq 5, 3) := by decide +kernel
theorem dX5_talkAt_43 : decode cX5_talkAt 43 = .ok (.iload_n 3, 1) := by decide +kernel
theorem dX5_talkAt_44 : decode cX5_talkAt 44 = .ok (.ireturn, 1) := by decide +kernel
theorem dX5_talkAt_45 : decode cX5_talkAt 45 = .ok (.iinc 3 1, 3) := by decide +kernel
theorem dX5_talkAt_48 : decode cX5_talkAt 48 = .ok (.goto (-46), 3) := by decide +kernel
theorem dX5_talkAt_51 : decode cX5_talkAt 51 = .ok (.ldc 44, 2) := by decide +kernel
theorem dX5_talkAt_53 : decode cX5_talkAt 53 = .ok (.ireturn, 1) := by decide +kernel
theorem dX5_canBe_0 : decode cX5_canBe 0 = .ok (.aload_n 0, 1) := by decide +kernel
theorem dX5_canBe_1 : decode cX5_canBe 1 = .ok (.iload_n 1, 1) := by decide +kernel
theorem dX5_canBe_2 : decode cX5_canBe 2 = .ok (.iconst 0, 1) := by decide +kernel
theorem dX5_canBe_3 : decode cX5_canBe 3 = .ok (.invokevirtual 38, 3) := by decide +kernel
theorem dX5_canBe_6 : decode cX5_canBe 6 = .ok (.iload 4, 2) := by decide +kernel
theorem dX5_canBe_8 : decode cX5_canBe 8 = .ok (.if_icmp .lt 7, 3) := by decide +kernel
theorem dX5_canBe_11 : decode cX5_canBe 11 = .ok (.iconst 1, 1) := by decide +kernel
theorem dX5_canBe_12 : decode cX5_canBe 12 = .ok (.goto 4, 3) := by decide +kernel
theorem dX5_canBe_15 : decode cX5_canBe 15 = .ok (.iconst 0, 1) := by decide +kernel
theorem dX5_canBe_16 : decode cX5_canBe 16 = .ok (.istore 6, 2) := by decide +kernel
theorem dX5_canBe_18 : decode cX5_canBe 18 = .ok (.iconst 0, 1) := by decide +kernel
theorem dX5_canBe_19 : decode cX5_canBe 19 = .ok (.istore 7, 2) := by decide +kernel
theorem dX5_canBe_21 : decode cX5_canBe 21 = .ok (.iload 7, 2) := by decide +kernel
theorem dX5_canBe_23 : decode cX5_canBe 23 = .ok (.aload_n 0, 1) := by decide +kernel
theorem dX5_canBe_24 : decode cX5_canBe 24 = .ok (.getfield 7, 3) := by decide +kernel
theorem dX5_canBe_27 : decode cX5_canBe 27 = .ok (.iconst 1, 1) := by decide +kernel
theorem dX5_canBe_28 : decode cX5_canBe 28 = .ok (.iaload, 1) := by decide +kernel
theorem dX5_canBe_29 : decode cX5_canBe 29 = .ok (.if_icmp .ge 61, 3) := by decide +kernel
theorem dX5_canBe_32 : decode cX5_canBe 32 = .ok (.iload 6, 2) := by decide +kernel
theorem dX5_canBe_34 : decode cX5_canBe 34 = .ok (.ifCond .eq 47, 3) := by decide +kernel
theorem dX5_canBe_37 : decode cX5_canBe 37 = .ok (.iload 7, 2) := by decide +kernel
theorem dX5_canBe_39 : decode cX5_canBe 39 = .ok (.iload 5, 2) := by decide +kernel
theorem dX5_canBe_41 : decode cX5_canBe 41 = .ok (.if_icmp .eq 36, 3) := by decide +kernel
theorem dX5_canBe_44 : decode cX5_canBe 44 = .ok (.aload_n 0, 1) := by decide +kernel
theorem dX5_canBe_45 : decode cX5_canBe 45 = .ok (.iload 7, 2) := by decide +kernel
theorem dX5_canBe_47 : decode cX5_canBe 47 = .ok (.iconst 3, 1) := by decide +kernel
theorem dX5_canBe_48 : decode cX5_canBe 48 = .ok (.invokevirtual 34, 3) := by decide +kernel
theorem dX5_canBe_51 : decode cX5_canBe 51 = .ok (.iload_n 1, 1) := by decide +kernel
theorem dX5_canBe_52 : decode cX5_canBe 52 = .ok (.if_icmp .ne 25, 3) := by decide +kernel
theorem dX5_canBe_55 : decode cX5_canBe 55 = .ok (.aload_n 0, 1) := by decide +kernel
theorem dX5_canBe_56 : decode cX5_canBe 56 = .ok (.iload 7, 2) := by decide +kernel
theorem dX5_canBe_58 : decode cX5_canBe 58 = .ok (.iconst 0, 1) := by decide +kernel
theorem dX5_canBe_59 : decode cX5_canBe 59 = .ok (.invokevirtual 34, 3) := by decide +kernel
theorem dX5_canBe_62 : decode cX5_canBe 62 = .ok (.iload_n 3, 1) := by decide +kernel
theorem dX5_canBe_63 : decode cX5_canBe 63 = .ok (.if_icmp .ge 14, 3) := by decide +kernel
theorem dX5_canBe_66 : decode cX5_canBe 66 = .ok (.aload_n 0, 1) := by decide +kernel
theorem dX5_canBe_67 : decode cX5_canBe 67 = .ok (.iload 7, 2) := by decide +kernel
theorem dX5_canBe_69 : decode cX5_canBe 69 = .ok (.iconst 1, 1) := by decide +kernel
theorem dX5_canBe_70 : decode cX5_canBe 70 = .ok (.invokevirtual 34, 3) := by decide +kernel
theorem dX5_canBe_73 : decode cX5_canBe 73 = .ok (.iload_n 2, 1) := by decide +kernel
theorem dX5_canBe_74 : decode cX5_canBe 74 = .ok (.if_icmp .gt 7, 3) := by decide +kernel
theorem dX5_canBe_77 : decode cX5_canBe 77 = .ok (.iconst 1, 1) := by decide +kernel
theorem dX5_canBe_78 : decode cX5_canBe 78 = .ok (.goto 4, 3) := by decide +kernel
theorem dX5_canBe_81 : decode cX5_canBe 81 = .ok (.iconst 0, 1) := by decide +kernel
theorem dX5_canBe_82 : decode cX5_canBe 82 = .ok (.istore 6, 2) := by decide +kernel
theorem dX5_canBe_84 : decode cX5_canBe 84 = .ok (.iinc 7 1, 3) := by decide +kernel
theorem dX5_canBe_87 : decode cX5_canBe 87 = .ok (.goto (-66), 3) := by decide +kernel
theorem dX5_canBe_90 : decode cX5_canBe 90 = .ok (.iload 6, 2) := by decide +kernel
theorem dX5_canBe_92 : decode cX5_canBe 92 = .ok (.ireturn, 1) := by decide +kernel
theorem dX5_taken_0 : decode cX5_taken 0 = .ok (.iconst 0, 1) := by decide +kernel
theorem dX5_taken_1 : decode cX5_taken 1 = .ok (.istore_n 2, 1) := by decide +kernel
theorem dX5_taken_2 : decode cX5_taken 2 = .ok (.iconst 0, 1) := by decide +kernel
theorem dX5_taken_3 : decode cX5_taken 3 = .ok (.istore_n 3, 1) := by decide +kernel
theorem dX5_taken_4 : decode cX5_taken 4 = .ok (.iload_n 3, 1) := by decide +kernel
theorem dX5_taken_5 : decode cX5_taken 5 = .ok (.aload_n 0, 1) := by decide +kernel
theorem dX5_taken_6 : decode cX5_taken 6 = .ok (.getfield 7, 3) := by decide +kernel
theorem dX5_taken_9 : decode cX5_taken 9 = .ok (.iconst 1, 1) := by decide +kernel
theorem dX5_taken_10 : decode cX5_taken 10 = .ok (.iaload, 1) := by decide +kernel
theorem dX5_taken_11 : decode cX5_taken 11 = .ok (.if_icmp .ge 39, 3) := by decide +kernel
theorem dX5_taken_14 : decode cX5_taken 14 = .ok (.iload_n 2, 1) := by decide +kernel
theorem dX5_taken_15 : decode cX5_taken 15 = .ok (.aload_n 0, 1) := by decide +kernel
theorem dX5_taken_16 : decode cX5_taken 16 = .ok (.iload_n 3, 1) := by decide +kernel
theorem dX5_taken_17 : decode cX5_taken 17 = .ok (.iconst 3, 1) := by decide +kernel
theorem dX5_taken_18 : decode cX5_taken 18 = .ok (.invokevirtual 34, 3) := by decide +kernel
theorem dX5_taken_21 : decode cX5_taken 21 = .ok (.iload_n 1, 1) := by decide +kernel
theorem dX5_taken_22 : decode cX5_taken 22 = .ok (.if_icmp .ne 19, 3) := by decide +kernel
theorem dX5_taken_25 : decode cX5_taken 25 = .ok (.aload_n 0, 1) := by decide +kernel
theorem dX5_taken_26 : decode cX5_taken 26 = .ok (.iload_n 3, 1) := by decide +kernel
theorem dX5_taken_27 : decode cX5_taken 27 = .ok (.iconst 1, 1) := by decide +kernel
theorem dX5_taken_28 : decode cX5_taken 28 = .ok (.invokevirtual 34, 3) := by decide +kernel
theorem dX5_taken_31 : decode cX5_taken 31 = .ok (.aload_n 0, 1) := by decide +kernel
theorem dX5_taken_32 : decode cX5_taken 32 = .ok (.iload_n 3, 1) := by decide +kernel
theorem dX5_taken_33 : decode cX5_taken 33 = .ok (.iconst 0, 1) := by decide +kernel
theorem dX5_taken_34 : decode cX5_taken 34 = .ok (.invokevirtual 34, 3) := by decide +kernel
theorem dX5_taken_37 : decode cX5_taken 37 = .ok (.isub, 1) := by decide +kernel
theorem dX5_taken_38 : decode cX5_taken 38 = .ok (.goto 4, 3) := by decide +kernel
theorem dX5_taken_41 : decode cX5_taken 41 = .ok (.iconst 0, 1) := by decide +kernel
theorem dX5_taken_42 : decode cX5_taken 42 = .ok (.iadd, 1) := by decide +kernel
theorem dX5_taken_43 : decode cX5_taken 43 = .ok (.istore_n 2, 1) := by decide +kernel
theorem dX5_taken_44 : decode cX5_taken 44 = .ok (.iinc 3 1, 3) := by decide +kernel
theorem dX5_taken_47 : decode cX5_taken 47 = .ok (.goto (-43), 3) := by decide +kernel
theorem dX5_taken_50 : decode cX5_taken 50 = .ok (.iload_n 2, 1) := by decide +kernel
theorem dX5_taken_51 : decode cX5_taken 51 = .ok (.ireturn, 1) := by decide +kernel
theorem dX5_gap_0 : decode cX5_gap 0 = .ok (.iconst 0, 1) := by decide +kernel
theorem dX5_gap_1 : decode cX5_gap 1 = .ok (.istore_n 3, 1) := by decide +kernel
theorem dX5_gap_2 : decode cX5_gap 2 = .ok (.iconst 0, 1) := by decide +kernel
theorem dX5_gap_3 : decode cX5_gap 3 = .ok (.istore 4, 2) := by decide +kernel
theorem dX5_gap_5 : decode cX5_gap 5 = .ok (.iload 4, 2) := by decide +kernel
theorem dX5_gap_7 : decode cX5_gap 7 = .ok (.aload_n 0, 1) := by decide +kernel
theorem dX5_gap_8 : decode cX5_gap 8 = .ok (.getfield 7, 3) := by decide +kernel
theorem dX5_gap_11 : decode cX5_gap 11 = .ok (.iconst 1, 1) := by decide +kernel
theorem dX5_gap_12 : decode cX5_gap 12 = .ok (.iaload, 1) := by decide +kernel
theorem dX5_gap_13 : decode cX5_gap 13 = .ok (.if_icmp .ge 66, 3) := by decide +kernel
theorem dX5_gap_16 : decode cX5_gap 16 = .ok (.aload_n 0, 1) := by decide +kernel
theorem dX5_gap_17 : decode cX5_gap 17 = .ok (.iload 4, 2) := by decide +kernel
theorem dX5_gap_19 : decode cX5_gap 19 = .ok (.iconst 3, 1) := by decide +kernel
theorem dX5_gap_20 : decode cX5_gap 20 = .ok (.invokevirtual 34, 3) := by decide +kernel
theorem dX5_gap_23 : decode cX5_gap 23 = .ok (.iload_n 1, 1) := by decide +kernel
theorem dX5_gap_24 : decode cX5_gap 24 = .ok (.if_icmp .ne 18, 3) := by decide +kernel
theorem dX5_gap_27 : decode cX5_gap 27 = .ok (.aload_n 0, 1) := by decide +kernel
theorem dX5_gap_28 : decode cX5_gap 28 = .ok (.iload 4, 2) := by decide +kernel
theorem dX5_gap_30 : decode cX5_gap 30 = .ok (.iconst 1, 1) := by decide +kernel
theorem dX5_gap_31 : decode cX5_gap 31 = .ok (.invokevirtual 34, 3) := by decide +kernel
theorem dX5_gap_34 : decode cX5_gap 34 = .ok (.iload_n 2, 1) := by decide +kernel
theorem dX5_gap_35 : decode cX5_gap 35 = .ok (.if_icmp .gt 7, 3) := by decide +kernel
theorem dX5_gap_38 : decode cX5_gap 38 = .ok (.iconst 1, 1) := by decide +kernel
theorem dX5_gap_39 : decode cX5_gap 39 = .ok (.goto 4, 3) := by decide +kernel
theorem dX5_gap_42 : decode cX5_gap 42 = .ok (.iconst 0, 1) := by decide +kernel
theorem dX5_gap_43 : decode cX5_gap 43 = .ok (.istore 5, 2) := by decide +kernel
theorem dX5_gap_45 : decode cX5_gap 45 = .ok (.iload 5, 2) := by decide +kernel
theorem dX5_gap_47 : decode cX5_gap 47 = .ok (.ifCond .eq 24, 3) := by decide +kernel
theorem dX5_gap_50 : decode cX5_gap 50 = .ok (.aload_n 0, 1) := by decide +kernel
theorem dX5_gap_51 : decode cX5_gap 51 = .ok (.iload 4, 2) := by decide +kernel
theorem dX5_gap_53 : decode cX5_gap 53 = .ok (.iconst 1, 1) := by decide +kernel
theorem dX5_gap_54 : decode cX5_gap 54 = .ok (.invokevirtual 34, 3) := by decide +kernel
theorem dX5_gap_57 : decode cX5_gap 57 = .ok (.iload_n 3, 1) := by decide +kernel
theorem dX5_gap_58 : decode cX5_gap 58 = .ok (.if_icmp .le 13, 3) := by decide +kernel
theorem dX5_gap_61 : decode cX5_gap 61 = .ok (.aload_n 0, 1) := by decide +kernel
theorem dX5_gap_62 : decode cX5_gap 62 = .ok (.iload 4, 2) := by decide +kernel
theorem dX5_gap_64 : decode cX5_gap 64 = .ok (.iconst 1, 1) := by decide +kernel
theorem dX5_gap_65 : decode cX5_gap 65 = .ok (.invokevirtual 34, 3) := by decide +kernel
theorem dX5_gap_68 : decode cX5_gap 68 = .ok (.goto 4, 3) := by decide +kernel
theorem dX5_gap_71 : decode cX5_gap 71 = .ok (.iload_n 3, 1) := by decide +kernel
theorem dX5_gap_72 : decode cX5_gap 72 = .ok (.istore_n 3, 1) := by decide +kernel
theorem dX5_gap_73 : decode cX5_gap 73 = .ok (.iinc 4 1, 3) := by decide +kernel
theorem dX5_gap_76 : decode cX5_gap 76 = .ok (.goto (-71), 3) := by decide +kernel
theorem dX5_gap_79 : decode cX5_gap 79 = .ok (.iload_n 2, 1) := by decide +kernel
theorem dX5_gap_80 : decode cX5_gap 80 = .ok (.iload_n 3, 1) := by decide +kernel
theorem dX5_gap_81 : decode cX5_gap 81 = .ok (.isub, 1) := by decide +kernel
theorem dX5_gap_82 : decode cX5_gap 82 = .ok (.ireturn, 1) := by decide +kernel
theorem dX5_worth_0 : decode cX5_worth 0 = .ok (.iload_n 3, 1) := by decide +kernel
theorem dX5_worth_1 : decode cX5_worth 1 = .ok (.ifCond .ne 7, 3) := by decide +kernel
theorem dX5_worth_4 : decode cX5_worth 4 = .ok (.iconst 0, 1) := by decide +kernel
theorem dX5_worth_5 : decode cX5_worth 5 = .ok (.goto 37, 3) := by decide +kernel
theorem dX5_worth_8 : decode cX5_worth 8 = .ok (.iload_n 3, 1) := by decide +kernel
theorem dX5_worth_9 : decode cX5_worth 9 = .ok (.iconst 1, 1) := by decide +kernel
theorem dX5_worth_10 : decode cX5_worth 10 = .ok (.if_icmp .ne 12, 3) := by decide +kernel
theorem dX5_worth_13 : decode cX5_worth 13 = .ok (.aload_n 0, 1) := by decide +kernel
theorem dX5_worth_14 : decode cX5_worth 14 = .ok (.iload_n 1, 1) := by decide +kernel
theorem dX5_worth_15 : decode cX5_worth 15 = .ok (.iload_n 2, 1) := by decide +kernel
theorem dX5_worth_16 : decode cX5_worth 16 = .ok (.invokevirtual 45, 3) := by decide +kernel
theorem dX5_worth_19 : decode cX5_worth 19 = .ok (.goto 23, 3) := by decide +kernel
theorem dX5_worth_22 : decode cX5_worth 22 = .ok (.iload_n 3, 1) := by decide +kernel
theorem dX5_worth_23 : decode cX5_worth 23 = .ok (.iconst 2, 1) := by decide +kernel
theorem dX5_worth_24 : decode cX5_worth 24 = .ok (.if_icmp .ne 12, 3) := by decide +kernel
theorem dX5_worth_27 : decode cX5_worth 27 = .ok (.aload_n 0, 1) := by decide +kernel
theorem dX5_worth_28 : decode cX5_worth 28 = .ok (.iload_n 1, 1) := by decide +kernel
theorem dX5_worth_29 : decode cX5_worth 29 = .ok (.iconst 0, 1) := by decide +kernel
theorem dX5_worth_30 : decode cX5_worth 30 = .ok (.invokevirtual 38, 3) := by decide +kernel
theorem dX5_worth_33 : decode cX5_worth 33 = .ok (.goto 9, 3) := by decide +kernel
theorem dX5_worth_36 : decode cX5_worth 36 = .ok (.aload_n 0, 1) := by decide +kernel
theorem dX5_worth_37 : decode cX5_worth 37 = .ok (.iload_n 1, 1) := by decide +kernel
theorem dX5_worth_38 : decode cX5_worth 38 = .ok (.invokevirtual 48, 3) := by decide +kernel
theorem dX5_worth_41 : decode cX5_worth 41 = .ok (.ineg, 1) := by decide +kernel
theorem dX5_worth_42 : decode cX5_worth 42 = .ok (.ireturn, 1) := by decide +kernel
theorem dX5_gets_0 : decode cX5_gets 0 = .ok (.iconst (-1), 1) := by decide +kernel
theorem dX5_gets_1 : decode cX5_gets 1 = .ok (.istore 5, 2) := by decide +kernel
theorem dX5_gets_3 : decode cX5_gets 3 = .ok (.iconst (-1), 1) := by decide +kernel
theorem dX5_gets_4 : decode cX5_gets 4 = .ok (.istore 6, 2) := by decide +kernel
theorem dX5_gets_6 : decode cX5_gets 6 = .ok (.iconst 0, 1) := by decide +kernel
theorem dX5_gets_7 : decode cX5_gets 7 = .ok (.istore 7, 2) := by decide +kernel
theorem dX5_gets_9 : decode cX5_gets 9 = .ok (.iload 7, 2) := by decide +kernel
theorem dX5_gets_11 : decode cX5_gets 11 = .ok (.bipush 8, 2) := by decide +kernel
theorem dX5_gets_13 : decode cX5_gets 13 = .ok (.if_icmp .ge 109, 3) := by decide +kernel
theorem dX5_gets_16 : decode cX5_gets 16 = .ok (.aload_n 0, 1) := by decide +kernel
theorem dX5_gets_17 : decode cX5_gets 17 = .ok (.iload 7, 2) := by decide +kernel
theorem dX5_gets_19 : decode cX5_gets 19 = .ok (.iload_n 1, 1) := by decide +kernel
theorem dX5_gets_20 : decode cX5_gets 20 = .ok (.iload_n 2, 1) := by decide +kernel
theorem dX5_gets_21 : decode cX5_gets 21 = .ok (.iload_n 3, 1) := by decide +kernel
theorem dX5_gets_22 : decode cX5_gets 22 = .ok (.iconst (-1), 1) := by decide +kernel
theorem dX5_gets_23 : decode cX5_gets 23 = .ok (.invokevirtual 52, 3) := by decide +kernel
theorem dX5_gets_26 : decode cX5_gets 26 = .ok (.istore 8, 2) := by decide +kernel
theorem dX5_gets_28 : decode cX5_gets 28 = .ok (.iload 8, 2) := by decide +kernel
theorem dX5_gets_30 : decode cX5_gets 30 = .ok (.ifCond .eq 51, 3) := by decide +kernel
theorem dX5_gets_33 : decode cX5_gets 33 = .ok (.aload_n 0, 1) := by decide +kernel
theorem dX5_gets_34 : decode cX5_gets 34 = .ok (.iload 7, 2) := by decide +kernel
theorem dX5_gets_36 : decode cX5_gets 36 = .ok (.invokevirtual 56, 3) := by decide +kernel
theorem dX5_gets_39 : decode cX5_gets 39 = .ok (.ifCond .eq 42, 3) := by decide +kernel
theorem dX5_gets_42 : decode cX5_gets 42 = .ok (.iload 5, 2) := by decide +kernel
theorem dX5_gets_44 : decode cX5_gets 44 = .ok (.iconst (-1), 1) := by decide +kernel
theorem dX5_gets_45 : decode cX5_gets 45 = .ok (.if_icmp .eq 24, 3) := by decide +kernel
theorem dX5_gets_48 : decode cX5_gets 48 = .ok (.aload_n 0, 1) := by decide +kernel
theorem dX5_gets_49 : decode cX5_gets 49 = .ok (.iload 7, 2) := by decide +kernel
theorem dX5_gets_51 : decode cX5_gets 51 = .ok (.iload_n 1, 1) := by decide +kernel
theorem dX5_gets_52 : decode cX5_gets 52 = .ok (.iload 4, 2) := by decide +kernel
theorem dX5_gets_54 : decode cX5_gets 54 = .ok (.invokevirtual 60, 3) := by decide +kernel
theorem dX5_gets_57 : decode cX5_gets 57 = .ok (.aload_n 0, 1) := by decide +kernel
theorem dX5_gets_58 : decode cX5_gets 58 = .ok (.iload 5, 2) := by decide +kernel
theorem dX5_gets_60 : decode cX5_gets 60 = .ok (.iload_n 1, 1) := by decide +kernel
theorem dX5_gets_61 : decode cX5_gets 61 = .ok (.iload 4, 2) := by decide +kernel
theorem dX5_gets_63 : decode cX5_gets 63 = .ok (.invokevirtual 60, 3) := by decide +kernel
theorem dX5_gets_66 : decode cX5_gets 66 = .ok (.if_icmp .ge 8, 3) := by decide +kernel
theorem dX5_gets_69 : decode cX5_gets 69 = .ok (.iload 7, 2) := by decide +kernel
theorem dX5_gets_71 : decode cX5_gets 71 = .ok (.goto 5, 3) := by decide +kernel
theorem dX5_gets_74 : decode cX5_gets 74 = .ok (.iload 5, 2) := by decide +kernel
theorem dX5_gets_76 : decode cX5_gets 76 = .ok (.istore 5, 2) := by decide +kernel
theorem dX5_gets_78 : decode cX5_gets 78 = .ok (.goto 38, 3) := by decide +kernel
theorem dX5_gets_81 : decode cX5_gets 81 = .ok (.iload 8, 2) := by decide +kernel
theorem dX5_gets_83 : decode cX5_gets 83 = .ok (.ifCond .eq 33, 3) := by decide +kernel
theorem dX5_gets_86 : decode cX5_gets 86 = .ok (.iload 6, 2) := by decide +kernel
theorem dX5_gets_88 : decode cX5_gets 88 = .ok (.iconst (-1), 1) := by decide +kernel
theorem dX5_gets_89 : decode cX5_gets 89 = .ok (.if_icmp .eq 18, 3) := by decide +kernel
theorem dX5_gets_92 : decode cX5_gets 92 = .ok (.aload_n 0, 1) := by decide +kernel
theorem dX5_gets_93 : decode cX5_gets 93 = .ok (.iload 7, 2) := by decide +kernel
theorem dX5_gets_95 : decode cX5_gets 95 = .ok (.invokevirtual 64, 3) := by decide +kernel
theorem dX5_gets_98 : decode cX5_gets 98 = .ok (.aload_n 0, 1) := by decide +kernel
theorem dX5_gets_99 : decode cX5_gets 99 = .ok (.iload 6, 2) := by decide +kernel
theorem dX5_gets_101 : decode cX5_gets 101 = .ok (.invokevirtual 64, 3) := by decide +kernel
theorem dX5_gets_104 : decode cX5_gets 104 = .ok (.if_icmp .ge 8, 3) := by decide +kernel
theorem dX5_gets_107 : decode cX5_gets 107 = .ok (.iload 7, 2) := by decide +kernel
theorem dX5_gets_109 : decode cX5_gets 109 = .ok (.goto 5, 3) := by decide +kernel
theorem dX5_gets_112 : decode cX5_gets 112 = .ok (.iload 6, 2) := by decide +kernel
theorem dX5_gets_114 : decode cX5_gets 114 = .ok (.istore 6, 2) := by decide +kernel
theorem dX5_gets_116 : decode cX5_gets 116 = .ok (.iinc 7 1, 3) := by decide +kernel
theorem dX5_gets_119 : decode cX5_gets 119 = .ok (.goto (-110), 3) := by decide +kernel
theorem dX5_gets_122 : decode cX5_gets 122 = .ok (.iload 5, 2) := by decide +kernel
theorem dX5_gets_124 : decode cX5_gets 124 = .ok (.iconst (-1), 1) := by decide +kernel
theorem dX5_gets_125 : decode cX5_gets 125 = .ok (.if_icmp .eq 8, 3) := by decide +kernel
theorem dX5_gets_128 : decode cX5_gets 128 = .ok (.iload 5, 2) := by decide +kernel
theorem dX5_gets_130 : decode cX5_gets 130 = .ok (.goto 5, 3) := by decide +kernel
theorem dX5_gets_133 : decode cX5_gets 133 = .ok (.iload 6, 2) := by decide +kernel
theorem dX5_gets_135 : decode cX5_gets 135 = .ok (.ireturn, 1) := by decide +kernel
theorem dX5_dearness_0 : decode cX5_dearness 0 = .ok (.bipush 10, 2) := by decide +kernel
theorem dX5_dearness_2 : decode cX5_dearness 2 = .ok (.aload_n 0, 1) := by decide +kernel
theorem dX5_dearness_3 : decode cX5_dearness 3 = .ok (.iload_n 1, 1) := by decide +kernel
theorem dX5_dearness_4 : decode cX5_dearness 4 = .ok (.iconst 1, 1) := by decide +kernel
theorem dX5_dearness_5 : decode cX5_dearness 5 = .ok (.invokevirtual 38, 3) := by decide +kernel
theorem dX5_dearness_8 : decode cX5_dearness 8 = .ok (.imul, 1) := by decide +kernel
theorem dX5_dearness_9 : decode cX5_dearness 9 = .ok (.aload_n 0, 1) := by decide +kernel
theorem dX5_dearness_10 : decode cX5_dearness 10 = .ok (.iload_n 1, 1) := by decide +kernel
theorem dX5_dearness_11 : decode cX5_dearness 11 = .ok (.iconst 0, 1) := by decide +kernel
theorem dX5_dearness_12 : decode cX5_dearness 12 = .ok (.invokevirtual 38, 3) := by decide +kernel
theorem dX5_dearness_15 : decode cX5_dearness 15 = .ok (.iadd, 1) := by decide +kernel
theorem dX5_dearness_16 : decode cX5_dearness 16 = .ok (.ireturn, 1) := by decide +kernel
theorem dX5_opens_0 : decode cX5_opens 0 = .ok (.aload_n 0, 1) := by decide +kernel
theorem dX5_opens_1 : decode cX5_opens 1 = .ok (.iload_n 1, 1) := by decide +kernel
theorem dX5_opens_2 : decode cX5_opens 2 = .ok (.invokevirtual 56, 3) := by decide +kernel
theorem dX5_opens_5 : decode cX5_opens 5 = .ok (.ifCond .ne 41, 3) := by decide +kernel
theorem dX5_opens_8 : decode cX5_opens 8 = .ok (.aload_n 0, 1) := by decide +kernel
theorem dX5_opens_9 : decode cX5_opens 9 = .ok (.getfield 7, 3) := by decide +kernel
theorem dX5_opens_12 : decode cX5_opens 12 = .ok (.iconst 5, 1) := by decide +kernel
theorem dX5_opens_13 : decode cX5_opens 13 = .ok (.iconst 3, 1) := by decide +kernel
theorem dX5_opens_14 : decode cX5_opens 14 = .ok (.iload_n 1, 1) := by decide +kernel
theorem dX5_opens_15 : decode cX5_opens 15 = .ok (.imul, 1) := by decide +kernel
theorem dX5_opens_16 : decode cX5_opens 16 = .ok (.iadd, 1) := by decide +kernel
theorem dX5_opens_17 : decode cX5_opens 17 = .ok (.iconst 2, 1) := by decide +kernel
theorem dX5_opens_18 : decode cX5_opens 18 = .ok (.iadd, 1) := by decide +kernel
theorem dX5_opens_19 : decode cX5_opens 19 = .ok (.iconst 1, 1) := by decide +kernel
theorem dX5_opens_20 : decode cX5_opens 20 = .ok (.iastore, 1) := by decide +kernel
theorem dX5_opens_21 : decode cX5_opens 21 = .ok (.aload_n 0, 1) := by decide +kernel
theorem dX5_opens_22 : decode cX5_opens 22 = .ok (.getfield 7, 3) := by decide +kernel
theorem dX5_opens_25 : decode cX5_opens 25 = .ok (.iconst 2, 1) := by decide +kernel
theorem dX5_opens_26 : decode cX5_opens 26 = .ok (.dup2, 1) := by decide +kernel
theorem dX5_opens_27 : decode cX5_opens 27 = .ok (.iaload, 1) := by decide +kernel
theorem dX5_opens_28 : decode cX5_opens 28 = .ok (.iconst 1, 1) := by decide +kernel
theorem dX5_opens_29 : decode cX5_opens 29 = .ok (.iadd, 1) := by decide +kernel
theorem dX5_opens_30 : decode cX5_opens 30 = .ok (.iastore, 1) := by decide +kernel
theorem dX5_opens_31 : decode cX5_opens 31 = .ok (.aload_n 0, 1) := by decide +kernel
theorem dX5_opens_32 : decode cX5_opens 32 = .ok (.getfield 7, 3) := by decide +kernel
theorem dX5_opens_35 : decode cX5_opens 35 = .ok (.iconst 3, 1) := by decide +kernel
theorem dX5_opens_36 : decode cX5_opens 36 = .ok (.dup2, 1) := by decide +kernel
theorem dX5_opens_37 : decode cX5_opens 37 = .ok (.iaload, 1) := by decide +kernel
theorem dX5_opens_38 : decode cX5_opens 38 = .ok (.aload_n 0, 1) := by decide +kernel
theorem dX5_opens_39 : decode cX5_opens 39 = .ok (.iload_n 1, 1) := by decide +kernel
theorem dX5_opens_40 : decode cX5_opens 40 = .ok (.iconst 1, 1) := by decide +kernel
theorem dX5_opens_41 : decode cX5_opens 41 = .ok (.invokevirtual 38, 3) := by decide +kernel
theorem dX5_opens_44 : decode cX5_opens 44 = .ok (.iadd, 1) := by decide +kernel
theorem dX5_opens_45 : decode cX5_opens 45 = .ok (.iastore, 1) := by decide +kernel
theorem dX5_opens_46 : decode cX5_opens 46 = .ok (.return_, 1) := by decide +kernel
theorem dX5_openMany_0 : decode cX5_openMany 0 = .ok (.iconst 0, 1) := by decide +kernel
theorem dX5_openMany_1 : decode cX5_openMany 1 = .ok (.istore_n 1, 1) := by decide +kernel
theorem dX5_openMany_2 : decode cX5_openMany 2 = .ok (.iconst 0, 1) := by decide +kernel
theorem dX5_openMany_3 : decode cX5_openMany 3 = .ok (.istore_n 2, 1) := by decide +kernel
theorem dX5_openMany_4 : decode cX5_openMany 4 = .ok (.iload_n 2, 1) := by decide +kernel
theorem dX5_openMany_5 : decode cX5_openMany 5 = .ok (.bipush 8, 2) := by decide +kernel
theorem dX5_openMany_7 : decode cX5_openMany 7 = .ok (.if_icmp .ge 18, 3) := by decide +kernel
theorem dX5_openMany_10 : decode cX5_openMany 10 = .ok (.iload_n 1, 1) := by decide +kernel
theorem dX5_openMany_11 : decode cX5_openMany 11 = .ok (.aload_n 0, 1) := by decide +kernel
theorem dX5_openMany_12 : decode cX5_openMany 12 = .ok (.iload_n 2, 1) := by decide +kernel
theorem dX5_openMany_13 : decode cX5_openMany 13 = .ok (.iconst 2, 1) := by decide +kernel
theorem dX5_openMany_14 : decode cX5_openMany 14 = .ok (.invokevirtual 38, 3) := by decide +kernel
theorem dX5_openMany_17 : decode cX5_openMany 17 = .ok (.iadd, 1) := by decide +kernel
theorem dX5_openMany_18 : decode cX5_openMany 18 = .ok (.istore_n 1, 1) := by decide +kernel
theorem dX5_openMany_19 : decode cX5_openMany 19 = .ok (.iinc 2 1, 3) := by decide +kernel
theorem dX5_openMany_22 : decode cX5_openMany 22 = .ok (.goto (-18), 3) := by decide +kernel
theorem dX5_openMany_25 : decode cX5_openMany 25 = .ok (.iload_n 1, 1) := by decide +kernel
theorem dX5_openMany_26 : decode cX5_openMany 26 = .ok (.ireturn, 1) := by decide +kernel
theorem dX5_refusesTalk_0 : decode cX5_refusesTalk 0 = .ok (.iload_n 1, 1) := by decide +kernel
theorem dX5_refusesTalk_1 : decode cX5_refusesTalk 1 = .ok (.iconst 0, 1) := by decide +kernel
theorem dX5_refusesTalk_2 : decode cX5_refusesTalk 2 = .ok (.bipush 47, 2) := by decide +kernel
theorem dX5_refusesTalk_4 : decode cX5_refusesTalk 4 = .ok (.invokestatic 30, 3) := by decide +kernel
theorem dX5_refusesTalk_7 : decode cX5_refusesTalk 7 = .ok (.ifCond .eq 25, 3) := by decide +kernel
theorem dX5_refusesTalk_10 : decode cX5_refusesTalk 10 = .ok (.iload_n 2, 1) := by decide +kernel
theorem dX5_refusesTalk_11 : decode cX5_refusesTalk 11 = .ok (.iload_n 1, 1) := by decide +kernel
theorem dX5_refusesTalk_12 : decode cX5_refusesTalk 12 = .ok (.iconst 1, 1) := by decide +kernel
theorem dX5_refusesTalk_13 : decode cX5_refusesTalk 13 = .ok (.iadd, 1) := by decide +kernel
theorem dX5_refusesTalk_14 : decode cX5_refusesTalk 14 = .ok (.bipush 48, 2) := by decide +kernel
theorem dX5_refusesTalk_16 : decode cX5_refusesTalk 16 = .ok (.invokestatic 30, 3) := by decide +kernel
theorem dX5_refusesTalk_19 : decode cX5_refusesTalk 19 = .ok (.ifCond .eq 13, 3) := by decide +kernel
theorem dX5_refusesTalk_22 : decode cX5_refusesTalk 22 = .ok (.iload_n 3, 1) := by decide +kernel
theorem dX5_refusesTalk_23 : decode cX5_refusesTalk 23 = .ok (.iconst 1, 1) := by decide +kernel
theorem dX5_refusesTalk_24 : decode cX5_refusesTalk 24 = .ok (.bipush 9, 2) := by decide +kernel
theorem dX5_refusesTalk_26 : decode cX5_refusesTalk 26 = .ok (.invokestatic 30, 3) := by decide +kernel
theorem dX5_refusesTalk_29 : decode cX5_refusesTalk 29 = .ok (.ifCond .ne 6, 3) := by decide +kernel
theorem dX5_refusesTalk_32 : decode cX5_refusesTalk 32 = .ok (.ldc 67, 2) := by decide +kernel
theorem dX5_refusesTalk_34 : decode cX5_refusesTalk 34 = .ok (.ireturn, 1) := by decide +kernel
theorem dX5_refusesTalk_35 : decode cX5_refusesTalk 35 = .ok (.aload_n 0, 1) := by decide +kernel
theorem dX5_refusesTalk_36 : decode cX5_refusesTalk 36 = .ok (.iload_n 1, 1) := by decide +kernel
theorem dX5_refusesTalk_37 : decode cX5_refusesTalk 37 = .ok (.iload_n 2, 1) := by decide +kernel
theorem dX5_refusesTalk_38 : decode cX5_refusesTalk 38 = .ok (.iload_n 3, 1) := by decide +kernel
theorem dX5_refusesTalk_39 : decode cX5_refusesTalk 39 = .ok (.aload_n 0, 1) := by decide +kernel
theorem dX5_refusesTalk_40 : decode cX5_refusesTalk 40 = .ok (.getfield 7, 3) := by decide +kernel
theorem dX5_refusesTalk_43 : decode cX5_refusesTalk 43 = .ok (.iconst 0, 1) := by decide +kernel
theorem dX5_refusesTalk_44 : decode cX5_refusesTalk 44 = .ok (.iaload, 1) := by decide +kernel
theorem dX5_refusesTalk_45 : decode cX5_refusesTalk 45 = .ok (.invokevirtual 68, 3) := by decide +kernel
theorem dX5_refusesTalk_48 : decode cX5_refusesTalk 48 = .ok (.iconst (-1), 1) := by decide +kernel
theorem dX5_refusesTalk_49 : decode cX5_refusesTalk 49 = .ok (.if_icmp .ne 6, 3) := by decide +kernel
theorem dX5_refusesTalk_52 : decode cX5_refusesTalk 52 = .ok (.ldc 72, 2) := by decide +kernel
theorem dX5_refusesTalk_54 : decode cX5_refusesTalk 54 = .ok (.ireturn, 1) := by decide +kernel
theorem dX5_refusesTalk_55 : decode cX5_refusesTalk 55 = .ok (.aload_n 0, 1) := by decide +kernel
theorem dX5_refusesTalk_56 : decode cX5_refusesTalk 56 = .ok (.getfield 7, 3) := by decide +kernel
theorem dX5_refusesTalk_59 : decode cX5_refusesTalk 59 = .ok (.iconst 1, 1) := by decide +kernel
theorem dX5_refusesTalk_60 : decode cX5_refusesTalk 60 = .ok (.iaload, 1) := by decide +kernel
theorem dX5_refusesTalk_61 : decode cX5_refusesTalk 61 = .ok (.bipush 20, 2) := by decide +kernel
theorem dX5_refusesTalk_63 : decode cX5_refusesTalk 63 = .ok (.if_icmp .ne 8, 3) := by decide +kernel
theorem dX5_refusesTalk_66 : decode cX5_refusesTalk 66 = .ok (.ldc 73, 2) := by decide +kernel
theorem dX5_refusesTalk_68 : decode cX5_refusesTalk 68 = .ok (.goto 4, 3) := by decide +kernel
theorem dX5_refusesTalk_71 : decode cX5_refusesTalk 71 = .ok (.iconst 0, 1) := by decide +kernel
theorem dX5_refusesTalk_72 : decode cX5_refusesTalk 72 = .ok (.ireturn, 1) := by decide +kernel
theorem dX5_tells_0 : decode cX5_tells 0 = .ok (.aload_n 0, 1) := by decide +kernel
theorem dX5_tells_1 : decode cX5_tells 1 = .ok (.iload_n 1, 1) := by decide +kernel
theorem dX5_tells_2 : decode cX5_tells 2 = .ok (.iload_n 2, 1) := by decide +kernel
theorem dX5_tells_3 : decode cX5_tells 3 = .ok (.iload_n 3, 1) := by decide +kernel
theorem dX5_tells_4 : decode cX5_tells 4 = .ok (.aload_n 0, 1) := by decide +kernel
theorem dX5_tells_5 : decode cX5_tells 5 = .ok (.getfield 7, 3) := by decide +kernel
theorem dX5_tells_8 : decode cX5_tells 8 = .ok (.iconst 0, 1) := by decide +kernel
theorem dX5_tells_9 : decode cX5_tells 9 = .ok (.iaload, 1) := by decide +kernel
theorem dX5_tells_10 : decode cX5_tells 10 = .ok (.invokevirtual 68, 3) := by decide +kernel
theorem dX5_tells_13 : decode cX5_tells 13 = .ok (.istore 4, 2) := by decide +kernel
theorem dX5_tells_15 : decode cX5_tells 15 = .ok (.bipush 29, 2) := by decide +kernel
theorem dX5_tells_17 : decode cX5_tells 17 = .ok (.iconst 4, 1) := by decide +kernel
theorem dX5_tells_18 : decode cX5_tells 18 = .ok (.aload_n 0, 1) := by decide +kernel
theorem dX5_tells_19 : decode cX5_tells 19 = .ok (.getfield 7, 3) := by decide +kernel
theorem dX5_tells_22 : decode cX5_tells 22 = .ok (.iconst 1, 1) := by decide +kernel
theorem dX5_tells_23 : decode cX5_tells 23 = .ok (.iaload, 1) := by decide +kernel
theorem dX5_tells_24 : decode cX5_tells 24 = .ok (.imul, 1) := by decide +kernel
theorem dX5_tells_25 : decode cX5_tells 25 = .ok (.iadd, 1) := by decide +kernel
theorem dX5_tells_26 : decode cX5_tells 26 = .ok (.istore 5, 2) := by decide +kernel
theorem dX5_tells_28 : decode cX5_tells 28 = .ok (.aload_n 0, 1) := by decide +kernel
theorem dX5_tells_29 : decode cX5_tells 29 = .ok (.getfield 7, 3) := by decide +kernel
theorem dX5_tells_32 : decode cX5_tells 32 = .ok (.iload 5, 2) := by decide +kernel
theorem dX5_tells_34 : decode cX5_tells 34 = .ok (.iconst 0, 1) := by decide +kernel
theorem dX5_tells_35 : decode cX5_tells 35 = .ok (.iadd, 1) := by decide +kernel
theorem dX5_tells_36 : decode cX5_tells 36 = .ok (.iload_n 1, 1) := by decide +kernel
theorem dX5_tells_37 : decode cX5_tells 37 = .ok (.iastore, 1) := by decide +kernel
theorem dX5_tells_38 : decode cX5_tells 38 = .ok (.aload_n 0, 1) := by decide +kernel
theorem dX5_tells_39 : decode cX5_tells 39 = .ok (.getfield 7, 3) := by decide +kernel
theorem dX5_tells_42 : decode cX5_tells 42 = .ok (.iload 5, 2) := by decide +kernel
theorem dX5_tells_44 : decode cX5_tells 44 = .ok (.iconst 1, 1) := by decide +kernel
theorem dX5_tells_45 : decode cX5_tells 45 = .ok (.iadd, 1) := by decide +kernel
theorem dX5_tells_46 : decode cX5_tells 46 = .ok (.iload_n 2, 1) := by decide +kernel
theorem dX5_tells_47 : decode cX5_tells 47 = .ok (.iastore, 1) := by decide +kernel
theorem dX5_tells_48 : decode cX5_tells 48 = .ok (.aload_n 0, 1) := by decide +kernel
theorem dX5_tells_49 : decode cX5_tells 49 = .ok (.getfield 7, 3) := by decide +kernel
theorem dX5_tells_52 : decode cX5_tells 52 = .ok (.iload 5, 2) := by decide +kernel
theorem dX5_tells_54 : decode cX5_tells 54 = .ok (.iconst 2, 1) := by decide +kernel
theorem dX5_tells_55 : decode cX5_tells 55 = .ok (.iadd, 1) := by decide +kernel
theorem dX5_tells_56 : decode cX5_tells 56 = .ok (.iload_n 3, 1) := by decide +kernel
theorem dX5_tells_57 : decode cX5_tells 57 = .ok (.iastore, 1) := by decide +kernel
theorem dX5_tells_58 : decode cX5_tells 58 = .ok (.aload_n 0, 1) := by decide +kernel
theorem dX5_tells_59 : decode cX5_tells 59 = .ok (.getfield 7, 3) := by decide +kernel
theorem dX5_tells_62 : decode cX5_tells 62 = .ok (.iload 5, 2) := by decide +kernel
theorem dX5_tells_64 : decode cX5_tells 64 = .ok (.iconst 3, 1) := by decide +kernel
theorem dX5_tells_65 : decode cX5_tells 65 = .ok (.iadd, 1) := by decide +kernel
theorem dX5_tells_66 : decode cX5_tells 66 = .ok (.iload 4, 2) := by decide +kernel
theorem dX5_tells_68 : decode cX5_tells 68 = .ok (.iastore, 1) := by decide +kernel
theorem dX5_tells_69 : decode cX5_tells 69 = .ok (.aload_n 0, 1) := by decide +kernel
theorem dX5_tells_70 : decode cX5_tells 70 = .ok (.getfield 7, 3) := by decide +kernel
theorem dX5_tells_73 : decode cX5_tells 73 = .ok (.iconst 1, 1) := by decide +kernel
theorem dX5_tells_74 : decode cX5_tells 74 = .ok (.dup2, 1) := by decide +kernel
theorem dX5_tells_75 : decode cX5_tells 75 = .ok (.iaload, 1) := by decide +kernel
theorem dX5_tells_76 : decode cX5_tells 76 = .ok (.iconst 1, 1) := by decide +kernel
theorem dX5_tells_77 : decode cX5_tells 77 = .ok (.iadd, 1) := by decide +kernel
theorem dX5_tells_78 : decode cX5_tells 78 = .ok (.iastore, 1) := by decide +kernel
theorem dX5_tells_79 : decode cX5_tells 79 = .ok (.aload_n 0, 1) := by decide +kernel
theorem dX5_tells_80 : decode cX5_tells 80 = .ok (.iload 4, 2) := by decide +kernel
theorem dX5_tells_82 : decode cX5_tells 82 = .ok (.invokevirtual 74, 3) := by decide +kernel
theorem dX5_tells_85 : decode cX5_tells 85 = .ok (.iload 4, 2) := by decide +kernel
theorem dX5_tells_87 : decode cX5_tells 87 = .ok (.ireturn, 1) := by decide +kernel
theorem dX5_talk_0 : decode cX5_talk 0 = .ok (.aload_n 0, 1) := by decide +kernel
theorem dX5_talk_1 : decode cX5_talk 1 = .ok (.iconst 0, 1) := by decide +kernel
theorem dX5_talk_2 : decode cX5_talk 2 = .ok (.putfield 26, 3) := by decide +kernel
theorem dX5_talk_5 : decode cX5_talk 5 = .ok (.aload_n 0, 1) := by decide +kernel
theorem dX5_talk_6 : decode cX5_talk 6 = .ok (.iload_n 1, 1) := by decide +kernel
theorem dX5_talk_7 : decode cX5_talk 7 = .ok (.iload_n 2, 1) := by decide +kernel
theorem dX5_talk_8 : decode cX5_talk 8 = .ok (.iload_n 3, 1) := by decide +kernel
theorem dX5_talk_9 : decode cX5_talk 9 = .ok (.invokevirtual 78, 3) := by decide +kernel
theorem dX5_talk_12 : decode cX5_talk 12 = .ok (.istore 4, 2) := by decide +kernel
theorem dX5_talk_14 : decode cX5_talk 14 = .ok (.iload 4, 2) := by decide +kernel
theorem dX5_talk_16 : decode cX5_talk 16 = .ok (.ifCond .eq 6, 3) := by decide +kernel
theorem dX5_talk_19 : decode cX5_talk 19 = .ok (.iload 4, 2) := by decide +kernel
theorem dX5_talk_21 : decode cX5_talk 21 = .ok (.ireturn, 1) := by decide +kernel
theorem dX5_talk_22 : decode cX5_talk 22 = .ok (.aload_n 0, 1) := by decide +kernel
theorem dX5_talk_23 : decode cX5_talk 23 = .ok (.invokevirtual 81, 3) := by decide +kernel
theorem dX5_talk_26 : decode cX5_talk 26 = .ok (.aload_n 0, 1) := by decide +kernel
theorem dX5_talk_27 : decode cX5_talk 27 = .ok (.iload_n 1, 1) := by decide +kernel
theorem dX5_talk_28 : decode cX5_talk 28 = .ok (.iload_n 2, 1) := by decide +kernel
theorem dX5_talk_29 : decode cX5_talk 29 = .ok (.iload_n 3, 1) := by decide +kernel
theorem dX5_talk_30 : decode cX5_talk 30 = .ok (.invokevirtual 84, 3) := by decide +kernel
theorem dX5_talk_33 : decode cX5_talk 33 = .ok (.ireturn, 1) := by decide +kernel
theorem dX5_withdraws_0 : decode cX5_withdraws 0 = .ok (.aload_n 0, 1) := by decide +kernel
theorem dX5_withdraws_1 : decode cX5_withdraws 1 = .ok (.iload_n 1, 1) := by decide +kernel
theorem dX5_withdraws_2 : decode cX5_withdraws 2 = .ok (.iconst 3, 1) := by decide +kernel
theorem dX5_withdraws_3 : decode cX5_withdraws 3 = .ok (.invokevirtual 34, 3) := by decide +kernel
theorem dX5_withdraws_6 : decode cX5_withdraws 6 = .ok (.istore_n 2, 1) := by decide +kernel
theorem dX5_withdraws_7 : decode cX5_withdraws 7 = .ok (.aload_n 0, 1) := by decide +kernel
theorem dX5_withdraws_8 : decode cX5_withdraws 8 = .ok (.getfield 7, 3) := by decide +kernel
theorem dX5_withdraws_11 : decode cX5_withdraws 11 = .ok (.bipush 29, 2) := by decide +kernel
theorem dX5_withdraws_13 : decode cX5_withdraws 13 = .ok (.iconst 4, 1) := by decide +kernel
theorem dX5_withdraws_14 : decode cX5_withdraws 14 = .ok (.iload_n 1, 1) := by decide +kernel
theorem dX5_withdraws_15 : decode cX5_withdraws 15 = .ok (.imul, 1) := by decide +kernel
theorem dX5_withdraws_16 : decode cX5_withdraws 16 = .ok (.iadd, 1) := by decide +kernel
theorem dX5_withdraws_17 : decode cX5_withdraws 17 = .ok (.iconst 3, 1) := by decide +kernel
theorem dX5_withdraws_18 : decode cX5_withdraws 18 = .ok (.iadd, 1) := by decide +kernel
theorem dX5_withdraws_19 : decode cX5_withdraws 19 = .ok (.iconst (-1), 1) := by decide +kernel
theorem dX5_withdraws_20 : decode cX5_withdraws 20 = .ok (.iastore, 1) := by decide +kernel
theorem dX5_withdraws_21 : decode cX5_withdraws 21 = .ok (.aload_n 0, 1) := by decide +kernel
theorem dX5_withdraws_22 : decode cX5_withdraws 22 = .ok (.getfield 7, 3) := by decide +kernel
theorem dX5_withdraws_25 : decode cX5_withdraws 25 = .ok (.iconst 4, 1) := by decide +kernel
theorem dX5_withdraws_26 : decode cX5_withdraws 26 = .ok (.dup2, 1) := by decide +kernel
theorem dX5_withdraws_27 : decode cX5_withdraws 27 = .ok (.iaload, 1) := by decide +kernel
theorem dX5_withdraws_28 : decode cX5_withdraws 28 = .ok (.iconst 1, 1) := by decide +kernel
theorem dX5_withdraws_29 : decode cX5_withdraws 29 = .ok (.iadd, 1) := by decide +kernel
theorem dX5_withdraws_30 : decode cX5_withdraws 30 = .ok (.iastore, 1) := by decide +kernel
theorem dX5_withdraws_31 : decode cX5_withdraws 31 = .ok (.iload_n 2, 1) := by decide +kernel
theorem dX5_withdraws_32 : decode cX5_withdraws 32 = .ok (.ireturn, 1) := by decide +kernel
theorem dX5_withdraw_0 : decode cX5_withdraw 0 = .ok (.aload_n 0, 1) := by decide +kernel
theorem dX5_withdraw_1 : decode cX5_withdraw 1 = .ok (.iconst 0, 1) := by decide +kernel
theorem dX5_withdraw_2 : decode cX5_withdraw 2 = .ok (.putfield 26, 3) := by decide +kernel
theorem dX5_withdraw_5 : decode cX5_withdraw 5 = .ok (.aload_n 0, 1) := by decide +kernel
theorem dX5_withdraw_6 : decode cX5_withdraw 6 = .ok (.iload_n 1, 1) := by decide +kernel
theorem dX5_withdraw_7 : decode cX5_withdraw 7 = .ok (.invokevirtual 87, 3) := by decide +kernel
theorem dX5_withdraw_10 : decode cX5_withdraw 10 = .ok (.ifCond .ne 6, 3) := by decide +kernel
theorem dX5_withdraw_13 : decode cX5_withdraw 13 = .ok (.ldc 67, 2) := by decide +kernel
theorem dX5_withdraw_15 : decode cX5_withdraw 15 = .ok (.ireturn, 1) := by decide +kernel
theorem dX5_withdraw_16 : decode cX5_withdraw 16 = .ok (.aload_n 0, 1) := by decide +kernel
theorem dX5_withdraw_17 : decode cX5_withdraw 17 = .ok (.invokevirtual 81, 3) := by decide +kernel
theorem dX5_withdraw_20 : decode cX5_withdraw 20 = .ok (.aload_n 0, 1) := by decide +kernel
theorem dX5_withdraw_21 : decode cX5_withdraw 21 = .ok (.iload_n 1, 1) := by decide +kernel
theorem dX5_withdraw_22 : decode cX5_withdraw 22 = .ok (.invokevirtual 90, 3) := by decide +kernel
theorem dX5_withdraw_25 : decode cX5_withdraw 25 = .ok (.ireturn, 1) := by decide +kernel
theorem dX5_canMove_0 : decode cX5_canMove 0 = .ok (.aload_n 0, 1) := by decide +kernel
theorem dX5_canMove_1 : decode cX5_canMove 1 = .ok (.iload_n 1, 1) := by decide +kernel
theorem dX5_canMove_2 : decode cX5_canMove 2 = .ok (.iconst 3, 1) := by decide +kernel
theorem dX5_canMove_3 : decode cX5_canMove 3 = .ok (.invokevirtual 34, 3) := by decide +kernel
theorem dX5_canMove_6 : decode cX5_canMove 6 = .ok (.iload_n 2, 1) := by decide +kernel
theorem dX5_canMove_7 : decode cX5_canMove 7 = .ok (.if_icmp .eq 42, 3) := by decide +kernel
theorem dX5_canMove_10 : decode cX5_canMove 10 = .ok (.aload_n 0, 1) := by decide +kernel
theorem dX5_canMove_11 : decode cX5_canMove 11 = .ok (.iload_n 2, 1) := by decide +kernel
theorem dX5_canMove_12 : decode cX5_canMove 12 = .ok (.invokevirtual 56, 3) := by decide +kernel
theorem dX5_canMove_15 : decode cX5_canMove 15 = .ok (.ifCond .eq 34, 3) := by decide +kernel
theorem dX5_canMove_18 : decode cX5_canMove 18 = .ok (.aload_n 0, 1) := by decide +kernel
theorem dX5_canMove_19 : decode cX5_canMove 19 = .ok (.iload_n 2, 1) := by decide +kernel
theorem dX5_canMove_20 : decode cX5_canMove 20 = .ok (.aload_n 0, 1) := by decide +kernel
theorem dX5_canMove_21 : decode cX5_canMove 21 = .ok (.iload_n 1, 1) := by decide +kernel
theorem dX5_canMove_22 : decode cX5_canMove 22 = .ok (.iconst 0, 1) := by decide +kernel
theorem dX5_canMove_23 : decode cX5_canMove 23 = .ok (.invokevirtual 34, 3) := by decide +kernel
theorem dX5_canMove_26 : decode cX5_canMove 26 = .ok (.aload_n 0, 1) := by decide +kernel
theorem dX5_canMove_27 : decode cX5_canMove 27 = .ok (.iload_n 1, 1) := by decide +kernel
theorem dX5_canMove_28 : decode cX5_canMove 28 = .ok (.iconst 1, 1) := by decide +kernel
theorem dX5_canMove_29 : decode cX5_canMove 29 = .ok (.invokevirtual 34, 3) := by decide +kernel
theorem dX5_canMove_32 : decode cX5_canMove 32 = .ok (.aload_n 0, 1) := by decide +kernel
theorem dX5_canMove_33 : decode cX5_canMove 33 = .ok (.iload_n 1, 1) := by decide +kernel
theorem dX5_canMove_34 : decode cX5_canMove 34 = .ok (.iconst 2, 1) := by decide +kernel
theorem dX5_canMove_35 : decode cX5_canMove 35 = .ok (.invokevirtual 34, 3) := by decide +kernel
theorem dX5_canMove_38 : decode cX5_canMove 38 = .ok (.iload_n 1, 1) := by decide +kernel
theorem dX5_canMove_39 : decode cX5_canMove 39 = .ok (.invokevirtual 52, 3) := by decide +kernel
theorem dX5_canMove_42 : decode cX5_canMove 42 = .ok (.ifCond .eq 7, 3) := by decide +kernel
theorem dX5_canMove_45 : decode cX5_canMove 45 = .ok (.iconst 1, 1) := by decide +kernel
theorem dX5_canMove_46 : decode cX5_canMove 46 = .ok (.goto 4, 3) := by decide +kernel
theorem dX5_canMove_49 : decode cX5_canMove 49 = .ok (.iconst 0, 1) := by decide +kernel
theorem dX5_canMove_50 : decode cX5_canMove 50 = .ok (.ireturn, 1) := by decide +kernel
theorem dX5_move_0 : decode cX5_move 0 = .ok (.aload_n 0, 1) := by decide +kernel
theorem dX5_move_1 : decode cX5_move 1 = .ok (.iconst 0, 1) := by decide +kernel
theorem dX5_move_2 : decode cX5_move 2 = .ok (.putfield 26, 3) := by decide +kernel
theorem dX5_move_5 : decode cX5_move 5 = .ok (.aload_n 0, 1) := by decide +kernel
theorem dX5_move_6 : decode cX5_move 6 = .ok (.iload_n 1, 1) := by decide +kernel
theorem dX5_move_7 : decode cX5_move 7 = .ok (.invokevirtual 87, 3) := by decide +kernel
theorem dX5_move_10 : decode cX5_move 10 = .ok (.ifCond .eq 10, 3) := by decide +kernel
theorem dX5_move_13 : decode cX5_move 13 = .ok (.iload_n 2, 1) := by decide +kernel
theorem dX5_move_14 : decode cX5_move 14 = .ok (.invokestatic 93, 3) := by decide +kernel
theorem dX5_move_17 : decode cX5_move 17 = .ok (.ifCond .ne 6, 3) := by decide +kernel
theorem dX5_move_20 : decode cX5_move 20 = .ok (.ldc 67, 2) := by decide +kernel
theorem dX5_move_22 : decode cX5_move 22 = .ok (.ireturn, 1) := by decide +kernel
theorem dX5_move_23 : decode cX5_move 23 = .ok (.aload_n 0, 1) := by decide +kernel
theorem dX5_move_24 : decode cX5_move 24 = .ok (.iload_n 1, 1) := by decide +kernel
theorem dX5_move_25 : decode cX5_move 25 = .ok (.iload_n 2, 1) := by decide +kernel
theorem dX5_move_26 : decode cX5_move 26 = .ok (.invokevirtual 96, 3) := by decide +kernel
theorem dX5_move_29 : decode cX5_move 29 = .ok (.ifCond .ne 6, 3) := by decide +kernel
theorem dX5_move_32 : decode cX5_move 32 = .ok (.ldc 72, 2) := by decide +kernel
theorem dX5_move_34 : decode cX5_move 34 = .ok (.ireturn, 1) := by decide +kernel
theorem dX5_move_35 : decode cX5_move 35 = .ok (.aload_n 0, 1) := by decide +kernel
theorem dX5_move_36 : decode cX5_move 36 = .ok (.invokevirtual 81, 3) := by decide +kernel
theorem dX5_move_39 : decode cX5_move 39 = .ok (.aload_n 0, 1) := by decide +kernel
theorem dX5_move_40 : decode cX5_move 40 = .ok (.iload_n 1, 1) := by decide +kernel
theorem dX5_move_41 : decode cX5_move 41 = .ok (.iconst 3, 1) := by decide +kernel
theorem dX5_move_42 : decode cX5_move 42 = .ok (.invokevirtual 34, 3) := by decide +kernel
theorem dX5_move_45 : decode cX5_move 45 = .ok (.istore_n 3, 1) := by decide +kernel
theorem dX5_move_46 : decode cX5_move 46 = .ok (.aload_n 0, 1) := by decide +kernel
theorem dX5_move_47 : decode cX5_move 47 = .ok (.getfield 7, 3) := by decide +kernel
theorem dX5_move_50 : decode cX5_move 50 = .ok (.bipush 29, 2) := by decide +kernel
theorem dX5_move_52 : decode cX5_move 52 = .ok (.iconst 4, 1) := by decide +kernel
theorem dX5_move_53 : decode cX5_move 53 = .ok (.iload_n 1, 1) := by decide +kernel
theorem dX5_move_54 : decode cX5_move 54 = .ok (.imul, 1) := by decide +kernel
theorem dX5_move_55 : decode cX5_move 55 = .ok (.iadd, 1) := by decide +kernel
theorem dX5_move_56 : decode cX5_move 56 = .ok (.iconst 3, 1) := by decide +kernel
theorem dX5_move_57 : decode cX5_move 57 = .ok (.iadd, 1) := by decide +kernel
theorem dX5_move_58 : decode cX5_move 58 = .ok (.iload_n 2, 1) := by decide +kernel
theorem dX5_move_59 : decode cX5_move 59 = .ok (.iastore, 1) := by decide +kernel
theorem dX5_move_60 : decode cX5_move 60 = .ok (.iload_n 3, 1) := by decide +kernel
theorem dX5_move_61 : decode cX5_move 61 = .ok (.ireturn, 1) := by decide +kernel
theorem dX5_refusesRoom_0 : decode cX5_refusesRoom 0 = .ok (.iload_n 1, 1) := by decide +kernel
theorem dX5_refusesRoom_1 : decode cX5_refusesRoom 1 = .ok (.invokestatic 93, 3) := by decide +kernel
theorem dX5_refusesRoom_4 : decode cX5_refusesRoom 4 = .ok (.ifCond .eq 23, 3) := by decide +kernel
theorem dX5_refusesRoom_7 : decode cX5_refusesRoom 7 = .ok (.iload_n 2, 1) := by decide +kernel
theorem dX5_refusesRoom_8 : decode cX5_refusesRoom 8 = .ok (.iconst 1, 1) := by decide +kernel
theorem dX5_refusesRoom_9 : decode cX5_refusesRoom 9 = .ok (.bipush 9, 2) := by decide +kernel
theorem dX5_refusesRoom_11 : decode cX5_refusesRoom 11 = .ok (.invokestatic 30, 3) := by decide +kernel
theorem dX5_refusesRoom_14 : decode cX5_refusesRoom 14 = .ok (.ifCond .eq 13, 3) := by decide +kernel
theorem dX5_refusesRoom_17 : decode cX5_refusesRoom 17 = .ok (.iload_n 3, 1) := by decide +kernel
theorem dX5_refusesRoom_18 : decode cX5_refusesRoom 18 = .ok (.iconst 1, 1) := by decide +kernel
theorem dX5_refusesRoom_19 : decode cX5_refusesRoom 19 = .ok (.bipush 99, 2) := by decide +kernel
theorem dX5_refusesRoom_21 : decode cX5_refusesRoom 21 = .ok (.invokestatic 30, 3) := by decide +kernel
theorem dX5_refusesRoom_24 : decode cX5_refusesRoom 24 = .ok (.ifCond .ne 6, 3) := by decide +kernel
theorem dX5_refusesRoom_27 : decode cX5_refusesRoom 27 = .ok (.ldc 67, 2) := by decide +kernel
theorem dX5_refusesRoom_29 : decode cX5_refusesRoom 29 = .ok (.ireturn, 1) := by decide +kernel
theorem dX5_refusesRoom_30 : decode cX5_refusesRoom 30 = .ok (.aload_n 0, 1) := by decide +kernel
theorem dX5_refusesRoom_31 : decode cX5_refusesRoom 31 = .ok (.iload_n 1, 1) := by decide +kernel
theorem dX5_refusesRoom_32 : decode cX5_refusesRoom 32 = .ok (.invokevirtual 56, 3) := by decide +kernel
theorem dX5_refusesRoom_35 : decode cX5_refusesRoom 35 = .ok (.ifCond .eq 8, 3) := by decide +kernel
theorem dX5_refusesRoom_38 : decode cX5_refusesRoom 38 = .ok (.ldc 72, 2) := by decide +kernel
theorem dX5_refusesRoom_40 : decode cX5_refusesRoom 40 = .ok (.goto 4, 3) := by decide +kernel
theorem dX5_refusesRoom_43 : decode cX5_refusesRoom 43 = .ok (.iconst 0, 1) := by decide +kernel
theorem dX5_refusesRoom_44 : decode cX5_refusesRoom 44 = .ok (.ireturn, 1) := by decide +kernel
theorem dX5_laysRoom_0 : decode cX5_laysRoom 0 = .ok (.bipush 100, 2) := by decide +kernel
theorem dX5_laysRoom_2 : decode cX5_laysRoom 2 = .ok (.aload_n 0, 1) := by decide +kernel
theorem dX5_laysRoom_3 : decode cX5_laysRoom 3 = .ok (.iload_n 1, 1) := by decide +kernel
theorem dX5_laysRoom_4 : decode cX5_laysRoom 4 = .ok (.iconst 0, 1) := by decide +kernel
theorem dX5_laysRoom_5 : decode cX5_laysRoom 5 = .ok (.invokevirtual 38, 3) := by decide +kernel
theorem dX5_laysRoom_8 : decode cX5_laysRoom 8 = .ok (.imul, 1) := by decide +kernel
theorem dX5_laysRoom_9 : decode cX5_laysRoom 9 = .ok (.aload_n 0, 1) := by decide +kernel
theorem dX5_laysRoom_10 : decode cX5_laysRoom 10 = .ok (.iload_n 1, 1) := by decide +kernel
theorem dX5_laysRoom_11 : decode cX5_laysRoom 11 = .ok (.iconst 1, 1) := by decide +kernel
theorem dX5_laysRoom_12 : decode cX5_laysRoom 12 = .ok (.invokevirtual 38, 3) := by decide +kernel
theorem dX5_laysRoom_15 : decode cX5_laysRoom 15 = .ok (.iadd, 1) := by decide +kernel
theorem dX5_laysRoom_16 : decode cX5_laysRoom 16 = .ok (.istore 4, 2) := by decide +kernel
theorem dX5_laysRoom_18 : decode cX5_laysRoom 18 = .ok (.aload_n 0, 1) := by decide +kernel
theorem dX5_laysRoom_19 : decode cX5_laysRoom 19 = .ok (.getfield 7, 3) := by decide +kernel
theorem dX5_laysRoom_22 : decode cX5_laysRoom 22 = .ok (.iconst 5, 1) := by decide +kernel
theorem dX5_laysRoom_23 : decode cX5_laysRoom 23 = .ok (.iconst 3, 1) := by decide +kernel
theorem dX5_laysRoom_24 : decode cX5_laysRoom 24 = .ok (.iload_n 1, 1) := by decide +kernel
theorem dX5_laysRoom_25 : decode cX5_laysRoom 25 = .ok (.imul, 1) := by decide +kernel
theorem dX5_laysRoom_26 : decode cX5_laysRoom 26 = .ok (.iadd, 1) := by decide +kernel
theorem dX5_laysRoom_27 : decode cX5_laysRoom 27 = .ok (.iconst 0, 1) := by decide +kernel
theorem dX5_laysRoom_28 : decode cX5_laysRoom 28 = .ok (.iadd, 1) := by decide +kernel
theorem dX5_laysRoom_29 : decode cX5_laysRoom 29 = .ok (.iload_n 2, 1) := by decide +kernel
theorem dX5_laysRoom_30 : decode cX5_laysRoom 30 = .ok (.iastore, 1) := by decide +kernel
theorem dX5_laysRoom_31 : decode cX5_laysRoom 31 = .ok (.aload_n 0, 1) := by decide +kernel
theorem dX5_laysRoom_32 : decode cX5_laysRoom 32 = .ok (.getfield 7, 3) := by decide +kernel
theorem dX5_laysRoom_35 : decode cX5_laysRoom 35 = .ok (.iconst 5, 1) := by decide +kernel
theorem dX5_laysRoom_36 : decode cX5_laysRoom 36 = .ok (.iconst 3, 1) := by decide +kernel
theorem dX5_laysRoom_37 : decode cX5_laysRoom 37 = .ok (.iload_n 1, 1) := by decide +kernel
theorem dX5_laysRoom_38 : decode cX5_laysRoom 38 = .ok (.imul, 1) := by decide +kernel
theorem dX5_laysRoom_39 : decode cX5_laysRoom 39 = .ok (.iadd, 1) := by decide +kernel
theorem dX5_laysRoom_40 : decode cX5_laysRoom 40 = .ok (.iconst 1, 1) := by decide +kernel
theorem dX5_laysRoom_41 : decode cX5_laysRoom 41 = .ok (.iadd, 1) := by decide +kernel
theorem dX5_laysRoom_42 : decode cX5_laysRoom 42 = .ok (.iload_n 3, 1) := by decide +kernel
theorem dX5_laysRoom_43 : decode cX5_laysRoom 43 = .ok (.iastore, 1) := by decide +kernel
theorem dX5_laysRoom_44 : decode cX5_laysRoom 44 = .ok (.iload 4, 2) := by decide +kernel
theorem dX5_laysRoom_46 : decode cX5_laysRoom 46 = .ok (.ireturn, 1) := by decide +kernel
theorem dX5_room_0 : decode cX5_room 0 = .ok (.aload_n 0, 1) := by decide +kernel
theorem dX5_room_1 : decode cX5_room 1 = .ok (.iconst 0, 1) := by decide +kernel
theorem dX5_room_2 : decode cX5_room 2 = .ok (.putfield 26, 3) := by decide +kernel
theorem dX5_room_5 : decode cX5_room 5 = .ok (.aload_n 0, 1) := by decide +kernel
theorem dX5_room_6 : decode cX5_room 6 = .ok (.iload_n 1, 1) := by decide +kernel
theorem dX5_room_7 : decode cX5_room 7 = .ok (.iload_n 2, 1) := by decide +kernel
theorem dX5_room_8 : decode cX5_room 8 = .ok (.iload_n 3, 1) := by decide +kernel
theorem dX5_room_9 : decode cX5_room 9 = .ok (.invokevirtual 100, 3) := by decide +kernel
theorem dX5_room_12 : decode cX5_room 12 = .ok (.istore 4, 2) := by decide +kernel
theorem dX5_room_14 : decode cX5_room 14 = .ok (.iload 4, 2) := by decide +kernel
theorem dX5_room_16 : decode cX5_room 16 = .ok (.ifCond .eq 6, 3) := by decide +kernel
theorem dX5_room_19 : decode cX5_room 19 = .ok (.iload 4, 2) := by decide +kernel
theorem dX5_room_21 : decode cX5_room 21 = .ok (.ireturn, 1) := by decide +kernel
theorem dX5_room_22 : decode cX5_room 22 = .ok (.aload_n 0, 1) := by decide +kernel
theorem dX5_room_23 : decode cX5_room 23 = .ok (.invokevirtual 81, 3) := by decide +kernel
theorem dX5_room_26 : decode cX5_room 26 = .ok (.aload_n 0, 1) := by decide +kernel
theorem dX5_room_27 : decode cX5_room 27 = .ok (.iload_n 1, 1) := by decide +kernel
theorem dX5_room_28 : decode cX5_room 28 = .ok (.iload_n 2, 1) := by decide +kernel
theorem dX5_room_29 : decode cX5_room 29 = .ok (.iload_n 3, 1) := by decide +kernel
theorem dX5_room_30 : decode cX5_room 30 = .ok (.invokevirtual 103, 3) := by decide +kernel
theorem dX5_room_33 : decode cX5_room 33 = .ok (.ireturn, 1) := by decide +kernel
theorem dX5_talksIn_0 : decode cX5_talksIn 0 = .ok (.iconst 0, 1) := by decide +kernel
theorem dX5_talksIn_1 : decode cX5_talksIn 1 = .ok (.istore_n 2, 1) := by decide +kernel
theorem dX5_talksIn_2 : decode cX5_talksIn 2 = .ok (.iconst 0, 1) := by decide +kernel
theorem dX5_talksIn_3 : decode cX5_talksIn 3 = .ok (.istore_n 3, 1) := by decide +kernel
theorem dX5_talksIn_4 : decode cX5_talksIn 4 = .ok (.iload_n 3, 1) := by decide +kernel
theorem dX5_talksIn_5 : decode cX5_talksIn 5 = .ok (.aload_n 0, 1) := by decide +kernel
theorem dX5_talksIn_6 : decode cX5_talksIn 6 = .ok (.getfield 7, 3) := by decide +kernel
theorem dX5_talksIn_9 : decode cX5_talksIn 9 = .ok (.iconst 1, 1) := by decide +kernel
theorem dX5_talksIn_10 : decode cX5_talksIn 10 = .ok (.iaload, 1) := by decide +kernel
theorem dX5_talksIn_11 : decode cX5_talksIn 11 = .ok (.if_icmp .ge 29, 3) := by decide +kernel
theorem dX5_talksIn_14 : decode cX5_talksIn 14 = .ok (.iload_n 2, 1) := by decide +kernel
theorem dX5_talksIn_15 : decode cX5_talksIn 15 = .ok (.aload_n 0, 1) := by decide +kernel
theorem dX5_talksIn_16 : decode cX5_talksIn 16 = .ok (.iload_n 3, 1) := by decide +kernel
theorem dX5_talksIn_17 : decode cX5_talksIn 17 = .ok (.iconst 3, 1) := by decide +kernel
theorem dX5_talksIn_18 : decode cX5_talksIn 18 = .ok (.invokevirtual 34, 3) := by decide +kernel
theorem dX5_talksIn_21 : decode cX5_talksIn 21 = .ok (.iload_n 1, 1) := by decide +kernel
theorem dX5_talksIn_22 : decode cX5_talksIn 22 = .ok (.if_icmp .ne 9, 3) := by decide +kernel
theorem dX5_talksIn_25 : decode cX5_talksIn 25 = .ok (.iconst 1, 1) := by decide +kernel
theorem dX5_talksIn_26 : decode cX5_talksIn 26 = .ok (.iload_n 3, 1) := by decide +kernel
theorem dX5_talksIn_27 : decode cX5_talksIn 27 = .ok (.ishl, 1) := by decide +kernel
theorem dX5_talksIn_28 : decode cX5_talksIn 28 = .ok (.goto 4, 3) := by decide +kernel
theorem dX5_talksIn_31 : decode cX5_talksIn 31 = .ok (.iconst 0, 1) := by decide +kernel
theorem dX5_talksIn_32 : decode cX5_talksIn 32 = .ok (.ior, 1) := by decide +kernel
theorem dX5_talksIn_33 : decode cX5_talksIn 33 = .ok (.istore_n 2, 1) := by decide +kernel
theorem dX5_talksIn_34 : decode cX5_talksIn 34 = .ok (.iinc 3 1, 3) := by decide +kernel
theorem dX5_talksIn_37 : decode cX5_talksIn 37 = .ok (.goto (-33), 3) := by decide +kernel
theorem dX5_talksIn_40 : decode cX5_talksIn 40 = .ok (.iload_n 2, 1) := by decide +kernel
theorem dX5_talksIn_41 : decode cX5_talksIn 41 = .ok (.ireturn, 1) := by decide +kernel
theorem dX5_close_0 : decode cX5_close 0 = .ok (.aload_n 0, 1) := by decide +kernel
theorem dX5_close_1 : decode cX5_close 1 = .ok (.iconst 0, 1) := by decide +kernel
theorem dX5_close_2 : decode cX5_close 2 = .ok (.putfield 26, 3) := by decide +kernel
theorem dX5_close_5 : decode cX5_close 5 = .ok (.iload_n 1, 1) := by decide +kernel
theorem dX5_close_6 : decode cX5_close 6 = .ok (.invokestatic 93, 3) := by decide +kernel
theorem dX5_close_9 : decode cX5_close 9 = .ok (.ifCond .ne 6, 3) := by decide +kernel
theorem dX5_close_12 : decode cX5_close 12 = .ok (.ldc 67, 2) := by decide +kernel
theorem dX5_close_14 : decode cX5_close 14 = .ok (.ireturn, 1) := by decide +kernel
theorem dX5_close_15 : decode cX5_close 15 = .ok (.aload_n 0, 1) := by decide +kernel
theorem dX5_close_16 : decode cX5_close 16 = .ok (.iload_n 1, 1) := by decide +kernel
theorem dX5_close_17 : decode cX5_close 17 = .ok (.invokevirtual 56, 3) := by decide +kernel
theorem dX5_close_20 : decode cX5_close 20 = .ok (.ifCond .eq 11, 3) := by decide +kernel
theorem dX5_close_23 : decode cX5_close 23 = .ok (.aload_n 0, 1) := by decide +kernel
theorem dX5_close_24 : decode cX5_close 24 = .ok (.iload_n 1, 1) := by decide +kernel
theorem dX5_close_25 : decode cX5_close 25 = .ok (.invokevirtual 106, 3) := by decide +kernel
theorem dX5_close_28 : decode cX5_close 28 = .ok (.ifCond .eq 6, 3) := by decide +kernel
theorem dX5_close_31 : decode cX5_close 31 = .ok (.ldc 72, 2) := by decide +kernel
theorem dX5_close_33 : decode cX5_close 33 = .ok (.ireturn, 1) := by decide +kernel
theorem dX5_close_34 : decode cX5_close 34 = .ok (.aload_n 0, 1) := by decide +kernel
theorem dX5_close_35 : decode cX5_close 35 = .ok (.invokevirtual 81, 3) := by decide +kernel
theorem dX5_close_38 : decode cX5_close 38 = .ok (.aload_n 0, 1) := by decide +kernel
theorem dX5_close_39 : decode cX5_close 39 = .ok (.getfield 7, 3) := by decide +kernel
theorem dX5_close_42 : decode cX5_close 42 = .ok (.iconst 5, 1) := by decide +kernel
theorem dX5_close_43 : decode cX5_close 43 = .ok (.iconst 3, 1) := by decide +kernel
theorem dX5_close_44 : decode cX5_close 44 = .ok (.iload_n 1, 1) := by decide +kernel
theorem dX5_close_45 : decode cX5_close 45 = .ok (.imul, 1) := by decide +kernel
theorem dX5_close_46 : decode cX5_close 46 = .ok (.iadd, 1) := by decide +kernel
theorem dX5_close_47 : decode cX5_close 47 = .ok (.iconst 2, 1) := by decide +kernel
theorem dX5_close_48 : decode cX5_close 48 = .ok (.iadd, 1) := by decide +kernel
theorem dX5_close_49 : decode cX5_close 49 = .ok (.iconst 0, 1) := by decide +kernel
theorem dX5_close_50 : decode cX5_close 50 = .ok (.iastore, 1) := by decide +kernel
theorem dX5_close_51 : decode cX5_close 51 = .ok (.aload_n 0, 1) := by decide +kernel
theorem dX5_close_52 : decode cX5_close 52 = .ok (.invokevirtual 109, 3) := by decide +kernel
theorem dX5_close_55 : decode cX5_close 55 = .ok (.ireturn, 1) := by decide +kernel
theorem dX5_nextTalk_0 : decode cX5_nextTalk 0 = .ok (.iconst (-1), 1) := by decide +kernel
theorem dX5_nextTalk_1 : decode cX5_nextTalk 1 = .ok (.istore_n 1, 1) := by decide +kernel
theorem dX5_nextTalk_2 : decode cX5_nextTalk 2 = .ok (.iconst 0, 1) := by decide +kernel
theorem dX5_nextTalk_3 : decode cX5_nextTalk 3 = .ok (.istore_n 2, 1) := by decide +kernel
theorem dX5_nextTalk_4 : decode cX5_nextTalk 4 = .ok (.iload_n 2, 1) := by decide +kernel
theorem dX5_nextTalk_5 : decode cX5_nextTalk 5 = .ok (.aload_n 0, 1) := by decide +kernel
theorem dX5_nextTalk_6 : decode cX5_nextTalk 6 = .ok (.getfield 7, 3) := by decide +kernel
theorem dX5_nextTalk_9 : decode cX5_nextTalk 9 = .ok (.iconst 1, 1) := by decide +kernel
theorem dX5_nextTalk_10 : decode cX5_nextTalk 10 = .ok (.iaload, 1) := by decide +kernel
theorem dX5_nextTalk_11 : decode cX5_nextTalk 11 = .ok (.if_icmp .ge 71, 3) := by decide +kernel
theorem dX5_nextTalk_14 : decode cX5_nextTalk 14 = .ok (.aload_n 0, 1) := by decide +kernel
theorem dX5_nextTalk_15 : decode cX5_nextTalk 15 = .ok (.getfield 13, 3) := by decide +kernel
theorem dX5_nextTalk_18 : decode cX5_nextTalk 18 = .ok (.bipush 29, 2) := by decide +kernel
theorem dX5_nextTalk_20 : decode cX5_nextTalk 20 = .ok (.iconst 4, 1) := by decide +kernel
theorem dX5_nextTalk_21 : decode cX5_nextTalk 21 = .ok (.iload_n 2, 1) := by decide +kernel
theorem dX5_nextTalk_22 : decode cX5_nextTalk 22 = .ok (.imul, 1) := by decide +kernel
theorem dX5_nextTalk_23 : decode cX5_nextTalk 23 = .ok (.iadd, 1) := by decide +kernel
theorem dX5_nextTalk_24 : decode cX5_nextTalk 24 = .ok (.iconst 3, 1) := by decide +kernel
theorem dX5_nextTalk_25 : decode cX5_nextTalk 25 = .ok (.iadd, 1) := by decide +kernel
theorem dX5_nextTalk_26 : decode cX5_nextTalk 26 = .ok (.iaload, 1) := by decide +kernel
theorem dX5_nextTalk_27 : decode cX5_nextTalk 27 = .ok (.iconst (-1), 1) := by decide +kernel
theorem dX5_nextTalk_28 : decode cX5_nextTalk 28 = .ok (.if_icmp .eq 16, 3) := by decide +kernel
theorem dX5_nextTalk_31 : decode cX5_nextTalk 31 = .ok (.aload_n 0, 1) := by decide +kernel
theorem dX5_nextTalk_32 : decode cX5_nextTalk 32 = .ok (.getfield 22, 3) := by decide +kernel
theorem dX5_nextTalk_35 : decode cX5_nextTalk 35 = .ok (.iload_n 2, 1) := by decide +kernel
theorem dX5_nextTalk_36 : decode cX5_nextTalk 36 = .ok (.baload, 1) := by decide +kernel
theorem dX5_nextTalk_37 : decode cX5_nextTalk 37 = .ok (.ifCond .ne 7, 3) := by decide +kernel
theorem dX5_nextTalk_40 : decode cX5_nextTalk 40 = .ok (.iconst 1, 1) := by decide +kernel
theorem dX5_nextTalk_41 : decode cX5_nextTalk 41 = .ok (.goto 4, 3) := by decide +kernel
theorem dX5_nextTalk_44 : decode cX5_nextTalk 44 = .ok (.iconst 0, 1) := by decide +kernel
theorem dX5_nextTalk_45 : decode cX5_nextTalk 45 = .ok (.istore_n 3, 1) := by decide +kernel
theorem dX5_nextTalk_46 : decode cX5_nextTalk 46 = .ok (.iload_n 3, 1) := by decide +kernel
theorem dX5_nextTalk_47 : decode cX5_nextTalk 47 = .ok (.ifCond .eq 27, 3) := by decide +kernel
theorem dX5_nextTalk_50 : decode cX5_nextTalk 50 = .ok (.iload_n 1, 1) := by decide +kernel
theorem dX5_nextTalk_51 : decode cX5_nextTalk 51 = .ok (.iconst (-1), 1) := by decide +kernel
theorem dX5_nextTalk_52 : decode cX5_nextTalk 52 = .ok (.if_icmp .eq 18, 3) := by decide +kernel
theorem dX5_nextTalk_55 : decode cX5_nextTalk 55 = .ok (.aload_n 0, 1) := by decide +kernel
theorem dX5_nextTalk_56 : decode cX5_nextTalk 56 = .ok (.iload_n 2, 1) := by decide +kernel
theorem dX5_nextTalk_57 : decode cX5_nextTalk 57 = .ok (.iconst 0, 1) := by decide +kernel
theorem dX5_nextTalk_58 : decode cX5_nextTalk 58 = .ok (.invokevirtual 34, 3) := by decide +kernel
theorem dX5_nextTalk_61 : decode cX5_nextTalk 61 = .ok (.aload_n 0, 1) := by decide +kernel
theorem dX5_nextTalk_62 : decode cX5_nextTalk 62 = .ok (.iload_n 1, 1) := by decide +kernel
theorem dX5_nextTalk_63 : decode cX5_nextTalk 63 = .ok (.iconst 0, 1) := by decide +kernel
theorem dX5_nextTalk_64 : decode cX5_nextTalk 64 = .ok (.invokevirtual 34, 3) := by decide +kernel
theorem dX5_nextTalk_67 : decode cX5_nextTalk 67 = .ok (.if_icmp .ge 7, 3) := by decide +kernel
theorem dX5_nextTalk_70 : decode cX5_nextTalk 70 = .ok (.iload_n 2, 1) := by decide +kernel
theorem dX5_nextTalk_71 : decode cX5_nextTalk 71 = .ok (.goto 4, 3) := by decide +kernel
theorem dX5_nextTalk_74 : decode cX5_nextTalk 74 = .ok (.iload_n 1, 1) := by decide +kernel
theorem dX5_nextTalk_75 : decode cX5_nextTalk 75 = .ok (.istore_n 1, 1) := by decide +kernel
theorem dX5_nextTalk_76 : decode cX5_nextTalk 76 = .ok (.iinc 2 1, 3) := by decide +kernel
theorem dX5_nextTalk_79 : decode cX5_nextTalk 79 = .ok (.goto (-75), 3) := by decide +kernel
theorem dX5_nextTalk_82 : decode cX5_nextTalk 82 = .ok (.iload_n 1, 1) := by decide +kernel
theorem dX5_nextTalk_83 : decode cX5_nextTalk 83 = .ok (.ireturn, 1) := by decide +kernel
theorem dX5_tellsAnew_0 : decode cX5_tellsAnew 0 = .ok (.aload_n 0, 1) := by decide +kernel
theorem dX5_tellsAnew_1 : decode cX5_tellsAnew 1 = .ok (.invokevirtual 113, 3) := by decide +kernel
theorem dX5_tellsAnew_4 : decode cX5_tellsAnew 4 = .ok (.aload_n 0, 1) := by decide +kernel
theorem dX5_tellsAnew_5 : decode cX5_tellsAnew 5 = .ok (.getfield 7, 3) := by decide +kernel
theorem dX5_tellsAnew_8 : decode cX5_tellsAnew 8 = .ok (.iconst 3, 1) := by decide +kernel
theorem dX5_tellsAnew_9 : decode cX5_tellsAnew 9 = .ok (.iaload, 1) := by decide +kernel
theorem dX5_tellsAnew_10 : decode cX5_tellsAnew 10 = .ok (.istore_n 2, 1) := by decide +kernel
theorem dX5_tellsAnew_11 : decode cX5_tellsAnew 11 = .ok (.aload_n 0, 1) := by decide +kernel
theorem dX5_tellsAnew_12 : decode cX5_tellsAnew 12 = .ok (.getfield 7, 3) := by decide +kernel
theorem dX5_tellsAnew_15 : decode cX5_tellsAnew 15 = .ok (.iconst 2, 1) := by decide +kernel
theorem dX5_tellsAnew_16 : decode cX5_tellsAnew 16 = .ok (.iaload, 1) := by decide +kernel
theorem dX5_tellsAnew_17 : decode cX5_tellsAnew 17 = .ok (.istore_n 3, 1) := by decide +kernel
theorem dX5_tellsAnew_18 : decode cX5_tellsAnew 18 = .ok (.aload_n 0, 1) := by decide +kernel
theorem dX5_tellsAnew_19 : decode cX5_tellsAnew 19 = .ok (.iconst 0, 1) := by decide +kernel
theorem dX5_tellsAnew_20 : decode cX5_tellsAnew 20 = .ok (.putfield 116, 3) := by decide +kernel
theorem dX5_tellsAnew_23 : decode cX5_tellsAnew 23 = .ok (.iconst 0, 1) := by decide +kernel
theorem dX5_tellsAnew_24 : decode cX5_tellsAnew 24 = .ok (.istore 4, 2) := by decide +kernel
theorem dX5_tellsAnew_26 : decode cX5_tellsAnew 26 = .ok (.iload 4, 2) := by decide +kernel
theorem dX5_tellsAnew_28 : decode cX5_tellsAnew 28 = .ok (.bipush 8, 2) := by decide +kernel
theorem dX5_tellsAnew_30 : decode cX5_tellsAnew 30 = .ok (.if_icmp .ge 23, 3) := by decide +kernel
theorem dX5_tellsAnew_33 : decode cX5_tellsAnew 33 = .ok (.aload_n 0, 1) := by decide +kernel
theorem dX5_tellsAnew_34 : decode cX5_tellsAnew 34 = .ok (.getfield 7, 3) := by decide +kernel
theorem dX5_tellsAnew_37 : decode cX5_tellsAnew 37 = .ok (.iconst 5, 1) := by decide +kernel
theorem dX5_tellsAnew_38 : decode cX5_tellsAnew 38 = .ok (.iconst 3, 1) := by decide +kernel
theorem dX5_tellsAnew_39 : decode cX5_tellsAnew 39 = .ok (.iload 4, 2) := by decide +kernel
theorem dX5_tellsAnew_41 : decode cX5_tellsAnew 41 = .ok (.imul, 1) := by decide +kernel
theorem dX5_tellsAnew_42 : decode cX5_tellsAnew 42 = .ok (.iadd, 1) := by decide +kernel
theorem dX5_tellsAnew_43 : decode cX5_tellsAnew 43 = .ok (.iconst 2, 1) := by decide +kernel
theorem dX5_tellsAnew_44 : decode cX5_tellsAnew 44 = .ok (.iadd, 1) := by decide +kernel
theorem dX5_tellsAnew_45 : decode cX5_tellsAnew 45 = .ok (.iconst 0, 1) := by decide +kernel
theorem dX5_tellsAnew_46 : decode cX5_tellsAnew 46 = .ok (.iastore, 1) := by decide +kernel
theorem dX5_tellsAnew_47 : decode cX5_tellsAnew 47 = .ok (.iinc 4 1, 3) := by decide +kernel
theorem dX5_tellsAnew_50 : decode cX5_tellsAnew 50 = .ok (.goto (-24), 3) := by decide +kernel
theorem dX5_tellsAnew_53 : decode cX5_tellsAnew 53 = .ok (.iconst 0, 1) := by decide +kernel
theorem dX5_tellsAnew_54 : decode cX5_tellsAnew 54 = .ok (.istore 4, 2) := by decide +kernel
theorem dX5_tellsAnew_56 : decode cX5_tellsAnew 56 = .ok (.iload 4, 2) := by decide +kernel
theorem dX5_tellsAnew_58 : decode cX5_tellsAnew 58 = .ok (.bipush 20, 2) := by decide +kernel
theorem dX5_tellsAnew_60 : decode cX5_tellsAnew 60 = .ok (.if_icmp .ge 32, 3) := by decide +kernel
theorem dX5_tellsAnew_63 : decode cX5_tellsAnew 63 = .ok (.aload_n 0, 1) := by decide +kernel
theorem dX5_tellsAnew_64 : decode cX5_tellsAnew 64 = .ok (.getfield 22, 3) := by decide +kernel
theorem dX5_tellsAnew_67 : decode cX5_tellsAnew 67 = .ok (.iload 4, 2) := by decide +kernel
theorem dX5_tellsAnew_69 : decode cX5_tellsAnew 69 = .ok (.iconst 0, 1) := by decide +kernel
theorem dX5_tellsAnew_70 : decode cX5_tellsAnew 70 = .ok (.bastore, 1) := by decide +kernel
theorem dX5_tellsAnew_71 : decode cX5_tellsAnew 71 = .ok (.aload_n 0, 1) := by decide +kernel
theorem dX5_tellsAnew_72 : decode cX5_tellsAnew 72 = .ok (.getfield 7, 3) := by decide +kernel
theorem dX5_tellsAnew_75 : decode cX5_tellsAnew 75 = .ok (.bipush 29, 2) := by decide +kernel
theorem dX5_tellsAnew_77 : decode cX5_tellsAnew 77 = .ok (.iconst 4, 1) := by decide +kernel
theorem dX5_tellsAnew_78 : decode cX5_tellsAnew 78 = .ok (.iload 4, 2) := by decide +kernel
theorem dX5_tellsAnew_80 : decode cX5_tellsAnew 80 = .ok (.imul, 1) := by decide +kernel
theorem dX5_tellsAnew_81 : decode cX5_tellsAnew 81 = .ok (.iadd, 1) := by decide +kernel
theorem dX5_tellsAnew_82 : decode cX5_tellsAnew 82 = .ok (.iconst 3, 1) := by decide +kernel
theorem dX5_tellsAnew_83 : decode cX5_tellsAnew 83 = .ok (.iadd, 1) := by decide +kernel
theorem dX5_tellsAnew_84 : decode cX5_tellsAnew 84 = .ok (.iconst (-1), 1) := by decide +kernel
theorem dX5_tellsAnew_85 : decode cX5_tellsAnew 85 = .ok (.iastore, 1) := by decide +kernel
theorem dX5_tellsAnew_86 : decode cX5_tellsAnew 86 = .ok (.iinc 4 1, 3) := by decide +kernel
theorem dX5_tellsAnew_89 : decode cX5_tellsAnew 89 = .ok (.goto (-33), 3) := by decide +kernel
theorem dX5_tellsAnew_92 : decode cX5_tellsAnew 92 = .ok (.aload_n 0, 1) := by decide +kernel
theorem dX5_tellsAnew_93 : decode cX5_tellsAnew 93 = .ok (.invokevirtual 119, 3) := by decide +kernel
theorem dX5_tellsAnew_96 : decode cX5_tellsAnew 96 = .ok (.istore 4, 2) := by decide +kernel
theorem dX5_tellsAnew_98 : decode cX5_tellsAnew 98 = .ok (.iload 4, 2) := by decide +kernel
theorem dX5_tellsAnew_100 : decode cX5_tellsAnew 100 = .ok (.iconst (-1), 1) := by decide +kernel
theorem dX5_tellsAnew_101 : decode cX5_tellsAnew 101 = .ok (.if_icmp .eq 111, 3) := by decide +kernel
theorem dX5_tellsAnew_104 : decode cX5_tellsAnew 104 = .ok (.aload_n 0, 1) := by decide +kernel
theorem dX5_tellsAnew_105 : decode cX5_tellsAnew 105 = .ok (.aload_n 0, 1) := by decide +kernel
theorem dX5_tellsAnew_106 : decode cX5_tellsAnew 106 = .ok (.iload 4, 2) := by decide +kernel
theorem dX5_tellsAnew_108 : decode cX5_tellsAnew 108 = .ok (.iconst 0, 1) := by decide +kernel
theorem dX5_tellsAnew_109 : decode cX5_tellsAnew 109 = .ok (.invokevirtual 34, 3) := by decide +kernel
theorem dX5_tellsAnew_112 : decode cX5_tellsAnew 112 = .ok (.aload_n 0, 1) := by decide +kernel
theorem dX5_tellsAnew_113 : decode cX5_tellsAnew 113 = .ok (.iload 4, 2) := by decide +kernel
theorem dX5_tellsAnew_115 : decode cX5_tellsAnew 115 = .ok (.iconst 1, 1) := by decide +kernel
theorem dX5_tellsAnew_116 : decode cX5_tellsAnew 116 = .ok (.invokevirtual 34, 3) := by decide +kernel
theorem dX5_tellsAnew_119 : decode cX5_tellsAnew 119 = .ok (.aload_n 0, 1) := by decide +kernel
theorem dX5_tellsAnew_120 : decode cX5_tellsAnew 120 = .ok (.iload 4, 2) := by decide +kernel
theorem dX5_tellsAnew_122 : decode cX5_tellsAnew 122 = .ok (.iconst 2, 1) := by decide +kernel
theorem dX5_tellsAnew_123 : decode cX5_tellsAnew 123 = .ok (.invokevirtual 34, 3) := by decide +kernel
theorem dX5_tellsAnew_126 : decode cX5_tellsAnew 126 = .ok (.iload_n 1, 1) := by decide +kernel
theorem dX5_tellsAnew_127 : decode cX5_tellsAnew 127 = .ok (.invokevirtual 68, 3) := by decide +kernel
theorem dX5_tellsAnew_130 : decode cX5_tellsAnew 130 = .ok (.istore 5, 2) := by decide +kernel
theorem dX5_tellsAnew_132 : decode cX5_tellsAnew 132 = .ok (.iload 5, 2) := by decide +kernel
theorem dX5_tellsAnew_134 : decode cX5_tellsAnew 134 = .ok (.iconst (-1), 1) := by decide +kernel
theorem dX5_tellsAnew_135 : decode cX5_tellsAnew 135 = .ok (.if_icmp .ne 5, 3) := by decide +kernel
theorem dX5_tellsAnew_138 : decode cX5_tellsAnew 138 = .ok (.iconst 0, 1) := by decide +kernel
theorem dX5_tellsAnew_139 : decode cX5_tellsAnew 139 = .ok (.ireturn, 1) := by decide +kernel
theorem dX5_tellsAnew_140 : decode cX5_tellsAnew 140 = .ok (.aload_n 0, 1) := by decide +kernel
theorem dX5_tellsAnew_141 : decode cX5_tellsAnew 141 = .ok (.getfield 22, 3) := by decide +kernel
theorem dX5_tellsAnew_144 : decode cX5_tellsAnew 144 = .ok (.iload 4, 2) := by decide +kernel
theorem dX5_tellsAnew_146 : decode cX5_tellsAnew 146 = .ok (.iconst 1, 1) := by decide +kernel
theorem dX5_tellsAnew_147 : decode cX5_tellsAnew 147 = .ok (.bastore, 1) := by decide +kernel
theorem dX5_tellsAnew_148 : decode cX5_tellsAnew 148 = .ok (.aload_n 0, 1) := by decide +kernel
theorem dX5_tellsAnew_149 : decode cX5_tellsAnew 149 = .ok (.getfield 7, 3) := by decide +kernel
theorem dX5_tellsAnew_152 : decode cX5_tellsAnew 152 = .ok (.bipush 29, 2) := by decide +kernel
theorem dX5_tellsAnew_154 : decode cX5_tellsAnew 154 = .ok (.iconst 4, 1) := by decide +kernel
theorem dX5_tellsAnew_155 : decode cX5_tellsAnew 155 = .ok (.iload 4, 2) := by decide +kernel
theorem dX5_tellsAnew_157 : decode cX5_tellsAnew 157 = .ok (.imul, 1) := by decide +kernel
theorem dX5_tellsAnew_158 : decode cX5_tellsAnew 158 = .ok (.iadd, 1) := by decide +kernel
theorem dX5_tellsAnew_159 : decode cX5_tellsAnew 159 = .ok (.iconst 3, 1) := by decide +kernel
theorem dX5_tellsAnew_160 : decode cX5_tellsAnew 160 = .ok (.iadd, 1) := by decide +kernel
theorem dX5_tellsAnew_161 : decode cX5_tellsAnew 161 = .ok (.iload 5, 2) := by decide +kernel
theorem dX5_tellsAnew_163 : decode cX5_tellsAnew 163 = .ok (.iastore, 1) := by decide +kernel
theorem dX5_tellsAnew_164 : decode cX5_tellsAnew 164 = .ok (.aload_n 0, 1) := by decide +kernel
theorem dX5_tellsAnew_165 : decode cX5_tellsAnew 165 = .ok (.iload 5, 2) := by decide +kernel
theorem dX5_tellsAnew_167 : decode cX5_tellsAnew 167 = .ok (.invokevirtual 74, 3) := by decide +kernel
theorem dX5_tellsAnew_170 : decode cX5_tellsAnew 170 = .ok (.aload_n 0, 1) := by decide +kernel
theorem dX5_tellsAnew_171 : decode cX5_tellsAnew 171 = .ok (.dup, 1) := by decide +kernel
theorem dX5_tellsAnew_172 : decode cX5_tellsAnew 172 = .ok (.getfield 116, 3) := by decide +kernel
theorem dX5_tellsAnew_175 : decode cX5_tellsAnew 175 = .ok (.aload_n 0, 1) := by decide +kernel
theorem dX5_tellsAnew_176 : decode cX5_tellsAnew 176 = .ok (.getfield 13, 3) := by decide +kernel
theorem dX5_tellsAnew_179 : decode cX5_tellsAnew 179 = .ok (.bipush 29, 2) := by decide +kernel
theorem dX5_tellsAnew_181 : decode cX5_tellsAnew 181 = .ok (.iconst 4, 1) := by decide +kernel
theorem dX5_tellsAnew_182 : decode cX5_tellsAnew 182 = .ok (.iload 4, 2) := by decide +kernel
theorem dX5_tellsAnew_184 : decode cX5_tellsAnew 184 = .ok (.imul, 1) := by decide +kernel
theorem dX5_tellsAnew_185 : decode cX5_tellsAnew 185 = .ok (.iadd, 1) := by decide +kernel
theorem dX5_tellsAnew_186 : decode cX5_tellsAnew 186 = .ok (.iconst 3, 1) := by decide +kernel
theorem dX5_tellsAnew_187 : decode cX5_tellsAnew 187 = .ok (.iadd, 1) := by decide +kernel
theorem dX5_tellsAnew_188 : decode cX5_tellsAnew 188 = .ok (.iaload, 1) := by decide +kernel
theorem dX5_tellsAnew_189 : decode cX5_tellsAnew 189 = .ok (.iload 5, 2) := by decide +kernel
theorem dX5_tellsAnew_191 : decode cX5_tellsAnew 191 = .ok (.if_icmp .ne 7, 3) := by decide +kernel
theorem dX5_tellsAnew_194 : decode cX5_tellsAnew 194 = .ok (.iconst 0, 1) := by decide +kernel
theorem dX5_tellsAnew_195 : decode cX5_tellsAnew 195 = .ok (.goto 4, 3) := by decide +kernel
theorem dX5_tellsAnew_198 : decode cX5_tellsAnew 198 = .ok (.iconst 1, 1) := by decide +kernel
theorem dX5_tellsAnew_199 : decode cX5_tellsAnew 199 = .ok (.iadd, 1) := by decide +kernel
theorem dX5_tellsAnew_200 : decode cX5_tellsAnew 200 = .ok (.putfield 116, 3) := by decide +kernel
theorem dX5_tellsAnew_203 : decode cX5_tellsAnew 203 = .ok (.aload_n 0, 1) := by decide +kernel
theorem dX5_tellsAnew_204 : decode cX5_tellsAnew 204 = .ok (.invokevirtual 119, 3) := by decide +kernel
theorem dX5_tellsAnew_207 : decode cX5_tellsAnew 207 = .ok (.istore 4, 2) := by decide +kernel
theorem dX5_tellsAnew_209 : decode cX5_tellsAnew 209 = .ok (.goto (-111), 3) := by decide +kernel
theorem dX5_tellsAnew_212 : decode cX5_tellsAnew 212 = .ok (.aload_n 0, 1) := by decide +kernel
theorem dX5_tellsAnew_213 : decode cX5_tellsAnew 213 = .ok (.aload_n 0, 1) := by decide +kernel
theorem dX5_tellsAnew_214 : decode cX5_tellsAnew 214 = .ok (.getfield 7, 3) := by decide +kernel
theorem dX5_tellsAnew_217 : decode cX5_tellsAnew 217 = .ok (.iconst 3, 1) := by decide +kernel
theorem dX5_tellsAnew_218 : decode cX5_tellsAnew 218 = .ok (.iaload, 1) := by decide +kernel
theorem dX5_tellsAnew_219 : decode cX5_tellsAnew 219 = .ok (.iload_n 2, 1) := by decide +kernel
theorem dX5_tellsAnew_220 : decode cX5_tellsAnew 220 = .ok (.isub, 1) := by decide +kernel
theorem dX5_tellsAnew_221 : decode cX5_tellsAnew 221 = .ok (.putfield 122, 3) := by decide +kernel
theorem dX5_tellsAnew_224 : decode cX5_tellsAnew 224 = .ok (.aload_n 0, 1) := by decide +kernel
theorem dX5_tellsAnew_225 : decode cX5_tellsAnew 225 = .ok (.aload_n 0, 1) := by decide +kernel
theorem dX5_tellsAnew_226 : decode cX5_tellsAnew 226 = .ok (.getfield 7, 3) := by decide +kernel
theorem dX5_tellsAnew_229 : decode cX5_tellsAnew 229 = .ok (.iconst 2, 1) := by decide +kernel
theorem dX5_tellsAnew_230 : decode cX5_tellsAnew 230 = .ok (.iaload, 1) := by decide +kernel
theorem dX5_tellsAnew_231 : decode cX5_tellsAnew 231 = .ok (.iload_n 3, 1) := by decide +kernel
theorem dX5_tellsAnew_232 : decode cX5_tellsAnew 232 = .ok (.isub, 1) := by decide +kernel
theorem dX5_tellsAnew_233 : decode cX5_tellsAnew 233 = .ok (.putfield 125, 3) := by decide +kernel
theorem dX5_tellsAnew_236 : decode cX5_tellsAnew 236 = .ok (.iconst 1, 1) := by decide +kernel
theorem dX5_tellsAnew_237 : decode cX5_tellsAnew 237 = .ok (.ireturn, 1) := by decide +kernel
theorem dX5_priceBy_0 : decode cX5_priceBy 0 = .ok (.aload_n 0, 1) := by decide +kernel
theorem dX5_priceBy_1 : decode cX5_priceBy 1 = .ok (.iload_n 1, 1) := by decide +kernel
theorem dX5_priceBy_2 : decode cX5_priceBy 2 = .ok (.invokevirtual 128, 3) := by decide +kernel
theorem dX5_priceBy_5 : decode cX5_priceBy 5 = .ok (.istore_n 2, 1) := by decide +kernel
theorem dX5_priceBy_6 : decode cX5_priceBy 6 = .ok (.aload_n 0, 1) := by decide +kernel
theorem dX5_priceBy_7 : decode cX5_priceBy 7 = .ok (.invokevirtual 131, 3) := by decide +kernel
theorem dX5_priceBy_10 : decode cX5_priceBy 10 = .ok (.iload_n 2, 1) := by decide +kernel
theorem dX5_priceBy_11 : decode cX5_priceBy 11 = .ok (.ifCond .eq 10, 3) := by decide +kernel
theorem dX5_priceBy_14 : decode cX5_priceBy 14 = .ok (.aload_n 0, 1) := by decide +kernel
theorem dX5_priceBy_15 : decode cX5_priceBy 15 = .ok (.getfield 122, 3) := by decide +kernel
theorem dX5_priceBy_18 : decode cX5_priceBy 18 = .ok (.goto 5, 3) := by decide +kernel
theorem dX5_priceBy_21 : decode cX5_priceBy 21 = .ok (.ldc 72, 2) := by decide +kernel
theorem dX5_priceBy_23 : decode cX5_priceBy 23 = .ok (.ireturn, 1) := by decide +kernel
theorem dX5_anew_0 : decode cX5_anew 0 = .ok (.aload_n 0, 1) := by decide +kernel
theorem dX5_anew_1 : decode cX5_anew 1 = .ok (.iconst 0, 1) := by decide +kernel
theorem dX5_anew_2 : decode cX5_anew 2 = .ok (.putfield 26, 3) := by decide +kernel
theorem dX5_anew_5 : decode cX5_anew 5 = .ok (.aload_n 0, 1) := by decide +kernel
theorem dX5_anew_6 : decode cX5_anew 6 = .ok (.aload_n 0, 1) := by decide +kernel
theorem dX5_anew_7 : decode cX5_anew 7 = .ok (.getfield 7, 3) := by decide +kernel
theorem dX5_anew_10 : decode cX5_anew 10 = .ok (.iconst 0, 1) := by decide +kernel
theorem dX5_anew_11 : decode cX5_anew 11 = .ok (.iaload, 1) := by decide +kernel
theorem dX5_anew_12 : decode cX5_anew 12 = .ok (.invokevirtual 134, 3) := by decide +kernel
theorem dX5_anew_15 : decode cX5_anew 15 = .ok (.ldc 72, 2) := by decide +kernel
theorem dX5_anew_17 : decode cX5_anew 17 = .ok (.if_icmp .ne 6, 3) := by decide +kernel
theorem dX5_anew_20 : decode cX5_anew 20 = .ok (.ldc 72, 2) := by decide +kernel
theorem dX5_anew_22 : decode cX5_anew 22 = .ok (.ireturn, 1) := by decide +kernel
theorem dX5_anew_23 : decode cX5_anew 23 = .ok (.aload_n 0, 1) := by decide +kernel
theorem dX5_anew_24 : decode cX5_anew 24 = .ok (.invokevirtual 81, 3) := by decide +kernel
theorem dX5_anew_27 : decode cX5_anew 27 = .ok (.aload_n 0, 1) := by decide +kernel
theorem dX5_anew_28 : decode cX5_anew 28 = .ok (.aload_n 0, 1) := by decide +kernel
theorem dX5_anew_29 : decode cX5_anew 29 = .ok (.getfield 7, 3) := by decide +kernel
theorem dX5_anew_32 : decode cX5_anew 32 = .ok (.iconst 0, 1) := by decide +kernel
theorem dX5_anew_33 : decode cX5_anew 33 = .ok (.iaload, 1) := by decide +kernel
theorem dX5_anew_34 : decode cX5_anew 34 = .ok (.invokevirtual 128, 3) := by decide +kernel
theorem dX5_anew_37 : decode cX5_anew 37 = .ok (.pop, 1) := by decide +kernel
theorem dX5_anew_38 : decode cX5_anew 38 = .ok (.aload_n 0, 1) := by decide +kernel
theorem dX5_anew_39 : decode cX5_anew 39 = .ok (.getfield 7, 3) := by decide +kernel
theorem dX5_anew_42 : decode cX5_anew 42 = .ok (.iconst 3, 1) := by decide +kernel
theorem dX5_anew_43 : decode cX5_anew 43 = .ok (.aload_n 0, 1) := by decide +kernel
theorem dX5_anew_44 : decode cX5_anew 44 = .ok (.getfield 122, 3) := by decide +kernel
theorem dX5_anew_47 : decode cX5_anew 47 = .ok (.iastore, 1) := by decide +kernel
theorem dX5_anew_48 : decode cX5_anew 48 = .ok (.aload_n 0, 1) := by decide +kernel
theorem dX5_anew_49 : decode cX5_anew 49 = .ok (.getfield 122, 3) := by decide +kernel
theorem dX5_anew_52 : decode cX5_anew 52 = .ok (.ireturn, 1) := by decide +kernel
theorem dX5_set_0 : decode cX5_set 0 = .ok (.aload_n 0, 1) := by decide +kernel
theorem dX5_set_1 : decode cX5_set 1 = .ok (.iconst 0, 1) := by decide +kernel
theorem dX5_set_2 : decode cX5_set 2 = .ok (.putfield 26, 3) := by decide +kernel
theorem dX5_set_5 : decode cX5_set 5 = .ok (.iload_n 1, 1) := by decide +kernel
theorem dX5_set_6 : decode cX5_set 6 = .ok (.ifCond .ne 12, 3) := by decide +kernel
theorem dX5_set_9 : decode cX5_set 9 = .ok (.iload_n 2, 1) := by decide +kernel
theorem dX5_set_10 : decode cX5_set 10 = .ok (.iconst 0, 1) := by decide +kernel
theorem dX5_set_11 : decode cX5_set 11 = .ok (.iconst 3, 1) := by decide +kernel
theorem dX5_set_12 : decode cX5_set 12 = .ok (.invokestatic 30, 3) := by decide +kernel
theorem dX5_set_15 : decode cX5_set 15 = .ok (.ifCond .ne 6, 3) := by decide +kernel
theorem dX5_set_18 : decode cX5_set 18 = .ok (.ldc 67, 2) := by decide +kernel
theorem dX5_set_20 : decode cX5_set 20 = .ok (.ireturn, 1) := by decide +kernel
theorem dX5_set_21 : decode cX5_set 21 = .ok (.aload_n 0, 1) := by decide +kernel
theorem dX5_set_22 : decode cX5_set 22 = .ok (.invokevirtual 81, 3) := by decide +kernel
theorem dX5_set_25 : decode cX5_set 25 = .ok (.aload_n 0, 1) := by decide +kernel
theorem dX5_set_26 : decode cX5_set 26 = .ok (.getfield 7, 3) := by decide +kernel
theorem dX5_set_29 : decode cX5_set 29 = .ok (.iconst 0, 1) := by decide +kernel
theorem dX5_set_30 : decode cX5_set 30 = .ok (.iaload, 1) := by decide +kernel
theorem dX5_set_31 : decode cX5_set 31 = .ok (.istore_n 3, 1) := by decide +kernel
theorem dX5_set_32 : decode cX5_set 32 = .ok (.aload_n 0, 1) := by decide +kernel
theorem dX5_set_33 : decode cX5_set 33 = .ok (.getfield 7, 3) := by decide +kernel
theorem dX5_set_36 : decode cX5_set 36 = .ok (.iconst 0, 1) := by decide +kernel
theorem dX5_set_37 : decode cX5_set 37 = .ok (.iload_n 2, 1) := by decide +kernel
theorem dX5_set_38 : decode cX5_set 38 = .ok (.iastore, 1) := by decide +kernel
theorem dX5_set_39 : decode cX5_set 39 = .ok (.iload_n 3, 1) := by decide +kernel
theorem dX5_set_40 : decode cX5_set 40 = .ok (.ireturn, 1) := by decide +kernel
theorem dX5_instead_0 : decode cX5_instead 0 = .ok (.iconst 0, 1) := by decide +kernel
theorem dX5_instead_1 : decode cX5_instead 1 = .ok (.istore_n 2, 1) := by decide +kernel
theorem dX5_instead_2 : decode cX5_instead 2 = .ok (.iconst 0, 1) := by decide +kernel
theorem dX5_instead_3 : decode cX5_instead 3 = .ok (.istore_n 3, 1) := by decide +kernel
theorem dX5_instead_4 : decode cX5_instead 4 = .ok (.iload_n 3, 1) := by decide +kernel
theorem dX5_instead_5 : decode cX5_instead 5 = .ok (.bipush 8, 2) := by decide +kernel
theorem dX5_instead_7 : decode cX5_instead 7 = .ok (.if_icmp .ge 28, 3) := by decide +kernel
theorem dX5_instead_10 : decode cX5_instead 10 = .ok (.iload_n 2, 1) := by decide +kernel
theorem dX5_instead_11 : decode cX5_instead 11 = .ok (.aload_n 0, 1) := by decide +kernel
theorem dX5_instead_12 : decode cX5_instead 12 = .ok (.iload_n 1, 1) := by decide +kernel
theorem dX5_instead_13 : decode cX5_instead 13 = .ok (.iload_n 3, 1) := by decide +kernel
theorem dX5_instead_14 : decode cX5_instead 14 = .ok (.invokevirtual 96, 3) := by decide +kernel
theorem dX5_instead_17 : decode cX5_instead 17 = .ok (.ifCond .eq 9, 3) := by decide +kernel
theorem dX5_instead_20 : decode cX5_instead 20 = .ok (.iconst 1, 1) := by decide +kernel
theorem dX5_instead_21 : decode cX5_instead 21 = .ok (.iload_n 3, 1) := by decide +kernel
theorem dX5_instead_22 : decode cX5_instead 22 = .ok (.ishl, 1) := by decide +kernel
theorem dX5_instead_23 : decode cX5_instead 23 = .ok (.goto 4, 3) := by decide +kernel
theorem dX5_instead_26 : decode cX5_instead 26 = .ok (.iconst 0, 1) := by decide +kernel
theorem dX5_instead_27 : decode cX5_instead 27 = .ok (.ior, 1) := by decide +kernel
theorem dX5_instead_28 : decode cX5_instead 28 = .ok (.istore_n 2, 1) := by decide +kernel
theorem dX5_instead_29 : decode cX5_instead 29 = .ok (.iinc 3 1, 3) := by decide +kernel
theorem dX5_instead_32 : decode cX5_instead 32 = .ok (.goto (-28), 3) := by decide +kernel
theorem dX5_instead_35 : decode cX5_instead 35 = .ok (.iload_n 2, 1) := by decide +kernel
theorem dX5_instead_36 : decode cX5_instead 36 = .ok (.ireturn, 1) := by decide +kernel
theorem dX5_beside_0 : decode cX5_beside 0 = .ok (.iconst 0, 1) := by decide +kernel
theorem dX5_beside_1 : decode cX5_beside 1 = .ok (.istore_n 2, 1) := by decide +kernel
theorem dX5_beside_2 : decode cX5_beside 2 = .ok (.iconst 0, 1) := by decide +kernel
theorem dX5_beside_3 : decode cX5_beside 3 = .ok (.istore_n 3, 1) := by decide +kernel
theorem dX5_beside_4 : decode cX5_beside 4 = .ok (.iload_n 3, 1) := by decide +kernel
theorem dX5_beside_5 : decode cX5_beside 5 = .ok (.aload_n 0, 1) := by decide +kernel
theorem dX5_beside_6 : decode cX5_beside 6 = .ok (.getfield 7, 3) := by decide +kernel
theorem dX5_beside_9 : decode cX5_beside 9 = .ok (.iconst 1, 1) := by decide +kernel
theorem dX5_beside_10 : decode cX5_beside 10 = .ok (.iaload, 1) := by decide +kernel
theorem dX5_beside_11 : decode cX5_beside 11 = .ok (.if_icmp .ge 76, 3) := by decide +kernel
theorem dX5_beside_14 : decode cX5_beside 14 = .ok (.iload_n 3, 1) := by decide +kernel
theorem dX5_beside_15 : decode cX5_beside 15 = .ok (.iload_n 1, 1) := by decide +kernel
theorem dX5_beside_16 : decode cX5_beside 16 = .ok (.if_icmp .eq 47, 3) := by decide +kernel
theorem dX5_beside_19 : decode cX5_beside 19 = .ok (.aload_n 0, 1) := by decide +kernel
theorem dX5_beside_20 : decode cX5_beside 20 = .ok (.iload_n 3, 1) := by decide +kernel
theorem dX5_beside_21 : decode cX5_beside 21 = .ok (.iconst 3, 1) := by decide +kernel
theorem dX5_beside_22 : decode cX5_beside 22 = .ok (.invokevirtual 34, 3) := by decide +kernel
theorem dX5_beside_25 : decode cX5_beside 25 = .ok (.iconst (-1), 1) := by decide +kernel
theorem dX5_beside_26 : decode cX5_beside 26 = .ok (.if_icmp .eq 37, 3) := by decide +kernel
theorem dX5_beside_29 : decode cX5_beside 29 = .ok (.aload_n 0, 1) := by decide +kernel
theorem dX5_beside_30 : decode cX5_beside 30 = .ok (.iload_n 3, 1) := by decide +kernel
theorem dX5_beside_31 : decode cX5_beside 31 = .ok (.iconst 0, 1) := by decide +kernel
theorem dX5_beside_32 : decode cX5_beside 32 = .ok (.invokevirtual 34, 3) := by decide +kernel
theorem dX5_beside_35 : decode cX5_beside 35 = .ok (.aload_n 0, 1) := by decide +kernel
theorem dX5_beside_36 : decode cX5_beside 36 = .ok (.iload_n 1, 1) := by decide +kernel
theorem dX5_beside_37 : decode cX5_beside 37 = .ok (.iconst 1, 1) := by decide +kernel
theorem dX5_beside_38 : decode cX5_beside 38 = .ok (.invokevirtual 34, 3) := by decide +kernel
theorem dX5_beside_41 : decode cX5_beside 41 = .ok (.if_icmp .ge 22, 3) := by decide +kernel
theorem dX5_beside_44 : decode cX5_beside 44 = .ok (.aload_n 0, 1) := by decide +kernel
theorem dX5_beside_45 : decode cX5_beside 45 = .ok (.iload_n 1, 1) := by decide +kernel
theorem dX5_beside_46 : decode cX5_beside 46 = .ok (.iconst 0, 1) := by decide +kernel
theorem dX5_beside_47 : decode cX5_beside 47 = .ok (.invokevirtual 34, 3) := by decide +kernel
theorem dX5_beside_50 : decode cX5_beside 50 = .ok (.aload_n 0, 1) := by decide +kernel
theorem dX5_beside_51 : decode cX5_beside 51 = .ok (.iload_n 3, 1) := by decide +kernel
theorem dX5_beside_52 : decode cX5_beside 52 = .ok (.iconst 1, 1) := by decide +kernel
theorem dX5_beside_53 : decode cX5_beside 53 = .ok (.invokevirtual 34, 3) := by decide +kernel
theorem dX5_beside_56 : decode cX5_beside 56 = .ok (.if_icmp .ge 7, 3) := by decide +kernel
theorem dX5_beside_59 : decode cX5_beside 59 = .ok (.iconst 1, 1) := by decide +kernel
theorem dX5_beside_60 : decode cX5_beside 60 = .ok (.goto 4, 3) := by decide +kernel
theorem dX5_beside_63 : decode cX5_beside 63 = .ok (.iconst 0, 1) := by decide +kernel
theorem dX5_beside_64 : decode cX5_beside 64 = .ok (.istore 4, 2) := by decide +kernel
theorem dX5_beside_66 : decode cX5_beside 66 = .ok (.iload_n 2, 1) := by decide +kernel
theorem dX5_beside_67 : decode cX5_beside 67 = .ok (.iload 4, 2) := by decide +kernel
theorem dX5_beside_69 : decode cX5_beside 69 = .ok (.ifCond .eq 9, 3) := by decide +kernel
theorem dX5_beside_72 : decode cX5_beside 72 = .ok (.iconst 1, 1) := by decide +kernel
theorem dX5_beside_73 : decode cX5_beside 73 = .ok (.iload_n 3, 1) := by decide +kernel
theorem dX5_beside_74 : decode cX5_beside 74 = .ok (.ishl, 1) := by decide +kernel
theorem dX5_beside_75 : decode cX5_beside 75 = .ok (.goto 4, 3) := by decide +kernel
theorem dX5_beside_78 : decode cX5_beside 78 = .ok (.iconst 0, 1) := by decide +kernel
theorem dX5_beside_79 : decode cX5_beside 79 = .ok (.ior, 1) := by decide +kernel
theorem dX5_beside_80 : decode cX5_beside 80 = .ok (.istore_n 2, 1) := by decide +kernel
theorem dX5_beside_81 : decode cX5_beside 81 = .ok (.iinc 3 1, 3) := by decide +kernel
theorem dX5_beside_84 : decode cX5_beside 84 = .ok (.goto (-80), 3) := by decide +kernel
theorem dX5_beside_87 : decode cX5_beside 87 = .ok (.iload_n 2, 1) := by decide +kernel
theorem dX5_beside_88 : decode cX5_beside 88 = .ok (.ireturn, 1) := by decide +kernel
theorem dX5_talkOf_0 : decode cX5_talkOf 0 = .ok (.aload_n 0, 1) := by decide +kernel
theorem dX5_talkOf_1 : decode cX5_talkOf 1 = .ok (.iconst 0, 1) := by decide +kernel
theorem dX5_talkOf_2 : decode cX5_talkOf 2 = .ok (.putfield 26, 3) := by decide +kernel
theorem dX5_talkOf_5 : decode cX5_talkOf 5 = .ok (.aload_n 0, 1) := by decide +kernel
theorem dX5_talkOf_6 : decode cX5_talkOf 6 = .ok (.iload_n 1, 1) := by decide +kernel
theorem dX5_talkOf_7 : decode cX5_talkOf 7 = .ok (.invokevirtual 87, 3) := by decide +kernel
theorem dX5_talkOf_10 : decode cX5_talkOf 10 = .ok (.ifCond .eq 12, 3) := by decide +kernel
theorem dX5_talkOf_13 : decode cX5_talkOf 13 = .ok (.iload_n 2, 1) := by decide +kernel
theorem dX5_talkOf_14 : decode cX5_talkOf 14 = .ok (.iconst 0, 1) := by decide +kernel
theorem dX5_talkOf_15 : decode cX5_talkOf 15 = .ok (.iconst 5, 1) := by decide +kernel
theorem dX5_talkOf_16 : decode cX5_talkOf 16 = .ok (.invokestatic 30, 3) := by decide +kernel
theorem dX5_talkOf_19 : decode cX5_talkOf 19 = .ok (.ifCond .ne 6, 3) := by decide +kernel
theorem dX5_talkOf_22 : decode cX5_talkOf 22 = .ok (.ldc 67, 2) := by decide +kernel
theorem dX5_talkOf_24 : decode cX5_talkOf 24 = .ok (.ireturn, 1) := by decide +kernel
theorem dX5_talkOf_25 : decode cX5_talkOf 25 = .ok (.iload_n 2, 1) := by decide +kernel
theorem dX5_talkOf_26 : decode cX5_talkOf 26 = .ok (.iconst 4, 1) := by decide +kernel
theorem dX5_talkOf_27 : decode cX5_talkOf 27 = .ok (.if_icmp .ne 11, 3) := by decide +kernel
theorem dX5_talkOf_30 : decode cX5_talkOf 30 = .ok (.aload_n 0, 1) := by decide +kernel
theorem dX5_talkOf_31 : decode cX5_talkOf 31 = .ok (.iload_n 1, 1) := by decide +kernel
theorem dX5_talkOf_32 : decode cX5_talkOf 32 = .ok (.invokevirtual 137, 3) := by decide +kernel
theorem dX5_talkOf_35 : decode cX5_talkOf 35 = .ok (.goto 22, 3) := by decide +kernel
theorem dX5_talkOf_38 : decode cX5_talkOf 38 = .ok (.iload_n 2, 1) := by decide +kernel
theorem dX5_talkOf_39 : decode cX5_talkOf 39 = .ok (.iconst 5, 1) := by decide +kernel
theorem dX5_talkOf_40 : decode cX5_talkOf 40 = .ok (.if_icmp .ne 11, 3) := by decide +kernel
theorem dX5_talkOf_43 : decode cX5_talkOf 43 = .ok (.aload_n 0, 1) := by decide +kernel
theorem dX5_talkOf_44 : decode cX5_talkOf 44 = .ok (.iload_n 1, 1) := by decide +kernel
theorem dX5_talkOf_45 : decode cX5_talkOf 45 = .ok (.invokevirtual 140, 3) := by decide +kernel
theorem dX5_talkOf_48 : decode cX5_talkOf 48 = .ok (.goto 9, 3) := by decide +kernel
theorem dX5_talkOf_51 : decode cX5_talkOf 51 = .ok (.aload_n 0, 1) := by decide +kernel
theorem dX5_talkOf_52 : decode cX5_talkOf 52 = .ok (.iload_n 1, 1) := by decide +kernel
theorem dX5_talkOf_53 : decode cX5_talkOf 53 = .ok (.iload_n 2, 1) := by decide +kernel
theorem dX5_talkOf_54 : decode cX5_talkOf 54 = .ok (.invokevirtual 34, 3) := by decide +kernel
theorem dX5_talkOf_57 : decode cX5_talkOf 57 = .ok (.ireturn, 1) := by decide +kernel
theorem dX5_ones_0 : decode cX5_ones 0 = .ok (.iconst 0, 1) := by decide +kernel
theorem dX5_ones_1 : decode cX5_ones 1 = .ok (.istore_n 1, 1) := by decide +kernel
theorem dX5_ones_2 : decode cX5_ones 2 = .ok (.iconst 0, 1) := by decide +kernel
theorem dX5_ones_3 : decode cX5_ones 3 = .ok (.istore_n 2, 1) := by decide +kernel
theorem dX5_ones_4 : decode cX5_ones 4 = .ok (.iload_n 2, 1) := by decide +kernel
theorem dX5_ones_5 : decode cX5_ones 5 = .ok (.bipush 20, 2) := by decide +kernel
theorem dX5_ones_7 : decode cX5_ones 7 = .ok (.if_icmp .ge 17, 3) := by decide +kernel
theorem dX5_ones_10 : decode cX5_ones 10 = .ok (.iload_n 1, 1) := by decide +kernel
theorem dX5_ones_11 : decode cX5_ones 11 = .ok (.iload_n 0, 1) := by decide +kernel
theorem dX5_ones_12 : decode cX5_ones 12 = .ok (.iload_n 2, 1) := by decide +kernel
theorem dX5_ones_13 : decode cX5_ones 13 = .ok (.ishr, 1) := by decide +kernel
theorem dX5_ones_14 : decode cX5_ones 14 = .ok (.iconst 1, 1) := by decide +kernel
theorem dX5_ones_15 : decode cX5_ones 15 = .ok (.iand, 1) := by decide +kernel
theorem dX5_ones_16 : decode cX5_ones 16 = .ok (.iadd, 1) := by decide +kernel
theorem dX5_ones_17 : decode cX5_ones 17 = .ok (.istore_n 1, 1) := by decide +kernel
theorem dX5_ones_18 : decode cX5_ones 18 = .ok (.iinc 2 1, 3) := by decide +kernel
theorem dX5_ones_21 : decode cX5_ones 21 = .ok (.goto (-17), 3) := by decide +kernel
theorem dX5_ones_24 : decode cX5_ones 24 = .ok (.iload_n 1, 1) := by decide +kernel
theorem dX5_ones_25 : decode cX5_ones 25 = .ok (.ireturn, 1) := by decide +kernel
theorem dX5_longestFree_0 : decode cX5_longestFree 0 = .ok (.iconst 0, 1) := by decide +kernel
theorem dX5_longestFree_1 : decode cX5_longestFree 1 = .ok (.istore_n 2, 1) := by decide +kernel
theorem dX5_longestFree_2 : decode cX5_longestFree 2 = .ok (.iconst 0, 1) := by decide +kernel
theorem dX5_longestFree_3 : decode cX5_longestFree 3 = .ok (.istore_n 3, 1) := by decide +kernel
theorem dX5_longestFree_4 : decode cX5_longestFree 4 = .ok (.iconst 0, 1) := by decide +kernel
theorem dX5_longestFree_5 : decode cX5_longestFree 5 = .ok (.istore 4, 2) := by decide +kernel
theorem dX5_longestFree_7 : decode cX5_longestFree 7 = .ok (.iload 4, 2) := by decide +kernel
theorem dX5_longestFree_9 : decode cX5_longestFree 9 = .ok (.bipush 48, 2) := by decide +kernel
theorem dX5_longestFree_11 : decode cX5_longestFree 11 = .ok (.if_icmp .ge 40, 3) := by decide +kernel
theorem dX5_longestFree_14 : decode cX5_longestFree 14 = .ok (.aload_n 0, 1) := by decide +kernel
theorem dX5_longestFree_15 : decode cX5_longestFree 15 = .ok (.iload_n 1, 1) := by decide +kernel
theorem dX5_longestFree_16 : decode cX5_longestFree 16 = .ok (.iload 4, 2) := by decide +kernel
theorem dX5_longestFree_18 : decode cX5_longestFree 18 = .ok (.invokevirtual 143, 3) := by decide +kernel
theorem dX5_longestFree_21 : decode cX5_longestFree 21 = .ok (.ldc 44, 2) := by decide +kernel
theorem dX5_longestFree_23 : decode cX5_longestFree 23 = .ok (.if_icmp .ne 9, 3) := by decide +kernel
theorem dX5_longestFree_26 : decode cX5_longestFree 26 = .ok (.iload_n 3, 1) := by decide +kernel
theorem dX5_longestFree_27 : decode cX5_longestFree 27 = .ok (.iconst 1, 1) := by decide +kernel
theorem dX5_longestFree_28 : decode cX5_longestFree 28 = .ok (.iadd, 1) := by decide +kernel
theorem dX5_longestFree_29 : decode cX5_longestFree 29 = .ok (.goto 4, 3) := by decide +kernel
theorem dX5_longestFree_32 : decode cX5_longestFree 32 = .ok (.iconst 0, 1) := by decide +kernel
theorem dX5_longestFree_33 : decode cX5_longestFree 33 = .ok (.istore_n 3, 1) := by decide +kernel
theorem dX5_longestFree_34 : decode cX5_longestFree 34 = .ok (.iload_n 3, 1) := by decide +kernel
theorem dX5_longestFree_35 : decode cX5_longestFree 35 = .ok (.iload_n 2, 1) := by decide +kernel
theorem dX5_longestFree_36 : decode cX5_longestFree 36 = .ok (.if_icmp .le 7, 3) := by decide +kernel
theorem dX5_longestFree_39 : decode cX5_longestFree 39 = .ok (.iload_n 3, 1) := by decide +kernel
theorem dX5_longestFree_40 : decode cX5_longestFree 40 = .ok (.goto 4, 3) := by decide +kernel
theorem dX5_longestFree_43 : decode cX5_longestFree 43 = .ok (.iload_n 2, 1) := by decide +kernel
theorem dX5_longestFree_44 : decode cX5_longestFree 44 = .ok (.istore_n 2, 1) := by decide +kernel
theorem dX5_longestFree_45 : decode cX5_longestFree 45 = .ok (.iinc 4 1, 3) := by decide +kernel
theorem dX5_longestFree_48 : decode cX5_longestFree 48 = .ok (.goto (-41), 3) := by decide +kernel
theorem dX5_longestFree_51 : decode cX5_longestFree 51 = .ok (.iload_n 2, 1) := by decide +kernel
theorem dX5_longestFree_52 : decode cX5_longestFree 52 = .ok (.ireturn, 1) := by decide +kernel
theorem dX5_roomOf_0 : decode cX5_roomOf 0 = .ok (.aload_n 0, 1) := by decide +kernel
theorem dX5_roomOf_1 : decode cX5_roomOf 1 = .ok (.iconst 0, 1) := by decide +kernel
theorem dX5_roomOf_2 : decode cX5_roomOf 2 = .ok (.putfield 26, 3) := by decide +kernel
theorem dX5_roomOf_5 : decode cX5_roomOf 5 = .ok (.iload_n 1, 1) := by decide +kernel
theorem dX5_roomOf_6 : decode cX5_roomOf 6 = .ok (.invokestatic 93, 3) := by decide +kernel
theorem dX5_roomOf_9 : decode cX5_roomOf 9 = .ok (.ifCond .ne 6, 3) := by decide +kernel
theorem dX5_roomOf_12 : decode cX5_roomOf 12 = .ok (.ldc 67, 2) := by decide +kernel
theorem dX5_roomOf_14 : decode cX5_roomOf 14 = .ok (.ireturn, 1) := by decide +kernel
theorem dX5_roomOf_15 : decode cX5_roomOf 15 = .ok (.iload_n 2, 1) := by decide +kernel
theorem dX5_roomOf_16 : decode cX5_roomOf 16 = .ok (.tableswitch 78 0 6 #[44, 44, 44, 51, 60, 66, 72], 44) := by decide +kernel
theorem dX5_roomOf_60 : decode cX5_roomOf 60 = .ok (.aload_n 0, 1) := by decide +kernel
theorem dX5_roomOf_61 : decode cX5_roomOf 61 = .ok (.iload_n 1, 1) := by decide +kernel
theorem dX5_roomOf_62 : decode cX5_roomOf 62 = .ok (.iload_n 2, 1) := by decide +kernel
theorem dX5_roomOf_63 : decode cX5_roomOf 63 = .ok (.invokevirtual 38, 3) := by decide +kernel
theorem dX5_roomOf_66 : decode cX5_roomOf 66 = .ok (.ireturn, 1) := by decide +kernel
theorem dX5_roomOf_67 : decode cX5_roomOf 67 = .ok (.aload_n 0, 1) := by decide +kernel
theorem dX5_roomOf_68 : decode cX5_roomOf 68 = .ok (.iload_n 1, 1) := by decide +kernel
theorem dX5_roomOf_69 : decode cX5_roomOf 69 = .ok (.invokevirtual 106, 3) := by decide +kernel
theorem dX5_roomOf_72 : decode cX5_roomOf 72 = .ok (.invokestatic 146, 3) := by decide +kernel
theorem dX5_roomOf_75 : decode cX5_roomOf 75 = .ok (.ireturn, 1) := by decide +kernel
theorem dX5_roomOf_76 : decode cX5_roomOf 76 = .ok (.aload_n 0, 1) := by decide +kernel
theorem dX5_roomOf_77 : decode cX5_roomOf 77 = .ok (.iload_n 1, 1) := by decide +kernel
theorem dX5_roomOf_78 : decode cX5_roomOf 78 = .ok (.invokevirtual 48, 3) := by decide +kernel
theorem dX5_roomOf_81 : decode cX5_roomOf 81 = .ok (.ireturn, 1) := by decide +kernel
theorem dX5_roomOf_82 : decode cX5_roomOf 82 = .ok (.aload_n 0, 1) := by decide +kernel
theorem dX5_roomOf_83 : decode cX5_roomOf 83 = .ok (.iload_n 1, 1) := by decide +kernel
theorem dX5_roomOf_84 : decode cX5_roomOf 84 = .ok (.invokevirtual 106, 3) := by decide +kernel
theorem dX5_roomOf_87 : decode cX5_roomOf 87 = .ok (.ireturn, 1) := by decide +kernel
theorem dX5_roomOf_88 : decode cX5_roomOf 88 = .ok (.aload_n 0, 1) := by decide +kernel
theorem dX5_roomOf_89 : decode cX5_roomOf 89 = .ok (.iload_n 1, 1) := by decide +kernel
theorem dX5_roomOf_90 : decode cX5_roomOf 90 = .ok (.invokevirtual 149, 3) := by decide +kernel
theorem dX5_roomOf_93 : decode cX5_roomOf 93 = .ok (.ireturn, 1) := by decide +kernel
theorem dX5_roomOf_94 : decode cX5_roomOf 94 = .ok (.ldc 67, 2) := by decide +kernel
theorem dX5_roomOf_96 : decode cX5_roomOf 96 = .ok (.ireturn, 1) := by decide +kernel
theorem dX5_at_0 : decode cX5_at 0 = .ok (.aload_n 0, 1) := by decide +kernel
theorem dX5_at_1 : decode cX5_at 1 = .ok (.iconst 0, 1) := by decide +kernel
theorem dX5_at_2 : decode cX5_at 2 = .ok (.putfield 26, 3) := by decide +kernel
theorem dX5_at_5 : decode cX5_at 5 = .ok (.iload_n 1, 1) := by decide +kernel
theorem dX5_at_6 : decode cX5_at 6 = .ok (.invokestatic 93, 3) := by decide +kernel
theorem dX5_at_9 : decode cX5_at 9 = .ok (.ifCond .eq 22, 3) := by decide +kernel
theorem dX5_at_12 : decode cX5_at 12 = .ok (.iload_n 2, 1) := by decide +kernel
theorem dX5_at_13 : decode cX5_at 13 = .ok (.iconst 0, 1) := by decide +kernel
theorem dX5_at_14 : decode cX5_at 14 = .ok (.bipush 47, 2) := by decide +kernel
theorem dX5_at_16 : decode cX5_at 16 = .ok (.invokestatic 30, 3) := by decide +kernel
theorem dX5_at_19 : decode cX5_at 19 = .ok (.ifCond .eq 12, 3) := by decide +kernel
theorem dX5_at_22 : decode cX5_at 22 = .ok (.aload_n 0, 1) := by decide +kernel
theorem dX5_at_23 : decode cX5_at 23 = .ok (.iload_n 1, 1) := by decide +kernel
theorem dX5_at_24 : decode cX5_at 24 = .ok (.iload_n 2, 1) := by decide +kernel
theorem dX5_at_25 : decode cX5_at 25 = .ok (.invokevirtual 143, 3) := by decide +kernel
theorem dX5_at_28 : decode cX5_at 28 = .ok (.goto 5, 3) := by decide +kernel
theorem dX5_at_31 : decode cX5_at 31 = .ok (.ldc 67, 2) := by decide +kernel
theorem dX5_at_33 : decode cX5_at 33 = .ok (.ireturn, 1) := by decide +kernel
theorem dX5_talksAt_0 : decode cX5_talksAt 0 = .ok (.iconst 0, 1) := by decide +kernel
theorem dX5_talksAt_1 : decode cX5_talksAt 1 = .ok (.istore_n 2, 1) := by decide +kernel
theorem dX5_talksAt_2 : decode cX5_talksAt 2 = .ok (.iconst 0, 1) := by decide +kernel
theorem dX5_talksAt_3 : decode cX5_talksAt 3 = .ok (.istore_n 3, 1) := by decide +kernel
theorem dX5_talksAt_4 : decode cX5_talksAt 4 = .ok (.iload_n 3, 1) := by decide +kernel
theorem dX5_talksAt_5 : decode cX5_talksAt 5 = .ok (.bipush 8, 2) := by decide +kernel
theorem dX5_talksAt_7 : decode cX5_talksAt 7 = .ok (.if_icmp .ge 28, 3) := by decide +kernel
theorem dX5_talksAt_10 : decode cX5_talksAt 10 = .ok (.iload_n 2, 1) := by decide +kernel
theorem dX5_talksAt_11 : decode cX5_talksAt 11 = .ok (.aload_n 0, 1) := by decide +kernel
theorem dX5_talksAt_12 : decode cX5_talksAt 12 = .ok (.iload_n 3, 1) := by decide +kernel
theorem dX5_talksAt_13 : decode cX5_talksAt 13 = .ok (.iload_n 1, 1) := by decide +kernel
theorem dX5_talksAt_14 : decode cX5_talksAt 14 = .ok (.invokevirtual 143, 3) := by decide +kernel
theorem dX5_talksAt_17 : decode cX5_talksAt 17 = .ok (.ldc 44, 2) := by decide +kernel
theorem dX5_talksAt_19 : decode cX5_talksAt 19 = .ok (.if_icmp .ne 7, 3) := by decide +kernel
theorem dX5_talksAt_22 : decode cX5_talksAt 22 = .ok (.iconst 0, 1) := by decide +kernel
theorem dX5_talksAt_23 : decode cX5_talksAt 23 = .ok (.goto 4, 3) := by decide +kernel
theorem dX5_talksAt_26 : decode cX5_talksAt 26 = .ok (.iconst 1, 1) := by decide +kernel
theorem dX5_talksAt_27 : decode cX5_talksAt 27 = .ok (.iadd, 1) := by decide +kernel
theorem dX5_talksAt_28 : decode cX5_talksAt 28 = .ok (.istore_n 2, 1) := by decide +kernel
theorem dX5_talksAt_29 : decode cX5_talksAt 29 = .ok (.iinc 3 1, 3) := by decide +kernel
theorem dX5_talksAt_32 : decode cX5_talksAt 32 = .ok (.goto (-28), 3) := by decide +kernel
theorem dX5_talksAt_35 : decode cX5_talksAt 35 = .ok (.iload_n 2, 1) := by decide +kernel
theorem dX5_talksAt_36 : decode cX5_talksAt 36 = .ok (.ireturn, 1) := by decide +kernel
theorem dX5_freeAt_0 : decode cX5_freeAt 0 = .ok (.iconst 0, 1) := by decide +kernel
theorem dX5_freeAt_1 : decode cX5_freeAt 1 = .ok (.istore_n 2, 1) := by decide +kernel
theorem dX5_freeAt_2 : decode cX5_freeAt 2 = .ok (.iconst 0, 1) := by decide +kernel
theorem dX5_freeAt_3 : decode cX5_freeAt 3 = .ok (.istore_n 3, 1) := by decide +kernel
theorem dX5_freeAt_4 : decode cX5_freeAt 4 = .ok (.iload_n 3, 1) := by decide +kernel
theorem dX5_freeAt_5 : decode cX5_freeAt 5 = .ok (.bipush 8, 2) := by decide +kernel
theorem dX5_freeAt_7 : decode cX5_freeAt 7 = .ok (.if_icmp .ge 38, 3) := by decide +kernel
theorem dX5_freeAt_10 : decode cX5_freeAt 10 = .ok (.iload_n 2, 1) := by decide +kernel
theorem dX5_freeAt_11 : decode cX5_freeAt 11 = .ok (.aload_n 0, 1) := by decide +kernel
theorem dX5_freeAt_12 : decode cX5_freeAt 12 = .ok (.iload_n 3, 1) := by decide +kernel
theorem dX5_freeAt_13 : decode cX5_freeAt 13 = .ok (.invokevirtual 56, 3) := by decide +kernel
theorem dX5_freeAt_16 : decode cX5_freeAt 16 = .ok (.ifCond .eq 20, 3) := by decide +kernel
theorem dX5_freeAt_19 : decode cX5_freeAt 19 = .ok (.aload_n 0, 1) := by decide +kernel
theorem dX5_freeAt_20 : decode cX5_freeAt 20 = .ok (.iload_n 3, 1) := by decide +kernel
theorem dX5_freeAt_21 : decode cX5_freeAt 21 = .ok (.iload_n 1, 1) := by decide +kernel
theorem dX5_freeAt_22 : decode cX5_freeAt 22 = .ok (.invokevirtual 143, 3) := by decide +kernel
theorem dX5_freeAt_25 : decode cX5_freeAt 25 = .ok (.ldc 44, 2) := by decide +kernel
theorem dX5_freeAt_27 : decode cX5_freeAt 27 = .ok (.if_icmp .ne 9, 3) := by decide +kernel
theorem dX5_freeAt_30 : decode cX5_freeAt 30 = .ok (.iconst 1, 1) := by decide +kernel
theorem dX5_freeAt_31 : decode cX5_freeAt 31 = .ok (.iload_n 3, 1) := by decide +kernel
theorem dX5_freeAt_32 : decode cX5_freeAt 32 = .ok (.ishl, 1) := by decide +kernel
theorem dX5_freeAt_33 : decode cX5_freeAt 33 = .ok (.goto 4, 3) := by decide +kernel
theorem dX5_freeAt_36 : decode cX5_freeAt 36 = .ok (.iconst 0, 1) := by decide +kernel
theorem dX5_freeAt_37 : decode cX5_freeAt 37 = .ok (.ior, 1) := by decide +kernel
theorem dX5_freeAt_38 : decode cX5_freeAt 38 = .ok (.istore_n 2, 1) := by decide +kernel
theorem dX5_freeAt_39 : decode cX5_freeAt 39 = .ok (.iinc 3 1, 3) := by decide +kernel
theorem dX5_freeAt_42 : decode cX5_freeAt 42 = .ok (.goto (-38), 3) := by decide +kernel
theorem dX5_freeAt_45 : decode cX5_freeAt 45 = .ok (.iload_n 2, 1) := by decide +kernel
theorem dX5_freeAt_46 : decode cX5_freeAt 46 = .ok (.ireturn, 1) := by decide +kernel
theorem dX5_hourOf_0 : decode cX5_hourOf 0 = .ok (.aload_n 0, 1) := by decide +kernel
theorem dX5_hourOf_1 : decode cX5_hourOf 1 = .ok (.iconst 0, 1) := by decide +kernel
theorem dX5_hourOf_2 : decode cX5_hourOf 2 = .ok (.putfield 26, 3) := by decide +kernel
theorem dX5_hourOf_5 : decode cX5_hourOf 5 = .ok (.iload_n 1, 1) := by decide +kernel
theorem dX5_hourOf_6 : decode cX5_hourOf 6 = .ok (.iconst 0, 1) := by decide +kernel
theorem dX5_hourOf_7 : decode cX5_hourOf 7 = .ok (.bipush 47, 2) := by decide +kernel
theorem dX5_hourOf_9 : decode cX5_hourOf 9 = .ok (.invokestatic 30, 3) := by decide +kernel
theorem dX5_hourOf_12 : decode cX5_hourOf 12 = .ok (.ifCond .eq 12, 3) := by decide +kernel
theorem dX5_hourOf_15 : decode cX5_hourOf 15 = .ok (.iload_n 2, 1) := by decide +kernel
theorem dX5_hourOf_16 : decode cX5_hourOf 16 = .ok (.iconst 0, 1) := by decide +kernel
theorem dX5_hourOf_17 : decode cX5_hourOf 17 = .ok (.iconst 1, 1) := by decide +kernel
theorem dX5_hourOf_18 : decode cX5_hourOf 18 = .ok (.invokestatic 30, 3) := by decide +kernel
theorem dX5_hourOf_21 : decode cX5_hourOf 21 = .ok (.ifCond .ne 6, 3) := by decide +kernel
theorem dX5_hourOf_24 : decode cX5_hourOf 24 = .ok (.ldc 67, 2) := by decide +kernel
theorem dX5_hourOf_26 : decode cX5_hourOf 26 = .ok (.ireturn, 1) := by decide +kernel
theorem dX5_hourOf_27 : decode cX5_hourOf 27 = .ok (.iload_n 2, 1) := by decide +kernel
theorem dX5_hourOf_28 : decode cX5_hourOf 28 = .ok (.ifCond .ne 11, 3) := by decide +kernel
theorem dX5_hourOf_31 : decode cX5_hourOf 31 = .ok (.aload_n 0, 1) := by decide +kernel
theorem dX5_hourOf_32 : decode cX5_hourOf 32 = .ok (.iload_n 1, 1) := by decide +kernel
theorem dX5_hourOf_33 : decode cX5_hourOf 33 = .ok (.invokevirtual 152, 3) := by decide +kernel
theorem dX5_hourOf_36 : decode cX5_hourOf 36 = .ok (.goto 8, 3) := by decide +kernel
theorem dX5_hourOf_39 : decode cX5_hourOf 39 = .ok (.aload_n 0, 1) := by decide +kernel
theorem dX5_hourOf_40 : decode cX5_hourOf 40 = .ok (.iload_n 1, 1) := by decide +kernel
theorem dX5_hourOf_41 : decode cX5_hourOf 41 = .ok (.invokevirtual 155, 3) := by decide +kernel
theorem dX5_hourOf_44 : decode cX5_hourOf 44 = .ok (.ireturn, 1) := by decide +kernel
theorem dX5_would_0 : decode cX5_would 0 = .ok (.aload_n 0, 1) := by decide +kernel
theorem dX5_would_1 : decode cX5_would 1 = .ok (.iconst 0, 1) := by decide +kernel
theorem dX5_would_2 : decode cX5_would 2 = .ok (.putfield 26, 3) := by decide +kernel
theorem dX5_would_5 : decode cX5_would 5 = .ok (.iload_n 1, 1) := by decide +kernel
theorem dX5_would_6 : decode cX5_would 6 = .ok (.iconst 0, 1) := by decide +kernel
theorem dX5_would_7 : decode cX5_would 7 = .ok (.bipush 47, 2) := by decide +kernel
theorem dX5_would_9 : decode cX5_would 9 = .ok (.invokestatic 30, 3) := by decide +kernel
theorem dX5_would_12 : decode cX5_would 12 = .ok (.ifCond .eq 35, 3) := by decide +kernel
theorem dX5_would_15 : decode cX5_would 15 = .ok (.iload_n 2, 1) := by decide +kernel
theorem dX5_would_16 : decode cX5_would 16 = .ok (.iload_n 1, 1) := by decide +kernel
theorem dX5_would_17 : decode cX5_would 17 = .ok (.iconst 1, 1) := by decide +kernel
theorem dX5_would_18 : decode cX5_would 18 = .ok (.iadd, 1) := by decide +kernel
theorem dX5_would_19 : decode cX5_would 19 = .ok (.bipush 48, 2) := by decide +kernel
theorem dX5_would_21 : decode cX5_would 21 = .ok (.invokestatic 30, 3) := by decide +kernel
theorem dX5_would_24 : decode cX5_would 24 = .ok (.ifCond .eq 23, 3) := by decide +kernel
theorem dX5_would_27 : decode cX5_would 27 = .ok (.iload_n 3, 1) := by decide +kernel
theorem dX5_would_28 : decode cX5_would 28 = .ok (.iconst 1, 1) := by decide +kernel
theorem dX5_would_29 : decode cX5_would 29 = .ok (.bipush 9, 2) := by decide +kernel
theorem dX5_would_31 : decode cX5_would 31 = .ok (.invokestatic 30, 3) := by decide +kernel
theorem dX5_would_34 : decode cX5_would 34 = .ok (.ifCond .eq 13, 3) := by decide +kernel
theorem dX5_would_37 : decode cX5_would 37 = .ok (.iload 4, 2) := by decide +kernel
theorem dX5_would_39 : decode cX5_would 39 = .ok (.iconst 0, 1) := by decide +kernel
theorem dX5_would_40 : decode cX5_would 40 = .ok (.iconst 3, 1) := by decide +kernel
theorem dX5_would_41 : decode cX5_would 41 = .ok (.invokestatic 30, 3) := by decide +kernel
theorem dX5_would_44 : decode cX5_would 44 = .ok (.ifCond .ne 6, 3) := by decide +kernel
theorem dX5_would_47 : decode cX5_would 47 = .ok (.ldc 67, 2) := by decide +kernel
theorem dX5_would_49 : decode cX5_would 49 = .ok (.ireturn, 1) := by decide +kernel
theorem dX5_would_50 : decode cX5_would 50 = .ok (.aload_n 0, 1) := by decide +kernel
theorem dX5_would_51 : decode cX5_would 51 = .ok (.iload_n 1, 1) := by decide +kernel
theorem dX5_would_52 : decode cX5_would 52 = .ok (.iload_n 2, 1) := by decide +kernel
theorem dX5_would_53 : decode cX5_would 53 = .ok (.iload_n 3, 1) := by decide +kernel
theorem dX5_would_54 : decode cX5_would 54 = .ok (.iload 4, 2) := by decide +kernel
theorem dX5_would_56 : decode cX5_would 56 = .ok (.invokevirtual 68, 3) := by decide +kernel
theorem dX5_would_59 : decode cX5_would 59 = .ok (.istore 5, 2) := by decide +kernel
theorem dX5_would_61 : decode cX5_would 61 = .ok (.iload 5, 2) := by decide +kernel
theorem dX5_would_63 : decode cX5_would 63 = .ok (.iconst (-1), 1) := by decide +kernel
theorem dX5_would_64 : decode cX5_would 64 = .ok (.if_icmp .ne 8, 3) := by decide +kernel
theorem dX5_would_67 : decode cX5_would 67 = .ok (.ldc 44, 2) := by decide +kernel
theorem dX5_would_69 : decode cX5_would 69 = .ok (.goto 5, 3) := by decide +kernel
theorem dX5_would_72 : decode cX5_would 72 = .ok (.iload 5, 2) := by decide +kernel
theorem dX5_would_74 : decode cX5_would 74 = .ok (.ireturn, 1) := by decide +kernel
theorem dX5_known_0 : decode cX5_known 0 = .ok (.aload_n 0, 1) := by decide +kernel
theorem dX5_known_1 : decode cX5_known 1 = .ok (.iconst 0, 1) := by decide +kernel
theorem dX5_known_2 : decode cX5_known 2 = .ok (.putfield 26, 3) := by decide +kernel
theorem dX5_known_5 : decode cX5_known 5 = .ok (.iload_n 1, 1) := by decide +kernel
theorem dX5_known_6 : decode cX5_known 6 = .ok (.iconst 0, 1) := by decide +kernel
theorem dX5_known_7 : decode cX5_known 7 = .ok (.iconst 3, 1) := by decide +kernel
theorem dX5_known_8 : decode cX5_known 8 = .ok (.invokestatic 30, 3) := by decide +kernel
theorem dX5_known_11 : decode cX5_known 11 = .ok (.ifCond .eq 12, 3) := by decide +kernel
theorem dX5_known_14 : decode cX5_known 14 = .ok (.iload_n 2, 1) := by decide +kernel
theorem dX5_known_15 : decode cX5_known 15 = .ok (.iconst 0, 1) := by decide +kernel
theorem dX5_known_16 : decode cX5_known 16 = .ok (.iconst 2, 1) := by decide +kernel
theorem dX5_known_17 : decode cX5_known 17 = .ok (.invokestatic 30, 3) := by decide +kernel
theorem dX5_known_20 : decode cX5_known 20 = .ok (.ifCond .ne 6, 3) := by decide +kernel
theorem dX5_known_23 : decode cX5_known 23 = .ok (.ldc 67, 2) := by decide +kernel
theorem dX5_known_25 : decode cX5_known 25 = .ok (.ireturn, 1) := by decide +kernel
theorem dX5_known_26 : decode cX5_known 26 = .ok (.aload_n 0, 1) := by decide +kernel
theorem dX5_known_27 : decode cX5_known 27 = .ok (.iload_n 1, 1) := by decide +kernel
theorem dX5_known_28 : decode cX5_known 28 = .ok (.invokevirtual 134, 3) := by decide +kernel
theorem dX5_known_31 : decode cX5_known 31 = .ok (.istore_n 3, 1) := by decide +kernel
theorem dX5_known_32 : decode cX5_known 32 = .ok (.iload_n 3, 1) := by decide +kernel
theorem dX5_known_33 : decode cX5_known 33 = .ok (.ldc 72, 2) := by decide +kernel
theorem dX5_known_35 : decode cX5_known 35 = .ok (.if_icmp .eq 7, 3) := by decide +kernel
theorem dX5_known_38 : decode cX5_known 38 = .ok (.iload_n 2, 1) := by decide +kernel
theorem dX5_known_39 : decode cX5_known 39 = .ok (.ifCond .ne 7, 3) := by decide +kernel
theorem dX5_known_42 : decode cX5_known 42 = .ok (.iload_n 3, 1) := by decide +kernel
theorem dX5_known_43 : decode cX5_known 43 = .ok (.goto 19, 3) := by decide +kernel
theorem dX5_known_46 : decode cX5_known 46 = .ok (.iload_n 2, 1) := by decide +kernel
theorem dX5_known_47 : decode cX5_known 47 = .ok (.iconst 1, 1) := by decide +kernel
theorem dX5_known_48 : decode cX5_known 48 = .ok (.if_icmp .ne 10, 3) := by decide +kernel
theorem dX5_known_51 : decode cX5_known 51 = .ok (.aload_n 0, 1) := by decide +kernel
theorem dX5_known_52 : decode cX5_known 52 = .ok (.getfield 125, 3) := by decide +kernel
theorem dX5_known_55 : decode cX5_known 55 = .ok (.goto 7, 3) := by decide +kernel
theorem dX5_known_58 : decode cX5_known 58 = .ok (.aload_n 0, 1) := by decide +kernel
theorem dX5_known_59 : decode cX5_known 59 = .ok (.getfield 116, 3) := by decide +kernel
theorem dX5_known_62 : decode cX5_known 62 = .ok (.ireturn, 1) := by decide +kernel
theorem dX5_unknowing_0 : decode cX5_unknowing 0 = .ok (.aload_n 0, 1) := by decide +kernel
theorem dX5_unknowing_1 : decode cX5_unknowing 1 = .ok (.iconst 0, 1) := by decide +kernel
theorem dX5_unknowing_2 : decode cX5_unknowing 2 = .ok (.putfield 26, 3) := by decide +kernel
theorem dX5_unknowing_5 : decode cX5_unknowing 5 = .ok (.aload_n 0, 1) := by decide +kernel
theorem dX5_unknowing_6 : decode cX5_unknowing 6 = .ok (.aload_n 0, 1) := by decide +kernel
theorem dX5_unknowing_7 : decode cX5_unknowing 7 = .ok (.getfield 7, 3) := by decide +kernel
theorem dX5_unknowing_10 : decode cX5_unknowing 10 = .ok (.iconst 0, 1) := by decide +kernel
theorem dX5_unknowing_11 : decode cX5_unknowing 11 = .ok (.iaload, 1) := by decide +kernel
theorem dX5_unknowing_12 : decode cX5_unknowing 12 = .ok (.invokevirtual 134, 3) := by decide +kernel
theorem dX5_unknowing_15 : decode cX5_unknowing 15 = .ok (.istore_n 1, 1) := by decide +kernel
theorem dX5_unknowing_16 : decode cX5_unknowing 16 = .ok (.iload_n 1, 1) := by decide +kernel
theorem dX5_unknowing_17 : decode cX5_unknowing 17 = .ok (.ldc 72, 2) := by decide +kernel
theorem dX5_unknowing_19 : decode cX5_unknowing 19 = .ok (.if_icmp .ne 7, 3) := by decide +kernel
theorem dX5_unknowing_22 : decode cX5_unknowing 22 = .ok (.iload_n 1, 1) := by decide +kernel
theorem dX5_unknowing_23 : decode cX5_unknowing 23 = .ok (.goto 15, 3) := by decide +kernel
theorem dX5_unknowing_26 : decode cX5_unknowing 26 = .ok (.aload_n 0, 1) := by decide +kernel
theorem dX5_unknowing_27 : decode cX5_unknowing 27 = .ok (.getfield 7, 3) := by decide +kernel
theorem dX5_unknowing_30 : decode cX5_unknowing 30 = .ok (.iconst 3, 1) := by decide +kernel
theorem dX5_unknowing_31 : decode cX5_unknowing 31 = .ok (.iaload, 1) := by decide +kernel
theorem dX5_unknowing_32 : decode cX5_unknowing 32 = .ok (.iload_n 1, 1) := by decide +kernel
theorem dX5_unknowing_33 : decode cX5_unknowing 33 = .ok (.isub, 1) := by decide +kernel
theorem dX5_unknowing_34 : decode cX5_unknowing 34 = .ok (.sipush 10000, 3) := by decide +kernel
theorem dX5_unknowing_37 : decode cX5_unknowing 37 = .ok (.iadd, 1) := by decide +kernel
theorem dX5_unknowing_38 : decode cX5_unknowing 38 = .ok (.ireturn, 1) := by decide +kernel
theorem dX5_talks_0 : decode cX5_talks 0 = .ok (.iconst 0, 1) := by decide +kernel
theorem dX5_talks_1 : decode cX5_talks 1 = .ok (.istore_n 1, 1) := by decide +kernel
theorem dX5_talks_2 : decode cX5_talks 2 = .ok (.iconst 0, 1) := by decide +kernel
theorem dX5_talks_3 : decode cX5_talks 3 = .ok (.istore_n 2, 1) := by decide +kernel
theorem dX5_talks_4 : decode cX5_talks 4 = .ok (.iload_n 2, 1) := by decide +kernel
theorem dX5_talks_5 : decode cX5_talks 5 = .ok (.aload_n 0, 1) := by decide +kernel
theorem dX5_talks_6 : decode cX5_talks 6 = .ok (.getfield 7, 3) := by decide +kernel
theorem dX5_talks_9 : decode cX5_talks 9 = .ok (.iconst 1, 1) := by decide +kernel
theorem dX5_talks_10 : decode cX5_talks 10 = .ok (.iaload, 1) := by decide +kernel
theorem dX5_talks_11 : decode cX5_talks 11 = .ok (.if_icmp .ge 27, 3) := by decide +kernel
theorem dX5_talks_14 : decode cX5_talks 14 = .ok (.iload_n 1, 1) := by decide +kernel
theorem dX5_talks_15 : decode cX5_talks 15 = .ok (.aload_n 0, 1) := by decide +kernel
theorem dX5_talks_16 : decode cX5_talks 16 = .ok (.iload_n 2, 1) := by decide +kernel
theorem dX5_talks_17 : decode cX5_talks 17 = .ok (.iconst 3, 1) := by decide +kernel
theorem dX5_talks_18 : decode cX5_talks 18 = .ok (.invokevirtual 34, 3) := by decide +kernel
theorem dX5_talks_21 : decode cX5_talks 21 = .ok (.iconst (-1), 1) := by decide +kernel
theorem dX5_talks_22 : decode cX5_talks 22 = .ok (.if_icmp .ne 7, 3) := by decide +kernel
theorem dX5_talks_25 : decode cX5_talks 25 = .ok (.iconst 0, 1) := by decide +kernel
theorem dX5_talks_26 : decode cX5_talks 26 = .ok (.goto 4, 3) := by decide +kernel
theorem dX5_talks_29 : decode cX5_talks 29 = .ok (.iconst 1, 1) := by decide +kernel
theorem dX5_talks_30 : decode cX5_talks 30 = .ok (.iadd, 1) := by decide +kernel
theorem dX5_talks_31 : decode cX5_talks 31 = .ok (.istore_n 1, 1) := by decide +kernel
theorem dX5_talks_32 : decode cX5_talks 32 = .ok (.iinc 2 1, 3) := by decide +kernel
theorem dX5_talks_35 : decode cX5_talks 35 = .ok (.goto (-31), 3) := by decide +kernel
theorem dX5_talks_38 : decode cX5_talks 38 = .ok (.iload_n 1, 1) := by decide +kernel
theorem dX5_talks_39 : decode cX5_talks 39 = .ok (.ireturn, 1) := by decide +kernel
theorem dX5_share_0 : decode cX5_share 0 = .ok (.aload_n 0, 1) := by decide +kernel
theorem dX5_share_1 : decode cX5_share 1 = .ok (.iconst 0, 1) := by decide +kernel
theorem dX5_share_2 : decode cX5_share 2 = .ok (.putfield 26, 3) := by decide +kernel
theorem dX5_share_5 : decode cX5_share 5 = .ok (.aload_n 0, 1) := by decide +kernel
theorem dX5_share_6 : decode cX5_share 6 = .ok (.aload_n 0, 1) := by decide +kernel
theorem dX5_share_7 : decode cX5_share 7 = .ok (.getfield 7, 3) := by decide +kernel
theorem dX5_share_10 : decode cX5_share 10 = .ok (.iconst 0, 1) := by decide +kernel
theorem dX5_share_11 : decode cX5_share 11 = .ok (.iaload, 1) := by decide +kernel
theorem dX5_share_12 : decode cX5_share 12 = .ok (.invokevirtual 134, 3) := by decide +kernel
theorem dX5_share_15 : decode cX5_share 15 = .ok (.istore_n 1, 1) := by decide +kernel
theorem dX5_share_16 : decode cX5_share 16 = .ok (.iload_n 1, 1) := by decide +kernel
theorem dX5_share_17 : decode cX5_share 17 = .ok (.ldc 72, 2) := by decide +kernel
theorem dX5_share_19 : decode cX5_share 19 = .ok (.if_icmp .eq 10, 3) := by decide +kernel
theorem dX5_share_22 : decode cX5_share 22 = .ok (.aload_n 0, 1) := by decide +kernel
theorem dX5_share_23 : decode cX5_share 23 = .ok (.invokevirtual 158, 3) := by decide +kernel
theorem dX5_share_26 : decode cX5_share 26 = .ok (.ifCond .ne 16, 3) := by decide +kernel
theorem dX5_share_29 : decode cX5_share 29 = .ok (.iload_n 1, 1) := by decide +kernel
theorem dX5_share_30 : decode cX5_share 30 = .ok (.ldc 72, 2) := by decide +kernel
theorem dX5_share_32 : decode cX5_share 32 = .ok (.if_icmp .ne 7, 3) := by decide +kernel
theorem dX5_share_35 : decode cX5_share 35 = .ok (.iload_n 1, 1) := by decide +kernel
theorem dX5_share_36 : decode cX5_share 36 = .ok (.goto 5, 3) := by decide +kernel
theorem dX5_share_39 : decode cX5_share 39 = .ok (.ldc 44, 2) := by decide +kernel
theorem dX5_share_41 : decode cX5_share 41 = .ok (.ireturn, 1) := by decide +kernel
theorem dX5_share_42 : decode cX5_share 42 = .ok (.aload_n 0, 1) := by decide +kernel
theorem dX5_share_43 : decode cX5_share 43 = .ok (.getfield 7, 3) := by decide +kernel
theorem dX5_share_46 : decode cX5_share 46 = .ok (.iconst 3, 1) := by decide +kernel
theorem dX5_share_47 : decode cX5_share 47 = .ok (.iaload, 1) := by decide +kernel
theorem dX5_share_48 : decode cX5_share 48 = .ok (.i2f, 1) := by decide +kernel
theorem dX5_share_49 : decode cX5_share 49 = .ok (.iload_n 1, 1) := by decide +kernel
theorem dX5_share_50 : decode cX5_share 50 = .ok (.i2f, 1) := by decide +kernel
theorem dX5_share_51 : decode cX5_share 51 = .ok (.fdiv, 1) := by decide +kernel
theorem dX5_share_52 : decode cX5_share 52 = .ok (.invokestatic 161, 3) := by decide +kernel
theorem dX5_share_55 : decode cX5_share 55 = .ok (.ireturn, 1) := by decide +kernel
theorem dX5_bestRule_0 : decode cX5_bestRule 0 = .ok (.aload_n 0, 1) := by decide +kernel
theorem dX5_bestRule_1 : decode cX5_bestRule 1 = .ok (.iconst 0, 1) := by decide +kernel
theorem dX5_bestRule_2 : decode cX5_bestRule 2 = .ok (.putfield 26, 3) := by decide +kernel
theorem dX5_bestRule_5 : decode cX5_bestRule 5 = .ok (.iload_n 1, 1) := by decide +kernel
theorem dX5_bestRule_6 : decode cX5_bestRule 6 = .ok (.iconst 0, 1) := by decide +kernel
theorem dX5_bestRule_7 : decode cX5_bestRule 7 = .ok (.iconst 1, 1) := by decide +kernel
theorem dX5_bestRule_8 : decode cX5_bestRule 8 = .ok (.invokestatic 30, 3) := by decide +kernel
theorem dX5_bestRule_11 : decode cX5_bestRule 11 = .ok (.ifCond .ne 6, 3) := by decide +kernel
theorem dX5_bestRule_14 : decode cX5_bestRule 14 = .ok (.ldc 67, 2) := by decide +kernel
theorem dX5_bestRule_16 : decode cX5_bestRule 16 = .ok (.ireturn, 1) := by decide +kernel
theorem dX5_bestRule_17 : decode cX5_bestRule 17 = .ok (.ldc 44, 2) := by decide +kernel
theorem dX5_bestRule_19 : decode cX5_bestRule 19 = .ok (.istore_n 2, 1) := by decide +kernel
theorem dX5_bestRule_20 : decode cX5_bestRule 20 = .ok (.iconst 0, 1) := by decide +kernel
theorem dX5_bestRule_21 : decode cX5_bestRule 21 = .ok (.istore_n 3, 1) := by decide +kernel
theorem dX5_bestRule_22 : decode cX5_bestRule 22 = .ok (.iconst 0, 1) := by decide +kernel
theorem dX5_bestRule_23 : decode cX5_bestRule 23 = .ok (.istore 4, 2) := by decide +kernel
theorem dX5_bestRule_25 : decode cX5_bestRule 25 = .ok (.iload 4, 2) := by decide +kernel
theorem dX5_bestRule_27 : decode cX5_bestRule 27 = .ok (.iconst 4, 1) := by decide +kernel
theorem dX5_bestRule_28 : decode cX5_bestRule 28 = .ok (.if_icmp .ge 42, 3) := by decide +kernel
theorem dX5_bestRule_31 : decode cX5_bestRule 31 = .ok (.aload_n 0, 1) := by decide +kernel
theorem dX5_bestRule_32 : decode cX5_bestRule 32 = .ok (.iload 4, 2) := by decide +kernel
theorem dX5_bestRule_34 : decode cX5_bestRule 34 = .ok (.invokevirtual 134, 3) := by decide +kernel
theorem dX5_bestRule_37 : decode cX5_bestRule 37 = .ok (.istore 5, 2) := by decide +kernel
theorem dX5_bestRule_39 : decode cX5_bestRule 39 = .ok (.iload 5, 2) := by decide +kernel
theorem dX5_bestRule_41 : decode cX5_bestRule 41 = .ok (.ldc 72, 2) := by decide +kernel
theorem dX5_bestRule_43 : decode cX5_bestRule 43 = .ok (.if_icmp .eq 21, 3) := by decide +kernel
theorem dX5_bestRule_46 : decode cX5_bestRule 46 = .ok (.iload_n 2, 1) := by decide +kernel
theorem dX5_bestRule_47 : decode cX5_bestRule 47 = .ok (.ldc 44, 2) := by decide +kernel
theorem dX5_bestRule_49 : decode cX5_bestRule 49 = .ok (.if_icmp .eq 9, 3) := by decide +kernel
theorem dX5_bestRule_52 : decode cX5_bestRule 52 = .ok (.iload 5, 2) := by decide +kernel
theorem dX5_bestRule_54 : decode cX5_bestRule 54 = .ok (.iload_n 3, 1) := by decide +kernel
theorem dX5_bestRule_55 : decode cX5_bestRule 55 = .ok (.if_icmp .ge 9, 3) := by decide +kernel
theorem dX5_bestRule_58 : decode cX5_bestRule 58 = .ok (.iload 4, 2) := by decide +kernel
theorem dX5_bestRule_60 : decode cX5_bestRule 60 = .ok (.istore_n 2, 1) := by decide +kernel
theorem dX5_bestRule_61 : decode cX5_bestRule 61 = .ok (.iload 5, 2) := by decide +kernel
theorem dX5_bestRule_63 : decode cX5_bestRule 63 = .ok (.istore_n 3, 1) := by decide +kernel
theorem dX5_bestRule_64 : decode cX5_bestRule 64 = .ok (.iinc 4 1, 3) := by decide +kernel
theorem dX5_bestRule_67 : decode cX5_bestRule 67 = .ok (.goto (-42), 3) := by decide +kernel
theorem dX5_bestRule_70 : decode cX5_bestRule 70 = .ok (.iload_n 2, 1) := by decide +kernel
theorem dX5_bestRule_71 : decode cX5_bestRule 71 = .ok (.ldc 44, 2) := by decide +kernel
theorem dX5_bestRule_73 : decode cX5_bestRule 73 = .ok (.if_icmp .eq 7, 3) := by decide +kernel
theorem dX5_bestRule_76 : decode cX5_bestRule 76 = .ok (.iload_n 1, 1) := by decide +kernel
theorem dX5_bestRule_77 : decode cX5_bestRule 77 = .ok (.ifCond .ne 7, 3) := by decide +kernel
theorem dX5_bestRule_80 : decode cX5_bestRule 80 = .ok (.iload_n 2, 1) := by decide +kernel
theorem dX5_bestRule_81 : decode cX5_bestRule 81 = .ok (.goto 4, 3) := by decide +kernel
theorem dX5_bestRule_84 : decode cX5_bestRule 84 = .ok (.iload_n 3, 1) := by decide +kernel
theorem dX5_bestRule_85 : decode cX5_bestRule 85 = .ok (.ireturn, 1) := by decide +kernel
theorem dX5_empties_0 : decode cX5_empties 0 = .ok (.aload_n 0, 1) := by decide +kernel
theorem dX5_empties_1 : decode cX5_empties 1 = .ok (.invokevirtual 113, 3) := by decide +kernel
theorem dX5_empties_4 : decode cX5_empties 4 = .ok (.iconst 1, 1) := by decide +kernel
theorem dX5_empties_5 : decode cX5_empties 5 = .ok (.istore_n 2, 1) := by decide +kernel
theorem dX5_empties_6 : decode cX5_empties 6 = .ok (.iconst 0, 1) := by decide +kernel
theorem dX5_empties_7 : decode cX5_empties 7 = .ok (.istore_n 3, 1) := by decide +kernel
theorem dX5_empties_8 : decode cX5_empties 8 = .ok (.iload_n 3, 1) := by decide +kernel
theorem dX5_empties_9 : decode cX5_empties 9 = .ok (.aload_n 0, 1) := by decide +kernel
theorem dX5_empties_10 : decode cX5_empties 10 = .ok (.getfield 7, 3) := by decide +kernel
theorem dX5_empties_13 : decode cX5_empties 13 = .ok (.iconst 1, 1) := by decide +kernel
theorem dX5_empties_14 : decode cX5_empties 14 = .ok (.iaload, 1) := by decide +kernel
theorem dX5_empties_15 : decode cX5_empties 15 = .ok (.if_icmp .ge 65, 3) := by decide +kernel
theorem dX5_empties_18 : decode cX5_empties 18 = .ok (.iload_n 2, 1) := by decide +kernel
theorem dX5_empties_19 : decode cX5_empties 19 = .ok (.ifCond .eq 61, 3) := by decide +kernel
theorem dX5_empties_22 : decode cX5_empties 22 = .ok (.aload_n 0, 1) := by decide +kernel
theorem dX5_empties_23 : decode cX5_empties 23 = .ok (.iload_n 3, 1) := by decide +kernel
theorem dX5_empties_24 : decode cX5_empties 24 = .ok (.iconst 3, 1) := by decide +kernel
theorem dX5_empties_25 : decode cX5_empties 25 = .ok (.invokevirtual 34, 3) := by decide +kernel
theorem dX5_empties_28 : decode cX5_empties 28 = .ok (.iload_n 1, 1) := by decide +kernel
theorem dX5_empties_29 : decode cX5_empties 29 = .ok (.if_icmp .ne 45, 3) := by decide +kernel
theorem dX5_empties_32 : decode cX5_empties 32 = .ok (.aload_n 0, 1) := by decide +kernel
theorem dX5_empties_33 : decode cX5_empties 33 = .ok (.iload_n 3, 1) := by decide +kernel
theorem dX5_empties_34 : decode cX5_empties 34 = .ok (.invokevirtual 167, 3) := by decide +kernel
theorem dX5_empties_37 : decode cX5_empties 37 = .ok (.istore 4, 2) := by decide +kernel
theorem dX5_empties_39 : decode cX5_empties 39 = .ok (.iload 4, 2) := by decide +kernel
theorem dX5_empties_41 : decode cX5_empties 41 = .ok (.iconst (-1), 1) := by decide +kernel
theorem dX5_empties_42 : decode cX5_empties 42 = .ok (.if_icmp .eq 7, 3) := by decide +kernel
theorem dX5_empties_45 : decode cX5_empties 45 = .ok (.iconst 1, 1) := by decide +kernel
theorem dX5_empties_46 : decode cX5_empties 46 = .ok (.goto 4, 3) := by decide +kernel
theorem dX5_empties_49 : decode cX5_empties 49 = .ok (.iconst 0, 1) := by decide +kernel
theorem dX5_empties_50 : decode cX5_empties 50 = .ok (.istore_n 2, 1) := by decide +kernel
theorem dX5_empties_51 : decode cX5_empties 51 = .ok (.aload_n 0, 1) := by decide +kernel
theorem dX5_empties_52 : decode cX5_empties 52 = .ok (.getfield 7, 3) := by decide +kernel
theorem dX5_empties_55 : decode cX5_empties 55 = .ok (.bipush 29, 2) := by decide +kernel
theorem dX5_empties_57 : decode cX5_empties 57 = .ok (.iconst 4, 1) := by decide +kernel
theorem dX5_empties_58 : decode cX5_empties 58 = .ok (.iload_n 3, 1) := by decide +kernel
theorem dX5_empties_59 : decode cX5_empties 59 = .ok (.imul, 1) := by decide +kernel
theorem dX5_empties_60 : decode cX5_empties 60 = .ok (.iadd, 1) := by decide +kernel
theorem dX5_empties_61 : decode cX5_empties 61 = .ok (.iconst 3, 1) := by decide +kernel
theorem dX5_empties_62 : decode cX5_empties 62 = .ok (.iadd, 1) := by decide +kernel
theorem dX5_empties_63 : decode cX5_empties 63 = .ok (.iload_n 2, 1) := by decide +kernel
theorem dX5_empties_64 : decode cX5_empties 64 = .ok (.ifCond .eq 8, 3) := by decide +kernel
theorem dX5_empties_67 : decode cX5_empties 67 = .ok (.iload 4, 2) := by decide +kernel
theorem dX5_empties_69 : decode cX5_empties 69 = .ok (.goto 4, 3) := by decide +kernel
theorem dX5_empties_72 : decode cX5_empties 72 = .ok (.iload_n 1, 1) := by decide +kernel
theorem dX5_empties_73 : decode cX5_empties 73 = .ok (.iastore, 1) := by decide +kernel
theorem dX5_empties_74 : decode cX5_empties 74 = .ok (.iinc 3 1, 3) := by decide +kernel
theorem dX5_empties_77 : decode cX5_empties 77 = .ok (.goto (-69), 3) := by decide +kernel
theorem dX5_empties_80 : decode cX5_empties 80 = .ok (.aload_n 0, 1) := by decide +kernel
theorem dX5_empties_81 : decode cX5_empties 81 = .ok (.invokevirtual 131, 3) := by decide +kernel
theorem dX5_empties_84 : decode cX5_empties 84 = .ok (.iload_n 2, 1) := by decide +kernel
theorem dX5_empties_85 : decode cX5_empties 85 = .ok (.ireturn, 1) := by decide +kernel
theorem dX5_lowestFor_0 : decode cX5_lowestFor 0 = .ok (.iconst 0, 1) := by decide +kernel
theorem dX5_lowestFor_1 : decode cX5_lowestFor 1 = .ok (.istore_n 2, 1) := by decide +kernel
theorem dX5_lowestFor_2 : decode cX5_lowestFor 2 = .ok (.iload_n 2, 1) := by decide +kernel
theorem dX5_lowestFor_3 : decode cX5_lowestFor 3 = .ok (.bipush 8, 2) := by decide +kernel
theorem dX5_lowestFor_5 : decode cX5_lowestFor 5 = .ok (.if_icmp .ge 20, 3) := by decide +kernel
theorem dX5_lowestFor_8 : decode cX5_lowestFor 8 = .ok (.aload_n 0, 1) := by decide +kernel
theorem dX5_lowestFor_9 : decode cX5_lowestFor 9 = .ok (.iload_n 1, 1) := by decide +kernel
theorem dX5_lowestFor_10 : decode cX5_lowestFor 10 = .ok (.iload_n 2, 1) := by decide +kernel
theorem dX5_lowestFor_11 : decode cX5_lowestFor 11 = .ok (.invokevirtual 96, 3) := by decide +kernel
theorem dX5_lowestFor_14 : decode cX5_lowestFor 14 = .ok (.ifCond .eq 5, 3) := by decide +kernel
theorem dX5_lowestFor_17 : decode cX5_lowestFor 17 = .ok (.iload_n 2, 1) := by decide +kernel
theorem dX5_lowestFor_18 : decode cX5_lowestFor 18 = .ok (.ireturn, 1) := by decide +kernel
theorem dX5_lowestFor_19 : decode cX5_lowestFor 19 = .ok (.iinc 2 1, 3) := by decide +kernel
theorem dX5_lowestFor_22 : decode cX5_lowestFor 22 = .ok (.goto (-20), 3) := by decide +kernel
theorem dX5_lowestFor_25 : decode cX5_lowestFor 25 = .ok (.iconst (-1), 1) := by decide +kernel
theorem dX5_lowestFor_26 : decode cX5_lowestFor 26 = .ok (.ireturn, 1) := by decide +kernel
theorem dX5_emptied_0 : decode cX5_emptied 0 = .ok (.aload_n 0, 1) := by decide +kernel
theorem dX5_emptied_1 : decode cX5_emptied 1 = .ok (.iconst 0, 1) := by decide +kernel
theorem dX5_emptied_2 : decode cX5_emptied 2 = .ok (.putfield 26, 3) := by decide +kernel
theorem dX5_emptied_5 : decode cX5_emptied 5 = .ok (.iload_n 1, 1) := by decide +kernel
theorem dX5_emptied_6 : decode cX5_emptied 6 = .ok (.iconst 0, 1) := by decide +kernel
theorem dX5_emptied_7 : decode cX5_emptied 7 = .ok (.iconst 1, 1) := by decide +kernel
theorem dX5_emptied_8 : decode cX5_emptied 8 = .ok (.invokestatic 30, 3) := by decide +kernel
theorem dX5_emptied_11 : decode cX5_emptied 11 = .ok (.ifCond .ne 6, 3) := by decide +kernel
theorem dX5_emptied_14 : decode cX5_emptied 14 = .ok (.ldc 67, 2) := by decide +kernel
theorem dX5_emptied_16 : decode cX5_emptied 16 = .ok (.ireturn, 1) := by decide +kernel
theorem dX5_emptied_17 : decode cX5_emptied 17 = .ok (.ldc 44, 2) := by decide +kernel
theorem dX5_emptied_19 : decode cX5_emptied 19 = .ok (.istore_n 2, 1) := by decide +kernel
theorem dX5_emptied_20 : decode cX5_emptied 20 = .ok (.iconst 0, 1) := by decide +kernel
theorem dX5_emptied_21 : decode cX5_emptied 21 = .ok (.istore_n 3, 1) := by decide +kernel
theorem dX5_emptied_22 : decode cX5_emptied 22 = .ok (.iload_n 3, 1) := by decide +kernel
theorem dX5_emptied_23 : decode cX5_emptied 23 = .ok (.bipush 8, 2) := by decide +kernel
theorem dX5_emptied_25 : decode cX5_emptied 25 = .ok (.if_icmp .ge 64, 3) := by decide +kernel
theorem dX5_emptied_28 : decode cX5_emptied 28 = .ok (.aload_n 0, 1) := by decide +kernel
theorem dX5_emptied_29 : decode cX5_emptied 29 = .ok (.iload_n 3, 1) := by decide +kernel
theorem dX5_emptied_30 : decode cX5_emptied 30 = .ok (.invokevirtual 106, 3) := by decide +kernel
theorem dX5_emptied_33 : decode cX5_emptied 33 = .ok (.ifCond .eq 15, 3) := by decide +kernel
theorem dX5_emptied_36 : decode cX5_emptied 36 = .ok (.aload_n 0, 1) := by decide +kernel
theorem dX5_emptied_37 : decode cX5_emptied 37 = .ok (.iload_n 3, 1) := by decide +kernel
theorem dX5_emptied_38 : decode cX5_emptied 38 = .ok (.invokevirtual 170, 3) := by decide +kernel
theorem dX5_emptied_41 : decode cX5_emptied 41 = .ok (.ifCond .eq 7, 3) := by decide +kernel
theorem dX5_emptied_44 : decode cX5_emptied 44 = .ok (.iconst 1, 1) := by decide +kernel
theorem dX5_emptied_45 : decode cX5_emptied 45 = .ok (.goto 4, 3) := by decide +kernel
theorem dX5_emptied_48 : decode cX5_emptied 48 = .ok (.iconst 0, 1) := by decide +kernel
theorem dX5_emptied_49 : decode cX5_emptied 49 = .ok (.istore 4, 2) := by decide +kernel
theorem dX5_emptied_51 : decode cX5_emptied 51 = .ok (.iload 4, 2) := by decide +kernel
theorem dX5_emptied_53 : decode cX5_emptied 53 = .ok (.ifCond .eq 28, 3) := by decide +kernel
theorem dX5_emptied_56 : decode cX5_emptied 56 = .ok (.iload_n 2, 1) := by decide +kernel
theorem dX5_emptied_57 : decode cX5_emptied 57 = .ok (.ldc 44, 2) := by decide +kernel
theorem dX5_emptied_59 : decode cX5_emptied 59 = .ok (.if_icmp .eq 18, 3) := by decide +kernel
theorem dX5_emptied_62 : decode cX5_emptied 62 = .ok (.aload_n 0, 1) := by decide +kernel
theorem dX5_emptied_63 : decode cX5_emptied 63 = .ok (.iload_n 3, 1) := by decide +kernel
theorem dX5_emptied_64 : decode cX5_emptied 64 = .ok (.iconst 1, 1) := by decide +kernel
theorem dX5_emptied_65 : decode cX5_emptied 65 = .ok (.invokevirtual 38, 3) := by decide +kernel
theorem dX5_emptied_68 : decode cX5_emptied 68 = .ok (.aload_n 0, 1) := by decide +kernel
theorem dX5_emptied_69 : decode cX5_emptied 69 = .ok (.iload_n 2, 1) := by decide +kernel
theorem dX5_emptied_70 : decode cX5_emptied 70 = .ok (.iconst 1, 1) := by decide +kernel
theorem dX5_emptied_71 : decode cX5_emptied 71 = .ok (.invokevirtual 38, 3) := by decide +kernel
theorem dX5_emptied_74 : decode cX5_emptied 74 = .ok (.if_icmp .le 7, 3) := by decide +kernel
theorem dX5_emptied_77 : decode cX5_emptied 77 = .ok (.iload_n 3, 1) := by decide +kernel
theorem dX5_emptied_78 : decode cX5_emptied 78 = .ok (.goto 4, 3) := by decide +kernel
theorem dX5_emptied_81 : decode cX5_emptied 81 = .ok (.iload_n 2, 1) := by decide +kernel
theorem dX5_emptied_82 : decode cX5_emptied 82 = .ok (.istore_n 2, 1) := by decide +kernel
theorem dX5_emptied_83 : decode cX5_emptied 83 = .ok (.iinc 3 1, 3) := by decide +kernel
theorem dX5_emptied_86 : decode cX5_emptied 86 = .ok (.goto (-64), 3) := by decide +kernel
theorem dX5_emptied_89 : decode cX5_emptied 89 = .ok (.iload_n 2, 1) := by decide +kernel
theorem dX5_emptied_90 : decode cX5_emptied 90 = .ok (.ldc 44, 2) := by decide +kernel
theorem dX5_emptied_92 : decode cX5_emptied 92 = .ok (.if_icmp .eq 7, 3) := by decide +kernel
theorem dX5_emptied_95 : decode cX5_emptied 95 = .ok (.iload_n 1, 1) := by decide +kernel
theorem dX5_emptied_96 : decode cX5_emptied 96 = .ok (.ifCond .ne 7, 3) := by decide +kernel
theorem dX5_emptied_99 : decode cX5_emptied 99 = .ok (.iload_n 2, 1) := by decide +kernel
theorem dX5_emptied_100 : decode cX5_emptied 100 = .ok (.goto 11, 3) := by decide +kernel
theorem dX5_emptied_103 : decode cX5_emptied 103 = .ok (.aload_n 0, 1) := by decide +kernel
theorem dX5_emptied_104 : decode cX5_emptied 104 = .ok (.iload_n 2, 1) := by decide +kernel
theorem dX5_emptied_105 : decode cX5_emptied 105 = .ok (.invokevirtual 106, 3) := by decide +kernel
theorem dX5_emptied_108 : decode cX5_emptied 108 = .ok (.invokestatic 146, 3) := by decide +kernel
theorem dX5_emptied_111 : decode cX5_emptied 111 = .ok (.ireturn, 1) := by decide +kernel
theorem dX5_fewest_0 : decode cX5_fewest 0 = .ok (.iconst 0, 1) := by decide +kernel
theorem dX5_fewest_1 : decode cX5_fewest 1 = .ok (.istore_n 1, 1) := by decide +kernel
theorem dX5_fewest_2 : decode cX5_fewest 2 = .ok (.iconst 0, 1) := by decide +kernel
theorem dX5_fewest_3 : decode cX5_fewest 3 = .ok (.istore_n 2, 1) := by decide +kernel
theorem dX5_fewest_4 : decode cX5_fewest 4 = .ok (.iload_n 2, 1) := by decide +kernel
theorem dX5_fewest_5 : decode cX5_fewest 5 = .ok (.bipush 48, 2) := by decide +kernel
theorem dX5_fewest_7 : decode cX5_fewest 7 = .ok (.if_icmp .ge 28, 3) := by decide +kernel
theorem dX5_fewest_10 : decode cX5_fewest 10 = .ok (.aload_n 0, 1) := by decide +kernel
theorem dX5_fewest_11 : decode cX5_fewest 11 = .ok (.iload_n 2, 1) := by decide +kernel
theorem dX5_fewest_12 : decode cX5_fewest 12 = .ok (.invokevirtual 152, 3) := by decide +kernel
theorem dX5_fewest_15 : decode cX5_fewest 15 = .ok (.iload_n 1, 1) := by decide +kernel
theorem dX5_fewest_16 : decode cX5_fewest 16 = .ok (.if_icmp .le 11, 3) := by decide +kernel
theorem dX5_fewest_19 : decode cX5_fewest 19 = .ok (.aload_n 0, 1) := by decide +kernel
theorem dX5_fewest_20 : decode cX5_fewest 20 = .ok (.iload_n 2, 1) := by decide +kernel
theorem dX5_fewest_21 : decode cX5_fewest 21 = .ok (.invokevirtual 152, 3) := by decide +kernel
theorem dX5_fewest_24 : decode cX5_fewest 24 = .ok (.goto 4, 3) := by decide +kernel
theorem dX5_fewest_27 : decode cX5_fewest 27 = .ok (.iload_n 1, 1) := by decide +kernel
theorem dX5_fewest_28 : decode cX5_fewest 28 = .ok (.istore_n 1, 1) := by decide +kernel
theorem dX5_fewest_29 : decode cX5_fewest 29 = .ok (.iinc 2 1, 3) := by decide +kernel
theorem dX5_fewest_32 : decode cX5_fewest 32 = .ok (.goto (-28), 3) := by decide +kernel
theorem dX5_fewest_35 : decode cX5_fewest 35 = .ok (.iload_n 1, 1) := by decide +kernel
theorem dX5_fewest_36 : decode cX5_fewest 36 = .ok (.ireturn, 1) := by decide +kernel
theorem dX5_hoursTaken_0 : decode cX5_hoursTaken 0 = .ok (.iconst 0, 1) := by decide +kernel
theorem dX5_hoursTaken_1 : decode cX5_hoursTaken 1 = .ok (.istore_n 1, 1) := by decide +kernel
theorem dX5_hoursTaken_2 : decode cX5_hoursTaken 2 = .ok (.iconst 0, 1) := by decide +kernel
theorem dX5_hoursTaken_3 : decode cX5_hoursTaken 3 = .ok (.istore_n 2, 1) := by decide +kernel
theorem dX5_hoursTaken_4 : decode cX5_hoursTaken 4 = .ok (.iload_n 2, 1) := by decide +kernel
theorem dX5_hoursTaken_5 : decode cX5_hoursTaken 5 = .ok (.bipush 8, 2) := by decide +kernel
theorem dX5_hoursTaken_7 : decode cX5_hoursTaken 7 = .ok (.if_icmp .ge 17, 3) := by decide +kernel
theorem dX5_hoursTaken_10 : decode cX5_hoursTaken 10 = .ok (.iload_n 1, 1) := by decide +kernel
theorem dX5_hoursTaken_11 : decode cX5_hoursTaken 11 = .ok (.aload_n 0, 1) := by decide +kernel
theorem dX5_hoursTaken_12 : decode cX5_hoursTaken 12 = .ok (.iload_n 2, 1) := by decide +kernel
theorem dX5_hoursTaken_13 : decode cX5_hoursTaken 13 = .ok (.invokevirtual 48, 3) := by decide +kernel
theorem dX5_hoursTaken_16 : decode cX5_hoursTaken 16 = .ok (.iadd, 1) := by decide +kernel
theorem dX5_hoursTaken_17 : decode cX5_hoursTaken 17 = .ok (.istore_n 1, 1) := by decide +kernel
theorem dX5_hoursTaken_18 : decode cX5_hoursTaken 18 = .ok (.iinc 2 1, 3) := by decide +kernel
theorem dX5_hoursTaken_21 : decode cX5_hoursTaken 21 = .ok (.goto (-17), 3) := by decide +kernel
theorem dX5_hoursTaken_24 : decode cX5_hoursTaken 24 = .ok (.iload_n 1, 1) := by decide +kernel
theorem dX5_hoursTaken_25 : decode cX5_hoursTaken 25 = .ok (.ireturn, 1) := by decide +kernel
theorem dX5_count_0 : decode cX5_count 0 = .ok (.aload_n 0, 1) := by decide +kernel
theorem dX5_count_1 : decode cX5_count 1 = .ok (.iconst 0, 1) := by decide +kernel
theorem dX5_count_2 : decode cX5_count 2 = .ok (.putfield 26, 3) := by decide +kernel
theorem dX5_count_5 : decode cX5_count 5 = .ok (.iload_n 1, 1) := by decide +kernel
theorem dX5_count_6 : decode cX5_count 6 = .ok (.tableswitch 163 0 20 #[98, 103, 110, 115, 122, 129, 134, 139, 146, 151, 163, 163, 163, 163, 163, 163, 163, 163, 163, 163, 156], 98) := by decide +kernel
theorem dX5_count_104 : decode cX5_count 104 = .ok (.aload_n 0, 1) := by decide +kernel
theorem dX5_count_105 : decode cX5_count 105 = .ok (.invokevirtual 158, 3) := by decide +kernel
theorem dX5_count_108 : decode cX5_count 108 = .ok (.ireturn, 1) := by decide +kernel
theorem dX5_count_109 : decode cX5_count 109 = .ok (.aload_n 0, 1) := by decide +kernel
theorem dX5_count_110 : decode cX5_count 110 = .ok (.getfield 7, 3) := by decide +kernel
theorem dX5_count_113 : decode cX5_count 113 = .ok (.iconst 1, 1) := by decide +kernel
theorem dX5_count_114 : decode cX5_count 114 = .ok (.iaload, 1) := by decide +kernel
theorem dX5_count_115 : decode cX5_count 115 = .ok (.ireturn, 1) := by decide +kernel
theorem dX5_count_116 : decode cX5_count 116 = .ok (.aload_n 0, 1) := by decide +kernel
theorem dX5_count_117 : decode cX5_count 117 = .ok (.invokevirtual 109, 3) := by decide +kernel
theorem dX5_count_120 : decode cX5_count 120 = .ok (.ireturn, 1) := by decide +kernel
theorem dX5_count_121 : decode cX5_count 121 = .ok (.aload_n 0, 1) := by decide +kernel
theorem dX5_count_122 : decode cX5_count 122 = .ok (.getfield 7, 3) := by decide +kernel
theorem dX5_count_125 : decode cX5_count 125 = .ok (.iconst 2, 1) := by decide +kernel
theorem dX5_count_126 : decode cX5_count 126 = .ok (.iaload, 1) := by decide +kernel
theorem dX5_count_127 : decode cX5_count 127 = .ok (.ireturn, 1) := by decide +kernel
theorem dX5_count_128 : decode cX5_count 128 = .ok (.aload_n 0, 1) := by decide +kernel
theorem dX5_count_129 : decode cX5_count 129 = .ok (.getfield 7, 3) := by decide +kernel
theorem dX5_count_132 : decode cX5_count 132 = .ok (.iconst 3, 1) := by decide +kernel
theorem dX5_count_133 : decode cX5_count 133 = .ok (.iaload, 1) := by decide +kernel
theorem dX5_count_134 : decode cX5_count 134 = .ok (.ireturn, 1) := by decide +kernel
theorem dX5_count_135 : decode cX5_count 135 = .ok (.aload_n 0, 1) := by decide +kernel
theorem dX5_count_136 : decode cX5_count 136 = .ok (.invokevirtual 173, 3) := by decide +kernel
theorem dX5_count_139 : decode cX5_count 139 = .ok (.ireturn, 1) := by decide +kernel
theorem dX5_count_140 : decode cX5_count 140 = .ok (.aload_n 0, 1) := by decide +kernel
theorem dX5_count_141 : decode cX5_count 141 = .ok (.invokevirtual 176, 3) := by decide +kernel
theorem dX5_count_144 : decode cX5_count 144 = .ok (.ireturn, 1) := by decide +kernel
theorem dX5_count_145 : decode cX5_count 145 = .ok (.aload_n 0, 1) := by decide +kernel
theorem dX5_count_146 : decode cX5_count 146 = .ok (.getfield 7, 3) := by decide +kernel
theorem dX5_count_149 : decode cX5_count 149 = .ok (.iconst 4, 1) := by decide +kernel
theorem dX5_count_150 : decode cX5_count 150 = .ok (.iaload, 1) := by decide +kernel
theorem dX5_count_151 : decode cX5_count 151 = .ok (.ireturn, 1) := by decide +kernel
theorem dX5_count_152 : decode cX5_count 152 = .ok (.aload_n 0, 1) := by decide +kernel
theorem dX5_count_153 : decode cX5_count 153 = .ok (.getfield 41, 3) := by decide +kernel
theorem dX5_count_156 : decode cX5_count 156 = .ok (.ireturn, 1) := by decide +kernel
theorem dX5_count_157 : decode cX5_count 157 = .ok (.aload_n 0, 1) := by decide +kernel
theorem dX5_count_158 : decode cX5_count 158 = .ok (.getfield 179, 3) := by decide +kernel
theorem dX5_count_161 : decode cX5_count 161 = .ok (.ireturn, 1) := by decide +kernel
theorem dX5_count_162 : decode cX5_count 162 = .ok (.aload_n 0, 1) := by decide +kernel
theorem dX5_count_163 : decode cX5_count 163 = .ok (.getfield 7, 3) := by decide +kernel
theorem dX5_count_166 : decode cX5_count 166 = .ok (.iconst 0, 1) := by decide +kernel
theorem dX5_count_167 : decode cX5_count 167 = .ok (.iaload, 1) := by decide +kernel
theorem dX5_count_168 : decode cX5_count 168 = .ok (.ireturn, 1) := by decide +kernel
theorem dX5_count_169 : decode cX5_count 169 = .ok (.ldc 67, 2) := by decide +kernel
theorem dX5_count_171 : decode cX5_count 171 = .ok (.ireturn, 1) := by decide +kernel
theorem dX5_undo_0 : decode cX5_undo 0 = .ok (.aload_n 0, 1) := by decide +kernel
theorem dX5_undo_1 : decode cX5_undo 1 = .ok (.iconst 0, 1) := by decide +kernel
theorem dX5_undo_2 : decode cX5_undo 2 = .ok (.putfield 26, 3) := by decide +kernel
theorem dX5_undo_5 : decode cX5_undo 5 = .ok (.aload_n 0, 1) := by decide +kernel
theorem dX5_undo_6 : decode cX5_undo 6 = .ok (.getfield 41, 3) := by decide +kernel
theorem dX5_undo_9 : decode cX5_undo 9 = .ok (.ifCond .ne 6, 3) := by decide +kernel
theorem dX5_undo_12 : decode cX5_undo 12 = .ok (.ldc 72, 2) := by decide +kernel
theorem dX5_undo_14 : decode cX5_undo 14 = .ok (.ireturn, 1) := by decide +kernel
theorem dX5_undo_15 : decode cX5_undo 15 = .ok (.aload_n 0, 1) := by decide +kernel
theorem dX5_undo_16 : decode cX5_undo 16 = .ok (.dup, 1) := by decide +kernel
theorem dX5_undo_17 : decode cX5_undo 17 = .ok (.getfield 41, 3) := by decide +kernel
theorem dX5_undo_20 : decode cX5_undo 20 = .ok (.iconst 1, 1) := by decide +kernel
theorem dX5_undo_21 : decode cX5_undo 21 = .ok (.isub, 1) := by decide +kernel
theorem dX5_undo_22 : decode cX5_undo 22 = .ok (.putfield 41, 3) := by decide +kernel
theorem dX5_undo_25 : decode cX5_undo 25 = .ok (.iconst 0, 1) := by decide +kernel
theorem dX5_undo_26 : decode cX5_undo 26 = .ok (.istore_n 1, 1) := by decide +kernel
theorem dX5_undo_27 : decode cX5_undo 27 = .ok (.iload_n 1, 1) := by decide +kernel
theorem dX5_undo_28 : decode cX5_undo 28 = .ok (.bipush 109, 2) := by decide +kernel
theorem dX5_undo_30 : decode cX5_undo 30 = .ok (.if_icmp .ge 29, 3) := by decide +kernel
theorem dX5_undo_33 : decode cX5_undo 33 = .ok (.aload_n 0, 1) := by decide +kernel
theorem dX5_undo_34 : decode cX5_undo 34 = .ok (.getfield 7, 3) := by decide +kernel
theorem dX5_undo_37 : decode cX5_undo 37 = .ok (.iload_n 1, 1) := by decide +kernel
theorem dX5_undo_38 : decode cX5_undo 38 = .ok (.aload_n 0, 1) := by decide +kernel
theorem dX5_undo_39 : decode cX5_undo 39 = .ok (.getfield 16, 3) := by decide +kernel
theorem dX5_undo_42 : decode cX5_undo 42 = .ok (.bipush 109, 2) := by decide +kernel
theorem dX5_undo_44 : decode cX5_undo 44 = .ok (.aload_n 0, 1) := by decide +kernel
theorem dX5_undo_45 : decode cX5_undo 45 = .ok (.getfield 41, 3) := by decide +kernel
theorem dX5_undo_48 : decode cX5_undo 48 = .ok (.imul, 1) := by decide +kernel
theorem dX5_undo_49 : decode cX5_undo 49 = .ok (.iload_n 1, 1) := by decide +kernel
theorem dX5_undo_50 : decode cX5_undo 50 = .ok (.iadd, 1) := by decide +kernel
theorem dX5_undo_51 : decode cX5_undo 51 = .ok (.iaload, 1) := by decide +kernel
theorem dX5_undo_52 : decode cX5_undo 52 = .ok (.iastore, 1) := by decide +kernel
theorem dX5_undo_53 : decode cX5_undo 53 = .ok (.iinc 1 1, 3) := by decide +kernel
theorem dX5_undo_56 : decode cX5_undo 56 = .ok (.goto (-29), 3) := by decide +kernel
theorem dX5_undo_59 : decode cX5_undo 59 = .ok (.aload_n 0, 1) := by decide +kernel
theorem dX5_undo_60 : decode cX5_undo 60 = .ok (.getfield 41, 3) := by decide +kernel
theorem dX5_undo_63 : decode cX5_undo 63 = .ok (.ireturn, 1) := by decide +kernel
theorem dX5_type_0 : decode cX5_type 0 = .ok (.aload_n 0, 1) := by decide +kernel
theorem dX5_type_1 : decode cX5_type 1 = .ok (.iconst 0, 1) := by decide +kernel
theorem dX5_type_2 : decode cX5_type 2 = .ok (.putfield 26, 3) := by decide +kernel
theorem dX5_type_5 : decode cX5_type 5 = .ok (.iload_n 1, 1) := by decide +kernel
theorem dX5_type_6 : decode cX5_type 6 = .ok (.bipush 32, 2) := by decide +kernel
theorem dX5_type_8 : decode cX5_type 8 = .ok (.bipush 126, 2) := by decide +kernel
theorem dX5_type_10 : decode cX5_type 10 = .ok (.invokestatic 30, 3) := by decide +kernel
theorem dX5_type_13 : decode cX5_type 13 = .ok (.ifCond .ne 6, 3) := by decide +kernel
theorem dX5_type_16 : decode cX5_type 16 = .ok (.ldc 67, 2) := by decide +kernel
theorem dX5_type_18 : decode cX5_type 18 = .ok (.ireturn, 1) := by decide +kernel
theorem dX5_type_19 : decode cX5_type 19 = .ok (.aload_n 0, 1) := by decide +kernel
theorem dX5_type_20 : decode cX5_type 20 = .ok (.getfield 179, 3) := by decide +kernel
theorem dX5_type_23 : decode cX5_type 23 = .ok (.bipush 60, 2) := by decide +kernel
theorem dX5_type_25 : decode cX5_type 25 = .ok (.if_icmp .ne 6, 3) := by decide +kernel
theorem dX5_type_28 : decode cX5_type 28 = .ok (.ldc 73, 2) := by decide +kernel
theorem dX5_type_30 : decode cX5_type 30 = .ok (.ireturn, 1) := by decide +kernel
theorem dX5_type_31 : decode cX5_type 31 = .ok (.aload_n 0, 1) := by decide +kernel
theorem dX5_type_32 : decode cX5_type 32 = .ok (.getfield 19, 3) := by decide +kernel
theorem dX5_type_35 : decode cX5_type 35 = .ok (.aload_n 0, 1) := by decide +kernel
theorem dX5_type_36 : decode cX5_type 36 = .ok (.getfield 179, 3) := by decide +kernel
theorem dX5_type_39 : decode cX5_type 39 = .ok (.iload_n 1, 1) := by decide +kernel
theorem dX5_type_40 : decode cX5_type 40 = .ok (.iastore, 1) := by decide +kernel
theorem dX5_type_41 : decode cX5_type 41 = .ok (.aload_n 0, 1) := by decide +kernel
theorem dX5_type_42 : decode cX5_type 42 = .ok (.dup, 1) := by decide +kernel
theorem dX5_type_43 : decode cX5_type 43 = .ok (.getfield 179, 3) := by decide +kernel
theorem dX5_type_46 : decode cX5_type 46 = .ok (.iconst 1, 1) := by decide +kernel
theorem dX5_type_47 : decode cX5_type 47 = .ok (.iadd, 1) := by decide +kernel
theorem dX5_type_48 : decode cX5_type 48 = .ok (.putfield 179, 3) := by decide +kernel
theorem dX5_type_51 : decode cX5_type 51 = .ok (.aload_n 0, 1) := by decide +kernel
theorem dX5_type_52 : decode cX5_type 52 = .ok (.getfield 179, 3) := by decide +kernel
theorem dX5_type_55 : decode cX5_type 55 = .ok (.ireturn, 1) := by decide +kernel
theorem dX5_clearText_0 : decode cX5_clearText 0 = .ok (.aload_n 0, 1) := by decide +kernel
theorem dX5_clearText_1 : decode cX5_clearText 1 = .ok (.iconst 0, 1) := by decide +kernel
theorem dX5_clearText_2 : decode cX5_clearText 2 = .ok (.putfield 26, 3) := by decide +kernel
theorem dX5_clearText_5 : decode cX5_clearText 5 = .ok (.aload_n 0, 1) := by decide +kernel
theorem dX5_clearText_6 : decode cX5_clearText 6 = .ok (.getfield 179, 3) := by decide +kernel
theorem dX5_clearText_9 : decode cX5_clearText 9 = .ok (.istore_n 1, 1) := by decide +kernel
theorem dX5_clearText_10 : decode cX5_clearText 10 = .ok (.aload_n 0, 1) := by decide +kernel
theorem dX5_clearText_11 : decode cX5_clearText 11 = .ok (.iconst 0, 1) := by decide +kernel
theorem dX5_clearText_12 : decode cX5_clearText 12 = .ok (.putfield 179, 3) := by decide +kernel
theorem dX5_clearText_15 : decode cX5_clearText 15 = .ok (.iload_n 1, 1) := by decide +kernel
theorem dX5_clearText_16 : decode cX5_clearText 16 = .ok (.ireturn, 1) := by decide +kernel
theorem dX5_sign_0 : decode cX5_sign 0 = .ok (.aload_n 0, 1) := by decide +kernel
theorem dX5_sign_1 : decode cX5_sign 1 = .ok (.getfield 182, 3) := by decide +kernel
theorem dX5_sign_4 : decode cX5_sign 4 = .ok (.aload_n 0, 1) := by decide +kernel
theorem dX5_sign_5 : decode cX5_sign 5 = .ok (.getfield 179, 3) := by decide +kernel
theorem dX5_sign_8 : decode cX5_sign 8 = .ok (.if_icmp .ge 15, 3) := by decide +kernel
theorem dX5_sign_11 : decode cX5_sign 11 = .ok (.aload_n 0, 1) := by decide +kernel
theorem dX5_sign_12 : decode cX5_sign 12 = .ok (.getfield 19, 3) := by decide +kernel
theorem dX5_sign_15 : decode cX5_sign 15 = .ok (.aload_n 0, 1) := by decide +kernel
theorem dX5_sign_16 : decode cX5_sign 16 = .ok (.getfield 182, 3) := by decide +kernel
theorem dX5_sign_19 : decode cX5_sign 19 = .ok (.iaload, 1) := by decide +kernel
theorem dX5_sign_20 : decode cX5_sign 20 = .ok (.goto 4, 3) := by decide +kernel
theorem dX5_sign_23 : decode cX5_sign 23 = .ok (.iconst 0, 1) := by decide +kernel
theorem dX5_sign_24 : decode cX5_sign 24 = .ok (.ireturn, 1) := by decide +kernel
theorem dX5_wants_0 : decode cX5_wants 0 = .ok (.aload_n 0, 1) := by decide +kernel
theorem dX5_wants_1 : decode cX5_wants 1 = .ok (.aload_n 0, 1) := by decide +kernel
theorem dX5_wants_2 : decode cX5_wants 2 = .ok (.getfield 185, 3) := by decide +kernel
theorem dX5_wants_5 : decode cX5_wants 5 = .ok (.ifCond .eq 15, 3) := by decide +kernel
theorem dX5_wants_8 : decode cX5_wants 8 = .ok (.aload_n 0, 1) := by decide +kernel
theorem dX5_wants_9 : decode cX5_wants 9 = .ok (.invokevirtual 189, 3) := by decide +kernel
theorem dX5_wants_12 : decode cX5_wants 12 = .ok (.iload_n 1, 1) := by decide +kernel
theorem dX5_wants_13 : decode cX5_wants 13 = .ok (.if_icmp .ne 7, 3) := by decide +kernel
theorem dX5_wants_16 : decode cX5_wants 16 = .ok (.iconst 1, 1) := by decide +kernel
theorem dX5_wants_17 : decode cX5_wants 17 = .ok (.goto 4, 3) := by decide +kernel
theorem dX5_wants_20 : decode cX5_wants 20 = .ok (.iconst 0, 1) := by decide +kernel
theorem dX5_wants_21 : decode cX5_wants 21 = .ok (.putfield 185, 3) := by decide +kernel
theorem dX5_wants_24 : decode cX5_wants 24 = .ok (.aload_n 0, 1) := by decide +kernel
theorem dX5_wants_25 : decode cX5_wants 25 = .ok (.dup, 1) := by decide +kernel
theorem dX5_wants_26 : decode cX5_wants 26 = .ok (.getfield 182, 3) := by decide +kernel
theorem dX5_wants_29 : decode cX5_wants 29 = .ok (.aload_n 0, 1) := by decide +kernel
theorem dX5_wants_30 : decode cX5_wants 30 = .ok (.getfield 185, 3) := by decide +kernel
theorem dX5_wants_33 : decode cX5_wants 33 = .ok (.ifCond .eq 7, 3) := by decide +kernel
theorem dX5_wants_36 : decode cX5_wants 36 = .ok (.iconst 1, 1) := by decide +kernel
theorem dX5_wants_37 : decode cX5_wants 37 = .ok (.goto 4, 3) := by decide +kernel
theorem dX5_wants_40 : decode cX5_wants 40 = .ok (.iconst 0, 1) := by decide +kernel
theorem dX5_wants_41 : decode cX5_wants 41 = .ok (.iadd, 1) := by decide +kernel
theorem dX5_wants_42 : decode cX5_wants 42 = .ok (.putfield 182, 3) := by decide +kernel
theorem dX5_wants_45 : decode cX5_wants 45 = .ok (.return_, 1) := by decide +kernel
theorem dX5_number_0 : decode cX5_number 0 = .ok (.aload_n 0, 1) := by decide +kernel
theorem dX5_number_1 : decode cX5_number 1 = .ok (.aload_n 0, 1) := by decide +kernel
theorem dX5_number_2 : decode cX5_number 2 = .ok (.getfield 185, 3) := by decide +kernel
theorem dX5_number_5 : decode cX5_number 5 = .ok (.ifCond .eq 21, 3) := by decide +kernel
theorem dX5_number_8 : decode cX5_number 8 = .ok (.aload_n 0, 1) := by decide +kernel
theorem dX5_number_9 : decode cX5_number 9 = .ok (.invokevirtual 189, 3) := by decide +kernel
theorem dX5_number_12 : decode cX5_number 12 = .ok (.bipush 48, 2) := by decide +kernel
theorem dX5_number_14 : decode cX5_number 14 = .ok (.bipush 57, 2) := by decide +kernel
theorem dX5_number_16 : decode cX5_number 16 = .ok (.invokestatic 30, 3) := by decide +kernel
theorem dX5_number_19 : decode cX5_number 19 = .ok (.ifCond .eq 7, 3) := by decide +kernel
theorem dX5_number_22 : decode cX5_number 22 = .ok (.iconst 1, 1) := by decide +kernel
theorem dX5_number_23 : decode cX5_number 23 = .ok (.goto 4, 3) := by decide +kernel
theorem dX5_number_26 : decode cX5_number 26 = .ok (.iconst 0, 1) := by decide +kernel
theorem dX5_number_27 : decode cX5_number 27 = .ok (.putfield 185, 3) := by decide +kernel
theorem dX5_number_30 : decode cX5_number 30 = .ok (.aload_n 0, 1) := by decide +kernel
theorem dX5_number_31 : decode cX5_number 31 = .ok (.invokevirtual 189, 3) := by decide +kernel
theorem dX5_number_34 : decode cX5_number 34 = .ok (.bipush 48, 2) := by decide +kernel
theorem dX5_number_36 : decode cX5_number 36 = .ok (.isub, 1) := by decide +kernel
theorem dX5_number_37 : decode cX5_number 37 = .ok (.istore_n 1, 1) := by decide +kernel
theorem dX5_number_38 : decode cX5_number 38 = .ok (.aload_n 0, 1) := by decide +kernel
theorem dX5_number_39 : decode cX5_number 39 = .ok (.dup, 1) := by decide +kernel
theorem dX5_number_40 : decode cX5_number 40 = .ok (.getfield 182, 3) := by decide +kernel
theorem dX5_number_43 : decode cX5_number 43 = .ok (.aload_n 0, 1) := by decide +kernel
theorem dX5_number_44 : decode cX5_number 44 = .ok (.getfield 185, 3) := by decide +kernel
theorem dX5_number_47 : decode cX5_number 47 = .ok (.ifCond .eq 7, 3) := by decide +kernel
theorem dX5_number_50 : decode cX5_number 50 = .ok (.iconst 1, 1) := by decide +kernel
theorem dX5_number_51 : decode cX5_number 51 = .ok (.goto 4, 3) := by decide +kernel
theorem dX5_number_54 : decode cX5_number 54 = .ok (.iconst 0, 1) := by decide +kernel
theorem dX5_number_55 : decode cX5_number 55 = .ok (.iadd, 1) := by decide +kernel
theorem dX5_number_56 : decode cX5_number 56 = .ok (.putfield 182, 3) := by decide +kernel
theorem dX5_number_59 : decode cX5_number 59 = .ok (.aload_n 0, 1) := by decide +kernel
theorem dX5_number_60 : decode cX5_number 60 = .ok (.getfield 185, 3) := by decide +kernel
theorem dX5_number_63 : decode cX5_number 63 = .ok (.ifCond .eq 40, 3) := by decide +kernel
theorem dX5_number_66 : decode cX5_number 66 = .ok (.aload_n 0, 1) := by decide +kernel
theorem dX5_number_67 : decode cX5_number 67 = .ok (.invokevirtual 189, 3) := by decide +kernel
theorem dX5_number_70 : decode cX5_number 70 = .ok (.bipush 48, 2) := by decide +kernel
theorem dX5_number_72 : decode cX5_number 72 = .ok (.bipush 57, 2) := by decide +kernel
theorem dX5_number_74 : decode cX5_number 74 = .ok (.invokestatic 30, 3) := by decide +kernel
theorem dX5_number_77 : decode cX5_number 77 = .ok (.ifCond .eq 26, 3) := by decide +kernel
theorem dX5_number_80 : decode cX5_number 80 = .ok (.bipush 10, 2) := by decide +kernel
theorem dX5_number_82 : decode cX5_number 82 = .ok (.iload_n 1, 1) := by decide +kernel
theorem dX5_number_83 : decode cX5_number 83 = .ok (.imul, 1) := by decide +kernel
theorem dX5_number_84 : decode cX5_number 84 = .ok (.aload_n 0, 1) := by decide +kernel
theorem dX5_number_85 : decode cX5_number 85 = .ok (.invokevirtual 189, 3) := by decide +kernel
theorem dX5_number_88 : decode cX5_number 88 = .ok (.iadd, 1) := by decide +kernel
theorem dX5_number_89 : decode cX5_number 89 = .ok (.bipush 48, 2) := by decide +kernel
theorem dX5_number_91 : decode cX5_number 91 = .ok (.isub, 1) := by decide +kernel
theorem dX5_number_92 : decode cX5_number 92 = .ok (.istore_n 1, 1) := by decide +kernel
theorem dX5_number_93 : decode cX5_number 93 = .ok (.aload_n 0, 1) := by decide +kernel
theorem dX5_number_94 : decode cX5_number 94 = .ok (.dup, 1) := by decide +kernel
theorem dX5_number_95 : decode cX5_number 95 = .ok (.getfield 182, 3) := by decide +kernel
theorem dX5_number_98 : decode cX5_number 98 = .ok (.iconst 1, 1) := by decide +kernel
theorem dX5_number_99 : decode cX5_number 99 = .ok (.iadd, 1) := by decide +kernel
theorem dX5_number_100 : decode cX5_number 100 = .ok (.putfield 182, 3) := by decide +kernel
theorem dX5_number_103 : decode cX5_number 103 = .ok (.iload_n 1, 1) := by decide +kernel
theorem dX5_number_104 : decode cX5_number 104 = .ok (.ireturn, 1) := by decide +kernel
theorem dX5_order_0 : decode cX5_order 0 = .ok (.aload_n 0, 1) := by decide +kernel
theorem dX5_order_1 : decode cX5_order 1 = .ok (.invokevirtual 189, 3) := by decide +kernel
theorem dX5_order_4 : decode cX5_order 4 = .ok (.istore_n 1, 1) := by decide +kernel
theorem dX5_order_5 : decode cX5_order 5 = .ok (.aload_n 0, 1) := by decide +kernel
theorem dX5_order_6 : decode cX5_order 6 = .ok (.iload_n 1, 1) := by decide +kernel
theorem dX5_order_7 : decode cX5_order 7 = .ok (.bipush 116, 2) := by decide +kernel
theorem dX5_order_9 : decode cX5_order 9 = .ok (.if_icmp .eq 21, 3) := by decide +kernel
theorem dX5_order_12 : decode cX5_order 12 = .ok (.iload_n 1, 1) := by decide +kernel
theorem dX5_order_13 : decode cX5_order 13 = .ok (.bipush 119, 2) := by decide +kernel
theorem dX5_order_15 : decode cX5_order 15 = .ok (.if_icmp .eq 15, 3) := by decide +kernel
theorem dX5_order_18 : decode cX5_order 18 = .ok (.iload_n 1, 1) := by decide +kernel
theorem dX5_order_19 : decode cX5_order 19 = .ok (.bipush 114, 2) := by decide +kernel
theorem dX5_order_21 : decode cX5_order 21 = .ok (.if_icmp .eq 9, 3) := by decide +kernel
theorem dX5_order_24 : decode cX5_order 24 = .ok (.iload_n 1, 1) := by decide +kernel
theorem dX5_order_25 : decode cX5_order 25 = .ok (.bipush 117, 2) := by decide +kernel
theorem dX5_order_27 : decode cX5_order 27 = .ok (.if_icmp .ne 7, 3) := by decide +kernel
theorem dX5_order_30 : decode cX5_order 30 = .ok (.iconst 1, 1) := by decide +kernel
theorem dX5_order_31 : decode cX5_order 31 = .ok (.goto 4, 3) := by decide +kernel
theorem dX5_order_34 : decode cX5_order 34 = .ok (.iconst 0, 1) := by decide +kernel
theorem dX5_order_35 : decode cX5_order 35 = .ok (.putfield 185, 3) := by decide +kernel
theorem dX5_order_38 : decode cX5_order 38 = .ok (.aload_n 0, 1) := by decide +kernel
theorem dX5_order_39 : decode cX5_order 39 = .ok (.dup, 1) := by decide +kernel
theorem dX5_order_40 : decode cX5_order 40 = .ok (.getfield 182, 3) := by decide +kernel
theorem dX5_order_43 : decode cX5_order 43 = .ok (.aload_n 0, 1) := by decide +kernel
theorem dX5_order_44 : decode cX5_order 44 = .ok (.getfield 185, 3) := by decide +kernel
theorem dX5_order_47 : decode cX5_order 47 = .ok (.ifCond .eq 7, 3) := by decide +kernel
theorem dX5_order_50 : decode cX5_order 50 = .ok (.iconst 1, 1) := by decide +kernel
theorem dX5_order_51 : decode cX5_order 51 = .ok (.goto 4, 3) := by decide +kernel
theorem dX5_order_54 : decode cX5_order 54 = .ok (.iconst 0, 1) := by decide +kernel
theorem dX5_order_55 : decode cX5_order 55 = .ok (.iadd, 1) := by decide +kernel
theorem dX5_order_56 : decode cX5_order 56 = .ok (.putfield 182, 3) := by decide +kernel
theorem dX5_order_59 : decode cX5_order 59 = .ok (.aload_n 0, 1) := by decide +kernel
theorem dX5_order_60 : decode cX5_order 60 = .ok (.invokevirtual 192, 3) := by decide +kernel
theorem dX5_order_63 : decode cX5_order 63 = .ok (.istore_n 2, 1) := by decide +kernel
theorem dX5_order_64 : decode cX5_order 64 = .ok (.iconst 0, 1) := by decide +kernel
theorem dX5_order_65 : decode cX5_order 65 = .ok (.istore_n 3, 1) := by decide +kernel
theorem dX5_order_66 : decode cX5_order 66 = .ok (.iconst 0, 1) := by decide +kernel
theorem dX5_order_67 : decode cX5_order 67 = .ok (.istore 4, 2) := by decide +kernel
theorem dX5_order_69 : decode cX5_order 69 = .ok (.iload_n 1, 1) := by decide +kernel
theorem dX5_order_70 : decode cX5_order 70 = .ok (.bipush 116, 2) := by decide +kernel
theorem dX5_order_72 : decode cX5_order 72 = .ok (.if_icmp .eq 9, 3) := by decide +kernel
theorem dX5_order_75 : decode cX5_order 75 = .ok (.iload_n 1, 1) := by decide +kernel
theorem dX5_order_76 : decode cX5_order 76 = .ok (.bipush 114, 2) := by decide +kernel
theorem dX5_order_78 : decode cX5_order 78 = .ok (.if_icmp .ne 26, 3) := by decide +kernel
theorem dX5_order_81 : decode cX5_order 81 = .ok (.aload_n 0, 1) := by decide +kernel
theorem dX5_order_82 : decode cX5_order 82 = .ok (.bipush 44, 2) := by decide +kernel
theorem dX5_order_84 : decode cX5_order 84 = .ok (.invokevirtual 195, 3) := by decide +kernel
theorem dX5_order_87 : decode cX5_order 87 = .ok (.aload_n 0, 1) := by decide +kernel
theorem dX5_order_88 : decode cX5_order 88 = .ok (.invokevirtual 192, 3) := by decide +kernel
theorem dX5_order_91 : decode cX5_order 91 = .ok (.istore_n 3, 1) := by decide +kernel
theorem dX5_order_92 : decode cX5_order 92 = .ok (.aload_n 0, 1) := by decide +kernel
theorem dX5_order_93 : decode cX5_order 93 = .ok (.bipush 44, 2) := by decide +kernel
theorem dX5_order_95 : decode cX5_order 95 = .ok (.invokevirtual 195, 3) := by decide +kernel
theorem dX5_order_98 : decode cX5_order 98 = .ok (.aload_n 0, 1) := by decide +kernel
theorem dX5_order_99 : decode cX5_order 99 = .ok (.invokevirtual 192, 3) := by decide +kernel
theorem dX5_order_102 : decode cX5_order 102 = .ok (.istore 4, 2) := by decide +kernel
theorem dX5_order_104 : decode cX5_order 104 = .ok (.aload_n 0, 1) := by decide +kernel
theorem dX5_order_105 : decode cX5_order 105 = .ok (.bipush 59, 2) := by decide +kernel
theorem dX5_order_107 : decode cX5_order 107 = .ok (.invokevirtual 195, 3) := by decide +kernel
theorem dX5_order_110 : decode cX5_order 110 = .ok (.aload_n 0, 1) := by decide +kernel
theorem dX5_order_111 : decode cX5_order 111 = .ok (.getfield 185, 3) := by decide +kernel
theorem dX5_order_114 : decode cX5_order 114 = .ok (.ifCond .eq 15, 3) := by decide +kernel
theorem dX5_order_117 : decode cX5_order 117 = .ok (.aload_n 0, 1) := by decide +kernel
theorem dX5_order_118 : decode cX5_order 118 = .ok (.iload_n 1, 1) := by decide +kernel
theorem dX5_order_119 : decode cX5_order 119 = .ok (.iload_n 2, 1) := by decide +kernel
theorem dX5_order_120 : decode cX5_order 120 = .ok (.iload_n 3, 1) := by decide +kernel
theorem dX5_order_121 : decode cX5_order 121 = .ok (.iload 4, 2) := by decide +kernel
theorem dX5_order_123 : decode cX5_order 123 = .ok (.invokevirtual 198, 3) := by decide +kernel
theorem dX5_order_126 : decode cX5_order 126 = .ok (.goto 4, 3) := by decide +kernel
theorem dX5_order_129 : decode cX5_order 129 = .ok (.iconst 0, 1) := by decide +kernel
theorem dX5_order_130 : decode cX5_order 130 = .ok (.ireturn, 1) := by decide +kernel
theorem dX5_does_0 : decode cX5_does 0 = .ok (.iconst 0, 1) := by decide +kernel
theorem dX5_does_1 : decode cX5_does 1 = .ok (.istore 5, 2) := by decide +kernel
theorem dX5_does_3 : decode cX5_does 3 = .ok (.iload_n 1, 1) := by decide +kernel
theorem dX5_does_4 : decode cX5_does 4 = .ok (.bipush 116, 2) := by decide +kernel
theorem dX5_does_6 : decode cX5_does 6 = .ok (.if_icmp .ne 30, 3) := by decide +kernel
theorem dX5_does_9 : decode cX5_does 9 = .ok (.aload_n 0, 1) := by decide +kernel
theorem dX5_does_10 : decode cX5_does 10 = .ok (.iload_n 2, 1) := by decide +kernel
theorem dX5_does_11 : decode cX5_does 11 = .ok (.iload_n 3, 1) := by decide +kernel
theorem dX5_does_12 : decode cX5_does 12 = .ok (.iload 4, 2) := by decide +kernel
theorem dX5_does_14 : decode cX5_does 14 = .ok (.invokevirtual 78, 3) := by decide +kernel
theorem dX5_does_17 : decode cX5_does 17 = .ok (.istore 5, 2) := by decide +kernel
theorem dX5_does_19 : decode cX5_does 19 = .ok (.iload 5, 2) := by decide +kernel
theorem dX5_does_21 : decode cX5_does 21 = .ok (.ifCond .ne 122, 3) := by decide +kernel
theorem dX5_does_24 : decode cX5_does 24 = .ok (.aload_n 0, 1) := by decide +kernel
theorem dX5_does_25 : decode cX5_does 25 = .ok (.iload_n 2, 1) := by decide +kernel
theorem dX5_does_26 : decode cX5_does 26 = .ok (.iload_n 3, 1) := by decide +kernel
theorem dX5_does_27 : decode cX5_does 27 = .ok (.iload 4, 2) := by decide +kernel
theorem dX5_does_29 : decode cX5_does 29 = .ok (.invokevirtual 84, 3) := by decide +kernel
theorem dX5_does_32 : decode cX5_does 32 = .ok (.pop, 1) := by decide +kernel
theorem dX5_does_33 : decode cX5_does 33 = .ok (.goto 110, 3) := by decide +kernel
theorem dX5_does_36 : decode cX5_does 36 = .ok (.iload_n 1, 1) := by decide +kernel
theorem dX5_does_37 : decode cX5_does 37 = .ok (.bipush 119, 2) := by decide +kernel
theorem dX5_does_39 : decode cX5_does 39 = .ok (.if_icmp .ne 33, 3) := by decide +kernel
theorem dX5_does_42 : decode cX5_does 42 = .ok (.aload_n 0, 1) := by decide +kernel
theorem dX5_does_43 : decode cX5_does 43 = .ok (.iload_n 2, 1) := by decide +kernel
theorem dX5_does_44 : decode cX5_does 44 = .ok (.invokevirtual 87, 3) := by decide +kernel
theorem dX5_does_47 : decode cX5_does 47 = .ok (.ifCond .eq 7, 3) := by decide +kernel
theorem dX5_does_50 : decode cX5_does 50 = .ok (.iconst 0, 1) := by decide +kernel
theorem dX5_does_51 : decode cX5_does 51 = .ok (.goto 5, 3) := by decide +kernel
theorem dX5_does_54 : decode cX5_does 54 = .ok (.ldc 67, 2) := by decide +kernel
theorem dX5_does_56 : decode cX5_does 56 = .ok (.istore 5, 2) := by decide +kernel
theorem dX5_does_58 : decode cX5_does 58 = .ok (.iload 5, 2) := by decide +kernel
theorem dX5_does_60 : decode cX5_does 60 = .ok (.ifCond .ne 83, 3) := by decide +kernel
theorem dX5_does_63 : decode cX5_does 63 = .ok (.aload_n 0, 1) := by decide +kernel
theorem dX5_does_64 : decode cX5_does 64 = .ok (.iload_n 2, 1) := by decide +kernel
theorem dX5_does_65 : decode cX5_does 65 = .ok (.invokevirtual 90, 3) := by decide +kernel
theorem dX5_does_68 : decode cX5_does 68 = .ok (.pop, 1) := by decide +kernel
theorem dX5_does_69 : decode cX5_does 69 = .ok (.goto 74, 3) := by decide +kernel
theorem dX5_does_72 : decode cX5_does 72 = .ok (.iload_n 1, 1) := by decide +kernel
theorem dX5_does_73 : decode cX5_does 73 = .ok (.bipush 114, 2) := by decide +kernel
theorem dX5_does_75 : decode cX5_does 75 = .ok (.if_icmp .ne 30, 3) := by decide +kernel
theorem dX5_does_78 : decode cX5_does 78 = .ok (.aload_n 0, 1) := by decide +kernel
theorem dX5_does_79 : decode cX5_does 79 = .ok (.iload_n 2, 1) := by decide +kernel
theorem dX5_does_80 : decode cX5_does 80 = .ok (.iload_n 3, 1) := by decide +kernel
theorem dX5_does_81 : decode cX5_does 81 = .ok (.iload 4, 2) := by decide +kernel
theorem dX5_does_83 : decode cX5_does 83 = .ok (.invokevirtual 100, 3) := by decide +kernel
theorem dX5_does_86 : decode cX5_does 86 = .ok (.istore 5, 2) := by decide +kernel
theorem dX5_does_88 : decode cX5_does 88 = .ok (.iload 5, 2) := by decide +kernel
theorem dX5_does_90 : decode cX5_does 90 = .ok (.ifCond .ne 53, 3) := by decide +kernel
theorem dX5_does_93 : decode cX5_does 93 = .ok (.aload_n 0, 1) := by decide +kernel
theorem dX5_does_94 : decode cX5_does 94 = .ok (.iload_n 2, 1) := by decide +kernel
theorem dX5_does_95 : decode cX5_does 95 = .ok (.iload_n 3, 1) := by decide +kernel
theorem dX5_does_96 : decode cX5_does 96 = .ok (.iload 4, 2) := by decide +kernel
theorem dX5_does_98 : decode cX5_does 98 = .ok (.invokevirtual 103, 3) := by decide +kernel
theorem dX5_does_101 : decode cX5_does 101 = .ok (.pop, 1) := by decide +kernel
theorem dX5_does_102 : decode cX5_does 102 = .ok (.goto 41, 3) := by decide +kernel
theorem dX5_does_105 : decode cX5_does 105 = .ok (.iload_n 2, 1) := by decide +kernel
theorem dX5_does_106 : decode cX5_does 106 = .ok (.iconst 0, 1) := by decide +kernel
theorem dX5_does_107 : decode cX5_does 107 = .ok (.iconst 3, 1) := by decide +kernel
theorem dX5_does_108 : decode cX5_does 108 = .ok (.invokestatic 30, 3) := by decide +kernel
theorem dX5_does_111 : decode cX5_does 111 = .ok (.ifCond .eq 7, 3) := by decide +kernel
theorem dX5_does_114 : decode cX5_does 114 = .ok (.iconst 0, 1) := by decide +kernel
theorem dX5_does_115 : decode cX5_does 115 = .ok (.goto 5, 3) := by decide +kernel
theorem dX5_does_118 : decode cX5_does 118 = .ok (.ldc 67, 2) := by decide +kernel
theorem dX5_does_120 : decode cX5_does 120 = .ok (.istore 5, 2) := by decide +kernel
theorem dX5_does_122 : decode cX5_does 122 = .ok (.aload_n 0, 1) := by decide +kernel
theorem dX5_does_123 : decode cX5_does 123 = .ok (.getfield 7, 3) := by decide +kernel
theorem dX5_does_126 : decode cX5_does 126 = .ok (.iconst 0, 1) := by decide +kernel
theorem dX5_does_127 : decode cX5_does 127 = .ok (.iload 5, 2) := by decide +kernel
theorem dX5_does_129 : decode cX5_does 129 = .ok (.ifCond .ne 7, 3) := by decide +kernel
theorem dX5_does_132 : decode cX5_does 132 = .ok (.iload_n 2, 1) := by decide +kernel
theorem dX5_does_133 : decode cX5_does 133 = .ok (.goto 9, 3) := by decide +kernel
theorem dX5_does_136 : decode cX5_does 136 = .ok (.aload_n 0, 1) := by decide +kernel
theorem dX5_does_137 : decode cX5_does 137 = .ok (.getfield 7, 3) := by decide +kernel
theorem dX5_does_140 : decode cX5_does 140 = .ok (.iconst 0, 1) := by decide +kernel
theorem dX5_does_141 : decode cX5_does 141 = .ok (.iaload, 1) := by decide +kernel
theorem dX5_does_142 : decode cX5_does 142 = .ok (.iastore, 1) := by decide +kernel
theorem dX5_does_143 : decode cX5_does 143 = .ok (.iload 5, 2) := by decide +kernel
theorem dX5_does_145 : decode cX5_does 145 = .ok (.ireturn, 1) := by decide +kernel
theorem dX5_reads_0 : decode cX5_reads 0 = .ok (.aload_n 0, 1) := by decide +kernel
theorem dX5_reads_1 : decode cX5_reads 1 = .ok (.iconst 0, 1) := by decide +kernel
theorem dX5_reads_2 : decode cX5_reads 2 = .ok (.putfield 182, 3) := by decide +kernel
theorem dX5_reads_5 : decode cX5_reads 5 = .ok (.aload_n 0, 1) := by decide +kernel
theorem dX5_reads_6 : decode cX5_reads 6 = .ok (.iconst 0, 1) := by decide +kernel
theorem dX5_reads_7 : decode cX5_reads 7 = .ok (.putfield 201, 3) := by decide +kernel
theorem dX5_reads_10 : decode cX5_reads 10 = .ok (.aload_n 0, 1) := by decide +kernel
theorem dX5_reads_11 : decode cX5_reads 11 = .ok (.iconst 0, 1) := by decide +kernel
theorem dX5_reads_12 : decode cX5_reads 12 = .ok (.putfield 204, 3) := by decide +kernel
theorem dX5_reads_15 : decode cX5_reads 15 = .ok (.aload_n 0, 1) := by decide +kernel
theorem dX5_reads_16 : decode cX5_reads 16 = .ok (.getfield 182, 3) := by decide +kernel
theorem dX5_reads_19 : decode cX5_reads 19 = .ok (.aload_n 0, 1) := by decide +kernel
theorem dX5_reads_20 : decode cX5_reads 20 = .ok (.getfield 179, 3) := by decide +kernel
theorem dX5_reads_23 : decode cX5_reads 23 = .ok (.if_icmp .ge 84, 3) := by decide +kernel
theorem dX5_reads_26 : decode cX5_reads 26 = .ok (.aload_n 0, 1) := by decide +kernel
theorem dX5_reads_27 : decode cX5_reads 27 = .ok (.getfield 204, 3) := by decide +kernel
theorem dX5_reads_30 : decode cX5_reads 30 = .ok (.ifCond .ne 77, 3) := by decide +kernel
theorem dX5_reads_33 : decode cX5_reads 33 = .ok (.aload_n 0, 1) := by decide +kernel
theorem dX5_reads_34 : decode cX5_reads 34 = .ok (.aload_n 0, 1) := by decide +kernel
theorem dX5_reads_35 : decode cX5_reads 35 = .ok (.getfield 182, 3) := by decide +kernel
theorem dX5_reads_38 : decode cX5_reads 38 = .ok (.putfield 207, 3) := by decide +kernel
theorem dX5_reads_41 : decode cX5_reads 41 = .ok (.aload_n 0, 1) := by decide +kernel
theorem dX5_reads_42 : decode cX5_reads 42 = .ok (.invokevirtual 210, 3) := by decide +kernel
theorem dX5_reads_45 : decode cX5_reads 45 = .ok (.istore_n 1, 1) := by decide +kernel
theorem dX5_reads_46 : decode cX5_reads 46 = .ok (.aload_n 0, 1) := by decide +kernel
theorem dX5_reads_47 : decode cX5_reads 47 = .ok (.aload_n 0, 1) := by decide +kernel
theorem dX5_reads_48 : decode cX5_reads 48 = .ok (.getfield 185, 3) := by decide +kernel
theorem dX5_reads_51 : decode cX5_reads 51 = .ok (.ifCond .ne 7, 3) := by decide +kernel
theorem dX5_reads_54 : decode cX5_reads 54 = .ok (.iconst 1, 1) := by decide +kernel
theorem dX5_reads_55 : decode cX5_reads 55 = .ok (.goto 12, 3) := by decide +kernel
theorem dX5_reads_58 : decode cX5_reads 58 = .ok (.iload_n 1, 1) := by decide +kernel
theorem dX5_reads_59 : decode cX5_reads 59 = .ok (.ifCond .eq 7, 3) := by decide +kernel
theorem dX5_reads_62 : decode cX5_reads 62 = .ok (.iconst 2, 1) := by decide +kernel
theorem dX5_reads_63 : decode cX5_reads 63 = .ok (.goto 4, 3) := by decide +kernel
theorem dX5_reads_66 : decode cX5_reads 66 = .ok (.iconst 0, 1) := by decide +kernel
theorem dX5_reads_67 : decode cX5_reads 67 = .ok (.putfield 204, 3) := by decide +kernel
theorem dX5_reads_70 : decode cX5_reads 70 = .ok (.aload_n 0, 1) := by decide +kernel
theorem dX5_reads_71 : decode cX5_reads 71 = .ok (.aload_n 0, 1) := by decide +kernel
theorem dX5_reads_72 : decode cX5_reads 72 = .ok (.getfield 185, 3) := by decide +kernel
theorem dX5_reads_75 : decode cX5_reads 75 = .ok (.ifCond .ne 15, 3) := by decide +kernel
theorem dX5_reads_78 : decode cX5_reads 78 = .ok (.aload_n 0, 1) := by decide +kernel
theorem dX5_reads_79 : decode cX5_reads 79 = .ok (.getfield 182, 3) := by decide +kernel
theorem dX5_reads_82 : decode cX5_reads 82 = .ok (.aload_n 0, 1) := by decide +kernel
theorem dX5_reads_83 : decode cX5_reads 83 = .ok (.getfield 207, 3) := by decide +kernel
theorem dX5_reads_86 : decode cX5_reads 86 = .ok (.isub, 1) := by decide +kernel
theorem dX5_reads_87 : decode cX5_reads 87 = .ok (.goto 4, 3) := by decide +kernel
theorem dX5_reads_90 : decode cX5_reads 90 = .ok (.iload_n 1, 1) := by decide +kernel
theorem dX5_reads_91 : decode cX5_reads 91 = .ok (.putfield 213, 3) := by decide +kernel
theorem dX5_reads_94 : decode cX5_reads 94 = .ok (.aload_n 0, 1) := by decide +kernel
theorem dX5_reads_95 : decode cX5_reads 95 = .ok (.dup, 1) := by decide +kernel
theorem dX5_reads_96 : decode cX5_reads 96 = .ok (.getfield 201, 3) := by decide +kernel
theorem dX5_reads_99 : decode cX5_reads 99 = .ok (.iconst 1, 1) := by decide +kernel
theorem dX5_reads_100 : decode cX5_reads 100 = .ok (.iadd, 1) := by decide +kernel
theorem dX5_reads_101 : decode cX5_reads 101 = .ok (.putfield 201, 3) := by decide +kernel
theorem dX5_reads_104 : decode cX5_reads 104 = .ok (.goto (-89), 3) := by decide +kernel
theorem dX5_reads_107 : decode cX5_reads 107 = .ok (.aload_n 0, 1) := by decide +kernel
theorem dX5_reads_108 : decode cX5_reads 108 = .ok (.getfield 204, 3) := by decide +kernel
theorem dX5_reads_111 : decode cX5_reads 111 = .ok (.ireturn, 1) := by decide +kernel
theorem dX5_fault_0 : decode cX5_fault 0 = .ok (.aload_n 0, 1) := by decide +kernel
theorem dX5_fault_1 : decode cX5_fault 1 = .ok (.iconst 0, 1) := by decide +kernel
theorem dX5_fault_2 : decode cX5_fault 2 = .ok (.putfield 26, 3) := by decide +kernel
theorem dX5_fault_5 : decode cX5_fault 5 = .ok (.iload_n 1, 1) := by decide +kernel
theorem dX5_fault_6 : decode cX5_fault 6 = .ok (.iconst 0, 1) := by decide +kernel
theorem dX5_fault_7 : decode cX5_fault 7 = .ok (.iconst 2, 1) := by decide +kernel
theorem dX5_fault_8 : decode cX5_fault 8 = .ok (.invokestatic 30, 3) := by decide +kernel
theorem dX5_fault_11 : decode cX5_fault 11 = .ok (.ifCond .ne 6, 3) := by decide +kernel
theorem dX5_fault_14 : decode cX5_fault 14 = .ok (.ldc 67, 2) := by decide +kernel
theorem dX5_fault_16 : decode cX5_fault 16 = .ok (.ireturn, 1) := by decide +kernel
theorem dX5_fault_17 : decode cX5_fault 17 = .ok (.aload_n 0, 1) := by decide +kernel
theorem dX5_fault_18 : decode cX5_fault 18 = .ok (.invokevirtual 113, 3) := by decide +kernel
theorem dX5_fault_21 : decode cX5_fault 21 = .ok (.aload_n 0, 1) := by decide +kernel
theorem dX5_fault_22 : decode cX5_fault 22 = .ok (.invokevirtual 216, 3) := by decide +kernel
theorem dX5_fault_25 : decode cX5_fault 25 = .ok (.istore_n 2, 1) := by decide +kernel
theorem dX5_fault_26 : decode cX5_fault 26 = .ok (.aload_n 0, 1) := by decide +kernel
theorem dX5_fault_27 : decode cX5_fault 27 = .ok (.invokevirtual 131, 3) := by decide +kernel
theorem dX5_fault_30 : decode cX5_fault 30 = .ok (.iload_n 2, 1) := by decide +kernel
theorem dX5_fault_31 : decode cX5_fault 31 = .ok (.ifCond .ne 8, 3) := by decide +kernel
theorem dX5_fault_34 : decode cX5_fault 34 = .ok (.ldc 44, 2) := by decide +kernel
theorem dX5_fault_36 : decode cX5_fault 36 = .ok (.goto 27, 3) := by decide +kernel
theorem dX5_fault_39 : decode cX5_fault 39 = .ok (.iload_n 1, 1) := by decide +kernel
theorem dX5_fault_40 : decode cX5_fault 40 = .ok (.ifCond .ne 10, 3) := by decide +kernel
theorem dX5_fault_43 : decode cX5_fault 43 = .ok (.aload_n 0, 1) := by decide +kernel
theorem dX5_fault_44 : decode cX5_fault 44 = .ok (.getfield 207, 3) := by decide +kernel
theorem dX5_fault_47 : decode cX5_fault 47 = .ok (.goto 16, 3) := by decide +kernel
theorem dX5_fault_50 : decode cX5_fault 50 = .ok (.iload_n 1, 1) := by decide +kernel
theorem dX5_fault_51 : decode cX5_fault 51 = .ok (.iconst 1, 1) := by decide +kernel
theorem dX5_fault_52 : decode cX5_fault 52 = .ok (.if_icmp .ne 7, 3) := by decide +kernel
theorem dX5_fault_55 : decode cX5_fault 55 = .ok (.iload_n 2, 1) := by decide +kernel
theorem dX5_fault_56 : decode cX5_fault 56 = .ok (.goto 7, 3) := by decide +kernel
theorem dX5_fault_59 : decode cX5_fault 59 = .ok (.aload_n 0, 1) := by decide +kernel
theorem dX5_fault_60 : decode cX5_fault 60 = .ok (.getfield 213, 3) := by decide +kernel
theorem dX5_fault_63 : decode cX5_fault 63 = .ok (.ireturn, 1) := by decide +kernel
theorem dX5_play_0 : decode cX5_play 0 = .ok (.aload_n 0, 1) := by decide +kernel
theorem dX5_play_1 : decode cX5_play 1 = .ok (.iconst 0, 1) := by decide +kernel
theorem dX5_play_2 : decode cX5_play 2 = .ok (.putfield 26, 3) := by decide +kernel
theorem dX5_play_5 : decode cX5_play 5 = .ok (.aload_n 0, 1) := by decide +kernel
theorem dX5_play_6 : decode cX5_play 6 = .ok (.invokevirtual 113, 3) := by decide +kernel
theorem dX5_play_9 : decode cX5_play 9 = .ok (.aload_n 0, 1) := by decide +kernel
theorem dX5_play_10 : decode cX5_play 10 = .ok (.invokevirtual 216, 3) := by decide +kernel
theorem dX5_play_13 : decode cX5_play 13 = .ok (.istore_n 1, 1) := by decide +kernel
theorem dX5_play_14 : decode cX5_play 14 = .ok (.aload_n 0, 1) := by decide +kernel
theorem dX5_play_15 : decode cX5_play 15 = .ok (.invokevirtual 131, 3) := by decide +kernel
theorem dX5_play_18 : decode cX5_play 18 = .ok (.iload_n 1, 1) := by decide +kernel
theorem dX5_play_19 : decode cX5_play 19 = .ok (.ifCond .eq 6, 3) := by decide +kernel
theorem dX5_play_22 : decode cX5_play 22 = .ok (.ldc 72, 2) := by decide +kernel
theorem dX5_play_24 : decode cX5_play 24 = .ok (.ireturn, 1) := by decide +kernel
theorem dX5_play_25 : decode cX5_play 25 = .ok (.aload_n 0, 1) := by decide +kernel
theorem dX5_play_26 : decode cX5_play 26 = .ok (.invokevirtual 81, 3) := by decide +kernel
theorem dX5_play_29 : decode cX5_play 29 = .ok (.aload_n 0, 1) := by decide +kernel
theorem dX5_play_30 : decode cX5_play 30 = .ok (.invokevirtual 216, 3) := by decide +kernel
theorem dX5_play_33 : decode cX5_play 33 = .ok (.pop, 1) := by decide +kernel
theorem dX5_play_34 : decode cX5_play 34 = .ok (.aload_n 0, 1) := by decide +kernel
theorem dX5_play_35 : decode cX5_play 35 = .ok (.getfield 201, 3) := by decide +kernel
theorem dX5_play_38 : decode cX5_play 38 = .ok (.ireturn, 1) := by decide +kernel
theorem dJxf58ca_isNaN_12338_0 : decode cJxf58ca_isNaN_12338 0 = .ok (.fload_n 0, 1) := by decide +kernel
theorem dJxf58ca_isNaN_12338_1 : decode cJxf58ca_isNaN_12338 1 = .ok (.fload_n 0, 1) := by decide +kernel
theorem dJxf58ca_isNaN_12338_2 : decode cJxf58ca_isNaN_12338 2 = .ok (.fcmp .l, 1) := by decide +kernel
theorem dJxf58ca_isNaN_12338_3 : decode cJxf58ca_isNaN_12338 3 = .ok (.ifCond .eq 7, 3) := by decide +kernel
theorem dJxf58ca_isNaN_12338_6 : decode cJxf58ca_isNaN_12338 6 = .ok (.iconst 1, 1) := by decide +kernel
theorem dJxf58ca_isNaN_12338_7 : decode cJxf58ca_isNaN_12338 7 = .ok (.goto 4, 3) := by decide +kernel
theorem dJxf58ca_isNaN_12338_10 : decode cJxf58ca_isNaN_12338 10 = .ok (.iconst 0, 1) := by decide +kernel
theorem dJxf58ca_isNaN_12338_11 : decode cJxf58ca_isNaN_12338 11 = .ok (.ireturn, 1) := by decide +kernel
theorem dJxf58ca_floatToIntBits_5c35a_0 : decode cJxf58ca_floatToIntBits_5c35a 0 = .ok (.fload_n 0, 1) := by decide +kernel
theorem dJxf58ca_floatToIntBits_5c35a_1 : decode cJxf58ca_floatToIntBits_5c35a 1 = .ok (.invokestatic 59, 3) := by decide +kernel
theorem dJxf58ca_floatToIntBits_5c35a_4 : decode cJxf58ca_floatToIntBits_5c35a 4 = .ok (.ifCond .ne 8, 3) := by decide +kernel
theorem dJxf58ca_floatToIntBits_5c35a_7 : decode cJxf58ca_floatToIntBits_5c35a 7 = .ok (.fload_n 0, 1) := by decide +kernel
theorem dJxf58ca_floatToIntBits_5c35a_8 : decode cJxf58ca_floatToIntBits_5c35a 8 = .ok (.invokestatic 74, 3) := by decide +kernel
theorem dJxf58ca_floatToIntBits_5c35a_11 : decode cJxf58ca_floatToIntBits_5c35a 11 = .ok (.ireturn, 1) := by decide +kernel
theorem dJxf58ca_floatToIntBits_5c35a_12 : decode cJxf58ca_floatToIntBits_5c35a 12 = .ok (.ldc 77, 2) := by decide +kernel
theorem dJxf58ca_floatToIntBits_5c35a_14 : decode cJxf58ca_floatToIntBits_5c35a 14 = .ok (.ireturn, 1) := by decide +kernel
theorem dJ6_bitCount_0f7a4_0 : decode cJ6_bitCount_0f7a4 0 = .ok (.iload_n 0, 1) := by decide +kernel
theorem dJ6_bitCount_0f7a4_1 : decode cJ6_bitCount_0f7a4 1 = .ok (.iload_n 0, 1) := by decide +kernel
theorem dJ6_bitCount_0f7a4_2 : decode cJ6_bitCount_0f7a4 2 = .ok (.iconst 1, 1) := by decide +kernel
theorem dJ6_bitCount_0f7a4_3 : decode cJ6_bitCount_0f7a4 3 = .ok (.iushr, 1) := by decide +kernel
theorem dJ6_bitCount_0f7a4_4 : decode cJ6_bitCount_0f7a4 4 = .ok (.ldc_w 265, 3) := by decide +kernel
theorem dJ6_bitCount_0f7a4_7 : decode cJ6_bitCount_0f7a4 7 = .ok (.iand, 1) := by decide +kernel
theorem dJ6_bitCount_0f7a4_8 : decode cJ6_bitCount_0f7a4 8 = .ok (.isub, 1) := by decide +kernel
theorem dJ6_bitCount_0f7a4_9 : decode cJ6_bitCount_0f7a4 9 = .ok (.istore_n 0, 1) := by decide +kernel
theorem dJ6_bitCount_0f7a4_10 : decode cJ6_bitCount_0f7a4 10 = .ok (.iload_n 0, 1) := by decide +kernel
theorem dJ6_bitCount_0f7a4_11 : decode cJ6_bitCount_0f7a4 11 = .ok (.ldc_w 266, 3) := by decide +kernel
theorem dJ6_bitCount_0f7a4_14 : decode cJ6_bitCount_0f7a4 14 = .ok (.iand, 1) := by decide +kernel
theorem dJ6_bitCount_0f7a4_15 : decode cJ6_bitCount_0f7a4 15 = .ok (.iload_n 0, 1) := by decide +kernel
theorem dJ6_bitCount_0f7a4_16 : decode cJ6_bitCount_0f7a4 16 = .ok (.iconst 2, 1) := by decide +kernel
theorem dJ6_bitCount_0f7a4_17 : decode cJ6_bitCount_0f7a4 17 = .ok (.iushr, 1) := by decide +kernel
theorem dJ6_bitCount_0f7a4_18 : decode cJ6_bitCount_0f7a4 18 = .ok (.ldc_w 266, 3) := by decide +kernel
theorem dJ6_bitCount_0f7a4_21 : decode cJ6_bitCount_0f7a4 21 = .ok (.iand, 1) := by decide +kernel
theorem dJ6_bitCount_0f7a4_22 : decode cJ6_bitCount_0f7a4 22 = .ok (.iadd, 1) := by decide +kernel
theorem dJ6_bitCount_0f7a4_23 : decode cJ6_bitCount_0f7a4 23 = .ok (.istore_n 0, 1) := by decide +kernel
theorem dJ6_bitCount_0f7a4_24 : decode cJ6_bitCount_0f7a4 24 = .ok (.iload_n 0, 1) := by decide +kernel
theorem dJ6_bitCount_0f7a4_25 : decode cJ6_bitCount_0f7a4 25 = .ok (.iload_n 0, 1) := by decide +kernel
theorem dJ6_bitCount_0f7a4_26 : decode cJ6_bitCount_0f7a4 26 = .ok (.iconst 4, 1) := by decide +kernel
theorem dJ6_bitCount_0f7a4_27 : decode cJ6_bitCount_0f7a4 27 = .ok (.iushr, 1) := by decide +kernel
theorem dJ6_bitCount_0f7a4_28 : decode cJ6_bitCount_0f7a4 28 = .ok (.iadd, 1) := by decide +kernel
theorem dJ6_bitCount_0f7a4_29 : decode cJ6_bitCount_0f7a4 29 = .ok (.ldc_w 267, 3) := by decide +kernel
theorem dJ6_bitCount_0f7a4_32 : decode cJ6_bitCount_0f7a4 32 = .ok (.iand, 1) := by decide +kernel
theorem dJ6_bitCount_0f7a4_33 : decode cJ6_bitCount_0f7a4 33 = .ok (.istore_n 0, 1) := by decide +kernel
theorem dJ6_bitCount_0f7a4_34 : decode cJ6_bitCount_0f7a4 34 = .ok (.iload_n 0, 1) := by decide +kernel
theorem dJ6_bitCount_0f7a4_35 : decode cJ6_bitCount_0f7a4 35 = .ok (.iload_n 0, 1) := by decide +kernel
theorem dJ6_bitCount_0f7a4_36 : decode cJ6_bitCount_0f7a4 36 = .ok (.bipush 8, 2) := by decide +kernel
theorem dJ6_bitCount_0f7a4_38 : decode cJ6_bitCount_0f7a4 38 = .ok (.iushr, 1) := by decide +kernel
theorem dJ6_bitCount_0f7a4_39 : decode cJ6_bitCount_0f7a4 39 = .ok (.iadd, 1) := by decide +kernel
theorem dJ6_bitCount_0f7a4_40 : decode cJ6_bitCount_0f7a4 40 = .ok (.istore_n 0, 1) := by decide +kernel
theorem dJ6_bitCount_0f7a4_41 : decode cJ6_bitCount_0f7a4 41 = .ok (.iload_n 0, 1) := by decide +kernel
theorem dJ6_bitCount_0f7a4_42 : decode cJ6_bitCount_0f7a4 42 = .ok (.iload_n 0, 1) := by decide +kernel
theorem dJ6_bitCount_0f7a4_43 : decode cJ6_bitCount_0f7a4 43 = .ok (.bipush 16, 2) := by decide +kernel
theorem dJ6_bitCount_0f7a4_45 : decode cJ6_bitCount_0f7a4 45 = .ok (.iushr, 1) := by decide +kernel
theorem dJ6_bitCount_0f7a4_46 : decode cJ6_bitCount_0f7a4 46 = .ok (.iadd, 1) := by decide +kernel
theorem dJ6_bitCount_0f7a4_47 : decode cJ6_bitCount_0f7a4 47 = .ok (.istore_n 0, 1) := by decide +kernel
theorem dJ6_bitCount_0f7a4_48 : decode cJ6_bitCount_0f7a4 48 = .ok (.iload_n 0, 1) := by decide +kernel
theorem dJ6_bitCount_0f7a4_49 : decode cJ6_bitCount_0f7a4 49 = .ok (.bipush 63, 2) := by decide +kernel
theorem dJ6_bitCount_0f7a4_51 : decode cJ6_bitCount_0f7a4 51 = .ok (.iand, 1) := by decide +kernel
theorem dJ6_bitCount_0f7a4_52 : decode cJ6_bitCount_0f7a4 52 = .ok (.ireturn, 1) := by decide +kernel
theorem dJ13_bitCount_95d88_0 : decode cJ13_bitCount_95d88 0 = .ok (.lload_n 0, 1) := by decide +kernel
theorem dJ13_bitCount_95d88_1 : decode cJ13_bitCount_95d88 1 = .ok (.lload_n 0, 1) := by decide +kernel
theorem dJ13_bitCount_95d88_2 : decode cJ13_bitCount_95d88 2 = .ok (.iconst 1, 1) := by decide +kernel
theorem dJ13_bitCount_95d88_3 : decode cJ13_bitCount_95d88 3 = .ok (.lushr, 1) := by decide +kernel
theorem dJ13_bitCount_95d88_4 : decode cJ13_bitCount_95d88 4 = .ok (.ldc2_w 314, 3) := by decide +kernel
theorem dJ13_bitCount_95d88_7 : decode cJ13_bitCount_95d88 7 = .ok (.land, 1) := by decide +kernel
theorem dJ13_bitCount_95d88_8 : decode cJ13_bitCount_95d88 8 = .ok (.lsub, 1) := by decide +kernel
theorem dJ13_bitCount_95d88_9 : decode cJ13_bitCount_95d88 9 = .ok (.lstore_n 0, 1) := by decide +kernel
theorem dJ13_bitCount_95d88_10 : decode cJ13_bitCount_95d88 10 = .ok (.lload_n 0, 1) := by decide +kernel
theorem dJ13_bitCount_95d88_11 : decode cJ13_bitCount_95d88 11 = .ok (.ldc2_w 316, 3) := by decide +kernel
theorem dJ13_bitCount_95d88_14 : decode cJ13_bitCount_95d88 14 = .ok (.land, 1) := by decide +kernel
theorem dJ13_bitCount_95d88_15 : decode cJ13_bitCount_95d88 15 = .ok (.lload_n 0, 1) := by decide +kernel
theorem dJ13_bitCount_95d88_16 : decode cJ13_bitCount_95d88 16 = .ok (.iconst 2, 1) := by decide +kernel
theorem dJ13_bitCount_95d88_17 : decode cJ13_bitCount_95d88 17 = .ok (.lushr, 1) := by decide +kernel
theorem dJ13_bitCount_95d88_18 : decode cJ13_bitCount_95d88 18 = .ok (.ldc2_w 316, 3) := by decide +kernel
theorem dJ13_bitCount_95d88_21 : decode cJ13_bitCount_95d88 21 = .ok (.land, 1) := by decide +kernel
theorem dJ13_bitCount_95d88_22 : decode cJ13_bitCount_95d88 22 = .ok (.ladd, 1) := by decide +kernel
theorem dJ13_bitCount_95d88_23 : decode cJ13_bitCount_95d88 23 = .ok (.lstore_n 0, 1) := by decide +kernel
theorem dJ13_bitCount_95d88_24 : decode cJ13_bitCount_95d88 24 = .ok (.lload_n 0, 1) := by decide +kernel
theorem dJ13_bitCount_95d88_25 : decode cJ13_bitCount_95d88 25 = .ok (.lload_n 0, 1) := by decide +kernel
theorem dJ13_bitCount_95d88_26 : decode cJ13_bitCount_95d88 26 = .ok (.iconst 4, 1) := by decide +kernel
theorem dJ13_bitCount_95d88_27 : decode cJ13_bitCount_95d88 27 = .ok (.lushr, 1) := by decide +kernel
theorem dJ13_bitCount_95d88_28 : decode cJ13_bitCount_95d88 28 = .ok (.ladd, 1) := by decide +kernel
theorem dJ13_bitCount_95d88_29 : decode cJ13_bitCount_95d88 29 = .ok (.ldc2_w 318, 3) := by decide +kernel
theorem dJ13_bitCount_95d88_32 : decode cJ13_bitCount_95d88 32 = .ok (.land, 1) := by decide +kernel
theorem dJ13_bitCount_95d88_33 : decode cJ13_bitCount_95d88 33 = .ok (.lstore_n 0, 1) := by decide +kernel
theorem dJ13_bitCount_95d88_34 : decode cJ13_bitCount_95d88 34 = .ok (.lload_n 0, 1) := by decide +kernel
theorem dJ13_bitCount_95d88_35 : decode cJ13_bitCount_95d88 35 = .ok (.lload_n 0, 1) := by decide +kernel
theorem dJ13_bitCount_95d88_36 : decode cJ13_bitCount_95d88 36 = .ok (.bipush 8, 2) := by decide +kernel
theorem dJ13_bitCount_95d88_38 : decode cJ13_bitCount_95d88 38 = .ok (.lushr, 1) := by decide +kernel
theorem dJ13_bitCount_95d88_39 : decode cJ13_bitCount_95d88 39 = .ok (.ladd, 1) := by decide +kernel
theorem dJ13_bitCount_95d88_40 : decode cJ13_bitCount_95d88 40 = .ok (.lstore_n 0, 1) := by decide +kernel
theorem dJ13_bitCount_95d88_41 : decode cJ13_bitCount_95d88 41 = .ok (.lload_n 0, 1) := by decide +kernel
theorem dJ13_bitCount_95d88_42 : decode cJ13_bitCount_95d88 42 = .ok (.lload_n 0, 1) := by decide +kernel
theorem dJ13_bitCount_95d88_43 : decode cJ13_bitCount_95d88 43 = .ok (.bipush 16, 2) := by decide +kernel
theorem dJ13_bitCount_95d88_45 : decode cJ13_bitCount_95d88 45 = .ok (.lushr, 1) := by decide +kernel
theorem dJ13_bitCount_95d88_46 : decode cJ13_bitCount_95d88 46 = .ok (.ladd, 1) := by decide +kernel
theorem dJ13_bitCount_95d88_47 : decode cJ13_bitCount_95d88 47 = .ok (.lstore_n 0, 1) := by decide +kernel
theorem dJ13_bitCount_95d88_48 : decode cJ13_bitCount_95d88 48 = .ok (.lload_n 0, 1) := by decide +kernel
theorem dJ13_bitCount_95d88_49 : decode cJ13_bitCount_95d88 49 = .ok (.lload_n 0, 1) := by decide +kernel
theorem dJ13_bitCount_95d88_50 : decode cJ13_bitCount_95d88 50 = .ok (.bipush 32, 2) := by decide +kernel
theorem dJ13_bitCount_95d88_52 : decode cJ13_bitCount_95d88 52 = .ok (.lushr, 1) := by decide +kernel
theorem dJ13_bitCount_95d88_53 : decode cJ13_bitCount_95d88 53 = .ok (.ladd, 1) := by decide +kernel
theorem dJ13_bitCount_95d88_54 : decode cJ13_bitCount_95d88 54 = .ok (.lstore_n 0, 1) := by decide +kernel
theorem dJ13_bitCount_95d88_55 : decode cJ13_bitCount_95d88 55 = .ok (.lload_n 0, 1) := by decide +kernel
theorem dJ13_bitCount_95d88_56 : decode cJ13_bitCount_95d88 56 = .ok (.l2i, 1) := by decide +kernel
theorem dJ13_bitCount_95d88_57 : decode cJ13_bitCount_95d88 57 = .ok (.bipush 127, 2) := by decide +kernel
theorem dJ13_bitCount_95d88_59 : decode cJ13_bitCount_95d88 59 = .ok (.iand, 1) := by decide +kernel
theorem dJ13_bitCount_95d88_60 : decode cJ13_bitCount_95d88 60 = .ok (.ireturn, 1) := by decide +kernel
theorem dJ9_max_7cf53_0 : decode cJ9_max_7cf53 0 = .ok (.iload_n 0, 1) := by decide +kernel
theorem dJ9_max_7cf53_1 : decode cJ9_max_7cf53 1 = .ok (.iload_n 1, 1) := by decide +kernel
theorem dJ9_max_7cf53_2 : decode cJ9_max_7cf53 2 = .ok (.if_icmp .lt 7, 3) := by decide +kernel
theorem dJ9_max_7cf53_5 : decode cJ9_max_7cf53 5 = .ok (.iload_n 0, 1) := by decide +kernel
theorem dJ9_max_7cf53_6 : decode cJ9_max_7cf53 6 = .ok (.goto 4, 3) := by decide +kernel
theorem dJ9_max_7cf53_9 : decode cJ9_max_7cf53 9 = .ok (.iload_n 1, 1) := by decide +kernel
theorem dJ9_max_7cf53_10 : decode cJ9_max_7cf53 10 = .ok (.ireturn, 1) := by decide +kernel
theorem dJ9_min_7cf53_0 : decode cJ9_min_7cf53 0 = .ok (.iload_n 0, 1) := by decide +kernel
theorem dJ9_min_7cf53_1 : decode cJ9_min_7cf53 1 = .ok (.iload_n 1, 1) := by decide +kernel
theorem dJ9_min_7cf53_2 : decode cJ9_min_7cf53 2 = .ok (.if_icmp .gt 7, 3) := by decide +kernel
theorem dJ9_min_7cf53_5 : decode cJ9_min_7cf53 5 = .ok (.iload_n 0, 1) := by decide +kernel
theorem dJ9_min_7cf53_6 : decode cJ9_min_7cf53 6 = .ok (.goto 4, 3) := by decide +kernel
theorem dJ9_min_7cf53_9 : decode cJ9_min_7cf53 9 = .ok (.iload_n 1, 1) := by decide +kernel
theorem dJ9_min_7cf53_10 : decode cJ9_min_7cf53 10 = .ok (.ireturn, 1) := by decide +kernel
theorem dL_law_0 : decode cL_law 0 = .ok (.new 7, 3) := by decide +kernel
theorem dL_law_3 : decode cL_law 3 = .ok (.dup, 1) := by decide +kernel
theorem dL_law_4 : decode cL_law 4 = .ok (.invokespecial 9, 3) := by decide +kernel
theorem dL_law_7 : decode cL_law 7 = .ok (.astore_n 1, 1) := by decide +kernel
theorem dL_law_8 : decode cL_law 8 = .ok (.new 10, 3) := by decide +kernel
theorem dL_law_11 : decode cL_law 11 = .ok (.dup, 1) := by decide +kernel
theorem dL_law_12 : decode cL_law 12 = .ok (.invokespecial 12, 3) := by decide +kernel
theorem dL_law_15 : decode cL_law 15 = .ok (.astore_n 2, 1) := by decide +kernel
theorem dL_law_16 : decode cL_law 16 = .ok (.iconst 0, 1) := by decide +kernel
theorem dL_law_17 : decode cL_law 17 = .ok (.istore_n 3, 1) := by decide +kernel
theorem dL_law_18 : decode cL_law 18 = .ok (.iload_n 3, 1) := by decide +kernel
theorem dL_law_19 : decode cL_law 19 = .ok (.aload_n 0, 1) := by decide +kernel
theorem dL_law_20 : decode cL_law 20 = .ok (.arraylength, 1) := by decide +kernel
theorem dL_law_21 : decode cL_law 21 = .ok (.iconst 5, 1) := by decide +kernel
theorem dL_law_22 : decode cL_law 22 = .ok (.isub, 1) := by decide +kernel
theorem dL_law_23 : decode cL_law 23 = .ok (.if_icmp .gt 732, 3) := by decide +kernel
theorem dL_law_26 : decode cL_law 26 = .ok (.aload_n 0, 1) := by decide +kernel
theorem dL_law_27 : decode cL_law 27 = .ok (.iload_n 3, 1) := by decide +kernel
theorem dL_law_28 : decode cL_law 28 = .ok (.iaload, 1) := by decide +kernel
theorem dL_law_29 : decode cL_law 29 = .ok (.bipush 31, 2) := by decide +kernel
theorem dL_law_31 : decode cL_law 31 = .ok (.iand, 1) := by decide +kernel
theorem dL_law_32 : decode cL_law 32 = .ok (.tableswitch 717 0 22 #[108, 151, 174, 207, 250, 273, 286, 319, 352, 385, 418, 451, 504, 537, 550, 563, 586, 609, 632, 645, 668, 681, 704], 108) := by decide +kernel
theorem dL_law_140 : decode cL_law 140 = .ok (.aload_n 1, 1) := by decide +kernel
theorem dL_law_141 : decode cL_law 141 = .ok (.aload_n 0, 1) := by decide +kernel
theorem dL_law_142 : decode cL_law 142 = .ok (.iload_n 3, 1) := by decide +kernel
theorem dL_law_143 : decode cL_law 143 = .ok (.iconst 1, 1) := by decide +kernel
theorem dL_law_144 : decode cL_law 144 = .ok (.iadd, 1) := by decide +kernel
theorem dL_law_145 : decode cL_law 145 = .ok (.iaload, 1) := by decide +kernel
theorem dL_law_146 : decode cL_law 146 = .ok (.aload_n 0, 1) := by decide +kernel
theorem dL_law_147 : decode cL_law 147 = .ok (.iload_n 3, 1) := by decide +kernel
theorem dL_law_148 : decode cL_law 148 = .ok (.iconst 2, 1) := by decide +kernel
theorem dL_law_149 : decode cL_law 149 = .ok (.iadd, 1) := by decide +kernel
theorem dL_law_150 : decode cL_law 150 = .ok (.iaload, 1) := by decide +kernel
theorem dL_law_151 : decode cL_law 151 = .ok (.aload_n 0, 1) := by decide +kernel
theorem dL_law_152 : decode cL_law 152 = .ok (.iload_n 3, 1) := by decide +kernel
theorem dL_law_153 : decode cL_law 153 = .ok (.iconst 3, 1) := by decide +kernel
theorem dL_law_154 : decode cL_law 154 = .ok (.iadd, 1) := by decide +kernel
theorem dL_law_155 : decode cL_law 155 = .ok (.iaload, 1) := by decide +kernel
theorem dL_law_156 : decode cL_law 156 = .ok (.invokevirtual 13, 3) := by decide +kernel
theorem dL_law_159 : decode cL_law 159 = .ok (.aload_n 2, 1) := by decide +kernel
theorem dL_law_160 : decode cL_law 160 = .ok (.aload_n 0, 1) := by decide +kernel
theorem dL_law_161 : decode cL_law 161 = .ok (.iload_n 3, 1) := by decide +kernel
theorem dL_law_162 : decode cL_law 162 = .ok (.iconst 1, 1) := by decide +kernel
theorem dL_law_163 : decode cL_law 163 = .ok (.iadd, 1) := by decide +kernel
theorem dL_law_164 : decode cL_law 164 = .ok (.iaload, 1) := by decide +kernel
theorem dL_law_165 : decode cL_law 165 = .ok (.aload_n 0, 1) := by decide +kernel
theorem dL_law_166 : decode cL_law 166 = .ok (.iload_n 3, 1) := by decide +kernel
theorem dL_law_167 : decode cL_law 167 = .ok (.iconst 2, 1) := by decide +kernel
theorem dL_law_168 : decode cL_law 168 = .ok (.iadd, 1) := by decide +kernel
theorem dL_law_169 : decode cL_law 169 = .ok (.iaload, 1) := by decide +kernel
theorem dL_law_170 : decode cL_law 170 = .ok (.aload_n 0, 1) := by decide +kernel
theorem dL_law_171 : decode cL_law 171 = .ok (.iload_n 3, 1) := by decide +kernel
theorem dL_law_172 : decode cL_law 172 = .ok (.iconst 3, 1) := by decide +kernel
theorem dL_law_173 : decode cL_law 173 = .ok (.iadd, 1) := by decide +kernel
theorem dL_law_174 : decode cL_law 174 = .ok (.iaload, 1) := by decide +kernel
theorem dL_law_175 : decode cL_law 175 = .ok (.invokevirtual 17, 3) := by decide +kernel
theorem dL_law_178 : decode cL_law 178 = .ok (.if_icmp .eq 571, 3) := by decide +kernel
theorem dL_law_181 : decode cL_law 181 = .ok (.iconst 0, 1) := by decide +kernel
theorem dL_law_182 : decode cL_law 182 = .ok (.ireturn, 1) := by decide +kernel
theorem dL_law_183 : decode cL_law 183 = .ok (.aload_n 1, 1) := by decide +kernel
theorem dL_law_184 : decode cL_law 184 = .ok (.aload_n 0, 1) := by decide +kernel
theorem dL_law_185 : decode cL_law 185 = .ok (.iload_n 3, 1) := by decide +kernel
theorem dL_law_186 : decode cL_law 186 = .ok (.iconst 1, 1) := by decide +kernel
theorem dL_law_187 : decode cL_law 187 = .ok (.iadd, 1) := by decide +kernel
theorem dL_law_188 : decode cL_law 188 = .ok (.iaload, 1) := by decide +kernel
theorem dL_law_189 : decode cL_law 189 = .ok (.invokevirtual 18, 3) := by decide +kernel
theorem dL_law_192 : decode cL_law 192 = .ok (.aload_n 2, 1) := by decide +kernel
theorem dL_law_193 : decode cL_law 193 = .ok (.aload_n 0, 1) := by decide +kernel
theorem dL_law_194 : decode cL_law 194 = .ok (.iload_n 3, 1) := by decide +kernel
theorem dL_law_195 : decode cL_law 195 = .ok (.iconst 1, 1) := by decide +kernel
theorem dL_law_196 : decode cL_law 196 = .ok (.iadd, 1) := by decide +kernel
theorem dL_law_197 : decode cL_law 197 = .ok (.iaload, 1) := by decide +kernel
theorem dL_law_198 : decode cL_law 198 = .ok (.invokevirtual 22, 3) := by decide +kernel
theorem dL_law_201 : decode cL_law 201 = .ok (.if_icmp .eq 548, 3) := by decide +kernel
theorem dL_law_204 : decode cL_law 204 = .ok (.iconst 0, 1) := by decide +kernel
theorem dL_law_205 : decode cL_law 205 = .ok (.ireturn, 1) := by decide +kernel
theorem dL_law_206 : decode cL_law 206 = .ok (.aload_n 1, 1) := by decide +kernel
theorem dL_law_207 : decode cL_law 207 = .ok (.aload_n 0, 1) := by decide +kernel
theorem dL_law_208 : decode cL_law 208 = .ok (.iload_n 3, 1) := by decide +kernel
theorem dL_law_209 : decode cL_law 209 = .ok (.iconst 1, 1) := by decide +kernel
theorem dL_law_210 : decode cL_law 210 = .ok (.iadd, 1) := by decide +kernel
theorem dL_law_211 : decode cL_law 211 = .ok (.iaload, 1) := by decide +kernel
theorem dL_law_212 : decode cL_law 212 = .ok (.aload_n 0, 1) := by decide +kernel
theorem dL_law_213 : decode cL_law 213 = .ok (.iload_n 3, 1) := by decide +kernel
theorem dL_law_214 : decode cL_law 214 = .ok (.iconst 2, 1) := by decide +kernel
theorem dL_law_215 : decode cL_law 215 = .ok (.iadd, 1) := by decide +kernel
theorem dL_law_216 : decode cL_law 216 = .ok (.iaload, 1) := by decide +kernel
theorem dL_law_217 : decode cL_law 217 = .ok (.invokevirtual 23, 3) := by decide +kernel
theorem dL_law_220 : decode cL_law 220 = .ok (.aload_n 2, 1) := by decide +kernel
theorem dL_law_221 : decode cL_law 221 = .ok (.aload_n 0, 1) := by decide +kernel
theorem dL_law_222 : decode cL_law 222 = .ok (.iload_n 3, 1) := by decide +kernel
theorem dL_law_223 : decode cL_law 223 = .ok (.iconst 1, 1) := by decide +kernel
theorem dL_law_224 : decode cL_law 224 = .ok (.iadd, 1) := by decide +kernel
theorem dL_law_225 : decode cL_law 225 = .ok (.iaload, 1) := by decide +kernel
theorem dL_law_226 : decode cL_law 226 = .ok (.aload_n 0, 1) := by decide +kernel
theorem dL_law_227 : decode cL_law 227 = .ok (.iload_n 3, 1) := by decide +kernel
theorem dL_law_228 : decode cL_law 228 = .ok (.iconst 2, 1) := by decide +kernel
theorem dL_law_229 : decode cL_law 229 = .ok (.iadd, 1) := by decide +kernel
theorem dL_law_230 : decode cL_law 230 = .ok (.iaload, 1) := by decide +kernel
theorem dL_law_231 : decode cL_law 231 = .ok (.invokevirtual 27, 3) := by decide +kernel
theorem dL_law_234 : decode cL_law 234 = .ok (.if_icmp .eq 515, 3) := by decide +kernel
theorem dL_law_237 : decode cL_law 237 = .ok (.iconst 0, 1) := by decide +kernel
theorem dL_law_238 : decode cL_law 238 = .ok (.ireturn, 1) := by decide +kernel
theorem dL_law_239 : decode cL_law 239 = .ok (.aload_n 1, 1) := by decide +kernel
theorem dL_law_240 : decode cL_law 240 = .ok (.aload_n 0, 1) := by decide +kernel
theorem dL_law_241 : decode cL_law 241 = .ok (.iload_n 3, 1) := by decide +kernel
theorem dL_law_242 : decode cL_law 242 = .ok (.iconst 1, 1) := by decide +kernel
theorem dL_law_243 : decode cL_law 243 = .ok (.iadd, 1) := by decide +kernel
theorem dL_law_244 : decode cL_law 244 = .ok (.iaload, 1) := by decide +kernel
theorem dL_law_245 : decode cL_law 245 = .ok (.aload_n 0, 1) := by decide +kernel
theorem dL_law_246 : decode cL_law 246 = .ok (.iload_n 3, 1) := by decide +kernel
theorem dL_law_247 : decode cL_law 247 = .ok (.iconst 2, 1) := by decide +kernel
theorem dL_law_248 : decode cL_law 248 = .ok (.iadd, 1) := by decide +kernel
theorem dL_law_249 : decode cL_law 249 = .ok (.iaload, 1) := by decide +kernel
theorem dL_law_250 : decode cL_law 250 = .ok (.aload_n 0, 1) := by decide +kernel
theorem dL_law_251 : decode cL_law 251 = .ok (.iload_n 3, 1) := by decide +kernel
theorem dL_law_252 : decode cL_law 252 = .ok (.iconst 3, 1) := by decide +kernel
theorem dL_law_253 : decode cL_law 253 = .ok (.iadd, 1) := by decide +kernel
theorem dL_law_254 : decode cL_law 254 = .ok (.iaload, 1) := by decide +kernel
theorem dL_law_255 : decode cL_law 255 = .ok (.invokevirtual 28, 3) := by decide +kernel
theorem dL_law_258 : decode cL_law 258 = .ok (.aload_n 2, 1) := by decide +kernel
theorem dL_law_259 : decode cL_law 259 = .ok (.aload_n 0, 1) := by decide +kernel
theorem dL_law_260 : decode cL_law 260 = .ok (.iload_n 3, 1) := by decide +kernel
theorem dL_law_261 : decode cL_law 261 = .ok (.iconst 1, 1) := by decide +kernel
theorem dL_law_262 : decode cL_law 262 = .ok (.iadd, 1) := by decide +kernel
theorem dL_law_263 : decode cL_law 263 = .ok (.iaload, 1) := by decide +kernel
theorem dL_law_264 : decode cL_law 264 = .ok (.aload_n 0, 1) := by decide +kernel
theorem dL_law_265 : decode cL_law 265 = .ok (.iload_n 3, 1) := by decide +kernel
theorem dL_law_266 : decode cL_law 266 = .ok (.iconst 2, 1) := by decide +kernel
theorem dL_law_267 : decode cL_law 267 = .ok (.iadd, 1) := by decide +kernel
theorem dL_law_268 : decode cL_law 268 = .ok (.iaload, 1) := by decide +kernel
theorem dL_law_269 : decode cL_law 269 = .ok (.aload_n 0, 1) := by decide +kernel
theorem dL_law_270 : decode cL_law 270 = .ok (.iload_n 3, 1) := by decide +kernel
theorem dL_law_271 : decode cL_law 271 = .ok (.iconst 3, 1) := by decide +kernel
theorem dL_law_272 : decode cL_law 272 = .ok (.iadd, 1) := by decide +kernel
theorem dL_law_273 : decode cL_law 273 = .ok (.iaload, 1) := by decide +kernel
theorem dL_law_274 : decode cL_law 274 = .ok (.invokevirtual 31, 3) := by decide +kernel
theorem dL_law_277 : decode cL_law 277 = .ok (.if_icmp .eq 472, 3) := by decide +kernel
theorem dL_law_280 : decode cL_law 280 = .ok (.iconst 0, 1) := by decide +kernel
theorem dL_law_281 : decode cL_law 281 = .ok (.ireturn, 1) := by decide +kernel
theorem dL_law_282 : decode cL_law 282 = .ok (.aload_n 1, 1) := by decide +kernel
theorem dL_law_283 : decode cL_law 283 = .ok (.aload_n 0, 1) := by decide +kernel
theorem dL_law_284 : decode cL_law 284 = .ok (.iload_n 3, 1) := by decide +kernel
theorem dL_law_285 : decode cL_law 285 = .ok (.iconst 1, 1) := by decide +kernel
theorem dL_law_286 : decode cL_law 286 = .ok (.iadd, 1) := by decide +kernel
theorem dL_law_287 : decode cL_law 287 = .ok (.iaload, 1) := by decide +kernel
theorem dL_law_288 : decode cL_law 288 = .ok (.invokevirtual 32, 3) := by decide +kernel
theorem dL_law_291 : decode cL_law 291 = .ok (.aload_n 2, 1) := by decide +kernel
theorem dL_law_292 : decode cL_law 292 = .ok (.aload_n 0, 1) := by decide +kernel
theorem dL_law_293 : decode cL_law 293 = .ok (.iload_n 3, 1) := by decide +kernel
theorem dL_law_294 : decode cL_law 294 = .ok (.iconst 1, 1) := by decide +kernel
theorem dL_law_295 : decode cL_law 295 = .ok (.iadd, 1) := by decide +kernel
theorem dL_law_296 : decode cL_law 296 = .ok (.iaload, 1) := by decide +kernel
theorem dL_law_297 : decode cL_law 297 = .ok (.invokevirtual 35, 3) := by decide +kernel
theorem dL_law_300 : decode cL_law 300 = .ok (.if_icmp .eq 449, 3) := by decide +kernel
theorem dL_law_303 : decode cL_law 303 = .ok (.iconst 0, 1) := by decide +kernel
theorem dL_law_304 : decode cL_law 304 = .ok (.ireturn, 1) := by decide +kernel
theorem dL_law_305 : decode cL_law 305 = .ok (.aload_n 1, 1) := by decide +kernel
theorem dL_law_306 : decode cL_law 306 = .ok (.invokevirtual 36, 3) := by decide +kernel
theorem dL_law_309 : decode cL_law 309 = .ok (.aload_n 2, 1) := by decide +kernel
theorem dL_law_310 : decode cL_law 310 = .ok (.invokevirtual 40, 3) := by decide +kernel
theorem dL_law_313 : decode cL_law 313 = .ok (.if_icmp .eq 436, 3) := by decide +kernel
theorem dL_law_316 : decode cL_law 316 = .ok (.iconst 0, 1) := by decide +kernel
theorem dL_law_317 : decode cL_law 317 = .ok (.ireturn, 1) := by decide +kernel
theorem dL_law_318 : decode cL_law 318 = .ok (.aload_n 1, 1) := by decide +kernel
theorem dL_law_319 : decode cL_law 319 = .ok (.aload_n 0, 1) := by decide +kernel
theorem dL_law_320 : decode cL_law 320 = .ok (.iload_n 3, 1) := by decide +kernel
theorem dL_law_321 : decode cL_law 321 = .ok (.iconst 1, 1) := by decide +kernel
theorem dL_law_322 : decode cL_law 322 = .ok (.iadd, 1) := by decide +kernel
theorem dL_law_323 : decode cL_law 323 = .ok (.iaload, 1) := by decide +kernel
theorem dL_law_324 : decode cL_law 324 = .ok (.aload_n 0, 1) := by decide +kernel
theorem dL_law_325 : decode cL_law 325 = .ok (.iload_n 3, 1) := by decide +kernel
theorem dL_law_326 : decode cL_law 326 = .ok (.iconst 2, 1) := by decide +kernel
theorem dL_law_327 : decode cL_law 327 = .ok (.iadd, 1) := by decide +kernel
theorem dL_law_328 : decode cL_law 328 = .ok (.iaload, 1) := by decide +kernel
theorem dL_law_329 : decode cL_law 329 = .ok (.invokevirtual 41, 3) := by decide +kernel
theorem dL_law_332 : decode cL_law 332 = .ok (.aload_n 2, 1) := by decide +kernel
theorem dL_law_333 : decode cL_law 333 = .ok (.aload_n 0, 1) := by decide +kernel
theorem dL_law_334 : decode cL_law 334 = .ok (.iload_n 3, 1) := by decide +kernel
theorem dL_law_335 : decode cL_law 335 = .ok (.iconst 1, 1) := by decide +kernel
theorem dL_law_336 : decode cL_law 336 = .ok (.iadd, 1) := by decide +kernel
theorem dL_law_337 : decode cL_law 337 = .ok (.iaload, 1) := by decide +kernel
theorem dL_law_338 : decode cL_law 338 = .ok (.aload_n 0, 1) := by decide +kernel
theorem dL_law_339 : decode cL_law 339 = .ok (.iload_n 3, 1) := by decide +kernel
theorem dL_law_340 : decode cL_law 340 = .ok (.iconst 2, 1) := by decide +kernel
theorem dL_law_341 : decode cL_law 341 = .ok (.iadd, 1) := by decide +kernel
theorem dL_law_342 : decode cL_law 342 = .ok (.iaload, 1) := by decide +kernel
theorem dL_law_343 : decode cL_law 343 = .ok (.invokevirtual 44, 3) := by decide +kernel
theorem dL_law_346 : decode cL_law 346 = .ok (.if_icmp .eq 403, 3) := by decide +kernel
theorem dL_law_349 : decode cL_law 349 = .ok (.iconst 0, 1) := by decide +kernel
theorem dL_law_350 : decode cL_law 350 = .ok (.ireturn, 1) := by decide +kernel
theorem dL_law_351 : decode cL_law 351 = .ok (.aload_n 1, 1) := by decide +kernel
theorem dL_law_352 : decode cL_law 352 = .ok (.aload_n 0, 1) := by decide +kernel
theorem dL_law_353 : decode cL_law 353 = .ok (.iload_n 3, 1) := by decide +kernel
theorem dL_law_354 : decode cL_law 354 = .ok (.iconst 1, 1) := by decide +kernel
theorem dL_law_355 : decode cL_law 355 = .ok (.iadd, 1) := by decide +kernel
theorem dL_law_356 : decode cL_law 356 = .ok (.iaload, 1) := by decide +kernel
theorem dL_law_357 : decode cL_law 357 = .ok (.aload_n 0, 1) := by decide +kernel
theorem dL_law_358 : decode cL_law 358 = .ok (.iload_n 3, 1) := by decide +kernel
theorem dL_law_359 : decode cL_law 359 = .ok (.iconst 2, 1) := by decide +kernel
theorem dL_law_360 : decode cL_law 360 = .ok (.iadd, 1) := by decide +kernel
theorem dL_law_361 : decode cL_law 361 = .ok (.iaload, 1) := by decide +kernel
theorem dL_law_362 : decode cL_law 362 = .ok (.invokevirtual 45, 3) := by decide +kernel
theorem dL_law_365 : decode cL_law 365 = .ok (.aload_n 2, 1) := by decide +kernel
theorem dL_law_366 : decode cL_law 366 = .ok (.aload_n 0, 1) := by decide +kernel
theorem dL_law_367 : decode cL_law 367 = .ok (.iload_n 3, 1) := by decide +kernel
theorem dL_law_368 : decode cL_law 368 = .ok (.iconst 1, 1) := by decide +kernel
theorem dL_law_369 : decode cL_law 369 = .ok (.iadd, 1) := by decide +kernel
theorem dL_law_370 : decode cL_law 370 = .ok (.iaload, 1) := by decide +kernel
theorem dL_law_371 : decode cL_law 371 = .ok (.aload_n 0, 1) := by decide +kernel
theorem dL_law_372 : decode cL_law 372 = .ok (.iload_n 3, 1) := by decide +kernel
theorem dL_law_373 : decode cL_law 373 = .ok (.iconst 2, 1) := by decide +kernel
theorem dL_law_374 : decode cL_law 374 = .ok (.iadd, 1) := by decide +kernel
theorem dL_law_375 : decode cL_law 375 = .ok (.iaload, 1) := by decide +kernel
theorem dL_law_376 : decode cL_law 376 = .ok (.invokevirtual 48, 3) := by decide +kernel
theorem dL_law_379 : decode cL_law 379 = .ok (.if_icmp .eq 370, 3) := by decide +kernel
theorem dL_law_382 : decode cL_law 382 = .ok (.iconst 0, 1) := by decide +kernel
theorem dL_law_383 : decode cL_law 383 = .ok (.ireturn, 1) := by decide +kernel
theorem dL_law_384 : decode cL_law 384 = .ok (.aload_n 1, 1) := by decide +kernel
theorem dL_law_385 : decode cL_law 385 = .ok (.aload_n 0, 1) := by decide +kernel
theorem dL_law_386 : decode cL_law 386 = .ok (.iload_n 3, 1) := by decide +kernel
theorem dL_law_387 : decode cL_law 387 = .ok (.iconst 1, 1) := by decide +kernel
theorem dL_law_388 : decode cL_law 388 = .ok (.iadd, 1) := by decide +kernel
theorem dL_law_389 : decode cL_law 389 = .ok (.iaload, 1) := by decide +kernel
theorem dL_law_390 : decode cL_law 390 = .ok (.aload_n 0, 1) := by decide +kernel
theorem dL_law_391 : decode cL_law 391 = .ok (.iload_n 3, 1) := by decide +kernel
theorem dL_law_392 : decode cL_law 392 = .ok (.iconst 2, 1) := by decide +kernel
theorem dL_law_393 : decode cL_law 393 = .ok (.iadd, 1) := by decide +kernel
theorem dL_law_394 : decode cL_law 394 = .ok (.iaload, 1) := by decide +kernel
theorem dL_law_395 : decode cL_law 395 = .ok (.invokevirtual 49, 3) := by decide +kernel
theorem dL_law_398 : decode cL_law 398 = .ok (.aload_n 2, 1) := by decide +kernel
theorem dL_law_399 : decode cL_law 399 = .ok (.aload_n 0, 1) := by decide +kernel
theorem dL_law_400 : decode cL_law 400 = .ok (.iload_n 3, 1) := by decide +kernel
theorem dL_law_401 : decode cL_law 401 = .ok (.iconst 1, 1) := by decide +kernel
theorem dL_law_402 : decode cL_law 402 = .ok (.iadd, 1) := by decide +kernel
theorem dL_law_403 : decode cL_law 403 = .ok (.iaload, 1) := by decide +kernel
theorem dL_law_404 : decode cL_law 404 = .ok (.aload_n 0, 1) := by decide +kernel
theorem dL_law_405 : decode cL_law 405 = .ok (.iload_n 3, 1) := by decide +kernel
theorem dL_law_406 : decode cL_law 406 = .ok (.iconst 2, 1) := by decide +kernel
theorem dL_law_407 : decode cL_law 407 = .ok (.iadd, 1) := by decide +kernel
theorem dL_law_408 : decode cL_law 408 = .ok (.iaload, 1) := by decide +kernel
theorem dL_law_409 : decode cL_law 409 = .ok (.invokevirtual 52, 3) := by decide +kernel
theorem dL_law_412 : decode cL_law 412 = .ok (.if_icmp .eq 337, 3) := by decide +kernel
theorem dL_law_415 : decode cL_law 415 = .ok (.iconst 0, 1) := by decide +kernel
theorem dL_law_416 : decode cL_law 416 = .ok (.ireturn, 1) := by decide +kernel
theorem dL_law_417 : decode cL_law 417 = .ok (.aload_n 1, 1) := by decide +kernel
theorem dL_law_418 : decode cL_law 418 = .ok (.aload_n 0, 1) := by decide +kernel
theorem dL_law_419 : decode cL_law 419 = .ok (.iload_n 3, 1) := by decide +kernel
theorem dL_law_420 : decode cL_law 420 = .ok (.iconst 1, 1) := by decide +kernel
theorem dL_law_421 : decode cL_law 421 = .ok (.iadd, 1) := by decide +kernel
theorem dL_law_422 : decode cL_law 422 = .ok (.iaload, 1) := by decide +kernel
theorem dL_law_423 : decode cL_law 423 = .ok (.aload_n 0, 1) := by decide +kernel
theorem dL_law_424 : decode cL_law 424 = .ok (.iload_n 3, 1) := by decide +kernel
theorem dL_law_425 : decode cL_law 425 = .ok (.iconst 2, 1) := by decide +kernel
theorem dL_law_426 : decode cL_law 426 = .ok (.iadd, 1) := by decide +kernel
theorem dL_law_427 : decode cL_law 427 = .ok (.iaload, 1) := by decide +kernel
theorem dL_law_428 : decode cL_law 428 = .ok (.invokevirtual 53, 3) := by decide +kernel
theorem dL_law_431 : decode cL_law 431 = .ok (.aload_n 2, 1) := by decide +kernel
theorem dL_law_432 : decode cL_law 432 = .ok (.aload_n 0, 1) := by decide +kernel
theorem dL_law_433 : decode cL_law 433 = .ok (.iload_n 3, 1) := by decide +kernel
theorem dL_law_434 : decode cL_law 434 = .ok (.iconst 1, 1) := by decide +kernel
theorem dL_law_435 : decode cL_law 435 = .ok (.iadd, 1) := by decide +kernel
theorem dL_law_436 : decode cL_law 436 = .ok (.iaload, 1) := by decide +kernel
theorem dL_law_437 : decode cL_law 437 = .ok (.aload_n 0, 1) := by decide +kernel
theorem dL_law_438 : decode cL_law 438 = .ok (.iload_n 3, 1) := by decide +kernel
theorem dL_law_439 : decode cL_law 439 = .ok (.iconst 2, 1) := by decide +kernel
theorem dL_law_440 : decode cL_law 440 = .ok (.iadd, 1) := by decide +kernel
theorem dL_law_441 : decode cL_law 441 = .ok (.iaload, 1) := by decide +kernel
theorem dL_law_442 : decode cL_law 442 = .ok (.invokevirtual 56, 3) := by decide +kernel
theorem dL_law_445 : decode cL_law 445 = .ok (.if_icmp .eq 304, 3) := by decide +kernel
theorem dL_law_448 : decode cL_law 448 = .ok (.iconst 0, 1) := by decide +kernel
theorem dL_law_449 : decode cL_law 449 = .ok (.ireturn, 1) := by decide +kernel
theorem dL_law_450 : decode cL_law 450 = .ok (.aload_n 1, 1) := by decide +kernel
theorem dL_law_451 : decode cL_law 451 = .ok (.aload_n 0, 1) := by decide +kernel
theorem dL_law_452 : decode cL_law 452 = .ok (.iload_n 3, 1) := by decide +kernel
theorem dL_law_453 : decode cL_law 453 = .ok (.iconst 1, 1) := by decide +kernel
theorem dL_law_454 : decode cL_law 454 = .ok (.iadd, 1) := by decide +kernel
theorem dL_law_455 : decode cL_law 455 = .ok (.iaload, 1) := by decide +kernel
theorem dL_law_456 : decode cL_law 456 = .ok (.aload_n 0, 1) := by decide +kernel
theorem dL_law_457 : decode cL_law 457 = .ok (.iload_n 3, 1) := by decide +kernel
theorem dL_law_458 : decode cL_law 458 = .ok (.iconst 2, 1) := by decide +kernel
theorem dL_law_459 : decode cL_law 459 = .ok (.iadd, 1) := by decide +kernel
theorem dL_law_460 : decode cL_law 460 = .ok (.iaload, 1) := by decide +kernel
theorem dL_law_461 : decode cL_law 461 = .ok (.invokevirtual 57, 3) := by decide +kernel
theorem dL_law_464 : decode cL_law 464 = .ok (.aload_n 2, 1) := by decide +kernel
theorem dL_law_465 : decode cL_law 465 = .ok (.aload_n 0, 1) := by decide +kernel
theorem dL_law_466 : decode cL_law 466 = .ok (.iload_n 3, 1) := by decide +kernel
theorem dL_law_467 : decode cL_law 467 = .ok (.iconst 1, 1) := by decide +kernel
theorem dL_law_468 : decode cL_law 468 = .ok (.iadd, 1) := by decide +kernel
theorem dL_law_469 : decode cL_law 469 = .ok (.iaload, 1) := by decide +kernel
theorem dL_law_470 : decode cL_law 470 = .ok (.aload_n 0, 1) := by decide +kernel
theorem dL_law_471 : decode cL_law 471 = .ok (.iload_n 3, 1) := by decide +kernel
theorem dL_law_472 : decode cL_law 472 = .ok (.iconst 2, 1) := by decide +kernel
theorem dL_law_473 : decode cL_law 473 = .ok (.iadd, 1) := by decide +kernel
theorem dL_law_474 : decode cL_law 474 = .ok (.iaload, 1) := by decide +kernel
theorem dL_law_475 : decode cL_law 475 = .ok (.invokevirtual 60, 3) := by decide +kernel
theorem dL_law_478 : decode cL_law 478 = .ok (.if_icmp .eq 271, 3) := by decide +kernel
theorem dL_law_481 : decode cL_law 481 = .ok (.iconst 0, 1) := by decide +kernel
theorem dL_law_482 : decode cL_law 482 = .ok (.ireturn, 1) := by decide +kernel
theorem dL_law_483 : decode cL_law 483 = .ok (.aload_n 1, 1) := by decide +kernel
theorem dL_law_484 : decode cL_law 484 = .ok (.aload_n 0, 1) := by decide +kernel
theorem dL_law_485 : decode cL_law 485 = .ok (.iload_n 3, 1) := by decide +kernel
theorem dL_law_486 : decode cL_law 486 = .ok (.iconst 1, 1) := by decide +kernel
theorem dL_law_487 : decode cL_law 487 = .ok (.iadd, 1) := by decide +kernel
theorem dL_law_488 : decode cL_law 488 = .ok (.iaload, 1) := by decide +kernel
theorem dL_law_489 : decode cL_law 489 = .ok (.aload_n 0, 1) := by decide +kernel
theorem dL_law_490 : decode cL_law 490 = .ok (.iload_n 3, 1) := by decide +kernel
theorem dL_law_491 : decode cL_law 491 = .ok (.iconst 2, 1) := by decide +kernel
theorem dL_law_492 : decode cL_law 492 = .ok (.iadd, 1) := by decide +kernel
theorem dL_law_493 : decode cL_law 493 = .ok (.iaload, 1) := by decide +kernel
theorem dL_law_494 : decode cL_law 494 = .ok (.aload_n 0, 1) := by decide +kernel
theorem dL_law_495 : decode cL_law 495 = .ok (.iload_n 3, 1) := by decide +kernel
theorem dL_law_496 : decode cL_law 496 = .ok (.iconst 3, 1) := by decide +kernel
theorem dL_law_497 : decode cL_law 497 = .ok (.iadd, 1) := by decide +kernel
theorem dL_law_498 : decode cL_law 498 = .ok (.iaload, 1) := by decide +kernel
theorem dL_law_499 : decode cL_law 499 = .ok (.aload_n 0, 1) := by decide +kernel
theorem dL_law_500 : decode cL_law 500 = .ok (.iload_n 3, 1) := by decide +kernel
theorem dL_law_501 : decode cL_law 501 = .ok (.iconst 4, 1) := by decide +kernel
theorem dL_law_502 : decode cL_law 502 = .ok (.iadd, 1) := by decide +kernel
theorem dL_law_503 : decode cL_law 503 = .ok (.iaload, 1) := by decide +kernel
theorem dL_law_504 : decode cL_law 504 = .ok (.invokevirtual 61, 3) := by decide +kernel
theorem dL_law_507 : decode cL_law 507 = .ok (.aload_n 2, 1) := by decide +kernel
theorem dL_law_508 : decode cL_law 508 = .ok (.aload_n 0, 1) := by decide +kernel
theorem dL_law_509 : decode cL_law 509 = .ok (.iload_n 3, 1) := by decide +kernel
theorem dL_law_510 : decode cL_law 510 = .ok (.iconst 1, 1) := by decide +kernel
theorem dL_law_511 : decode cL_law 511 = .ok (.iadd, 1) := by decide +kernel
theorem dL_law_512 : decode cL_law 512 = .ok (.iaload, 1) := by decide +kernel
theorem dL_law_513 : decode cL_law 513 = .ok (.aload_n 0, 1) := by decide +kernel
theorem dL_law_514 : decode cL_law 514 = .ok (.iload_n 3, 1) := by decide +kernel
theorem dL_law_515 : decode cL_law 515 = .ok (.iconst 2, 1) := by decide +kernel
theorem dL_law_516 : decode cL_law 516 = .ok (.iadd, 1) := by decide +kernel
theorem dL_law_517 : decode cL_law 517 = .ok (.iaload, 1) := by decide +kernel
theorem dL_law_518 : decode cL_law 518 = .ok (.aload_n 0, 1) := by decide +kernel
theorem dL_law_519 : decode cL_law 519 = .ok (.iload_n 3, 1) := by decide +kernel
theorem dL_law_520 : decode cL_law 520 = .ok (.iconst 3, 1) := by decide +kernel
theorem dL_law_521 : decode cL_law 521 = .ok (.iadd, 1) := by decide +kernel
theorem dL_law_522 : decode cL_law 522 = .ok (.iaload, 1) := by decide +kernel
theorem dL_law_523 : decode cL_law 523 = .ok (.aload_n 0, 1) := by decide +kernel
theorem dL_law_524 : decode cL_law 524 = .ok (.iload_n 3, 1) := by decide +kernel
theorem dL_law_525 : decode cL_law 525 = .ok (.iconst 4, 1) := by decide +kernel
theorem dL_law_526 : decode cL_law 526 = .ok (.iadd, 1) := by decide +kernel
theorem dL_law_527 : decode cL_law 527 = .ok (.iaload, 1) := by decide +kernel
theorem dL_law_528 : decode cL_law 528 = .ok (.invokevirtual 65, 3) := by decide +kernel
theorem dL_law_531 : decode cL_law 531 = .ok (.if_icmp .eq 218, 3) := by decide +kernel
theorem dL_law_534 : decode cL_law 534 = .ok (.iconst 0, 1) := by decide +kernel
theorem dL_law_535 : decode cL_law 535 = .ok (.ireturn, 1) := by decide +kernel
theorem dL_law_536 : decode cL_law 536 = .ok (.aload_n 1, 1) := by decide +kernel
theorem dL_law_537 : decode cL_law 537 = .ok (.aload_n 0, 1) := by decide +kernel
theorem dL_law_538 : decode cL_law 538 = .ok (.iload_n 3, 1) := by decide +kernel
theorem dL_law_539 : decode cL_law 539 = .ok (.iconst 1, 1) := by decide +kernel
theorem dL_law_540 : decode cL_law 540 = .ok (.iadd, 1) := by decide +kernel
theorem dL_law_541 : decode cL_law 541 = .ok (.iaload, 1) := by decide +kernel
theorem dL_law_542 : decode cL_law 542 = .ok (.aload_n 0, 1) := by decide +kernel
theorem dL_law_543 : decode cL_law 543 = .ok (.iload_n 3, 1) := by decide +kernel
theorem dL_law_544 : decode cL_law 544 = .ok (.iconst 2, 1) := by decide +kernel
theorem dL_law_545 : decode cL_law 545 = .ok (.iadd, 1) := by decide +kernel
theorem dL_law_546 : decode cL_law 546 = .ok (.iaload, 1) := by decide +kernel
theorem dL_law_547 : decode cL_law 547 = .ok (.invokevirtual 66, 3) := by decide +kernel
theorem dL_law_550 : decode cL_law 550 = .ok (.aload_n 2, 1) := by decide +kernel
theorem dL_law_551 : decode cL_law 551 = .ok (.aload_n 0, 1) := by decide +kernel
theorem dL_law_552 : decode cL_law 552 = .ok (.iload_n 3, 1) := by decide +kernel
theorem dL_law_553 : decode cL_law 553 = .ok (.iconst 1, 1) := by decide +kernel
theorem dL_law_554 : decode cL_law 554 = .ok (.iadd, 1) := by decide +kernel
theorem dL_law_555 : decode cL_law 555 = .ok (.iaload, 1) := by decide +kernel
theorem dL_law_556 : decode cL_law 556 = .ok (.aload_n 0, 1) := by decide +kernel
theorem dL_law_557 : decode cL_law 557 = .ok (.iload_n 3, 1) := by decide +kernel
theorem dL_law_558 : decode cL_law 558 = .ok (.iconst 2, 1) := by decide +kernel
theorem dL_law_559 : decode cL_law 559 = .ok (.iadd, 1) := by decide +kernel
theorem dL_law_560 : decode cL_law 560 = .ok (.iaload, 1) := by decide +kernel
theorem dL_law_561 : decode cL_law 561 = .ok (.invokevirtual 69, 3) := by decide +kernel
theorem dL_law_564 : decode cL_law 564 = .ok (.if_icmp .eq 185, 3) := by decide +kernel
theorem dL_law_567 : decode cL_law 567 = .ok (.iconst 0, 1) := by decide +kernel
theorem dL_law_568 : decode cL_law 568 = .ok (.ireturn, 1) := by decide +kernel
theorem dL_law_569 : decode cL_law 569 = .ok (.aload_n 1, 1) := by decide +kernel
theorem dL_law_570 : decode cL_law 570 = .ok (.invokevirtual 70, 3) := by decide +kernel
theorem dL_law_573 : decode cL_law 573 = .ok (.aload_n 2, 1) := by decide +kernel
theorem dL_law_574 : decode cL_law 574 = .ok (.invokevirtual 73, 3) := by decide +kernel
theorem dL_law_577 : decode cL_law 577 = .ok (.if_icmp .eq 172, 3) := by decide +kernel
theorem dL_law_580 : decode cL_law 580 = .ok (.iconst 0, 1) := by decide +kernel
theorem dL_law_581 : decode cL_law 581 = .ok (.ireturn, 1) := by decide +kernel
theorem dL_law_582 : decode cL_law 582 = .ok (.aload_n 1, 1) := by decide +kernel
theorem dL_law_583 : decode cL_law 583 = .ok (.invokevirtual 74, 3) := by decide +kernel
theorem dL_law_586 : decode cL_law 586 = .ok (.aload_n 2, 1) := by decide +kernel
theorem dL_law_587 : decode cL_law 587 = .ok (.invokevirtual 77, 3) := by decide +kernel
theorem dL_law_590 : decode cL_law 590 = .ok (.if_icmp .eq 159, 3) := by decide +kernel
theorem dL_law_593 : decode cL_law 593 = .ok (.iconst 0, 1) := by decide +kernel
theorem dL_law_594 : decode cL_law 594 = .ok (.ireturn, 1) := by decide +kernel
theorem dL_law_595 : decode cL_law 595 = .ok (.aload_n 1, 1) := by decide +kernel
theorem dL_law_596 : decode cL_law 596 = .ok (.aload_n 0, 1) := by decide +kernel
theorem dL_law_597 : decode cL_law 597 = .ok (.iload_n 3, 1) := by decide +kernel
theorem dL_law_598 : decode cL_law 598 = .ok (.iconst 1, 1) := by decide +kernel
theorem dL_law_599 : decode cL_law 599 = .ok (.iadd, 1) := by decide +kernel
theorem dL_law_600 : decode cL_law 600 = .ok (.iaload, 1) := by decide +kernel
theorem dL_law_601 : decode cL_law 601 = .ok (.invokevirtual 78, 3) := by decide +kernel
theorem dL_law_604 : decode cL_law 604 = .ok (.aload_n 2, 1) := by decide +kernel
theorem dL_law_605 : decode cL_law 605 = .ok (.aload_n 0, 1) := by decide +kernel
theorem dL_law_606 : decode cL_law 606 = .ok (.iload_n 3, 1) := by decide +kernel
theorem dL_law_607 : decode cL_law 607 = .ok (.iconst 1, 1) := by decide +kernel
theorem dL_law_608 : decode cL_law 608 = .ok (.iadd, 1) := by decide +kernel
theorem dL_law_609 : decode cL_law 609 = .ok (.iaload, 1) := by decide +kernel
theorem dL_law_610 : decode cL_law 610 = .ok (.invokevirtual 81, 3) := by decide +kernel
theorem dL_law_613 : decode cL_law 613 = .ok (.if_icmp .eq 136, 3) := by decide +kernel
theorem dL_law_616 : decode cL_law 616 = .ok (.iconst 0, 1) := by decide +kernel
theorem dL_law_617 : decode cL_law 617 = .ok (.ireturn, 1) := by decide +kernel
theorem dL_law_618 : decode cL_law 618 = .ok (.aload_n 1, 1) := by decide +kernel
theorem dL_law_619 : decode cL_law 619 = .ok (.aload_n 0, 1) := by decide +kernel
theorem dL_law_620 : decode cL_law 620 = .ok (.iload_n 3, 1) := by decide +kernel
theorem dL_law_621 : decode cL_law 621 = .ok (.iconst 1, 1) := by decide +kernel
theorem dL_law_622 : decode cL_law 622 = .ok (.iadd, 1) := by decide +kernel
theorem dL_law_623 : decode cL_law 623 = .ok (.iaload, 1) := by decide +kernel
theorem dL_law_624 : decode cL_law 624 = .ok (.invokevirtual 82, 3) := by decide +kernel
theorem dL_law_627 : decode cL_law 627 = .ok (.aload_n 2, 1) := by decide +kernel
theorem dL_law_628 : decode cL_law 628 = .ok (.aload_n 0, 1) := by decide +kernel
theorem dL_law_629 : decode cL_law 629 = .ok (.iload_n 3, 1) := by decide +kernel
theorem dL_law_630 : decode cL_law 630 = .ok (.iconst 1, 1) := by decide +kernel
theorem dL_law_631 : decode cL_law 631 = .ok (.iadd, 1) := by decide +kernel
theorem dL_law_632 : decode cL_law 632 = .ok (.iaload, 1) := by decide +kernel
theorem dL_law_633 : decode cL_law 633 = .ok (.invokevirtual 85, 3) := by decide +kernel
theorem dL_law_636 : decode cL_law 636 = .ok (.if_icmp .eq 113, 3) := by decide +kernel
theorem dL_law_639 : decode cL_law 639 = .ok (.iconst 0, 1) := by decide +kernel
theorem dL_law_640 : decode cL_law 640 = .ok (.ireturn, 1) := by decide +kernel
theorem dL_law_641 : decode cL_law 641 = .ok (.aload_n 1, 1) := by decide +kernel
theorem dL_law_642 : decode cL_law 642 = .ok (.aload_n 0, 1) := by decide +kernel
theorem dL_law_643 : decode cL_law 643 = .ok (.iload_n 3, 1) := by decide +kernel
theorem dL_law_644 : decode cL_law 644 = .ok (.iconst 1, 1) := by decide +kernel
theorem dL_law_645 : decode cL_law 645 = .ok (.iadd, 1) := by decide +kernel
theorem dL_law_646 : decode cL_law 646 = .ok (.iaload, 1) := by decide +kernel
theorem dL_law_647 : decode cL_law 647 = .ok (.invokevirtual 86, 3) := by decide +kernel
theorem dL_law_650 : decode cL_law 650 = .ok (.aload_n 2, 1) := by decide +kernel
theorem dL_law_651 : decode cL_law 651 = .ok (.aload_n 0, 1) := by decide +kernel
theorem dL_law_652 : decode cL_law 652 = .ok (.iload_n 3, 1) := by decide +kernel
theorem dL_law_653 : decode cL_law 653 = .ok (.iconst 1, 1) := by decide +kernel
theorem dL_law_654 : decode cL_law 654 = .ok (.iadd, 1) := by decide +kernel
theorem dL_law_655 : decode cL_law 655 = .ok (.iaload, 1) := by decide +kernel
theorem dL_law_656 : decode cL_law 656 = .ok (.invokevirtual 89, 3) := by decide +kernel
theorem dL_law_659 : decode cL_law 659 = .ok (.if_icmp .eq 90, 3) := by decide +kernel
theorem dL_law_662 : decode cL_law 662 = .ok (.iconst 0, 1) := by decide +kernel
theorem dL_law_663 : decode cL_law 663 = .ok (.ireturn, 1) := by decide +kernel
theorem dL_law_664 : decode cL_law 664 = .ok (.aload_n 1, 1) := by decide +kernel
theorem dL_law_665 : decode cL_law 665 = .ok (.invokevirtual 90, 3) := by decide +kernel
theorem dL_law_668 : decode cL_law 668 = .ok (.aload_n 2, 1) := by decide +kernel
theorem dL_law_669 : decode cL_law 669 = .ok (.invokevirtual 93, 3) := by decide +kernel
theorem dL_law_672 : decode cL_law 672 = .ok (.if_icmp .eq 77, 3) := by decide +kernel
theorem dL_law_675 : decode cL_law 675 = .ok (.iconst 0, 1) := by decide +kernel
theorem dL_law_676 : decode cL_law 676 = .ok (.ireturn, 1) := by decide +kernel
theorem dL_law_677 : decode cL_law 677 = .ok (.aload_n 1, 1) := by decide +kernel
theorem dL_law_678 : decode cL_law 678 = .ok (.aload_n 0, 1) := by decide +kernel
theorem dL_law_679 : decode cL_law 679 = .ok (.iload_n 3, 1) := by decide +kernel
theorem dL_law_680 : decode cL_law 680 = .ok (.iconst 1, 1) := by decide +kernel
theorem dL_law_681 : decode cL_law 681 = .ok (.iadd, 1) := by decide +kernel
theorem dL_law_682 : decode cL_law 682 = .ok (.iaload, 1) := by decide +kernel
theorem dL_law_683 : decode cL_law 683 = .ok (.invokevirtual 94, 3) := by decide +kernel
theorem dL_law_686 : decode cL_law 686 = .ok (.aload_n 2, 1) := by decide +kernel
theorem dL_law_687 : decode cL_law 687 = .ok (.aload_n 0, 1) := by decide +kernel
theorem dL_law_688 : decode cL_law 688 = .ok (.iload_n 3, 1) := by decide +kernel
theorem dL_law_689 : decode cL_law 689 = .ok (.iconst 1, 1) := by decide +kernel
theorem dL_law_690 : decode cL_law 690 = .ok (.iadd, 1) := by decide +kernel
theorem dL_law_691 : decode cL_law 691 = .ok (.iaload, 1) := by decide +kernel
theorem dL_law_692 : decode cL_law 692 = .ok (.invokevirtual 97, 3) := by decide +kernel
theorem dL_law_695 : decode cL_law 695 = .ok (.if_icmp .eq 54, 3) := by decide +kernel
theorem dL_law_698 : decode cL_law 698 = .ok (.iconst 0, 1) := by decide +kernel
theorem dL_law_699 : decode cL_law 699 = .ok (.ireturn, 1) := by decide +kernel
theorem dL_law_700 : decode cL_law 700 = .ok (.aload_n 1, 1) := by decide +kernel
theorem dL_law_701 : decode cL_law 701 = .ok (.invokevirtual 98, 3) := by decide +kernel
theorem dL_law_704 : decode cL_law 704 = .ok (.aload_n 2, 1) := by decide +kernel
theorem dL_law_705 : decode cL_law 705 = .ok (.invokevirtual 101, 3) := by decide +kernel
theorem dL_law_708 : decode cL_law 708 = .ok (.if_icmp .eq 41, 3) := by decide +kernel
theorem dL_law_711 : decode cL_law 711 = .ok (.iconst 0, 1) := by decide +kernel
theorem dL_law_712 : decode cL_law 712 = .ok (.ireturn, 1) := by decide +kernel
theorem dL_law_713 : decode cL_law 713 = .ok (.aload_n 1, 1) := by decide +kernel
theorem dL_law_714 : decode cL_law 714 = .ok (.aload_n 0, 1) := by decide +kernel
theorem dL_law_715 : decode cL_law 715 = .ok (.iload_n 3, 1) := by decide +kernel
theorem dL_law_716 : decode cL_law 716 = .ok (.iconst 1, 1) := by decide +kernel
theorem dL_law_717 : decode cL_law 717 = .ok (.iadd, 1) := by decide +kernel
theorem dL_law_718 : decode cL_law 718 = .ok (.iaload, 1) := by decide +kernel
theorem dL_law_719 : decode cL_law 719 = .ok (.invokevirtual 102, 3) := by decide +kernel
theorem dL_law_722 : decode cL_law 722 = .ok (.aload_n 2, 1) := by decide +kernel
theorem dL_law_723 : decode cL_law 723 = .ok (.aload_n 0, 1) := by decide +kernel
theorem dL_law_724 : decode cL_law 724 = .ok (.iload_n 3, 1) := by decide +kernel
theorem dL_law_725 : decode cL_law 725 = .ok (.iconst 1, 1) := by decide +kernel
theorem dL_law_726 : decode cL_law 726 = .ok (.iadd, 1) := by decide +kernel
theorem dL_law_727 : decode cL_law 727 = .ok (.iaload, 1) := by decide +kernel
theorem dL_law_728 : decode cL_law 728 = .ok (.invokevirtual 105, 3) := by decide +kernel
theorem dL_law_731 : decode cL_law 731 = .ok (.if_icmp .eq 18, 3) := by decide +kernel
theorem dL_law_734 : decode cL_law 734 = .ok (.iconst 0, 1) := by decide +kernel
theorem dL_law_735 : decode cL_law 735 = .ok (.ireturn, 1) := by decide +kernel
theorem dL_law_736 : decode cL_law 736 = .ok (.aload_n 1, 1) := by decide +kernel
theorem dL_law_737 : decode cL_law 737 = .ok (.invokevirtual 106, 3) := by decide +kernel
theorem dL_law_740 : decode cL_law 740 = .ok (.aload_n 2, 1) := by decide +kernel
theorem dL_law_741 : decode cL_law 741 = .ok (.invokevirtual 109, 3) := by decide +kernel
theorem dL_law_744 : decode cL_law 744 = .ok (.if_icmp .eq 5, 3) := by decide +kernel
theorem dL_law_747 : decode cL_law 747 = .ok (.iconst 0, 1) := by decide +kernel
theorem dL_law_748 : decode cL_law 748 = .ok (.ireturn, 1) := by decide +kernel
theorem dL_law_749 : decode cL_law 749 = .ok (.iinc 3 5, 3) := by decide +kernel
theorem dL_law_752 : decode cL_law 752 = .ok (.goto (-734), 3) := by decide +kernel
theorem dL_law_755 : decode cL_law 755 = .ok (.iconst 1, 1) := by decide +kernel
theorem dL_law_756 : decode cL_law 756 = .ok (.ireturn, 1) := by decide +kernel
abbrev vwCl : List vw_C := [(RX0, TX0, 13), (RX1, TX1, 3), (RX2, TX2, 3), (RX3, TX3, 7), (RX4, TX4, 4), (RX5, TX5, 17)]
theorem tb_0 : Cond.selects RX0 yX0_isOpen yX0_isOpen ∈ lw_tbl := List.mem_of_getElem? (i := 0) (by decide +kernel)
theorem tb_1 : Cond.selects RX0 yX0_canHold yX0_canHold ∈ lw_tbl := List.mem_of_getElem? (i := 1) (by decide +kernel)
theorem tb_2 : Cond.selects RX0 yX0_rankByRule yX0_rankByRule ∈ lw_tbl := List.mem_of_getElem? (i := 2) (by decide +kernel)
theorem tb_3 : Cond.selects RX0 yX0_gapAhead yX0_gapAhead ∈ lw_tbl := List.mem_of_getElem? (i := 3) (by decide +kernel)
theorem tb_4 : Cond.selects RX0 yX0_roomToOpen yX0_roomToOpen ∈ lw_tbl := List.mem_of_getElem? (i := 4) (by decide +kernel)
theorem tb_5 : Cond.selects RX0 yX0_putIn yX0_putIn ∈ lw_tbl := List.mem_of_getElem? (i := 5) (by decide +kernel)
theorem tb_6 : Cond.selects RX4 yX4_keepTrial yX4_keepTrial ∈ lw_tbl := List.mem_of_getElem? (i := 6) (by decide +kernel)
theorem tb_7 : Cond.selects RX0 yX0_placeOf yX0_placeOf ∈ lw_tbl := List.mem_of_getElem? (i := 7) (by decide +kernel)
theorem tb_8 : Cond.selects RX0 yX0_takeOut yX0_takeOut ∈ lw_tbl := List.mem_of_getElem? (i := 8) (by decide +kernel)
theorem tb_9 : Cond.selects RX0 yX0_couldGo yX0_couldGo ∈ lw_tbl := List.mem_of_getElem? (i := 9) (by decide +kernel)
theorem tb_10 : Cond.selects RX4 yX4_tryAnew yX4_tryAnew ∈ lw_tbl := List.mem_of_getElem? (i := 10) (by decide +kernel)
theorem tb_11 : Cond.selects RX0 yX0_forgetRooms yX0_forgetRooms ∈ lw_tbl := List.mem_of_getElem? (i := 11) (by decide +kernel)
theorem tb_12 : Cond.selects RX0 yX0_otherRooms yX0_otherRooms ∈ lw_tbl := List.mem_of_getElem? (i := 12) (by decide +kernel)
theorem tb_13 : Cond.selects RX0 yX0_talksBeside yX0_talksBeside ∈ lw_tbl := List.mem_of_getElem? (i := 13) (by decide +kernel)
theorem tb_14 : Cond.selects RX0 yX0_talksIn yX0_talksIn ∈ lw_tbl := List.mem_of_getElem? (i := 14) (by decide +kernel)
theorem tb_15 : Cond.selects RX0 yX0_longestFree yX0_longestFree ∈ lw_tbl := List.mem_of_getElem? (i := 15) (by decide +kernel)
theorem tb_16 : Cond.selects RX0 yX0_isTaken yX0_isTaken ∈ lw_tbl := List.mem_of_getElem? (i := 16) (by decide +kernel)
theorem tb_17 : Cond.selects RX0 yX0_takesHour yX0_takesHour ∈ lw_tbl := List.mem_of_getElem? (i := 17) (by decide +kernel)
theorem tb_18 : Cond.selects RX4 yX4_couldBeEmptied yX4_couldBeEmptied ∈ lw_tbl := List.mem_of_getElem? (i := 18) (by decide +kernel)
theorem tb_19 : Cond.selects RX0 yX0_lowestOther yX0_lowestOther ∈ lw_tbl := List.mem_of_getElem? (i := 19) (by decide +kernel)
theorem tb_20 : Cond.selects RX0 yX0_fewestRooms yX0_fewestRooms ∈ lw_tbl := List.mem_of_getElem? (i := 20) (by decide +kernel)
theorem tb_21 : Cond.selects RX0 yX0_hoursTaken yX0_hoursTaken ∈ lw_tbl := List.mem_of_getElem? (i := 21) (by decide +kernel)
theorem tb_22 : Cond.selects RX2 yX2_readKind yX2_readKind ∈ lw_tbl := List.mem_of_getElem? (i := 22) (by decide +kernel)
theorem tb_23 : Cond.selects RX2 yX2_isSignLeft yX2_isSignLeft ∈ lw_tbl := List.mem_of_getElem? (i := 23) (by decide +kernel)
theorem tb_24 : Cond.selects RX2 yX2_readNumber yX2_readNumber ∈ lw_tbl := List.mem_of_getElem? (i := 24) (by decide +kernel)
theorem tb_25 : Cond.selects RX2 yX2_isDigitLeft yX2_isDigitLeft ∈ lw_tbl := List.mem_of_getElem? (i := 25) (by decide +kernel)
theorem tb_26 : Cond.selects RX2 yX2_readSign yX2_readSign ∈ lw_tbl := List.mem_of_getElem? (i := 26) (by decide +kernel)
theorem tb_27 : Cond.selects RX3 yX3_stopAt yX3_stopAt ∈ lw_tbl := List.mem_of_getElem? (i := 27) (by decide +kernel)
theorem tb_28 : Cond.selects RX5 yX5_refusesTalk yX5_refusesTalk ∈ lw_tbl := List.mem_of_getElem? (i := 28) (by decide +kernel)
theorem tb_29 : Cond.selects RX5 yX5_gets yX5_gets ∈ lw_tbl := List.mem_of_getElem? (i := 29) (by decide +kernel)
theorem tb_30 : Cond.selects RX5 yX5_canBe yX5_canBe ∈ lw_tbl := List.mem_of_getElem? (i := 30) (by decide +kernel)
theorem tb_31 : Cond.selects RX5 yX5_room0 yX5_room0 ∈ lw_tbl := List.mem_of_getElem? (i := 31) (by decide +kernel)
theorem tb_32 : Cond.selects RX5 yX5_of yX5_of ∈ lw_tbl := List.mem_of_getElem? (i := 32) (by decide +kernel)
theorem tb_33 : Cond.selects RX5 yX5_isOpen yX5_isOpen ∈ lw_tbl := List.mem_of_getElem? (i := 33) (by decide +kernel)
theorem tb_34 : Cond.selects RX5 yX5_worth yX5_worth ∈ lw_tbl := List.mem_of_getElem? (i := 34) (by decide +kernel)
theorem tb_35 : Cond.selects RX5 yX5_gap yX5_gap ∈ lw_tbl := List.mem_of_getElem? (i := 35) (by decide +kernel)
theorem tb_36 : Cond.selects RX5 yX5_taken yX5_taken ∈ lw_tbl := List.mem_of_getElem? (i := 36) (by decide +kernel)
theorem tb_37 : Cond.selects RX5 yX5_dearness yX5_dearness ∈ lw_tbl := List.mem_of_getElem? (i := 37) (by decide +kernel)
theorem tb_38 : Cond.selects RX5 yX5_records yX5_records ∈ lw_tbl := List.mem_of_getElem? (i := 38) (by decide +kernel)
theorem tb_39 : Cond.selects RX5 yX5_tells yX5_tells ∈ lw_tbl := List.mem_of_getElem? (i := 39) (by decide +kernel)
theorem tb_40 : Cond.selects RX5 yX5_opens yX5_opens ∈ lw_tbl := List.mem_of_getElem? (i := 40) (by decide +kernel)
theorem tb_41 : Cond.selects RX5 yX5_isTalk yX5_isTalk ∈ lw_tbl := List.mem_of_getElem? (i := 41) (by decide +kernel)
theorem tb_42 : Cond.selects RX5 yX5_withdraws yX5_withdraws ∈ lw_tbl := List.mem_of_getElem? (i := 42) (by decide +kernel)
theorem tb_43 : Cond.selects RX5 yX5_canMove yX5_canMove ∈ lw_tbl := List.mem_of_getElem? (i := 43) (by decide +kernel)
theorem tb_44 : Cond.selects RX5 yX5_refusesRoom yX5_refusesRoom ∈ lw_tbl := List.mem_of_getElem? (i := 44) (by decide +kernel)
theorem tb_45 : Cond.selects RX5 yX5_laysRoom yX5_laysRoom ∈ lw_tbl := List.mem_of_getElem? (i := 45) (by decide +kernel)
theorem tb_46 : Cond.selects RX5 yX5_talksIn yX5_talksIn ∈ lw_tbl := List.mem_of_getElem? (i := 46) (by decide +kernel)
theorem tb_47 : Cond.selects RX5 yX5_openMany yX5_openMany ∈ lw_tbl := List.mem_of_getElem? (i := 47) (by decide +kernel)
theorem tb_48 : Cond.selects RX5 yX5_priceBy yX5_priceBy ∈ lw_tbl := List.mem_of_getElem? (i := 48) (by decide +kernel)
theorem tb_49 : Cond.selects RX5 yX5_tellsAnew yX5_tellsAnew ∈ lw_tbl := List.mem_of_getElem? (i := 49) (by decide +kernel)
theorem tb_50 : Cond.selects RX5 yX5_putAside yX5_putAside ∈ lw_tbl := List.mem_of_getElem? (i := 50) (by decide +kernel)
theorem tb_51 : Cond.selects RX5 yX5_nextTalk yX5_nextTalk ∈ lw_tbl := List.mem_of_getElem? (i := 51) (by decide +kernel)
theorem tb_52 : Cond.selects RX5 yX5_takeBack yX5_takeBack ∈ lw_tbl := List.mem_of_getElem? (i := 52) (by decide +kernel)
theorem tb_53 : Cond.selects RX5 yX5_instead yX5_instead ∈ lw_tbl := List.mem_of_getElem? (i := 53) (by decide +kernel)
theorem tb_54 : Cond.selects RX5 yX5_beside yX5_beside ∈ lw_tbl := List.mem_of_getElem? (i := 54) (by decide +kernel)
theorem tb_55 : Cond.selects RX5 yX5_longestFree yX5_longestFree ∈ lw_tbl := List.mem_of_getElem? (i := 55) (by decide +kernel)
theorem tb_56 : Cond.selects RX5 yX5_talkAt yX5_talkAt ∈ lw_tbl := List.mem_of_getElem? (i := 56) (by decide +kernel)
theorem tb_57 : Cond.selects RX5 yX5_talksAt yX5_talksAt ∈ lw_tbl := List.mem_of_getElem? (i := 57) (by decide +kernel)
theorem tb_58 : Cond.selects RX5 yX5_freeAt yX5_freeAt ∈ lw_tbl := List.mem_of_getElem? (i := 58) (by decide +kernel)
theorem tb_59 : Cond.selects RX5 yX5_talks yX5_talks ∈ lw_tbl := List.mem_of_getElem? (i := 59) (by decide +kernel)
theorem tb_60 : Cond.selects RX5 yX5_empties yX5_empties ∈ lw_tbl := List.mem_of_getElem? (i := 60) (by decide +kernel)
theorem tb_61 : Cond.selects RX5 yX5_lowestFor yX5_lowestFor ∈ lw_tbl := List.mem_of_getElem? (i := 61) (by decide +kernel)
theorem tb_62 : Cond.selects RX5 yX5_fewest yX5_fewest ∈ lw_tbl := List.mem_of_getElem? (i := 62) (by decide +kernel)
theorem tb_63 : Cond.selects RX5 yX5_hoursTaken yX5_hoursTaken ∈ lw_tbl := List.mem_of_getElem? (i := 63) (by decide +kernel)
theorem tb_64 : Cond.selects RX5 yX5_reads yX5_reads ∈ lw_tbl := List.mem_of_getElem? (i := 64) (by decide +kernel)
theorem tb_65 : Cond.selects RX5 yX5_order yX5_order ∈ lw_tbl := List.mem_of_getElem? (i := 65) (by decide +kernel)
theorem tb_66 : Cond.selects RX5 yX5_sign yX5_sign ∈ lw_tbl := List.mem_of_getElem? (i := 66) (by decide +kernel)
theorem tb_67 : Cond.selects RX5 yX5_number yX5_number ∈ lw_tbl := List.mem_of_getElem? (i := 67) (by decide +kernel)
theorem tb_68 : Cond.selects RX5 yX5_wants yX5_wants ∈ lw_tbl := List.mem_of_getElem? (i := 68) (by decide +kernel)
theorem tb_69 : Cond.selects RX5 yX5_does yX5_does ∈ lw_tbl := List.mem_of_getElem? (i := 69) (by decide +kernel)
theorem tb_70 : Cond.initialized RL ∈ lw_tbl := List.mem_of_getElem? (i := 70) (by decide +kernel)
theorem tb_71 : Cond.initialized RX4 ∈ lw_tbl := List.mem_of_getElem? (i := 71) (by decide +kernel)
theorem tb_72 : Cond.initialized RX0 ∈ lw_tbl := List.mem_of_getElem? (i := 72) (by decide +kernel)
theorem tb_73 : Cond.initialized RX1 ∈ lw_tbl := List.mem_of_getElem? (i := 73) (by decide +kernel)
theorem tb_74 : Cond.initialized RX3 ∈ lw_tbl := List.mem_of_getElem? (i := 74) (by decide +kernel)
theorem tb_75 : Cond.initialized RX2 ∈ lw_tbl := List.mem_of_getElem? (i := 75) (by decide +kernel)
theorem tb_76 : Cond.initialized RX5 ∈ lw_tbl := List.mem_of_getElem? (i := 76) (by decide +kernel)
theorem tb_77 : Cond.initialized RJ10 ∈ lw_tbl := List.mem_of_getElem? (i := 77) (by decide +kernel)
theorem tb_78 : Cond.initialized RJ13 ∈ lw_tbl := List.mem_of_getElem? (i := 78) (by decide +kernel)
theorem tb_79 : Cond.initialized RJ9 ∈ lw_tbl := List.mem_of_getElem? (i := 79) (by decide +kernel)
theorem tb_80 : Cond.initialized RJ6 ∈ lw_tbl := List.mem_of_getElem? (i := 80) (by decide +kernel)
theorem tb_81 : Cond.initialized RJxf58ca ∈ lw_tbl := List.mem_of_getElem? (i := 81) (by decide +kernel)
theorem tb_82 : Cond.classLink RL (7 : Nat) "OnlineRooms" ∈ lw_tbl := List.mem_of_getElem? (i := 82) (by decide +kernel)
theorem tb_83 : Cond.instantiable RX4 (4 : Nat) ∈ lw_tbl := List.mem_of_getElem? (i := 83) (by decide +kernel)
theorem tb_84 : Cond.methodLink RL (9 : Nat) yX4_init ∈ lw_tbl := List.mem_of_getElem? (i := 84) (by decide +kernel)
theorem tb_85 : Cond.instanceMethod yX4_init ∈ lw_tbl := List.mem_of_getElem? (i := 85) (by decide +kernel)
theorem tb_86 : Cond.code yX4_init prog_1_method_1_code (1 : Nat) (Option.none : Option Jvm.ClassFile.FieldType) ∈ lw_tbl := List.mem_of_getElem? (i := 86) (by decide +kernel)
theorem tb_87 : Cond.methodLink RX4 (1 : Nat) ⟨"java/lang/Object", "<init>", "()V"⟩ ∈ lw_tbl := List.mem_of_getElem? (i := 87) (by decide +kernel)
theorem tb_88 : Cond.instanceMethod ⟨"java/lang/Object", "<init>", "()V"⟩ ∈ lw_tbl := List.mem_of_getElem? (i := 88) (by decide +kernel)
theorem tb_89 : Cond.code ⟨"java/lang/Object", "<init>", "()V"⟩ object_method_1_code (1 : Nat) (Option.none : Option Jvm.ClassFile.FieldType) ∈ lw_tbl := List.mem_of_getElem? (i := 89) (by decide +kernel)
theorem tb_90 : Cond.classLink RX4 (7 : Nat) "OnlineRooms$Board" ∈ lw_tbl := List.mem_of_getElem? (i := 90) (by decide +kernel)
theorem tb_91 : Cond.instantiable RX0 (13 : Nat) ∈ lw_tbl := List.mem_of_getElem? (i := 91) (by decide +kernel)
theorem tb_92 : Cond.methodLink RX4 (9 : Nat) yX0_init ∈ lw_tbl := List.mem_of_getElem? (i := 92) (by decide +kernel)
theorem tb_93 : Cond.instanceMethod yX0_init ∈ lw_tbl := List.mem_of_getElem? (i := 93) (by decide +kernel)
theorem tb_94 : Cond.code yX0_init prog_2_method_1_code (2 : Nat) (Option.none : Option Jvm.ClassFile.FieldType) ∈ lw_tbl := List.mem_of_getElem? (i := 94) (by decide +kernel)
theorem tb_95 : Cond.methodLink RX0 (3 : Nat) ⟨"java/lang/Object", "<init>", "()V"⟩ ∈ lw_tbl := List.mem_of_getElem? (i := 95) (by decide +kernel)
theorem tb_96 : Cond.fieldLink RX0 (9 : Nat) "OnlineRooms$Board" "first" "[I" ∈ lw_tbl := List.mem_of_getElem? (i := 96) (by decide +kernel)
theorem tb_97 : Cond.fieldLink RX0 (15 : Nat) "OnlineRooms$Board" "end" "[I" ∈ lw_tbl := List.mem_of_getElem? (i := 97) (by decide +kernel)
theorem tb_98 : Cond.fieldLink RX0 (18 : Nat) "OnlineRooms$Board" "size" "[I" ∈ lw_tbl := List.mem_of_getElem? (i := 98) (by decide +kernel)
theorem tb_99 : Cond.fieldLink RX0 (21 : Nat) "OnlineRooms$Board" "place" "[I" ∈ lw_tbl := List.mem_of_getElem? (i := 99) (by decide +kernel)
theorem tb_100 : Cond.fieldLink RX0 (24 : Nat) "OnlineRooms$Board" "roomSize" "[I" ∈ lw_tbl := List.mem_of_getElem? (i := 100) (by decide +kernel)
theorem tb_101 : Cond.fieldLink RX0 (27 : Nat) "OnlineRooms$Board" "price" "[I" ∈ lw_tbl := List.mem_of_getElem? (i := 101) (by decide +kernel)
theorem tb_102 : Cond.fieldLink RX0 (30 : Nat) "OnlineRooms$Board" "taken" "[J" ∈ lw_tbl := List.mem_of_getElem? (i := 102) (by decide +kernel)
theorem tb_103 : Cond.fieldLink RX0 (40 : Nat) "OnlineRooms$Board" "open" "I" ∈ lw_tbl := List.mem_of_getElem? (i := 103) (by decide +kernel)
theorem tb_104 : Cond.fieldLink RX0 (44 : Nat) "OnlineRooms$Board" "told" "I" ∈ lw_tbl := List.mem_of_getElem? (i := 104) (by decide +kernel)
theorem tb_105 : Cond.fieldLink RX0 (47 : Nat) "OnlineRooms$Board" "withdrawn" "I" ∈ lw_tbl := List.mem_of_getElem? (i := 105) (by decide +kernel)
theorem tb_106 : Cond.fieldLink RX0 (50 : Nat) "OnlineRooms$Board" "openings" "I" ∈ lw_tbl := List.mem_of_getElem? (i := 106) (by decide +kernel)
theorem tb_107 : Cond.fieldLink RX0 (53 : Nat) "OnlineRooms$Board" "paid" "I" ∈ lw_tbl := List.mem_of_getElem? (i := 107) (by decide +kernel)
theorem tb_108 : Cond.fieldLink RX0 (56 : Nat) "OnlineRooms$Board" "rule" "I" ∈ lw_tbl := List.mem_of_getElem? (i := 108) (by decide +kernel)
theorem tb_109 : Cond.laysFinal RX0 "OnlineRooms$Board" "first" "[I" ∈ lw_tbl := List.mem_of_getElem? (i := 109) (by decide +kernel)
theorem tb_110 : Cond.soleField RX0 "first" ∈ lw_tbl := List.mem_of_getElem? (i := 110) (by decide +kernel)
theorem tb_111 : Cond.laysFinal RX0 "OnlineRooms$Board" "end" "[I" ∈ lw_tbl := List.mem_of_getElem? (i := 111) (by decide +kernel)
theorem tb_112 : Cond.soleField RX0 "end" ∈ lw_tbl := List.mem_of_getElem? (i := 112) (by decide +kernel)
theorem tb_113 : Cond.laysFinal RX0 "OnlineRooms$Board" "size" "[I" ∈ lw_tbl := List.mem_of_getElem? (i := 113) (by decide +kernel)
theorem tb_114 : Cond.soleField RX0 "size" ∈ lw_tbl := List.mem_of_getElem? (i := 114) (by decide +kernel)
theorem tb_115 : Cond.laysFinal RX0 "OnlineRooms$Board" "place" "[I" ∈ lw_tbl := List.mem_of_getElem? (i := 115) (by decide +kernel)
theorem tb_116 : Cond.soleField RX0 "place" ∈ lw_tbl := List.mem_of_getElem? (i := 116) (by decide +kernel)
theorem tb_117 : Cond.laysFinal RX0 "OnlineRooms$Board" "roomSize" "[I" ∈ lw_tbl := List.mem_of_getElem? (i := 117) (by decide +kernel)
theorem tb_118 : Cond.soleField RX0 "roomSize" ∈ lw_tbl := List.mem_of_getElem? (i := 118) (by decide +kernel)
theorem tb_119 : Cond.laysFinal RX0 "OnlineRooms$Board" "price" "[I" ∈ lw_tbl := List.mem_of_getElem? (i := 119) (by decide +kernel)
theorem tb_120 : Cond.soleField RX0 "price" ∈ lw_tbl := List.mem_of_getElem? (i := 120) (by decide +kernel)
theorem tb_121 : Cond.laysFinal RX0 "OnlineRooms$Board" "taken" "[J" ∈ lw_tbl := List.mem_of_getElem? (i := 121) (by decide +kernel)
theorem tb_122 : Cond.soleField RX0 "taken" ∈ lw_tbl := List.mem_of_getElem? (i := 122) (by decide +kernel)
theorem tb_123 : Cond.lays RX0 "OnlineRooms$Board" "open" "I" ∈ lw_tbl := List.mem_of_getElem? (i := 123) (by decide +kernel)
theorem tb_124 : Cond.soleField RX0 "open" ∈ lw_tbl := List.mem_of_getElem? (i := 124) (by decide +kernel)
theorem tb_125 : Cond.lays RX0 "OnlineRooms$Board" "told" "I" ∈ lw_tbl := List.mem_of_getElem? (i := 125) (by decide +kernel)
theorem tb_126 : Cond.soleField RX0 "told" ∈ lw_tbl := List.mem_of_getElem? (i := 126) (by decide +kernel)
theorem tb_127 : Cond.lays RX0 "OnlineRooms$Board" "withdrawn" "I" ∈ lw_tbl := List.mem_of_getElem? (i := 127) (by decide +kernel)
theorem tb_128 : Cond.soleField RX0 "withdrawn" ∈ lw_tbl := List.mem_of_getElem? (i := 128) (by decide +kernel)
theorem tb_129 : Cond.lays RX0 "OnlineRooms$Board" "openings" "I" ∈ lw_tbl := List.mem_of_getElem? (i := 129) (by decide +kernel)
theorem tb_130 : Cond.soleField RX0 "openings" ∈ lw_tbl := List.mem_of_getElem? (i := 130) (by decide +kernel)
theorem tb_131 : Cond.lays RX0 "OnlineRooms$Board" "paid" "I" ∈ lw_tbl := List.mem_of_getElem? (i := 131) (by decide +kernel)
theorem tb_132 : Cond.soleField RX0 "paid" ∈ lw_tbl := List.mem_of_getElem? (i := 132) (by decide +kernel)
theorem tb_133 : Cond.lays RX0 "OnlineRooms$Board" "rule" "I" ∈ lw_tbl := List.mem_of_getElem? (i := 133) (by decide +kernel)
theorem tb_134 : Cond.soleField RX0 "rule" ∈ lw_tbl := List.mem_of_getElem? (i := 134) (by decide +kernel)
theorem tb_135 : Cond.superclass RX0 "java/lang/Object" ∈ lw_tbl := List.mem_of_getElem? (i := 135) (by decide +kernel)
theorem tb_136 : Cond.arrayClass Jvm.ClassFile.FieldType.int ∈ lw_tbl := List.mem_of_getElem? (i := 136) (by decide +kernel)
theorem tb_137 : Cond.arrayClass Jvm.ClassFile.FieldType.long ∈ lw_tbl := List.mem_of_getElem? (i := 137) (by decide +kernel)
theorem tb_138 : Cond.classLink RX4 (19 : Nat) "OnlineRooms$History" ∈ lw_tbl := List.mem_of_getElem? (i := 138) (by decide +kernel)
theorem tb_139 : Cond.instantiable RX1 (3 : Nat) ∈ lw_tbl := List.mem_of_getElem? (i := 139) (by decide +kernel)
theorem tb_140 : Cond.methodLinkNest RX4 (21 : Nat) yX1_init "OnlineRooms" ∈ lw_tbl := List.mem_of_getElem? (i := 140) (by decide +kernel)
theorem tb_141 : Cond.instanceMethod yX1_init ∈ lw_tbl := List.mem_of_getElem? (i := 141) (by decide +kernel)
theorem tb_142 : Cond.code yX1_init prog_3_method_1_code (1 : Nat) (Option.none : Option Jvm.ClassFile.FieldType) ∈ lw_tbl := List.mem_of_getElem? (i := 142) (by decide +kernel)
theorem tb_143 : Cond.methodLink RX1 (3 : Nat) ⟨"java/lang/Object", "<init>", "()V"⟩ ∈ lw_tbl := List.mem_of_getElem? (i := 143) (by decide +kernel)
theorem tb_144 : Cond.classLink RX1 (11 : Nat) "OnlineRooms$Board" ∈ lw_tbl := List.mem_of_getElem? (i := 144) (by decide +kernel)
theorem tb_145 : Cond.arrayOver (Jvm.ClassFile.FieldType.object "OnlineRooms$Board") ∈ lw_tbl := List.mem_of_getElem? (i := 145) (by decide +kernel)
theorem tb_146 : Cond.fieldLink RX1 (13 : Nat) "OnlineRooms$History" "states" "[LOnlineRooms$Board;" ∈ lw_tbl := List.mem_of_getElem? (i := 146) (by decide +kernel)
theorem tb_147 : Cond.fieldLink RX1 (17 : Nat) "OnlineRooms$History" "next" "I" ∈ lw_tbl := List.mem_of_getElem? (i := 147) (by decide +kernel)
theorem tb_148 : Cond.fieldLink RX1 (26 : Nat) "OnlineRooms$History" "kept" "I" ∈ lw_tbl := List.mem_of_getElem? (i := 148) (by decide +kernel)
theorem tb_149 : Cond.laysFinal RX1 "OnlineRooms$History" "states" "[LOnlineRooms$Board;" ∈ lw_tbl := List.mem_of_getElem? (i := 149) (by decide +kernel)
theorem tb_150 : Cond.soleField RX1 "states" ∈ lw_tbl := List.mem_of_getElem? (i := 150) (by decide +kernel)
theorem tb_151 : Cond.lays RX1 "OnlineRooms$History" "next" "I" ∈ lw_tbl := List.mem_of_getElem? (i := 151) (by decide +kernel)
theorem tb_152 : Cond.soleField RX1 "next" ∈ lw_tbl := List.mem_of_getElem? (i := 152) (by decide +kernel)
theorem tb_153 : Cond.lays RX1 "OnlineRooms$History" "kept" "I" ∈ lw_tbl := List.mem_of_getElem? (i := 153) (by decide +kernel)
theorem tb_154 : Cond.soleField RX1 "kept" ∈ lw_tbl := List.mem_of_getElem? (i := 154) (by decide +kernel)
theorem tb_155 : Cond.superclass RX1 "java/lang/Object" ∈ lw_tbl := List.mem_of_getElem? (i := 155) (by decide +kernel)
theorem tb_156 : Cond.classLink RX4 (26 : Nat) "OnlineRooms$Script" ∈ lw_tbl := List.mem_of_getElem? (i := 156) (by decide +kernel)
theorem tb_157 : Cond.instantiable RX3 (7 : Nat) ∈ lw_tbl := List.mem_of_getElem? (i := 157) (by decide +kernel)
theorem tb_158 : Cond.methodLinkNest RX4 (28 : Nat) yX3_init "OnlineRooms" ∈ lw_tbl := List.mem_of_getElem? (i := 158) (by decide +kernel)
theorem tb_159 : Cond.instanceMethod yX3_init ∈ lw_tbl := List.mem_of_getElem? (i := 159) (by decide +kernel)
theorem tb_160 : Cond.code yX3_init prog_5_method_1_code (1 : Nat) (Option.none : Option Jvm.ClassFile.FieldType) ∈ lw_tbl := List.mem_of_getElem? (i := 160) (by decide +kernel)
theorem tb_161 : Cond.methodLink RX3 (3 : Nat) ⟨"java/lang/Object", "<init>", "()V"⟩ ∈ lw_tbl := List.mem_of_getElem? (i := 161) (by decide +kernel)
theorem tb_162 : Cond.classLink RX3 (15 : Nat) "OnlineRooms$Order" ∈ lw_tbl := List.mem_of_getElem? (i := 162) (by decide +kernel)
theorem tb_163 : Cond.instantiable RX2 (3 : Nat) ∈ lw_tbl := List.mem_of_getElem? (i := 163) (by decide +kernel)
theorem tb_164 : Cond.methodLinkNest RX3 (17 : Nat) yX2_init "OnlineRooms" ∈ lw_tbl := List.mem_of_getElem? (i := 164) (by decide +kernel)
theorem tb_165 : Cond.instanceMethod yX2_init ∈ lw_tbl := List.mem_of_getElem? (i := 165) (by decide +kernel)
theorem tb_166 : Cond.code yX2_init prog_4_method_1_code (1 : Nat) (Option.none : Option Jvm.ClassFile.FieldType) ∈ lw_tbl := List.mem_of_getElem? (i := 166) (by decide +kernel)
theorem tb_167 : Cond.methodLink RX2 (3 : Nat) ⟨"java/lang/Object", "<init>", "()V"⟩ ∈ lw_tbl := List.mem_of_getElem? (i := 167) (by decide +kernel)
theorem tb_168 : Cond.fieldLink RX2 (11 : Nat) "OnlineRooms$Order" "numbers" "[I" ∈ lw_tbl := List.mem_of_getElem? (i := 168) (by decide +kernel)
theorem tb_169 : Cond.fieldLink RX2 (31 : Nat) "OnlineRooms$Order" "kind" "C" ∈ lw_tbl := List.mem_of_getElem? (i := 169) (by decide +kernel)
theorem tb_170 : Cond.fieldLink RX2 (15 : Nat) "OnlineRooms$Order" "unread" "I" ∈ lw_tbl := List.mem_of_getElem? (i := 170) (by decide +kernel)
theorem tb_171 : Cond.laysFinal RX2 "OnlineRooms$Order" "numbers" "[I" ∈ lw_tbl := List.mem_of_getElem? (i := 171) (by decide +kernel)
theorem tb_172 : Cond.soleField RX2 "numbers" ∈ lw_tbl := List.mem_of_getElem? (i := 172) (by decide +kernel)
theorem tb_173 : Cond.lays RX2 "OnlineRooms$Order" "kind" "C" ∈ lw_tbl := List.mem_of_getElem? (i := 173) (by decide +kernel)
theorem tb_174 : Cond.soleField RX2 "kind" ∈ lw_tbl := List.mem_of_getElem? (i := 174) (by decide +kernel)
theorem tb_175 : Cond.lays RX2 "OnlineRooms$Order" "unread" "I" ∈ lw_tbl := List.mem_of_getElem? (i := 175) (by decide +kernel)
theorem tb_176 : Cond.soleField RX2 "unread" ∈ lw_tbl := List.mem_of_getElem? (i := 176) (by decide +kernel)
theorem tb_177 : Cond.superclass RX2 "java/lang/Object" ∈ lw_tbl := List.mem_of_getElem? (i := 177) (by decide +kernel)
theorem tb_178 : Cond.arrayClass Jvm.ClassFile.FieldType.char ∈ lw_tbl := List.mem_of_getElem? (i := 178) (by decide +kernel)
theorem tb_179 : Cond.fieldLink RX3 (9 : Nat) "OnlineRooms$Script" "signs" "[C" ∈ lw_tbl := List.mem_of_getElem? (i := 179) (by decide +kernel)
theorem tb_180 : Cond.fieldLink RX3 (18 : Nat) "OnlineRooms$Script" "order" "LOnlineRooms$Order;" ∈ lw_tbl := List.mem_of_getElem? (i := 180) (by decide +kernel)
theorem tb_181 : Cond.fieldLink RX3 (22 : Nat) "OnlineRooms$Script" "length" "I" ∈ lw_tbl := List.mem_of_getElem? (i := 181) (by decide +kernel)
theorem tb_182 : Cond.fieldLink RX3 (27 : Nat) "OnlineRooms$Script" "orders" "I" ∈ lw_tbl := List.mem_of_getElem? (i := 182) (by decide +kernel)
theorem tb_183 : Cond.fieldLink RX3 (46 : Nat) "OnlineRooms$Script" "position" "I" ∈ lw_tbl := List.mem_of_getElem? (i := 183) (by decide +kernel)
theorem tb_184 : Cond.fieldLink RX3 (49 : Nat) "OnlineRooms$Script" "reason" "I" ∈ lw_tbl := List.mem_of_getElem? (i := 184) (by decide +kernel)
theorem tb_185 : Cond.fieldLink RX3 (52 : Nat) "OnlineRooms$Script" "cause" "I" ∈ lw_tbl := List.mem_of_getElem? (i := 185) (by decide +kernel)
theorem tb_186 : Cond.laysFinal RX3 "OnlineRooms$Script" "signs" "[C" ∈ lw_tbl := List.mem_of_getElem? (i := 186) (by decide +kernel)
theorem tb_187 : Cond.soleField RX3 "signs" ∈ lw_tbl := List.mem_of_getElem? (i := 187) (by decide +kernel)
theorem tb_188 : Cond.laysFinal RX3 "OnlineRooms$Script" "order" "LOnlineRooms$Order;" ∈ lw_tbl := List.mem_of_getElem? (i := 188) (by decide +kernel)
theorem tb_189 : Cond.soleField RX3 "order" ∈ lw_tbl := List.mem_of_getElem? (i := 189) (by decide +kernel)
theorem tb_190 : Cond.lays RX3 "OnlineRooms$Script" "length" "I" ∈ lw_tbl := List.mem_of_getElem? (i := 190) (by decide +kernel)
theorem tb_191 : Cond.soleField RX3 "length" ∈ lw_tbl := List.mem_of_getElem? (i := 191) (by decide +kernel)
theorem tb_192 : Cond.lays RX3 "OnlineRooms$Script" "orders" "I" ∈ lw_tbl := List.mem_of_getElem? (i := 192) (by decide +kernel)
theorem tb_193 : Cond.soleField RX3 "orders" ∈ lw_tbl := List.mem_of_getElem? (i := 193) (by decide +kernel)
theorem tb_194 : Cond.lays RX3 "OnlineRooms$Script" "position" "I" ∈ lw_tbl := List.mem_of_getElem? (i := 194) (by decide +kernel)
theorem tb_195 : Cond.soleField RX3 "position" ∈ lw_tbl := List.mem_of_getElem? (i := 195) (by decide +kernel)
theorem tb_196 : Cond.lays RX3 "OnlineRooms$Script" "reason" "I" ∈ lw_tbl := List.mem_of_getElem? (i := 196) (by decide +kernel)
theorem tb_197 : Cond.soleField RX3 "reason" ∈ lw_tbl := List.mem_of_getElem? (i := 197) (by decide +kernel)
theorem tb_198 : Cond.lays RX3 "OnlineRooms$Script" "cause" "I" ∈ lw_tbl := List.mem_of_getElem? (i := 198) (by decide +kernel)
theorem tb_199 : Cond.soleField RX3 "cause" ∈ lw_tbl := List.mem_of_getElem? (i := 199) (by decide +kernel)
theorem tb_200 : Cond.superclass RX3 "java/lang/Object" ∈ lw_tbl := List.mem_of_getElem? (i := 200) (by decide +kernel)
theorem tb_201 : Cond.fieldLink RX4 (10 : Nat) "OnlineRooms" "now" "LOnlineRooms$Board;" ∈ lw_tbl := List.mem_of_getElem? (i := 201) (by decide +kernel)
theorem tb_202 : Cond.fieldLink RX4 (16 : Nat) "OnlineRooms" "trial" "LOnlineRooms$Board;" ∈ lw_tbl := List.mem_of_getElem? (i := 202) (by decide +kernel)
theorem tb_203 : Cond.fieldLink RX4 (22 : Nat) "OnlineRooms" "history" "LOnlineRooms$History;" ∈ lw_tbl := List.mem_of_getElem? (i := 203) (by decide +kernel)
theorem tb_204 : Cond.fieldLink RX4 (29 : Nat) "OnlineRooms" "script" "LOnlineRooms$Script;" ∈ lw_tbl := List.mem_of_getElem? (i := 204) (by decide +kernel)
theorem tb_205 : Cond.laysFinal RX4 "OnlineRooms" "now" "LOnlineRooms$Board;" ∈ lw_tbl := List.mem_of_getElem? (i := 205) (by decide +kernel)
theorem tb_206 : Cond.soleField RX4 "now" ∈ lw_tbl := List.mem_of_getElem? (i := 206) (by decide +kernel)
theorem tb_207 : Cond.laysFinal RX4 "OnlineRooms" "trial" "LOnlineRooms$Board;" ∈ lw_tbl := List.mem_of_getElem? (i := 207) (by decide +kernel)
theorem tb_208 : Cond.soleField RX4 "trial" ∈ lw_tbl := List.mem_of_getElem? (i := 208) (by decide +kernel)
theorem tb_209 : Cond.laysFinal RX4 "OnlineRooms" "history" "LOnlineRooms$History;" ∈ lw_tbl := List.mem_of_getElem? (i := 209) (by decide +kernel)
theorem tb_210 : Cond.soleField RX4 "history" ∈ lw_tbl := List.mem_of_getElem? (i := 210) (by decide +kernel)
theorem tb_211 : Cond.laysFinal RX4 "OnlineRooms" "script" "LOnlineRooms$Script;" ∈ lw_tbl := List.mem_of_getElem? (i := 211) (by decide +kernel)
theorem tb_212 : Cond.soleField RX4 "script" ∈ lw_tbl := List.mem_of_getElem? (i := 212) (by decide +kernel)
theorem tb_213 : Cond.superclass RX4 "java/lang/Object" ∈ lw_tbl := List.mem_of_getElem? (i := 213) (by decide +kernel)
theorem tb_214 : Cond.methodLink RL (13 : Nat) yX4_talk ∈ lw_tbl := List.mem_of_getElem? (i := 214) (by decide +kernel)
theorem tb_215 : Cond.instanceMethod yX4_talk ∈ lw_tbl := List.mem_of_getElem? (i := 215) (by decide +kernel)
theorem tb_216 : Cond.selects RX4 yX4_talk yX4_talk ∈ lw_tbl := List.mem_of_getElem? (i := 216) (by decide +kernel)
theorem tb_217 : Cond.code yX4_talk prog_1_method_2_code (4 : Nat) (Option.some Jvm.ClassFile.FieldType.int) ∈ lw_tbl := List.mem_of_getElem? (i := 217) (by decide +kernel)
theorem tb_218 : Cond.methodLink RX4 (33 : Nat) yX0_copyFrom ∈ lw_tbl := List.mem_of_getElem? (i := 218) (by decide +kernel)
theorem tb_219 : Cond.instanceMethod yX0_copyFrom ∈ lw_tbl := List.mem_of_getElem? (i := 219) (by decide +kernel)
theorem tb_220 : Cond.selects RX0 yX0_copyFrom yX0_copyFrom ∈ lw_tbl := List.mem_of_getElem? (i := 220) (by decide +kernel)
theorem tb_221 : Cond.code yX0_copyFrom prog_2_method_2_code (2 : Nat) (Option.none : Option Jvm.ClassFile.FieldType) ∈ lw_tbl := List.mem_of_getElem? (i := 221) (by decide +kernel)
theorem tb_222 : Cond.methodLink RX0 (34 : Nat) ⟨"java/lang/System", "arraycopy", "(Ljava/lang/Object;ILjava/lang/Object;II)V"⟩ ∈ lw_tbl := List.mem_of_getElem? (i := 222) (by decide +kernel)
theorem tb_223 : Cond.static ⟨"java/lang/System", "arraycopy", "(Ljava/lang/Object;ILjava/lang/Object;II)V"⟩ ∈ lw_tbl := List.mem_of_getElem? (i := 223) (by decide +kernel)
theorem tb_224 : Cond.native ⟨"java/lang/System", "arraycopy", "(Ljava/lang/Object;ILjava/lang/Object;II)V"⟩ ∈ lw_tbl := List.mem_of_getElem? (i := 224) (by decide +kernel)
theorem tb_225 : Cond.methodLink RX4 (37 : Nat) yX0_tell ∈ lw_tbl := List.mem_of_getElem? (i := 225) (by decide +kernel)
theorem tb_226 : Cond.instanceMethod yX0_tell ∈ lw_tbl := List.mem_of_getElem? (i := 226) (by decide +kernel)
theorem tb_227 : Cond.selects RX0 yX0_tell yX0_tell ∈ lw_tbl := List.mem_of_getElem? (i := 227) (by decide +kernel)
theorem tb_228 : Cond.code yX0_tell prog_2_method_3_code (5 : Nat) (Option.some Jvm.ClassFile.FieldType.int) ∈ lw_tbl := List.mem_of_getElem? (i := 228) (by decide +kernel)
theorem tb_229 : Cond.methodLinkNest RX0 (59 : Nat) yX4_isTalk "OnlineRooms" ∈ lw_tbl := List.mem_of_getElem? (i := 229) (by decide +kernel)
theorem tb_230 : Cond.static yX4_isTalk ∈ lw_tbl := List.mem_of_getElem? (i := 230) (by decide +kernel)
theorem tb_231 : Cond.code yX4_isTalk prog_1_method_28_code (3 : Nat) (Option.some Jvm.ClassFile.FieldType.boolean) ∈ lw_tbl := List.mem_of_getElem? (i := 231) (by decide +kernel)
theorem tb_232 : Cond.methodLink RX4 (79 : Nat) yX4_isHour ∈ lw_tbl := List.mem_of_getElem? (i := 232) (by decide +kernel)
theorem tb_233 : Cond.static yX4_isHour ∈ lw_tbl := List.mem_of_getElem? (i := 233) (by decide +kernel)
theorem tb_234 : Cond.code yX4_isHour prog_1_method_29_code (1 : Nat) (Option.some Jvm.ClassFile.FieldType.boolean) ∈ lw_tbl := List.mem_of_getElem? (i := 234) (by decide +kernel)
theorem tb_235 : Cond.methodLink RX4 (157 : Nat) yX4_isSize ∈ lw_tbl := List.mem_of_getElem? (i := 235) (by decide +kernel)
theorem tb_236 : Cond.static yX4_isSize ∈ lw_tbl := List.mem_of_getElem? (i := 236) (by decide +kernel)
theorem tb_237 : Cond.code yX4_isSize prog_1_method_30_code (1 : Nat) (Option.some Jvm.ClassFile.FieldType.boolean) ∈ lw_tbl := List.mem_of_getElem? (i := 237) (by decide +kernel)
theorem tb_238 : Cond.constant RX0 (63 : Nat) (-1000001 : Int32) ∈ lw_tbl := List.mem_of_getElem? (i := 238) (by decide +kernel)
theorem tb_239 : Cond.methodLink RX0 (64 : Nat) yX0_roomFor ∈ lw_tbl := List.mem_of_getElem? (i := 239) (by decide +kernel)
theorem tb_240 : Cond.instanceMethod yX0_roomFor ∈ lw_tbl := List.mem_of_getElem? (i := 240) (by decide +kernel)
theorem tb_241 : Cond.selects RX0 yX0_roomFor yX0_roomFor ∈ lw_tbl := List.mem_of_getElem? (i := 241) (by decide +kernel)
theorem tb_242 : Cond.code yX0_roomFor prog_2_method_13_code (11 : Nat) (Option.some Jvm.ClassFile.FieldType.int) ∈ lw_tbl := List.mem_of_getElem? (i := 242) (by decide +kernel)
theorem tb_243 : Cond.methodLink RX0 (112 : Nat) yX0_hoursOf ∈ lw_tbl := List.mem_of_getElem? (i := 243) (by decide +kernel)
theorem tb_244 : Cond.static yX0_hoursOf ∈ lw_tbl := List.mem_of_getElem? (i := 244) (by decide +kernel)
theorem tb_245 : Cond.code yX0_hoursOf prog_2_method_24_code (2 : Nat) (Option.some Jvm.ClassFile.FieldType.long) ∈ lw_tbl := List.mem_of_getElem? (i := 245) (by decide +kernel)
theorem tb_246 : Cond.methodLink RX0 (92 : Nat) yX0_isOpen ∈ lw_tbl := List.mem_of_getElem? (i := 246) (by decide +kernel)
theorem tb_247 : Cond.privateMethod yX0_isOpen ∈ lw_tbl := List.mem_of_getElem? (i := 247) (by decide +kernel)
theorem tb_248 : Cond.instanceMethod yX0_isOpen ∈ lw_tbl := List.mem_of_getElem? (i := 248) (by decide +kernel)
theorem tb_249 : Cond.code yX0_isOpen prog_2_method_21_code (2 : Nat) (Option.some Jvm.ClassFile.FieldType.boolean) ∈ lw_tbl := List.mem_of_getElem? (i := 249) (by decide +kernel)
theorem tb_250 : Cond.methodLink RX0 (116 : Nat) yX0_canHold ∈ lw_tbl := List.mem_of_getElem? (i := 250) (by decide +kernel)
theorem tb_251 : Cond.privateMethod yX0_canHold ∈ lw_tbl := List.mem_of_getElem? (i := 251) (by decide +kernel)
theorem tb_252 : Cond.instanceMethod yX0_canHold ∈ lw_tbl := List.mem_of_getElem? (i := 252) (by decide +kernel)
theorem tb_253 : Cond.code yX0_canHold prog_2_method_20_code (5 : Nat) (Option.some Jvm.ClassFile.FieldType.boolean) ∈ lw_tbl := List.mem_of_getElem? (i := 253) (by decide +kernel)
theorem tb_254 : Cond.methodLink RX0 (120 : Nat) yX0_rankByRule ∈ lw_tbl := List.mem_of_getElem? (i := 254) (by decide +kernel)
theorem tb_255 : Cond.privateMethod yX0_rankByRule ∈ lw_tbl := List.mem_of_getElem? (i := 255) (by decide +kernel)
theorem tb_256 : Cond.instanceMethod yX0_rankByRule ∈ lw_tbl := List.mem_of_getElem? (i := 256) (by decide +kernel)
theorem tb_257 : Cond.code yX0_rankByRule prog_2_method_14_code (4 : Nat) (Option.some Jvm.ClassFile.FieldType.int) ∈ lw_tbl := List.mem_of_getElem? (i := 257) (by decide +kernel)
theorem tb_258 : Cond.methodLink RX0 (127 : Nat) yX0_gapAhead ∈ lw_tbl := List.mem_of_getElem? (i := 258) (by decide +kernel)
theorem tb_259 : Cond.privateMethod yX0_gapAhead ∈ lw_tbl := List.mem_of_getElem? (i := 259) (by decide +kernel)
theorem tb_260 : Cond.instanceMethod yX0_gapAhead ∈ lw_tbl := List.mem_of_getElem? (i := 260) (by decide +kernel)
theorem tb_261 : Cond.code yX0_gapAhead prog_2_method_15_code (6 : Nat) (Option.some Jvm.ClassFile.FieldType.int) ∈ lw_tbl := List.mem_of_getElem? (i := 261) (by decide +kernel)
theorem tb_262 : Cond.methodLink RX0 (130 : Nat) yJ13_bitCount_95d88 ∈ lw_tbl := List.mem_of_getElem? (i := 262) (by decide +kernel)
theorem tb_263 : Cond.static yJ13_bitCount_95d88 ∈ lw_tbl := List.mem_of_getElem? (i := 263) (by decide +kernel)
theorem tb_264 : Cond.code yJ13_bitCount_95d88 prog_10_method_50_code (2 : Nat) (Option.some Jvm.ClassFile.FieldType.int) ∈ lw_tbl := List.mem_of_getElem? (i := 264) (by decide +kernel)
theorem tb_265 : Cond.constantLong RJ13 (314 : Nat) (6148914691236517205 : Int64) ∈ lw_tbl := List.mem_of_getElem? (i := 265) (by decide +kernel)
theorem tb_266 : Cond.constantLong RJ13 (316 : Nat) (3689348814741910323 : Int64) ∈ lw_tbl := List.mem_of_getElem? (i := 266) (by decide +kernel)
theorem tb_267 : Cond.constantLong RJ13 (318 : Nat) (1085102592571150095 : Int64) ∈ lw_tbl := List.mem_of_getElem? (i := 267) (by decide +kernel)
theorem tb_268 : Cond.methodLink RX0 (124 : Nat) yX0_roomToOpen ∈ lw_tbl := List.mem_of_getElem? (i := 268) (by decide +kernel)
theorem tb_269 : Cond.privateMethod yX0_roomToOpen ∈ lw_tbl := List.mem_of_getElem? (i := 269) (by decide +kernel)
theorem tb_270 : Cond.instanceMethod yX0_roomToOpen ∈ lw_tbl := List.mem_of_getElem? (i := 270) (by decide +kernel)
theorem tb_271 : Cond.code yX0_roomToOpen prog_2_method_16_code (6 : Nat) (Option.some Jvm.ClassFile.FieldType.int) ∈ lw_tbl := List.mem_of_getElem? (i := 271) (by decide +kernel)
theorem tb_272 : Cond.methodLinkNest RX0 (68 : Nat) yX4_isRoom "OnlineRooms" ∈ lw_tbl := List.mem_of_getElem? (i := 272) (by decide +kernel)
theorem tb_273 : Cond.static yX4_isRoom ∈ lw_tbl := List.mem_of_getElem? (i := 273) (by decide +kernel)
theorem tb_274 : Cond.code yX4_isRoom prog_1_method_31_code (1 : Nat) (Option.some Jvm.ClassFile.FieldType.boolean) ∈ lw_tbl := List.mem_of_getElem? (i := 274) (by decide +kernel)
theorem tb_275 : Cond.constant RX0 (72 : Nat) (-1000002 : Int32) ∈ lw_tbl := List.mem_of_getElem? (i := 275) (by decide +kernel)
theorem tb_276 : Cond.constant RX0 (73 : Nat) (-1000003 : Int32) ∈ lw_tbl := List.mem_of_getElem? (i := 276) (by decide +kernel)
theorem tb_277 : Cond.methodLink RX0 (74 : Nat) yX0_putIn ∈ lw_tbl := List.mem_of_getElem? (i := 277) (by decide +kernel)
theorem tb_278 : Cond.privateMethod yX0_putIn ∈ lw_tbl := List.mem_of_getElem? (i := 278) (by decide +kernel)
theorem tb_279 : Cond.instanceMethod yX0_putIn ∈ lw_tbl := List.mem_of_getElem? (i := 279) (by decide +kernel)
theorem tb_280 : Cond.code yX0_putIn prog_2_method_17_code (3 : Nat) (Option.none : Option Jvm.ClassFile.FieldType) ∈ lw_tbl := List.mem_of_getElem? (i := 280) (by decide +kernel)
theorem tb_281 : Cond.methodLink RX4 (41 : Nat) yX4_keepTrial ∈ lw_tbl := List.mem_of_getElem? (i := 281) (by decide +kernel)
theorem tb_282 : Cond.privateMethod yX4_keepTrial ∈ lw_tbl := List.mem_of_getElem? (i := 282) (by decide +kernel)
theorem tb_283 : Cond.instanceMethod yX4_keepTrial ∈ lw_tbl := List.mem_of_getElem? (i := 283) (by decide +kernel)
theorem tb_284 : Cond.code yX4_keepTrial prog_1_method_25_code (2 : Nat) (Option.some Jvm.ClassFile.FieldType.int) ∈ lw_tbl := List.mem_of_getElem? (i := 284) (by decide +kernel)
theorem tb_285 : Cond.methodLink RX4 (148 : Nat) yX1_keep ∈ lw_tbl := List.mem_of_getElem? (i := 285) (by decide +kernel)
theorem tb_286 : Cond.instanceMethod yX1_keep ∈ lw_tbl := List.mem_of_getElem? (i := 286) (by decide +kernel)
theorem tb_287 : Cond.selects RX1 yX1_keep yX1_keep ∈ lw_tbl := List.mem_of_getElem? (i := 287) (by decide +kernel)
theorem tb_288 : Cond.code yX1_keep prog_3_method_2_code (4 : Nat) (Option.none : Option Jvm.ClassFile.FieldType) ∈ lw_tbl := List.mem_of_getElem? (i := 288) (by decide +kernel)
theorem tb_289 : Cond.methodLink RX1 (21 : Nat) yX0_init ∈ lw_tbl := List.mem_of_getElem? (i := 289) (by decide +kernel)
theorem tb_290 : Cond.methodLink RX1 (22 : Nat) yX0_copyFrom ∈ lw_tbl := List.mem_of_getElem? (i := 290) (by decide +kernel)
theorem tb_291 : Cond.methodLink RX1 (29 : Nat) yJ9_min_7cf53 ∈ lw_tbl := List.mem_of_getElem? (i := 291) (by decide +kernel)
theorem tb_292 : Cond.static yJ9_min_7cf53 ∈ lw_tbl := List.mem_of_getElem? (i := 292) (by decide +kernel)
theorem tb_293 : Cond.code yJ9_min_7cf53 prog_11_method_69_code (2 : Nat) (Option.some Jvm.ClassFile.FieldType.int) ∈ lw_tbl := List.mem_of_getElem? (i := 293) (by decide +kernel)
theorem tb_294 : Cond.methodLink RL (18 : Nat) yX4_withdraw ∈ lw_tbl := List.mem_of_getElem? (i := 294) (by decide +kernel)
theorem tb_295 : Cond.instanceMethod yX4_withdraw ∈ lw_tbl := List.mem_of_getElem? (i := 295) (by decide +kernel)
theorem tb_296 : Cond.selects RX4 yX4_withdraw yX4_withdraw ∈ lw_tbl := List.mem_of_getElem? (i := 296) (by decide +kernel)
theorem tb_297 : Cond.code yX4_withdraw prog_1_method_3_code (2 : Nat) (Option.some Jvm.ClassFile.FieldType.int) ∈ lw_tbl := List.mem_of_getElem? (i := 297) (by decide +kernel)
theorem tb_298 : Cond.methodLink RX4 (45 : Nat) yX0_drop ∈ lw_tbl := List.mem_of_getElem? (i := 298) (by decide +kernel)
theorem tb_299 : Cond.instanceMethod yX0_drop ∈ lw_tbl := List.mem_of_getElem? (i := 299) (by decide +kernel)
theorem tb_300 : Cond.selects RX0 yX0_drop yX0_drop ∈ lw_tbl := List.mem_of_getElem? (i := 300) (by decide +kernel)
theorem tb_301 : Cond.code yX0_drop prog_2_method_4_code (3 : Nat) (Option.some Jvm.ClassFile.FieldType.int) ∈ lw_tbl := List.mem_of_getElem? (i := 301) (by decide +kernel)
theorem tb_302 : Cond.methodLink RX0 (78 : Nat) yX0_placeOf ∈ lw_tbl := List.mem_of_getElem? (i := 302) (by decide +kernel)
theorem tb_303 : Cond.privateMethod yX0_placeOf ∈ lw_tbl := List.mem_of_getElem? (i := 303) (by decide +kernel)
theorem tb_304 : Cond.instanceMethod yX0_placeOf ∈ lw_tbl := List.mem_of_getElem? (i := 304) (by decide +kernel)
theorem tb_305 : Cond.code yX0_placeOf prog_2_method_25_code (2 : Nat) (Option.some Jvm.ClassFile.FieldType.int) ∈ lw_tbl := List.mem_of_getElem? (i := 305) (by decide +kernel)
theorem tb_306 : Cond.methodLink RX0 (82 : Nat) yX0_takeOut ∈ lw_tbl := List.mem_of_getElem? (i := 306) (by decide +kernel)
theorem tb_307 : Cond.privateMethod yX0_takeOut ∈ lw_tbl := List.mem_of_getElem? (i := 307) (by decide +kernel)
theorem tb_308 : Cond.instanceMethod yX0_takeOut ∈ lw_tbl := List.mem_of_getElem? (i := 308) (by decide +kernel)
theorem tb_309 : Cond.code yX0_takeOut prog_2_method_18_code (3 : Nat) (Option.none : Option Jvm.ClassFile.FieldType) ∈ lw_tbl := List.mem_of_getElem? (i := 309) (by decide +kernel)
theorem tb_310 : Cond.constantLong RX0 (136 : Nat) (-1 : Int64) ∈ lw_tbl := List.mem_of_getElem? (i := 310) (by decide +kernel)
theorem tb_311 : Cond.methodLink RL (23 : Nat) yX4_move ∈ lw_tbl := List.mem_of_getElem? (i := 311) (by decide +kernel)
theorem tb_312 : Cond.instanceMethod yX4_move ∈ lw_tbl := List.mem_of_getElem? (i := 312) (by decide +kernel)
theorem tb_313 : Cond.selects RX4 yX4_move yX4_move ∈ lw_tbl := List.mem_of_getElem? (i := 313) (by decide +kernel)
theorem tb_314 : Cond.code yX4_move prog_1_method_4_code (3 : Nat) (Option.some Jvm.ClassFile.FieldType.int) ∈ lw_tbl := List.mem_of_getElem? (i := 314) (by decide +kernel)
theorem tb_315 : Cond.methodLink RX4 (48 : Nat) yX0_shift ∈ lw_tbl := List.mem_of_getElem? (i := 315) (by decide +kernel)
theorem tb_316 : Cond.instanceMethod yX0_shift ∈ lw_tbl := List.mem_of_getElem? (i := 316) (by decide +kernel)
theorem tb_317 : Cond.selects RX0 yX0_shift yX0_shift ∈ lw_tbl := List.mem_of_getElem? (i := 317) (by decide +kernel)
theorem tb_318 : Cond.code yX0_shift prog_2_method_5_code (4 : Nat) (Option.some Jvm.ClassFile.FieldType.int) ∈ lw_tbl := List.mem_of_getElem? (i := 318) (by decide +kernel)
theorem tb_319 : Cond.methodLink RX0 (85 : Nat) yX0_couldGo ∈ lw_tbl := List.mem_of_getElem? (i := 319) (by decide +kernel)
theorem tb_320 : Cond.privateMethod yX0_couldGo ∈ lw_tbl := List.mem_of_getElem? (i := 320) (by decide +kernel)
theorem tb_321 : Cond.instanceMethod yX0_couldGo ∈ lw_tbl := List.mem_of_getElem? (i := 321) (by decide +kernel)
theorem tb_322 : Cond.code yX0_couldGo prog_2_method_19_code (3 : Nat) (Option.some Jvm.ClassFile.FieldType.boolean) ∈ lw_tbl := List.mem_of_getElem? (i := 322) (by decide +kernel)
theorem tb_323 : Cond.methodLink RL (28 : Nat) yX4_room ∈ lw_tbl := List.mem_of_getElem? (i := 323) (by decide +kernel)
theorem tb_324 : Cond.instanceMethod yX4_room ∈ lw_tbl := List.mem_of_getElem? (i := 324) (by decide +kernel)
theorem tb_325 : Cond.selects RX4 yX4_room yX4_room ∈ lw_tbl := List.mem_of_getElem? (i := 325) (by decide +kernel)
theorem tb_326 : Cond.code yX4_room prog_1_method_5_code (4 : Nat) (Option.some Jvm.ClassFile.FieldType.int) ∈ lw_tbl := List.mem_of_getElem? (i := 326) (by decide +kernel)
theorem tb_327 : Cond.methodLink RX4 (52 : Nat) yX0_furnish ∈ lw_tbl := List.mem_of_getElem? (i := 327) (by decide +kernel)
theorem tb_328 : Cond.instanceMethod yX0_furnish ∈ lw_tbl := List.mem_of_getElem? (i := 328) (by decide +kernel)
theorem tb_329 : Cond.selects RX0 yX0_furnish yX0_furnish ∈ lw_tbl := List.mem_of_getElem? (i := 329) (by decide +kernel)
theorem tb_330 : Cond.code yX0_furnish prog_2_method_6_code (5 : Nat) (Option.some Jvm.ClassFile.FieldType.int) ∈ lw_tbl := List.mem_of_getElem? (i := 330) (by decide +kernel)
theorem tb_331 : Cond.methodLinkNest RX0 (89 : Nat) yX4_isSize "OnlineRooms" ∈ lw_tbl := List.mem_of_getElem? (i := 331) (by decide +kernel)
theorem tb_332 : Cond.methodLink RL (32 : Nat) yX4_close ∈ lw_tbl := List.mem_of_getElem? (i := 332) (by decide +kernel)
theorem tb_333 : Cond.instanceMethod yX4_close ∈ lw_tbl := List.mem_of_getElem? (i := 333) (by decide +kernel)
theorem tb_334 : Cond.selects RX4 yX4_close yX4_close ∈ lw_tbl := List.mem_of_getElem? (i := 334) (by decide +kernel)
theorem tb_335 : Cond.code yX4_close prog_1_method_6_code (2 : Nat) (Option.some Jvm.ClassFile.FieldType.int) ∈ lw_tbl := List.mem_of_getElem? (i := 335) (by decide +kernel)
theorem tb_336 : Cond.methodLink RX4 (55 : Nat) yX0_shut ∈ lw_tbl := List.mem_of_getElem? (i := 336) (by decide +kernel)
theorem tb_337 : Cond.instanceMethod yX0_shut ∈ lw_tbl := List.mem_of_getElem? (i := 337) (by decide +kernel)
theorem tb_338 : Cond.selects RX0 yX0_shut yX0_shut ∈ lw_tbl := List.mem_of_getElem? (i := 338) (by decide +kernel)
theorem tb_339 : Cond.code yX0_shut prog_2_method_7_code (2 : Nat) (Option.some Jvm.ClassFile.FieldType.int) ∈ lw_tbl := List.mem_of_getElem? (i := 339) (by decide +kernel)
theorem tb_340 : Cond.methodLink RX0 (95 : Nat) yX0_openRooms ∈ lw_tbl := List.mem_of_getElem? (i := 340) (by decide +kernel)
theorem tb_341 : Cond.instanceMethod yX0_openRooms ∈ lw_tbl := List.mem_of_getElem? (i := 341) (by decide +kernel)
theorem tb_342 : Cond.selects RX0 yX0_openRooms yX0_openRooms ∈ lw_tbl := List.mem_of_getElem? (i := 342) (by decide +kernel)
theorem tb_343 : Cond.code yX0_openRooms prog_2_method_38_code (1 : Nat) (Option.some Jvm.ClassFile.FieldType.int) ∈ lw_tbl := List.mem_of_getElem? (i := 343) (by decide +kernel)
theorem tb_344 : Cond.methodLink RX0 (147 : Nat) yJ6_bitCount_0f7a4 ∈ lw_tbl := List.mem_of_getElem? (i := 344) (by decide +kernel)
theorem tb_345 : Cond.static yJ6_bitCount_0f7a4 ∈ lw_tbl := List.mem_of_getElem? (i := 345) (by decide +kernel)
theorem tb_346 : Cond.code yJ6_bitCount_0f7a4 prog_9_method_49_code (1 : Nat) (Option.some Jvm.ClassFile.FieldType.int) ∈ lw_tbl := List.mem_of_getElem? (i := 346) (by decide +kernel)
theorem tb_347 : Cond.constant RJ6 (265 : Nat) (1431655765 : Int32) ∈ lw_tbl := List.mem_of_getElem? (i := 347) (by decide +kernel)
theorem tb_348 : Cond.constant RJ6 (266 : Nat) (858993459 : Int32) ∈ lw_tbl := List.mem_of_getElem? (i := 348) (by decide +kernel)
theorem tb_349 : Cond.constant RJ6 (267 : Nat) (252645135 : Int32) ∈ lw_tbl := List.mem_of_getElem? (i := 349) (by decide +kernel)
theorem tb_350 : Cond.methodLink RL (36 : Nat) yX4_anew ∈ lw_tbl := List.mem_of_getElem? (i := 350) (by decide +kernel)
theorem tb_351 : Cond.instanceMethod yX4_anew ∈ lw_tbl := List.mem_of_getElem? (i := 351) (by decide +kernel)
theorem tb_352 : Cond.selects RX4 yX4_anew yX4_anew ∈ lw_tbl := List.mem_of_getElem? (i := 352) (by decide +kernel)
theorem tb_353 : Cond.code yX4_anew prog_1_method_7_code (1 : Nat) (Option.some Jvm.ClassFile.FieldType.int) ∈ lw_tbl := List.mem_of_getElem? (i := 353) (by decide +kernel)
theorem tb_354 : Cond.methodLink RX4 (58 : Nat) yX0_ruleOfNow ∈ lw_tbl := List.mem_of_getElem? (i := 354) (by decide +kernel)
theorem tb_355 : Cond.instanceMethod yX0_ruleOfNow ∈ lw_tbl := List.mem_of_getElem? (i := 355) (by decide +kernel)
theorem tb_356 : Cond.selects RX0 yX0_ruleOfNow yX0_ruleOfNow ∈ lw_tbl := List.mem_of_getElem? (i := 356) (by decide +kernel)
theorem tb_357 : Cond.code yX0_ruleOfNow prog_2_method_40_code (1 : Nat) (Option.some Jvm.ClassFile.FieldType.int) ∈ lw_tbl := List.mem_of_getElem? (i := 357) (by decide +kernel)
theorem tb_358 : Cond.methodLink RX4 (62 : Nat) yX4_tryAnew ∈ lw_tbl := List.mem_of_getElem? (i := 358) (by decide +kernel)
theorem tb_359 : Cond.privateMethod yX4_tryAnew ∈ lw_tbl := List.mem_of_getElem? (i := 359) (by decide +kernel)
theorem tb_360 : Cond.instanceMethod yX4_tryAnew ∈ lw_tbl := List.mem_of_getElem? (i := 360) (by decide +kernel)
theorem tb_361 : Cond.code yX4_tryAnew prog_1_method_26_code (2 : Nat) (Option.some Jvm.ClassFile.FieldType.int) ∈ lw_tbl := List.mem_of_getElem? (i := 361) (by decide +kernel)
theorem tb_362 : Cond.methodLink RX4 (151 : Nat) yX0_tellAnew ∈ lw_tbl := List.mem_of_getElem? (i := 362) (by decide +kernel)
theorem tb_363 : Cond.instanceMethod yX0_tellAnew ∈ lw_tbl := List.mem_of_getElem? (i := 363) (by decide +kernel)
theorem tb_364 : Cond.selects RX0 yX0_tellAnew yX0_tellAnew ∈ lw_tbl := List.mem_of_getElem? (i := 364) (by decide +kernel)
theorem tb_365 : Cond.code yX0_tellAnew prog_2_method_9_code (5 : Nat) (Option.some Jvm.ClassFile.FieldType.int) ∈ lw_tbl := List.mem_of_getElem? (i := 365) (by decide +kernel)
theorem tb_366 : Cond.methodLink RX0 (102 : Nat) yX0_forgetRooms ∈ lw_tbl := List.mem_of_getElem? (i := 366) (by decide +kernel)
theorem tb_367 : Cond.privateMethod yX0_forgetRooms ∈ lw_tbl := List.mem_of_getElem? (i := 367) (by decide +kernel)
theorem tb_368 : Cond.instanceMethod yX0_forgetRooms ∈ lw_tbl := List.mem_of_getElem? (i := 368) (by decide +kernel)
theorem tb_369 : Cond.code yX0_forgetRooms prog_2_method_10_code (2 : Nat) (Option.none : Option Jvm.ClassFile.FieldType) ∈ lw_tbl := List.mem_of_getElem? (i := 369) (by decide +kernel)
theorem tb_370 : Cond.methodLink RL (41 : Nat) yX4_set ∈ lw_tbl := List.mem_of_getElem? (i := 370) (by decide +kernel)
theorem tb_371 : Cond.instanceMethod yX4_set ∈ lw_tbl := List.mem_of_getElem? (i := 371) (by decide +kernel)
theorem tb_372 : Cond.selects RX4 yX4_set yX4_set ∈ lw_tbl := List.mem_of_getElem? (i := 372) (by decide +kernel)
theorem tb_373 : Cond.code yX4_set prog_1_method_8_code (3 : Nat) (Option.some Jvm.ClassFile.FieldType.int) ∈ lw_tbl := List.mem_of_getElem? (i := 373) (by decide +kernel)
theorem tb_374 : Cond.methodLink RX4 (65 : Nat) yX0_chooseRule ∈ lw_tbl := List.mem_of_getElem? (i := 374) (by decide +kernel)
theorem tb_375 : Cond.instanceMethod yX0_chooseRule ∈ lw_tbl := List.mem_of_getElem? (i := 375) (by decide +kernel)
theorem tb_376 : Cond.selects RX0 yX0_chooseRule yX0_chooseRule ∈ lw_tbl := List.mem_of_getElem? (i := 376) (by decide +kernel)
theorem tb_377 : Cond.code yX0_chooseRule prog_2_method_8_code (3 : Nat) (Option.some Jvm.ClassFile.FieldType.int) ∈ lw_tbl := List.mem_of_getElem? (i := 377) (by decide +kernel)
theorem tb_378 : Cond.methodLinkNest RX0 (99 : Nat) yX4_isRule "OnlineRooms" ∈ lw_tbl := List.mem_of_getElem? (i := 378) (by decide +kernel)
theorem tb_379 : Cond.static yX4_isRule ∈ lw_tbl := List.mem_of_getElem? (i := 379) (by decide +kernel)
theorem tb_380 : Cond.code yX4_isRule prog_1_method_32_code (1 : Nat) (Option.some Jvm.ClassFile.FieldType.boolean) ∈ lw_tbl := List.mem_of_getElem? (i := 380) (by decide +kernel)
theorem tb_381 : Cond.constant RX4 (68 : Nat) (-1000001 : Int32) ∈ lw_tbl := List.mem_of_getElem? (i := 381) (by decide +kernel)
theorem tb_382 : Cond.methodLink RL (45 : Nat) yX4_talkOf ∈ lw_tbl := List.mem_of_getElem? (i := 382) (by decide +kernel)
theorem tb_383 : Cond.instanceMethod yX4_talkOf ∈ lw_tbl := List.mem_of_getElem? (i := 383) (by decide +kernel)
theorem tb_384 : Cond.selects RX4 yX4_talkOf yX4_talkOf ∈ lw_tbl := List.mem_of_getElem? (i := 384) (by decide +kernel)
theorem tb_385 : Cond.code yX4_talkOf prog_1_method_9_code (3 : Nat) (Option.some Jvm.ClassFile.FieldType.int) ∈ lw_tbl := List.mem_of_getElem? (i := 385) (by decide +kernel)
theorem tb_386 : Cond.methodLink RX4 (69 : Nat) yX0_ofTalk ∈ lw_tbl := List.mem_of_getElem? (i := 386) (by decide +kernel)
theorem tb_387 : Cond.instanceMethod yX0_ofTalk ∈ lw_tbl := List.mem_of_getElem? (i := 387) (by decide +kernel)
theorem tb_388 : Cond.selects RX0 yX0_ofTalk yX0_ofTalk ∈ lw_tbl := List.mem_of_getElem? (i := 388) (by decide +kernel)
theorem tb_389 : Cond.code yX0_ofTalk prog_2_method_26_code (4 : Nat) (Option.some Jvm.ClassFile.FieldType.int) ∈ lw_tbl := List.mem_of_getElem? (i := 389) (by decide +kernel)
theorem tb_390 : Cond.methodLink RX0 (138 : Nat) yX0_otherRooms ∈ lw_tbl := List.mem_of_getElem? (i := 390) (by decide +kernel)
theorem tb_391 : Cond.privateMethod yX0_otherRooms ∈ lw_tbl := List.mem_of_getElem? (i := 391) (by decide +kernel)
theorem tb_392 : Cond.instanceMethod yX0_otherRooms ∈ lw_tbl := List.mem_of_getElem? (i := 392) (by decide +kernel)
theorem tb_393 : Cond.code yX0_otherRooms prog_2_method_27_code (4 : Nat) (Option.some Jvm.ClassFile.FieldType.int) ∈ lw_tbl := List.mem_of_getElem? (i := 393) (by decide +kernel)
theorem tb_394 : Cond.methodLink RX0 (141 : Nat) yX0_talksBeside ∈ lw_tbl := List.mem_of_getElem? (i := 394) (by decide +kernel)
theorem tb_395 : Cond.privateMethod yX0_talksBeside ∈ lw_tbl := List.mem_of_getElem? (i := 395) (by decide +kernel)
theorem tb_396 : Cond.instanceMethod yX0_talksBeside ∈ lw_tbl := List.mem_of_getElem? (i := 396) (by decide +kernel)
theorem tb_397 : Cond.code yX0_talksBeside prog_2_method_28_code (6 : Nat) (Option.some Jvm.ClassFile.FieldType.int) ∈ lw_tbl := List.mem_of_getElem? (i := 397) (by decide +kernel)
theorem tb_398 : Cond.methodLink RL (49 : Nat) yX4_roomOf ∈ lw_tbl := List.mem_of_getElem? (i := 398) (by decide +kernel)
theorem tb_399 : Cond.instanceMethod yX4_roomOf ∈ lw_tbl := List.mem_of_getElem? (i := 399) (by decide +kernel)
theorem tb_400 : Cond.selects RX4 yX4_roomOf yX4_roomOf ∈ lw_tbl := List.mem_of_getElem? (i := 400) (by decide +kernel)
theorem tb_401 : Cond.code yX4_roomOf prog_1_method_10_code (3 : Nat) (Option.some Jvm.ClassFile.FieldType.int) ∈ lw_tbl := List.mem_of_getElem? (i := 401) (by decide +kernel)
theorem tb_402 : Cond.methodLink RX4 (72 : Nat) yX0_ofRoom ∈ lw_tbl := List.mem_of_getElem? (i := 402) (by decide +kernel)
theorem tb_403 : Cond.instanceMethod yX0_ofRoom ∈ lw_tbl := List.mem_of_getElem? (i := 403) (by decide +kernel)
theorem tb_404 : Cond.selects RX0 yX0_ofRoom yX0_ofRoom ∈ lw_tbl := List.mem_of_getElem? (i := 404) (by decide +kernel)
theorem tb_405 : Cond.code yX0_ofRoom prog_2_method_29_code (3 : Nat) (Option.some Jvm.ClassFile.FieldType.int) ∈ lw_tbl := List.mem_of_getElem? (i := 405) (by decide +kernel)
theorem tb_406 : Cond.methodLink RX0 (144 : Nat) yX0_talksIn ∈ lw_tbl := List.mem_of_getElem? (i := 406) (by decide +kernel)
theorem tb_407 : Cond.privateMethod yX0_talksIn ∈ lw_tbl := List.mem_of_getElem? (i := 407) (by decide +kernel)
theorem tb_408 : Cond.instanceMethod yX0_talksIn ∈ lw_tbl := List.mem_of_getElem? (i := 408) (by decide +kernel)
theorem tb_409 : Cond.code yX0_talksIn prog_2_method_30_code (4 : Nat) (Option.some Jvm.ClassFile.FieldType.int) ∈ lw_tbl := List.mem_of_getElem? (i := 409) (by decide +kernel)
theorem tb_410 : Cond.methodLink RX0 (151 : Nat) yX0_longestFree ∈ lw_tbl := List.mem_of_getElem? (i := 410) (by decide +kernel)
theorem tb_411 : Cond.privateMethod yX0_longestFree ∈ lw_tbl := List.mem_of_getElem? (i := 411) (by decide +kernel)
theorem tb_412 : Cond.instanceMethod yX0_longestFree ∈ lw_tbl := List.mem_of_getElem? (i := 412) (by decide +kernel)
theorem tb_413 : Cond.code yX0_longestFree prog_2_method_31_code (5 : Nat) (Option.some Jvm.ClassFile.FieldType.int) ∈ lw_tbl := List.mem_of_getElem? (i := 413) (by decide +kernel)
theorem tb_414 : Cond.methodLink RX0 (154 : Nat) yX0_isTaken ∈ lw_tbl := List.mem_of_getElem? (i := 414) (by decide +kernel)
theorem tb_415 : Cond.privateMethod yX0_isTaken ∈ lw_tbl := List.mem_of_getElem? (i := 415) (by decide +kernel)
theorem tb_416 : Cond.instanceMethod yX0_isTaken ∈ lw_tbl := List.mem_of_getElem? (i := 416) (by decide +kernel)
theorem tb_417 : Cond.code yX0_isTaken prog_2_method_22_code (3 : Nat) (Option.some Jvm.ClassFile.FieldType.boolean) ∈ lw_tbl := List.mem_of_getElem? (i := 417) (by decide +kernel)
theorem tb_418 : Cond.methodLink RX0 (157 : Nat) yJ9_max_7cf53 ∈ lw_tbl := List.mem_of_getElem? (i := 418) (by decide +kernel)
theorem tb_419 : Cond.static yJ9_max_7cf53 ∈ lw_tbl := List.mem_of_getElem? (i := 419) (by decide +kernel)
theorem tb_420 : Cond.code yJ9_max_7cf53 prog_11_method_65_code (2 : Nat) (Option.some Jvm.ClassFile.FieldType.int) ∈ lw_tbl := List.mem_of_getElem? (i := 420) (by decide +kernel)
theorem tb_421 : Cond.methodLink RL (53 : Nat) yX4_at ∈ lw_tbl := List.mem_of_getElem? (i := 421) (by decide +kernel)
theorem tb_422 : Cond.instanceMethod yX4_at ∈ lw_tbl := List.mem_of_getElem? (i := 422) (by decide +kernel)
theorem tb_423 : Cond.selects RX4 yX4_at yX4_at ∈ lw_tbl := List.mem_of_getElem? (i := 423) (by decide +kernel)
theorem tb_424 : Cond.code yX4_at prog_1_method_11_code (4 : Nat) (Option.some Jvm.ClassFile.FieldType.int) ∈ lw_tbl := List.mem_of_getElem? (i := 424) (by decide +kernel)
theorem tb_425 : Cond.methodLink RX4 (75 : Nat) yX4_isRoom ∈ lw_tbl := List.mem_of_getElem? (i := 425) (by decide +kernel)
theorem tb_426 : Cond.methodLink RX4 (82 : Nat) yX0_talkIn ∈ lw_tbl := List.mem_of_getElem? (i := 426) (by decide +kernel)
theorem tb_427 : Cond.instanceMethod yX0_talkIn ∈ lw_tbl := List.mem_of_getElem? (i := 427) (by decide +kernel)
theorem tb_428 : Cond.selects RX0 yX0_talkIn yX0_talkIn ∈ lw_tbl := List.mem_of_getElem? (i := 428) (by decide +kernel)
theorem tb_429 : Cond.code yX0_talkIn prog_2_method_32_code (4 : Nat) (Option.some Jvm.ClassFile.FieldType.int) ∈ lw_tbl := List.mem_of_getElem? (i := 429) (by decide +kernel)
theorem tb_430 : Cond.methodLink RX0 (162 : Nat) yX0_takesHour ∈ lw_tbl := List.mem_of_getElem? (i := 430) (by decide +kernel)
theorem tb_431 : Cond.privateMethod yX0_takesHour ∈ lw_tbl := List.mem_of_getElem? (i := 431) (by decide +kernel)
theorem tb_432 : Cond.instanceMethod yX0_takesHour ∈ lw_tbl := List.mem_of_getElem? (i := 432) (by decide +kernel)
theorem tb_433 : Cond.code yX0_takesHour prog_2_method_23_code (3 : Nat) (Option.some Jvm.ClassFile.FieldType.boolean) ∈ lw_tbl := List.mem_of_getElem? (i := 433) (by decide +kernel)
theorem tb_434 : Cond.constant RX4 (85 : Nat) (-1000004 : Int32) ∈ lw_tbl := List.mem_of_getElem? (i := 434) (by decide +kernel)
theorem tb_435 : Cond.methodLink RL (57 : Nat) yX4_hourOf ∈ lw_tbl := List.mem_of_getElem? (i := 435) (by decide +kernel)
theorem tb_436 : Cond.instanceMethod yX4_hourOf ∈ lw_tbl := List.mem_of_getElem? (i := 436) (by decide +kernel)
theorem tb_437 : Cond.selects RX4 yX4_hourOf yX4_hourOf ∈ lw_tbl := List.mem_of_getElem? (i := 437) (by decide +kernel)
theorem tb_438 : Cond.code yX4_hourOf prog_1_method_12_code (3 : Nat) (Option.some Jvm.ClassFile.FieldType.int) ∈ lw_tbl := List.mem_of_getElem? (i := 438) (by decide +kernel)
theorem tb_439 : Cond.methodLink RX4 (86 : Nat) yX0_talksAt ∈ lw_tbl := List.mem_of_getElem? (i := 439) (by decide +kernel)
theorem tb_440 : Cond.instanceMethod yX0_talksAt ∈ lw_tbl := List.mem_of_getElem? (i := 440) (by decide +kernel)
theorem tb_441 : Cond.selects RX0 yX0_talksAt yX0_talksAt ∈ lw_tbl := List.mem_of_getElem? (i := 441) (by decide +kernel)
theorem tb_442 : Cond.code yX0_talksAt prog_2_method_33_code (4 : Nat) (Option.some Jvm.ClassFile.FieldType.int) ∈ lw_tbl := List.mem_of_getElem? (i := 442) (by decide +kernel)
theorem tb_443 : Cond.methodLink RX4 (89 : Nat) yX0_freeRoomsAt ∈ lw_tbl := List.mem_of_getElem? (i := 443) (by decide +kernel)
theorem tb_444 : Cond.instanceMethod yX0_freeRoomsAt ∈ lw_tbl := List.mem_of_getElem? (i := 444) (by decide +kernel)
theorem tb_445 : Cond.selects RX0 yX0_freeRoomsAt yX0_freeRoomsAt ∈ lw_tbl := List.mem_of_getElem? (i := 445) (by decide +kernel)
theorem tb_446 : Cond.code yX0_freeRoomsAt prog_2_method_34_code (4 : Nat) (Option.some Jvm.ClassFile.FieldType.int) ∈ lw_tbl := List.mem_of_getElem? (i := 446) (by decide +kernel)
theorem tb_447 : Cond.methodLink RL (61 : Nat) yX4_would ∈ lw_tbl := List.mem_of_getElem? (i := 447) (by decide +kernel)
theorem tb_448 : Cond.instanceMethod yX4_would ∈ lw_tbl := List.mem_of_getElem? (i := 448) (by decide +kernel)
theorem tb_449 : Cond.selects RX4 yX4_would yX4_would ∈ lw_tbl := List.mem_of_getElem? (i := 449) (by decide +kernel)
theorem tb_450 : Cond.code yX4_would prog_1_method_13_code (6 : Nat) (Option.some Jvm.ClassFile.FieldType.int) ∈ lw_tbl := List.mem_of_getElem? (i := 450) (by decide +kernel)
theorem tb_451 : Cond.methodLink RX4 (92 : Nat) yX4_isTalk ∈ lw_tbl := List.mem_of_getElem? (i := 451) (by decide +kernel)
theorem tb_452 : Cond.methodLink RX4 (96 : Nat) yX4_isRule ∈ lw_tbl := List.mem_of_getElem? (i := 452) (by decide +kernel)
theorem tb_453 : Cond.methodLink RX4 (99 : Nat) yX0_roomFor ∈ lw_tbl := List.mem_of_getElem? (i := 453) (by decide +kernel)
theorem tb_454 : Cond.methodLink RL (66 : Nat) yX4_known ∈ lw_tbl := List.mem_of_getElem? (i := 454) (by decide +kernel)
theorem tb_455 : Cond.instanceMethod yX4_known ∈ lw_tbl := List.mem_of_getElem? (i := 455) (by decide +kernel)
theorem tb_456 : Cond.selects RX4 yX4_known yX4_known ∈ lw_tbl := List.mem_of_getElem? (i := 456) (by decide +kernel)
theorem tb_457 : Cond.code yX4_known prog_1_method_14_code (4 : Nat) (Option.some Jvm.ClassFile.FieldType.int) ∈ lw_tbl := List.mem_of_getElem? (i := 457) (by decide +kernel)
theorem tb_458 : Cond.methodLink RX4 (103 : Nat) yX0_openRooms ∈ lw_tbl := List.mem_of_getElem? (i := 458) (by decide +kernel)
theorem tb_459 : Cond.methodLink RX4 (106 : Nat) yX0_placedElsewhereThan ∈ lw_tbl := List.mem_of_getElem? (i := 459) (by decide +kernel)
theorem tb_460 : Cond.instanceMethod yX0_placedElsewhereThan ∈ lw_tbl := List.mem_of_getElem? (i := 460) (by decide +kernel)
theorem tb_461 : Cond.selects RX0 yX0_placedElsewhereThan yX0_placedElsewhereThan ∈ lw_tbl := List.mem_of_getElem? (i := 461) (by decide +kernel)
theorem tb_462 : Cond.code yX0_placedElsewhereThan prog_2_method_41_code (4 : Nat) (Option.some Jvm.ClassFile.FieldType.int) ∈ lw_tbl := List.mem_of_getElem? (i := 462) (by decide +kernel)
theorem tb_463 : Cond.methodLink RL (70 : Nat) yX4_unknowing ∈ lw_tbl := List.mem_of_getElem? (i := 463) (by decide +kernel)
theorem tb_464 : Cond.instanceMethod yX4_unknowing ∈ lw_tbl := List.mem_of_getElem? (i := 464) (by decide +kernel)
theorem tb_465 : Cond.selects RX4 yX4_unknowing yX4_unknowing ∈ lw_tbl := List.mem_of_getElem? (i := 465) (by decide +kernel)
theorem tb_466 : Cond.code yX4_unknowing prog_1_method_15_code (2 : Nat) (Option.some Jvm.ClassFile.FieldType.int) ∈ lw_tbl := List.mem_of_getElem? (i := 466) (by decide +kernel)
theorem tb_467 : Cond.methodLink RX4 (110 : Nat) yX0_paidSoFar ∈ lw_tbl := List.mem_of_getElem? (i := 467) (by decide +kernel)
theorem tb_468 : Cond.instanceMethod yX0_paidSoFar ∈ lw_tbl := List.mem_of_getElem? (i := 468) (by decide +kernel)
theorem tb_469 : Cond.selects RX0 yX0_paidSoFar yX0_paidSoFar ∈ lw_tbl := List.mem_of_getElem? (i := 469) (by decide +kernel)
theorem tb_470 : Cond.code yX0_paidSoFar prog_2_method_39_code (1 : Nat) (Option.some Jvm.ClassFile.FieldType.int) ∈ lw_tbl := List.mem_of_getElem? (i := 470) (by decide +kernel)
theorem tb_471 : Cond.methodLink RL (74 : Nat) yX4_share ∈ lw_tbl := List.mem_of_getElem? (i := 471) (by decide +kernel)
theorem tb_472 : Cond.instanceMethod yX4_share ∈ lw_tbl := List.mem_of_getElem? (i := 472) (by decide +kernel)
theorem tb_473 : Cond.selects RX4 yX4_share yX4_share ∈ lw_tbl := List.mem_of_getElem? (i := 473) (by decide +kernel)
theorem tb_474 : Cond.code yX4_share prog_1_method_16_code (2 : Nat) (Option.some Jvm.ClassFile.FieldType.int) ∈ lw_tbl := List.mem_of_getElem? (i := 474) (by decide +kernel)
theorem tb_475 : Cond.methodLink RX4 (113 : Nat) yX4_bitsOf ∈ lw_tbl := List.mem_of_getElem? (i := 475) (by decide +kernel)
theorem tb_476 : Cond.static yX4_bitsOf ∈ lw_tbl := List.mem_of_getElem? (i := 476) (by decide +kernel)
theorem tb_477 : Cond.code yX4_bitsOf prog_1_method_33_code (3 : Nat) (Option.some Jvm.ClassFile.FieldType.int) ∈ lw_tbl := List.mem_of_getElem? (i := 477) (by decide +kernel)
theorem tb_478 : Cond.constantFloat RX4 (160 : Nat) (1258291200 : UInt32) ∈ lw_tbl := List.mem_of_getElem? (i := 478) (by decide +kernel)
theorem tb_479 : Cond.methodLink RL (78 : Nat) yX4_bestRule ∈ lw_tbl := List.mem_of_getElem? (i := 479) (by decide +kernel)
theorem tb_480 : Cond.instanceMethod yX4_bestRule ∈ lw_tbl := List.mem_of_getElem? (i := 480) (by decide +kernel)
theorem tb_481 : Cond.selects RX4 yX4_bestRule yX4_bestRule ∈ lw_tbl := List.mem_of_getElem? (i := 481) (by decide +kernel)
theorem tb_482 : Cond.code yX4_bestRule prog_1_method_17_code (6 : Nat) (Option.some Jvm.ClassFile.FieldType.int) ∈ lw_tbl := List.mem_of_getElem? (i := 482) (by decide +kernel)
theorem tb_483 : Cond.methodLink RL (82 : Nat) yX4_emptied ∈ lw_tbl := List.mem_of_getElem? (i := 483) (by decide +kernel)
theorem tb_484 : Cond.instanceMethod yX4_emptied ∈ lw_tbl := List.mem_of_getElem? (i := 484) (by decide +kernel)
theorem tb_485 : Cond.selects RX4 yX4_emptied yX4_emptied ∈ lw_tbl := List.mem_of_getElem? (i := 485) (by decide +kernel)
theorem tb_486 : Cond.code yX4_emptied prog_1_method_18_code (6 : Nat) (Option.some Jvm.ClassFile.FieldType.int) ∈ lw_tbl := List.mem_of_getElem? (i := 486) (by decide +kernel)
theorem tb_487 : Cond.methodLink RX4 (117 : Nat) yX4_couldBeEmptied ∈ lw_tbl := List.mem_of_getElem? (i := 487) (by decide +kernel)
theorem tb_488 : Cond.privateMethod yX4_couldBeEmptied ∈ lw_tbl := List.mem_of_getElem? (i := 488) (by decide +kernel)
theorem tb_489 : Cond.instanceMethod yX4_couldBeEmptied ∈ lw_tbl := List.mem_of_getElem? (i := 489) (by decide +kernel)
theorem tb_490 : Cond.code yX4_couldBeEmptied prog_1_method_27_code (2 : Nat) (Option.some Jvm.ClassFile.FieldType.boolean) ∈ lw_tbl := List.mem_of_getElem? (i := 490) (by decide +kernel)
theorem tb_491 : Cond.methodLink RX4 (154 : Nat) yX0_emptyOut ∈ lw_tbl := List.mem_of_getElem? (i := 491) (by decide +kernel)
theorem tb_492 : Cond.instanceMethod yX0_emptyOut ∈ lw_tbl := List.mem_of_getElem? (i := 492) (by decide +kernel)
theorem tb_493 : Cond.selects RX0 yX0_emptyOut yX0_emptyOut ∈ lw_tbl := List.mem_of_getElem? (i := 493) (by decide +kernel)
theorem tb_494 : Cond.code yX0_emptyOut prog_2_method_11_code (3 : Nat) (Option.some Jvm.ClassFile.FieldType.boolean) ∈ lw_tbl := List.mem_of_getElem? (i := 494) (by decide +kernel)
theorem tb_495 : Cond.methodLink RX0 (105 : Nat) yX0_lowestOther ∈ lw_tbl := List.mem_of_getElem? (i := 495) (by decide +kernel)
theorem tb_496 : Cond.privateMethod yX0_lowestOther ∈ lw_tbl := List.mem_of_getElem? (i := 496) (by decide +kernel)
theorem tb_497 : Cond.instanceMethod yX0_lowestOther ∈ lw_tbl := List.mem_of_getElem? (i := 497) (by decide +kernel)
theorem tb_498 : Cond.code yX0_lowestOther prog_2_method_12_code (3 : Nat) (Option.some Jvm.ClassFile.FieldType.int) ∈ lw_tbl := List.mem_of_getElem? (i := 498) (by decide +kernel)
theorem tb_499 : Cond.methodLink RX0 (108 : Nat) yX0_shift ∈ lw_tbl := List.mem_of_getElem? (i := 499) (by decide +kernel)
theorem tb_500 : Cond.methodLink RL (86 : Nat) yX4_count ∈ lw_tbl := List.mem_of_getElem? (i := 500) (by decide +kernel)
theorem tb_501 : Cond.instanceMethod yX4_count ∈ lw_tbl := List.mem_of_getElem? (i := 501) (by decide +kernel)
theorem tb_502 : Cond.selects RX4 yX4_count yX4_count ∈ lw_tbl := List.mem_of_getElem? (i := 502) (by decide +kernel)
theorem tb_503 : Cond.code yX4_count prog_1_method_19_code (2 : Nat) (Option.some Jvm.ClassFile.FieldType.int) ∈ lw_tbl := List.mem_of_getElem? (i := 503) (by decide +kernel)
theorem tb_504 : Cond.methodLink RX4 (120 : Nat) yX1_size ∈ lw_tbl := List.mem_of_getElem? (i := 504) (by decide +kernel)
theorem tb_505 : Cond.instanceMethod yX1_size ∈ lw_tbl := List.mem_of_getElem? (i := 505) (by decide +kernel)
theorem tb_506 : Cond.selects RX1 yX1_size yX1_size ∈ lw_tbl := List.mem_of_getElem? (i := 506) (by decide +kernel)
theorem tb_507 : Cond.code yX1_size prog_3_method_4_code (1 : Nat) (Option.some Jvm.ClassFile.FieldType.int) ∈ lw_tbl := List.mem_of_getElem? (i := 507) (by decide +kernel)
theorem tb_508 : Cond.methodLink RX4 (123 : Nat) yX3_size ∈ lw_tbl := List.mem_of_getElem? (i := 508) (by decide +kernel)
theorem tb_509 : Cond.instanceMethod yX3_size ∈ lw_tbl := List.mem_of_getElem? (i := 509) (by decide +kernel)
theorem tb_510 : Cond.selects RX3 yX3_size yX3_size ∈ lw_tbl := List.mem_of_getElem? (i := 510) (by decide +kernel)
theorem tb_511 : Cond.code yX3_size prog_5_method_4_code (1 : Nat) (Option.some Jvm.ClassFile.FieldType.int) ∈ lw_tbl := List.mem_of_getElem? (i := 511) (by decide +kernel)
theorem tb_512 : Cond.methodLink RX4 (124 : Nat) yX0_number ∈ lw_tbl := List.mem_of_getElem? (i := 512) (by decide +kernel)
theorem tb_513 : Cond.instanceMethod yX0_number ∈ lw_tbl := List.mem_of_getElem? (i := 513) (by decide +kernel)
theorem tb_514 : Cond.selects RX0 yX0_number yX0_number ∈ lw_tbl := List.mem_of_getElem? (i := 514) (by decide +kernel)
theorem tb_515 : Cond.code yX0_number prog_2_method_35_code (2 : Nat) (Option.some Jvm.ClassFile.FieldType.int) ∈ lw_tbl := List.mem_of_getElem? (i := 515) (by decide +kernel)
theorem tb_516 : Cond.methodLink RX0 (165 : Nat) yX0_fewestRooms ∈ lw_tbl := List.mem_of_getElem? (i := 516) (by decide +kernel)
theorem tb_517 : Cond.privateMethod yX0_fewestRooms ∈ lw_tbl := List.mem_of_getElem? (i := 517) (by decide +kernel)
theorem tb_518 : Cond.instanceMethod yX0_fewestRooms ∈ lw_tbl := List.mem_of_getElem? (i := 518) (by decide +kernel)
theorem tb_519 : Cond.code yX0_fewestRooms prog_2_method_36_code (3 : Nat) (Option.some Jvm.ClassFile.FieldType.int) ∈ lw_tbl := List.mem_of_getElem? (i := 519) (by decide +kernel)
theorem tb_520 : Cond.methodLink RX0 (171 : Nat) yX0_talksAt ∈ lw_tbl := List.mem_of_getElem? (i := 520) (by decide +kernel)
theorem tb_521 : Cond.methodLink RX0 (168 : Nat) yX0_hoursTaken ∈ lw_tbl := List.mem_of_getElem? (i := 521) (by decide +kernel)
theorem tb_522 : Cond.privateMethod yX0_hoursTaken ∈ lw_tbl := List.mem_of_getElem? (i := 522) (by decide +kernel)
theorem tb_523 : Cond.instanceMethod yX0_hoursTaken ∈ lw_tbl := List.mem_of_getElem? (i := 523) (by decide +kernel)
theorem tb_524 : Cond.code yX0_hoursTaken prog_2_method_37_code (3 : Nat) (Option.some Jvm.ClassFile.FieldType.int) ∈ lw_tbl := List.mem_of_getElem? (i := 524) (by decide +kernel)
theorem tb_525 : Cond.methodLink RL (90 : Nat) yX4_undo ∈ lw_tbl := List.mem_of_getElem? (i := 525) (by decide +kernel)
theorem tb_526 : Cond.instanceMethod yX4_undo ∈ lw_tbl := List.mem_of_getElem? (i := 526) (by decide +kernel)
theorem tb_527 : Cond.selects RX4 yX4_undo yX4_undo ∈ lw_tbl := List.mem_of_getElem? (i := 527) (by decide +kernel)
theorem tb_528 : Cond.code yX4_undo prog_1_method_20_code (1 : Nat) (Option.some Jvm.ClassFile.FieldType.int) ∈ lw_tbl := List.mem_of_getElem? (i := 528) (by decide +kernel)
theorem tb_529 : Cond.methodLink RX4 (127 : Nat) yX1_giveBack ∈ lw_tbl := List.mem_of_getElem? (i := 529) (by decide +kernel)
theorem tb_530 : Cond.instanceMethod yX1_giveBack ∈ lw_tbl := List.mem_of_getElem? (i := 530) (by decide +kernel)
theorem tb_531 : Cond.selects RX1 yX1_giveBack yX1_giveBack ∈ lw_tbl := List.mem_of_getElem? (i := 531) (by decide +kernel)
theorem tb_532 : Cond.code yX1_giveBack prog_3_method_3_code (3 : Nat) (Option.some Jvm.ClassFile.FieldType.int) ∈ lw_tbl := List.mem_of_getElem? (i := 532) (by decide +kernel)
theorem tb_533 : Cond.constant RX1 (35 : Nat) (-1000002 : Int32) ∈ lw_tbl := List.mem_of_getElem? (i := 533) (by decide +kernel)
theorem tb_534 : Cond.methodLink RL (94 : Nat) yX4_type ∈ lw_tbl := List.mem_of_getElem? (i := 534) (by decide +kernel)
theorem tb_535 : Cond.instanceMethod yX4_type ∈ lw_tbl := List.mem_of_getElem? (i := 535) (by decide +kernel)
theorem tb_536 : Cond.selects RX4 yX4_type yX4_type ∈ lw_tbl := List.mem_of_getElem? (i := 536) (by decide +kernel)
theorem tb_537 : Cond.code yX4_type prog_1_method_21_code (2 : Nat) (Option.some Jvm.ClassFile.FieldType.int) ∈ lw_tbl := List.mem_of_getElem? (i := 537) (by decide +kernel)
theorem tb_538 : Cond.methodLink RX4 (130 : Nat) yX3_append ∈ lw_tbl := List.mem_of_getElem? (i := 538) (by decide +kernel)
theorem tb_539 : Cond.instanceMethod yX3_append ∈ lw_tbl := List.mem_of_getElem? (i := 539) (by decide +kernel)
theorem tb_540 : Cond.selects RX3 yX3_append yX3_append ∈ lw_tbl := List.mem_of_getElem? (i := 540) (by decide +kernel)
theorem tb_541 : Cond.code yX3_append prog_5_method_2_code (2 : Nat) (Option.some Jvm.ClassFile.FieldType.int) ∈ lw_tbl := List.mem_of_getElem? (i := 541) (by decide +kernel)
theorem tb_542 : Cond.constant RX3 (26 : Nat) (-1000003 : Int32) ∈ lw_tbl := List.mem_of_getElem? (i := 542) (by decide +kernel)
theorem tb_543 : Cond.methodLink RL (98 : Nat) yX4_clearText ∈ lw_tbl := List.mem_of_getElem? (i := 543) (by decide +kernel)
theorem tb_544 : Cond.instanceMethod yX4_clearText ∈ lw_tbl := List.mem_of_getElem? (i := 544) (by decide +kernel)
theorem tb_545 : Cond.selects RX4 yX4_clearText yX4_clearText ∈ lw_tbl := List.mem_of_getElem? (i := 545) (by decide +kernel)
theorem tb_546 : Cond.code yX4_clearText prog_1_method_22_code (1 : Nat) (Option.some Jvm.ClassFile.FieldType.int) ∈ lw_tbl := List.mem_of_getElem? (i := 546) (by decide +kernel)
theorem tb_547 : Cond.methodLink RX4 (134 : Nat) yX3_clear ∈ lw_tbl := List.mem_of_getElem? (i := 547) (by decide +kernel)
theorem tb_548 : Cond.instanceMethod yX3_clear ∈ lw_tbl := List.mem_of_getElem? (i := 548) (by decide +kernel)
theorem tb_549 : Cond.selects RX3 yX3_clear yX3_clear ∈ lw_tbl := List.mem_of_getElem? (i := 549) (by decide +kernel)
theorem tb_550 : Cond.code yX3_clear prog_5_method_3_code (2 : Nat) (Option.some Jvm.ClassFile.FieldType.int) ∈ lw_tbl := List.mem_of_getElem? (i := 550) (by decide +kernel)
theorem tb_551 : Cond.methodLink RL (102 : Nat) yX4_fault ∈ lw_tbl := List.mem_of_getElem? (i := 551) (by decide +kernel)
theorem tb_552 : Cond.instanceMethod yX4_fault ∈ lw_tbl := List.mem_of_getElem? (i := 552) (by decide +kernel)
theorem tb_553 : Cond.selects RX4 yX4_fault yX4_fault ∈ lw_tbl := List.mem_of_getElem? (i := 553) (by decide +kernel)
theorem tb_554 : Cond.code yX4_fault prog_1_method_23_code (2 : Nat) (Option.some Jvm.ClassFile.FieldType.int) ∈ lw_tbl := List.mem_of_getElem? (i := 554) (by decide +kernel)
theorem tb_555 : Cond.methodLink RX4 (137 : Nat) yX3_runOn ∈ lw_tbl := List.mem_of_getElem? (i := 555) (by decide +kernel)
theorem tb_556 : Cond.instanceMethod yX3_runOn ∈ lw_tbl := List.mem_of_getElem? (i := 556) (by decide +kernel)
theorem tb_557 : Cond.selects RX3 yX3_runOn yX3_runOn ∈ lw_tbl := List.mem_of_getElem? (i := 557) (by decide +kernel)
theorem tb_558 : Cond.code yX3_runOn prog_5_method_5_code (4 : Nat) (Option.some Jvm.ClassFile.FieldType.boolean) ∈ lw_tbl := List.mem_of_getElem? (i := 558) (by decide +kernel)
theorem tb_559 : Cond.methodLink RX3 (30 : Nat) yX2_read ∈ lw_tbl := List.mem_of_getElem? (i := 559) (by decide +kernel)
theorem tb_560 : Cond.instanceMethod yX2_read ∈ lw_tbl := List.mem_of_getElem? (i := 560) (by decide +kernel)
theorem tb_561 : Cond.selects RX2 yX2_read yX2_read ∈ lw_tbl := List.mem_of_getElem? (i := 561) (by decide +kernel)
theorem tb_562 : Cond.code yX2_read prog_4_method_2_code (7 : Nat) (Option.some Jvm.ClassFile.FieldType.boolean) ∈ lw_tbl := List.mem_of_getElem? (i := 562) (by decide +kernel)
theorem tb_563 : Cond.methodLink RX2 (19 : Nat) yX2_readKind ∈ lw_tbl := List.mem_of_getElem? (i := 563) (by decide +kernel)
theorem tb_564 : Cond.privateMethod yX2_readKind ∈ lw_tbl := List.mem_of_getElem? (i := 564) (by decide +kernel)
theorem tb_565 : Cond.instanceMethod yX2_readKind ∈ lw_tbl := List.mem_of_getElem? (i := 565) (by decide +kernel)
theorem tb_566 : Cond.code yX2_readKind prog_4_method_5_code (3 : Nat) (Option.some Jvm.ClassFile.FieldType.int) ∈ lw_tbl := List.mem_of_getElem? (i := 566) (by decide +kernel)
theorem tb_567 : Cond.methodLink RX2 (52 : Nat) yX2_isSignLeft ∈ lw_tbl := List.mem_of_getElem? (i := 567) (by decide +kernel)
theorem tb_568 : Cond.privateMethod yX2_isSignLeft ∈ lw_tbl := List.mem_of_getElem? (i := 568) (by decide +kernel)
theorem tb_569 : Cond.instanceMethod yX2_isSignLeft ∈ lw_tbl := List.mem_of_getElem? (i := 569) (by decide +kernel)
theorem tb_570 : Cond.code yX2_isSignLeft prog_4_method_9_code (3 : Nat) (Option.some Jvm.ClassFile.FieldType.boolean) ∈ lw_tbl := List.mem_of_getElem? (i := 570) (by decide +kernel)
theorem tb_571 : Cond.methodLink RX2 (23 : Nat) yX2_readNumber ∈ lw_tbl := List.mem_of_getElem? (i := 571) (by decide +kernel)
theorem tb_572 : Cond.privateMethod yX2_readNumber ∈ lw_tbl := List.mem_of_getElem? (i := 572) (by decide +kernel)
theorem tb_573 : Cond.instanceMethod yX2_readNumber ∈ lw_tbl := List.mem_of_getElem? (i := 573) (by decide +kernel)
theorem tb_574 : Cond.code yX2_readNumber prog_4_method_6_code (4 : Nat) (Option.some Jvm.ClassFile.FieldType.boolean) ∈ lw_tbl := List.mem_of_getElem? (i := 574) (by decide +kernel)
theorem tb_575 : Cond.methodLink RX2 (56 : Nat) yX2_isDigitLeft ∈ lw_tbl := List.mem_of_getElem? (i := 575) (by decide +kernel)
theorem tb_576 : Cond.privateMethod yX2_isDigitLeft ∈ lw_tbl := List.mem_of_getElem? (i := 576) (by decide +kernel)
theorem tb_577 : Cond.instanceMethod yX2_isDigitLeft ∈ lw_tbl := List.mem_of_getElem? (i := 577) (by decide +kernel)
theorem tb_578 : Cond.code yX2_isDigitLeft prog_4_method_8_code (3 : Nat) (Option.some Jvm.ClassFile.FieldType.boolean) ∈ lw_tbl := List.mem_of_getElem? (i := 578) (by decide +kernel)
theorem tb_579 : Cond.methodLink RX2 (27 : Nat) yX2_readSign ∈ lw_tbl := List.mem_of_getElem? (i := 579) (by decide +kernel)
theorem tb_580 : Cond.privateMethod yX2_readSign ∈ lw_tbl := List.mem_of_getElem? (i := 580) (by decide +kernel)
theorem tb_581 : Cond.instanceMethod yX2_readSign ∈ lw_tbl := List.mem_of_getElem? (i := 581) (by decide +kernel)
theorem tb_582 : Cond.code yX2_readSign prog_4_method_7_code (4 : Nat) (Option.some Jvm.ClassFile.FieldType.boolean) ∈ lw_tbl := List.mem_of_getElem? (i := 582) (by decide +kernel)
theorem tb_583 : Cond.methodLink RX3 (34 : Nat) yX2_next ∈ lw_tbl := List.mem_of_getElem? (i := 583) (by decide +kernel)
theorem tb_584 : Cond.instanceMethod yX2_next ∈ lw_tbl := List.mem_of_getElem? (i := 584) (by decide +kernel)
theorem tb_585 : Cond.selects RX2 yX2_next yX2_next ∈ lw_tbl := List.mem_of_getElem? (i := 585) (by decide +kernel)
theorem tb_586 : Cond.code yX2_next prog_4_method_3_code (1 : Nat) (Option.some Jvm.ClassFile.FieldType.int) ∈ lw_tbl := List.mem_of_getElem? (i := 586) (by decide +kernel)
theorem tb_587 : Cond.methodLink RX3 (38 : Nat) yX3_stopAt ∈ lw_tbl := List.mem_of_getElem? (i := 587) (by decide +kernel)
theorem tb_588 : Cond.privateMethod yX3_stopAt ∈ lw_tbl := List.mem_of_getElem? (i := 588) (by decide +kernel)
theorem tb_589 : Cond.instanceMethod yX3_stopAt ∈ lw_tbl := List.mem_of_getElem? (i := 589) (by decide +kernel)
theorem tb_590 : Cond.code yX3_stopAt prog_5_method_6_code (4 : Nat) (Option.some Jvm.ClassFile.FieldType.boolean) ∈ lw_tbl := List.mem_of_getElem? (i := 590) (by decide +kernel)
theorem tb_591 : Cond.methodLink RX3 (42 : Nat) yX2_doOn ∈ lw_tbl := List.mem_of_getElem? (i := 591) (by decide +kernel)
theorem tb_592 : Cond.instanceMethod yX2_doOn ∈ lw_tbl := List.mem_of_getElem? (i := 592) (by decide +kernel)
theorem tb_593 : Cond.selects RX2 yX2_doOn yX2_doOn ∈ lw_tbl := List.mem_of_getElem? (i := 593) (by decide +kernel)
theorem tb_594 : Cond.code yX2_doOn prog_4_method_4_code (2 : Nat) (Option.some Jvm.ClassFile.FieldType.int) ∈ lw_tbl := List.mem_of_getElem? (i := 594) (by decide +kernel)
theorem tb_595 : Cond.methodLink RX2 (35 : Nat) yX0_tell ∈ lw_tbl := List.mem_of_getElem? (i := 595) (by decide +kernel)
theorem tb_596 : Cond.methodLink RX2 (41 : Nat) yX0_drop ∈ lw_tbl := List.mem_of_getElem? (i := 596) (by decide +kernel)
theorem tb_597 : Cond.methodLink RX2 (45 : Nat) yX0_furnish ∈ lw_tbl := List.mem_of_getElem? (i := 597) (by decide +kernel)
theorem tb_598 : Cond.methodLink RX2 (48 : Nat) yX0_chooseRule ∈ lw_tbl := List.mem_of_getElem? (i := 598) (by decide +kernel)
theorem tb_599 : Cond.constant RX2 (51 : Nat) (-1000001 : Int32) ∈ lw_tbl := List.mem_of_getElem? (i := 599) (by decide +kernel)
theorem tb_600 : Cond.methodLink RX4 (141 : Nat) yX3_ofFault ∈ lw_tbl := List.mem_of_getElem? (i := 600) (by decide +kernel)
theorem tb_601 : Cond.instanceMethod yX3_ofFault ∈ lw_tbl := List.mem_of_getElem? (i := 601) (by decide +kernel)
theorem tb_602 : Cond.selects RX3 yX3_ofFault yX3_ofFault ∈ lw_tbl := List.mem_of_getElem? (i := 602) (by decide +kernel)
theorem tb_603 : Cond.code yX3_ofFault prog_5_method_8_code (2 : Nat) (Option.some Jvm.ClassFile.FieldType.int) ∈ lw_tbl := List.mem_of_getElem? (i := 603) (by decide +kernel)
theorem tb_604 : Cond.methodLink RL (106 : Nat) yX4_play ∈ lw_tbl := List.mem_of_getElem? (i := 604) (by decide +kernel)
theorem tb_605 : Cond.instanceMethod yX4_play ∈ lw_tbl := List.mem_of_getElem? (i := 605) (by decide +kernel)
theorem tb_606 : Cond.selects RX4 yX4_play yX4_play ∈ lw_tbl := List.mem_of_getElem? (i := 606) (by decide +kernel)
theorem tb_607 : Cond.code yX4_play prog_1_method_24_code (1 : Nat) (Option.some Jvm.ClassFile.FieldType.int) ∈ lw_tbl := List.mem_of_getElem? (i := 607) (by decide +kernel)
theorem tb_608 : Cond.methodLink RX4 (144 : Nat) yX3_ordersDone ∈ lw_tbl := List.mem_of_getElem? (i := 608) (by decide +kernel)
theorem tb_609 : Cond.instanceMethod yX3_ordersDone ∈ lw_tbl := List.mem_of_getElem? (i := 609) (by decide +kernel)
theorem tb_610 : Cond.selects RX3 yX3_ordersDone yX3_ordersDone ∈ lw_tbl := List.mem_of_getElem? (i := 610) (by decide +kernel)
theorem tb_611 : Cond.code yX3_ordersDone prog_5_method_7_code (1 : Nat) (Option.some Jvm.ClassFile.FieldType.int) ∈ lw_tbl := List.mem_of_getElem? (i := 611) (by decide +kernel)
theorem tb_612 : Cond.constant RX4 (147 : Nat) (-1000002 : Int32) ∈ lw_tbl := List.mem_of_getElem? (i := 612) (by decide +kernel)
theorem tb_613 : Cond.classLink RL (10 : Nat) "OnlineRoomsModel" ∈ lw_tbl := List.mem_of_getElem? (i := 613) (by decide +kernel)
theorem tb_614 : Cond.instantiable RX5 (17 : Nat) ∈ lw_tbl := List.mem_of_getElem? (i := 614) (by decide +kernel)
theorem tb_615 : Cond.methodLink RL (12 : Nat) yX5_init ∈ lw_tbl := List.mem_of_getElem? (i := 615) (by decide +kernel)
theorem tb_616 : Cond.instanceMethod yX5_init ∈ lw_tbl := List.mem_of_getElem? (i := 616) (by decide +kernel)
theorem tb_617 : Cond.code yX5_init prog_7_method_1_code (2 : Nat) (Option.none : Option Jvm.ClassFile.FieldType) ∈ lw_tbl := List.mem_of_getElem? (i := 617) (by decide +kernel)
theorem tb_618 : Cond.methodLink RX5 (1 : Nat) ⟨"java/lang/Object", "<init>", "()V"⟩ ∈ lw_tbl := List.mem_of_getElem? (i := 618) (by decide +kernel)
theorem tb_619 : Cond.fieldLink RX5 (26 : Nat) "OnlineRoomsModel" "thrown" "I" ∈ lw_tbl := List.mem_of_getElem? (i := 619) (by decide +kernel)
theorem tb_620 : Cond.fieldLink RX5 (7 : Nat) "OnlineRoomsModel" "s" "[I" ∈ lw_tbl := List.mem_of_getElem? (i := 620) (by decide +kernel)
theorem tb_621 : Cond.fieldLink RX5 (13 : Nat) "OnlineRoomsModel" "aside" "[I" ∈ lw_tbl := List.mem_of_getElem? (i := 621) (by decide +kernel)
theorem tb_622 : Cond.fieldLink RX5 (16 : Nat) "OnlineRoomsModel" "saved" "[I" ∈ lw_tbl := List.mem_of_getElem? (i := 622) (by decide +kernel)
theorem tb_623 : Cond.fieldLink RX5 (41 : Nat) "OnlineRoomsModel" "savedMany" "I" ∈ lw_tbl := List.mem_of_getElem? (i := 623) (by decide +kernel)
theorem tb_624 : Cond.fieldLink RX5 (19 : Nat) "OnlineRoomsModel" "text" "[I" ∈ lw_tbl := List.mem_of_getElem? (i := 624) (by decide +kernel)
theorem tb_625 : Cond.fieldLink RX5 (179 : Nat) "OnlineRoomsModel" "length" "I" ∈ lw_tbl := List.mem_of_getElem? (i := 625) (by decide +kernel)
theorem tb_626 : Cond.fieldLink RX5 (22 : Nat) "OnlineRoomsModel" "isTold" "[Z" ∈ lw_tbl := List.mem_of_getElem? (i := 626) (by decide +kernel)
theorem tb_627 : Cond.fieldLink RX5 (122 : Nat) "OnlineRoomsModel" "price" "I" ∈ lw_tbl := List.mem_of_getElem? (i := 627) (by decide +kernel)
theorem tb_628 : Cond.fieldLink RX5 (125 : Nat) "OnlineRoomsModel" "opened" "I" ∈ lw_tbl := List.mem_of_getElem? (i := 628) (by decide +kernel)
theorem tb_629 : Cond.fieldLink RX5 (116 : Nat) "OnlineRoomsModel" "others" "I" ∈ lw_tbl := List.mem_of_getElem? (i := 629) (by decide +kernel)
theorem tb_630 : Cond.fieldLink RX5 (182 : Nat) "OnlineRoomsModel" "at" "I" ∈ lw_tbl := List.mem_of_getElem? (i := 630) (by decide +kernel)
theorem tb_631 : Cond.fieldLink RX5 (185 : Nat) "OnlineRoomsModel" "isWell" "Z" ∈ lw_tbl := List.mem_of_getElem? (i := 631) (by decide +kernel)
theorem tb_632 : Cond.fieldLink RX5 (207 : Nat) "OnlineRoomsModel" "place" "I" ∈ lw_tbl := List.mem_of_getElem? (i := 632) (by decide +kernel)
theorem tb_633 : Cond.fieldLink RX5 (204 : Nat) "OnlineRoomsModel" "why" "I" ∈ lw_tbl := List.mem_of_getElem? (i := 633) (by decide +kernel)
theorem tb_634 : Cond.fieldLink RX5 (213 : Nat) "OnlineRoomsModel" "cause" "I" ∈ lw_tbl := List.mem_of_getElem? (i := 634) (by decide +kernel)
theorem tb_635 : Cond.fieldLink RX5 (201 : Nat) "OnlineRoomsModel" "orders" "I" ∈ lw_tbl := List.mem_of_getElem? (i := 635) (by decide +kernel)
theorem tb_636 : Cond.lays RX5 "OnlineRoomsModel" "thrown" "I" ∈ lw_tbl := List.mem_of_getElem? (i := 636) (by decide +kernel)
theorem tb_637 : Cond.soleField RX5 "thrown" ∈ lw_tbl := List.mem_of_getElem? (i := 637) (by decide +kernel)
theorem tb_638 : Cond.laysFinal RX5 "OnlineRoomsModel" "s" "[I" ∈ lw_tbl := List.mem_of_getElem? (i := 638) (by decide +kernel)
theorem tb_639 : Cond.soleField RX5 "s" ∈ lw_tbl := List.mem_of_getElem? (i := 639) (by decide +kernel)
theorem tb_640 : Cond.laysFinal RX5 "OnlineRoomsModel" "aside" "[I" ∈ lw_tbl := List.mem_of_getElem? (i := 640) (by decide +kernel)
theorem tb_641 : Cond.soleField RX5 "aside" ∈ lw_tbl := List.mem_of_getElem? (i := 641) (by decide +kernel)
theorem tb_642 : Cond.laysFinal RX5 "OnlineRoomsModel" "saved" "[I" ∈ lw_tbl := List.mem_of_getElem? (i := 642) (by decide +kernel)
theorem tb_643 : Cond.soleField RX5 "saved" ∈ lw_tbl := List.mem_of_getElem? (i := 643) (by decide +kernel)
theorem tb_644 : Cond.lays RX5 "OnlineRoomsModel" "savedMany" "I" ∈ lw_tbl := List.mem_of_getElem? (i := 644) (by decide +kernel)
theorem tb_645 : Cond.soleField RX5 "savedMany" ∈ lw_tbl := List.mem_of_getElem? (i := 645) (by decide +kernel)
theorem tb_646 : Cond.laysFinal RX5 "OnlineRoomsModel" "text" "[I" ∈ lw_tbl := List.mem_of_getElem? (i := 646) (by decide +kernel)
theorem tb_647 : Cond.soleField RX5 "text" ∈ lw_tbl := List.mem_of_getElem? (i := 647) (by decide +kernel)
theorem tb_648 : Cond.lays RX5 "OnlineRoomsModel" "length" "I" ∈ lw_tbl := List.mem_of_getElem? (i := 648) (by decide +kernel)
theorem tb_649 : Cond.soleField RX5 "length" ∈ lw_tbl := List.mem_of_getElem? (i := 649) (by decide +kernel)
theorem tb_650 : Cond.laysFinal RX5 "OnlineRoomsModel" "isTold" "[Z" ∈ lw_tbl := List.mem_of_getElem? (i := 650) (by decide +kernel)
theorem tb_651 : Cond.soleField RX5 "isTold" ∈ lw_tbl := List.mem_of_getElem? (i := 651) (by decide +kernel)
theorem tb_652 : Cond.lays RX5 "OnlineRoomsModel" "price" "I" ∈ lw_tbl := List.mem_of_getElem? (i := 652) (by decide +kernel)
theorem tb_653 : Cond.soleField RX5 "price" ∈ lw_tbl := List.mem_of_getElem? (i := 653) (by decide +kernel)
theorem tb_654 : Cond.lays RX5 "OnlineRoomsModel" "opened" "I" ∈ lw_tbl := List.mem_of_getElem? (i := 654) (by decide +kernel)
theorem tb_655 : Cond.soleField RX5 "opened" ∈ lw_tbl := List.mem_of_getElem? (i := 655) (by decide +kernel)
theorem tb_656 : Cond.lays RX5 "OnlineRoomsModel" "others" "I" ∈ lw_tbl := List.mem_of_getElem? (i := 656) (by decide +kernel)
theorem tb_657 : Cond.soleField RX5 "others" ∈ lw_tbl := List.mem_of_getElem? (i := 657) (by decide +kernel)
theorem tb_658 : Cond.lays RX5 "OnlineRoomsModel" "at" "I" ∈ lw_tbl := List.mem_of_getElem? (i := 658) (by decide +kernel)
theorem tb_659 : Cond.soleField RX5 "at" ∈ lw_tbl := List.mem_of_getElem? (i := 659) (by decide +kernel)
theorem tb_660 : Cond.lays RX5 "OnlineRoomsModel" "isWell" "Z" ∈ lw_tbl := List.mem_of_getElem? (i := 660) (by decide +kernel)
theorem tb_661 : Cond.soleField RX5 "isWell" ∈ lw_tbl := List.mem_of_getElem? (i := 661) (by decide +kernel)
theorem tb_662 : Cond.lays RX5 "OnlineRoomsModel" "place" "I" ∈ lw_tbl := List.mem_of_getElem? (i := 662) (by decide +kernel)
theorem tb_663 : Cond.soleField RX5 "place" ∈ lw_tbl := List.mem_of_getElem? (i := 663) (by decide +kernel)
theorem tb_664 : Cond.lays RX5 "OnlineRoomsModel" "why" "I" ∈ lw_tbl := List.mem_of_getElem? (i := 664) (by decide +kernel)
theorem tb_665 : Cond.soleField RX5 "why" ∈ lw_tbl := List.mem_of_getElem? (i := 665) (by decide +kernel)
theorem tb_666 : Cond.lays RX5 "OnlineRoomsModel" "cause" "I" ∈ lw_tbl := List.mem_of_getElem? (i := 666) (by decide +kernel)
theorem tb_667 : Cond.soleField RX5 "cause" ∈ lw_tbl := List.mem_of_getElem? (i := 667) (by decide +kernel)
theorem tb_668 : Cond.lays RX5 "OnlineRoomsModel" "orders" "I" ∈ lw_tbl := List.mem_of_getElem? (i := 668) (by decide +kernel)
theorem tb_669 : Cond.soleField RX5 "orders" ∈ lw_tbl := List.mem_of_getElem? (i := 669) (by decide +kernel)
theorem tb_670 : Cond.superclass RX5 "java/lang/Object" ∈ lw_tbl := List.mem_of_getElem? (i := 670) (by decide +kernel)
theorem tb_671 : Cond.arrayClass Jvm.ClassFile.FieldType.boolean ∈ lw_tbl := List.mem_of_getElem? (i := 671) (by decide +kernel)
theorem tb_672 : Cond.methodLink RL (17 : Nat) yX5_talk ∈ lw_tbl := List.mem_of_getElem? (i := 672) (by decide +kernel)
theorem tb_673 : Cond.instanceMethod yX5_talk ∈ lw_tbl := List.mem_of_getElem? (i := 673) (by decide +kernel)
theorem tb_674 : Cond.selects RX5 yX5_talk yX5_talk ∈ lw_tbl := List.mem_of_getElem? (i := 674) (by decide +kernel)
theorem tb_675 : Cond.code yX5_talk prog_7_method_23_code (5 : Nat) (Option.some Jvm.ClassFile.FieldType.int) ∈ lw_tbl := List.mem_of_getElem? (i := 675) (by decide +kernel)
theorem tb_676 : Cond.methodLink RX5 (78 : Nat) yX5_refusesTalk ∈ lw_tbl := List.mem_of_getElem? (i := 676) (by decide +kernel)
theorem tb_677 : Cond.privateMethod yX5_refusesTalk ∈ lw_tbl := List.mem_of_getElem? (i := 677) (by decide +kernel)
theorem tb_678 : Cond.instanceMethod yX5_refusesTalk ∈ lw_tbl := List.mem_of_getElem? (i := 678) (by decide +kernel)
theorem tb_679 : Cond.code yX5_refusesTalk prog_7_method_21_code (4 : Nat) (Option.some Jvm.ClassFile.FieldType.int) ∈ lw_tbl := List.mem_of_getElem? (i := 679) (by decide +kernel)
theorem tb_680 : Cond.methodLink RX5 (30 : Nat) yX5_in ∈ lw_tbl := List.mem_of_getElem? (i := 680) (by decide +kernel)
theorem tb_681 : Cond.static yX5_in ∈ lw_tbl := List.mem_of_getElem? (i := 681) (by decide +kernel)
theorem tb_682 : Cond.code yX5_in prog_7_method_3_code (3 : Nat) (Option.some Jvm.ClassFile.FieldType.boolean) ∈ lw_tbl := List.mem_of_getElem? (i := 682) (by decide +kernel)
theorem tb_683 : Cond.constant RX5 (67 : Nat) (-1000001 : Int32) ∈ lw_tbl := List.mem_of_getElem? (i := 683) (by decide +kernel)
theorem tb_684 : Cond.methodLink RX5 (68 : Nat) yX5_gets ∈ lw_tbl := List.mem_of_getElem? (i := 684) (by decide +kernel)
theorem tb_685 : Cond.privateMethod yX5_gets ∈ lw_tbl := List.mem_of_getElem? (i := 685) (by decide +kernel)
theorem tb_686 : Cond.instanceMethod yX5_gets ∈ lw_tbl := List.mem_of_getElem? (i := 686) (by decide +kernel)
theorem tb_687 : Cond.code yX5_gets prog_7_method_17_code (9 : Nat) (Option.some Jvm.ClassFile.FieldType.int) ∈ lw_tbl := List.mem_of_getElem? (i := 687) (by decide +kernel)
theorem tb_688 : Cond.methodLink RX5 (52 : Nat) yX5_canBe ∈ lw_tbl := List.mem_of_getElem? (i := 688) (by decide +kernel)
theorem tb_689 : Cond.privateMethod yX5_canBe ∈ lw_tbl := List.mem_of_getElem? (i := 689) (by decide +kernel)
theorem tb_690 : Cond.instanceMethod yX5_canBe ∈ lw_tbl := List.mem_of_getElem? (i := 690) (by decide +kernel)
theorem tb_691 : Cond.code yX5_canBe prog_7_method_13_code (8 : Nat) (Option.some Jvm.ClassFile.FieldType.boolean) ∈ lw_tbl := List.mem_of_getElem? (i := 691) (by decide +kernel)
theorem tb_692 : Cond.methodLink RX5 (38 : Nat) yX5_room0 ∈ lw_tbl := List.mem_of_getElem? (i := 692) (by decide +kernel)
theorem tb_693 : Cond.privateMethod yX5_room0 ∈ lw_tbl := List.mem_of_getElem? (i := 693) (by decide +kernel)
theorem tb_694 : Cond.instanceMethod yX5_room0 ∈ lw_tbl := List.mem_of_getElem? (i := 694) (by decide +kernel)
theorem tb_695 : Cond.code yX5_room0 prog_7_method_6_code (3 : Nat) (Option.some Jvm.ClassFile.FieldType.int) ∈ lw_tbl := List.mem_of_getElem? (i := 695) (by decide +kernel)
theorem tb_696 : Cond.methodLink RX5 (34 : Nat) yX5_of ∈ lw_tbl := List.mem_of_getElem? (i := 696) (by decide +kernel)
theorem tb_697 : Cond.privateMethod yX5_of ∈ lw_tbl := List.mem_of_getElem? (i := 697) (by decide +kernel)
theorem tb_698 : Cond.instanceMethod yX5_of ∈ lw_tbl := List.mem_of_getElem? (i := 698) (by decide +kernel)
theorem tb_699 : Cond.code yX5_of prog_7_method_5_code (3 : Nat) (Option.some Jvm.ClassFile.FieldType.int) ∈ lw_tbl := List.mem_of_getElem? (i := 699) (by decide +kernel)
theorem tb_700 : Cond.methodLink RX5 (56 : Nat) yX5_isOpen ∈ lw_tbl := List.mem_of_getElem? (i := 700) (by decide +kernel)
theorem tb_701 : Cond.privateMethod yX5_isOpen ∈ lw_tbl := List.mem_of_getElem? (i := 701) (by decide +kernel)
theorem tb_702 : Cond.instanceMethod yX5_isOpen ∈ lw_tbl := List.mem_of_getElem? (i := 702) (by decide +kernel)
theorem tb_703 : Cond.code yX5_isOpen prog_7_method_8_code (2 : Nat) (Option.some Jvm.ClassFile.FieldType.boolean) ∈ lw_tbl := List.mem_of_getElem? (i := 703) (by decide +kernel)
theorem tb_704 : Cond.methodLink RX5 (60 : Nat) yX5_worth ∈ lw_tbl := List.mem_of_getElem? (i := 704) (by decide +kernel)
theorem tb_705 : Cond.privateMethod yX5_worth ∈ lw_tbl := List.mem_of_getElem? (i := 705) (by decide +kernel)
theorem tb_706 : Cond.instanceMethod yX5_worth ∈ lw_tbl := List.mem_of_getElem? (i := 706) (by decide +kernel)
theorem tb_707 : Cond.code yX5_worth prog_7_method_16_code (4 : Nat) (Option.some Jvm.ClassFile.FieldType.int) ∈ lw_tbl := List.mem_of_getElem? (i := 707) (by decide +kernel)
theorem tb_708 : Cond.methodLink RX5 (45 : Nat) yX5_gap ∈ lw_tbl := List.mem_of_getElem? (i := 708) (by decide +kernel)
theorem tb_709 : Cond.privateMethod yX5_gap ∈ lw_tbl := List.mem_of_getElem? (i := 709) (by decide +kernel)
theorem tb_710 : Cond.instanceMethod yX5_gap ∈ lw_tbl := List.mem_of_getElem? (i := 710) (by decide +kernel)
theorem tb_711 : Cond.code yX5_gap prog_7_method_15_code (6 : Nat) (Option.some Jvm.ClassFile.FieldType.int) ∈ lw_tbl := List.mem_of_getElem? (i := 711) (by decide +kernel)
theorem tb_712 : Cond.methodLink RX5 (48 : Nat) yX5_taken ∈ lw_tbl := List.mem_of_getElem? (i := 712) (by decide +kernel)
theorem tb_713 : Cond.privateMethod yX5_taken ∈ lw_tbl := List.mem_of_getElem? (i := 713) (by decide +kernel)
theorem tb_714 : Cond.instanceMethod yX5_taken ∈ lw_tbl := List.mem_of_getElem? (i := 714) (by decide +kernel)
theorem tb_715 : Cond.code yX5_taken prog_7_method_14_code (4 : Nat) (Option.some Jvm.ClassFile.FieldType.int) ∈ lw_tbl := List.mem_of_getElem? (i := 715) (by decide +kernel)
theorem tb_716 : Cond.methodLink RX5 (64 : Nat) yX5_dearness ∈ lw_tbl := List.mem_of_getElem? (i := 716) (by decide +kernel)
theorem tb_717 : Cond.privateMethod yX5_dearness ∈ lw_tbl := List.mem_of_getElem? (i := 717) (by decide +kernel)
theorem tb_718 : Cond.instanceMethod yX5_dearness ∈ lw_tbl := List.mem_of_getElem? (i := 718) (by decide +kernel)
theorem tb_719 : Cond.code yX5_dearness prog_7_method_18_code (2 : Nat) (Option.some Jvm.ClassFile.FieldType.int) ∈ lw_tbl := List.mem_of_getElem? (i := 719) (by decide +kernel)
theorem tb_720 : Cond.constant RX5 (72 : Nat) (-1000002 : Int32) ∈ lw_tbl := List.mem_of_getElem? (i := 720) (by decide +kernel)
theorem tb_721 : Cond.constant RX5 (73 : Nat) (-1000003 : Int32) ∈ lw_tbl := List.mem_of_getElem? (i := 721) (by decide +kernel)
theorem tb_722 : Cond.methodLink RX5 (81 : Nat) yX5_records ∈ lw_tbl := List.mem_of_getElem? (i := 722) (by decide +kernel)
theorem tb_723 : Cond.privateMethod yX5_records ∈ lw_tbl := List.mem_of_getElem? (i := 723) (by decide +kernel)
theorem tb_724 : Cond.instanceMethod yX5_records ∈ lw_tbl := List.mem_of_getElem? (i := 724) (by decide +kernel)
theorem tb_725 : Cond.code yX5_records prog_7_method_9_code (2 : Nat) (Option.none : Option Jvm.ClassFile.FieldType) ∈ lw_tbl := List.mem_of_getElem? (i := 725) (by decide +kernel)
theorem tb_726 : Cond.methodLink RX5 (84 : Nat) yX5_tells ∈ lw_tbl := List.mem_of_getElem? (i := 726) (by decide +kernel)
theorem tb_727 : Cond.privateMethod yX5_tells ∈ lw_tbl := List.mem_of_getElem? (i := 727) (by decide +kernel)
theorem tb_728 : Cond.instanceMethod yX5_tells ∈ lw_tbl := List.mem_of_getElem? (i := 728) (by decide +kernel)
theorem tb_729 : Cond.code yX5_tells prog_7_method_22_code (6 : Nat) (Option.some Jvm.ClassFile.FieldType.int) ∈ lw_tbl := List.mem_of_getElem? (i := 729) (by decide +kernel)
theorem tb_730 : Cond.methodLink RX5 (74 : Nat) yX5_opens ∈ lw_tbl := List.mem_of_getElem? (i := 730) (by decide +kernel)
theorem tb_731 : Cond.privateMethod yX5_opens ∈ lw_tbl := List.mem_of_getElem? (i := 731) (by decide +kernel)
theorem tb_732 : Cond.instanceMethod yX5_opens ∈ lw_tbl := List.mem_of_getElem? (i := 732) (by decide +kernel)
theorem tb_733 : Cond.code yX5_opens prog_7_method_19_code (2 : Nat) (Option.none : Option Jvm.ClassFile.FieldType) ∈ lw_tbl := List.mem_of_getElem? (i := 733) (by decide +kernel)
theorem tb_734 : Cond.methodLink RL (22 : Nat) yX5_withdraw ∈ lw_tbl := List.mem_of_getElem? (i := 734) (by decide +kernel)
theorem tb_735 : Cond.instanceMethod yX5_withdraw ∈ lw_tbl := List.mem_of_getElem? (i := 735) (by decide +kernel)
theorem tb_736 : Cond.selects RX5 yX5_withdraw yX5_withdraw ∈ lw_tbl := List.mem_of_getElem? (i := 736) (by decide +kernel)
theorem tb_737 : Cond.code yX5_withdraw prog_7_method_25_code (2 : Nat) (Option.some Jvm.ClassFile.FieldType.int) ∈ lw_tbl := List.mem_of_getElem? (i := 737) (by decide +kernel)
theorem tb_738 : Cond.methodLink RX5 (87 : Nat) yX5_isTalk ∈ lw_tbl := List.mem_of_getElem? (i := 738) (by decide +kernel)
theorem tb_739 : Cond.privateMethod yX5_isTalk ∈ lw_tbl := List.mem_of_getElem? (i := 739) (by decide +kernel)
theorem tb_740 : Cond.instanceMethod yX5_isTalk ∈ lw_tbl := List.mem_of_getElem? (i := 740) (by decide +kernel)
theorem tb_741 : Cond.code yX5_isTalk prog_7_method_7_code (2 : Nat) (Option.some Jvm.ClassFile.FieldType.boolean) ∈ lw_tbl := List.mem_of_getElem? (i := 741) (by decide +kernel)
theorem tb_742 : Cond.methodLink RX5 (90 : Nat) yX5_withdraws ∈ lw_tbl := List.mem_of_getElem? (i := 742) (by decide +kernel)
theorem tb_743 : Cond.privateMethod yX5_withdraws ∈ lw_tbl := List.mem_of_getElem? (i := 743) (by decide +kernel)
theorem tb_744 : Cond.instanceMethod yX5_withdraws ∈ lw_tbl := List.mem_of_getElem? (i := 744) (by decide +kernel)
theorem tb_745 : Cond.code yX5_withdraws prog_7_method_24_code (3 : Nat) (Option.some Jvm.ClassFile.FieldType.int) ∈ lw_tbl := List.mem_of_getElem? (i := 745) (by decide +kernel)
theorem tb_746 : Cond.methodLink RL (27 : Nat) yX5_move ∈ lw_tbl := List.mem_of_getElem? (i := 746) (by decide +kernel)
theorem tb_747 : Cond.instanceMethod yX5_move ∈ lw_tbl := List.mem_of_getElem? (i := 747) (by decide +kernel)
theorem tb_748 : Cond.selects RX5 yX5_move yX5_move ∈ lw_tbl := List.mem_of_getElem? (i := 748) (by decide +kernel)
theorem tb_749 : Cond.code yX5_move prog_7_method_27_code (4 : Nat) (Option.some Jvm.ClassFile.FieldType.int) ∈ lw_tbl := List.mem_of_getElem? (i := 749) (by decide +kernel)
theorem tb_750 : Cond.methodLink RX5 (93 : Nat) yX5_isRoom ∈ lw_tbl := List.mem_of_getElem? (i := 750) (by decide +kernel)
theorem tb_751 : Cond.static yX5_isRoom ∈ lw_tbl := List.mem_of_getElem? (i := 751) (by decide +kernel)
theorem tb_752 : Cond.code yX5_isRoom prog_7_method_4_code (1 : Nat) (Option.some Jvm.ClassFile.FieldType.boolean) ∈ lw_tbl := List.mem_of_getElem? (i := 752) (by decide +kernel)
theorem tb_753 : Cond.methodLink RX5 (96 : Nat) yX5_canMove ∈ lw_tbl := List.mem_of_getElem? (i := 753) (by decide +kernel)
theorem tb_754 : Cond.privateMethod yX5_canMove ∈ lw_tbl := List.mem_of_getElem? (i := 754) (by decide +kernel)
theorem tb_755 : Cond.instanceMethod yX5_canMove ∈ lw_tbl := List.mem_of_getElem? (i := 755) (by decide +kernel)
theorem tb_756 : Cond.code yX5_canMove prog_7_method_26_code (3 : Nat) (Option.some Jvm.ClassFile.FieldType.boolean) ∈ lw_tbl := List.mem_of_getElem? (i := 756) (by decide +kernel)
theorem tb_757 : Cond.methodLink RL (31 : Nat) yX5_room ∈ lw_tbl := List.mem_of_getElem? (i := 757) (by decide +kernel)
theorem tb_758 : Cond.instanceMethod yX5_room ∈ lw_tbl := List.mem_of_getElem? (i := 758) (by decide +kernel)
theorem tb_759 : Cond.selects RX5 yX5_room yX5_room ∈ lw_tbl := List.mem_of_getElem? (i := 759) (by decide +kernel)
theorem tb_760 : Cond.code yX5_room prog_7_method_30_code (5 : Nat) (Option.some Jvm.ClassFile.FieldType.int) ∈ lw_tbl := List.mem_of_getElem? (i := 760) (by decide +kernel)
theorem tb_761 : Cond.methodLink RX5 (100 : Nat) yX5_refusesRoom ∈ lw_tbl := List.mem_of_getElem? (i := 761) (by decide +kernel)
theorem tb_762 : Cond.privateMethod yX5_refusesRoom ∈ lw_tbl := List.mem_of_getElem? (i := 762) (by decide +kernel)
theorem tb_763 : Cond.instanceMethod yX5_refusesRoom ∈ lw_tbl := List.mem_of_getElem? (i := 763) (by decide +kernel)
theorem tb_764 : Cond.code yX5_refusesRoom prog_7_method_28_code (4 : Nat) (Option.some Jvm.ClassFile.FieldType.int) ∈ lw_tbl := List.mem_of_getElem? (i := 764) (by decide +kernel)
theorem tb_765 : Cond.methodLink RX5 (103 : Nat) yX5_laysRoom ∈ lw_tbl := List.mem_of_getElem? (i := 765) (by decide +kernel)
theorem tb_766 : Cond.privateMethod yX5_laysRoom ∈ lw_tbl := List.mem_of_getElem? (i := 766) (by decide +kernel)
theorem tb_767 : Cond.instanceMethod yX5_laysRoom ∈ lw_tbl := List.mem_of_getElem? (i := 767) (by decide +kernel)
theorem tb_768 : Cond.code yX5_laysRoom prog_7_method_29_code (5 : Nat) (Option.some Jvm.ClassFile.FieldType.int) ∈ lw_tbl := List.mem_of_getElem? (i := 768) (by decide +kernel)
theorem tb_769 : Cond.methodLink RL (35 : Nat) yX5_close ∈ lw_tbl := List.mem_of_getElem? (i := 769) (by decide +kernel)
theorem tb_770 : Cond.instanceMethod yX5_close ∈ lw_tbl := List.mem_of_getElem? (i := 770) (by decide +kernel)
theorem tb_771 : Cond.selects RX5 yX5_close yX5_close ∈ lw_tbl := List.mem_of_getElem? (i := 771) (by decide +kernel)
theorem tb_772 : Cond.code yX5_close prog_7_method_32_code (2 : Nat) (Option.some Jvm.ClassFile.FieldType.int) ∈ lw_tbl := List.mem_of_getElem? (i := 772) (by decide +kernel)
theorem tb_773 : Cond.methodLink RX5 (106 : Nat) yX5_talksIn ∈ lw_tbl := List.mem_of_getElem? (i := 773) (by decide +kernel)
theorem tb_774 : Cond.privateMethod yX5_talksIn ∈ lw_tbl := List.mem_of_getElem? (i := 774) (by decide +kernel)
theorem tb_775 : Cond.instanceMethod yX5_talksIn ∈ lw_tbl := List.mem_of_getElem? (i := 775) (by decide +kernel)
theorem tb_776 : Cond.code yX5_talksIn prog_7_method_31_code (4 : Nat) (Option.some Jvm.ClassFile.FieldType.int) ∈ lw_tbl := List.mem_of_getElem? (i := 776) (by decide +kernel)
theorem tb_777 : Cond.methodLink RX5 (109 : Nat) yX5_openMany ∈ lw_tbl := List.mem_of_getElem? (i := 777) (by decide +kernel)
theorem tb_778 : Cond.privateMethod yX5_openMany ∈ lw_tbl := List.mem_of_getElem? (i := 778) (by decide +kernel)
theorem tb_779 : Cond.instanceMethod yX5_openMany ∈ lw_tbl := List.mem_of_getElem? (i := 779) (by decide +kernel)
theorem tb_780 : Cond.code yX5_openMany prog_7_method_20_code (3 : Nat) (Option.some Jvm.ClassFile.FieldType.int) ∈ lw_tbl := List.mem_of_getElem? (i := 780) (by decide +kernel)
theorem tb_781 : Cond.methodLink RL (40 : Nat) yX5_anew ∈ lw_tbl := List.mem_of_getElem? (i := 781) (by decide +kernel)
theorem tb_782 : Cond.instanceMethod yX5_anew ∈ lw_tbl := List.mem_of_getElem? (i := 782) (by decide +kernel)
theorem tb_783 : Cond.selects RX5 yX5_anew yX5_anew ∈ lw_tbl := List.mem_of_getElem? (i := 783) (by decide +kernel)
theorem tb_784 : Cond.code yX5_anew prog_7_method_36_code (1 : Nat) (Option.some Jvm.ClassFile.FieldType.int) ∈ lw_tbl := List.mem_of_getElem? (i := 784) (by decide +kernel)
theorem tb_785 : Cond.methodLink RX5 (134 : Nat) yX5_priceBy ∈ lw_tbl := List.mem_of_getElem? (i := 785) (by decide +kernel)
theorem tb_786 : Cond.privateMethod yX5_priceBy ∈ lw_tbl := List.mem_of_getElem? (i := 786) (by decide +kernel)
theorem tb_787 : Cond.instanceMethod yX5_priceBy ∈ lw_tbl := List.mem_of_getElem? (i := 787) (by decide +kernel)
theorem tb_788 : Cond.code yX5_priceBy prog_7_method_35_code (3 : Nat) (Option.some Jvm.ClassFile.FieldType.int) ∈ lw_tbl := List.mem_of_getElem? (i := 788) (by decide +kernel)
theorem tb_789 : Cond.methodLink RX5 (128 : Nat) yX5_tellsAnew ∈ lw_tbl := List.mem_of_getElem? (i := 789) (by decide +kernel)
theorem tb_790 : Cond.privateMethod yX5_tellsAnew ∈ lw_tbl := List.mem_of_getElem? (i := 790) (by decide +kernel)
theorem tb_791 : Cond.instanceMethod yX5_tellsAnew ∈ lw_tbl := List.mem_of_getElem? (i := 791) (by decide +kernel)
theorem tb_792 : Cond.code yX5_tellsAnew prog_7_method_34_code (6 : Nat) (Option.some Jvm.ClassFile.FieldType.boolean) ∈ lw_tbl := List.mem_of_getElem? (i := 792) (by decide +kernel)
theorem tb_793 : Cond.methodLink RX5 (113 : Nat) yX5_putAside ∈ lw_tbl := List.mem_of_getElem? (i := 793) (by decide +kernel)
theorem tb_794 : Cond.privateMethod yX5_putAside ∈ lw_tbl := List.mem_of_getElem? (i := 794) (by decide +kernel)
theorem tb_795 : Cond.instanceMethod yX5_putAside ∈ lw_tbl := List.mem_of_getElem? (i := 795) (by decide +kernel)
theorem tb_796 : Cond.code yX5_putAside prog_7_method_10_code (2 : Nat) (Option.none : Option Jvm.ClassFile.FieldType) ∈ lw_tbl := List.mem_of_getElem? (i := 796) (by decide +kernel)
theorem tb_797 : Cond.methodLink RX5 (119 : Nat) yX5_nextTalk ∈ lw_tbl := List.mem_of_getElem? (i := 797) (by decide +kernel)
theorem tb_798 : Cond.privateMethod yX5_nextTalk ∈ lw_tbl := List.mem_of_getElem? (i := 798) (by decide +kernel)
theorem tb_799 : Cond.instanceMethod yX5_nextTalk ∈ lw_tbl := List.mem_of_getElem? (i := 799) (by decide +kernel)
theorem tb_800 : Cond.code yX5_nextTalk prog_7_method_33_code (4 : Nat) (Option.some Jvm.ClassFile.FieldType.int) ∈ lw_tbl := List.mem_of_getElem? (i := 800) (by decide +kernel)
theorem tb_801 : Cond.methodLink RX5 (131 : Nat) yX5_takeBack ∈ lw_tbl := List.mem_of_getElem? (i := 801) (by decide +kernel)
theorem tb_802 : Cond.privateMethod yX5_takeBack ∈ lw_tbl := List.mem_of_getElem? (i := 802) (by decide +kernel)
theorem tb_803 : Cond.instanceMethod yX5_takeBack ∈ lw_tbl := List.mem_of_getElem? (i := 803) (by decide +kernel)
theorem tb_804 : Cond.code yX5_takeBack prog_7_method_11_code (2 : Nat) (Option.none : Option Jvm.ClassFile.FieldType) ∈ lw_tbl := List.mem_of_getElem? (i := 804) (by decide +kernel)
theorem tb_805 : Cond.methodLink RL (44 : Nat) yX5_set ∈ lw_tbl := List.mem_of_getElem? (i := 805) (by decide +kernel)
theorem tb_806 : Cond.instanceMethod yX5_set ∈ lw_tbl := List.mem_of_getElem? (i := 806) (by decide +kernel)
theorem tb_807 : Cond.selects RX5 yX5_set yX5_set ∈ lw_tbl := List.mem_of_getElem? (i := 807) (by decide +kernel)
theorem tb_808 : Cond.code yX5_set prog_7_method_37_code (4 : Nat) (Option.some Jvm.ClassFile.FieldType.int) ∈ lw_tbl := List.mem_of_getElem? (i := 808) (by decide +kernel)
theorem tb_809 : Cond.methodLink RL (48 : Nat) yX5_talkOf ∈ lw_tbl := List.mem_of_getElem? (i := 809) (by decide +kernel)
theorem tb_810 : Cond.instanceMethod yX5_talkOf ∈ lw_tbl := List.mem_of_getElem? (i := 810) (by decide +kernel)
theorem tb_811 : Cond.selects RX5 yX5_talkOf yX5_talkOf ∈ lw_tbl := List.mem_of_getElem? (i := 811) (by decide +kernel)
theorem tb_812 : Cond.code yX5_talkOf prog_7_method_40_code (3 : Nat) (Option.some Jvm.ClassFile.FieldType.int) ∈ lw_tbl := List.mem_of_getElem? (i := 812) (by decide +kernel)
theorem tb_813 : Cond.methodLink RX5 (137 : Nat) yX5_instead ∈ lw_tbl := List.mem_of_getElem? (i := 813) (by decide +kernel)
theorem tb_814 : Cond.privateMethod yX5_instead ∈ lw_tbl := List.mem_of_getElem? (i := 814) (by decide +kernel)
theorem tb_815 : Cond.instanceMethod yX5_instead ∈ lw_tbl := List.mem_of_getElem? (i := 815) (by decide +kernel)
theorem tb_816 : Cond.code yX5_instead prog_7_method_38_code (4 : Nat) (Option.some Jvm.ClassFile.FieldType.int) ∈ lw_tbl := List.mem_of_getElem? (i := 816) (by decide +kernel)
theorem tb_817 : Cond.methodLink RX5 (140 : Nat) yX5_beside ∈ lw_tbl := List.mem_of_getElem? (i := 817) (by decide +kernel)
theorem tb_818 : Cond.privateMethod yX5_beside ∈ lw_tbl := List.mem_of_getElem? (i := 818) (by decide +kernel)
theorem tb_819 : Cond.instanceMethod yX5_beside ∈ lw_tbl := List.mem_of_getElem? (i := 819) (by decide +kernel)
theorem tb_820 : Cond.code yX5_beside prog_7_method_39_code (5 : Nat) (Option.some Jvm.ClassFile.FieldType.int) ∈ lw_tbl := List.mem_of_getElem? (i := 820) (by decide +kernel)
theorem tb_821 : Cond.methodLink RL (52 : Nat) yX5_roomOf ∈ lw_tbl := List.mem_of_getElem? (i := 821) (by decide +kernel)
theorem tb_822 : Cond.instanceMethod yX5_roomOf ∈ lw_tbl := List.mem_of_getElem? (i := 822) (by decide +kernel)
theorem tb_823 : Cond.selects RX5 yX5_roomOf yX5_roomOf ∈ lw_tbl := List.mem_of_getElem? (i := 823) (by decide +kernel)
theorem tb_824 : Cond.code yX5_roomOf prog_7_method_43_code (3 : Nat) (Option.some Jvm.ClassFile.FieldType.int) ∈ lw_tbl := List.mem_of_getElem? (i := 824) (by decide +kernel)
theorem tb_825 : Cond.methodLink RX5 (146 : Nat) yX5_ones ∈ lw_tbl := List.mem_of_getElem? (i := 825) (by decide +kernel)
theorem tb_826 : Cond.static yX5_ones ∈ lw_tbl := List.mem_of_getElem? (i := 826) (by decide +kernel)
theorem tb_827 : Cond.code yX5_ones prog_7_method_41_code (3 : Nat) (Option.some Jvm.ClassFile.FieldType.int) ∈ lw_tbl := List.mem_of_getElem? (i := 827) (by decide +kernel)
theorem tb_828 : Cond.methodLink RX5 (149 : Nat) yX5_longestFree ∈ lw_tbl := List.mem_of_getElem? (i := 828) (by decide +kernel)
theorem tb_829 : Cond.privateMethod yX5_longestFree ∈ lw_tbl := List.mem_of_getElem? (i := 829) (by decide +kernel)
theorem tb_830 : Cond.instanceMethod yX5_longestFree ∈ lw_tbl := List.mem_of_getElem? (i := 830) (by decide +kernel)
theorem tb_831 : Cond.code yX5_longestFree prog_7_method_42_code (5 : Nat) (Option.some Jvm.ClassFile.FieldType.int) ∈ lw_tbl := List.mem_of_getElem? (i := 831) (by decide +kernel)
theorem tb_832 : Cond.methodLink RX5 (143 : Nat) yX5_talkAt ∈ lw_tbl := List.mem_of_getElem? (i := 832) (by decide +kernel)
theorem tb_833 : Cond.privateMethod yX5_talkAt ∈ lw_tbl := List.mem_of_getElem? (i := 833) (by decide +kernel)
theorem tb_834 : Cond.instanceMethod yX5_talkAt ∈ lw_tbl := List.mem_of_getElem? (i := 834) (by decide +kernel)
theorem tb_835 : Cond.code yX5_talkAt prog_7_method_12_code (4 : Nat) (Option.some Jvm.ClassFile.FieldType.int) ∈ lw_tbl := List.mem_of_getElem? (i := 835) (by decide +kernel)
theorem tb_836 : Cond.constant RX5 (44 : Nat) (-1000004 : Int32) ∈ lw_tbl := List.mem_of_getElem? (i := 836) (by decide +kernel)
theorem tb_837 : Cond.methodLink RL (56 : Nat) yX5_at ∈ lw_tbl := List.mem_of_getElem? (i := 837) (by decide +kernel)
theorem tb_838 : Cond.instanceMethod yX5_at ∈ lw_tbl := List.mem_of_getElem? (i := 838) (by decide +kernel)
theorem tb_839 : Cond.selects RX5 yX5_at yX5_at ∈ lw_tbl := List.mem_of_getElem? (i := 839) (by decide +kernel)
theorem tb_840 : Cond.code yX5_at prog_7_method_44_code (3 : Nat) (Option.some Jvm.ClassFile.FieldType.int) ∈ lw_tbl := List.mem_of_getElem? (i := 840) (by decide +kernel)
theorem tb_841 : Cond.methodLink RL (60 : Nat) yX5_hourOf ∈ lw_tbl := List.mem_of_getElem? (i := 841) (by decide +kernel)
theorem tb_842 : Cond.instanceMethod yX5_hourOf ∈ lw_tbl := List.mem_of_getElem? (i := 842) (by decide +kernel)
theorem tb_843 : Cond.selects RX5 yX5_hourOf yX5_hourOf ∈ lw_tbl := List.mem_of_getElem? (i := 843) (by decide +kernel)
theorem tb_844 : Cond.code yX5_hourOf prog_7_method_47_code (3 : Nat) (Option.some Jvm.ClassFile.FieldType.int) ∈ lw_tbl := List.mem_of_getElem? (i := 844) (by decide +kernel)
theorem tb_845 : Cond.methodLink RX5 (152 : Nat) yX5_talksAt ∈ lw_tbl := List.mem_of_getElem? (i := 845) (by decide +kernel)
theorem tb_846 : Cond.privateMethod yX5_talksAt ∈ lw_tbl := List.mem_of_getElem? (i := 846) (by decide +kernel)
theorem tb_847 : Cond.instanceMethod yX5_talksAt ∈ lw_tbl := List.mem_of_getElem? (i := 847) (by decide +kernel)
theorem tb_848 : Cond.code yX5_talksAt prog_7_method_45_code (4 : Nat) (Option.some Jvm.ClassFile.FieldType.int) ∈ lw_tbl := List.mem_of_getElem? (i := 848) (by decide +kernel)
theorem tb_849 : Cond.methodLink RX5 (155 : Nat) yX5_freeAt ∈ lw_tbl := List.mem_of_getElem? (i := 849) (by decide +kernel)
theorem tb_850 : Cond.privateMethod yX5_freeAt ∈ lw_tbl := List.mem_of_getElem? (i := 850) (by decide +kernel)
theorem tb_851 : Cond.instanceMethod yX5_freeAt ∈ lw_tbl := List.mem_of_getElem? (i := 851) (by decide +kernel)
theorem tb_852 : Cond.code yX5_freeAt prog_7_method_46_code (4 : Nat) (Option.some Jvm.ClassFile.FieldType.int) ∈ lw_tbl := List.mem_of_getElem? (i := 852) (by decide +kernel)
theorem tb_853 : Cond.methodLink RL (65 : Nat) yX5_would ∈ lw_tbl := List.mem_of_getElem? (i := 853) (by decide +kernel)
theorem tb_854 : Cond.instanceMethod yX5_would ∈ lw_tbl := List.mem_of_getElem? (i := 854) (by decide +kernel)
theorem tb_855 : Cond.selects RX5 yX5_would yX5_would ∈ lw_tbl := List.mem_of_getElem? (i := 855) (by decide +kernel)
theorem tb_856 : Cond.code yX5_would prog_7_method_48_code (6 : Nat) (Option.some Jvm.ClassFile.FieldType.int) ∈ lw_tbl := List.mem_of_getElem? (i := 856) (by decide +kernel)
theorem tb_857 : Cond.methodLink RL (69 : Nat) yX5_known ∈ lw_tbl := List.mem_of_getElem? (i := 857) (by decide +kernel)
theorem tb_858 : Cond.instanceMethod yX5_known ∈ lw_tbl := List.mem_of_getElem? (i := 858) (by decide +kernel)
theorem tb_859 : Cond.selects RX5 yX5_known yX5_known ∈ lw_tbl := List.mem_of_getElem? (i := 859) (by decide +kernel)
theorem tb_860 : Cond.code yX5_known prog_7_method_49_code (4 : Nat) (Option.some Jvm.ClassFile.FieldType.int) ∈ lw_tbl := List.mem_of_getElem? (i := 860) (by decide +kernel)
theorem tb_861 : Cond.methodLink RL (73 : Nat) yX5_unknowing ∈ lw_tbl := List.mem_of_getElem? (i := 861) (by decide +kernel)
theorem tb_862 : Cond.instanceMethod yX5_unknowing ∈ lw_tbl := List.mem_of_getElem? (i := 862) (by decide +kernel)
theorem tb_863 : Cond.selects RX5 yX5_unknowing yX5_unknowing ∈ lw_tbl := List.mem_of_getElem? (i := 863) (by decide +kernel)
theorem tb_864 : Cond.code yX5_unknowing prog_7_method_50_code (2 : Nat) (Option.some Jvm.ClassFile.FieldType.int) ∈ lw_tbl := List.mem_of_getElem? (i := 864) (by decide +kernel)
theorem tb_865 : Cond.methodLink RL (77 : Nat) yX5_share ∈ lw_tbl := List.mem_of_getElem? (i := 865) (by decide +kernel)
theorem tb_866 : Cond.instanceMethod yX5_share ∈ lw_tbl := List.mem_of_getElem? (i := 866) (by decide +kernel)
theorem tb_867 : Cond.selects RX5 yX5_share yX5_share ∈ lw_tbl := List.mem_of_getElem? (i := 867) (by decide +kernel)
theorem tb_868 : Cond.code yX5_share prog_7_method_52_code (2 : Nat) (Option.some Jvm.ClassFile.FieldType.int) ∈ lw_tbl := List.mem_of_getElem? (i := 868) (by decide +kernel)
theorem tb_869 : Cond.methodLink RX5 (158 : Nat) yX5_talks ∈ lw_tbl := List.mem_of_getElem? (i := 869) (by decide +kernel)
theorem tb_870 : Cond.privateMethod yX5_talks ∈ lw_tbl := List.mem_of_getElem? (i := 870) (by decide +kernel)
theorem tb_871 : Cond.instanceMethod yX5_talks ∈ lw_tbl := List.mem_of_getElem? (i := 871) (by decide +kernel)
theorem tb_872 : Cond.code yX5_talks prog_7_method_51_code (3 : Nat) (Option.some Jvm.ClassFile.FieldType.int) ∈ lw_tbl := List.mem_of_getElem? (i := 872) (by decide +kernel)
theorem tb_873 : Cond.methodLink RX5 (161 : Nat) yJxf58ca_floatToIntBits_5c35a ∈ lw_tbl := List.mem_of_getElem? (i := 873) (by decide +kernel)
theorem tb_874 : Cond.static yJxf58ca_floatToIntBits_5c35a ∈ lw_tbl := List.mem_of_getElem? (i := 874) (by decide +kernel)
theorem tb_875 : Cond.code yJxf58ca_floatToIntBits_5c35a prog_8_method_24_code (1 : Nat) (Option.some Jvm.ClassFile.FieldType.int) ∈ lw_tbl := List.mem_of_getElem? (i := 875) (by decide +kernel)
theorem tb_876 : Cond.methodLink RJxf58ca (59 : Nat) yJxf58ca_isNaN_12338 ∈ lw_tbl := List.mem_of_getElem? (i := 876) (by decide +kernel)
theorem tb_877 : Cond.static yJxf58ca_isNaN_12338 ∈ lw_tbl := List.mem_of_getElem? (i := 877) (by decide +kernel)
theorem tb_878 : Cond.code yJxf58ca_isNaN_12338 prog_8_method_6_code (1 : Nat) (Option.some Jvm.ClassFile.FieldType.boolean) ∈ lw_tbl := List.mem_of_getElem? (i := 878) (by decide +kernel)
theorem tb_879 : Cond.methodLink RJxf58ca (74 : Nat) ⟨"java/lang/Float", "floatToRawIntBits", "(F)I"⟩ ∈ lw_tbl := List.mem_of_getElem? (i := 879) (by decide +kernel)
theorem tb_880 : Cond.static ⟨"java/lang/Float", "floatToRawIntBits", "(F)I"⟩ ∈ lw_tbl := List.mem_of_getElem? (i := 880) (by decide +kernel)
theorem tb_881 : Cond.native ⟨"java/lang/Float", "floatToRawIntBits", "(F)I"⟩ ∈ lw_tbl := List.mem_of_getElem? (i := 881) (by decide +kernel)
theorem tb_882 : Cond.constant RJxf58ca (77 : Nat) (2143289344 : Int32) ∈ lw_tbl := List.mem_of_getElem? (i := 882) (by decide +kernel)
theorem tb_883 : Cond.methodLink RL (81 : Nat) yX5_bestRule ∈ lw_tbl := List.mem_of_getElem? (i := 883) (by decide +kernel)
theorem tb_884 : Cond.instanceMethod yX5_bestRule ∈ lw_tbl := List.mem_of_getElem? (i := 884) (by decide +kernel)
theorem tb_885 : Cond.selects RX5 yX5_bestRule yX5_bestRule ∈ lw_tbl := List.mem_of_getElem? (i := 885) (by decide +kernel)
theorem tb_886 : Cond.code yX5_bestRule prog_7_method_53_code (6 : Nat) (Option.some Jvm.ClassFile.FieldType.int) ∈ lw_tbl := List.mem_of_getElem? (i := 886) (by decide +kernel)
theorem tb_887 : Cond.methodLink RL (85 : Nat) yX5_emptied ∈ lw_tbl := List.mem_of_getElem? (i := 887) (by decide +kernel)
theorem tb_888 : Cond.instanceMethod yX5_emptied ∈ lw_tbl := List.mem_of_getElem? (i := 888) (by decide +kernel)
theorem tb_889 : Cond.selects RX5 yX5_emptied yX5_emptied ∈ lw_tbl := List.mem_of_getElem? (i := 889) (by decide +kernel)
theorem tb_890 : Cond.code yX5_emptied prog_7_method_56_code (5 : Nat) (Option.some Jvm.ClassFile.FieldType.int) ∈ lw_tbl := List.mem_of_getElem? (i := 890) (by decide +kernel)
theorem tb_891 : Cond.methodLink RX5 (170 : Nat) yX5_empties ∈ lw_tbl := List.mem_of_getElem? (i := 891) (by decide +kernel)
theorem tb_892 : Cond.privateMethod yX5_empties ∈ lw_tbl := List.mem_of_getElem? (i := 892) (by decide +kernel)
theorem tb_893 : Cond.instanceMethod yX5_empties ∈ lw_tbl := List.mem_of_getElem? (i := 893) (by decide +kernel)
theorem tb_894 : Cond.code yX5_empties prog_7_method_54_code (5 : Nat) (Option.some Jvm.ClassFile.FieldType.boolean) ∈ lw_tbl := List.mem_of_getElem? (i := 894) (by decide +kernel)
theorem tb_895 : Cond.methodLink RX5 (167 : Nat) yX5_lowestFor ∈ lw_tbl := List.mem_of_getElem? (i := 895) (by decide +kernel)
theorem tb_896 : Cond.privateMethod yX5_lowestFor ∈ lw_tbl := List.mem_of_getElem? (i := 896) (by decide +kernel)
theorem tb_897 : Cond.instanceMethod yX5_lowestFor ∈ lw_tbl := List.mem_of_getElem? (i := 897) (by decide +kernel)
theorem tb_898 : Cond.code yX5_lowestFor prog_7_method_55_code (3 : Nat) (Option.some Jvm.ClassFile.FieldType.int) ∈ lw_tbl := List.mem_of_getElem? (i := 898) (by decide +kernel)
theorem tb_899 : Cond.methodLink RL (89 : Nat) yX5_count ∈ lw_tbl := List.mem_of_getElem? (i := 899) (by decide +kernel)
theorem tb_900 : Cond.instanceMethod yX5_count ∈ lw_tbl := List.mem_of_getElem? (i := 900) (by decide +kernel)
theorem tb_901 : Cond.selects RX5 yX5_count yX5_count ∈ lw_tbl := List.mem_of_getElem? (i := 901) (by decide +kernel)
theorem tb_902 : Cond.code yX5_count prog_7_method_59_code (2 : Nat) (Option.some Jvm.ClassFile.FieldType.int) ∈ lw_tbl := List.mem_of_getElem? (i := 902) (by decide +kernel)
theorem tb_903 : Cond.methodLink RX5 (173 : Nat) yX5_fewest ∈ lw_tbl := List.mem_of_getElem? (i := 903) (by decide +kernel)
theorem tb_904 : Cond.privateMethod yX5_fewest ∈ lw_tbl := List.mem_of_getElem? (i := 904) (by decide +kernel)
theorem tb_905 : Cond.instanceMethod yX5_fewest ∈ lw_tbl := List.mem_of_getElem? (i := 905) (by decide +kernel)
theorem tb_906 : Cond.code yX5_fewest prog_7_method_57_code (3 : Nat) (Option.some Jvm.ClassFile.FieldType.int) ∈ lw_tbl := List.mem_of_getElem? (i := 906) (by decide +kernel)
theorem tb_907 : Cond.methodLink RX5 (176 : Nat) yX5_hoursTaken ∈ lw_tbl := List.mem_of_getElem? (i := 907) (by decide +kernel)
theorem tb_908 : Cond.privateMethod yX5_hoursTaken ∈ lw_tbl := List.mem_of_getElem? (i := 908) (by decide +kernel)
theorem tb_909 : Cond.instanceMethod yX5_hoursTaken ∈ lw_tbl := List.mem_of_getElem? (i := 909) (by decide +kernel)
theorem tb_910 : Cond.code yX5_hoursTaken prog_7_method_58_code (3 : Nat) (Option.some Jvm.ClassFile.FieldType.int) ∈ lw_tbl := List.mem_of_getElem? (i := 910) (by decide +kernel)
theorem tb_911 : Cond.methodLink RL (93 : Nat) yX5_undo ∈ lw_tbl := List.mem_of_getElem? (i := 911) (by decide +kernel)
theorem tb_912 : Cond.instanceMethod yX5_undo ∈ lw_tbl := List.mem_of_getElem? (i := 912) (by decide +kernel)
theorem tb_913 : Cond.selects RX5 yX5_undo yX5_undo ∈ lw_tbl := List.mem_of_getElem? (i := 913) (by decide +kernel)
theorem tb_914 : Cond.code yX5_undo prog_7_method_60_code (2 : Nat) (Option.some Jvm.ClassFile.FieldType.int) ∈ lw_tbl := List.mem_of_getElem? (i := 914) (by decide +kernel)
theorem tb_915 : Cond.methodLink RL (97 : Nat) yX5_type ∈ lw_tbl := List.mem_of_getElem? (i := 915) (by decide +kernel)
theorem tb_916 : Cond.instanceMethod yX5_type ∈ lw_tbl := List.mem_of_getElem? (i := 916) (by decide +kernel)
theorem tb_917 : Cond.selects RX5 yX5_type yX5_type ∈ lw_tbl := List.mem_of_getElem? (i := 917) (by decide +kernel)
theorem tb_918 : Cond.code yX5_type prog_7_method_61_code (2 : Nat) (Option.some Jvm.ClassFile.FieldType.int) ∈ lw_tbl := List.mem_of_getElem? (i := 918) (by decide +kernel)
theorem tb_919 : Cond.methodLink RL (101 : Nat) yX5_clearText ∈ lw_tbl := List.mem_of_getElem? (i := 919) (by decide +kernel)
theorem tb_920 : Cond.instanceMethod yX5_clearText ∈ lw_tbl := List.mem_of_getElem? (i := 920) (by decide +kernel)
theorem tb_921 : Cond.selects RX5 yX5_clearText yX5_clearText ∈ lw_tbl := List.mem_of_getElem? (i := 921) (by decide +kernel)
theorem tb_922 : Cond.code yX5_clearText prog_7_method_62_code (2 : Nat) (Option.some Jvm.ClassFile.FieldType.int) ∈ lw_tbl := List.mem_of_getElem? (i := 922) (by decide +kernel)
theorem tb_923 : Cond.methodLink RL (105 : Nat) yX5_fault ∈ lw_tbl := List.mem_of_getElem? (i := 923) (by decide +kernel)
theorem tb_924 : Cond.instanceMethod yX5_fault ∈ lw_tbl := List.mem_of_getElem? (i := 924) (by decide +kernel)
theorem tb_925 : Cond.selects RX5 yX5_fault yX5_fault ∈ lw_tbl := List.mem_of_getElem? (i := 925) (by decide +kernel)
theorem tb_926 : Cond.code yX5_fault prog_7_method_69_code (3 : Nat) (Option.some Jvm.ClassFile.FieldType.int) ∈ lw_tbl := List.mem_of_getElem? (i := 926) (by decide +kernel)
theorem tb_927 : Cond.methodLink RX5 (216 : Nat) yX5_reads ∈ lw_tbl := List.mem_of_getElem? (i := 927) (by decide +kernel)
theorem tb_928 : Cond.privateMethod yX5_reads ∈ lw_tbl := List.mem_of_getElem? (i := 928) (by decide +kernel)
theorem tb_929 : Cond.instanceMethod yX5_reads ∈ lw_tbl := List.mem_of_getElem? (i := 929) (by decide +kernel)
theorem tb_930 : Cond.code yX5_reads prog_7_method_68_code (2 : Nat) (Option.some Jvm.ClassFile.FieldType.int) ∈ lw_tbl := List.mem_of_getElem? (i := 930) (by decide +kernel)
theorem tb_931 : Cond.methodLink RX5 (210 : Nat) yX5_order ∈ lw_tbl := List.mem_of_getElem? (i := 931) (by decide +kernel)
theorem tb_932 : Cond.privateMethod yX5_order ∈ lw_tbl := List.mem_of_getElem? (i := 932) (by decide +kernel)
theorem tb_933 : Cond.instanceMethod yX5_order ∈ lw_tbl := List.mem_of_getElem? (i := 933) (by decide +kernel)
theorem tb_934 : Cond.code yX5_order prog_7_method_66_code (5 : Nat) (Option.some Jvm.ClassFile.FieldType.int) ∈ lw_tbl := List.mem_of_getElem? (i := 934) (by decide +kernel)
theorem tb_935 : Cond.methodLink RX5 (189 : Nat) yX5_sign ∈ lw_tbl := List.mem_of_getElem? (i := 935) (by decide +kernel)
theorem tb_936 : Cond.privateMethod yX5_sign ∈ lw_tbl := List.mem_of_getElem? (i := 936) (by decide +kernel)
theorem tb_937 : Cond.instanceMethod yX5_sign ∈ lw_tbl := List.mem_of_getElem? (i := 937) (by decide +kernel)
theorem tb_938 : Cond.code yX5_sign prog_7_method_63_code (1 : Nat) (Option.some Jvm.ClassFile.FieldType.int) ∈ lw_tbl := List.mem_of_getElem? (i := 938) (by decide +kernel)
theorem tb_939 : Cond.methodLink RX5 (192 : Nat) yX5_number ∈ lw_tbl := List.mem_of_getElem? (i := 939) (by decide +kernel)
theorem tb_940 : Cond.privateMethod yX5_number ∈ lw_tbl := List.mem_of_getElem? (i := 940) (by decide +kernel)
theorem tb_941 : Cond.instanceMethod yX5_number ∈ lw_tbl := List.mem_of_getElem? (i := 941) (by decide +kernel)
theorem tb_942 : Cond.code yX5_number prog_7_method_65_code (2 : Nat) (Option.some Jvm.ClassFile.FieldType.int) ∈ lw_tbl := List.mem_of_getElem? (i := 942) (by decide +kernel)
theorem tb_943 : Cond.methodLink RX5 (195 : Nat) yX5_wants ∈ lw_tbl := List.mem_of_getElem? (i := 943) (by decide +kernel)
theorem tb_944 : Cond.privateMethod yX5_wants ∈ lw_tbl := List.mem_of_getElem? (i := 944) (by decide +kernel)
theorem tb_945 : Cond.instanceMethod yX5_wants ∈ lw_tbl := List.mem_of_getElem? (i := 945) (by decide +kernel)
theorem tb_946 : Cond.code yX5_wants prog_7_method_64_code (2 : Nat) (Option.none : Option Jvm.ClassFile.FieldType) ∈ lw_tbl := List.mem_of_getElem? (i := 946) (by decide +kernel)
theorem tb_947 : Cond.methodLink RX5 (198 : Nat) yX5_does ∈ lw_tbl := List.mem_of_getElem? (i := 947) (by decide +kernel)
theorem tb_948 : Cond.privateMethod yX5_does ∈ lw_tbl := List.mem_of_getElem? (i := 948) (by decide +kernel)
theorem tb_949 : Cond.instanceMethod yX5_does ∈ lw_tbl := List.mem_of_getElem? (i := 949) (by decide +kernel)
theorem tb_950 : Cond.code yX5_does prog_7_method_67_code (6 : Nat) (Option.some Jvm.ClassFile.FieldType.int) ∈ lw_tbl := List.mem_of_getElem? (i := 950) (by decide +kernel)
theorem tb_951 : Cond.methodLink RL (109 : Nat) yX5_play ∈ lw_tbl := List.mem_of_getElem? (i := 951) (by decide +kernel)
theorem tb_952 : Cond.instanceMethod yX5_play ∈ lw_tbl := List.mem_of_getElem? (i := 952) (by decide +kernel)
theorem tb_953 : Cond.selects RX5 yX5_play yX5_play ∈ lw_tbl := List.mem_of_getElem? (i := 953) (by decide +kernel)
theorem tb_954 : Cond.code yX5_play prog_7_method_70_code (2 : Nat) (Option.some Jvm.ClassFile.FieldType.int) ∈ lw_tbl := List.mem_of_getElem? (i := 954) (by decide +kernel)
end
section
/-! numbers, words, contracts -/
def iI (z : Int) : Int32 := Int32.ofInt z
theorem iI_add (a b : Int) : iI a + iI b = iI (a + b) := (Int32.ofInt_add a b).symm
theorem iI_sub (a b : Int) : iI a - iI b = iI (a - b) := (Int32.ofInt_sub a b).symm
theorem iI_mul (a b : Int) : iI a * iI b = iI (a * b) := (Int32.ofInt_mul a b).symm
theorem iI_neg (a : Int) : -iI a = iI (-a) := (Int32.ofInt_neg a).symm
theorem iI_toInt {a : Int} (h : -2147483648 ≤ a ∧ a ≤ 2147483647) : (iI a).toInt = a := by
  unfold iI
  rw [Int32.toInt_ofInt]
  apply Int.bmod_eq_of_le
  · have := h.1; simpa using this
  · have := h.2; simp only [Int32.size]; omega
theorem iI_lt {a b : Int} (ha : -2147483648 ≤ a ∧ a ≤ 2147483647) (hb : -2147483648 ≤ b ∧ b ≤ 2147483647) : iI a < iI b ↔ a < b := by
  rw [Int32.lt_iff_toInt_lt, iI_toInt ha, iI_toInt hb]
theorem iI_le {a b : Int} (ha : -2147483648 ≤ a ∧ a ≤ 2147483647) (hb : -2147483648 ≤ b ∧ b ≤ 2147483647) : iI a ≤ iI b ↔ a ≤ b := by
  rw [Int32.le_iff_toInt_le, iI_toInt ha, iI_toInt hb]
theorem iI_eq {a b : Int} (ha : -2147483648 ≤ a ∧ a ≤ 2147483647) (hb : -2147483648 ≤ b ∧ b ≤ 2147483647) : iI a = iI b ↔ a = b := by
  constructor
  · intro h
    have h2 := congrArg Int32.toInt h
    rwa [iI_toInt ha, iI_toInt hb] at h2
  · intro h; rw [h]
theorem iI_clamp {a : Int} (h0 : 0 ≤ a) (h1 : a ≤ 2147483647) : (iI a).toNatClampNeg = a.toNat := by
  show (iI a).toInt.toNat = a.toNat
  rw [iI_toInt ⟨by omega, h1⟩]
theorem iI_in {a : Int} {n : Nat} (h0 : 0 ≤ a) (h1 : a < n) (hn : n < 2 ^ 31) : vp_in (iI a) n := by
  rw [vp_in_iff, iI_toInt ⟨by omega, by omega⟩]
  exact ⟨h0, h1⟩
theorem iI_nat (n : Nat) : iI (n : Int) = nI n := Int32.ofInt_eq_ofNat
noncomputable def b2p (P : Prop) : Int := @ite Int P (Classical.propDecidable P) 1 0
theorem b2p_t {P : Prop} (h : P) : b2p P = 1 := if_pos h
theorem b2p_f {P : Prop} (h : ¬ P) : b2p P = 0 := if_neg h
theorem b2p_rg (P : Prop) : -2147483648 ≤ b2p P ∧ b2p P ≤ 2147483647 := by
  by_cases h : P
  · rw [b2p_t h]; omega
  · rw [b2p_f h]; omega
theorem b2p_01 (P : Prop) : 0 ≤ b2p P ∧ b2p P ≤ 1 := by
  by_cases h : P
  · rw [b2p_t h]; omega
  · rw [b2p_f h]; omega
theorem b2p_0 {P : Prop} : b2p P = 0 ↔ ¬ P := by
  by_cases h : P
  · rw [b2p_t h]; simp [h]
  · rw [b2p_f h]; simp [h]
theorem b2p_1 {P : Prop} : b2p P = 1 ↔ P := by
  by_cases h : P
  · rw [b2p_t h]; simp [h]
  · rw [b2p_f h]; simp [h]
theorem b2p_c {P Q : Prop} (h : P ↔ Q) : b2p P = b2p Q := by rw [propext h]
noncomputable def iif {α : Type} (P : Prop) (a b : α) : α := @ite α P (Classical.propDecidable P) a b
theorem iif_t {α : Type} {P : Prop} {a b : α} (h : P) : iif P a b = a := if_pos h
theorem iif_f {α : Type} {P : Prop} {a b : α} (h : ¬ P) : iif P a b = b := if_neg h
def u1 {α : Type} (f : Int → α) (i : Int) (v : α) : Int → α := fun j => if j = i then v else f j
theorem u1_s {α : Type} {f : Int → α} {i : Int} {v : α} : u1 f i v i = v := if_pos rfl
theorem u1_n {α : Type} {f : Int → α} {i j : Int} {v : α} (h : ¬ j = i) : u1 f i v j = f j := if_neg h
theorem upd_iI (g : Int → Int) (i v : Int) (h0 : 0 ≤ i) (h1 : i ≤ 2147483647) : upd (fun j : Nat => iI (g j)) (iI i).toNatClampNeg (iI v) = fun j : Nat => iI (u1 g i v j) := by
  funext j
  rw [iI_clamp h0 h1]
  unfold upd u1
  by_cases h : j = i.toNat
  · rw [if_pos h, if_pos (by omega)]
  · rw [if_neg h, if_neg (by omega)]
/-- the tables' words that a callee may rely on -/
def TB : List Cond := lw_tbl.filter goodWord
theorem tb_in {w : Cond} (h : w ∈ lw_tbl) (hg : goodWord w = true) : w ∈ TB := List.mem_filter.mpr ⟨h, hg⟩
theorem tb_gi {y : MethodName} {bytes : ByteArray} {maxL : Nat} {ret : Option FieldType} (h : Cond.code y bytes maxL ret ∈ lw_tbl) : GoodIn TB (Cond.code y bytes maxL ret :: TB) := by
  intro w hw
  rcases List.mem_cons.mp hw with rfl | hw
  · have h2 := tb_in h rfl
    exact ⟨h2, good_of_word rfl⟩
  · exact ⟨hw, good_of_word (List.mem_filter.mp hw).2⟩
/-- links of a nest mate's private methods, which no word list may hold -/
def NWl : List (String × Nat × MethodName × String) := [(RX4, 21, yX1_init, "OnlineRooms"), (RX4, 28, yX3_init, "OnlineRooms"), (RX3, 17, yX2_init, "OnlineRooms"), (RX0, 59, yX4_isTalk, "OnlineRooms"), (RX0, 68, yX4_isRoom, "OnlineRooms"), (RX0, 89, yX4_isSize, "OnlineRooms"), (RX0, 99, yX4_isRule, "OnlineRooms")]
def NW (U : State) : Prop := ∀ q ∈ NWl, va_Nw (.methodLinkNest q.1 q.2.1 q.2.2.1 q.2.2.2) U
theorem NW_warm {s U : State} (hW : s.WarmedH U.vm) (h : NW s) : NW U := fun q hq => va_Nw.warmM hW (h q hq)
theorem NW_same {u U : State} (hv : u.vm = U.vm) (h : NW u) : NW U := fun q hq => va_Nw.same rfl hv (h q hq)
abbrev tyA (cs : Nat → ClassId) : List (ClassId × FieldType) := [(cs 0, .int), (cs 1, .long), (cs 2, .char), (cs 3, .boolean), (cs 4, .object "OnlineRooms$Board")]
def KK (D : va_G) (cs : Nat → ClassId) (U : State) : Prop := va_K D vwCl (tyA cs) U ∧ NW U ∧ va_AO "OnlineRooms$Board" U
theorem KK_warm {D : va_G} {cs : Nat → ClassId} {s U : State} (hW : s.WarmedH U.vm) (h : KK D cs s) : KK D cs U := ⟨va_K.moved hW.alike h.1, NW_warm hW h.2.1, va_AO.moved hW.alike h.2.2⟩
theorem KK_same {D : va_G} {cs : Nat → ClassId} {u U : State} (ha : u.vm.Alike U.vm) (hv : u.vm = U.vm) (h : KK D cs u) : KK D cs U := ⟨va_K.moved ha h.1, NW_same hv h.2.1, va_AO.moved ha h.2.2⟩
def Cx (p : Program) (s : State) (m : MethodId) (args : Array Value) (c : Code) (cc : ByteArray) (nL : Nat) (own : String) (D : va_G) (cs : Nat → ClassId) : Prop :=
  p.tables.exec = Jvm.exec ∧ c.code = cc ∧ c.maxLocals = nL ∧ s.vm.findClass own = some m.cls ∧ (∀ w ∈ TB, w.before args s = true) ∧ KK D cs s
def PreW (D : va_G) (cs : Nat → ClassId) (wc : va_W) (sz : Nat) : State → Prop := fun U => U.heap.size = sz ∧ va_P D vwCl wc U.heap ∧ KK D cs U ∧ va_D (fun _ => True) wc
theorem PreW_blind {D : va_G} {cs : Nat → ClassId} {wc : va_W} {sz : Nat} {av : List Value} : FrameBlind (va_Pc av (PreW D cs wc sz)) := by
  intro a U g mk q
  obtain ⟨q0, q1, qP, qK, qD⟩ := q
  exact ⟨q0, q1, qP, KK_same (u := U) (U := U.calling g mk a) (Vm.Alike.refl U.vm) rfl qK, qD⟩
/-- a contract: the answer is a number, the cells are w1 then -/
def CI (l : Launch) (D : va_G) (cs : Nat → ClassId) (y : MethodName) (bytes : ByteArray) (maxL : Nat) (ret : FieldType) (rm : Room) (mc ms : Nat) (av : List Value) (wc w1 : va_W) (val : Int32) : Prop :=
  ∀ sz : Nat, Met l y (.code y bytes maxL (some ret) :: TB) rm (va_Pc av (PreW D cs wc sz)) (va_Qi (fun (r : Int32) (_ : Unit) => r = val) (fun _ t => va_P D vwCl w1 t.heap ∧ va_D (va_A wc sz) w1) (va_A wc sz)) mc ms (va_A wc sz)
def CV (l : Launch) (D : va_G) (cs : Nat → ClassId) (y : MethodName) (bytes : ByteArray) (maxL : Nat) (rm : Room) (mc ms : Nat) (av : List Value) (wc w1 : va_W) : Prop :=
  ∀ sz : Nat, Met l y (.code y bytes maxL none :: TB) rm (va_Pc av (PreW D cs wc sz)) (va_Qv (fun (_ : Unit) => True) (fun _ t => va_P D vwCl w1 t.heap ∧ va_D (va_A wc sz) w1) (va_A wc sz)) mc ms (va_A wc sz)
def CL (l : Launch) (D : va_G) (cs : Nat → ClassId) (y : MethodName) (bytes : ByteArray) (maxL : Nat) (rm : Room) (mc ms : Nat) (av : List Value) (wc w1 : va_W) (val : Int64) : Prop :=
  ∀ sz : Nat, Met l y (.code y bytes maxL (some .long) :: TB) rm (va_Pc av (PreW D cs wc sz)) (va_Ql (fun (r : Int64) (_ : Unit) => r = val) (fun _ t => va_P D vwCl w1 t.heap ∧ va_D (va_A wc sz) w1) (va_A wc sz)) mc ms (va_A wc sz)
theorem CI_start {l : Launch} {D : va_G} {cs : Nat → ClassId} {y : MethodName} {bytes : ByteArray} {maxL : Nat} {ret : FieldType} {rm : Room} {mc ms : Nat} {av : List Value} {wc w1 : va_W} {val : Int32} {own : String}
    (hy : plainName y.cls = true) (ho : y.cls = own) (hret : narrow ret (.int val) = .int val) (hal : (lg_sl av).length ≤ maxL)
    (body : ∀ (p : Program) (e : Env) (s : State) (m : MethodId) (args : Array Value) (below : List Frame) (meth : Method) (c : Code) (Q : State → Prop) (A : Nat → Prop) (ls : Array Slot), Cx p s m args c bytes maxL own D cs → lv_has ls maxL (lv_args 0 av) → va_P D vwCl wc s.heap → va_D A wc → (∀ q, s.heap.size ≤ q → A q) → va_S A s.heap s.heap [] →
      (∀ (H : Heap) (locs : List Loc) (pc : Nat) (ls' : Array Slot), va_P D vwCl w1 H → va_D A w1 → va_S A s.heap H locs → decode bytes pc = .ok (.ireturn, 1) → W p l e rm s m args below meth c H locs mc ms Q (F0 m pc ls' [.int val])) → W p l e rm s m args below meth c s.heap [] 0 0 Q (F0 m 0 ls [])) : CI l D cs y bytes maxL ret rm mc ms av wc w1 val := by
  intro sz
  refine Met.ofW (cc := bytes) (maxL := maxL) (ret := some ret) hy rfl ?_
  intro p e s m args below meth c s₁ B hml hv
  obtain ⟨rfl, hsz, hP, hK, hD0⟩ := hv
  have hx := B.exec
  have hb := B.bytes
  have hr := B.returns
  have hts := atoms_spec (ws := .code y bytes maxL (some ret) :: TB) B.pre
  have hown : s.vm.findClass own = some m.cls := ho ▸ findClass_of_methodNamed B.named
  have hlocks := B.notSynchronized
  subst hsz
  have hD := hD0.self (sz := s.heap.size)
  have hl := lv_entry av hal
  rw [lg_entry_eq]
  refine body p e s m _ below meth c _ _ _ ⟨hx, hb, hml, hown, fun w hw => hts w (List.mem_cons_of_mem _ hw), hK⟩ hl hP hD (fun q h => Or.inr h) va_S.rf ?_
  intro H locs pc ls' hP1 hD1 hS1 hd
  exact W.zret hx hb hr hret (fun t ht hW => ⟨⟨val, (), rfl, rfl, by rw [ht]; exact hP1, hD1⟩, hS1.F ht⟩) hS1.2.2 hd
theorem CL_start {l : Launch} {D : va_G} {cs : Nat → ClassId} {y : MethodName} {bytes : ByteArray} {maxL : Nat} {rm : Room} {mc ms : Nat} {av : List Value} {wc w1 : va_W} {val : Int64} {own : String}
    (hy : plainName y.cls = true) (ho : y.cls = own) (hal : (lg_sl av).length ≤ maxL)
    (body : ∀ (p : Program) (e : Env) (s : State) (m : MethodId) (args : Array Value) (below : List Frame) (meth : Method) (c : Code) (Q : State → Prop) (A : Nat → Prop) (ls : Array Slot), Cx p s m args c bytes maxL own D cs → lv_has ls maxL (lv_args 0 av) → va_P D vwCl wc s.heap → va_D A wc → (∀ q, s.heap.size ≤ q → A q) → va_S A s.heap s.heap [] →
      (∀ (H : Heap) (locs : List Loc) (pc : Nat) (ls' : Array Slot), va_P D vwCl w1 H → va_D A w1 → va_S A s.heap H locs → decode bytes pc = .ok (.lreturn, 1) → W p l e rm s m args below meth c H locs mc ms Q (F0 m pc ls' [.long val])) → W p l e rm s m args below meth c s.heap [] 0 0 Q (F0 m 0 ls [])) : CL l D cs y bytes maxL rm mc ms av wc w1 val := by
  intro sz
  refine Met.ofW (cc := bytes) (maxL := maxL) (ret := some .long) hy rfl ?_
  intro p e s m args below meth c s₁ B hml hv
  obtain ⟨rfl, hsz, hP, hK, hD0⟩ := hv
  have hx := B.exec
  have hb := B.bytes
  have hr := B.returns
  have hts := atoms_spec (ws := .code y bytes maxL (some .long) :: TB) B.pre
  have hown : s.vm.findClass own = some m.cls := ho ▸ findClass_of_methodNamed B.named
  have hlocks := B.notSynchronized
  subst hsz
  have hD := hD0.self (sz := s.heap.size)
  have hl := lv_entry av hal
  rw [lg_entry_eq]
  refine body p e s m _ below meth c _ _ _ ⟨hx, hb, hml, hown, fun w hw => hts w (List.mem_cons_of_mem _ hw), hK⟩ hl hP hD (fun q h => Or.inr h) va_S.rf ?_
  intro H locs pc ls' hP1 hD1 hS1 hd
  exact W.lret hx hb hr (fun t ht hW => ⟨⟨val, (), rfl, rfl, by rw [ht]; exact hP1, hD1⟩, hS1.F ht⟩) hS1.2.2 hd
theorem CV_start {l : Launch} {D : va_G} {cs : Nat → ClassId} {y : MethodName} {bytes : ByteArray} {maxL : Nat} {rm : Room} {mc ms : Nat} {av : List Value} {wc w1 : va_W} {own : String}
    (hy : plainName y.cls = true) (ho : y.cls = own) (hal : (lg_sl av).length ≤ maxL)
    (body : ∀ (p : Program) (e : Env) (s : State) (m : MethodId) (args : Array Value) (below : List Frame) (meth : Method) (c : Code) (Q : State → Prop) (A : Nat → Prop) (ls : Array Slot), Cx p s m args c bytes maxL own D cs → lv_has ls maxL (lv_args 0 av) → va_P D vwCl wc s.heap → va_D A wc → (∀ q, s.heap.size ≤ q → A q) → va_S A s.heap s.heap [] → meth.name = y.name →
      (∀ (H : Heap) (locs : List Loc) (pc : Nat) (ls' : Array Slot), va_P D vwCl w1 H → va_D A w1 → va_S A s.heap H locs → decode bytes pc = .ok (.return_, 1) → W p l e rm s m args below meth c H locs mc ms Q (F0 m pc ls' [])) → W p l e rm s m args below meth c s.heap [] 0 0 Q (F0 m 0 ls [])) : CV l D cs y bytes maxL rm mc ms av wc w1 := by
  intro sz
  refine Met.ofW (cc := bytes) (maxL := maxL) (ret := none) hy rfl ?_
  intro p e s m args below meth c s₁ B hml hv
  obtain ⟨rfl, hsz, hP, hK, hD0⟩ := hv
  have hx := B.exec
  have hb := B.bytes
  have hr := B.returns
  have hts := atoms_spec (ws := .code y bytes maxL none :: TB) B.pre
  have hown : s.vm.findClass own = some m.cls := ho ▸ findClass_of_methodNamed B.named
  have hlocks := B.notSynchronized
  subst hsz
  have hD := hD0.self (sz := s.heap.size)
  have hl := lv_entry av hal
  rw [lg_entry_eq]
  refine body p e s m _ below meth c _ _ _ ⟨hx, hb, hml, hown, fun w hw => hts w (List.mem_cons_of_mem _ hw), hK⟩ hl hP hD (fun q h => Or.inr h) va_S.rf (name_of_methodNamed B.named B.method).1 ?_
  intro H locs pc ls' hP1 hD1 hS1 hd
  exact W.vret hx hb hr (fun t ht hW => ⟨⟨(), rfl, trivial, by rw [ht]; exact hP1, hD1⟩, hS1.F ht⟩) hS1.2.2 hd
end
section
section XR
variable {p : Program} {l : Launch} {e : Env} {R : Room} {s : State} {m : MethodId} {args : Array Value} {below : List Frame} {meth : Method} {c : Code} {H H0 : Heap} {locs : List Loc} {cells slots : Nat} {Q : State → Prop} {A : Nat → Prop} {pc : Nat} {ls : Array Slot} {rest : List Value} {cc : ByteArray} {nL : Nat} {own : String} {D : va_G} {cs : Nat → ClassId} {ws : va_W} {a : Nat}
theorem x_w (hC : Cx p s m args c cc nL own D cs) {w : Cond} (h : w ∈ lw_tbl) (hg : goodWord w = true) : w.before args s = true := hC.2.2.2.2.1 w (tb_in h hg)
theorem x_il (hC : Cx p s m args c cc nL own D cs) {lv : List (Nat × Value)} (hl : lv_has ls nL lv) (j : Nat) {k : Fin 4} {i : Nat} {x : Int32} (d : decode cc pc = .ok (.iload_n k, 1)) (hi : (k : Nat) = i) (hk : lv[j]? = some (i, .int x)) (kk : W p l e R s m args below meth c H locs cells slots Q (F0 m (pc + 1) ls (.int x :: rest))) : W p l e R s m args below meth c H locs cells slots Q (F0 m pc ls rest) := lv_iload_n hC.1 hC.2.1 d hi (lv_at hl j hk) kk
theorem x_ilw (hC : Cx p s m args c cc nL own D cs) {lv : List (Nat × Value)} (hl : lv_has ls nL lv) (j : Nat) {i : Nat} {x : Int32} (d : decode cc pc = .ok (.iload i, 2)) (hk : lv[j]? = some (i, .int x)) (kk : W p l e R s m args below meth c H locs cells slots Q (F0 m (pc + 2) ls (.int x :: rest))) : W p l e R s m args below meth c H locs cells slots Q (F0 m pc ls rest) := lv_iload hC.1 hC.2.1 d (lv_at hl j hk) kk
theorem x_al (hC : Cx p s m args c cc nL own D cs) {lv : List (Nat × Value)} (hl : lv_has ls nL lv) (j : Nat) {k : Fin 4} {i : Nat} {x : Nat} (d : decode cc pc = .ok (.aload_n k, 1)) (hi : (k : Nat) = i) (hk : lv[j]? = some (i, .ref x)) (kk : W p l e R s m args below meth c H locs cells slots Q (F0 m (pc + 1) ls (.ref x :: rest))) : W p l e R s m args below meth c H locs cells slots Q (F0 m pc ls rest) := lv_aload_n hC.1 hC.2.1 d hi (lv_at hl j hk) kk
theorem x_alw (hC : Cx p s m args c cc nL own D cs) {lv : List (Nat × Value)} (hl : lv_has ls nL lv) (j : Nat) {i : Nat} {x : Nat} (d : decode cc pc = .ok (.aload i, 2)) (hk : lv[j]? = some (i, .ref x)) (kk : W p l e R s m args below meth c H locs cells slots Q (F0 m (pc + 2) ls (.ref x :: rest))) : W p l e R s m args below meth c H locs cells slots Q (F0 m pc ls rest) := lv_aload hC.1 hC.2.1 d (lv_at hl j hk) kk
theorem x_ll (hC : Cx p s m args c cc nL own D cs) {lv : List (Nat × Value)} (hl : lv_has ls nL lv) (j : Nat) {k : Fin 4} {i : Nat} {x : Int64} (d : decode cc pc = .ok (.lload_n k, 1)) (hi : (k : Nat) = i) (hk : lv[j]? = some (i, .long x)) (kk : W p l e R s m args below meth c H locs cells slots Q (F0 m (pc + 1) ls (.long x :: rest))) : W p l e R s m args below meth c H locs cells slots Q (F0 m pc ls rest) := lv_lload_n hC.1 hC.2.1 d hi (lv_at hl j hk) kk
theorem x_llw (hC : Cx p s m args c cc nL own D cs) {lv : List (Nat × Value)} (hl : lv_has ls nL lv) (j : Nat) {i : Nat} {x : Int64} (d : decode cc pc = .ok (.lload i, 2)) (hk : lv[j]? = some (i, .long x)) (kk : W p l e R s m args below meth c H locs cells slots Q (F0 m (pc + 2) ls (.long x :: rest))) : W p l e R s m args below meth c H locs cells slots Q (F0 m pc ls rest) := lv_lload hC.1 hC.2.1 d (lv_at hl j hk) kk
theorem x_fl (hC : Cx p s m args c cc nL own D cs) {lv : List (Nat × Value)} (hl : lv_has ls nL lv) (j : Nat) {k : Fin 4} {i : Nat} {x : UInt32} (d : decode cc pc = .ok (.fload_n k, 1)) (hi : (k : Nat) = i) (hk : lv[j]? = some (i, .float x)) (kk : W p l e R s m args below meth c H locs cells slots Q (F0 m (pc + 1) ls (.float x :: rest))) : W p l e R s m args below meth c H locs cells slots Q (F0 m pc ls rest) := lv_fload_n hC.1 hC.2.1 d hi (lv_at hl j hk) kk
theorem x_is (hC : Cx p s m args c cc nL own D cs) (lv' : List (Nat × Value)) {k : Fin 4} {i : Nat} {x : Int32} {lv : List (Nat × Value)} (hl : lv_has ls nL lv) (d : decode cc pc = .ok (.istore_n k, 1)) (hi : (k : Nat) = i) (hn : i < nL) (he : (i, Value.int x) :: lv.filter (fun q => !(q.1 == i) && !(q.1 + 1 == i && q.2.category == 2)) = lv') (kk : ∀ ls' : Array Slot, lv_has ls' nL lv' → W p l e R s m args below meth c H locs cells slots Q (F0 m (pc + 1) ls' rest)) : W p l e R s m args below meth c H locs cells slots Q (F0 m pc ls (Value.int x :: rest)) := lv_istore_n hC.1 hC.2.1 d hi hl hn he kk
theorem x_isw (hC : Cx p s m args c cc nL own D cs) (lv' : List (Nat × Value)) {i : Nat} {x : Int32} {lv : List (Nat × Value)} (hl : lv_has ls nL lv) (d : decode cc pc = .ok (.istore i, 2)) (hn : i < nL) (he : (i, Value.int x) :: lv.filter (fun q => !(q.1 == i) && !(q.1 + 1 == i && q.2.category == 2)) = lv') (kk : ∀ ls' : Array Slot, lv_has ls' nL lv' → W p l e R s m args below meth c H locs cells slots Q (F0 m (pc + 2) ls' rest)) : W p l e R s m args below meth c H locs cells slots Q (F0 m pc ls (Value.int x :: rest)) := lv_istore hC.1 hC.2.1 d hl hn he kk
theorem x_as (hC : Cx p s m args c cc nL own D cs) (lv' : List (Nat × Value)) {k : Fin 4} {i : Nat} {x : Nat} {lv : List (Nat × Value)} (hl : lv_has ls nL lv) (d : decode cc pc = .ok (.astore_n k, 1)) (hi : (k : Nat) = i) (hn : i < nL) (he : (i, Value.ref x) :: lv.filter (fun q => !(q.1 == i) && !(q.1 + 1 == i && q.2.category == 2)) = lv') (kk : ∀ ls' : Array Slot, lv_has ls' nL lv' → W p l e R s m args below meth c H locs cells slots Q (F0 m (pc + 1) ls' rest)) : W p l e R s m args below meth c H locs cells slots Q (F0 m pc ls (Value.ref x :: rest)) := lv_astore_n hC.1 hC.2.1 d hi hl hn he kk
theorem x_asw (hC : Cx p s m args c cc nL own D cs) (lv' : List (Nat × Value)) {i : Nat} {x : Nat} {lv : List (Nat × Value)} (hl : lv_has ls nL lv) (d : decode cc pc = .ok (.astore i, 2)) (hn : i < nL) (he : (i, Value.ref x) :: lv.filter (fun q => !(q.1 == i) && !(q.1 + 1 == i && q.2.category == 2)) = lv') (kk : ∀ ls' : Array Slot, lv_has ls' nL lv' → W p l e R s m args below meth c H locs cells slots Q (F0 m (pc + 2) ls' rest)) : W p l e R s m args below meth c H locs cells slots Q (F0 m pc ls (Value.ref x :: rest)) := lv_astore hC.1 hC.2.1 d hl hn he kk
theorem x_fs (hC : Cx p s m args c cc nL own D cs) (lv' : List (Nat × Value)) {k : Fin 4} {i : Nat} {x : UInt32} {lv : List (Nat × Value)} (hl : lv_has ls nL lv) (d : decode cc pc = .ok (.fstore_n k, 1)) (hi : (k : Nat) = i) (hn : i < nL) (he : (i, Value.float x) :: lv.filter (fun q => !(q.1 == i) && !(q.1 + 1 == i && q.2.category == 2)) = lv') (kk : ∀ ls' : Array Slot, lv_has ls' nL lv' → W p l e R s m args below meth c H locs cells slots Q (F0 m (pc + 1) ls' rest)) : W p l e R s m args below meth c H locs cells slots Q (F0 m pc ls (Value.float x :: rest)) := lv_fstore_n hC.1 hC.2.1 d hi hl hn he kk
theorem x_ls (hC : Cx p s m args c cc nL own D cs) (lv' : List (Nat × Value)) {k : Fin 4} {i : Nat} {x : Int64} {lv : List (Nat × Value)} (hl : lv_has ls nL lv) (d : decode cc pc = .ok (.lstore_n k, 1)) (hi : (k : Nat) = i) (hn : i + 1 < nL) (he : (i, Value.long x) :: lv.filter (fun q => !(q.1 == i) && (!(q.1 == i + 1) && !(q.1 + 1 == i && q.2.category == 2))) = lv') (kk : ∀ ls' : Array Slot, lv_has ls' nL lv' → W p l e R s m args below meth c H locs cells slots Q (F0 m (pc + 1) ls' rest)) : W p l e R s m args below meth c H locs cells slots Q (F0 m pc ls (Value.long x :: rest)) := lv_lstore_n hC.1 hC.2.1 d hi hl hn he kk
theorem x_lsw (hC : Cx p s m args c cc nL own D cs) (lv' : List (Nat × Value)) {i : Nat} {x : Int64} {lv : List (Nat × Value)} (hl : lv_has ls nL lv) (d : decode cc pc = .ok (.lstore i, 2)) (hn : i + 1 < nL) (he : (i, Value.long x) :: lv.filter (fun q => !(q.1 == i) && (!(q.1 == i + 1) && !(q.1 + 1 == i && q.2.category == 2))) = lv') (kk : ∀ ls' : Array Slot, lv_has ls' nL lv' → W p l e R s m args below meth c H locs cells slots Q (F0 m (pc + 2) ls' rest)) : W p l e R s m args below meth c H locs cells slots Q (F0 m pc ls (Value.long x :: rest)) := lv_lstore hC.1 hC.2.1 d hl hn he kk
theorem x_iinc (hC : Cx p s m args c cc nL own D cs) (lv' : List (Nat × Value)) {i : Nat} (k : Nat) {n x : Int} {lv : List (Nat × Value)} (hl : lv_has ls nL lv) (d : decode cc pc = .ok (.iinc i n, 3)) (hk : lv[k]? = some (i, .int (iI x))) (hn : i < nL) (he : (i, Value.int (iI (x + n))) :: lv.filter (fun q => !(q.1 == i) && !(q.1 + 1 == i && q.2.category == 2)) = lv') (kk : ∀ ls' : Array Slot, lv_has ls' nL lv' → W p l e R s m args below meth c H locs cells slots Q (F0 m (pc + 3) ls' rest)) : W p l e R s m args below meth c H locs cells slots Q (F0 m pc ls rest) := lv_iinc hC.1 hC.2.1 d hl hk (iI_add x n) hn he kk
theorem x_ic (hC : Cx p s m args c cc nL own D cs) {n : Int} (d : decode cc pc = .ok (.iconst n, 1)) (kk : W p l e R s m args below meth c H locs cells slots Q (F0 m (pc + 1) ls (.int (iI n) :: rest))) : W p l e R s m args below meth c H locs cells slots Q (F0 m pc ls rest) := lv_iconst hC.1 hC.2.1 d rfl kk
theorem x_bi (hC : Cx p s m args c cc nL own D cs) {n : Int} (d : decode cc pc = .ok (.bipush n, 2)) (hv : (Int8.ofInt n).toInt32 = iI n) (kk : W p l e R s m args below meth c H locs cells slots Q (F0 m (pc + 2) ls (.int (iI n) :: rest))) : W p l e R s m args below meth c H locs cells slots Q (F0 m pc ls rest) := lv_bipush hC.1 hC.2.1 d hv kk
theorem x_si (hC : Cx p s m args c cc nL own D cs) {n : Int} (d : decode cc pc = .ok (.sipush n, 3)) (hv : (Int16.ofInt n).toInt32 = iI n) (kk : W p l e R s m args below meth c H locs cells slots Q (F0 m (pc + 3) ls (.int (iI n) :: rest))) : W p l e R s m args below meth c H locs cells slots Q (F0 m pc ls rest) := lv_sipush hC.1 hC.2.1 d hv kk
theorem x_ldc (hC : Cx p s m args c cc nL own D cs) (z : Int) {idx : Nat} {v : Int32} (hw : Cond.constant own idx v ∈ lw_tbl) (hv : v = iI z) (d : decode cc pc = .ok (.ldc idx, 2)) (kk : W p l e R s m args below meth c H locs cells slots Q (F0 m (pc + 2) ls (.int (iI z) :: rest))) : W p l e R s m args below meth c H locs cells slots Q (F0 m pc ls rest) := by
  subst hv
  exact lv_ldc hC.1 hC.2.1 hC.2.2.2.1 (x_w hC hw rfl) d kk
theorem x_lc (hC : Cx p s m args c cc nL own D cs) {n : Fin 2} {v : Int64} (d : decode cc pc = .ok (.lconst n, 1)) (hv : Int64.ofNat (n : Nat) = v) (kk : W p l e R s m args below meth c H locs cells slots Q (F0 m (pc + 1) ls (.long v :: rest))) : W p l e R s m args below meth c H locs cells slots Q (F0 m pc ls rest) := lv_lconst hC.1 hC.2.1 d hv kk
theorem x_iadd (hC : Cx p s m args c cc nL own D cs) {a b : Int} (d : decode cc pc = .ok (.iadd, 1)) (kk : W p l e R s m args below meth c H locs cells slots Q (F0 m (pc + 1) ls (.int (iI (a + b)) :: rest))) : W p l e R s m args below meth c H locs cells slots Q (F0 m pc ls (.int (iI b) :: .int (iI a) :: rest)) := lv_iadd hC.1 hC.2.1 d (by rw [iI_add]; exact kk)
theorem x_isub (hC : Cx p s m args c cc nL own D cs) {a b : Int} (d : decode cc pc = .ok (.isub, 1)) (kk : W p l e R s m args below meth c H locs cells slots Q (F0 m (pc + 1) ls (.int (iI (a - b)) :: rest))) : W p l e R s m args below meth c H locs cells slots Q (F0 m pc ls (.int (iI b) :: .int (iI a) :: rest)) := lv_isub hC.1 hC.2.1 d (by rw [iI_sub]; exact kk)
theorem x_imul (hC : Cx p s m args c cc nL own D cs) {a b : Int} (d : decode cc pc = .ok (.imul, 1)) (kk : W p l e R s m args below meth c H locs cells slots Q (F0 m (pc + 1) ls (.int (iI (a * b)) :: rest))) : W p l e R s m args below meth c H locs cells slots Q (F0 m pc ls (.int (iI b) :: .int (iI a) :: rest)) := lv_imul hC.1 hC.2.1 d (by rw [iI_mul]; exact kk)
theorem x_ineg (hC : Cx p s m args c cc nL own D cs) {a : Int} (d : decode cc pc = .ok (.ineg, 1)) (kk : W p l e R s m args below meth c H locs cells slots Q (F0 m (pc + 1) ls (.int (iI (-a)) :: rest))) : W p l e R s m args below meth c H locs cells slots Q (F0 m pc ls (.int (iI a) :: rest)) := lv_ineg hC.1 hC.2.1 d (by rw [iI_neg]; exact kk)
theorem x_iand (hC : Cx p s m args c cc nL own D cs) {x y : Int32} (d : decode cc pc = .ok (.iand, 1)) (v : Int32) (hv : x &&& y = v) (kk : W p l e R s m args below meth c H locs cells slots Q (F0 m (pc + 1) ls (.int v :: rest))) : W p l e R s m args below meth c H locs cells slots Q (F0 m pc ls (.int y :: .int x :: rest)) := lv_iand hC.1 hC.2.1 d (by rw [hv]; exact kk)
theorem x_ior (hC : Cx p s m args c cc nL own D cs) {x y : Int32} (d : decode cc pc = .ok (.ior, 1)) (v : Int32) (hv : x ||| y = v) (kk : W p l e R s m args below meth c H locs cells slots Q (F0 m (pc + 1) ls (.int v :: rest))) : W p l e R s m args below meth c H locs cells slots Q (F0 m pc ls (.int y :: .int x :: rest)) := lv_ior hC.1 hC.2.1 d (by rw [hv]; exact kk)
theorem x_ixor (hC : Cx p s m args c cc nL own D cs) {x y : Int32} (d : decode cc pc = .ok (.ixor, 1)) (v : Int32) (hv : x ^^^ y = v) (kk : W p l e R s m args below meth c H locs cells slots Q (F0 m (pc + 1) ls (.int v :: rest))) : W p l e R s m args below meth c H locs cells slots Q (F0 m pc ls (.int y :: .int x :: rest)) := lv_ixor hC.1 hC.2.1 d (by rw [hv]; exact kk)
theorem x_ishl (hC : Cx p s m args c cc nL own D cs) {x y : Int32} (d : decode cc pc = .ok (.ishl, 1)) (v : Int32) (hv : x <<< (y &&& 31) = v) (kk : W p l e R s m args below meth c H locs cells slots Q (F0 m (pc + 1) ls (.int v :: rest))) : W p l e R s m args below meth c H locs cells slots Q (F0 m pc ls (.int y :: .int x :: rest)) := lv_ishl hC.1 hC.2.1 d (by rw [hv]; exact kk)
theorem x_ishr (hC : Cx p s m args c cc nL own D cs) {x y : Int32} (d : decode cc pc = .ok (.ishr, 1)) (v : Int32) (hv : x >>> (y &&& 31) = v) (kk : W p l e R s m args below meth c H locs cells slots Q (F0 m (pc + 1) ls (.int v :: rest))) : W p l e R s m args below meth c H locs cells slots Q (F0 m pc ls (.int y :: .int x :: rest)) := lv_ishr hC.1 hC.2.1 d (by rw [hv]; exact kk)
theorem x_land (hC : Cx p s m args c cc nL own D cs) {x y : Int64} (d : decode cc pc = .ok (.land, 1)) (v : Int64) (hv : x &&& y = v) (kk : W p l e R s m args below meth c H locs cells slots Q (F0 m (pc + 1) ls (.long v :: rest))) : W p l e R s m args below meth c H locs cells slots Q (F0 m pc ls (.long y :: .long x :: rest)) := lv_land hC.1 hC.2.1 d (by rw [hv]; exact kk)
theorem x_lor (hC : Cx p s m args c cc nL own D cs) {x y : Int64} (d : decode cc pc = .ok (.lor, 1)) (v : Int64) (hv : x ||| y = v) (kk : W p l e R s m args below meth c H locs cells slots Q (F0 m (pc + 1) ls (.long v :: rest))) : W p l e R s m args below meth c H locs cells slots Q (F0 m pc ls (.long y :: .long x :: rest)) := lv_lor hC.1 hC.2.1 d (by rw [hv]; exact kk)
theorem x_lxor (hC : Cx p s m args c cc nL own D cs) {x y : Int64} (d : decode cc pc = .ok (.lxor, 1)) (v : Int64) (hv : x ^^^ y = v) (kk : W p l e R s m args below meth c H locs cells slots Q (F0 m (pc + 1) ls (.long v :: rest))) : W p l e R s m args below meth c H locs cells slots Q (F0 m pc ls (.long y :: .long x :: rest)) := lv_lxor hC.1 hC.2.1 d (by rw [hv]; exact kk)
theorem x_lsub (hC : Cx p s m args c cc nL own D cs) {x y : Int64} (d : decode cc pc = .ok (.lsub, 1)) (v : Int64) (hv : x - y = v) (kk : W p l e R s m args below meth c H locs cells slots Q (F0 m (pc + 1) ls (.long v :: rest))) : W p l e R s m args below meth c H locs cells slots Q (F0 m pc ls (.long y :: .long x :: rest)) := lv_lsub hC.1 hC.2.1 d (by rw [hv]; exact kk)
theorem x_lshl (hC : Cx p s m args c cc nL own D cs) {x : Int64} {y : Int32} (d : decode cc pc = .ok (.lshl, 1)) (v : Int64) (hv : x <<< (y.toInt64 &&& 63) = v) (kk : W p l e R s m args below meth c H locs cells slots Q (F0 m (pc + 1) ls (.long v :: rest))) : W p l e R s m args below meth c H locs cells slots Q (F0 m pc ls (.int y :: .long x :: rest)) := lv_lshl hC.1 hC.2.1 d hv kk
theorem x_lshr (hC : Cx p s m args c cc nL own D cs) {x : Int64} {y : Int32} (d : decode cc pc = .ok (.lshr, 1)) (v : Int64) (hv : x >>> (y.toInt64 &&& 63) = v) (kk : W p l e R s m args below meth c H locs cells slots Q (F0 m (pc + 1) ls (.long v :: rest))) : W p l e R s m args below meth c H locs cells slots Q (F0 m pc ls (.int y :: .long x :: rest)) := lv_lshr hC.1 hC.2.1 d hv kk
theorem x_dup (hC : Cx p s m args c cc nL own D cs) {v : Value} (d : decode cc pc = .ok (.dup, 1)) (hv : v.category = 1) (kk : W p l e R s m args below meth c H locs cells slots Q (F0 m (pc + 1) ls (v :: v :: rest))) : W p l e R s m args below meth c H locs cells slots Q (F0 m pc ls (v :: rest)) := lv_dup hC.1 hC.2.1 d hv kk
theorem x_dup2 (hC : Cx p s m args c cc nL own D cs) {v w : Value} (d : decode cc pc = .ok (.dup2, 1)) (hv : v.category = 1) (hw : w.category = 1) (kk : W p l e R s m args below meth c H locs cells slots Q (F0 m (pc + 1) ls (v :: w :: v :: w :: rest))) : W p l e R s m args below meth c H locs cells slots Q (F0 m pc ls (v :: w :: rest)) := lv_dup2_11 hC.1 hC.2.1 d hv hw kk
theorem x_pop (hC : Cx p s m args c cc nL own D cs) {v : Value} (d : decode cc pc = .ok (.pop, 1)) (hv : v.category = 1) (kk : W p l e R s m args below meth c H locs cells slots Q (F0 m (pc + 1) ls rest)) : W p l e R s m args below meth c H locs cells slots Q (F0 m pc ls (v :: rest)) := lv_pop hC.1 hC.2.1 d hv kk
theorem x_goto (hC : Cx p s m args c cc nL own D cs) (tgt : Nat) {off : Int} (d : decode cc pc = .ok (.goto off, 3)) (ht : (pc : Int) + off = (tgt : Int)) (kk : W p l e R s m args below meth c H locs cells slots Q (F0 m tgt ls rest)) : W p l e R s m args below meth c H locs cells slots Q (F0 m pc ls rest) := lv_goto hC.1 hC.2.1 d ht kk
theorem x_ic_lt (hC : Cx p s m args c cc nL own D cs) (tgt : Nat) {off : Int} (d : decode cc pc = .ok (.if_icmp .lt off, 3)) (ht : (pc : Int) + off = (tgt : Int)) {a b : Int} (ha : -2147483648 ≤ a ∧ a ≤ 2147483647) (hb : -2147483648 ≤ b ∧ b ≤ 2147483647) (kt : a < b → W p l e R s m args below meth c H locs cells slots Q (F0 m tgt ls rest)) (kf : b ≤ a → W p l e R s m args below meth c H locs cells slots Q (F0 m (pc + 3) ls rest)) : W p l e R s m args below meth c H locs cells slots Q (F0 m pc ls (.int (iI b) :: .int (iI a) :: rest)) := lv_icmp_lt hC.1 hC.2.1 d ht (fun h => kt ((iI_lt ha hb).mp h)) (fun h => kf (Int.not_lt.mp (fun h2 => h ((iI_lt ha hb).mpr h2))))
theorem x_if_lt (hC : Cx p s m args c cc nL own D cs) (tgt : Nat) {off : Int} (d : decode cc pc = .ok (.ifCond .lt off, 3)) (ht : (pc : Int) + off = (tgt : Int)) {a : Int} (ha : -2147483648 ≤ a ∧ a ≤ 2147483647) (kt : a < 0 → W p l e R s m args below meth c H locs cells slots Q (F0 m tgt ls rest)) (kf : 0 ≤ a → W p l e R s m args below meth c H locs cells slots Q (F0 m (pc + 3) ls rest)) : W p l e R s m args below meth c H locs cells slots Q (F0 m pc ls (.int (iI a) :: rest)) := by
  have hb : -2147483648 ≤ (0:Int) ∧ (0:Int) ≤ 2147483647 := by omega
  have z0 : iI 0 = 0 := rfl
  have hX := lv_if_lt (p := p) (l := l) (e := e) (R := R) (s := s) (m := m) (args := args) (below := below) (meth := meth) (c := c) (H := H) (locs := locs) (cells := cells) (slots := slots) (Q := Q) (ls := ls) (rest := rest) (x := iI a) hC.1 hC.2.1 d ht
  rw [← z0] at hX
  exact hX (fun h => kt ((iI_lt ha hb).mp h)) (fun h => kf (Int.not_lt.mp (fun h2 => h ((iI_lt ha hb).mpr h2))))
theorem x_ic_ge (hC : Cx p s m args c cc nL own D cs) (tgt : Nat) {off : Int} (d : decode cc pc = .ok (.if_icmp .ge off, 3)) (ht : (pc : Int) + off = (tgt : Int)) {a b : Int} (ha : -2147483648 ≤ a ∧ a ≤ 2147483647) (hb : -2147483648 ≤ b ∧ b ≤ 2147483647) (kt : b ≤ a → W p l e R s m args below meth c H locs cells slots Q (F0 m tgt ls rest)) (kf : a < b → W p l e R s m args below meth c H locs cells slots Q (F0 m (pc + 3) ls rest)) : W p l e R s m args below meth c H locs cells slots Q (F0 m pc ls (.int (iI b) :: .int (iI a) :: rest)) := lv_icmp_ge hC.1 hC.2.1 d ht (fun h => kt ((iI_le hb ha).mp h)) (fun h => kf (Int.not_le.mp (fun h2 => h ((iI_le hb ha).mpr h2))))
theorem x_if_ge (hC : Cx p s m args c cc nL own D cs) (tgt : Nat) {off : Int} (d : decode cc pc = .ok (.ifCond .ge off, 3)) (ht : (pc : Int) + off = (tgt : Int)) {a : Int} (ha : -2147483648 ≤ a ∧ a ≤ 2147483647) (kt : 0 ≤ a → W p l e R s m args below meth c H locs cells slots Q (F0 m tgt ls rest)) (kf : a < 0 → W p l e R s m args below meth c H locs cells slots Q (F0 m (pc + 3) ls rest)) : W p l e R s m args below meth c H locs cells slots Q (F0 m pc ls (.int (iI a) :: rest)) := by
  have hb : -2147483648 ≤ (0:Int) ∧ (0:Int) ≤ 2147483647 := by omega
  have z0 : iI 0 = 0 := rfl
  have hX := lv_if_ge (p := p) (l := l) (e := e) (R := R) (s := s) (m := m) (args := args) (below := below) (meth := meth) (c := c) (H := H) (locs := locs) (cells := cells) (slots := slots) (Q := Q) (ls := ls) (rest := rest) (x := iI a) hC.1 hC.2.1 d ht
  rw [← z0] at hX
  exact hX (fun h => kt ((iI_le hb ha).mp h)) (fun h => kf (Int.not_le.mp (fun h2 => h ((iI_le hb ha).mpr h2))))
theorem x_ic_gt (hC : Cx p s m args c cc nL own D cs) (tgt : Nat) {off : Int} (d : decode cc pc = .ok (.if_icmp .gt off, 3)) (ht : (pc : Int) + off = (tgt : Int)) {a b : Int} (ha : -2147483648 ≤ a ∧ a ≤ 2147483647) (hb : -2147483648 ≤ b ∧ b ≤ 2147483647) (kt : b < a → W p l e R s m args below meth c H locs cells slots Q (F0 m tgt ls rest)) (kf : a ≤ b → W p l e R s m args below meth c H locs cells slots Q (F0 m (pc + 3) ls rest)) : W p l e R s m args below meth c H locs cells slots Q (F0 m pc ls (.int (iI b) :: .int (iI a) :: rest)) := lv_icmp_gt hC.1 hC.2.1 d ht (fun h => kt ((iI_lt hb ha).mp h)) (fun h => kf (Int.not_lt.mp (fun h2 => h ((iI_lt hb ha).mpr h2))))
theorem x_if_gt (hC : Cx p s m args c cc nL own D cs) (tgt : Nat) {off : Int} (d : decode cc pc = .ok (.ifCond .gt off, 3)) (ht : (pc : Int) + off = (tgt : Int)) {a : Int} (ha : -2147483648 ≤ a ∧ a ≤ 2147483647) (kt : 0 < a → W p l e R s m args below meth c H locs cells slots Q (F0 m tgt ls rest)) (kf : a ≤ 0 → W p l e R s m args below meth c H locs cells slots Q (F0 m (pc + 3) ls rest)) : W p l e R s m args below meth c H locs cells slots Q (F0 m pc ls (.int (iI a) :: rest)) := by
  have hb : -2147483648 ≤ (0:Int) ∧ (0:Int) ≤ 2147483647 := by omega
  have z0 : iI 0 = 0 := rfl
  have hX := lv_if_gt (p := p) (l := l) (e := e) (R := R) (s := s) (m := m) (args := args) (below := below) (meth := meth) (c := c) (H := H) (locs := locs) (cells := cells) (slots := slots) (Q := Q) (ls := ls) (rest := rest) (x := iI a) hC.1 hC.2.1 d ht
  rw [← z0] at hX
  exact hX (fun h => kt ((iI_lt hb ha).mp h)) (fun h => kf (Int.not_lt.mp (fun h2 => h ((iI_lt hb ha).mpr h2))))
theorem x_ic_le (hC : Cx p s m args c cc nL own D cs) (tgt : Nat) {off : Int} (d : decode cc pc = .ok (.if_icmp .le off, 3)) (ht : (pc : Int) + off = (tgt : Int)) {a b : Int} (ha : -2147483648 ≤ a ∧ a ≤ 2147483647) (hb : -2147483648 ≤ b ∧ b ≤ 2147483647) (kt : a ≤ b → W p l e R s m args below meth c H locs cells slots Q (F0 m tgt ls rest)) (kf : b < a → W p l e R s m args below meth c H locs cells slots Q (F0 m (pc + 3) ls rest)) : W p l e R s m args below meth c H locs cells slots Q (F0 m pc ls (.int (iI b) :: .int (iI a) :: rest)) := lv_icmp_le hC.1 hC.2.1 d ht (fun h => kt ((iI_le ha hb).mp h)) (fun h => kf (Int.not_le.mp (fun h2 => h ((iI_le ha hb).mpr h2))))
theorem x_if_le (hC : Cx p s m args c cc nL own D cs) (tgt : Nat) {off : Int} (d : decode cc pc = .ok (.ifCond .le off, 3)) (ht : (pc : Int) + off = (tgt : Int)) {a : Int} (ha : -2147483648 ≤ a ∧ a ≤ 2147483647) (kt : a ≤ 0 → W p l e R s m args below meth c H locs cells slots Q (F0 m tgt ls rest)) (kf : 0 < a → W p l e R s m args below meth c H locs cells slots Q (F0 m (pc + 3) ls rest)) : W p l e R s m args below meth c H locs cells slots Q (F0 m pc ls (.int (iI a) :: rest)) := by
  have hb : -2147483648 ≤ (0:Int) ∧ (0:Int) ≤ 2147483647 := by omega
  have z0 : iI 0 = 0 := rfl
  have hX := lv_if_le (p := p) (l := l) (e := e) (R := R) (s := s) (m := m) (args := args) (below := below) (meth := meth) (c := c) (H := H) (locs := locs) (cells := cells) (slots := slots) (Q := Q) (ls := ls) (rest := rest) (x := iI a) hC.1 hC.2.1 d ht
  rw [← z0] at hX
  exact hX (fun h => kt ((iI_le ha hb).mp h)) (fun h => kf (Int.not_le.mp (fun h2 => h ((iI_le ha hb).mpr h2))))
theorem x_ic_eq (hC : Cx p s m args c cc nL own D cs) (tgt : Nat) {off : Int} (d : decode cc pc = .ok (.if_icmp .eq off, 3)) (ht : (pc : Int) + off = (tgt : Int)) {a b : Int} (ha : -2147483648 ≤ a ∧ a ≤ 2147483647) (hb : -2147483648 ≤ b ∧ b ≤ 2147483647) (kt : a = b → W p l e R s m args below meth c H locs cells slots Q (F0 m tgt ls rest)) (kf : ¬ a = b → W p l e R s m args below meth c H locs cells slots Q (F0 m (pc + 3) ls rest)) : W p l e R s m args below meth c H locs cells slots Q (F0 m pc ls (.int (iI b) :: .int (iI a) :: rest)) := lv_icmp_eq hC.1 hC.2.1 d ht (fun h => kt ((iI_eq ha hb).mp h)) (fun h => kf (fun h2 => h ((iI_eq ha hb).mpr h2)))
theorem x_if_eq (hC : Cx p s m args c cc nL own D cs) (tgt : Nat) {off : Int} (d : decode cc pc = .ok (.ifCond .eq off, 3)) (ht : (pc : Int) + off = (tgt : Int)) {a : Int} (ha : -2147483648 ≤ a ∧ a ≤ 2147483647) (kt : a = 0 → W p l e R s m args below meth c H locs cells slots Q (F0 m tgt ls rest)) (kf : ¬ a = 0 → W p l e R s m args below meth c H locs cells slots Q (F0 m (pc + 3) ls rest)) : W p l e R s m args below meth c H locs cells slots Q (F0 m pc ls (.int (iI a) :: rest)) := by
  have hb : -2147483648 ≤ (0:Int) ∧ (0:Int) ≤ 2147483647 := by omega
  have z0 : iI 0 = 0 := rfl
  have hX := lv_if_eq (p := p) (l := l) (e := e) (R := R) (s := s) (m := m) (args := args) (below := below) (meth := meth) (c := c) (H := H) (locs := locs) (cells := cells) (slots := slots) (Q := Q) (ls := ls) (rest := rest) (x := iI a) hC.1 hC.2.1 d ht
  rw [← z0] at hX
  exact hX (fun h => kt ((iI_eq ha hb).mp h)) (fun h => kf (fun h2 => h ((iI_eq ha hb).mpr h2)))
theorem x_ic_ne (hC : Cx p s m args c cc nL own D cs) (tgt : Nat) {off : Int} (d : decode cc pc = .ok (.if_icmp .ne off, 3)) (ht : (pc : Int) + off = (tgt : Int)) {a b : Int} (ha : -2147483648 ≤ a ∧ a ≤ 2147483647) (hb : -2147483648 ≤ b ∧ b ≤ 2147483647) (kt : ¬ a = b → W p l e R s m args below meth c H locs cells slots Q (F0 m tgt ls rest)) (kf : a = b → W p l e R s m args below meth c H locs cells slots Q (F0 m (pc + 3) ls rest)) : W p l e R s m args below meth c H locs cells slots Q (F0 m pc ls (.int (iI b) :: .int (iI a) :: rest)) := lv_icmp_ne hC.1 hC.2.1 d ht (fun h => kt (fun h2 => h ((iI_eq ha hb).mpr h2))) (fun h => kf ((iI_eq ha hb).mp h))
theorem x_if_ne (hC : Cx p s m args c cc nL own D cs) (tgt : Nat) {off : Int} (d : decode cc pc = .ok (.ifCond .ne off, 3)) (ht : (pc : Int) + off = (tgt : Int)) {a : Int} (ha : -2147483648 ≤ a ∧ a ≤ 2147483647) (kt : ¬ a = 0 → W p l e R s m args below meth c H locs cells slots Q (F0 m tgt ls rest)) (kf : a = 0 → W p l e R s m args below meth c H locs cells slots Q (F0 m (pc + 3) ls rest)) : W p l e R s m args below meth c H locs cells slots Q (F0 m pc ls (.int (iI a) :: rest)) := by
  have hb : -2147483648 ≤ (0:Int) ∧ (0:Int) ≤ 2147483647 := by omega
  have z0 : iI 0 = 0 := rfl
  have hX := lv_if_ne (p := p) (l := l) (e := e) (R := R) (s := s) (m := m) (args := args) (below := below) (meth := meth) (c := c) (H := H) (locs := locs) (cells := cells) (slots := slots) (Q := Q) (ls := ls) (rest := rest) (x := iI a) hC.1 hC.2.1 d ht
  rw [← z0] at hX
  exact hX (fun h => kt (fun h2 => h ((iI_eq ha hb).mpr h2))) (fun h => kf ((iI_eq ha hb).mp h))
theorem x_if_eq_b (hC : Cx p s m args c cc nL own D cs) (tgt : Nat) {off : Int} (d : decode cc pc = .ok (.ifCond .eq off, 3)) (ht : (pc : Int) + off = (tgt : Int)) {P : Prop} (kt : ¬ P → W p l e R s m args below meth c H locs cells slots Q (F0 m tgt ls rest)) (kf : P → W p l e R s m args below meth c H locs cells slots Q (F0 m (pc + 3) ls rest)) : W p l e R s m args below meth c H locs cells slots Q (F0 m pc ls (.int (iI (b2p P)) :: rest)) := x_if_eq hC tgt d ht (b2p_rg P) (fun h => kt (b2p_0.mp h)) (fun h => kf (Classical.not_not.mp (fun h2 => h (b2p_0.mpr h2))))
theorem x_if_ne_b (hC : Cx p s m args c cc nL own D cs) (tgt : Nat) {off : Int} (d : decode cc pc = .ok (.ifCond .ne off, 3)) (ht : (pc : Int) + off = (tgt : Int)) {P : Prop} (kt : P → W p l e R s m args below meth c H locs cells slots Q (F0 m tgt ls rest)) (kf : ¬ P → W p l e R s m args below meth c H locs cells slots Q (F0 m (pc + 3) ls rest)) : W p l e R s m args below meth c H locs cells slots Q (F0 m pc ls (.int (iI (b2p P)) :: rest)) := x_if_ne hC tgt d ht (b2p_rg P) (fun h => kt (Classical.not_not.mp (fun h2 => h (b2p_0.mpr h2)))) (fun h => kf (b2p_0.mp h))
theorem x_top {x : Int32} (y : Int32) (h : x = y) (kk : W p l e R s m args below meth c H locs cells slots Q (F0 m pc ls (.int y :: rest))) : W p l e R s m args below meth c H locs cells slots Q (F0 m pc ls (.int x :: rest)) := h ▸ kk
def arI (cA : ClassId) (n : Nat) (g : Int → Int) : va_E := .inl (cA, n, .inl (fun j : Nat => iI (g j)))
theorem x_iald (hC : Cx p s m args c cc nL own D cs) (hP : va_P D vwCl ws H) (q0 : Nat) {n : Nat} {g : Int → Int} (he : ws[q0]? = some (a, arI (cs 0) n g)) {i : Int} (h0 : 0 ≤ i ∧ i < n) (hn : n < 2 ^ 31) (d : decode cc pc = .ok (.iaload, 1)) (kk : W p l e R s m args below meth c H locs cells slots Q (F0 m (pc + 1) ls (.int (iI (g i)) :: rest))) : W p l e R s m args below meth c H locs cells slots Q (F0 m pc ls (.int (iI i) :: .ref a :: rest)) := by
  refine va_iald hC.1 hC.2.1 hC.2.2.2.2.2.1 hP q0 0 he rfl (iI_in h0.1 h0.2 hn) d ?_
  show W p l e R s m args below meth c H locs cells slots Q (F0 m (pc + 1) ls (.int (iI (g ((iI i).toNatClampNeg : Nat))) :: rest))
  rw [iI_clamp h0.1 (by omega), Int.toNat_of_nonneg h0.1]
  exact kk
theorem x_cald (hC : Cx p s m args c cc nL own D cs) (hP : va_P D vwCl ws H) (q0 : Nat) {n : Nat} {g : Int → Int} (he : ws[q0]? = some (a, arI (cs 2) n g)) {i : Int} (h0 : 0 ≤ i ∧ i < n) (hn : n < 2 ^ 31) (d : decode cc pc = .ok (.caload, 1)) (kk : W p l e R s m args below meth c H locs cells slots Q (F0 m (pc + 1) ls (.int (iI (g i)) :: rest))) : W p l e R s m args below meth c H locs cells slots Q (F0 m pc ls (.int (iI i) :: .ref a :: rest)) := by
  refine va_cald hC.1 hC.2.1 hC.2.2.2.2.2.1 hP q0 2 he rfl (iI_in h0.1 h0.2 hn) d ?_
  show W p l e R s m args below meth c H locs cells slots Q (F0 m (pc + 1) ls (.int (iI (g ((iI i).toNatClampNeg : Nat))) :: rest))
  rw [iI_clamp h0.1 (by omega), Int.toNat_of_nonneg h0.1]
  exact kk
theorem x_zald (hC : Cx p s m args c cc nL own D cs) (hP : va_P D vwCl ws H) (q0 : Nat) {n : Nat} {g : Int → Int} (he : ws[q0]? = some (a, arI (cs 3) n g)) {i : Int} (h0 : 0 ≤ i ∧ i < n) (hn : n < 2 ^ 31) (d : decode cc pc = .ok (.baload, 1)) (kk : W p l e R s m args below meth c H locs cells slots Q (F0 m (pc + 1) ls (.int (iI (g i)) :: rest))) : W p l e R s m args below meth c H locs cells slots Q (F0 m pc ls (.int (iI i) :: .ref a :: rest)) := by
  refine va_zald hC.1 hC.2.1 hC.2.2.2.2.2.1 hP q0 3 he rfl (iI_in h0.1 h0.2 hn) d ?_
  show W p l e R s m args below meth c H locs cells slots Q (F0 m (pc + 1) ls (.int (iI (g ((iI i).toNatClampNeg : Nat))) :: rest))
  rw [iI_clamp h0.1 (by omega), Int.toNat_of_nonneg h0.1]
  exact kk
theorem x_iast (hC : Cx p s m args c cc nL own D cs) (hP : va_P D vwCl ws H) (hD : va_D A ws) (hS : va_S A H0 H locs) (q0 : Nat) {n : Nat} {g : Int → Int} (he : ws[q0]? = some (a, arI (cs 0) n g)) {i v : Int} (h0 : 0 ≤ i ∧ i < n) (hn : n < 2 ^ 31) (d : decode cc pc = .ok (.iastore, 1)) (kk : ∀ (H1 : Heap) (locs1 : List Loc), va_P D vwCl (ws.set q0 (a, arI (cs 0) n (u1 g i v))) H1 → va_D A (ws.set q0 (a, arI (cs 0) n (u1 g i v))) → va_S A H0 H1 locs1 → W p l e R s m args below meth c H1 locs1 cells slots Q (F0 m (pc + 1) ls rest)) : W p l e R s m args below meth c H locs cells slots Q (F0 m pc ls (.int (iI v) :: .int (iI i) :: .ref a :: rest)) := by
  refine va_iast hC.1 hC.2.1 hC.2.2.2.2.2.1 hP hD hS q0 0 he rfl (iI_in h0.1 h0.2 hn) d ?_
  rw [upd_iI g i v h0.1 (by omega)]
  exact kk
theorem x_zast (hC : Cx p s m args c cc nL own D cs) (hP : va_P D vwCl ws H) (hD : va_D A ws) (hS : va_S A H0 H locs) (q0 : Nat) {n : Nat} {g : Int → Int} (he : ws[q0]? = some (a, arI (cs 3) n g)) {i v : Int} (h0 : 0 ≤ i ∧ i < n) (hn : n < 2 ^ 31) (hv : vp_nar .boolean (iI v) = iI v) (d : decode cc pc = .ok (.bastore, 1)) (kk : ∀ (H1 : Heap) (locs1 : List Loc), va_P D vwCl (ws.set q0 (a, arI (cs 3) n (u1 g i v))) H1 → va_D A (ws.set q0 (a, arI (cs 3) n (u1 g i v))) → va_S A H0 H1 locs1 → W p l e R s m args below meth c H1 locs1 cells slots Q (F0 m (pc + 1) ls rest)) : W p l e R s m args below meth c H locs cells slots Q (F0 m pc ls (.int (iI v) :: .int (iI i) :: .ref a :: rest)) := by
  refine va_zast hC.1 hC.2.1 hC.2.2.2.2.2.1 hP hD hS q0 3 he rfl (iI_in h0.1 h0.2 hn) d ?_
  rw [hv, upd_iI g i v h0.1 (by omega)]
  exact kk
theorem x_cast (hC : Cx p s m args c cc nL own D cs) (hP : va_P D vwCl ws H) (hD : va_D A ws) (hS : va_S A H0 H locs) (q0 : Nat) {n : Nat} {g : Int → Int} (he : ws[q0]? = some (a, arI (cs 2) n g)) {i v : Int} (h0 : 0 ≤ i ∧ i < n) (hn : n < 2 ^ 31) (hv : vp_nar .char (iI v) = iI v) (d : decode cc pc = .ok (.castore, 1)) (kk : ∀ (H1 : Heap) (locs1 : List Loc), va_P D vwCl (ws.set q0 (a, arI (cs 2) n (u1 g i v))) H1 → va_D A (ws.set q0 (a, arI (cs 2) n (u1 g i v))) → va_S A H0 H1 locs1 → W p l e R s m args below meth c H1 locs1 cells slots Q (F0 m (pc + 1) ls rest)) : W p l e R s m args below meth c H locs cells slots Q (F0 m pc ls (.int (iI v) :: .int (iI i) :: .ref a :: rest)) := by
  refine va_cast hC.1 hC.2.1 hC.2.2.2.2.2.1 hP hD hS q0 2 he rfl (iI_in h0.1 h0.2 hn) d ?_
  rw [hv, upd_iI g i v h0.1 (by omega)]
  exact kk
def mkN (f : Nat → Bool) : Nat → Nat
  | 0 => 0
  | n + 1 => mkN f n + (if f n then 2 ^ n else 0)
theorem inT0 : ∀ w ∈ u_ws RX0 TX0 13, w ∈ TB := fun w hw => tb_in ((by decide +kernel : ∀ w ∈ u_ws RX0 TX0 13, w ∈ lw_tbl) w hw) ((by decide +kernel : ∀ w ∈ u_ws RX0 TX0 13, goodWord w = true) w hw)
theorem x_get0 (hC : Cx p s m args c cc nL RX0 D cs) (hP : va_P D vwCl ws H) (q0 : Nat) {fs : List Value} (he : ws[q0]? = some (a, .inr (0, fs))) (k : Nat) (hk : k < 13) {idx : Nat} (hlk : Cond.fieldLink RX0 idx RX0 (TX0 k).2.1 (TX0 k).2.2.1 ∈ lw_tbl) (ho : (TX0 k).1 = RX0) {v : Value} (hv : fs[k]? = some v) (d : decode cc pc = .ok (.getfield idx, 3)) (kk : W p l e R s m args below meth c H locs cells slots Q (F0 m (pc + 3) ls (v :: rest))) : W p l e R s m args below meth c H locs cells slots Q (F0 m pc ls (.ref a :: rest)) := va_get (D := D) (ci := 0) (C := RX0) (T := TX0) (N := 13) hC.1 hC.2.1 hC.2.2.2.2.1 inT0 hC.2.2.2.1 hC.2.2.2.2.2.1 hP q0 he rfl k hk (x_w hC hlk rfl) (fun _ h9 => ho ▸ h9) hv d kk
def obB (h : Nat → Nat) (o : Nat → Bool) (G : Int → Int) : va_E := .inr (0, [.ref (h 1), .ref (h 2), .ref (h 3), .ref (h 4), .ref (h 5), .ref (h 6), .ref (h 7), .int (nI (mkN o 8)), .int (iI (G 8)), .int (iI (G 9)), .int (iI (G 10)), .int (iI (G 11)), .int (iI (G 12))])
theorem x_put0_8 (hC : Cx p s m args c cc nL RX0 D cs) (hP : va_P D vwCl ws H) (hD : va_D A ws) (hS : va_S A H0 H locs) (q0 : Nat) {h : Nat → Nat} {o : Nat → Bool} {G : Int → Int} {v : Int} (he : ws[q0]? = some (a, obB h o G)) {idx : Nat} (hlk : Cond.fieldLink RX0 idx RX0 (TX0 8).2.1 (TX0 8).2.2.1 ∈ lw_tbl) (d : decode cc pc = .ok (.putfield idx, 3)) (kk : ∀ (H1 : Heap) (locs1 : List Loc), va_P D vwCl (ws.set q0 (a, obB h o (u1 G 8 v))) H1 → va_D A (ws.set q0 (a, obB h o (u1 G 8 v))) → va_S A H0 H1 locs1 → W p l e R s m args below meth c H1 locs1 cells slots Q (F0 m (pc + 3) ls rest)) : W p l e R s m args below meth c H locs cells slots Q (F0 m pc ls (.int (iI v) :: .ref a :: rest)) := va_put (D := D) (ci := 0) (v := .int (iI v)) (ty := .int) (C := RX0) (T := TX0) (N := 13) hC.1 hC.2.1 hC.2.2.2.2.1 inT0 tyX0 tyX0_ok nmX0 hC.2.2.2.1 hC.2.2.2.2.2.1 hP hD hS q0 he rfl 8 (by decide) (x_w hC hlk rfl) (fun _ h9 => h9) rfl (by decide +kernel) rfl rfl (Nat.le_of_ble_eq_true rfl) d kk
theorem x_put0_9 (hC : Cx p s m args c cc nL RX0 D cs) (hP : va_P D vwCl ws H) (hD : va_D A ws) (hS : va_S A H0 H locs) (q0 : Nat) {h : Nat → Nat} {o : Nat → Bool} {G : Int → Int} {v : Int} (he : ws[q0]? = some (a, obB h o G)) {idx : Nat} (hlk : Cond.fieldLink RX0 idx RX0 (TX0 9).2.1 (TX0 9).2.2.1 ∈ lw_tbl) (d : decode cc pc = .ok (.putfield idx, 3)) (kk : ∀ (H1 : Heap) (locs1 : List Loc), va_P D vwCl (ws.set q0 (a, obB h o (u1 G 9 v))) H1 → va_D A (ws.set q0 (a, obB h o (u1 G 9 v))) → va_S A H0 H1 locs1 → W p l e R s m args below meth c H1 locs1 cells slots Q (F0 m (pc + 3) ls rest)) : W p l e R s m args below meth c H locs cells slots Q (F0 m pc ls (.int (iI v) :: .ref a :: rest)) := va_put (D := D) (ci := 0) (v := .int (iI v)) (ty := .int) (C := RX0) (T := TX0) (N := 13) hC.1 hC.2.1 hC.2.2.2.2.1 inT0 tyX0 tyX0_ok nmX0 hC.2.2.2.1 hC.2.2.2.2.2.1 hP hD hS q0 he rfl 9 (by decide) (x_w hC hlk rfl) (fun _ h9 => h9) rfl (by decide +kernel) rfl rfl (Nat.le_of_ble_eq_true rfl) d kk
theorem x_put0_10 (hC : Cx p s m args c cc nL RX0 D cs) (hP : va_P D vwCl ws H) (hD : va_D A ws) (hS : va_S A H0 H locs) (q0 : Nat) {h : Nat → Nat} {o : Nat → Bool} {G : Int → Int} {v : Int} (he : ws[q0]? = some (a, obB h o G)) {idx : Nat} (hlk : Cond.fieldLink RX0 idx RX0 (TX0 10).2.1 (TX0 10).2.2.1 ∈ lw_tbl) (d : decode cc pc = .ok (.putfield idx, 3)) (kk : ∀ (H1 : Heap) (locs1 : List Loc), va_P D vwCl (ws.set q0 (a, obB h o (u1 G 10 v))) H1 → va_D A (ws.set q0 (a, obB h o (u1 G 10 v))) → va_S A H0 H1 locs1 → W p l e R s m args below meth c H1 locs1 cells slots Q (F0 m (pc + 3) ls rest)) : W p l e R s m args below meth c H locs cells slots Q (F0 m pc ls (.int (iI v) :: .ref a :: rest)) := va_put (D := D) (ci := 0) (v := .int (iI v)) (ty := .int) (C := RX0) (T := TX0) (N := 13) hC.1 hC.2.1 hC.2.2.2.2.1 inT0 tyX0 tyX0_ok nmX0 hC.2.2.2.1 hC.2.2.2.2.2.1 hP hD hS q0 he rfl 10 (by decide) (x_w hC hlk rfl) (fun _ h9 => h9) rfl (by decide +kernel) rfl rfl (Nat.le_of_ble_eq_true rfl) d kk
theorem x_put0_11 (hC : Cx p s m args c cc nL RX0 D cs) (hP : va_P D vwCl ws H) (hD : va_D A ws) (hS : va_S A H0 H locs) (q0 : Nat) {h : Nat → Nat} {o : Nat → Bool} {G : Int → Int} {v : Int} (he : ws[q0]? = some (a, obB h o G)) {idx : Nat} (hlk : Cond.fieldLink RX0 idx RX0 (TX0 11).2.1 (TX0 11).2.2.1 ∈ lw_tbl) (d : decode cc pc = .ok (.putfield idx, 3)) (kk : ∀ (H1 : Heap) (locs1 : List Loc), va_P D vwCl (ws.set q0 (a, obB h o (u1 G 11 v))) H1 → va_D A (ws.set q0 (a, obB h o (u1 G 11 v))) → va_S A H0 H1 locs1 → W p l e R s m args below meth c H1 locs1 cells slots Q (F0 m (pc + 3) ls rest)) : W p l e R s m args below meth c H locs cells slots Q (F0 m pc ls (.int (iI v) :: .ref a :: rest)) := va_put (D := D) (ci := 0) (v := .int (iI v)) (ty := .int) (C := RX0) (T := TX0) (N := 13) hC.1 hC.2.1 hC.2.2.2.2.1 inT0 tyX0 tyX0_ok nmX0 hC.2.2.2.1 hC.2.2.2.2.2.1 hP hD hS q0 he rfl 11 (by decide) (x_w hC hlk rfl) (fun _ h9 => h9) rfl (by decide +kernel) rfl rfl (Nat.le_of_ble_eq_true rfl) d kk
theorem x_put0_12 (hC : Cx p s m args c cc nL RX0 D cs) (hP : va_P D vwCl ws H) (hD : va_D A ws) (hS : va_S A H0 H locs) (q0 : Nat) {h : Nat → Nat} {o : Nat → Bool} {G : Int → Int} {v : Int} (he : ws[q0]? = some (a, obB h o G)) {idx : Nat} (hlk : Cond.fieldLink RX0 idx RX0 (TX0 12).2.1 (TX0 12).2.2.1 ∈ lw_tbl) (d : decode cc pc = .ok (.putfield idx, 3)) (kk : ∀ (H1 : Heap) (locs1 : List Loc), va_P D vwCl (ws.set q0 (a, obB h o (u1 G 12 v))) H1 → va_D A (ws.set q0 (a, obB h o (u1 G 12 v))) → va_S A H0 H1 locs1 → W p l e R s m args below meth c H1 locs1 cells slots Q (F0 m (pc + 3) ls rest)) : W p l e R s m args below meth c H locs cells slots Q (F0 m pc ls (.int (iI v) :: .ref a :: rest)) := va_put (D := D) (ci := 0) (v := .int (iI v)) (ty := .int) (C := RX0) (T := TX0) (N := 13) hC.1 hC.2.1 hC.2.2.2.2.1 inT0 tyX0 tyX0_ok nmX0 hC.2.2.2.1 hC.2.2.2.2.2.1 hP hD hS q0 he rfl 12 (by decide) (x_w hC hlk rfl) (fun _ h9 => h9) rfl (by decide +kernel) rfl rfl (Nat.le_of_ble_eq_true rfl) d kk
theorem inT1 : ∀ w ∈ u_ws RX1 TX1 3, w ∈ TB := fun w hw => tb_in ((by decide +kernel : ∀ w ∈ u_ws RX1 TX1 3, w ∈ lw_tbl) w hw) ((by decide +kernel : ∀ w ∈ u_ws RX1 TX1 3, goodWord w = true) w hw)
theorem x_get1 (hC : Cx p s m args c cc nL RX1 D cs) (hP : va_P D vwCl ws H) (q0 : Nat) {fs : List Value} (he : ws[q0]? = some (a, .inr (1, fs))) (k : Nat) (hk : k < 3) {idx : Nat} (hlk : Cond.fieldLink RX1 idx RX1 (TX1 k).2.1 (TX1 k).2.2.1 ∈ lw_tbl) (ho : (TX1 k).1 = RX1) {v : Value} (hv : fs[k]? = some v) (d : decode cc pc = .ok (.getfield idx, 3)) (kk : W p l e R s m args below meth c H locs cells slots Q (F0 m (pc + 3) ls (v :: rest))) : W p l e R s m args below meth c H locs cells slots Q (F0 m pc ls (.ref a :: rest)) := va_get (D := D) (ci := 1) (C := RX1) (T := TX1) (N := 3) hC.1 hC.2.1 hC.2.2.2.2.1 inT1 hC.2.2.2.1 hC.2.2.2.2.2.1 hP q0 he rfl k hk (x_w hC hlk rfl) (fun _ h9 => ho ▸ h9) hv d kk
def obH (b : Nat) (G : Int → Int) : va_E := .inr (1, [.ref b, .int (iI (G 1)), .int (iI (G 2))])
theorem x_put1_1 (hC : Cx p s m args c cc nL RX1 D cs) (hP : va_P D vwCl ws H) (hD : va_D A ws) (hS : va_S A H0 H locs) (q0 : Nat) {b : Nat} {G : Int → Int} {v : Int} (he : ws[q0]? = some (a, obH b G)) {idx : Nat} (hlk : Cond.fieldLink RX1 idx RX1 (TX1 1).2.1 (TX1 1).2.2.1 ∈ lw_tbl) (d : decode cc pc = .ok (.putfield idx, 3)) (kk : ∀ (H1 : Heap) (locs1 : List Loc), va_P D vwCl (ws.set q0 (a, obH b (u1 G 1 v))) H1 → va_D A (ws.set q0 (a, obH b (u1 G 1 v))) → va_S A H0 H1 locs1 → W p l e R s m args below meth c H1 locs1 cells slots Q (F0 m (pc + 3) ls rest)) : W p l e R s m args below meth c H locs cells slots Q (F0 m pc ls (.int (iI v) :: .ref a :: rest)) := va_put (D := D) (ci := 1) (v := .int (iI v)) (ty := .int) (C := RX1) (T := TX1) (N := 3) hC.1 hC.2.1 hC.2.2.2.2.1 inT1 tyX1 tyX1_ok nmX1 hC.2.2.2.1 hC.2.2.2.2.2.1 hP hD hS q0 he rfl 1 (by decide) (x_w hC hlk rfl) (fun _ h9 => h9) rfl (by decide +kernel) rfl rfl (Nat.le_of_ble_eq_true rfl) d kk
theorem x_put1_2 (hC : Cx p s m args c cc nL RX1 D cs) (hP : va_P D vwCl ws H) (hD : va_D A ws) (hS : va_S A H0 H locs) (q0 : Nat) {b : Nat} {G : Int → Int} {v : Int} (he : ws[q0]? = some (a, obH b G)) {idx : Nat} (hlk : Cond.fieldLink RX1 idx RX1 (TX1 2).2.1 (TX1 2).2.2.1 ∈ lw_tbl) (d : decode cc pc = .ok (.putfield idx, 3)) (kk : ∀ (H1 : Heap) (locs1 : List Loc), va_P D vwCl (ws.set q0 (a, obH b (u1 G 2 v))) H1 → va_D A (ws.set q0 (a, obH b (u1 G 2 v))) → va_S A H0 H1 locs1 → W p l e R s m args below meth c H1 locs1 cells slots Q (F0 m (pc + 3) ls rest)) : W p l e R s m args below meth c H locs cells slots Q (F0 m pc ls (.int (iI v) :: .ref a :: rest)) := va_put (D := D) (ci := 1) (v := .int (iI v)) (ty := .int) (C := RX1) (T := TX1) (N := 3) hC.1 hC.2.1 hC.2.2.2.2.1 inT1 tyX1 tyX1_ok nmX1 hC.2.2.2.1 hC.2.2.2.2.2.1 hP hD hS q0 he rfl 2 (by decide) (x_w hC hlk rfl) (fun _ h9 => h9) rfl (by decide +kernel) rfl rfl (Nat.le_of_ble_eq_true rfl) d kk
theorem inT2 : ∀ w ∈ u_ws RX2 TX2 3, w ∈ TB := fun w hw => tb_in ((by decide +kernel : ∀ w ∈ u_ws RX2 TX2 3, w ∈ lw_tbl) w hw) ((by decide +kernel : ∀ w ∈ u_ws RX2 TX2 3, goodWord w = true) w hw)
theorem x_get2 (hC : Cx p s m args c cc nL RX2 D cs) (hP : va_P D vwCl ws H) (q0 : Nat) {fs : List Value} (he : ws[q0]? = some (a, .inr (2, fs))) (k : Nat) (hk : k < 3) {idx : Nat} (hlk : Cond.fieldLink RX2 idx RX2 (TX2 k).2.1 (TX2 k).2.2.1 ∈ lw_tbl) (ho : (TX2 k).1 = RX2) {v : Value} (hv : fs[k]? = some v) (d : decode cc pc = .ok (.getfield idx, 3)) (kk : W p l e R s m args below meth c H locs cells slots Q (F0 m (pc + 3) ls (v :: rest))) : W p l e R s m args below meth c H locs cells slots Q (F0 m pc ls (.ref a :: rest)) := va_get (D := D) (ci := 2) (C := RX2) (T := TX2) (N := 3) hC.1 hC.2.1 hC.2.2.2.2.1 inT2 hC.2.2.2.1 hC.2.2.2.2.2.1 hP q0 he rfl k hk (x_w hC hlk rfl) (fun _ h9 => ho ▸ h9) hv d kk
def obO (b : Nat) (G : Int → Int) : va_E := .inr (2, [.ref b, .int (iI (G 1)), .int (iI (G 2))])
theorem x_put2_1 (hC : Cx p s m args c cc nL RX2 D cs) (hP : va_P D vwCl ws H) (hD : va_D A ws) (hS : va_S A H0 H locs) (q0 : Nat) {b : Nat} {G : Int → Int} {v : Int} (he : ws[q0]? = some (a, obO b G)) {idx : Nat} (hlk : Cond.fieldLink RX2 idx RX2 (TX2 1).2.1 (TX2 1).2.2.1 ∈ lw_tbl) (hz : ∀ ty, parseFieldDescriptor (TX2 1).2.2.1 = some ty → narrow ty (.int (iI v)) = .int (iI v) ∧ fits ty (.int (iI v)) = true) (d : decode cc pc = .ok (.putfield idx, 3)) (kk : ∀ (H1 : Heap) (locs1 : List Loc), va_P D vwCl (ws.set q0 (a, obO b (u1 G 1 v))) H1 → va_D A (ws.set q0 (a, obO b (u1 G 1 v))) → va_S A H0 H1 locs1 → W p l e R s m args below meth c H1 locs1 cells slots Q (F0 m (pc + 3) ls rest)) : W p l e R s m args below meth c H locs cells slots Q (F0 m pc ls (.int (iI v) :: .ref a :: rest)) := va_put (D := D) (ci := 2) (v := .int (iI v)) (ty := .char) (C := RX2) (T := TX2) (N := 3) hC.1 hC.2.1 hC.2.2.2.2.1 inT2 tyX2 tyX2_ok nmX2 hC.2.2.2.1 hC.2.2.2.2.2.1 hP hD hS q0 he rfl 1 (by decide) (x_w hC hlk rfl) (fun _ h9 => h9) rfl (by decide +kernel) (hz _ (by decide +kernel)).1 (hz _ (by decide +kernel)).2 (Nat.le_of_ble_eq_true rfl) d kk
theorem x_put2_2 (hC : Cx p s m args c cc nL RX2 D cs) (hP : va_P D vwCl ws H) (hD : va_D A ws) (hS : va_S A H0 H locs) (q0 : Nat) {b : Nat} {G : Int → Int} {v : Int} (he : ws[q0]? = some (a, obO b G)) {idx : Nat} (hlk : Cond.fieldLink RX2 idx RX2 (TX2 2).2.1 (TX2 2).2.2.1 ∈ lw_tbl) (d : decode cc pc = .ok (.putfield idx, 3)) (kk : ∀ (H1 : Heap) (locs1 : List Loc), va_P D vwCl (ws.set q0 (a, obO b (u1 G 2 v))) H1 → va_D A (ws.set q0 (a, obO b (u1 G 2 v))) → va_S A H0 H1 locs1 → W p l e R s m args below meth c H1 locs1 cells slots Q (F0 m (pc + 3) ls rest)) : W p l e R s m args below meth c H locs cells slots Q (F0 m pc ls (.int (iI v) :: .ref a :: rest)) := va_put (D := D) (ci := 2) (v := .int (iI v)) (ty := .int) (C := RX2) (T := TX2) (N := 3) hC.1 hC.2.1 hC.2.2.2.2.1 inT2 tyX2 tyX2_ok nmX2 hC.2.2.2.1 hC.2.2.2.2.2.1 hP hD hS q0 he rfl 2 (by decide) (x_w hC hlk rfl) (fun _ h9 => h9) rfl (by decide +kernel) rfl rfl (Nat.le_of_ble_eq_true rfl) d kk
theorem inT3 : ∀ w ∈ u_ws RX3 TX3 7, w ∈ TB := fun w hw => tb_in ((by decide +kernel : ∀ w ∈ u_ws RX3 TX3 7, w ∈ lw_tbl) w hw) ((by decide +kernel : ∀ w ∈ u_ws RX3 TX3 7, goodWord w = true) w hw)
theorem x_get3 (hC : Cx p s m args c cc nL RX3 D cs) (hP : va_P D vwCl ws H) (q0 : Nat) {fs : List Value} (he : ws[q0]? = some (a, .inr (3, fs))) (k : Nat) (hk : k < 7) {idx : Nat} (hlk : Cond.fieldLink RX3 idx RX3 (TX3 k).2.1 (TX3 k).2.2.1 ∈ lw_tbl) (ho : (TX3 k).1 = RX3) {v : Value} (hv : fs[k]? = some v) (d : decode cc pc = .ok (.getfield idx, 3)) (kk : W p l e R s m args below meth c H locs cells slots Q (F0 m (pc + 3) ls (v :: rest))) : W p l e R s m args below meth c H locs cells slots Q (F0 m pc ls (.ref a :: rest)) := va_get (D := D) (ci := 3) (C := RX3) (T := TX3) (N := 7) hC.1 hC.2.1 hC.2.2.2.2.1 inT3 hC.2.2.2.1 hC.2.2.2.2.2.1 hP q0 he rfl k hk (x_w hC hlk rfl) (fun _ h9 => ho ▸ h9) hv d kk
def obS (b b2 : Nat) (G : Int → Int) : va_E := .inr (3, [.ref b, .ref b2, .int (iI (G 2)), .int (iI (G 3)), .int (iI (G 4)), .int (iI (G 5)), .int (iI (G 6))])
theorem x_put3_2 (hC : Cx p s m args c cc nL RX3 D cs) (hP : va_P D vwCl ws H) (hD : va_D A ws) (hS : va_S A H0 H locs) (q0 : Nat) {b b2 : Nat} {G : Int → Int} {v : Int} (he : ws[q0]? = some (a, obS b b2 G)) {idx : Nat} (hlk : Cond.fieldLink RX3 idx RX3 (TX3 2).2.1 (TX3 2).2.2.1 ∈ lw_tbl) (d : decode cc pc = .ok (.putfield idx, 3)) (kk : ∀ (H1 : Heap) (locs1 : List Loc), va_P D vwCl (ws.set q0 (a, obS b b2 (u1 G 2 v))) H1 → va_D A (ws.set q0 (a, obS b b2 (u1 G 2 v))) → va_S A H0 H1 locs1 → W p l e R s m args below meth c H1 locs1 cells slots Q (F0 m (pc + 3) ls rest)) : W p l e R s m args below meth c H locs cells slots Q (F0 m pc ls (.int (iI v) :: .ref a :: rest)) := va_put (D := D) (ci := 3) (v := .int (iI v)) (ty := .int) (C := RX3) (T := TX3) (N := 7) hC.1 hC.2.1 hC.2.2.2.2.1 inT3 tyX3 tyX3_ok nmX3 hC.2.2.2.1 hC.2.2.2.2.2.1 hP hD hS q0 he rfl 2 (by decide) (x_w hC hlk rfl) (fun _ h9 => h9) rfl (by decide +kernel) rfl rfl (Nat.le_of_ble_eq_true rfl) d kk
theorem x_put3_3 (hC : Cx p s m args c cc nL RX3 D cs) (hP : va_P D vwCl ws H) (hD : va_D A ws) (hS : va_S A H0 H locs) (q0 : Nat) {b b2 : Nat} {G : Int → Int} {v : Int} (he : ws[q0]? = some (a, obS b b2 G)) {idx : Nat} (hlk : Cond.fieldLink RX3 idx RX3 (TX3 3).2.1 (TX3 3).2.2.1 ∈ lw_tbl) (d : decode cc pc = .ok (.putfield idx, 3)) (kk : ∀ (H1 : Heap) (locs1 : List Loc), va_P D vwCl (ws.set q0 (a, obS b b2 (u1 G 3 v))) H1 → va_D A (ws.set q0 (a, obS b b2 (u1 G 3 v))) → va_S A H0 H1 locs1 → W p l e R s m args below meth c H1 locs1 cells slots Q (F0 m (pc + 3) ls rest)) : W p l e R s m args below meth c H locs cells slots Q (F0 m pc ls (.int (iI v) :: .ref a :: rest)) := va_put (D := D) (ci := 3) (v := .int (iI v)) (ty := .int) (C := RX3) (T := TX3) (N := 7) hC.1 hC.2.1 hC.2.2.2.2.1 inT3 tyX3 tyX3_ok nmX3 hC.2.2.2.1 hC.2.2.2.2.2.1 hP hD hS q0 he rfl 3 (by decide) (x_w hC hlk rfl) (fun _ h9 => h9) rfl (by decide +kernel) rfl rfl (Nat.le_of_ble_eq_true rfl) d kk
theorem x_put3_4 (hC : Cx p s m args c cc nL RX3 D cs) (hP : va_P D vwCl ws H) (hD : va_D A ws) (hS : va_S A H0 H locs) (q0 : Nat) {b b2 : Nat} {G : Int → Int} {v : Int} (he : ws[q0]? = some (a, obS b b2 G)) {idx : Nat} (hlk : Cond.fieldLink RX3 idx RX3 (TX3 4).2.1 (TX3 4).2.2.1 ∈ lw_tbl) (d : decode cc pc = .ok (.putfield idx, 3)) (kk : ∀ (H1 : Heap) (locs1 : List Loc), va_P D vwCl (ws.set q0 (a, obS b b2 (u1 G 4 v))) H1 → va_D A (ws.set q0 (a, obS b b2 (u1 G 4 v))) → va_S A H0 H1 locs1 → W p l e R s m args below meth c H1 locs1 cells slots Q (F0 m (pc + 3) ls rest)) : W p l e R s m args below meth c H locs cells slots Q (F0 m pc ls (.int (iI v) :: .ref a :: rest)) := va_put (D := D) (ci := 3) (v := .int (iI v)) (ty := .int) (C := RX3) (T := TX3) (N := 7) hC.1 hC.2.1 hC.2.2.2.2.1 inT3 tyX3 tyX3_ok nmX3 hC.2.2.2.1 hC.2.2.2.2.2.1 hP hD hS q0 he rfl 4 (by decide) (x_w hC hlk rfl) (fun _ h9 => h9) rfl (by decide +kernel) rfl rfl (Nat.le_of_ble_eq_true rfl) d kk
theorem x_put3_5 (hC : Cx p s m args c cc nL RX3 D cs) (hP : va_P D vwCl ws H) (hD : va_D A ws) (hS : va_S A H0 H locs) (q0 : Nat) {b b2 : Nat} {G : Int → Int} {v : Int} (he : ws[q0]? = some (a, obS b b2 G)) {idx : Nat} (hlk : Cond.fieldLink RX3 idx RX3 (TX3 5).2.1 (TX3 5).2.2.1 ∈ lw_tbl) (d : decode cc pc = .ok (.putfield idx, 3)) (kk : ∀ (H1 : Heap) (locs1 : List Loc), va_P D vwCl (ws.set q0 (a, obS b b2 (u1 G 5 v))) H1 → va_D A (ws.set q0 (a, obS b b2 (u1 G 5 v))) → va_S A H0 H1 locs1 → W p l e R s m args below meth c H1 locs1 cells slots Q (F0 m (pc + 3) ls rest)) : W p l e R s m args below meth c H locs cells slots Q (F0 m pc ls (.int (iI v) :: .ref a :: rest)) := va_put (D := D) (ci := 3) (v := .int (iI v)) (ty := .int) (C := RX3) (T := TX3) (N := 7) hC.1 hC.2.1 hC.2.2.2.2.1 inT3 tyX3 tyX3_ok nmX3 hC.2.2.2.1 hC.2.2.2.2.2.1 hP hD hS q0 he rfl 5 (by decide) (x_w hC hlk rfl) (fun _ h9 => h9) rfl (by decide +kernel) rfl rfl (Nat.le_of_ble_eq_true rfl) d kk
theorem x_put3_6 (hC : Cx p s m args c cc nL RX3 D cs) (hP : va_P D vwCl ws H) (hD : va_D A ws) (hS : va_S A H0 H locs) (q0 : Nat) {b b2 : Nat} {G : Int → Int} {v : Int} (he : ws[q0]? = some (a, obS b b2 G)) {idx : Nat} (hlk : Cond.fieldLink RX3 idx RX3 (TX3 6).2.1 (TX3 6).2.2.1 ∈ lw_tbl) (d : decode cc pc = .ok (.putfield idx, 3)) (kk : ∀ (H1 : Heap) (locs1 : List Loc), va_P D vwCl (ws.set q0 (a, obS b b2 (u1 G 6 v))) H1 → va_D A (ws.set q0 (a, obS b b2 (u1 G 6 v))) → va_S A H0 H1 locs1 → W p l e R s m args below meth c H1 locs1 cells slots Q (F0 m (pc + 3) ls rest)) : W p l e R s m args below meth c H locs cells slots Q (F0 m pc ls (.int (iI v) :: .ref a :: rest)) := va_put (D := D) (ci := 3) (v := .int (iI v)) (ty := .int) (C := RX3) (T := TX3) (N := 7) hC.1 hC.2.1 hC.2.2.2.2.1 inT3 tyX3 tyX3_ok nmX3 hC.2.2.2.1 hC.2.2.2.2.2.1 hP hD hS q0 he rfl 6 (by decide) (x_w hC hlk rfl) (fun _ h9 => h9) rfl (by decide +kernel) rfl rfl (Nat.le_of_ble_eq_true rfl) d kk
theorem inT4 : ∀ w ∈ u_ws RX4 TX4 4, w ∈ TB := fun w hw => tb_in ((by decide +kernel : ∀ w ∈ u_ws RX4 TX4 4, w ∈ lw_tbl) w hw) ((by decide +kernel : ∀ w ∈ u_ws RX4 TX4 4, goodWord w = true) w hw)
theorem x_get4 (hC : Cx p s m args c cc nL RX4 D cs) (hP : va_P D vwCl ws H) (q0 : Nat) {fs : List Value} (he : ws[q0]? = some (a, .inr (4, fs))) (k : Nat) (hk : k < 4) {idx : Nat} (hlk : Cond.fieldLink RX4 idx RX4 (TX4 k).2.1 (TX4 k).2.2.1 ∈ lw_tbl) (ho : (TX4 k).1 = RX4) {v : Value} (hv : fs[k]? = some v) (d : decode cc pc = .ok (.getfield idx, 3)) (kk : W p l e R s m args below meth c H locs cells slots Q (F0 m (pc + 3) ls (v :: rest))) : W p l e R s m args below meth c H locs cells slots Q (F0 m pc ls (.ref a :: rest)) := va_get (D := D) (ci := 4) (C := RX4) (T := TX4) (N := 4) hC.1 hC.2.1 hC.2.2.2.2.1 inT4 hC.2.2.2.1 hC.2.2.2.2.2.1 hP q0 he rfl k hk (x_w hC hlk rfl) (fun _ h9 => ho ▸ h9) hv d kk
theorem inT5 : ∀ w ∈ u_ws RX5 TX5 17, w ∈ TB := fun w hw => tb_in ((by decide +kernel : ∀ w ∈ u_ws RX5 TX5 17, w ∈ lw_tbl) w hw) ((by decide +kernel : ∀ w ∈ u_ws RX5 TX5 17, goodWord w = true) w hw)
theorem x_get5 (hC : Cx p s m args c cc nL RX5 D cs) (hP : va_P D vwCl ws H) (q0 : Nat) {fs : List Value} (he : ws[q0]? = some (a, .inr (5, fs))) (k : Nat) (hk : k < 17) {idx : Nat} (hlk : Cond.fieldLink RX5 idx RX5 (TX5 k).2.1 (TX5 k).2.2.1 ∈ lw_tbl) (ho : (TX5 k).1 = RX5) {v : Value} (hv : fs[k]? = some v) (d : decode cc pc = .ok (.getfield idx, 3)) (kk : W p l e R s m args below meth c H locs cells slots Q (F0 m (pc + 3) ls (v :: rest))) : W p l e R s m args below meth c H locs cells slots Q (F0 m pc ls (.ref a :: rest)) := va_get (D := D) (ci := 5) (C := RX5) (T := TX5) (N := 17) hC.1 hC.2.1 hC.2.2.2.2.1 inT5 hC.2.2.2.1 hC.2.2.2.2.2.1 hP q0 he rfl k hk (x_w hC hlk rfl) (fun _ h9 => ho ▸ h9) hv d kk
def obM (h : Nat → Nat) (G : Int → Int) : va_E := .inr (5, [.int (iI (G 0)), .ref (h 1), .ref (h 2), .ref (h 3), .int (iI (G 4)), .ref (h 4), .int (iI (G 6)), .ref (h 5), .int (iI (G 8)), .int (iI (G 9)), .int (iI (G 10)), .int (iI (G 11)), .int (iI (G 12)), .int (iI (G 13)), .int (iI (G 14)), .int (iI (G 15)), .int (iI (G 16))])
theorem x_put5_0 (hC : Cx p s m args c cc nL RX5 D cs) (hP : va_P D vwCl ws H) (hD : va_D A ws) (hS : va_S A H0 H locs) (q0 : Nat) {h : Nat → Nat} {G : Int → Int} {v : Int} (he : ws[q0]? = some (a, obM h G)) {idx : Nat} (hlk : Cond.fieldLink RX5 idx RX5 (TX5 0).2.1 (TX5 0).2.2.1 ∈ lw_tbl) (d : decode cc pc = .ok (.putfield idx, 3)) (kk : ∀ (H1 : Heap) (locs1 : List Loc), va_P D vwCl (ws.set q0 (a, obM h (u1 G 0 v))) H1 → va_D A (ws.set q0 (a, obM h (u1 G 0 v))) → va_S A H0 H1 locs1 → W p l e R s m args below meth c H1 locs1 cells slots Q (F0 m (pc + 3) ls rest)) : W p l e R s m args below meth c H locs cells slots Q (F0 m pc ls (.int (iI v) :: .ref a :: rest)) := va_put (D := D) (ci := 5) (v := .int (iI v)) (ty := .int) (C := RX5) (T := TX5) (N := 17) hC.1 hC.2.1 hC.2.2.2.2.1 inT5 tyX5 tyX5_ok nmX5 hC.2.2.2.1 hC.2.2.2.2.2.1 hP hD hS q0 he rfl 0 (by decide) (x_w hC hlk rfl) (fun _ h9 => h9) rfl (by decide +kernel) rfl rfl (Nat.le_of_ble_eq_true rfl) d kk
theorem x_put5_4 (hC : Cx p s m args c cc nL RX5 D cs) (hP : va_P D vwCl ws H) (hD : va_D A ws) (hS : va_S A H0 H locs) (q0 : Nat) {h : Nat → Nat} {G : Int → Int} {v : Int} (he : ws[q0]? = some (a, obM h G)) {idx : Nat} (hlk : Cond.fieldLink RX5 idx RX5 (TX5 4).2.1 (TX5 4).2.2.1 ∈ lw_tbl) (d : decode cc pc = .ok (.putfield idx, 3)) (kk : ∀ (H1 : Heap) (locs1 : List Loc), va_P D vwCl (ws.set q0 (a, obM h (u1 G 4 v))) H1 → va_D A (ws.set q0 (a, obM h (u1 G 4 v))) → va_S A H0 H1 locs1 → W p l e R s m args below meth c H1 locs1 cells slots Q (F0 m (pc + 3) ls rest)) : W p l e R s m args below meth c H locs cells slots Q (F0 m pc ls (.int (iI v) :: .ref a :: rest)) := va_put (D := D) (ci := 5) (v := .int (iI v)) (ty := .int) (C := RX5) (T := TX5) (N := 17) hC.1 hC.2.1 hC.2.2.2.2.1 inT5 tyX5 tyX5_ok nmX5 hC.2.2.2.1 hC.2.2.2.2.2.1 hP hD hS q0 he rfl 4 (by decide) (x_w hC hlk rfl) (fun _ h9 => h9) rfl (by decide +kernel) rfl rfl (Nat.le_of_ble_eq_true rfl) d kk
theorem x_put5_6 (hC : Cx p s m args c cc nL RX5 D cs) (hP : va_P D vwCl ws H) (hD : va_D A ws) (hS : va_S A H0 H locs) (q0 : Nat) {h : Nat → Nat} {G : Int → Int} {v : Int} (he : ws[q0]? = some (a, obM h G)) {idx : Nat} (hlk : Cond.fieldLink RX5 idx RX5 (TX5 6).2.1 (TX5 6).2.2.1 ∈ lw_tbl) (d : decode cc pc = .ok (.putfield idx, 3)) (kk : ∀ (H1 : Heap) (locs1 : List Loc), va_P D vwCl (ws.set q0 (a, obM h (u1 G 6 v))) H1 → va_D A (ws.set q0 (a, obM h (u1 G 6 v))) → va_S A H0 H1 locs1 → W p l e R s m args below meth c H1 locs1 cells slots Q (F0 m (pc + 3) ls rest)) : W p l e R s m args below meth c H locs cells slots Q (F0 m pc ls (.int (iI v) :: .ref a :: rest)) := va_put (D := D) (ci := 5) (v := .int (iI v)) (ty := .int) (C := RX5) (T := TX5) (N := 17) hC.1 hC.2.1 hC.2.2.2.2.1 inT5 tyX5 tyX5_ok nmX5 hC.2.2.2.1 hC.2.2.2.2.2.1 hP hD hS q0 he rfl 6 (by decide) (x_w hC hlk rfl) (fun _ h9 => h9) rfl (by decide +kernel) rfl rfl (Nat.le_of_ble_eq_true rfl) d kk
theorem x_put5_8 (hC : Cx p s m args c cc nL RX5 D cs) (hP : va_P D vwCl ws H) (hD : va_D A ws) (hS : va_S A H0 H locs) (q0 : Nat) {h : Nat → Nat} {G : Int → Int} {v : Int} (he : ws[q0]? = some (a, obM h G)) {idx : Nat} (hlk : Cond.fieldLink RX5 idx RX5 (TX5 8).2.1 (TX5 8).2.2.1 ∈ lw_tbl) (d : decode cc pc = .ok (.putfield idx, 3)) (kk : ∀ (H1 : Heap) (locs1 : List Loc), va_P D vwCl (ws.set q0 (a, obM h (u1 G 8 v))) H1 → va_D A (ws.set q0 (a, obM h (u1 G 8 v))) → va_S A H0 H1 locs1 → W p l e R s m args below meth c H1 locs1 cells slots Q (F0 m (pc + 3) ls rest)) : W p l e R s m args below meth c H locs cells slots Q (F0 m pc ls (.int (iI v) :: .ref a :: rest)) := va_put (D := D) (ci := 5) (v := .int (iI v)) (ty := .int) (C := RX5) (T := TX5) (N := 17) hC.1 hC.2.1 hC.2.2.2.2.1 inT5 tyX5 tyX5_ok nmX5 hC.2.2.2.1 hC.2.2.2.2.2.1 hP hD hS q0 he rfl 8 (by decide) (x_w hC hlk rfl) (fun _ h9 => h9) rfl (by decide +kernel) rfl rfl (Nat.le_of_ble_eq_true rfl) d kk
theorem x_put5_9 (hC : Cx p s m args c cc nL RX5 D cs) (hP : va_P D vwCl ws H) (hD : va_D A ws) (hS : va_S A H0 H locs) (q0 : Nat) {h : Nat → Nat} {G : Int → Int} {v : Int} (he : ws[q0]? = some (a, obM h G)) {idx : Nat} (hlk : Cond.fieldLink RX5 idx RX5 (TX5 9).2.1 (TX5 9).2.2.1 ∈ lw_tbl) (d : decode cc pc = .ok (.putfield idx, 3)) (kk : ∀ (H1 : Heap) (locs1 : List Loc), va_P D vwCl (ws.set q0 (a, obM h (u1 G 9 v))) H1 → va_D A (ws.set q0 (a, obM h (u1 G 9 v))) → va_S A H0 H1 locs1 → W p l e R s m args below meth c H1 locs1 cells slots Q (F0 m (pc + 3) ls rest)) : W p l e R s m args below meth c H locs cells slots Q (F0 m pc ls (.int (iI v) :: .ref a :: rest)) := va_put (D := D) (ci := 5) (v := .int (iI v)) (ty := .int) (C := RX5) (T := TX5) (N := 17) hC.1 hC.2.1 hC.2.2.2.2.1 inT5 tyX5 tyX5_ok nmX5 hC.2.2.2.1 hC.2.2.2.2.2.1 hP hD hS q0 he rfl 9 (by decide) (x_w hC hlk rfl) (fun _ h9 => h9) rfl (by decide +kernel) rfl rfl (Nat.le_of_ble_eq_true rfl) d kk
theorem x_put5_10 (hC : Cx p s m args c cc nL RX5 D cs) (hP : va_P D vwCl ws H) (hD : va_D A ws) (hS : va_S A H0 H locs) (q0 : Nat) {h : Nat → Nat} {G : Int → Int} {v : Int} (he : ws[q0]? = some (a, obM h G)) {idx : Nat} (hlk : Cond.fieldLink RX5 idx RX5 (TX5 10).2.1 (TX5 10).2.2.1 ∈ lw_tbl) (d : decode cc pc = .ok (.putfield idx, 3)) (kk : ∀ (H1 : Heap) (locs1 : List Loc), va_P D vwCl (ws.set q0 (a, obM h (u1 G 10 v))) H1 → va_D A (ws.set q0 (a, obM h (u1 G 10 v))) → va_S A H0 H1 locs1 → W p l e R s m args below meth c H1 locs1 cells slots Q (F0 m (pc + 3) ls rest)) : W p l e R s m args below meth c H locs cells slots Q (F0 m pc ls (.int (iI v) :: .ref a :: rest)) := va_put (D := D) (ci := 5) (v := .int (iI v)) (ty := .int) (C := RX5) (T := TX5) (N := 17) hC.1 hC.2.1 hC.2.2.2.2.1 inT5 tyX5 tyX5_ok nmX5 hC.2.2.2.1 hC.2.2.2.2.2.1 hP hD hS q0 he rfl 10 (by decide) (x_w hC hlk rfl) (fun _ h9 => h9) rfl (by decide +kernel) rfl rfl (Nat.le_of_ble_eq_true rfl) d kk
theorem x_put5_11 (hC : Cx p s m args c cc nL RX5 D cs) (hP : va_P D vwCl ws H) (hD : va_D A ws) (hS : va_S A H0 H locs) (q0 : Nat) {h : Nat → Nat} {G : Int → Int} {v : Int} (he : ws[q0]? = some (a, obM h G)) {idx : Nat} (hlk : Cond.fieldLink RX5 idx RX5 (TX5 11).2.1 (TX5 11).2.2.1 ∈ lw_tbl) (d : decode cc pc = .ok (.putfield idx, 3)) (kk : ∀ (H1 : Heap) (locs1 : List Loc), va_P D vwCl (ws.set q0 (a, obM h (u1 G 11 v))) H1 → va_D A (ws.set q0 (a, obM h (u1 G 11 v))) → va_S A H0 H1 locs1 → W p l e R s m args below meth c H1 locs1 cells slots Q (F0 m (pc + 3) ls rest)) : W p l e R s m args below meth c H locs cells slots Q (F0 m pc ls (.int (iI v) :: .ref a :: rest)) := va_put (D := D) (ci := 5) (v := .int (iI v)) (ty := .int) (C := RX5) (T := TX5) (N := 17) hC.1 hC.2.1 hC.2.2.2.2.1 inT5 tyX5 tyX5_ok nmX5 hC.2.2.2.1 hC.2.2.2.2.2.1 hP hD hS q0 he rfl 11 (by decide) (x_w hC hlk rfl) (fun _ h9 => h9) rfl (by decide +kernel) rfl rfl (Nat.le_of_ble_eq_true rfl) d kk
theorem x_put5_12 (hC : Cx p s m args c cc nL RX5 D cs) (hP : va_P D vwCl ws H) (hD : va_D A ws) (hS : va_S A H0 H locs) (q0 : Nat) {h : Nat → Nat} {G : Int → Int} {v : Int} (he : ws[q0]? = some (a, obM h G)) {idx : Nat} (hlk : Cond.fieldLink RX5 idx RX5 (TX5 12).2.1 (TX5 12).2.2.1 ∈ lw_tbl) (hz : ∀ ty, parseFieldDescriptor (TX5 12).2.2.1 = some ty → narrow ty (.int (iI v)) = .int (iI v) ∧ fits ty (.int (iI v)) = true) (d : decode cc pc = .ok (.putfield idx, 3)) (kk : ∀ (H1 : Heap) (locs1 : List Loc), va_P D vwCl (ws.set q0 (a, obM h (u1 G 12 v))) H1 → va_D A (ws.set q0 (a, obM h (u1 G 12 v))) → va_S A H0 H1 locs1 → W p l e R s m args below meth c H1 locs1 cells slots Q (F0 m (pc + 3) ls rest)) : W p l e R s m args below meth c H locs cells slots Q (F0 m pc ls (.int (iI v) :: .ref a :: rest)) := va_put (D := D) (ci := 5) (v := .int (iI v)) (ty := .boolean) (C := RX5) (T := TX5) (N := 17) hC.1 hC.2.1 hC.2.2.2.2.1 inT5 tyX5 tyX5_ok nmX5 hC.2.2.2.1 hC.2.2.2.2.2.1 hP hD hS q0 he rfl 12 (by decide) (x_w hC hlk rfl) (fun _ h9 => h9) rfl (by decide +kernel) (hz _ (by decide +kernel)).1 (hz _ (by decide +kernel)).2 (Nat.le_of_ble_eq_true rfl) d kk
theorem x_put5_13 (hC : Cx p s m args c cc nL RX5 D cs) (hP : va_P D vwCl ws H) (hD : va_D A ws) (hS : va_S A H0 H locs) (q0 : Nat) {h : Nat → Nat} {G : Int → Int} {v : Int} (he : ws[q0]? = some (a, obM h G)) {idx : Nat} (hlk : Cond.fieldLink RX5 idx RX5 (TX5 13).2.1 (TX5 13).2.2.1 ∈ lw_tbl) (d : decode cc pc = .ok (.putfield idx, 3)) (kk : ∀ (H1 : Heap) (locs1 : List Loc), va_P D vwCl (ws.set q0 (a, obM h (u1 G 13 v))) H1 → va_D A (ws.set q0 (a, obM h (u1 G 13 v))) → va_S A H0 H1 locs1 → W p l e R s m args below meth c H1 locs1 cells slots Q (F0 m (pc + 3) ls rest)) : W p l e R s m args below meth c H locs cells slots Q (F0 m pc ls (.int (iI v) :: .ref a :: rest)) := va_put (D := D) (ci := 5) (v := .int (iI v)) (ty := .int) (C := RX5) (T := TX5) (N := 17) hC.1 hC.2.1 hC.2.2.2.2.1 inT5 tyX5 tyX5_ok nmX5 hC.2.2.2.1 hC.2.2.2.2.2.1 hP hD hS q0 he rfl 13 (by decide) (x_w hC hlk rfl) (fun _ h9 => h9) rfl (by decide +kernel) rfl rfl (Nat.le_of_ble_eq_true rfl) d kk
theorem x_put5_14 (hC : Cx p s m args c cc nL RX5 D cs) (hP : va_P D vwCl ws H) (hD : va_D A ws) (hS : va_S A H0 H locs) (q0 : Nat) {h : Nat → Nat} {G : Int → Int} {v : Int} (he : ws[q0]? = some (a, obM h G)) {idx : Nat} (hlk : Cond.fieldLink RX5 idx RX5 (TX5 14).2.1 (TX5 14).2.2.1 ∈ lw_tbl) (d : decode cc pc = .ok (.putfield idx, 3)) (kk : ∀ (H1 : Heap) (locs1 : List Loc), va_P D vwCl (ws.set q0 (a, obM h (u1 G 14 v))) H1 → va_D A (ws.set q0 (a, obM h (u1 G 14 v))) → va_S A H0 H1 locs1 → W p l e R s m args below meth c H1 locs1 cells slots Q (F0 m (pc + 3) ls rest)) : W p l e R s m args below meth c H locs cells slots Q (F0 m pc ls (.int (iI v) :: .ref a :: rest)) := va_put (D := D) (ci := 5) (v := .int (iI v)) (ty := .int) (C := RX5) (T := TX5) (N := 17) hC.1 hC.2.1 hC.2.2.2.2.1 inT5 tyX5 tyX5_ok nmX5 hC.2.2.2.1 hC.2.2.2.2.2.1 hP hD hS q0 he rfl 14 (by decide) (x_w hC hlk rfl) (fun _ h9 => h9) rfl (by decide +kernel) rfl rfl (Nat.le_of_ble_eq_true rfl) d kk
theorem x_put5_15 (hC : Cx p s m args c cc nL RX5 D cs) (hP : va_P D vwCl ws H) (hD : va_D A ws) (hS : va_S A H0 H locs) (q0 : Nat) {h : Nat → Nat} {G : Int → Int} {v : Int} (he : ws[q0]? = some (a, obM h G)) {idx : Nat} (hlk : Cond.fieldLink RX5 idx RX5 (TX5 15).2.1 (TX5 15).2.2.1 ∈ lw_tbl) (d : decode cc pc = .ok (.putfield idx, 3)) (kk : ∀ (H1 : Heap) (locs1 : List Loc), va_P D vwCl (ws.set q0 (a, obM h (u1 G 15 v))) H1 → va_D A (ws.set q0 (a, obM h (u1 G 15 v))) → va_S A H0 H1 locs1 → W p l e R s m args below meth c H1 locs1 cells slots Q (F0 m (pc + 3) ls rest)) : W p l e R s m args below meth c H locs cells slots Q (F0 m pc ls (.int (iI v) :: .ref a :: rest)) := va_put (D := D) (ci := 5) (v := .int (iI v)) (ty := .int) (C := RX5) (T := TX5) (N := 17) hC.1 hC.2.1 hC.2.2.2.2.1 inT5 tyX5 tyX5_ok nmX5 hC.2.2.2.1 hC.2.2.2.2.2.1 hP hD hS q0 he rfl 15 (by decide) (x_w hC hlk rfl) (fun _ h9 => h9) rfl (by decide +kernel) rfl rfl (Nat.le_of_ble_eq_true rfl) d kk
theorem x_put5_16 (hC : Cx p s m args c cc nL RX5 D cs) (hP : va_P D vwCl ws H) (hD : va_D A ws) (hS : va_S A H0 H locs) (q0 : Nat) {h : Nat → Nat} {G : Int → Int} {v : Int} (he : ws[q0]? = some (a, obM h G)) {idx : Nat} (hlk : Cond.fieldLink RX5 idx RX5 (TX5 16).2.1 (TX5 16).2.2.1 ∈ lw_tbl) (d : decode cc pc = .ok (.putfield idx, 3)) (kk : ∀ (H1 : Heap) (locs1 : List Loc), va_P D vwCl (ws.set q0 (a, obM h (u1 G 16 v))) H1 → va_D A (ws.set q0 (a, obM h (u1 G 16 v))) → va_S A H0 H1 locs1 → W p l e R s m args below meth c H1 locs1 cells slots Q (F0 m (pc + 3) ls rest)) : W p l e R s m args below meth c H locs cells slots Q (F0 m pc ls (.int (iI v) :: .ref a :: rest)) := va_put (D := D) (ci := 5) (v := .int (iI v)) (ty := .int) (C := RX5) (T := TX5) (N := 17) hC.1 hC.2.1 hC.2.2.2.2.1 inT5 tyX5 tyX5_ok nmX5 hC.2.2.2.1 hC.2.2.2.2.2.1 hP hD hS q0 he rfl 16 (by decide) (x_w hC hlk rfl) (fun _ h9 => h9) rfl (by decide +kernel) rfl rfl (Nat.le_of_ble_eq_true rfl) d kk
/-- a part wc of the world ws goes to a callee and comes back as w1: then the world is ws' -/
def Sub (D : va_G) (A : Nat → Prop) (ws : va_W) (H : Heap) (wc w1 ws' : va_W) : Prop := va_P D vwCl wc H ∧ va_D (fun _ => True) wc ∧ (∀ q, va_A wc H.size q → A q) ∧ ∀ H1 : Heap, (∀ q : Nat, q < H.size → ¬ va_A wc H.size q → H1[q]? = H[q]?) → va_P D vwCl w1 H1 → va_D (va_A wc H.size) w1 → va_P D vwCl ws' H1 ∧ va_D A ws'
theorem sub_all {w1 : va_W} (hP : va_P D vwCl ws H) (hD : va_D A ws) (hS : va_S A H0 H locs) (hA : ∀ q, H0.size ≤ q → A q) : Sub D A ws H ws w1 w1 := by
  have hF : ∀ q, va_A ws H.size q → A q := by
    intro q h
    rcases h with ⟨k, e, h⟩ | h
    · exact hD.2 k (q, e) h
    · exact hA q (Nat.le_trans hS.1 h)
  exact ⟨hP, hD.weaken (fun _ _ _ _ => trivial), hF, fun H1 _ h1 h2 => ⟨h1, h2.weaken (fun _ q _ h => hF q.1 h)⟩⟩
theorem sub_none (hP : va_P D vwCl ws H) (hD : va_D A ws) (hS : va_S A H0 H locs) (hA : ∀ q, H0.size ≤ q → A q) : Sub D A ws H [] [] ws := by
  have hn : ∀ q, va_A [] H.size q → H.size ≤ q := by
    intro q h
    rcases h with ⟨k, e, h⟩ | h
    · simp at h
    · exact h
  refine ⟨fun k q h => by simp at h, ⟨fun i j p q h => by simp at h, fun k q h => by simp at h⟩, fun q h => hA q (Nat.le_trans hS.1 (hn q h)), fun H1 hk _ _ => ⟨fun k q h => ?_, hD⟩⟩
  have hl := (hP k q h).lt
  exact (hP k q h).kept (hk q.1 hl (fun h2 => absurd (hn _ h2) (by omega)))
theorem sub_part {pre pre' suf wc w1 : va_W} (isC isR : List Nat) (hP : va_P D vwCl (pre ++ suf) H) (hD : va_D A (pre ++ suf)) (hS : va_S A H0 H locs) (hA : ∀ q, H0.size ≤ q → A q)
    (hC : isC.map (fun i => pre[i]?) = wc.map some) (hC' : isC.map (fun i => pre'[i]?) = w1.map some) (hnd : va_nd isC = true) (hlen : pre'.length = pre.length) (hR : isR.map (fun i => pre'[i]?) = isR.map (fun i => pre[i]?)) (hcov : (List.range pre.length).all (fun i => isC.contains i || isR.contains i) = true) : Sub D A (pre ++ suf) H wc w1 (pre' ++ suf) := by
  have at1 : ∀ {ps w : va_W}, isC.map (fun i => ps[i]?) = w.map some → ∀ (k : Nat) (q : Nat × va_E), w[k]? = some q → ∃ i : Nat, isC[k]? = some i ∧ ps[i]? = some q := by
    intro ps w hs k q hq
    have h1 : (isC.map (fun i => ps[i]?))[k]? = some (some q) := by rw [hs, List.getElem?_map, hq]; rfl
    rw [List.getElem?_map] at h1
    cases hi : isC[k]? with
    | none => rw [hi] at h1; cases h1
    | some i => rw [hi] at h1; exact ⟨i, rfl, Option.some.inj h1⟩
  have at2 : ∀ {ps w : va_W}, isC.map (fun i => ps[i]?) = w.map some → ∀ (i : Nat) (q : Nat × va_E), i ∈ isC → ps[i]? = some q → ∃ k : Nat, isC[k]? = some i ∧ w[k]? = some q := by
    intro ps w hs i q hi hq
    obtain ⟨k, hk⟩ := List.getElem?_of_mem hi
    have h1 : (isC.map (fun i => ps[i]?))[k]? = some (some q) := by rw [List.getElem?_map, hk]; exact congrArg some hq
    rw [hs, List.getElem?_map] at h1
    cases hi2 : w[k]? with
    | none => rw [hi2] at h1; cases h1
    | some i2 => rw [hi2] at h1; exact ⟨k, hk, by rw [← Option.some.inj (Option.some.inj h1)]; exact hi2⟩
  have up : ∀ (i : Nat) (q : Nat × va_E), pre[i]? = some q → (pre ++ suf)[i]? = some q := by
    intro i q h
    rw [List.getElem?_append_left (List.getElem?_eq_some_iff.mp h).1]
    exact h
  have hF : ∀ q, va_A wc H.size q → A q := by
    intro q h
    rcases h with ⟨k, e, h⟩ | h
    · obtain ⟨i, -, h2⟩ := at1 hC k (q, e) h
      exact hD.2 i (q, e) (up i _ h2)
    · exact hA q (Nat.le_trans hS.1 h)
  have same : ∀ i, i ∉ isC → (pre' ++ suf)[i]? = (pre ++ suf)[i]? := by
    intro i hi
    by_cases hl : i < pre.length
    · have h1 := List.all_eq_true.mp hcov i (List.mem_range.mpr hl)
      have h2 : i ∈ isR := by
        simp only [Bool.or_eq_true, List.contains_iff_mem] at h1
        exact h1.resolve_left hi
      obtain ⟨k, hk⟩ := List.getElem?_of_mem h2
      have h3 := congrArg (fun l => l[k]?) hR
      simp only [List.getElem?_map, hk, Option.map_some, Option.some.injEq] at h3
      rw [List.getElem?_append_left (by omega), List.getElem?_append_left hl, h3]
    · rw [List.getElem?_append_right (by omega), List.getElem?_append_right (by omega), hlen]
  refine ⟨fun k q hq => ?_, ⟨fun i j x y hx hy hxy => ?_, fun _ _ _ => trivial⟩, hF, fun H1 hk hP1 hD1 => ⟨fun k q hq => ?_, ⟨fun i j x y hx hy hxy => ?_, fun k q hq => ?_⟩⟩⟩
  · obtain ⟨i, -, h2⟩ := at1 hC k q hq
    exact hP i q (up i q h2)
  · obtain ⟨i1, h1, h2⟩ := at1 hC i x hx
    obtain ⟨j1, h3, h4⟩ := at1 hC j y hy
    have e1 := hD.1 i1 j1 x y (up _ _ h2) (up _ _ h4) hxy
    subst e1
    exact va_nd_inj isC hnd i j i1 h1 h3
  · by_cases hi : k ∈ isC
    · have hl : k < pre'.length := by
        rw [hlen]
        have h0 : (isC.map (fun i => pre[i]?)).all (fun x => x.isSome) = true := by
          rw [hC]
          exact List.all_eq_true.mpr (fun x hx => by obtain ⟨y, -, rfl⟩ := List.mem_map.mp hx; rfl)
        have h1 := List.all_eq_true.mp h0 (pre[k]?) (List.mem_map.mpr ⟨k, hi, rfl⟩)
        exact Nat.not_le.mp (fun h2 => by rw [List.getElem?_eq_none h2] at h1; cases h1)
      rw [List.getElem?_append_left hl] at hq
      obtain ⟨k2, -, h3⟩ := at2 hC' k q hi hq
      exact hP1 k2 q h3
    · rw [same k hi] at hq
      have hlt := (hP k q hq).lt
      refine (hP k q hq).kept (hk q.1 hlt ?_)
      intro h
      rcases h with ⟨k2, e2, h⟩ | h
      · obtain ⟨i2, h4, h5⟩ := at1 hC k2 _ h
        have := hD.1 k i2 q (q.1, e2) hq (up _ _ h5) rfl
        subst this
        exact hi (List.mem_of_getElem? h4)
      · omega
  · have key : ∀ (i : Nat) (x : Nat × va_E), (pre' ++ suf)[i]? = some x → (i ∈ isC ∧ ∃ k : Nat, isC[k]? = some i ∧ w1[k]? = some x) ∨ (i ∉ isC ∧ (pre ++ suf)[i]? = some x ∧ ¬ va_A wc H.size x.1) := by
      intro i x hx
      by_cases hi : i ∈ isC
      · left
        refine ⟨hi, ?_⟩
        have hl : i < pre'.length := by
          rw [hlen]
          have h0 : (isC.map (fun i => pre[i]?)).all (fun x => x.isSome) = true := by
            rw [hC]
            exact List.all_eq_true.mpr (fun x hx => by obtain ⟨y, -, rfl⟩ := List.mem_map.mp hx; rfl)
          have h1 := List.all_eq_true.mp h0 (pre[i]?) (List.mem_map.mpr ⟨i, hi, rfl⟩)
          exact Nat.not_le.mp (fun h2 => by rw [List.getElem?_eq_none h2] at h1; cases h1)
        rw [List.getElem?_append_left hl] at hx
        exact at2 hC' i x hi hx
      · right
        rw [same i hi] at hx
        refine ⟨hi, hx, ?_⟩
        have hlt := (hP i x hx).lt
        intro h
        rcases h with ⟨k2, e2, h⟩ | h
        · obtain ⟨i2, h4, h5⟩ := at1 hC k2 _ h
          have := hD.1 i i2 x (x.1, e2) hx (up _ _ h5) rfl
          subst this
          exact hi (List.mem_of_getElem? h4)
        · omega
    rcases key i x hx with ⟨-, k1, g1, g2⟩ | ⟨-, g1, g2⟩
    · rcases key j y hy with ⟨-, k2, f1, f2⟩ | ⟨-, f1, f2⟩
      · have := hD1.1 k1 k2 x y g2 f2 hxy
        subst this
        rw [g1] at f1
        exact Option.some.inj f1
      · exact absurd (hxy ▸ hD1.2 k1 x g2) f2
    · rcases key j y hy with ⟨-, k2, f1, f2⟩ | ⟨-, f1, f2⟩
      · exact absurd (hxy ▸ hD1.2 k2 y f2) g2
      · exact hD.1 i j x y g1 f1 hxy
  · by_cases hi : k ∈ isC
    · have hl : k < pre'.length := by
        rw [hlen]
        have h0 : (isC.map (fun i => pre[i]?)).all (fun x => x.isSome) = true := by
          rw [hC]
          exact List.all_eq_true.mpr (fun x hx => by obtain ⟨y, -, rfl⟩ := List.mem_map.mp hx; rfl)
        have h1 := List.all_eq_true.mp h0 (pre[k]?) (List.mem_map.mpr ⟨k, hi, rfl⟩)
        exact Nat.not_le.mp (fun h2 => by rw [List.getElem?_eq_none h2] at h1; cases h1)
      rw [List.getElem?_append_left hl] at hq
      obtain ⟨k2, -, h3⟩ := at2 hC' k q hi hq
      exact hF _ (hD1.2 k2 q h3)
    · rw [same k hi] at hq
      exact hD.2 k q hq
/-- what the tables say of a call: virtual; static -/
def LkV (own : String) (idx : Nat) (y : MethodName) (bytes : ByteArray) (maxL : Nat) (ret : Option FieldType) (n : Nat) : Prop := Cond.code y bytes maxL ret ∈ lw_tbl ∧ Cond.methodLink own idx y ∈ lw_tbl ∧ Cond.instanceMethod y ∈ lw_tbl ∧ Cond.selects y.cls y y ∈ lw_tbl ∧ Cond.initialized y.cls ∈ lw_tbl ∧ (y.cls ≠ "java/lang/invoke/MethodHandle" ∧ y.cls ≠ "java/lang/invoke/VarHandle" ∧ (parseMethodDescriptor y.desc).map (fun d => d.parameters.length) = some n)
def LkS (own : String) (idx : Nat) (y : MethodName) (bytes : ByteArray) (maxL : Nat) (ret : Option FieldType) (n : Nat) : Prop := Cond.code y bytes maxL ret ∈ lw_tbl ∧ Cond.methodLink own idx y ∈ lw_tbl ∧ Cond.static y ∈ lw_tbl ∧ Cond.initialized y.cls ∈ lw_tbl ∧ (y.cls ≠ "java/lang/invoke/MethodHandle" ∧ y.cls ≠ "java/lang/invoke/VarHandle" ∧ (parseMethodDescriptor y.desc).map (fun d => d.parameters.length) = some n)
def LkN (own : String) (idx : Nat) (y : MethodName) (host : String) (bytes : ByteArray) (maxL : Nat) (ret : Option FieldType) (n : Nat) : Prop := Cond.code y bytes maxL ret ∈ lw_tbl ∧ (own, idx, y, host) ∈ NWl ∧ Cond.static y ∈ lw_tbl ∧ Cond.initialized y.cls ∈ lw_tbl ∧ (y.cls ≠ "java/lang/invoke/MethodHandle" ∧ y.cls ≠ "java/lang/invoke/VarHandle" ∧ (parseMethodDescriptor y.desc).map (fun d => d.parameters.length) = some n)
theorem x_recv (hC : Cx p s m args c cc nL own D cs) (hP : va_P D vwCl ws H) {q0 ci : Nat} {q : vw_C} {fs : List Value} {b : Nat} (hc : vwCl[ci]? = some q) (he : ws[q0]? = some (b, .inr (ci, fs))) : ∃ cell : Cell, H[b]? = some cell ∧ cell.vm.isStatics = false ∧ s.vm.findClass q.1 = some cell.cls := va_recv hC.2.2.2.2.2.1 hP hc he
theorem x_vI (hC : Cx p s m args c cc nL own D cs) {y : MethodName} {bytes : ByteArray} {maxL n mc ms idx : Nat} {ret : FieldType} {rm : Room} {val : Int32} {As : List Value} {wc w1 ws' : va_W} {b : Nat} (hM : CI l D cs y bytes maxL ret rm mc ms (.ref b :: As) wc w1 val) (hk : LkV own idx y bytes maxL (some ret) n) {q0 ci : Nat} {q : vw_C} {fs : List Value} (hrc : vwCl[ci]? = some q) (hre : ws[q0]? = some (b, .inr (ci, fs))) (hrq : q.1 = y.cls) (hSb : Sub D A ws H wc w1 ws') (hP : va_P D vwCl ws H) (hS : va_S A H0 H locs) (hn : As.length = n) (hls : ls.size = nL) {st : List Value} (hst : st = As.reverse ++ .ref b :: rest) (hcat : (rest.map fun v => v.category).sum ≤ 8) (hrm : rm.cells = mc ∧ rm.slots = ms) (hR : rm.frames + 1 ≤ R.frames ∧ 8 + (maxL + 11) + rm.locals ≤ R.locals) (hfit : cells + mc ≤ R.cells ∧ slots + ms ≤ R.slots) (d : decode cc pc = .ok (.invokevirtual idx, 3)) (kk : ∀ (H1 : Heap) (locs1 : List Loc), va_P D vwCl ws' H1 → va_D A ws' → va_S A H0 H1 locs1 → H.size ≤ H1.size → W p l e R s m args below meth c H1 locs1 (cells + mc) (slots + ms) Q (F0 m (pc + 3) ls (.int val :: rest))) : W p l e R s m args below meth c H locs cells slots Q (F0 m pc ls st) := by
  subst hst
  refine va_calli (va_runV (As := As) (rest := rest) ⟨hC.1, hC.2.1, hC.2.2.1, hC.2.2.2.1, hC.2.2.2.2.1⟩ (hM H.size) ⟨callB_of n hC.2.2.2.2.1 (tb_gi hk.1) rfl hrm.1 hrm.2 (x_w hC hk.2.2.2.2.1 rfl) (x_w hC hk.2.1 rfl) hk.2.2.2.2.2 hR, x_w hC hk.2.2.1 rfl, x_w hC hk.2.2.2.1 rfl⟩ ⟨PreW_blind, hrq ▸ x_recv hC hP hrc hre, fun U hU hW => ⟨rfl, by rw [hU], by rw [hU]; exact hSb.1, KK_warm hW hC.2.2.2.2.2, hSb.2.1⟩⟩ rfl hn hls rfl (lv_room hcat) d ⟨hfit.1, hfit.2⟩) hS (fun q _ h => hSb.2.2.1 q h) hSb.2.2.1 (fun r _ t H1 locs1 ht _ hw hB hz1 hk1 hS1 => ?_)
  subst hw
  rw [ht] at hB
  obtain ⟨g1, g2⟩ := hSb.2.2.2 H1 hk1 hB.1 hB.2
  exact kk H1 locs1 g1 g2 hS1 hz1
theorem x_sI (hC : Cx p s m args c cc nL own D cs) {y : MethodName} {bytes : ByteArray} {maxL n mc ms idx : Nat} {ret : FieldType} {rm : Room} {val : Int32} {As : List Value} {wc w1 ws' : va_W} (hM : CI l D cs y bytes maxL ret rm mc ms As wc w1 val) (hk : LkS own idx y bytes maxL (some ret) n) (hSb : Sub D A ws H wc w1 ws') (hP : va_P D vwCl ws H) (hS : va_S A H0 H locs) (hn : As.length = n) (hls : ls.size = nL) {st : List Value} (hst : st = As.reverse ++ rest) (hcat : (rest.map fun v => v.category).sum ≤ 8) (hrm : rm.cells = mc ∧ rm.slots = ms) (hR : rm.frames + 1 ≤ R.frames ∧ 8 + (maxL + 11) + rm.locals ≤ R.locals) (hfit : cells + mc ≤ R.cells ∧ slots + ms ≤ R.slots) (d : decode cc pc = .ok (.invokestatic idx, 3)) (kk : ∀ (H1 : Heap) (locs1 : List Loc), va_P D vwCl ws' H1 → va_D A ws' → va_S A H0 H1 locs1 → H.size ≤ H1.size → W p l e R s m args below meth c H1 locs1 (cells + mc) (slots + ms) Q (F0 m (pc + 3) ls (.int val :: rest))) : W p l e R s m args below meth c H locs cells slots Q (F0 m pc ls st) := by
  subst hst
  refine va_calli (va_runS (As := As) (rest := rest) ⟨hC.1, hC.2.1, hC.2.2.1, hC.2.2.2.1, hC.2.2.2.2.1⟩ (hM H.size) ⟨callB_of n hC.2.2.2.2.1 (tb_gi hk.1) rfl hrm.1 hrm.2 (x_w hC hk.2.2.2.1 rfl) (x_w hC hk.2.1 rfl) hk.2.2.2.2 hR, x_w hC hk.2.2.1 rfl⟩ ⟨PreW_blind, fun U hU hW => ⟨rfl, by rw [hU], by rw [hU]; exact hSb.1, KK_warm hW hC.2.2.2.2.2, hSb.2.1⟩⟩ rfl hn hls rfl (lv_room hcat) d ⟨hfit.1, hfit.2⟩) hS (fun q _ h => hSb.2.2.1 q h) hSb.2.2.1 (fun r _ t H1 locs1 ht _ hw hB hz1 hk1 hS1 => ?_)
  subst hw
  rw [ht] at hB
  obtain ⟨g1, g2⟩ := hSb.2.2.2 H1 hk1 hB.1 hB.2
  exact kk H1 locs1 g1 g2 hS1 hz1
theorem x_nI (hC : Cx p s m args c cc nL own D cs) {y : MethodName} {bytes : ByteArray} {maxL n mc ms idx : Nat} {ret : FieldType} {rm : Room} {val : Int32} {host : String} {As : List Value} {wc w1 ws' : va_W} (hM : CI l D cs y bytes maxL ret rm mc ms As wc w1 val) (hk : LkN own idx y host bytes maxL (some ret) n) (hSb : Sub D A ws H wc w1 ws') (hP : va_P D vwCl ws H) (hS : va_S A H0 H locs) (hn : As.length = n) (hls : ls.size = nL) {st : List Value} (hst : st = As.reverse ++ rest) (hcat : (rest.map fun v => v.category).sum ≤ 8) (hrm : rm.cells = mc ∧ rm.slots = ms) (hR : rm.frames + 1 ≤ R.frames ∧ 8 + (maxL + 11) + rm.locals ≤ R.locals) (hfit : cells + mc ≤ R.cells ∧ slots + ms ≤ R.slots) (d : decode cc pc = .ok (.invokestatic idx, 3)) (kk : ∀ (H1 : Heap) (locs1 : List Loc), va_P D vwCl ws' H1 → va_D A ws' → va_S A H0 H1 locs1 → H.size ≤ H1.size → W p l e R s m args below meth c H1 locs1 (cells + mc) (slots + ms) Q (F0 m (pc + 3) ls (.int val :: rest))) : W p l e R s m args below meth c H locs cells slots Q (F0 m pc ls st) := by
  subst hst
  refine va_calli (va_runSN (As := As) (rest := rest) ⟨hC.1, hC.2.1, hC.2.2.1, hC.2.2.2.1, hC.2.2.2.2.1⟩ (hM H.size) ⟨va_cnB n hC.2.2.2.2.1 (tb_gi hk.1) rfl hrm.1 hrm.2 (hC.2.2.2.2.2.2.1 _ hk.2.1) (x_w hC hk.2.2.2.1 rfl) hk.2.2.2.2 hR, x_w hC hk.2.2.1 rfl, trivial⟩ ⟨PreW_blind, fun U hU hW => ⟨rfl, by rw [hU], by rw [hU]; exact hSb.1, KK_warm hW hC.2.2.2.2.2, hSb.2.1⟩⟩ rfl hn hls rfl (lv_room hcat) d ⟨hfit.1, hfit.2⟩) hS (fun q _ h => hSb.2.2.1 q h) hSb.2.2.1 (fun r _ t H1 locs1 ht _ hw hB hz1 hk1 hS1 => ?_)
  subst hw
  rw [ht] at hB
  obtain ⟨g1, g2⟩ := hSb.2.2.2 H1 hk1 hB.1 hB.2
  exact kk H1 locs1 g1 g2 hS1 hz1
theorem x_vL (hC : Cx p s m args c cc nL own D cs) {y : MethodName} {bytes : ByteArray} {maxL n mc ms idx : Nat} {rm : Room} {val : Int64} {As : List Value} {wc w1 ws' : va_W} {b : Nat} (hM : CL l D cs y bytes maxL rm mc ms (.ref b :: As) wc w1 val) (hk : LkV own idx y bytes maxL (some .long) n) {q0 ci : Nat} {q : vw_C} {fs : List Value} (hrc : vwCl[ci]? = some q) (hre : ws[q0]? = some (b, .inr (ci, fs))) (hrq : q.1 = y.cls) (hSb : Sub D A ws H wc w1 ws') (hP : va_P D vwCl ws H) (hS : va_S A H0 H locs) (hn : As.length = n) (hls : ls.size = nL) {st : List Value} (hst : st = As.reverse ++ .ref b :: rest) (hcat : (rest.map fun v => v.category).sum ≤ 8) (hrm : rm.cells = mc ∧ rm.slots = ms) (hR : rm.frames + 1 ≤ R.frames ∧ 8 + (maxL + 11) + rm.locals ≤ R.locals) (hfit : cells + mc ≤ R.cells ∧ slots + ms ≤ R.slots) (d : decode cc pc = .ok (.invokevirtual idx, 3)) (kk : ∀ (H1 : Heap) (locs1 : List Loc), va_P D vwCl ws' H1 → va_D A ws' → va_S A H0 H1 locs1 → H.size ≤ H1.size → W p l e R s m args below meth c H1 locs1 (cells + mc) (slots + ms) Q (F0 m (pc + 3) ls (.long val :: rest))) : W p l e R s m args below meth c H locs cells slots Q (F0 m pc ls st) := by
  subst hst
  refine va_calll (va_runV (As := As) (rest := rest) ⟨hC.1, hC.2.1, hC.2.2.1, hC.2.2.2.1, hC.2.2.2.2.1⟩ (hM H.size) ⟨callB_of n hC.2.2.2.2.1 (tb_gi hk.1) rfl hrm.1 hrm.2 (x_w hC hk.2.2.2.2.1 rfl) (x_w hC hk.2.1 rfl) hk.2.2.2.2.2 hR, x_w hC hk.2.2.1 rfl, x_w hC hk.2.2.2.1 rfl⟩ ⟨PreW_blind, hrq ▸ x_recv hC hP hrc hre, fun U hU hW => ⟨rfl, by rw [hU], by rw [hU]; exact hSb.1, KK_warm hW hC.2.2.2.2.2, hSb.2.1⟩⟩ rfl hn hls rfl (lv_room hcat) d ⟨hfit.1, hfit.2⟩) hS (fun q _ h => hSb.2.2.1 q h) hSb.2.2.1 (fun r _ t H1 locs1 ht _ hw hB hz1 hk1 hS1 => ?_)
  subst hw
  rw [ht] at hB
  obtain ⟨g1, g2⟩ := hSb.2.2.2 H1 hk1 hB.1 hB.2
  exact kk H1 locs1 g1 g2 hS1 hz1
theorem x_sL (hC : Cx p s m args c cc nL own D cs) {y : MethodName} {bytes : ByteArray} {maxL n mc ms idx : Nat} {rm : Room} {val : Int64} {As : List Value} {wc w1 ws' : va_W} (hM : CL l D cs y bytes maxL rm mc ms As wc w1 val) (hk : LkS own idx y bytes maxL (some .long) n) (hSb : Sub D A ws H wc w1 ws') (hP : va_P D vwCl ws H) (hS : va_S A H0 H locs) (hn : As.length = n) (hls : ls.size = nL) {st : List Value} (hst : st = As.reverse ++ rest) (hcat : (rest.map fun v => v.category).sum ≤ 8) (hrm : rm.cells = mc ∧ rm.slots = ms) (hR : rm.frames + 1 ≤ R.frames ∧ 8 + (maxL + 11) + rm.locals ≤ R.locals) (hfit : cells + mc ≤ R.cells ∧ slots + ms ≤ R.slots) (d : decode cc pc = .ok (.invokestatic idx, 3)) (kk : ∀ (H1 : Heap) (locs1 : List Loc), va_P D vwCl ws' H1 → va_D A ws' → va_S A H0 H1 locs1 → H.size ≤ H1.size → W p l e R s m args below meth c H1 locs1 (cells + mc) (slots + ms) Q (F0 m (pc + 3) ls (.long val :: rest))) : W p l e R s m args below meth c H locs cells slots Q (F0 m pc ls st) := by
  subst hst
  refine va_calll (va_runS (As := As) (rest := rest) ⟨hC.1, hC.2.1, hC.2.2.1, hC.2.2.2.1, hC.2.2.2.2.1⟩ (hM H.size) ⟨callB_of n hC.2.2.2.2.1 (tb_gi hk.1) rfl hrm.1 hrm.2 (x_w hC hk.2.2.2.1 rfl) (x_w hC hk.2.1 rfl) hk.2.2.2.2 hR, x_w hC hk.2.2.1 rfl⟩ ⟨PreW_blind, fun U hU hW => ⟨rfl, by rw [hU], by rw [hU]; exact hSb.1, KK_warm hW hC.2.2.2.2.2, hSb.2.1⟩⟩ rfl hn hls rfl (lv_room hcat) d ⟨hfit.1, hfit.2⟩) hS (fun q _ h => hSb.2.2.1 q h) hSb.2.2.1 (fun r _ t H1 locs1 ht _ hw hB hz1 hk1 hS1 => ?_)
  subst hw
  rw [ht] at hB
  obtain ⟨g1, g2⟩ := hSb.2.2.2 H1 hk1 hB.1 hB.2
  exact kk H1 locs1 g1 g2 hS1 hz1
theorem x_nL (hC : Cx p s m args c cc nL own D cs) {y : MethodName} {bytes : ByteArray} {maxL n mc ms idx : Nat} {rm : Room} {val : Int64} {host : String} {As : List Value} {wc w1 ws' : va_W} (hM : CL l D cs y bytes maxL rm mc ms As wc w1 val) (hk : LkN own idx y host bytes maxL (some .long) n) (hSb : Sub D A ws H wc w1 ws') (hP : va_P D vwCl ws H) (hS : va_S A H0 H locs) (hn : As.length = n) (hls : ls.size = nL) {st : List Value} (hst : st = As.reverse ++ rest) (hcat : (rest.map fun v => v.category).sum ≤ 8) (hrm : rm.cells = mc ∧ rm.slots = ms) (hR : rm.frames + 1 ≤ R.frames ∧ 8 + (maxL + 11) + rm.locals ≤ R.locals) (hfit : cells + mc ≤ R.cells ∧ slots + ms ≤ R.slots) (d : decode cc pc = .ok (.invokestatic idx, 3)) (kk : ∀ (H1 : Heap) (locs1 : List Loc), va_P D vwCl ws' H1 → va_D A ws' → va_S A H0 H1 locs1 → H.size ≤ H1.size → W p l e R s m args below meth c H1 locs1 (cells + mc) (slots + ms) Q (F0 m (pc + 3) ls (.long val :: rest))) : W p l e R s m args below meth c H locs cells slots Q (F0 m pc ls st) := by
  subst hst
  refine va_calll (va_runSN (As := As) (rest := rest) ⟨hC.1, hC.2.1, hC.2.2.1, hC.2.2.2.1, hC.2.2.2.2.1⟩ (hM H.size) ⟨va_cnB n hC.2.2.2.2.1 (tb_gi hk.1) rfl hrm.1 hrm.2 (hC.2.2.2.2.2.2.1 _ hk.2.1) (x_w hC hk.2.2.2.1 rfl) hk.2.2.2.2 hR, x_w hC hk.2.2.1 rfl, trivial⟩ ⟨PreW_blind, fun U hU hW => ⟨rfl, by rw [hU], by rw [hU]; exact hSb.1, KK_warm hW hC.2.2.2.2.2, hSb.2.1⟩⟩ rfl hn hls rfl (lv_room hcat) d ⟨hfit.1, hfit.2⟩) hS (fun q _ h => hSb.2.2.1 q h) hSb.2.2.1 (fun r _ t H1 locs1 ht _ hw hB hz1 hk1 hS1 => ?_)
  subst hw
  rw [ht] at hB
  obtain ⟨g1, g2⟩ := hSb.2.2.2 H1 hk1 hB.1 hB.2
  exact kk H1 locs1 g1 g2 hS1 hz1
theorem x_vV (hC : Cx p s m args c cc nL own D cs) {y : MethodName} {bytes : ByteArray} {maxL n mc ms idx : Nat} {rm : Room} {As : List Value} {wc w1 ws' : va_W} {b : Nat} (hM : CV l D cs y bytes maxL rm mc ms (.ref b :: As) wc w1 ) (hk : LkV own idx y bytes maxL none n) {q0 ci : Nat} {q : vw_C} {fs : List Value} (hrc : vwCl[ci]? = some q) (hre : ws[q0]? = some (b, .inr (ci, fs))) (hrq : q.1 = y.cls) (hSb : Sub D A ws H wc w1 ws') (hP : va_P D vwCl ws H) (hS : va_S A H0 H locs) (hn : As.length = n) (hls : ls.size = nL) {st : List Value} (hst : st = As.reverse ++ .ref b :: rest) (hcat : (rest.map fun v => v.category).sum ≤ 8) (hrm : rm.cells = mc ∧ rm.slots = ms) (hR : rm.frames + 1 ≤ R.frames ∧ 8 + (maxL + 11) + rm.locals ≤ R.locals) (hfit : cells + mc ≤ R.cells ∧ slots + ms ≤ R.slots) (d : decode cc pc = .ok (.invokevirtual idx, 3)) (kk : ∀ (H1 : Heap) (locs1 : List Loc), va_P D vwCl ws' H1 → va_D A ws' → va_S A H0 H1 locs1 → H.size ≤ H1.size → W p l e R s m args below meth c H1 locs1 (cells + mc) (slots + ms) Q (F0 m (pc + 3) ls (rest))) : W p l e R s m args below meth c H locs cells slots Q (F0 m pc ls st) := by
  subst hst
  refine va_callv (va_runV (As := As) (rest := rest) ⟨hC.1, hC.2.1, hC.2.2.1, hC.2.2.2.1, hC.2.2.2.2.1⟩ (hM H.size) ⟨callB_of n hC.2.2.2.2.1 (tb_gi hk.1) rfl hrm.1 hrm.2 (x_w hC hk.2.2.2.2.1 rfl) (x_w hC hk.2.1 rfl) hk.2.2.2.2.2 hR, x_w hC hk.2.2.1 rfl, x_w hC hk.2.2.2.1 rfl⟩ ⟨PreW_blind, hrq ▸ x_recv hC hP hrc hre, fun U hU hW => ⟨rfl, by rw [hU], by rw [hU]; exact hSb.1, KK_warm hW hC.2.2.2.2.2, hSb.2.1⟩⟩ rfl hn hls rfl (lv_room hcat) d ⟨hfit.1, hfit.2⟩) hS (fun q _ h => hSb.2.2.1 q h) hSb.2.2.1 (fun _ t H1 locs1 ht _ hw hB hz1 hk1 hS1 => ?_)
  rw [ht] at hB
  obtain ⟨g1, g2⟩ := hSb.2.2.2 H1 hk1 hB.1 hB.2
  exact kk H1 locs1 g1 g2 hS1 hz1
theorem x_sV (hC : Cx p s m args c cc nL own D cs) {y : MethodName} {bytes : ByteArray} {maxL n mc ms idx : Nat} {rm : Room} {As : List Value} {wc w1 ws' : va_W} (hM : CV l D cs y bytes maxL rm mc ms As wc w1 ) (hk : LkS own idx y bytes maxL none n) (hSb : Sub D A ws H wc w1 ws') (hP : va_P D vwCl ws H) (hS : va_S A H0 H locs) (hn : As.length = n) (hls : ls.size = nL) {st : List Value} (hst : st = As.reverse ++ rest) (hcat : (rest.map fun v => v.category).sum ≤ 8) (hrm : rm.cells = mc ∧ rm.slots = ms) (hR : rm.frames + 1 ≤ R.frames ∧ 8 + (maxL + 11) + rm.locals ≤ R.locals) (hfit : cells + mc ≤ R.cells ∧ slots + ms ≤ R.slots) (d : decode cc pc = .ok (.invokestatic idx, 3)) (kk : ∀ (H1 : Heap) (locs1 : List Loc), va_P D vwCl ws' H1 → va_D A ws' → va_S A H0 H1 locs1 → H.size ≤ H1.size → W p l e R s m args below meth c H1 locs1 (cells + mc) (slots + ms) Q (F0 m (pc + 3) ls (rest))) : W p l e R s m args below meth c H locs cells slots Q (F0 m pc ls st) := by
  subst hst
  refine va_callv (va_runS (As := As) (rest := rest) ⟨hC.1, hC.2.1, hC.2.2.1, hC.2.2.2.1, hC.2.2.2.2.1⟩ (hM H.size) ⟨callB_of n hC.2.2.2.2.1 (tb_gi hk.1) rfl hrm.1 hrm.2 (x_w hC hk.2.2.2.1 rfl) (x_w hC hk.2.1 rfl) hk.2.2.2.2 hR, x_w hC hk.2.2.1 rfl⟩ ⟨PreW_blind, fun U hU hW => ⟨rfl, by rw [hU], by rw [hU]; exact hSb.1, KK_warm hW hC.2.2.2.2.2, hSb.2.1⟩⟩ rfl hn hls rfl (lv_room hcat) d ⟨hfit.1, hfit.2⟩) hS (fun q _ h => hSb.2.2.1 q h) hSb.2.2.1 (fun _ t H1 locs1 ht _ hw hB hz1 hk1 hS1 => ?_)
  rw [ht] at hB
  obtain ⟨g1, g2⟩ := hSb.2.2.2 H1 hk1 hB.1 hB.2
  exact kk H1 locs1 g1 g2 hS1 hz1
theorem x_nV (hC : Cx p s m args c cc nL own D cs) {y : MethodName} {bytes : ByteArray} {maxL n mc ms idx : Nat} {rm : Room} {host : String} {As : List Value} {wc w1 ws' : va_W} (hM : CV l D cs y bytes maxL rm mc ms As wc w1 ) (hk : LkN own idx y host bytes maxL none n) (hSb : Sub D A ws H wc w1 ws') (hP : va_P D vwCl ws H) (hS : va_S A H0 H locs) (hn : As.length = n) (hls : ls.size = nL) {st : List Value} (hst : st = As.reverse ++ rest) (hcat : (rest.map fun v => v.category).sum ≤ 8) (hrm : rm.cells = mc ∧ rm.slots = ms) (hR : rm.frames + 1 ≤ R.frames ∧ 8 + (maxL + 11) + rm.locals ≤ R.locals) (hfit : cells + mc ≤ R.cells ∧ slots + ms ≤ R.slots) (d : decode cc pc = .ok (.invokestatic idx, 3)) (kk : ∀ (H1 : Heap) (locs1 : List Loc), va_P D vwCl ws' H1 → va_D A ws' → va_S A H0 H1 locs1 → H.size ≤ H1.size → W p l e R s m args below meth c H1 locs1 (cells + mc) (slots + ms) Q (F0 m (pc + 3) ls (rest))) : W p l e R s m args below meth c H locs cells slots Q (F0 m pc ls st) := by
  subst hst
  refine va_callv (va_runSN (As := As) (rest := rest) ⟨hC.1, hC.2.1, hC.2.2.1, hC.2.2.2.1, hC.2.2.2.2.1⟩ (hM H.size) ⟨va_cnB n hC.2.2.2.2.1 (tb_gi hk.1) rfl hrm.1 hrm.2 (hC.2.2.2.2.2.2.1 _ hk.2.1) (x_w hC hk.2.2.2.1 rfl) hk.2.2.2.2 hR, x_w hC hk.2.2.1 rfl, trivial⟩ ⟨PreW_blind, fun U hU hW => ⟨rfl, by rw [hU], by rw [hU]; exact hSb.1, KK_warm hW hC.2.2.2.2.2, hSb.2.1⟩⟩ rfl hn hls rfl (lv_room hcat) d ⟨hfit.1, hfit.2⟩) hS (fun q _ h => hSb.2.2.1 q h) hSb.2.2.1 (fun _ t H1 locs1 ht _ hw hB hz1 hk1 hS1 => ?_)
  rw [ht] at hB
  obtain ⟨g1, g2⟩ := hSb.2.2.2 H1 hk1 hB.1 hB.2
  exact kk H1 locs1 g1 g2 hS1 hz1
end XR
end
section
def arL (cA : ClassId) (n : Nat) (f : Int → Nat → Bool) : va_E := .inl (cA, n, .inr (.inl (fun j : Nat => lN (mkN (f j) 48))))
def wM (h : Nat → Nat) (cs : Nat → ClassId) (F S A V T B : Int → Int) : va_W := [(h 0, obM h F), (h 1, arI (cs 0) 109 S), (h 2, arI (cs 0) 109 A), (h 3, arI (cs 0) 436 V), (h 4, arI (cs 0) 60 T), (h 5, arI (cs 3) 20 B)]
def wB (h : Nat → Nat) (cs : Nat → ClassId) (O : Nat → Bool) (G F E Z P R C : Int → Int) (T : Int → Nat → Bool) : va_W := [(h 0, obB h O G), (h 1, arI (cs 0) 20 F), (h 2, arI (cs 0) 20 E), (h 3, arI (cs 0) 20 Z), (h 4, arI (cs 0) 20 P), (h 5, arI (cs 0) 8 R), (h 6, arI (cs 0) 8 C), (h 7, arL (cs 1) 8 T)]
def wS (h g o : Nat → Nat) (G : Int → Int) : va_W := [(h 0, obS (g 0) (o 0) G)]
def wG (h : Nat → Nat) (cs : Nat → ClassId) (T : Int → Int) : va_W := [(h 0, arI (cs 2) 60 T)]
def wO (h : Nat → Nat) (cs : Nat → ClassId) (G N : Int → Int) : va_W := [(h 0, obO (h 1) G), (h 1, arI (cs 0) 3 N)]
theorem b2p_nar {P : Prop} : narrow .boolean (.int (iI (b2p P))) = .int (iI (b2p P)) := by
  by_cases h : P
  · rw [b2p_t h]; rfl
  · rw [b2p_f h]; rfl
theorem b2p_vnar {P : Prop} : vp_nar .boolean (iI (b2p P)) = iI (b2p P) := by
  by_cases h : P
  · rw [b2p_t h]; rfl
  · rw [b2p_f h]; rfl
theorem lcE {i : Nat} {v v' : Value} {l l' : List (Nat × Value)} (h1 : v = v') (h2 : l = l') : (i, v) :: l = (i, v') :: l' := by rw [h1, h2]
theorem lvE {ls : Array Slot} {n : Nat} {l l' : List (Nat × Value)} (h : lv_has ls n l) (e : l = l') : lv_has ls n l' := e ▸ h
section XE
variable {p : Program} {l : Launch} {e : Env} {R : Room} {s : State} {m : MethodId} {args : Array Value} {below : List Frame} {meth : Method} {c : Code} {H H0 : Heap} {locs : List Loc} {cells slots : Nat} {Q : State → Prop} {A : Nat → Prop} {pc : Nat} {ls : Array Slot} {rest : List Value} {cc : ByteArray} {nL : Nat} {own : String} {D : va_G} {cs : Nat → ClassId} {ws : va_W} {a : Nat} {mc ms : Nat} {w1 : va_W}
theorem x_retI {v val : Int32} (ev : v = val) (hend : ∀ (H : Heap) (locs : List Loc) (pc : Nat) (ls' : Array Slot), va_P D vwCl w1 H → va_D A w1 → va_S A s.heap H locs → decode cc pc = .ok (.ireturn, 1) → W p l e R s m args below meth c H locs mc ms Q (F0 m pc ls' [.int val])) (hP : va_P D vwCl w1 H) (hD : va_D A w1) (hS : va_S A s.heap H locs) (d : decode cc pc = .ok (.ireturn, 1)) : W p l e R s m args below meth c H locs mc ms Q (F0 m pc ls [.int v]) := by
  subst ev
  exact hend H locs pc ls hP hD hS d
theorem x_retL {v val : Int64} (ev : v = val) (hend : ∀ (H : Heap) (locs : List Loc) (pc : Nat) (ls' : Array Slot), va_P D vwCl w1 H → va_D A w1 → va_S A s.heap H locs → decode cc pc = .ok (.lreturn, 1) → W p l e R s m args below meth c H locs mc ms Q (F0 m pc ls' [.long val])) (hP : va_P D vwCl w1 H) (hD : va_D A w1) (hS : va_S A s.heap H locs) (d : decode cc pc = .ok (.lreturn, 1)) : W p l e R s m args below meth c H locs mc ms Q (F0 m pc ls [.long v]) := by
  subst ev
  exact hend H locs pc ls hP hD hS d
theorem sub_par0 {ws ws' wc w1 : va_W} (isC isR : List Nat) (hP : va_P D vwCl ws H) (hD : va_D A ws) (hS : va_S A H0 H locs) (hA : ∀ q, H0.size ≤ q → A q)
    (hC : isC.map (fun i => ws[i]?) = wc.map some) (hC' : isC.map (fun i => ws'[i]?) = w1.map some) (hnd : va_nd isC = true) (hlen : ws'.length = ws.length) (hR : isR.map (fun i => ws'[i]?) = isR.map (fun i => ws[i]?)) (hcov : (List.range ws.length).all (fun i => isC.contains i || isR.contains i) = true) : Sub D A ws H wc w1 ws' := by
  have h := sub_part (pre := ws) (pre' := ws') (suf := []) isC isR (by rw [List.append_nil]; exact hP) (by rw [List.append_nil]; exact hD) hS hA hC hC' hnd hlen hR hcov
  rw [List.append_nil, List.append_nil] at h
  exact h
theorem x_tsIn (hC : Cx p s m args c cc nL own D cs) (tgt : Nat) {dflt lo hi : Int} {offs : Array Int} {len : Nat} {a off : Int} (d : decode cc pc = .ok (.tableswitch dflt lo hi offs, len)) (ha : -2147483648 ≤ a ∧ a ≤ 2147483647) (h1 : ¬ a < lo) (h2 : ¬ hi < a) (ho : offs[(a - lo).toNat]? = some off) (ht : (pc : Int) + off = (tgt : Int)) (kk : W p l e R s m args below meth c H locs cells slots Q (F0 m tgt ls rest)) : W p l e R s m args below meth c H locs cells slots Q (F0 m pc ls (.int (iI a) :: rest)) :=
  lv_tableIn hC.1 hC.2.1 d (by rw [iI_toInt ha]; exact h1) (by rw [iI_toInt ha]; exact h2) (by rw [iI_toInt ha]; exact ho) ht kk
theorem x_tsOut (hC : Cx p s m args c cc nL own D cs) (tgt : Nat) {dflt lo hi : Int} {offs : Array Int} {len : Nat} {a : Int} (d : decode cc pc = .ok (.tableswitch dflt lo hi offs, len)) (ha : -2147483648 ≤ a ∧ a ≤ 2147483647) (h : a < lo ∨ hi < a) (ht : (pc : Int) + dflt = (tgt : Int)) (kk : W p l e R s m args below meth c H locs cells slots Q (F0 m tgt ls rest)) : W p l e R s m args below meth c H locs cells slots Q (F0 m pc ls (.int (iI a) :: rest)) :=
  lv_tableOut hC.1 hC.2.1 d (by rw [iI_toInt ha]; exact h) ht kk
theorem x_look (hC : Cx p s m args c cc nL own D cs) (tgt : Nat) {dflt : Int} {ps : Array (Int × Int)} {len : Nat} {a off : Int} (d : decode cc pc = .ok (.lookupswitch dflt ps, len)) (hp : (ps.toList.zip (ps.toList.drop 1)).all (fun (a, next) => a.1 < next.1) = true) (ha : -2147483648 ≤ a ∧ a ≤ 2147483647) (ho : Op.lookupswitch.offset ps.toList dflt a = off) (ht : (pc : Int) + off = (tgt : Int)) (kk : W p l e R s m args below meth c H locs cells slots Q (F0 m tgt ls rest)) : W p l e R s m args below meth c H locs cells slots Q (F0 m pc ls (.int (iI a) :: rest)) :=
  lv_lookup hC.1 hC.2.1 d hp (by rw [iI_toInt ha]; exact ho) ht kk
theorem x_lald (hC : Cx p s m args c cc nL own D cs) (hP : va_P D vwCl ws H) (q0 : Nat) {n : Nat} {f : Int → Nat → Bool} (he : ws[q0]? = some (a, arL (cs 1) n f)) {i : Int} (h0 : 0 ≤ i ∧ i < n) (hn : n < 2 ^ 31) (d : decode cc pc = .ok (.laload, 1)) (kk : W p l e R s m args below meth c H locs cells slots Q (F0 m (pc + 1) ls (.long (lN (mkN (f i) 48)) :: rest))) : W p l e R s m args below meth c H locs cells slots Q (F0 m pc ls (.int (iI i) :: .ref a :: rest)) := by
  refine va_lald hC.1 hC.2.1 hC.2.2.2.2.2.1 hP q0 1 he rfl (iI_in h0.1 h0.2 hn) d ?_
  show W p l e R s m args below meth c H locs cells slots Q (F0 m (pc + 1) ls (.long (lN (mkN (f ((iI i).toNatClampNeg : Nat)) 48)) :: rest))
  rw [iI_clamp h0.1 (by omega), Int.toNat_of_nonneg h0.1]
  exact kk
theorem updL_lN (g : Int → Nat → Bool) (i : Int) (f : Nat → Bool) (h0 : 0 ≤ i) (h1 : i ≤ 2147483647) : vp_updL (fun j : Nat => lN (mkN (g j) 48)) (iI i).toNatClampNeg (lN (mkN f 48)) = fun j : Nat => lN (mkN (u1 g i f j) 48) := by
  funext j
  rw [iI_clamp h0 h1]
  unfold vp_updL u1
  by_cases h : j = i.toNat
  · rw [if_pos h, if_pos (by omega)]
  · rw [if_neg h, if_neg (by omega)]
theorem x_last (hC : Cx p s m args c cc nL own D cs) (f : Nat → Bool) (hP : va_P D vwCl ws H) (hD : va_D A ws) (hS : va_S A H0 H locs) (q0 : Nat) {n : Nat} {g : Int → Nat → Bool} (he : ws[q0]? = some (a, arL (cs 1) n g)) {i : Int} (h0 : 0 ≤ i ∧ i < n) (hn : n < 2 ^ 31) (d : decode cc pc = .ok (.lastore, 1)) (kk : ∀ (H1 : Heap) (locs1 : List Loc), va_P D vwCl (ws.set q0 (a, arL (cs 1) n (u1 g i f))) H1 → va_D A (ws.set q0 (a, arL (cs 1) n (u1 g i f))) → va_S A H0 H1 locs1 → W p l e R s m args below meth c H1 locs1 cells slots Q (F0 m (pc + 1) ls rest)) : W p l e R s m args below meth c H locs cells slots Q (F0 m pc ls (.long (lN (mkN f 48)) :: .int (iI i) :: .ref a :: rest)) := by
  refine va_last hC.1 hC.2.1 hC.2.2.2.2.2.1 hP hD hS q0 1 he rfl (iI_in h0.1 h0.2 hn) d ?_
  rw [updL_lN g i f h0.1 (by omega)]
  exact kk
theorem x_put0_7 (hC : Cx p s m args c cc nL RX0 D cs) (hP : va_P D vwCl ws H) (hD : va_D A ws) (hS : va_S A H0 H locs) (q0 : Nat) {h : Nat → Nat} {o o' : Nat → Bool} {G : Int → Int} (he : ws[q0]? = some (a, obB h o G)) {idx : Nat} (hlk : Cond.fieldLink RX0 idx RX0 (TX0 7).2.1 (TX0 7).2.2.1 ∈ lw_tbl) (d : decode cc pc = .ok (.putfield idx, 3)) (kk : ∀ (H1 : Heap) (locs1 : List Loc), va_P D vwCl (ws.set q0 (a, obB h o' G)) H1 → va_D A (ws.set q0 (a, obB h o' G)) → va_S A H0 H1 locs1 → W p l e R s m args below meth c H1 locs1 cells slots Q (F0 m (pc + 3) ls rest)) : W p l e R s m args below meth c H locs cells slots Q (F0 m pc ls (.int (nI (mkN o' 8)) :: .ref a :: rest)) := va_put (D := D) (ci := 0) (v := .int (nI (mkN o' 8))) (ty := .int) (C := RX0) (T := TX0) (N := 13) hC.1 hC.2.1 hC.2.2.2.2.1 inT0 tyX0 tyX0_ok nmX0 hC.2.2.2.1 hC.2.2.2.2.2.1 hP hD hS q0 he rfl 7 (by decide) (x_w hC hlk rfl) (fun _ h9 => h9) rfl (by decide +kernel) rfl rfl (Nat.le_of_ble_eq_true rfl) d kk
end XE
end
section
/-! folds, firsts, sets -/
def fd {α : Type} (g : Int → α → α) (a : α) : Nat → α
  | 0 => a
  | n + 1 => g (n : Int) (fd g a n)
def fI {α : Type} (g : Int → α → α) (a : α) (n : Int) : α := fd g a n.toNat
theorem fI_0 {α : Type} {g : Int → α → α} {a : α} : fI g a 0 = a := rfl
theorem fI_s {α : Type} {g : Int → α → α} {a : α} {i : Int} (h : 0 ≤ i) : fI g a (i + 1) = g i (fI g a i) := by
  obtain ⟨n, rfl⟩ := Int.eq_ofNat_of_zero_le h
  rfl
theorem fI_ind {α : Type} {g : Int → α → α} {a : α} (P : Int → α → Prop) (h0 : P 0 a) {n : Int} (hs : ∀ i x, 0 ≤ i → i < n → P i x → P (i + 1) (g i x)) (hn : 0 ≤ n) : P n (fI g a n) := by
  obtain ⟨k, rfl⟩ := Int.eq_ofNat_of_zero_le hn
  suffices h : ∀ j : Nat, j ≤ k → P j (fI g a j) from h k (Nat.le_refl k)
  intro j
  induction j with
  | zero => intro _; exact h0
  | succ j ih =>
    intro hj
    have h1 := hs j _ (by omega) (by omega) (ih (by omega))
    have e := fI_s (g := g) (a := a) (i := (j : Int)) (by omega)
    show P ((j : Int) + 1) (fI g a ((j : Int) + 1))
    rw [e]
    exact h1
noncomputable def fstI (p : Int → Prop) (d : Int) : Nat → Int → Int
  | 0, _ => d
  | k + 1, i => iif (p i) i (fstI p d k (i + 1))
theorem fstI_e {p : Int → Prop} {d n i : Int} (h : n ≤ i) : fstI p d (n - i).toNat i = d := by
  rw [show (n - i).toNat = 0 by omega]
  rfl
theorem fstI_t {p : Int → Prop} {d n i : Int} (h : i < n) (hp : p i) : fstI p d (n - i).toNat i = i := by
  rw [show (n - i).toNat = (n - (i + 1)).toNat + 1 by omega]
  exact iif_t hp
theorem fstI_f {p : Int → Prop} {d n i : Int} (h : i < n) (hp : ¬ p i) : fstI p d (n - i).toNat i = fstI p d (n - (i + 1)).toNat (i + 1) := by
  rw [show (n - i).toNat = (n - (i + 1)).toNat + 1 by omega]
  exact iif_f hp
noncomputable def bd (p : Int → Prop) : Nat → Bool := fun k => @decide (p (k : Int)) (Classical.propDecidable _)
theorem bd_t {p : Int → Prop} {k : Nat} (h : p k) : bd p k = true := by simp [bd, h]
theorem bd_f {p : Int → Prop} {k : Nat} (h : ¬ p k) : bd p k = false := by simp [bd, h]
theorem bd_iff {p : Int → Prop} {k : Nat} : bd p k = true ↔ p k := by simp [bd]
/-- the set of the numbers below n with p, as bits -/
noncomputable def mskI (p : Int → Prop) (n : Int) : Int32 := nI (mkN (bd p) n.toNat)
theorem mkN_lt (f : Nat → Bool) : ∀ n, mkN f n < 2 ^ n
  | 0 => by simp [mkN]
  | n + 1 => by
    have h := mkN_lt f n
    have h2 : 2 ^ (n + 1) = 2 ^ n + 2 ^ n := by rw [Nat.pow_succ]; omega
    unfold mkN
    split <;> omega
theorem mkN_bit (f : Nat → Bool) : ∀ n k, (mkN f n).testBit k = (decide (k < n) && f k)
  | 0, k => by simp [mkN]
  | n + 1, k => by
    have ih := mkN_bit f n k
    have hlt := mkN_lt f n
    unfold mkN
    by_cases hf : f n = true
    · have e := Nat.two_pow_add_eq_or_of_lt hlt 1
      rw [Nat.mul_one] at e
      rw [if_pos hf, Nat.add_comm, e, Nat.testBit_or, Nat.testBit_two_pow, ih]
      by_cases hk : n = k
      · subst hk; simp [hf]
      · have h2 : decide (k < n + 1) = decide (k < n) := decide_eq_decide.mpr (by omega)
        rw [h2]; simp [hk]
    · rw [if_neg hf, Nat.add_zero, ih]
      by_cases hk : n = k
      · subst hk; simp [hf]
      · have h2 : decide (k < n + 1) = decide (k < n) := decide_eq_decide.mpr (by omega)
        rw [h2]
/-! the reference's words -/
def IM (S : Int → Int) : Prop := (0 ≤ S 0 ∧ S 0 ≤ 3) ∧ (0 ≤ S 1 ∧ S 1 ≤ 20) ∧ ∀ j, 5 ≤ j → j < 109 → -1 ≤ S j ∧ S j ≤ 99
theorem imB {S : Int → Int} (h : IM S) (j : Int) (h1 : 5 ≤ j ∧ j < 109) : -1 ≤ S j ∧ S j ≤ 99 := h.2.2 j h1.1 h1.2
def mTalkP (S : Int → Int) (t : Int) : Prop := (0 ≤ t ∧ t ≤ S 1 - 1) ∧ ¬ S (29 + 4 * t + 3) = -1
def mCan (S : Int → Int) (r f e z b : Int) : Prop := z ≤ S (5 + 3 * r + 0) ∧ ∀ t, 0 ≤ t → t < S 1 → (t = b ∨ ¬ S (29 + 4 * t + 3) = r ∨ e ≤ S (29 + 4 * t + 0) ∨ S (29 + 4 * t + 1) ≤ f)
noncomputable def mTalkAt (S : Int → Int) (r h : Int) : Int := fstI (fun t => S (29 + 4 * t + 3) = r ∧ S (29 + 4 * t + 0) ≤ h ∧ h ≤ S (29 + 4 * t + 1) - 1) (-1000004) (S 1 - 0).toNat 0
noncomputable def mTakenS (S : Int → Int) (r : Int) (t x : Int) : Int := iif (S (29 + 4 * t + 3) = r) (x + (S (29 + 4 * t + 1) - S (29 + 4 * t + 0))) (x + 0)
noncomputable def mTaken (S : Int → Int) (r : Int) (n : Int) : Int := fI (mTakenS S r) 0 n
noncomputable def mGapS (S : Int → Int) (r f : Int) (t x : Int) : Int := iif (S (29 + 4 * t + 3) = r ∧ S (29 + 4 * t + 1) ≤ f ∧ x < S (29 + 4 * t + 1)) (S (29 + 4 * t + 1)) x
noncomputable def mGap (S : Int → Int) (r f : Int) (n : Int) : Int := fI (mGapS S r f) 0 n
end
section
theorem lk5_30 : LkS RX5 30 yX5_in cX5_in 3 (some .boolean) 3 := ⟨tb_682, tb_680, tb_681, tb_76, by decide +kernel⟩
theorem lk5_34 : LkV RX5 34 yX5_of cX5_of 3 (some .int) 2 := ⟨tb_699, tb_696, tb_698, tb_32, tb_76, by decide +kernel⟩
theorem lk5_38 : LkV RX5 38 yX5_room0 cX5_room0 3 (some .int) 2 := ⟨tb_695, tb_692, tb_694, tb_31, tb_76, by decide +kernel⟩
abbrev r5_in : Room := { frames := 0, cells := 0, slots := 0, locals := 0 }
set_option maxHeartbeats 4000000 in
set_option maxRecDepth 100000 in
theorem k5_in (l : Launch) (D : va_G) (cs : Nat → ClassId) (v : Int) (least : Int) (most : Int) (r1 : -2147483648 ≤ v ∧ v ≤ 2147483647) (r2 : -2147483648 ≤ least ∧ least ≤ 2147483647) (r3 : -2147483648 ≤ most ∧ most ≤ 2147483647) : CI l D cs yX5_in cX5_in 3 .boolean r5_in 0 0 [.int (iI v), .int (iI least), .int (iI most)] (([] : va_W)) (([] : va_W)) (iI (b2p (least ≤ v ∧ v ≤ most))) := by
  refine CI_start (own := RX5) (by decide) rfl b2p_nar (Nat.le_of_ble_eq_true rfl) ?_
  intro p e s m args below meth c Q A ls hC hl hP hD hA hS hend
  have hl : lv_has ls 3 [(0, .int (iI v)), (1, .int (iI least)), (2, .int (iI most))] := hl
  obtain ⟨H, hH⟩ : ∃ H : Heap, H = s.heap := ⟨_, rfl⟩
  have hS : va_S A s.heap H [] := by rw [hH]; exact hS
  rw [← hH] at hP
  obtain ⟨locs, hlocs⟩ : ∃ locs : List Loc, locs = [] := ⟨_, rfl⟩
  rw [← hlocs] at hS
  suffices hgo : W p l e r5_in s m args below meth c H locs 0 0 Q (F0 m 0 ls []) by rw [← hH, ← hlocs]; exact hgo
  clear hH hlocs
  refine x_il hC hl 0 dX5_in_0 rfl rfl ?_
  refine x_il hC hl 1 dX5_in_1 rfl rfl ?_
  refine x_ic_lt hC 14 dX5_in_2 (by decide) (by omega) (by omega) (fun c_2 => ?_) (fun c_2 => ?_)
  · refine x_ic hC dX5_in_14 ?_
    exact x_retI (congrArg iI (b2p_f (by omega)).symm) hend hP hD hS dX5_in_15
  · refine x_il hC hl 0 dX5_in_5 rfl rfl ?_
    refine x_il hC hl 2 dX5_in_6 rfl rfl ?_
    refine x_ic_gt hC 14 dX5_in_7 (by decide) (by omega) (by omega) (fun c_7 => ?_) (fun c_7 => ?_)
    · refine x_ic hC dX5_in_14 ?_
      exact x_retI (congrArg iI (b2p_f (by omega)).symm) hend hP hD hS dX5_in_15
    · refine x_ic hC dX5_in_10 ?_
      refine x_goto hC 15 dX5_in_11 (by decide) ?_
      exact x_retI (congrArg iI (b2p_t (by omega)).symm) hend hP hD hS dX5_in_15
abbrev r5_isRoom : Room := { frames := 1, cells := 0, slots := 0, locals := 22 }
set_option maxHeartbeats 4000000 in
set_option maxRecDepth 100000 in
theorem k5_isRoom (l : Launch) (D : va_G) (cs : Nat → ClassId) (room : Int) (r1 : -2147483648 ≤ room ∧ room ≤ 2147483647) : CI l D cs yX5_isRoom cX5_isRoom 1 .boolean r5_isRoom 0 0 [.int (iI room)] (([] : va_W)) (([] : va_W)) (iI (b2p (0 ≤ room ∧ room ≤ 7))) := by
  refine CI_start (own := RX5) (by decide) rfl b2p_nar (Nat.le_of_ble_eq_true rfl) ?_
  intro p e s m args below meth c Q A ls hC hl hP hD hA hS hend
  have hl : lv_has ls 1 [(0, .int (iI room))] := hl
  obtain ⟨H, hH⟩ : ∃ H : Heap, H = s.heap := ⟨_, rfl⟩
  have hS : va_S A s.heap H [] := by rw [hH]; exact hS
  rw [← hH] at hP
  obtain ⟨locs, hlocs⟩ : ∃ locs : List Loc, locs = [] := ⟨_, rfl⟩
  rw [← hlocs] at hS
  suffices hgo : W p l e r5_isRoom s m args below meth c H locs 0 0 Q (F0 m 0 ls []) by rw [← hH, ← hlocs]; exact hgo
  clear hH hlocs
  refine x_il hC hl 0 dX5_isRoom_0 rfl rfl ?_
  refine x_ic hC dX5_isRoom_1 ?_
  refine x_bi hC dX5_isRoom_2 (by decide) ?_
  refine x_sI (As := [.int (iI room), .int (iI 0), .int (iI 7)]) hC (k5_in l D cs room 0 7 (by first | assumption | omega) (by first | assumption | omega) (by first | assumption | omega)) lk5_30 (sub_none hP hD hS hA) hP hS rfl hl.1 rfl (Nat.le_of_ble_eq_true rfl) ⟨rfl, rfl⟩ ⟨Nat.le_of_ble_eq_true rfl, Nat.le_of_ble_eq_true rfl⟩ ⟨Nat.le_of_ble_eq_true rfl, Nat.le_of_ble_eq_true rfl⟩ dX5_isRoom_4 (fun H locs hP hD hS hHs => ?_)
  exact x_retI (rfl) hend hP hD hS dX5_isRoom_7
abbrev r5_of : Room := { frames := 0, cells := 0, slots := 0, locals := 0 }
set_option maxHeartbeats 4000000 in
set_option maxRecDepth 100000 in
theorem k5_of (l : Launch) (D : va_G) (cs : Nat → ClassId) (h : Nat → Nat) (mF : Int → Int) (mS : Int → Int) (mA : Int → Int) (mV : Int → Int) (mT : Int → Int) (mB : Int → Int) (talk : Int) (what : Int) (hI : IM mS) (h1 : 0 ≤ talk ∧ talk < 20) (h2 : 0 ≤ what ∧ what ≤ 3) : CI l D cs yX5_of cX5_of 3 .int r5_of 0 0 [.ref (h 0), .int (iI talk), .int (iI what)] (wM h cs mF mS mA mV mT mB) (wM h cs mF mS mA mV mT mB) (iI (mS (29 + 4 * talk + what))) := by
  refine CI_start (own := RX5) (by decide) rfl rfl (Nat.le_of_ble_eq_true rfl) ?_
  intro p e s m args below meth c Q A ls hC hl hP hD hA hS hend
  have hl : lv_has ls 3 [(0, .ref (h 0)), (1, .int (iI talk)), (2, .int (iI what))] := hl
  obtain ⟨H, hH⟩ : ∃ H : Heap, H = s.heap := ⟨_, rfl⟩
  have hS : va_S A s.heap H [] := by rw [hH]; exact hS
  rw [← hH] at hP
  obtain ⟨locs, hlocs⟩ : ∃ locs : List Loc, locs = [] := ⟨_, rfl⟩
  rw [← hlocs] at hS
  suffices hgo : W p l e r5_of s m args below meth c H locs 0 0 Q (F0 m 0 ls []) by rw [← hH, ← hlocs]; exact hgo
  clear hH hlocs
  refine x_al hC hl 0 dX5_of_0 rfl rfl ?_
  refine x_get5 (v := .ref (h 1)) hC hP 0 rfl 1 (by decide) tb_620 rfl rfl dX5_of_1 ?_
  refine x_bi hC dX5_of_4 (by decide) ?_
  refine x_ic hC dX5_of_6 ?_
  refine x_il hC hl 1 dX5_of_7 rfl rfl ?_
  refine x_imul hC dX5_of_8 ?_
  refine x_iadd hC dX5_of_9 ?_
  refine x_il hC hl 2 dX5_of_10 rfl rfl ?_
  refine x_iadd hC dX5_of_11 ?_
  refine x_iald hC hP 1 rfl (by omega) (by decide) dX5_of_12 ?_
  exact x_retI (congrArg iI (by first | rfl | omega | grind : mS ((29 + (4 * talk)) + what) = mS (29 + 4 * talk + what))) hend hP hD hS dX5_of_13
abbrev r5_room0 : Room := { frames := 0, cells := 0, slots := 0, locals := 0 }
set_option maxHeartbeats 4000000 in
set_option maxRecDepth 100000 in
theorem k5_room0 (l : Launch) (D : va_G) (cs : Nat → ClassId) (h : Nat → Nat) (mF : Int → Int) (mS : Int → Int) (mA : Int → Int) (mV : Int → Int) (mT : Int → Int) (mB : Int → Int) (room : Int) (what : Int) (hI : IM mS) (h1 : 0 ≤ room ∧ room < 8) (h2 : 0 ≤ what ∧ what ≤ 2) : CI l D cs yX5_room0 cX5_room0 3 .int r5_room0 0 0 [.ref (h 0), .int (iI room), .int (iI what)] (wM h cs mF mS mA mV mT mB) (wM h cs mF mS mA mV mT mB) (iI (mS (5 + 3 * room + what))) := by
  refine CI_start (own := RX5) (by decide) rfl rfl (Nat.le_of_ble_eq_true rfl) ?_
  intro p e s m args below meth c Q A ls hC hl hP hD hA hS hend
  have hl : lv_has ls 3 [(0, .ref (h 0)), (1, .int (iI room)), (2, .int (iI what))] := hl
  obtain ⟨H, hH⟩ : ∃ H : Heap, H = s.heap := ⟨_, rfl⟩
  have hS : va_S A s.heap H [] := by rw [hH]; exact hS
  rw [← hH] at hP
  obtain ⟨locs, hlocs⟩ : ∃ locs : List Loc, locs = [] := ⟨_, rfl⟩
  rw [← hlocs] at hS
  suffices hgo : W p l e r5_room0 s m args below meth c H locs 0 0 Q (F0 m 0 ls []) by rw [← hH, ← hlocs]; exact hgo
  clear hH hlocs
  refine x_al hC hl 0 dX5_room0_0 rfl rfl ?_
  refine x_get5 (v := .ref (h 1)) hC hP 0 rfl 1 (by decide) tb_620 rfl rfl dX5_room0_1 ?_
  refine x_ic hC dX5_room0_4 ?_
  refine x_ic hC dX5_room0_5 ?_
  refine x_il hC hl 1 dX5_room0_6 rfl rfl ?_
  refine x_imul hC dX5_room0_7 ?_
  refine x_iadd hC dX5_room0_8 ?_
  refine x_il hC hl 2 dX5_room0_9 rfl rfl ?_
  refine x_iadd hC dX5_room0_10 ?_
  refine x_iald hC hP 1 rfl (by omega) (by decide) dX5_room0_11 ?_
  exact x_retI (congrArg iI (by first | rfl | omega | grind : mS ((5 + (3 * room)) + what) = mS (5 + 3 * room + what))) hend hP hD hS dX5_room0_12
abbrev r5_isTalk : Room := { frames := 1, cells := 0, slots := 0, locals := 22 }
set_option maxHeartbeats 4000000 in
set_option maxRecDepth 100000 in
theorem k5_isTalk (l : Launch) (D : va_G) (cs : Nat → ClassId) (h : Nat → Nat) (mF : Int → Int) (mS : Int → Int) (mA : Int → Int) (mV : Int → Int) (mT : Int → Int) (mB : Int → Int) (talk : Int) (hI : IM mS) (r1 : -2147483648 ≤ talk ∧ talk ≤ 2147483647) : CI l D cs yX5_isTalk cX5_isTalk 2 .boolean r5_isTalk 0 0 [.ref (h 0), .int (iI talk)] (wM h cs mF mS mA mV mT mB) (wM h cs mF mS mA mV mT mB) (iI (b2p (mTalkP mS talk))) := by
  refine CI_start (own := RX5) (by decide) rfl b2p_nar (Nat.le_of_ble_eq_true rfl) ?_
  intro p e s m args below meth c Q A ls hC hl hP hD hA hS hend
  have hl : lv_has ls 2 [(0, .ref (h 0)), (1, .int (iI talk))] := hl
  obtain ⟨H, hH⟩ : ∃ H : Heap, H = s.heap := ⟨_, rfl⟩
  have hS : va_S A s.heap H [] := by rw [hH]; exact hS
  rw [← hH] at hP
  obtain ⟨locs, hlocs⟩ : ∃ locs : List Loc, locs = [] := ⟨_, rfl⟩
  rw [← hlocs] at hS
  suffices hgo : W p l e r5_isTalk s m args below meth c H locs 0 0 Q (F0 m 0 ls []) by rw [← hH, ← hlocs]; exact hgo
  clear hH hlocs
  obtain ⟨z0, z1, -⟩ := id hI
  refine x_il hC hl 1 dX5_isTalk_0 rfl rfl ?_
  refine x_ic hC dX5_isTalk_1 ?_
  refine x_al hC hl 0 dX5_isTalk_2 rfl rfl ?_
  refine x_get5 (v := .ref (h 1)) hC hP 0 rfl 1 (by decide) tb_620 rfl rfl dX5_isTalk_3 ?_
  refine x_ic hC dX5_isTalk_6 ?_
  refine x_iald hC hP 1 rfl (by omega) (by decide) dX5_isTalk_7 ?_
  refine x_ic hC dX5_isTalk_8 ?_
  refine x_isub hC dX5_isTalk_9 ?_
  refine x_sI (As := [.int (iI talk), .int (iI 0), .int (iI ((mS 1) - 1))]) hC (k5_in l D cs talk 0 ((mS 1) - 1) (by first | assumption | omega) (by first | assumption | omega) (by first | assumption | omega)) lk5_30 (sub_none hP hD hS hA) hP hS rfl hl.1 rfl (Nat.le_of_ble_eq_true rfl) ⟨rfl, rfl⟩ ⟨Nat.le_of_ble_eq_true rfl, Nat.le_of_ble_eq_true rfl⟩ ⟨Nat.le_of_ble_eq_true rfl, Nat.le_of_ble_eq_true rfl⟩ dX5_isTalk_10 (fun H locs hP hD hS hHs => ?_)
  refine x_if_eq_b hC 30 dX5_isTalk_13 (by decide) (fun c_13 => ?_) (fun c_13 => ?_)
  · refine x_ic hC dX5_isTalk_30 ?_
    exact x_retI (congrArg iI (b2p_f (by unfold mTalkP; omega)).symm) hend hP hD hS dX5_isTalk_31
  · refine x_al hC hl 0 dX5_isTalk_16 rfl rfl ?_
    refine x_il hC hl 1 dX5_isTalk_17 rfl rfl ?_
    refine x_ic hC dX5_isTalk_18 ?_
    refine x_vI (As := [.int (iI talk), .int (iI 3)]) hC (k5_of l D cs h mF mS mA mV mT mB talk 3 (by first | assumption | omega) (by first | assumption | omega) (by first | assumption | omega)) lk5_34 (q0 := 0) (ci := 5) rfl rfl rfl (sub_all hP hD hS hA) hP hS rfl hl.1 rfl (Nat.le_of_ble_eq_true rfl) ⟨rfl, rfl⟩ ⟨Nat.le_of_ble_eq_true rfl, Nat.le_of_ble_eq_true rfl⟩ ⟨Nat.le_of_ble_eq_true rfl, Nat.le_of_ble_eq_true rfl⟩ dX5_isTalk_19 (fun H locs hP hD hS hHs => ?_)
    have q_19 := imB (S := mS) (by assumption) (29 + 4 * talk + 3) (by omega)
    refine x_ic hC dX5_isTalk_22 ?_
    refine x_ic_eq hC 30 dX5_isTalk_23 (by decide) (by omega) (by omega) (fun c_23 => ?_) (fun c_23 => ?_)
    · refine x_ic hC dX5_isTalk_30 ?_
      exact x_retI (congrArg iI (b2p_f (by unfold mTalkP; omega)).symm) hend hP hD hS dX5_isTalk_31
    · refine x_ic hC dX5_isTalk_26 ?_
      refine x_goto hC 31 dX5_isTalk_27 (by decide) ?_
      exact x_retI (congrArg iI (b2p_t (by unfold mTalkP; omega)).symm) hend hP hD hS dX5_isTalk_31
abbrev r5_isOpen : Room := { frames := 1, cells := 0, slots := 0, locals := 22 }
set_option maxHeartbeats 4000000 in
set_option maxRecDepth 100000 in
theorem k5_isOpen (l : Launch) (D : va_G) (cs : Nat → ClassId) (h : Nat → Nat) (mF : Int → Int) (mS : Int → Int) (mA : Int → Int) (mV : Int → Int) (mT : Int → Int) (mB : Int → Int) (room : Int) (hI : IM mS) (h1 : 0 ≤ room ∧ room < 8) : CI l D cs yX5_isOpen cX5_isOpen 2 .boolean r5_isOpen 0 0 [.ref (h 0), .int (iI room)] (wM h cs mF mS mA mV mT mB) (wM h cs mF mS mA mV mT mB) (iI (b2p (mS (5 + 3 * room + 2) = 1))) := by
  refine CI_start (own := RX5) (by decide) rfl b2p_nar (Nat.le_of_ble_eq_true rfl) ?_
  intro p e s m args below meth c Q A ls hC hl hP hD hA hS hend
  have hl : lv_has ls 2 [(0, .ref (h 0)), (1, .int (iI room))] := hl
  obtain ⟨H, hH⟩ : ∃ H : Heap, H = s.heap := ⟨_, rfl⟩
  have hS : va_S A s.heap H [] := by rw [hH]; exact hS
  rw [← hH] at hP
  obtain ⟨locs, hlocs⟩ : ∃ locs : List Loc, locs = [] := ⟨_, rfl⟩
  rw [← hlocs] at hS
  suffices hgo : W p l e r5_isOpen s m args below meth c H locs 0 0 Q (F0 m 0 ls []) by rw [← hH, ← hlocs]; exact hgo
  clear hH hlocs
  refine x_al hC hl 0 dX5_isOpen_0 rfl rfl ?_
  refine x_il hC hl 1 dX5_isOpen_1 rfl rfl ?_
  refine x_ic hC dX5_isOpen_2 ?_
  refine x_vI (As := [.int (iI room), .int (iI 2)]) hC (k5_room0 l D cs h mF mS mA mV mT mB room 2 (by first | assumption | omega) (by first | assumption | omega) (by first | assumption | omega)) lk5_38 (q0 := 0) (ci := 5) rfl rfl rfl (sub_all hP hD hS hA) hP hS rfl hl.1 rfl (Nat.le_of_ble_eq_true rfl) ⟨rfl, rfl⟩ ⟨Nat.le_of_ble_eq_true rfl, Nat.le_of_ble_eq_true rfl⟩ ⟨Nat.le_of_ble_eq_true rfl, Nat.le_of_ble_eq_true rfl⟩ dX5_isOpen_3 (fun H locs hP hD hS hHs => ?_)
  have q_3 := imB (S := mS) (by assumption) (5 + 3 * room + 2) (by omega)
  refine x_ic hC dX5_isOpen_6 ?_
  refine x_ic_ne hC 14 dX5_isOpen_7 (by decide) (by omega) (by omega) (fun c_7 => ?_) (fun c_7 => ?_)
  · refine x_ic hC dX5_isOpen_14 ?_
    exact x_retI (congrArg iI (b2p_f (by omega)).symm) hend hP hD hS dX5_isOpen_15
  · refine x_ic hC dX5_isOpen_10 ?_
    refine x_goto hC 15 dX5_isOpen_11 (by decide) ?_
    exact x_retI (congrArg iI (b2p_t (by omega)).symm) hend hP hD hS dX5_isOpen_15
abbrev r5_talkAt : Room := { frames := 1, cells := 0, slots := 0, locals := 22 }
set_option maxHeartbeats 4000000 in
set_option maxRecDepth 100000 in
theorem k5_talkAt (l : Launch) (D : va_G) (cs : Nat → ClassId) (h : Nat → Nat) (mF : Int → Int) (mS : Int → Int) (mA : Int → Int) (mV : Int → Int) (mT : Int → Int) (mB : Int → Int) (room : Int) (hour : Int) (hI : IM mS) (h1 : 0 ≤ room ∧ room < 8) (h2 : 0 ≤ hour ∧ hour < 48) : CI l D cs yX5_talkAt cX5_talkAt 4 .int r5_talkAt 0 0 [.ref (h 0), .int (iI room), .int (iI hour)] (wM h cs mF mS mA mV mT mB) (wM h cs mF mS mA mV mT mB) (iI (mTalkAt mS room hour)) := by
  refine CI_start (own := RX5) (by decide) rfl rfl (Nat.le_of_ble_eq_true rfl) ?_
  intro p e s m args below meth c Q A ls hC hl hP hD hA hS hend
  have hl : lv_has ls 4 [(0, .ref (h 0)), (1, .int (iI room)), (2, .int (iI hour))] := hl
  obtain ⟨H, hH⟩ : ∃ H : Heap, H = s.heap := ⟨_, rfl⟩
  have hS : va_S A s.heap H [] := by rw [hH]; exact hS
  rw [← hH] at hP
  obtain ⟨locs, hlocs⟩ : ∃ locs : List Loc, locs = [] := ⟨_, rfl⟩
  rw [← hlocs] at hS
  suffices hgo : W p l e r5_talkAt s m args below meth c H locs 0 0 Q (F0 m 0 ls []) by rw [← hH, ← hlocs]; exact hgo
  clear hH hlocs
  obtain ⟨z0, z1, -⟩ := id hI
  refine x_ic hC dX5_talkAt_0 ?_
  refine x_is hC [(3, .int (iI 0)), (0, .ref (h 0)), (1, .int (iI room)), (2, .int (iI hour))] hl dX5_talkAt_1 rfl (by decide) rfl (fun ls hl => ?_)
  have loop_2 : ∀ (n : Nat) (i : Int), (hi0 : 0 ≤ i) → (hiN : i ≤ mS 1) → (hf : fstI (fun t => mS (29 + 4 * t + 3) = room ∧ mS (29 + 4 * t + 0) ≤ hour ∧ hour ≤ mS (29 + 4 * t + 1) - 1) (-1000004) (mS 1 - i).toNat i = mTalkAt mS room hour) → ((mS 1) - i) < (n : Int) → ∀ (H : Heap) (locs : List Loc) (ls : Array Slot), va_P D vwCl (wM h cs mF mS mA mV mT mB) H → va_D A (wM h cs mF mS mA mV mT mB) → va_S A s.heap H locs → lv_has ls 4 [(3, .int (iI i)), (0, .ref (h 0)), (1, .int (iI room)), (2, .int (iI hour))] → W p l e r5_talkAt s m args below meth c H locs 0 0 Q (F0 m 2 ls []) := by
    intro n
    induction n with
    | zero =>
      intro i hi0 hiN hf hnn
      exfalso; omega
    | succ n ih_2 =>
      intro i hi0 hiN hf hnn H locs ls hP hD hS hl
      refine x_il hC hl 0 dX5_talkAt_2 rfl rfl ?_
      refine x_al hC hl 1 dX5_talkAt_3 rfl rfl ?_
      refine x_get5 (v := .ref (h 1)) hC hP 0 rfl 1 (by decide) tb_620 rfl rfl dX5_talkAt_4 ?_
      refine x_ic hC dX5_talkAt_7 ?_
      refine x_iald hC hP 1 rfl (by omega) (by decide) dX5_talkAt_8 ?_
      refine x_ic_ge hC 51 dX5_talkAt_9 (by decide) (by omega) (by omega) (fun c_9 => ?_) (fun c_9 => ?_)
      · obtain rfl : i = mS 1 := by omega
        refine x_ldc hC (-1000004) tb_836 (by decide) dX5_talkAt_51 ?_
        exact x_retI (congrArg iI (by exact (fstI_e (by omega)).symm.trans hf : (-1000004) = mTalkAt mS room hour)) hend hP hD hS dX5_talkAt_53
      · refine x_al hC hl 1 dX5_talkAt_12 rfl rfl ?_
        refine x_il hC hl 0 dX5_talkAt_13 rfl rfl ?_
        refine x_ic hC dX5_talkAt_14 ?_
        refine x_vI (As := [.int (iI i), .int (iI 3)]) hC (k5_of l D cs h mF mS mA mV mT mB i 3 (by first | assumption | omega) (by first | assumption | omega) (by first | assumption | omega)) lk5_34 (q0 := 0) (ci := 5) rfl rfl rfl (sub_all hP hD hS hA) hP hS rfl hl.1 rfl (Nat.le_of_ble_eq_true rfl) ⟨rfl, rfl⟩ ⟨Nat.le_of_ble_eq_true rfl, Nat.le_of_ble_eq_true rfl⟩ ⟨Nat.le_of_ble_eq_true rfl, Nat.le_of_ble_eq_true rfl⟩ dX5_talkAt_15 (fun H locs hP hD hS hHs => ?_)
        have q_15 := imB (S := mS) (by assumption) (29 + 4 * i + 3) (by omega)
        refine x_il hC hl 2 dX5_talkAt_18 rfl rfl ?_
        refine x_ic_ne hC 45 dX5_talkAt_19 (by decide) (by omega) (by omega) (fun c_19 => ?_) (fun c_19 => ?_)
        · refine x_iinc hC [(3, .int (iI (i + 1))), (0, .ref (h 0)), (1, .int (iI room)), (2, .int (iI hour))] 0 hl dX5_talkAt_45 rfl (by decide) rfl (fun ls hl => ?_)
          refine x_goto hC 2 dX5_talkAt_48 (by decide) ?_
          have hl := lv_sub (l' := [(3, .int (iI (i + 1))), (0, .ref (h 0)), (1, .int (iI room)), (2, .int (iI hour))]) hl [0, 1, 2, 3] rfl
          exact ih_2 (i + 1) (by omega) (by omega) ((fstI_f (by omega) (by omega)).symm.trans hf) (by omega) H locs ls hP hD hS hl
        · refine x_il hC hl 3 dX5_talkAt_22 rfl rfl ?_
          refine x_al hC hl 1 dX5_talkAt_23 rfl rfl ?_
          refine x_il hC hl 0 dX5_talkAt_24 rfl rfl ?_
          refine x_ic hC dX5_talkAt_25 ?_
          refine x_vI (As := [.int (iI i), .int (iI 0)]) hC (k5_of l D cs h mF mS mA mV mT mB i 0 (by first | assumption | omega) (by first | assumption | omega) (by first | assumption | omega)) lk5_34 (q0 := 0) (ci := 5) rfl rfl rfl (sub_all hP hD hS hA) hP hS rfl hl.1 rfl (Nat.le_of_ble_eq_true rfl) ⟨rfl, rfl⟩ ⟨Nat.le_of_ble_eq_true rfl, Nat.le_of_ble_eq_true rfl⟩ ⟨Nat.le_of_ble_eq_true rfl, Nat.le_of_ble_eq_true rfl⟩ dX5_talkAt_26 (fun H locs hP hD hS hHs => ?_)
          have q_26 := imB (S := mS) (by assumption) (29 + 4 * i + 0) (by omega)
          refine x_al hC hl 1 dX5_talkAt_29 rfl rfl ?_
          refine x_il hC hl 0 dX5_talkAt_30 rfl rfl ?_
          refine x_ic hC dX5_talkAt_31 ?_
          refine x_vI (As := [.int (iI i), .int (iI 1)]) hC (k5_of l D cs h mF mS mA mV mT mB i 1 (by first | assumption | omega) (by first | assumption | omega) (by first | assumption | omega)) lk5_34 (q0 := 0) (ci := 5) rfl rfl rfl (sub_all hP hD hS hA) hP hS rfl hl.1 rfl (Nat.le_of_ble_eq_true rfl) ⟨rfl, rfl⟩ ⟨Nat.le_of_ble_eq_true rfl, Nat.le_of_ble_eq_true rfl⟩ ⟨Nat.le_of_ble_eq_true rfl, Nat.le_of_ble_eq_true rfl⟩ dX5_talkAt_32 (fun H locs hP hD hS hHs => ?_)
          have q_32 := imB (S := mS) (by assumption) (29 + 4 * i + 1) (by omega)
          refine x_ic hC dX5_talkAt_35 ?_
          refine x_isub hC dX5_talkAt_36 ?_
          refine x_sI (As := [.int (iI hour), .int (iI (mS (29 + 4 * i + 0))), .int (iI ((mS (29 + 4 * i + 1)) - 1))]) hC (k5_in l D cs hour (mS (29 + 4 * i + 0)) ((mS (29 + 4 * i + 1)) - 1) (by first | assumption | omega) (by first | assumption | omega) (by first | assumption | omega)) lk5_30 (sub_none hP hD hS hA) hP hS rfl hl.1 rfl (Nat.le_of_ble_eq_true rfl) ⟨rfl, rfl⟩ ⟨Nat.le_of_ble_eq_true rfl, Nat.le_of_ble_eq_true rfl⟩ ⟨Nat.le_of_ble_eq_true rfl, Nat.le_of_ble_eq_true rfl⟩ dX5_talkAt_37 (fun H locs hP hD hS hHs => ?_)
          refine x_if_eq_b hC 45 dX5_talkAt_40 (by decide) (fun c_40 => ?_) (fun c_40 => ?_)
          · refine x_iinc hC [(3, .int (iI (i + 1))), (0, .ref (h 0)), (1, .int (iI room)), (2, .int (iI hour))] 0 hl dX5_talkAt_45 rfl (by decide) rfl (fun ls hl => ?_)
            refine x_goto hC 2 dX5_talkAt_48 (by decide) ?_
            have hl := lv_sub (l' := [(3, .int (iI (i + 1))), (0, .ref (h 0)), (1, .int (iI room)), (2, .int (iI hour))]) hl [0, 1, 2, 3] rfl
            exact ih_2 (i + 1) (by omega) (by omega) ((fstI_f (by omega) (by omega)).symm.trans hf) (by omega) H locs ls hP hD hS hl
          · refine x_il hC hl 0 dX5_talkAt_43 rfl rfl ?_
            exact x_retI (congrArg iI (by exact (fstI_t (by omega) (by omega)).symm.trans hf : i = mTalkAt mS room hour)) hend hP hD hS dX5_talkAt_44
  have hl := lv_sub (l' := [(3, .int (iI 0)), (0, .ref (h 0)), (1, .int (iI room)), (2, .int (iI hour))]) hl [0, 1, 2, 3] rfl
  exact loop_2 (Int.toNat ((mS 1) - 0) + 1) 0 (by omega) (by omega) rfl (by omega) H locs ls hP hD hS hl
abbrev r5_canBe : Room := { frames := 1, cells := 0, slots := 0, locals := 22 }
set_option maxHeartbeats 4000000 in
set_option maxRecDepth 100000 in
theorem k5_canBe (l : Launch) (D : va_G) (cs : Nat → ClassId) (h : Nat → Nat) (mF : Int → Int) (mS : Int → Int) (mA : Int → Int) (mV : Int → Int) (mT : Int → Int) (mB : Int → Int) (room : Int) (first : Int) (en : Int) (size : Int) (but : Int) (hI : IM mS) (h1 : 0 ≤ room ∧ room < 8) (r2 : -1 ≤ first ∧ first ≤ 99) (r3 : -1 ≤ en ∧ en ≤ 99) (r4 : -1 ≤ size ∧ size ≤ 99) (r5 : -1 ≤ but ∧ but ≤ 20) : CI l D cs yX5_canBe cX5_canBe 8 .boolean r5_canBe 0 0 [.ref (h 0), .int (iI room), .int (iI first), .int (iI en), .int (iI size), .int (iI but)] (wM h cs mF mS mA mV mT mB) (wM h cs mF mS mA mV mT mB) (iI (b2p (mCan mS room first en size but))) := by
  refine CI_start (own := RX5) (by decide) rfl b2p_nar (Nat.le_of_ble_eq_true rfl) ?_
  intro p e s m args below meth c Q A ls hC hl hP hD hA hS hend
  have hl : lv_has ls 8 [(0, .ref (h 0)), (1, .int (iI room)), (2, .int (iI first)), (3, .int (iI en)), (4, .int (iI size)), (5, .int (iI but))] := hl
  obtain ⟨H, hH⟩ : ∃ H : Heap, H = s.heap := ⟨_, rfl⟩
  have hS : va_S A s.heap H [] := by rw [hH]; exact hS
  rw [← hH] at hP
  obtain ⟨locs, hlocs⟩ : ∃ locs : List Loc, locs = [] := ⟨_, rfl⟩
  rw [← hlocs] at hS
  suffices hgo : W p l e r5_canBe s m args below meth c H locs 0 0 Q (F0 m 0 ls []) by rw [← hH, ← hlocs]; exact hgo
  clear hH hlocs
  obtain ⟨z0, z1, -⟩ := id hI
  refine x_al hC hl 0 dX5_canBe_0 rfl rfl ?_
  refine x_il hC hl 1 dX5_canBe_1 rfl rfl ?_
  refine x_ic hC dX5_canBe_2 ?_
  refine x_vI (As := [.int (iI room), .int (iI 0)]) hC (k5_room0 l D cs h mF mS mA mV mT mB room 0 (by first | assumption | omega) (by first | assumption | omega) (by first | assumption | omega)) lk5_38 (q0 := 0) (ci := 5) rfl rfl rfl (sub_all hP hD hS hA) hP hS rfl hl.1 rfl (Nat.le_of_ble_eq_true rfl) ⟨rfl, rfl⟩ ⟨Nat.le_of_ble_eq_true rfl, Nat.le_of_ble_eq_true rfl⟩ ⟨Nat.le_of_ble_eq_true rfl, Nat.le_of_ble_eq_true rfl⟩ dX5_canBe_3 (fun H locs hP hD hS hHs => ?_)
  have q_3 := imB (S := mS) (by assumption) (5 + 3 * room + 0) (by omega)
  refine x_ilw hC hl 4 dX5_canBe_6 rfl ?_
  refine x_ic_lt hC 15 dX5_canBe_8 (by decide) (by omega) (by omega) (fun c_8 => ?_) (fun c_8 => ?_)
  · refine x_ic hC dX5_canBe_15 ?_
    refine x_isw hC [(6, .int (iI 0)), (0, .ref (h 0)), (1, .int (iI room)), (2, .int (iI first)), (3, .int (iI en)), (4, .int (iI size)), (5, .int (iI but))] hl dX5_canBe_16 (by decide) rfl (fun ls hl => ?_)
    refine x_ic hC dX5_canBe_18 ?_
    refine x_isw hC [(7, .int (iI 0)), (6, .int (iI 0)), (0, .ref (h 0)), (1, .int (iI room)), (2, .int (iI first)), (3, .int (iI en)), (4, .int (iI size)), (5, .int (iI but))] hl dX5_canBe_19 (by decide) rfl (fun ls hl => ?_)
    have loop_21 : ∀ (n : Nat) (i : Int), (hi0 : 0 ≤ i) → (hiN : i ≤ mS 1) → ((mS 1) - i) < (n : Int) → ∀ (H : Heap) (locs : List Loc) (ls : Array Slot), va_P D vwCl (wM h cs mF mS mA mV mT mB) H → va_D A (wM h cs mF mS mA mV mT mB) → va_S A s.heap H locs → lv_has ls 8 [(7, .int (iI i)), (6, .int (iI (b2p (size ≤ mS (5 + 3 * room + 0) ∧ ∀ t, 0 ≤ t → t < i → (t = but ∨ ¬ mS (29 + 4 * t + 3) = room ∨ en ≤ mS (29 + 4 * t + 0) ∨ mS (29 + 4 * t + 1) ≤ first))))), (0, .ref (h 0)), (1, .int (iI room)), (2, .int (iI first)), (3, .int (iI en)), (4, .int (iI size)), (5, .int (iI but))] → W p l e r5_canBe s m args below meth c H locs 0 0 Q (F0 m 21 ls []) := by
      intro n
      induction n with
      | zero =>
        intro i hi0 hiN hnn
        exfalso; omega
      | succ n ih_21 =>
        intro i hi0 hiN hnn H locs ls hP hD hS hl
        refine x_ilw hC hl 0 dX5_canBe_21 rfl ?_
        refine x_al hC hl 2 dX5_canBe_23 rfl rfl ?_
        refine x_get5 (v := .ref (h 1)) hC hP 0 rfl 1 (by decide) tb_620 rfl rfl dX5_canBe_24 ?_
        refine x_ic hC dX5_canBe_27 ?_
        refine x_iald hC hP 1 rfl (by omega) (by decide) dX5_canBe_28 ?_
        refine x_ic_ge hC 90 dX5_canBe_29 (by decide) (by omega) (by omega) (fun c_29 => ?_) (fun c_29 => ?_)
        · obtain rfl : i = mS 1 := by omega
          refine x_ilw hC hl 1 dX5_canBe_90 rfl ?_
          exact x_retI (congrArg iI (b2p_c (by exact Iff.rfl))) hend hP hD hS dX5_canBe_92
        · refine x_ilw hC hl 1 dX5_canBe_32 rfl ?_
          refine x_if_eq_b hC 81 dX5_canBe_34 (by decide) (fun c_34 => ?_) (fun c_34 => ?_)
          · refine x_ic hC dX5_canBe_81 ?_
            refine x_isw hC [(6, .int (iI 0)), (7, .int (iI i)), (0, .ref (h 0)), (1, .int (iI room)), (2, .int (iI first)), (3, .int (iI en)), (4, .int (iI size)), (5, .int (iI but))] hl dX5_canBe_82 (by decide) rfl (fun ls hl => ?_)
            refine x_iinc hC [(7, .int (iI (i + 1))), (6, .int (iI 0)), (0, .ref (h 0)), (1, .int (iI room)), (2, .int (iI first)), (3, .int (iI en)), (4, .int (iI size)), (5, .int (iI but))] 1 hl dX5_canBe_84 rfl (by decide) rfl (fun ls hl => ?_)
            refine x_goto hC 21 dX5_canBe_87 (by decide) ?_
            have hl : lv_has ls 8 [(7, .int (iI (i + 1))), (6, .int (iI (b2p (size ≤ mS (5 + 3 * room + 0) ∧ ∀ t, 0 ≤ t → t < (i + 1) → (t = but ∨ ¬ mS (29 + 4 * t + 3) = room ∨ en ≤ mS (29 + 4 * t + 0) ∨ mS (29 + 4 * t + 1) ≤ first))))), (0, .ref (h 0)), (1, .int (iI room)), (2, .int (iI first)), (3, .int (iI en)), (4, .int (iI size)), (5, .int (iI but))] := lvE (lv_sub (l' := [(7, .int (iI (i + 1))), (6, .int (iI 0)), (0, .ref (h 0)), (1, .int (iI room)), (2, .int (iI first)), (3, .int (iI en)), (4, .int (iI size)), (5, .int (iI but))]) hl [0, 1, 2, 3, 4, 5, 6, 7] rfl) (lcE rfl (lcE (congrArg (fun z => Value.int (iI z)) (by first | exact (b2p_t (by grind)).symm | exact (b2p_f (by grind)).symm : 0 = b2p (size ≤ mS (5 + 3 * room + 0) ∧ ∀ t, 0 ≤ t → t < (i + 1) → (t = but ∨ ¬ mS (29 + 4 * t + 3) = room ∨ en ≤ mS (29 + 4 * t + 0) ∨ mS (29 + 4 * t + 1) ≤ first)))) (lcE rfl (lcE rfl (lcE rfl (lcE rfl (lcE rfl (lcE rfl (rfl)))))))))
            exact ih_21 (i + 1) (by omega) (by omega) (by omega) H locs ls hP hD hS hl
          · refine x_ilw hC hl 0 dX5_canBe_37 rfl ?_
            refine x_ilw hC hl 7 dX5_canBe_39 rfl ?_
            refine x_ic_eq hC 77 dX5_canBe_41 (by decide) (by omega) (by omega) (fun c_41 => ?_) (fun c_41 => ?_)
            · refine x_ic hC dX5_canBe_77 ?_
              refine x_goto hC 82 dX5_canBe_78 (by decide) ?_
              refine x_isw hC [(6, .int (iI 1)), (7, .int (iI i)), (0, .ref (h 0)), (1, .int (iI room)), (2, .int (iI first)), (3, .int (iI en)), (4, .int (iI size)), (5, .int (iI but))] hl dX5_canBe_82 (by decide) rfl (fun ls hl => ?_)
              refine x_iinc hC [(7, .int (iI (i + 1))), (6, .int (iI 1)), (0, .ref (h 0)), (1, .int (iI room)), (2, .int (iI first)), (3, .int (iI en)), (4, .int (iI size)), (5, .int (iI but))] 1 hl dX5_canBe_84 rfl (by decide) rfl (fun ls hl => ?_)
              refine x_goto hC 21 dX5_canBe_87 (by decide) ?_
              have hl : lv_has ls 8 [(7, .int (iI (i + 1))), (6, .int (iI (b2p (size ≤ mS (5 + 3 * room + 0) ∧ ∀ t, 0 ≤ t → t < (i + 1) → (t = but ∨ ¬ mS (29 + 4 * t + 3) = room ∨ en ≤ mS (29 + 4 * t + 0) ∨ mS (29 + 4 * t + 1) ≤ first))))), (0, .ref (h 0)), (1, .int (iI room)), (2, .int (iI first)), (3, .int (iI en)), (4, .int (iI size)), (5, .int (iI but))] := lvE (lv_sub (l' := [(7, .int (iI (i + 1))), (6, .int (iI 1)), (0, .ref (h 0)), (1, .int (iI room)), (2, .int (iI first)), (3, .int (iI en)), (4, .int (iI size)), (5, .int (iI but))]) hl [0, 1, 2, 3, 4, 5, 6, 7] rfl) (lcE rfl (lcE (congrArg (fun z => Value.int (iI z)) (by first | exact (b2p_t (by grind)).symm | exact (b2p_f (by grind)).symm : 1 = b2p (size ≤ mS (5 + 3 * room + 0) ∧ ∀ t, 0 ≤ t → t < (i + 1) → (t = but ∨ ¬ mS (29 + 4 * t + 3) = room ∨ en ≤ mS (29 + 4 * t + 0) ∨ mS (29 + 4 * t + 1) ≤ first)))) (lcE rfl (lcE rfl (lcE rfl (lcE rfl (lcE rfl (lcE rfl (rfl)))))))))
              exact ih_21 (i + 1) (by omega) (by omega) (by omega) H locs ls hP hD hS hl
            · refine x_al hC hl 2 dX5_canBe_44 rfl rfl ?_
              refine x_ilw hC hl 0 dX5_canBe_45 rfl ?_
              refine x_ic hC dX5_canBe_47 ?_
              refine x_vI (As := [.int (iI i), .int (iI 3)]) hC (k5_of l D cs h mF mS mA mV mT mB i 3 (by first | assumption | omega) (by first | assumption | omega) (by first | assumption | omega)) lk5_34 (q0 := 0) (ci := 5) rfl rfl rfl (sub_all hP hD hS hA) hP hS rfl hl.1 rfl (Nat.le_of_ble_eq_true rfl) ⟨rfl, rfl⟩ ⟨Nat.le_of_ble_eq_true rfl, Nat.le_of_ble_eq_true rfl⟩ ⟨Nat.le_of_ble_eq_true rfl, Nat.le_of_ble_eq_true rfl⟩ dX5_canBe_48 (fun H locs hP hD hS hHs => ?_)
              have q_48 := imB (S := mS) (by assumption) (29 + 4 * i + 3) (by omega)
              refine x_il hC hl 3 dX5_canBe_51 rfl rfl ?_
              refine x_ic_ne hC 77 dX5_canBe_52 (by decide) (by omega) (by omega) (fun c_52 => ?_) (fun c_52 => ?_)
              · refine x_ic hC dX5_canBe_77 ?_
                refine x_goto hC 82 dX5_canBe_78 (by decide) ?_
                refine x_isw hC [(6, .int (iI 1)), (7, .int (iI i)), (0, .ref (h 0)), (1, .int (iI room)), (2, .int (iI first)), (3, .int (iI en)), (4, .int (iI size)), (5, .int (iI but))] hl dX5_canBe_82 (by decide) rfl (fun ls hl => ?_)
                refine x_iinc hC [(7, .int (iI (i + 1))), (6, .int (iI 1)), (0, .ref (h 0)), (1, .int (iI room)), (2, .int (iI first)), (3, .int (iI en)), (4, .int (iI size)), (5, .int (iI but))] 1 hl dX5_canBe_84 rfl (by decide) rfl (fun ls hl => ?_)
                refine x_goto hC 21 dX5_canBe_87 (by decide) ?_
                have hl : lv_has ls 8 [(7, .int (iI (i + 1))), (6, .int (iI (b2p (size ≤ mS (5 + 3 * room + 0) ∧ ∀ t, 0 ≤ t → t < (i + 1) → (t = but ∨ ¬ mS (29 + 4 * t + 3) = room ∨ en ≤ mS (29 + 4 * t + 0) ∨ mS (29 + 4 * t + 1) ≤ first))))), (0, .ref (h 0)), (1, .int (iI room)), (2, .int (iI first)), (3, .int (iI en)), (4, .int (iI size)), (5, .int (iI but))] := lvE (lv_sub (l' := [(7, .int (iI (i + 1))), (6, .int (iI 1)), (0, .ref (h 0)), (1, .int (iI room)), (2, .int (iI first)), (3, .int (iI en)), (4, .int (iI size)), (5, .int (iI but))]) hl [0, 1, 2, 3, 4, 5, 6, 7] rfl) (lcE rfl (lcE (congrArg (fun z => Value.int (iI z)) (by first | exact (b2p_t (by grind)).symm | exact (b2p_f (by grind)).symm : 1 = b2p (size ≤ mS (5 + 3 * room + 0) ∧ ∀ t, 0 ≤ t → t < (i + 1) → (t = but ∨ ¬ mS (29 + 4 * t + 3) = room ∨ en ≤ mS (29 + 4 * t + 0) ∨ mS (29 + 4 * t + 1) ≤ first)))) (lcE rfl (lcE rfl (lcE rfl (lcE rfl (lcE rfl (lcE rfl (rfl)))))))))
                exact ih_21 (i + 1) (by omega) (by omega) (by omega) H locs ls hP hD hS hl
              · refine x_al hC hl 2 dX5_canBe_55 rfl rfl ?_
                refine x_ilw hC hl 0 dX5_canBe_56 rfl ?_
                refine x_ic hC dX5_canBe_58 ?_
                refine x_vI (As := [.int (iI i), .int (iI 0)]) hC (k5_of l D cs h mF mS mA mV mT mB i 0 (by first | assumption | omega) (by first | assumption | omega) (by first | assumption | omega)) lk5_34 (q0 := 0) (ci := 5) rfl rfl rfl (sub_all hP hD hS hA) hP hS rfl hl.1 rfl (Nat.le_of_ble_eq_true rfl) ⟨rfl, rfl⟩ ⟨Nat.le_of_ble_eq_true rfl, Nat.le_of_ble_eq_true rfl⟩ ⟨Nat.le_of_ble_eq_true rfl, Nat.le_of_ble_eq_true rfl⟩ dX5_canBe_59 (fun H locs hP hD hS hHs => ?_)
                have q_59 := imB (S := mS) (by assumption) (29 + 4 * i + 0) (by omega)
                refine x_il hC hl 5 dX5_canBe_62 rfl rfl ?_
                refine x_ic_ge hC 77 dX5_canBe_63 (by decide) (by omega) (by omega) (fun c_63 => ?_) (fun c_63 => ?_)
                · refine x_ic hC dX5_canBe_77 ?_
                  refine x_goto hC 82 dX5_canBe_78 (by decide) ?_
                  refine x_isw hC [(6, .int (iI 1)), (7, .int (iI i)), (0, .ref (h 0)), (1, .int (iI room)), (2, .int (iI first)), (3, .int (iI en)), (4, .int (iI size)), (5, .int (iI but))] hl dX5_canBe_82 (by decide) rfl (fun ls hl => ?_)
                  refine x_iinc hC [(7, .int (iI (i + 1))), (6, .int (iI 1)), (0, .ref (h 0)), (1, .int (iI room)), (2, .int (iI first)), (3, .int (iI en)), (4, .int (iI size)), (5, .int (iI but))] 1 hl dX5_canBe_84 rfl (by decide) rfl (fun ls hl => ?_)
                  refine x_goto hC 21 dX5_canBe_87 (by decide) ?_
                  have hl : lv_has ls 8 [(7, .int (iI (i + 1))), (6, .int (iI (b2p (size ≤ mS (5 + 3 * room + 0) ∧ ∀ t, 0 ≤ t → t < (i + 1) → (t = but ∨ ¬ mS (29 + 4 * t + 3) = room ∨ en ≤ mS (29 + 4 * t + 0) ∨ mS (29 + 4 * t + 1) ≤ first))))), (0, .ref (h 0)), (1, .int (iI room)), (2, .int (iI first)), (3, .int (iI en)), (4, .int (iI size)), (5, .int (iI but))] := lvE (lv_sub (l' := [(7, .int (iI (i + 1))), (6, .int (iI 1)), (0, .ref (h 0)), (1, .int (iI room)), (2, .int (iI first)), (3, .int (iI en)), (4, .int (iI size)), (5, .int (iI but))]) hl [0, 1, 2, 3, 4, 5, 6, 7] rfl) (lcE rfl (lcE (congrArg (fun z => Value.int (iI z)) (by first | exact (b2p_t (by grind)).symm | exact (b2p_f (by grind)).symm : 1 = b2p (size ≤ mS (5 + 3 * room + 0) ∧ ∀ t, 0 ≤ t → t < (i + 1) → (t = but ∨ ¬ mS (29 + 4 * t + 3) = room ∨ en ≤ mS (29 + 4 * t + 0) ∨ mS (29 + 4 * t + 1) ≤ first)))) (lcE rfl (lcE rfl (lcE rfl (lcE rfl (lcE rfl (lcE rfl (rfl)))))))))
                  exact ih_21 (i + 1) (by omega) (by omega) (by omega) H locs ls hP hD hS hl
                · refine x_al hC hl 2 dX5_canBe_66 rfl rfl ?_
                  refine x_ilw hC hl 0 dX5_canBe_67 rfl ?_
                  refine x_ic hC dX5_canBe_69 ?_
                  refine x_vI (As := [.int (iI i), .int (iI 1)]) hC (k5_of l D cs h mF mS mA mV mT mB i 1 (by first | assumption | omega) (by first | assumption | omega) (by first | assumption | omega)) lk5_34 (q0 := 0) (ci := 5) rfl rfl rfl (sub_all hP hD hS hA) hP hS rfl hl.1 rfl (Nat.le_of_ble_eq_true rfl) ⟨rfl, rfl⟩ ⟨Nat.le_of_ble_eq_true rfl, Nat.le_of_ble_eq_true rfl⟩ ⟨Nat.le_of_ble_eq_true rfl, Nat.le_of_ble_eq_true rfl⟩ dX5_canBe_70 (fun H locs hP hD hS hHs => ?_)
                  have q_70 := imB (S := mS) (by assumption) (29 + 4 * i + 1) (by omega)
                  refine x_il hC hl 4 dX5_canBe_73 rfl rfl ?_
                  refine x_ic_gt hC 81 dX5_canBe_74 (by decide) (by omega) (by omega) (fun c_74 => ?_) (fun c_74 => ?_)
                  · refine x_ic hC dX5_canBe_81 ?_
                    refine x_isw hC [(6, .int (iI 0)), (7, .int (iI i)), (0, .ref (h 0)), (1, .int (iI room)), (2, .int (iI first)), (3, .int (iI en)), (4, .int (iI size)), (5, .int (iI but))] hl dX5_canBe_82 (by decide) rfl (fun ls hl => ?_)
                    refine x_iinc hC [(7, .int (iI (i + 1))), (6, .int (iI 0)), (0, .ref (h 0)), (1, .int (iI room)), (2, .int (iI first)), (3, .int (iI en)), (4, .int (iI size)), (5, .int (iI but))] 1 hl dX5_canBe_84 rfl (by decide) rfl (fun ls hl => ?_)
                    refine x_goto hC 21 dX5_canBe_87 (by decide) ?_
                    have hl : lv_has ls 8 [(7, .int (iI (i + 1))), (6, .int (iI (b2p (size ≤ mS (5 + 3 * room + 0) ∧ ∀ t, 0 ≤ t → t < (i + 1) → (t = but ∨ ¬ mS (29 + 4 * t + 3) = room ∨ en ≤ mS (29 + 4 * t + 0) ∨ mS (29 + 4 * t + 1) ≤ first))))), (0, .ref (h 0)), (1, .int (iI room)), (2, .int (iI first)), (3, .int (iI en)), (4, .int (iI size)), (5, .int (iI but))] := lvE (lv_sub (l' := [(7, .int (iI (i + 1))), (6, .int (iI 0)), (0, .ref (h 0)), (1, .int (iI room)), (2, .int (iI first)), (3, .int (iI en)), (4, .int (iI size)), (5, .int (iI but))]) hl [0, 1, 2, 3, 4, 5, 6, 7] rfl) (lcE rfl (lcE (congrArg (fun z => Value.int (iI z)) (by first | exact (b2p_t (by grind)).symm | exact (b2p_f (by grind)).symm : 0 = b2p (size ≤ mS (5 + 3 * room + 0) ∧ ∀ t, 0 ≤ t → t < (i + 1) → (t = but ∨ ¬ mS (29 + 4 * t + 3) = room ∨ en ≤ mS (29 + 4 * t + 0) ∨ mS (29 + 4 * t + 1) ≤ first)))) (lcE rfl (lcE rfl (lcE rfl (lcE rfl (lcE rfl (lcE rfl (rfl)))))))))
                    exact ih_21 (i + 1) (by omega) (by omega) (by omega) H locs ls hP hD hS hl
                  · refine x_ic hC dX5_canBe_77 ?_
                    refine x_goto hC 82 dX5_canBe_78 (by decide) ?_
                    refine x_isw hC [(6, .int (iI 1)), (7, .int (iI i)), (0, .ref (h 0)), (1, .int (iI room)), (2, .int (iI first)), (3, .int (iI en)), (4, .int (iI size)), (5, .int (iI but))] hl dX5_canBe_82 (by decide) rfl (fun ls hl => ?_)
                    refine x_iinc hC [(7, .int (iI (i + 1))), (6, .int (iI 1)), (0, .ref (h 0)), (1, .int (iI room)), (2, .int (iI first)), (3, .int (iI en)), (4, .int (iI size)), (5, .int (iI but))] 1 hl dX5_canBe_84 rfl (by decide) rfl (fun ls hl => ?_)
                    refine x_goto hC 21 dX5_canBe_87 (by decide) ?_
                    have hl : lv_has ls 8 [(7, .int (iI (i + 1))), (6, .int (iI (b2p (size ≤ mS (5 + 3 * room + 0) ∧ ∀ t, 0 ≤ t → t < (i + 1) → (t = but ∨ ¬ mS (29 + 4 * t + 3) = room ∨ en ≤ mS (29 + 4 * t + 0) ∨ mS (29 + 4 * t + 1) ≤ first))))), (0, .ref (h 0)), (1, .int (iI room)), (2, .int (iI first)), (3, .int (iI en)), (4, .int (iI size)), (5, .int (iI but))] := lvE (lv_sub (l' := [(7, .int (iI (i + 1))), (6, .int (iI 1)), (0, .ref (h 0)), (1, .int (iI room)), (2, .int (iI first)), (3, .int (iI en)), (4, .int (iI size)), (5, .int (iI but))]) hl [0, 1, 2, 3, 4, 5, 6, 7] rfl) (lcE rfl (lcE (congrArg (fun z => Value.int (iI z)) (by first | exact (b2p_t (by grind)).symm | exact (b2p_f (by grind)).symm : 1 = b2p (size ≤ mS (5 + 3 * room + 0) ∧ ∀ t, 0 ≤ t → t < (i + 1) → (t = but ∨ ¬ mS (29 + 4 * t + 3) = room ∨ en ≤ mS (29 + 4 * t + 0) ∨ mS (29 + 4 * t + 1) ≤ first)))) (lcE rfl (lcE rfl (lcE rfl (lcE rfl (lcE rfl (lcE rfl (rfl)))))))))
                    exact ih_21 (i + 1) (by omega) (by omega) (by omega) H locs ls hP hD hS hl
    have hl : lv_has ls 8 [(7, .int (iI 0)), (6, .int (iI (b2p (size ≤ mS (5 + 3 * room + 0) ∧ ∀ t, 0 ≤ t → t < 0 → (t = but ∨ ¬ mS (29 + 4 * t + 3) = room ∨ en ≤ mS (29 + 4 * t + 0) ∨ mS (29 + 4 * t + 1) ≤ first))))), (0, .ref (h 0)), (1, .int (iI room)), (2, .int (iI first)), (3, .int (iI en)), (4, .int (iI size)), (5, .int (iI but))] := lvE (lv_sub (l' := [(7, .int (iI 0)), (6, .int (iI 0)), (0, .ref (h 0)), (1, .int (iI room)), (2, .int (iI first)), (3, .int (iI en)), (4, .int (iI size)), (5, .int (iI but))]) hl [0, 1, 2, 3, 4, 5, 6, 7] rfl) (lcE rfl (lcE (congrArg (fun z => Value.int (iI z)) (by first | exact (b2p_t ⟨by omega, fun t h1 h2 => by omega⟩).symm | exact (b2p_f (fun h => by omega)).symm : 0 = b2p (size ≤ mS (5 + 3 * room + 0) ∧ ∀ t, 0 ≤ t → t < 0 → (t = but ∨ ¬ mS (29 + 4 * t + 3) = room ∨ en ≤ mS (29 + 4 * t + 0) ∨ mS (29 + 4 * t + 1) ≤ first)))) (lcE rfl (lcE rfl (lcE rfl (lcE rfl (lcE rfl (lcE rfl (rfl)))))))))
    exact loop_21 (Int.toNat ((mS 1) - 0) + 1) 0 (by omega) (by omega) (by omega) H locs ls hP hD hS hl
  · refine x_ic hC dX5_canBe_11 ?_
    refine x_goto hC 16 dX5_canBe_12 (by decide) ?_
    refine x_isw hC [(6, .int (iI 1)), (0, .ref (h 0)), (1, .int (iI room)), (2, .int (iI first)), (3, .int (iI en)), (4, .int (iI size)), (5, .int (iI but))] hl dX5_canBe_16 (by decide) rfl (fun ls hl => ?_)
    refine x_ic hC dX5_canBe_18 ?_
    refine x_isw hC [(7, .int (iI 0)), (6, .int (iI 1)), (0, .ref (h 0)), (1, .int (iI room)), (2, .int (iI first)), (3, .int (iI en)), (4, .int (iI size)), (5, .int (iI but))] hl dX5_canBe_19 (by decide) rfl (fun ls hl => ?_)
    have loop_21_2 : ∀ (n : Nat) (i : Int), (hi0 : 0 ≤ i) → (hiN : i ≤ mS 1) → ((mS 1) - i) < (n : Int) → ∀ (H : Heap) (locs : List Loc) (ls : Array Slot), va_P D vwCl (wM h cs mF mS mA mV mT mB) H → va_D A (wM h cs mF mS mA mV mT mB) → va_S A s.heap H locs → lv_has ls 8 [(7, .int (iI i)), (6, .int (iI (b2p (size ≤ mS (5 + 3 * room + 0) ∧ ∀ t, 0 ≤ t → t < i → (t = but ∨ ¬ mS (29 + 4 * t + 3) = room ∨ en ≤ mS (29 + 4 * t + 0) ∨ mS (29 + 4 * t + 1) ≤ first))))), (0, .ref (h 0)), (1, .int (iI room)), (2, .int (iI first)), (3, .int (iI en)), (4, .int (iI size)), (5, .int (iI but))] → W p l e r5_canBe s m args below meth c H locs 0 0 Q (F0 m 21 ls []) := by
      intro n
      induction n with
      | zero =>
        intro i hi0 hiN hnn
        exfalso; omega
      | succ n ih_21 =>
        intro i hi0 hiN hnn H locs ls hP hD hS hl
        refine x_ilw hC hl 0 dX5_canBe_21 rfl ?_
        refine x_al hC hl 2 dX5_canBe_23 rfl rfl ?_
        refine x_get5 (v := .ref (h 1)) hC hP 0 rfl 1 (by decide) tb_620 rfl rfl dX5_canBe_24 ?_
        refine x_ic hC dX5_canBe_27 ?_
        refine x_iald hC hP 1 rfl (by omega) (by decide) dX5_canBe_28 ?_
        refine x_ic_ge hC 90 dX5_canBe_29 (by decide) (by omega) (by omega) (fun c_29_2 => ?_) (fun c_29_2 => ?_)
        · obtain rfl : i = mS 1 := by omega
          refine x_ilw hC hl 1 dX5_canBe_90 rfl ?_
          exact x_retI (congrArg iI (b2p_c (by exact Iff.rfl))) hend hP hD hS dX5_canBe_92
        · refine x_ilw hC hl 1 dX5_canBe_32 rfl ?_
          refine x_if_eq_b hC 81 dX5_canBe_34 (by decide) (fun c_34_2 => ?_) (fun c_34_2 => ?_)
          · refine x_ic hC dX5_canBe_81 ?_
            refine x_isw hC [(6, .int (iI 0)), (7, .int (iI i)), (0, .ref (h 0)), (1, .int (iI room)), (2, .int (iI first)), (3, .int (iI en)), (4, .int (iI size)), (5, .int (iI but))] hl dX5_canBe_82 (by decide) rfl (fun ls hl => ?_)
            refine x_iinc hC [(7, .int (iI (i + 1))), (6, .int (iI 0)), (0, .ref (h 0)), (1, .int (iI room)), (2, .int (iI first)), (3, .int (iI en)), (4, .int (iI size)), (5, .int (iI but))] 1 hl dX5_canBe_84 rfl (by decide) rfl (fun ls hl => ?_)
            refine x_goto hC 21 dX5_canBe_87 (by decide) ?_
            have hl : lv_has ls 8 [(7, .int (iI (i + 1))), (6, .int (iI (b2p (size ≤ mS (5 + 3 * room + 0) ∧ ∀ t, 0 ≤ t → t < (i + 1) → (t = but ∨ ¬ mS (29 + 4 * t + 3) = room ∨ en ≤ mS (29 + 4 * t + 0) ∨ mS (29 + 4 * t + 1) ≤ first))))), (0, .ref (h 0)), (1, .int (iI room)), (2, .int (iI first)), (3, .int (iI en)), (4, .int (iI size)), (5, .int (iI but))] := lvE (lv_sub (l' := [(7, .int (iI (i + 1))), (6, .int (iI 0)), (0, .ref (h 0)), (1, .int (iI room)), (2, .int (iI first)), (3, .int (iI en)), (4, .int (iI size)), (5, .int (iI but))]) hl [0, 1, 2, 3, 4, 5, 6, 7] rfl) (lcE rfl (lcE (congrArg (fun z => Value.int (iI z)) (by first | exact (b2p_t (by grind)).symm | exact (b2p_f (by grind)).symm : 0 = b2p (size ≤ mS (5 + 3 * room + 0) ∧ ∀ t, 0 ≤ t → t < (i + 1) → (t = but ∨ ¬ mS (29 + 4 * t + 3) = room ∨ en ≤ mS (29 + 4 * t + 0) ∨ mS (29 + 4 * t + 1) ≤ first)))) (lcE rfl (lcE rfl (lcE rfl (lcE rfl (lcE rfl (lcE rfl (rfl)))))))))
            exact ih_21 (i + 1) (by omega) (by omega) (by omega) H locs ls hP hD hS hl
          · refine x_ilw hC hl 0 dX5_canBe_37 rfl ?_
            refine x_ilw hC hl 7 dX5_canBe_39 rfl ?_
            refine x_ic_eq hC 77 dX5_canBe_41 (by decide) (by omega) (by omega) (fun c_41_2 => ?_) (fun c_41_2 => ?_)
            · refine x_ic hC dX5_canBe_77 ?_
              refine x_goto hC 82 dX5_canBe_78 (by decide) ?_
              refine x_isw hC [(6, .int (iI 1)), (7, .int (iI i)), (0, .ref (h 0)), (1, .int (iI room)), (2, .int (iI first)), (3, .int (iI en)), (4, .int (iI size)), (5, .int (iI but))] hl dX5_canBe_82 (by decide) rfl (fun ls hl => ?_)
              refine x_iinc hC [(7, .int (iI (i + 1))), (6, .int (iI 1)), (0, .ref (h 0)), (1, .int (iI room)), (2, .int (iI first)), (3, .int (iI en)), (4, .int (iI size)), (5, .int (iI but))] 1 hl dX5_canBe_84 rfl (by decide) rfl (fun ls hl => ?_)
              refine x_goto hC 21 dX5_canBe_87 (by decide) ?_
              have hl : lv_has ls 8 [(7, .int (iI (i + 1))), (6, .int (iI (b2p (size ≤ mS (5 + 3 * room + 0) ∧ ∀ t, 0 ≤ t → t < (i + 1) → (t = but ∨ ¬ mS (29 + 4 * t + 3) = room ∨ en ≤ mS (29 + 4 * t + 0) ∨ mS (29 + 4 * t + 1) ≤ first))))), (0, .ref (h 0)), (1, .int (iI room)), (2, .int (iI first)), (3, .int (iI en)), (4, .int (iI size)), (5, .int (iI but))] := lvE (lv_sub (l' := [(7, .int (iI (i + 1))), (6, .int (iI 1)), (0, .ref (h 0)), (1, .int (iI room)), (2, .int (iI first)), (3, .int (iI en)), (4, .int (iI size)), (5, .int (iI but))]) hl [0, 1, 2, 3, 4, 5, 6, 7] rfl) (lcE rfl (lcE (congrArg (fun z => Value.int (iI z)) (by first | exact (b2p_t (by grind)).symm | exact (b2p_f (by grind)).symm : 1 = b2p (size ≤ mS (5 + 3 * room + 0) ∧ ∀ t, 0 ≤ t → t < (i + 1) → (t = but ∨ ¬ mS (29 + 4 * t + 3) = room ∨ en ≤ mS (29 + 4 * t + 0) ∨ mS (29 + 4 * t + 1) ≤ first)))) (lcE rfl (lcE rfl (lcE rfl (lcE rfl (lcE rfl (lcE rfl (rfl)))))))))
              exact ih_21 (i + 1) (by omega) (by omega) (by omega) H locs ls hP hD hS hl
            · refine x_al hC hl 2 dX5_canBe_44 rfl rfl ?_
              refine x_ilw hC hl 0 dX5_canBe_45 rfl ?_
              refine x_ic hC dX5_canBe_47 ?_
              refine x_vI (As := [.int (iI i), .int (iI 3)]) hC (k5_of l D cs h mF mS mA mV mT mB i 3 (by first | assumption | omega) (by first | assumption | omega) (by first | assumption | omega)) lk5_34 (q0 := 0) (ci := 5) rfl rfl rfl (sub_all hP hD hS hA) hP hS rfl hl.1 rfl (Nat.le_of_ble_eq_true rfl) ⟨rfl, rfl⟩ ⟨Nat.le_of_ble_eq_true rfl, Nat.le_of_ble_eq_true rfl⟩ ⟨Nat.le_of_ble_eq_true rfl, Nat.le_of_ble_eq_true rfl⟩ dX5_canBe_48 (fun H locs hP hD hS hHs => ?_)
              have q_48_2 := imB (S := mS) (by assumption) (29 + 4 * i + 3) (by omega)
              refine x_il hC hl 3 dX5_canBe_51 rfl rfl ?_
              refine x_ic_ne hC 77 dX5_canBe_52 (by decide) (by omega) (by omega) (fun c_52_2 => ?_) (fun c_52_2 => ?_)
              · refine x_ic hC dX5_canBe_77 ?_
                refine x_goto hC 82 dX5_canBe_78 (by decide) ?_
                refine x_isw hC [(6, .int (iI 1)), (7, .int (iI i)), (0, .ref (h 0)), (1, .int (iI room)), (2, .int (iI first)), (3, .int (iI en)), (4, .int (iI size)), (5, .int (iI but))] hl dX5_canBe_82 (by decide) rfl (fun ls hl => ?_)
                refine x_iinc hC [(7, .int (iI (i + 1))), (6, .int (iI 1)), (0, .ref (h 0)), (1, .int (iI room)), (2, .int (iI first)), (3, .int (iI en)), (4, .int (iI size)), (5, .int (iI but))] 1 hl dX5_canBe_84 rfl (by decide) rfl (fun ls hl => ?_)
                refine x_goto hC 21 dX5_canBe_87 (by decide) ?_
                have hl : lv_has ls 8 [(7, .int (iI (i + 1))), (6, .int (iI (b2p (size ≤ mS (5 + 3 * room + 0) ∧ ∀ t, 0 ≤ t → t < (i + 1) → (t = but ∨ ¬ mS (29 + 4 * t + 3) = room ∨ en ≤ mS (29 + 4 * t + 0) ∨ mS (29 + 4 * t + 1) ≤ first))))), (0, .ref (h 0)), (1, .int (iI room)), (2, .int (iI first)), (3, .int (iI en)), (4, .int (iI size)), (5, .int (iI but))] := lvE (lv_sub (l' := [(7, .int (iI (i + 1))), (6, .int (iI 1)), (0, .ref (h 0)), (1, .int (iI room)), (2, .int (iI first)), (3, .int (iI en)), (4, .int (iI size)), (5, .int (iI but))]) hl [0, 1, 2, 3, 4, 5, 6, 7] rfl) (lcE rfl (lcE (congrArg (fun z => Value.int (iI z)) (by first | exact (b2p_t (by grind)).symm | exact (b2p_f (by grind)).symm : 1 = b2p (size ≤ mS (5 + 3 * room + 0) ∧ ∀ t, 0 ≤ t → t < (i + 1) → (t = but ∨ ¬ mS (29 + 4 * t + 3) = room ∨ en ≤ mS (29 + 4 * t + 0) ∨ mS (29 + 4 * t + 1) ≤ first)))) (lcE rfl (lcE rfl (lcE rfl (lcE rfl (lcE rfl (lcE rfl (rfl)))))))))
                exact ih_21 (i + 1) (by omega) (by omega) (by omega) H locs ls hP hD hS hl
              · refine x_al hC hl 2 dX5_canBe_55 rfl rfl ?_
                refine x_ilw hC hl 0 dX5_canBe_56 rfl ?_
                refine x_ic hC dX5_canBe_58 ?_
                refine x_vI (As := [.int (iI i), .int (iI 0)]) hC (k5_of l D cs h mF mS mA mV mT mB i 0 (by first | assumption | omega) (by first | assumption | omega) (by first | assumption | omega)) lk5_34 (q0 := 0) (ci := 5) rfl rfl rfl (sub_all hP hD hS hA) hP hS rfl hl.1 rfl (Nat.le_of_ble_eq_true rfl) ⟨rfl, rfl⟩ ⟨Nat.le_of_ble_eq_true rfl, Nat.le_of_ble_eq_true rfl⟩ ⟨Nat.le_of_ble_eq_true rfl, Nat.le_of_ble_eq_true rfl⟩ dX5_canBe_59 (fun H locs hP hD hS hHs => ?_)
                have q_59_2 := imB (S := mS) (by assumption) (29 + 4 * i + 0) (by omega)
                refine x_il hC hl 5 dX5_canBe_62 rfl rfl ?_
                refine x_ic_ge hC 77 dX5_canBe_63 (by decide) (by omega) (by omega) (fun c_63_2 => ?_) (fun c_63_2 => ?_)
                · refine x_ic hC dX5_canBe_77 ?_
                  refine x_goto hC 82 dX5_canBe_78 (by decide) ?_
                  refine x_isw hC [(6, .int (iI 1)), (7, .int (iI i)), (0, .ref (h 0)), (1, .int (iI room)), (2, .int (iI first)), (3, .int (iI en)), (4, .int (iI size)), (5, .int (iI but))] hl dX5_canBe_82 (by decide) rfl (fun ls hl => ?_)
                  refine x_iinc hC [(7, .int (iI (i + 1))), (6, .int (iI 1)), (0, .ref (h 0)), (1, .int (iI room)), (2, .int (iI first)), (3, .int (iI en)), (4, .int (iI size)), (5, .int (iI but))] 1 hl dX5_canBe_84 rfl (by decide) rfl (fun ls hl => ?_)
                  refine x_goto hC 21 dX5_canBe_87 (by decide) ?_
                  have hl : lv_has ls 8 [(7, .int (iI (i + 1))), (6, .int (iI (b2p (size ≤ mS (5 + 3 * room + 0) ∧ ∀ t, 0 ≤ t → t < (i + 1) → (t = but ∨ ¬ mS (29 + 4 * t + 3) = room ∨ en ≤ mS (29 + 4 * t + 0) ∨ mS (29 + 4 * t + 1) ≤ first))))), (0, .ref (h 0)), (1, .int (iI room)), (2, .int (iI first)), (3, .int (iI en)), (4, .int (iI size)), (5, .int (iI but))] := lvE (lv_sub (l' := [(7, .int (iI (i + 1))), (6, .int (iI 1)), (0, .ref (h 0)), (1, .int (iI room)), (2, .int (iI first)), (3, .int (iI en)), (4, .int (iI size)), (5, .int (iI but))]) hl [0, 1, 2, 3, 4, 5, 6, 7] rfl) (lcE rfl (lcE (congrArg (fun z => Value.int (iI z)) (by first | exact (b2p_t (by grind)).symm | exact (b2p_f (by grind)).symm : 1 = b2p (size ≤ mS (5 + 3 * room + 0) ∧ ∀ t, 0 ≤ t → t < (i + 1) → (t = but ∨ ¬ mS (29 + 4 * t + 3) = room ∨ en ≤ mS (29 + 4 * t + 0) ∨ mS (29 + 4 * t + 1) ≤ first)))) (lcE rfl (lcE rfl (lcE rfl (lcE rfl (lcE rfl (lcE rfl (rfl)))))))))
                  exact ih_21 (i + 1) (by omega) (by omega) (by omega) H locs ls hP hD hS hl
                · refine x_al hC hl 2 dX5_canBe_66 rfl rfl ?_
                  refine x_ilw hC hl 0 dX5_canBe_67 rfl ?_
                  refine x_ic hC dX5_canBe_69 ?_
                  refine x_vI (As := [.int (iI i), .int (iI 1)]) hC (k5_of l D cs h mF mS mA mV mT mB i 1 (by first | assumption | omega) (by first | assumption | omega) (by first | assumption | omega)) lk5_34 (q0 := 0) (ci := 5) rfl rfl rfl (sub_all hP hD hS hA) hP hS rfl hl.1 rfl (Nat.le_of_ble_eq_true rfl) ⟨rfl, rfl⟩ ⟨Nat.le_of_ble_eq_true rfl, Nat.le_of_ble_eq_true rfl⟩ ⟨Nat.le_of_ble_eq_true rfl, Nat.le_of_ble_eq_true rfl⟩ dX5_canBe_70 (fun H locs hP hD hS hHs => ?_)
                  have q_70_2 := imB (S := mS) (by assumption) (29 + 4 * i + 1) (by omega)
                  refine x_il hC hl 4 dX5_canBe_73 rfl rfl ?_
                  refine x_ic_gt hC 81 dX5_canBe_74 (by decide) (by omega) (by omega) (fun c_74_2 => ?_) (fun c_74_2 => ?_)
                  · refine x_ic hC dX5_canBe_81 ?_
                    refine x_isw hC [(6, .int (iI 0)), (7, .int (iI i)), (0, .ref (h 0)), (1, .int (iI room)), (2, .int (iI first)), (3, .int (iI en)), (4, .int (iI size)), (5, .int (iI but))] hl dX5_canBe_82 (by decide) rfl (fun ls hl => ?_)
                    refine x_iinc hC [(7, .int (iI (i + 1))), (6, .int (iI 0)), (0, .ref (h 0)), (1, .int (iI room)), (2, .int (iI first)), (3, .int (iI en)), (4, .int (iI size)), (5, .int (iI but))] 1 hl dX5_canBe_84 rfl (by decide) rfl (fun ls hl => ?_)
                    refine x_goto hC 21 dX5_canBe_87 (by decide) ?_
                    have hl : lv_has ls 8 [(7, .int (iI (i + 1))), (6, .int (iI (b2p (size ≤ mS (5 + 3 * room + 0) ∧ ∀ t, 0 ≤ t → t < (i + 1) → (t = but ∨ ¬ mS (29 + 4 * t + 3) = room ∨ en ≤ mS (29 + 4 * t + 0) ∨ mS (29 + 4 * t + 1) ≤ first))))), (0, .ref (h 0)), (1, .int (iI room)), (2, .int (iI first)), (3, .int (iI en)), (4, .int (iI size)), (5, .int (iI but))] := lvE (lv_sub (l' := [(7, .int (iI (i + 1))), (6, .int (iI 0)), (0, .ref (h 0)), (1, .int (iI room)), (2, .int (iI first)), (3, .int (iI en)), (4, .int (iI size)), (5, .int (iI but))]) hl [0, 1, 2, 3, 4, 5, 6, 7] rfl) (lcE rfl (lcE (congrArg (fun z => Value.int (iI z)) (by first | exact (b2p_t (by grind)).symm | exact (b2p_f (by grind)).symm : 0 = b2p (size ≤ mS (5 + 3 * room + 0) ∧ ∀ t, 0 ≤ t → t < (i + 1) → (t = but ∨ ¬ mS (29 + 4 * t + 3) = room ∨ en ≤ mS (29 + 4 * t + 0) ∨ mS (29 + 4 * t + 1) ≤ first)))) (lcE rfl (lcE rfl (lcE rfl (lcE rfl (lcE rfl (lcE rfl (rfl)))))))))
                    exact ih_21 (i + 1) (by omega) (by omega) (by omega) H locs ls hP hD hS hl
                  · refine x_ic hC dX5_canBe_77 ?_
                    refine x_goto hC 82 dX5_canBe_78 (by decide) ?_
                    refine x_isw hC [(6, .int (iI 1)), (7, .int (iI i)), (0, .ref (h 0)), (1, .int (iI room)), (2, .int (iI first)), (3, .int (iI en)), (4, .int (iI size)), (5, .int (iI but))] hl dX5_canBe_82 (by decide) rfl (fun ls hl => ?_)
                    refine x_iinc hC [(7, .int (iI (i + 1))), (6, .int (iI 1)), (0, .ref (h 0)), (1, .int (iI room)), (2, .int (iI first)), (3, .int (iI en)), (4, .int (iI size)), (5, .int (iI but))] 1 hl dX5_canBe_84 rfl (by decide) rfl (fun ls hl => ?_)
                    refine x_goto hC 21 dX5_canBe_87 (by decide) ?_
                    have hl : lv_has ls 8 [(7, .int (iI (i + 1))), (6, .int (iI (b2p (size ≤ mS (5 + 3 * room + 0) ∧ ∀ t, 0 ≤ t → t < (i + 1) → (t = but ∨ ¬ mS (29 + 4 * t + 3) = room ∨ en ≤ mS (29 + 4 * t + 0) ∨ mS (29 + 4 * t + 1) ≤ first))))), (0, .ref (h 0)), (1, .int (iI room)), (2, .int (iI first)), (3, .int (iI en)), (4, .int (iI size)), (5, .int (iI but))] := lvE (lv_sub (l' := [(7, .int (iI (i + 1))), (6, .int (iI 1)), (0, .ref (h 0)), (1, .int (iI room)), (2, .int (iI first)), (3, .int (iI en)), (4, .int (iI size)), (5, .int (iI but))]) hl [0, 1, 2, 3, 4, 5, 6, 7] rfl) (lcE rfl (lcE (congrArg (fun z => Value.int (iI z)) (by first | exact (b2p_t (by grind)).symm | exact (b2p_f (by grind)).symm : 1 = b2p (size ≤ mS (5 + 3 * room + 0) ∧ ∀ t, 0 ≤ t → t < (i + 1) → (t = but ∨ ¬ mS (29 + 4 * t + 3) = room ∨ en ≤ mS (29 + 4 * t + 0) ∨ mS (29 + 4 * t + 1) ≤ first)))) (lcE rfl (lcE rfl (lcE rfl (lcE rfl (lcE rfl (lcE rfl (rfl)))))))))
                    exact ih_21 (i + 1) (by omega) (by omega) (by omega) H locs ls hP hD hS hl
    have hl : lv_has ls 8 [(7, .int (iI 0)), (6, .int (iI (b2p (size ≤ mS (5 + 3 * room + 0) ∧ ∀ t, 0 ≤ t → t < 0 → (t = but ∨ ¬ mS (29 + 4 * t + 3) = room ∨ en ≤ mS (29 + 4 * t + 0) ∨ mS (29 + 4 * t + 1) ≤ first))))), (0, .ref (h 0)), (1, .int (iI room)), (2, .int (iI first)), (3, .int (iI en)), (4, .int (iI size)), (5, .int (iI but))] := lvE (lv_sub (l' := [(7, .int (iI 0)), (6, .int (iI 1)), (0, .ref (h 0)), (1, .int (iI room)), (2, .int (iI first)), (3, .int (iI en)), (4, .int (iI size)), (5, .int (iI but))]) hl [0, 1, 2, 3, 4, 5, 6, 7] rfl) (lcE rfl (lcE (congrArg (fun z => Value.int (iI z)) (by first | exact (b2p_t ⟨by omega, fun t h1 h2 => by omega⟩).symm | exact (b2p_f (fun h => by omega)).symm : 1 = b2p (size ≤ mS (5 + 3 * room + 0) ∧ ∀ t, 0 ≤ t → t < 0 → (t = but ∨ ¬ mS (29 + 4 * t + 3) = room ∨ en ≤ mS (29 + 4 * t + 0) ∨ mS (29 + 4 * t + 1) ≤ first)))) (lcE rfl (lcE rfl (lcE rfl (lcE rfl (lcE rfl (lcE rfl (rfl)))))))))
    exact loop_21_2 (Int.toNat ((mS 1) - 0) + 1) 0 (by omega) (by omega) (by omega) H locs ls hP hD hS hl
end
section
theorem lk5_45 : LkV RX5 45 yX5_gap cX5_gap 6 (some .int) 2 := ⟨tb_711, tb_708, tb_710, tb_35, tb_76, by decide +kernel⟩
theorem lk5_48 : LkV RX5 48 yX5_taken cX5_taken 4 (some .int) 1 := ⟨tb_715, tb_712, tb_714, tb_36, tb_76, by decide +kernel⟩
theorem lk5_52 : LkV RX5 52 yX5_canBe cX5_canBe 8 (some .boolean) 5 := ⟨tb_691, tb_688, tb_690, tb_30, tb_76, by decide +kernel⟩
theorem lk5_56 : LkV RX5 56 yX5_isOpen cX5_isOpen 2 (some .boolean) 1 := ⟨tb_703, tb_700, tb_702, tb_33, tb_76, by decide +kernel⟩
theorem lk5_60 : LkV RX5 60 yX5_worth cX5_worth 4 (some .int) 3 := ⟨tb_707, tb_704, tb_706, tb_34, tb_76, by decide +kernel⟩
theorem lk5_64 : LkV RX5 64 yX5_dearness cX5_dearness 2 (some .int) 1 := ⟨tb_719, tb_716, tb_718, tb_37, tb_76, by decide +kernel⟩
theorem lk5_96 : LkV RX5 96 yX5_canMove cX5_canMove 3 (some .boolean) 2 := ⟨tb_756, tb_753, tb_755, tb_43, tb_76, by decide +kernel⟩
theorem lk5_143 : LkV RX5 143 yX5_talkAt cX5_talkAt 4 (some .int) 2 := ⟨tb_835, tb_832, tb_834, tb_56, tb_76, by decide +kernel⟩
theorem lk5_152 : LkV RX5 152 yX5_talksAt cX5_talksAt 4 (some .int) 1 := ⟨tb_848, tb_845, tb_847, tb_57, tb_76, by decide +kernel⟩
/-! the reference's readers -/
theorem iif_T {α : Type} {a b : α} : iif True a b = a := iif_t trivial
theorem iif_F {α : Type} {a b : α} : iif False a b = b := iif_f (fun h => h)
theorem mGap_rg {S : Int → Int} (hI : IM S) (r f : Int) {n : Int} (h0 : 0 ≤ n) (h1 : n ≤ S 1) : 0 ≤ mGap S r f n ∧ mGap S r f n ≤ 99 := by
  have hc := hI.2.1
  refine fI_ind (fun _ x => 0 ≤ x ∧ x ≤ 99) (by omega) (fun i x hi hin hx => ?_) h0
  have hb := imB hI (29 + 4 * i + 1) (by omega)
  unfold mGapS
  by_cases c : S (29 + 4 * i + 3) = r ∧ S (29 + 4 * i + 1) ≤ f ∧ x < S (29 + 4 * i + 1)
  · rw [iif_t c]; omega
  · rw [iif_f c]; omega
theorem mTaken_rg {S : Int → Int} (hI : IM S) (r : Int) {n : Int} (h0 : 0 ≤ n) (h1 : n ≤ S 1) : -(100 * n) ≤ mTaken S r n ∧ mTaken S r n ≤ 100 * n := by
  have hc := hI.2.1
  refine fI_ind (fun n x => -(100 * n) ≤ x ∧ x ≤ 100 * n) (by omega) (fun i x hi hin hx => ?_) h0
  have hb := imB hI (29 + 4 * i + 1) (by omega)
  have hb2 := imB hI (29 + 4 * i + 0) (by omega)
  unfold mTakenS
  by_cases c : S (29 + 4 * i + 3) = r
  · rw [iif_t c]; omega
  · rw [iif_f c]; omega
noncomputable def mWorth (S : Int → Int) (r f rule : Int) : Int := iif (rule = 0) 0 (iif (rule = 1) (f - mGap S r f (S 1)) (iif (rule = 2) (S (5 + 3 * r + 0)) (-mTaken S r (S 1))))
theorem mWorth_rg {S : Int → Int} (hI : IM S) (r f rule : Int) (hr : 0 ≤ r ∧ r < 8) (hf : -1 ≤ f ∧ f ≤ 99) : -3000 ≤ mWorth S r f rule ∧ mWorth S r f rule ≤ 3000 := by
  have hc := hI.2.1
  have h1 := mGap_rg hI r f hc.1 (Int.le_refl _)
  have h2 := mTaken_rg hI r hc.1 (Int.le_refl _)
  have h3 := imB hI (5 + 3 * r + 0) (by omega)
  unfold mWorth iif
  split
  · omega
  · split
    · omega
    · split <;> omega
def mDear (S : Int → Int) (r : Int) : Int := 10 * S (5 + 3 * r + 1) + S (5 + 3 * r + 0)
theorem mDear_rg {S : Int → Int} (hI : IM S) (r : Int) (hr : 0 ≤ r ∧ r < 8) : -3000 ≤ mDear S r ∧ mDear S r ≤ 3000 := by
  have h1 := imB hI (5 + 3 * r + 1) (by omega)
  have h3 := imB hI (5 + 3 * r + 0) (by omega)
  unfold mDear
  omega
noncomputable def mGetS (S : Int → Int) (f e z rule : Int) (r : Int) (x : Int × Int) : Int × Int := iif (mCan S r f e z (-1)) (iif (S (5 + 3 * r + 2) = 1) (iif (x.1 = -1 ∨ mWorth S r f rule < mWorth S x.1 f rule) r x.1, x.2) (x.1, iif (x.2 = -1 ∨ mDear S r < mDear S x.2) r x.2)) x
noncomputable def mGetX (S : Int → Int) (f e z rule : Int) (n : Int) : Int × Int := fI (mGetS S f e z rule) (-1, -1) n
theorem mGetX_s (S : Int → Int) (f e z rule : Int) {i : Int} (h : 0 ≤ i) : mGetX S f e z rule (i + 1) = mGetS S f e z rule i (mGetX S f e z rule i) := fI_s h
theorem mGetX_rg (S : Int → Int) (f e z rule : Int) {n : Int} (h0 : 0 ≤ n) : (-1 ≤ (mGetX S f e z rule n).1 ∧ (mGetX S f e z rule n).1 < n) ∧ -1 ≤ (mGetX S f e z rule n).2 ∧ (mGetX S f e z rule n).2 < n := by
  refine fI_ind (fun n (x : Int × Int) => (-1 ≤ x.1 ∧ x.1 < n) ∧ -1 ≤ x.2 ∧ x.2 < n) (by simp) (fun i x hi hin hx => ?_) h0
  unfold mGetS iif
  split
  · split
    · dsimp only; split <;> omega
    · dsimp only; split <;> omega
  · omega
noncomputable def mGets (S : Int → Int) (f e z rule : Int) : Int := iif ((mGetX S f e z rule 8).1 = -1) (mGetX S f e z rule 8).2 (mGetX S f e z rule 8).1
theorem mGets_rg (S : Int → Int) (f e z rule : Int) : -1 ≤ mGets S f e z rule ∧ mGets S f e z rule < 8 := by
  have h := mGetX_rg S f e z rule (n := 8) (by omega)
  unfold mGets iif
  split <;> omega
def mMove (S : Int → Int) (t r : Int) : Prop := ¬ S (29 + 4 * t + 3) = r ∧ S (5 + 3 * r + 2) = 1 ∧ mCan S r (S (29 + 4 * t + 0)) (S (29 + 4 * t + 1)) (S (29 + 4 * t + 2)) t
noncomputable def mLow (S : Int → Int) (t : Int) : Int := fstI (fun r => mMove S t r) (-1) (8 - (0 : Int)).toNat 0
def mOpenN (S : Int → Int) (n : Int) : Int := fI (fun r x => x + S (5 + 3 * r + 2)) 0 n
theorem bd_s (p : Int → Prop) (n : Int) (h : 0 ≤ n) : mkN (bd p) (n + 1).toNat = mkN (bd p) n.toNat + (if bd p n.toNat then 2 ^ n.toNat else 0) := by
  rw [show (n + 1).toNat = n.toNat + 1 by omega]
  rfl
theorem shl_1 (n : Nat) (h : n < 31) : (iI 1 : Int32) <<< (iI (n : Int) &&& 31) = nI (2 ^ n) := by
  have : ∀ n : Nat, n < 31 → (iI 1 : Int32) <<< (iI (n : Int) &&& 31) = nI (2 ^ n) := by decide +kernel
  exact this n h
theorem mskI_t {p : Int → Prop} {i : Int} (h0 : 0 ≤ i) (h1 : i < 31) (hp : p i) : mskI p i ||| (iI 1 <<< (iI i &&& 31)) = mskI p (i + 1) := by
  obtain ⟨n, rfl⟩ := Int.eq_ofNat_of_zero_le h0
  unfold mskI
  rw [shl_1 n (by omega), bd_s p n (by omega), if_pos (bd_t (by simpa using hp))]
  have hlt := mkN_lt (bd p) n
  have e := Nat.two_pow_add_eq_or_of_lt hlt 1
  rw [Nat.mul_one] at e
  show nI (mkN (bd p) n) ||| nI (2 ^ n) = nI (mkN (bd p) n + 2 ^ n)
  rw [Nat.add_comm, e, Nat.or_comm]
  unfold nI
  exact (Int32.ofNat_or ..).symm
theorem mskI_f {p : Int → Prop} {i : Int} (h0 : 0 ≤ i) (hp : ¬ p i) : mskI p i ||| iI 0 = mskI p (i + 1) := by
  obtain ⟨n, rfl⟩ := Int.eq_ofNat_of_zero_le h0
  unfold mskI
  rw [bd_s p n (by omega), bd_f (by simpa using hp)]
  show nI (mkN (bd p) n) ||| (0 : Int32) = _
  rw [Int32.or_zero]
  rfl
noncomputable def bitI (x : Int32) (k : Int) : Int := ((x >>> (iI k &&& 31)) &&& iI 1).toInt
theorem bitI_eq (x : Int32) (k : Int) : (x >>> (iI k &&& 31)) &&& iI 1 = iI (bitI x k) := by
  unfold bitI iI
  rw [Int32.ofInt_toInt]
noncomputable def popI (x : Int32) (n : Int) : Int := fI (fun k y => y + bitI x k) 0 n
theorem mTalkAt_rg (S : Int → Int) (r h : Int) (hc : S 1 ≤ 20) : -1000004 ≤ mTalkAt S r h ∧ mTalkAt S r h < 20 := by
  have hh : ∀ (p : Int → Prop) (k : Nat) (i : Int), 0 ≤ i → i + k ≤ 20 → -1000004 ≤ fstI p (-1000004) k i ∧ fstI p (-1000004) k i < 20 := by
    intro p k
    induction k with
    | zero => intro i _ _; unfold fstI; omega
    | succ k ih =>
      intro i h0 h1
      unfold fstI iif
      split
      · omega
      · exact ih (i + 1) (by omega) (by omega)
  exact hh _ _ _ (Int.le_refl 0) (by omega)
noncomputable def mLongS (S : Int → Int) (r : Int) (h : Int) (x : Int × Int) : Int × Int := iif (mTalkAt S r h = -1000004) (iif (x.1 < x.2 + 1) (x.2 + 1) x.1, x.2 + 1) (iif (x.1 < 0) 0 x.1, 0)
noncomputable def mLong (S : Int → Int) (r : Int) (n : Int) : Int × Int := fI (mLongS S r) (0, 0) n
theorem mLong_s (S : Int → Int) (r : Int) {i : Int} (h : 0 ≤ i) : mLong S r (i + 1) = mLongS S r i (mLong S r i) := fI_s h
theorem mLong_rg (S : Int → Int) (r : Int) {n : Int} (h0 : 0 ≤ n) : (0 ≤ (mLong S r n).1 ∧ (mLong S r n).1 ≤ n) ∧ 0 ≤ (mLong S r n).2 ∧ (mLong S r n).2 ≤ n := by
  refine fI_ind (fun n (x : Int × Int) => (0 ≤ x.1 ∧ x.1 ≤ n) ∧ 0 ≤ x.2 ∧ x.2 ≤ n) (by simp) (fun i x hi hin hx => ?_) h0
  unfold mLongS iif
  split
  · dsimp only; split <;> omega
  · dsimp only; split <;> omega
noncomputable def mTalksAtS (S : Int → Int) (h r x : Int) : Int := iif (mTalkAt S r h = -1000004) (x + 0) (x + 1)
noncomputable def mTalksAt (S : Int → Int) (h n : Int) : Int := fI (mTalksAtS S h) 0 n
theorem mTalksAt_rg (S : Int → Int) (h : Int) {n : Int} (h0 : 0 ≤ n) : 0 ≤ mTalksAt S h n ∧ mTalksAt S h n ≤ n := by
  refine fI_ind (fun n x => 0 ≤ x ∧ x ≤ n) (by simp) (fun i x hi hin hx => ?_) h0
  unfold mTalksAtS iif
  split <;> omega
noncomputable def mTalksS (S : Int → Int) (t x : Int) : Int := iif (S (29 + 4 * t + 3) = -1) (x + 0) (x + 1)
noncomputable def mTalks (S : Int → Int) (n : Int) : Int := fI (mTalksS S) 0 n
theorem mTalks_rg (S : Int → Int) {n : Int} (h0 : 0 ≤ n) : 0 ≤ mTalks S n ∧ mTalks S n ≤ n := by
  refine fI_ind (fun n x => 0 ≤ x ∧ x ≤ n) (by simp) (fun i x hi hin hx => ?_) h0
  unfold mTalksS iif
  split <;> omega
noncomputable def mFewS (S : Int → Int) (h x : Int) : Int := iif (x < mTalksAt S h 8) (mTalksAt S h 8) x
noncomputable def mFew (S : Int → Int) (n : Int) : Int := fI (mFewS S) 0 n
theorem mFew_s (S : Int → Int) {i : Int} (h : 0 ≤ i) : mFew S (i + 1) = mFewS S i (mFew S i) := fI_s h
theorem mFew_rg (S : Int → Int) {n : Int} (h0 : 0 ≤ n) : 0 ≤ mFew S n ∧ mFew S n ≤ 8 := by
  refine fI_ind (fun n x => 0 ≤ x ∧ x ≤ 8) (by simp) (fun i x hi hin hx => ?_) h0
  have := mTalksAt_rg S i (n := 8) (by omega)
  unfold mFewS iif
  split <;> omega
noncomputable def mHours (S : Int → Int) (n : Int) : Int := fI (fun r x => x + mTaken S r (S 1)) 0 n

abbrev r5_taken : Room := { frames := 1, cells := 0, slots := 0, locals := 22 }
set_option maxHeartbeats 4000000 in
set_option maxRecDepth 100000 in
theorem k5_taken (l : Launch) (D : va_G) (cs : Nat → ClassId) (h : Nat → Nat) (mF : Int → Int) (mS : Int → Int) (mA : Int → Int) (mV : Int → Int) (mT : Int → Int) (mB : Int → Int) (room : Int) (hI : IM mS) (h1 : 0 ≤ room ∧ room < 8) : CI l D cs yX5_taken cX5_taken 4 .int r5_taken 0 0 [.ref (h 0), .int (iI room)] (wM h cs mF mS mA mV mT mB) (wM h cs mF mS mA mV mT mB) (iI (mTaken mS room (mS 1))) := by
  refine CI_start (own := RX5) (by decide) rfl rfl (Nat.le_of_ble_eq_true rfl) ?_
  intro p e s m args below meth c Q A ls hC hl hP hD hA hS hend
  have hl : lv_has ls 4 [(0, .ref (h 0)), (1, .int (iI room))] := hl
  obtain ⟨H, hH⟩ : ∃ H : Heap, H = s.heap := ⟨_, rfl⟩
  have hS : va_S A s.heap H [] := by rw [hH]; exact hS
  rw [← hH] at hP
  obtain ⟨locs, hlocs⟩ : ∃ locs : List Loc, locs = [] := ⟨_, rfl⟩
  rw [← hlocs] at hS
  suffices hgo : W p l e r5_taken s m args below meth c H locs 0 0 Q (F0 m 0 ls []) by rw [← hH, ← hlocs]; exact hgo
  clear hH hlocs
  obtain ⟨z0, z1, -⟩ := id hI
  refine x_ic hC dX5_taken_0 ?_
  refine x_is hC [(2, .int (iI 0)), (0, .ref (h 0)), (1, .int (iI room))] hl dX5_taken_1 rfl (by decide) rfl (fun ls hl => ?_)
  refine x_ic hC dX5_taken_2 ?_
  refine x_is hC [(3, .int (iI 0)), (2, .int (iI 0)), (0, .ref (h 0)), (1, .int (iI room))] hl dX5_taken_3 rfl (by decide) rfl (fun ls hl => ?_)
  have loop_4 : ∀ (n : Nat) (i : Int), (hi0 : 0 ≤ i) → (hiN : i ≤ mS 1) → ((mS 1) - i) < (n : Int) → ∀ (H : Heap) (locs : List Loc) (ls : Array Slot), va_P D vwCl (wM h cs mF mS mA mV mT mB) H → va_D A (wM h cs mF mS mA mV mT mB) → va_S A s.heap H locs → lv_has ls 4 [(3, .int (iI i)), (2, .int (iI (mTaken mS room i))), (0, .ref (h 0)), (1, .int (iI room))] → W p l e r5_taken s m args below meth c H locs 0 0 Q (F0 m 4 ls []) := by
    intro n
    induction n with
    | zero =>
      intro i hi0 hiN hnn
      exfalso; omega
    | succ n ih_4 =>
      intro i hi0 hiN hnn H locs ls hP hD hS hl
      refine x_il hC hl 0 dX5_taken_4 rfl rfl ?_
      refine x_al hC hl 2 dX5_taken_5 rfl rfl ?_
      refine x_get5 (v := .ref (h 1)) hC hP 0 rfl 1 (by decide) tb_620 rfl rfl dX5_taken_6 ?_
      refine x_ic hC dX5_taken_9 ?_
      refine x_iald hC hP 1 rfl (by omega) (by decide) dX5_taken_10 ?_
      refine x_ic_ge hC 50 dX5_taken_11 (by decide) (by omega) (by omega) (fun c_11 => ?_) (fun c_11 => ?_)
      · obtain rfl : i = mS 1 := by omega
        refine x_il hC hl 1 dX5_taken_50 rfl rfl ?_
        exact x_retI (rfl) hend hP hD hS dX5_taken_51
      · refine x_il hC hl 1 dX5_taken_14 rfl rfl ?_
        refine x_al hC hl 2 dX5_taken_15 rfl rfl ?_
        refine x_il hC hl 0 dX5_taken_16 rfl rfl ?_
        refine x_ic hC dX5_taken_17 ?_
        refine x_vI (As := [.int (iI i), .int (iI 3)]) hC (k5_of l D cs h mF mS mA mV mT mB i 3 (by first | assumption | omega) (by first | assumption | omega) (by first | assumption | omega)) lk5_34 (q0 := 0) (ci := 5) rfl rfl rfl (sub_all hP hD hS hA) hP hS rfl hl.1 rfl (Nat.le_of_ble_eq_true rfl) ⟨rfl, rfl⟩ ⟨Nat.le_of_ble_eq_true rfl, Nat.le_of_ble_eq_true rfl⟩ ⟨Nat.le_of_ble_eq_true rfl, Nat.le_of_ble_eq_true rfl⟩ dX5_taken_18 (fun H locs hP hD hS hHs => ?_)
        have q_18 := imB (S := mS) (by assumption) (29 + 4 * i + 3) (by omega)
        refine x_il hC hl 3 dX5_taken_21 rfl rfl ?_
        refine x_ic_ne hC 41 dX5_taken_22 (by decide) (by omega) (by omega) (fun c_22 => ?_) (fun c_22 => ?_)
        · refine x_ic hC dX5_taken_41 ?_
          refine x_iadd hC dX5_taken_42 ?_
          refine x_is hC [(2, .int (iI ((mTaken mS room i) + 0))), (3, .int (iI i)), (0, .ref (h 0)), (1, .int (iI room))] hl dX5_taken_43 rfl (by decide) rfl (fun ls hl => ?_)
          refine x_iinc hC [(3, .int (iI (i + 1))), (2, .int (iI ((mTaken mS room i) + 0))), (0, .ref (h 0)), (1, .int (iI room))] 1 hl dX5_taken_44 rfl (by decide) rfl (fun ls hl => ?_)
          refine x_goto hC 4 dX5_taken_47 (by decide) ?_
          have hl : lv_has ls 4 [(3, .int (iI (i + 1))), (2, .int (iI (mTaken mS room (i + 1)))), (0, .ref (h 0)), (1, .int (iI room))] := lvE (lv_sub (l' := [(3, .int (iI (i + 1))), (2, .int (iI ((mTaken mS room i) + 0))), (0, .ref (h 0)), (1, .int (iI room))]) hl [0, 1, 2, 3] rfl) (lcE rfl (lcE (congrArg (fun z => Value.int (iI z)) (by unfold mTaken; rw [fI_s (by omega)]; first | exact (iif_t (by omega)).symm | exact (iif_f (by omega)).symm : (mTaken mS room i) + 0 = mTaken mS room (i + 1))) (lcE rfl (lcE rfl (rfl)))))
          exact ih_4 (i + 1) (by omega) (by omega) (by omega) H locs ls hP hD hS hl
        · refine x_al hC hl 2 dX5_taken_25 rfl rfl ?_
          refine x_il hC hl 0 dX5_taken_26 rfl rfl ?_
          refine x_ic hC dX5_taken_27 ?_
          refine x_vI (As := [.int (iI i), .int (iI 1)]) hC (k5_of l D cs h mF mS mA mV mT mB i 1 (by first | assumption | omega) (by first | assumption | omega) (by first | assumption | omega)) lk5_34 (q0 := 0) (ci := 5) rfl rfl rfl (sub_all hP hD hS hA) hP hS rfl hl.1 rfl (Nat.le_of_ble_eq_true rfl) ⟨rfl, rfl⟩ ⟨Nat.le_of_ble_eq_true rfl, Nat.le_of_ble_eq_true rfl⟩ ⟨Nat.le_of_ble_eq_true rfl, Nat.le_of_ble_eq_true rfl⟩ dX5_taken_28 (fun H locs hP hD hS hHs => ?_)
          have q_28 := imB (S := mS) (by assumption) (29 + 4 * i + 1) (by omega)
          refine x_al hC hl 2 dX5_taken_31 rfl rfl ?_
          refine x_il hC hl 0 dX5_taken_32 rfl rfl ?_
          refine x_ic hC dX5_taken_33 ?_
          refine x_vI (As := [.int (iI i), .int (iI 0)]) hC (k5_of l D cs h mF mS mA mV mT mB i 0 (by first | assumption | omega) (by first | assumption | omega) (by first | assumption | omega)) lk5_34 (q0 := 0) (ci := 5) rfl rfl rfl (sub_all hP hD hS hA) hP hS rfl hl.1 rfl (Nat.le_of_ble_eq_true rfl) ⟨rfl, rfl⟩ ⟨Nat.le_of_ble_eq_true rfl, Nat.le_of_ble_eq_true rfl⟩ ⟨Nat.le_of_ble_eq_true rfl, Nat.le_of_ble_eq_true rfl⟩ dX5_taken_34 (fun H locs hP hD hS hHs => ?_)
          have q_34 := imB (S := mS) (by assumption) (29 + 4 * i + 0) (by omega)
          refine x_isub hC dX5_taken_37 ?_
          refine x_goto hC 42 dX5_taken_38 (by decide) ?_
          refine x_iadd hC dX5_taken_42 ?_
          refine x_is hC [(2, .int (iI ((mTaken mS room i) + ((mS (29 + 4 * i + 1)) - (mS (29 + 4 * i + 0)))))), (3, .int (iI i)), (0, .ref (h 0)), (1, .int (iI room))] hl dX5_taken_43 rfl (by decide) rfl (fun ls hl => ?_)
          refine x_iinc hC [(3, .int (iI (i + 1))), (2, .int (iI ((mTaken mS room i) + ((mS (29 + 4 * i + 1)) - (mS (29 + 4 * i + 0)))))), (0, .ref (h 0)), (1, .int (iI room))] 1 hl dX5_taken_44 rfl (by decide) rfl (fun ls hl => ?_)
          refine x_goto hC 4 dX5_taken_47 (by decide) ?_
          have hl : lv_has ls 4 [(3, .int (iI (i + 1))), (2, .int (iI (mTaken mS room (i + 1)))), (0, .ref (h 0)), (1, .int (iI room))] := lvE (lv_sub (l' := [(3, .int (iI (i + 1))), (2, .int (iI ((mTaken mS room i) + ((mS (29 + 4 * i + 1)) - (mS (29 + 4 * i + 0)))))), (0, .ref (h 0)), (1, .int (iI room))]) hl [0, 1, 2, 3] rfl) (lcE rfl (lcE (congrArg (fun z => Value.int (iI z)) (by unfold mTaken; rw [fI_s (by omega)]; first | exact (iif_t (by omega)).symm | exact (iif_f (by omega)).symm : (mTaken mS room i) + ((mS (29 + 4 * i + 1)) - (mS (29 + 4 * i + 0))) = mTaken mS room (i + 1))) (lcE rfl (lcE rfl (rfl)))))
          exact ih_4 (i + 1) (by omega) (by omega) (by omega) H locs ls hP hD hS hl
  have hl := lv_sub (l' := [(3, .int (iI 0)), (2, .int (iI (mTaken mS room 0))), (0, .ref (h 0)), (1, .int (iI room))]) hl [0, 1, 2, 3] rfl
  exact loop_4 (Int.toNat ((mS 1) - 0) + 1) 0 (by omega) (by omega) (by omega) H locs ls hP hD hS hl
abbrev r5_gap : Room := { frames := 1, cells := 0, slots := 0, locals := 22 }
set_option maxHeartbeats 4000000 in
set_option maxRecDepth 100000 in
theorem k5_gap (l : Launch) (D : va_G) (cs : Nat → ClassId) (h : Nat → Nat) (mF : Int → Int) (mS : Int → Int) (mA : Int → Int) (mV : Int → Int) (mT : Int → Int) (mB : Int → Int) (room : Int) (first : Int) (hI : IM mS) (h1 : 0 ≤ room ∧ room < 8) (h2 : -1 ≤ first ∧ first ≤ 99) : CI l D cs yX5_gap cX5_gap 6 .int r5_gap 0 0 [.ref (h 0), .int (iI room), .int (iI first)] (wM h cs mF mS mA mV mT mB) (wM h cs mF mS mA mV mT mB) (iI (first - mGap mS room first (mS 1))) := by
  refine CI_start (own := RX5) (by decide) rfl rfl (Nat.le_of_ble_eq_true rfl) ?_
  intro p e s m args below meth c Q A ls hC hl hP hD hA hS hend
  have hl : lv_has ls 6 [(0, .ref (h 0)), (1, .int (iI room)), (2, .int (iI first))] := hl
  obtain ⟨H, hH⟩ : ∃ H : Heap, H = s.heap := ⟨_, rfl⟩
  have hS : va_S A s.heap H [] := by rw [hH]; exact hS
  rw [← hH] at hP
  obtain ⟨locs, hlocs⟩ : ∃ locs : List Loc, locs = [] := ⟨_, rfl⟩
  rw [← hlocs] at hS
  suffices hgo : W p l e r5_gap s m args below meth c H locs 0 0 Q (F0 m 0 ls []) by rw [← hH, ← hlocs]; exact hgo
  clear hH hlocs
  obtain ⟨z0, z1, -⟩ := id hI
  refine x_ic hC dX5_gap_0 ?_
  refine x_is hC [(3, .int (iI 0)), (0, .ref (h 0)), (1, .int (iI room)), (2, .int (iI first))] hl dX5_gap_1 rfl (by decide) rfl (fun ls hl => ?_)
  refine x_ic hC dX5_gap_2 ?_
  refine x_isw hC [(4, .int (iI 0)), (3, .int (iI 0)), (0, .ref (h 0)), (1, .int (iI room)), (2, .int (iI first))] hl dX5_gap_3 (by decide) rfl (fun ls hl => ?_)
  have loop_5 : ∀ (n : Nat) (i : Int), (hi0 : 0 ≤ i) → (hiN : i ≤ mS 1) → ((mS 1) - i) < (n : Int) → ∀ (H : Heap) (locs : List Loc) (ls : Array Slot), va_P D vwCl (wM h cs mF mS mA mV mT mB) H → va_D A (wM h cs mF mS mA mV mT mB) → va_S A s.heap H locs → lv_has ls 6 [(4, .int (iI i)), (3, .int (iI (mGap mS room first i))), (0, .ref (h 0)), (1, .int (iI room)), (2, .int (iI first))] → W p l e r5_gap s m args below meth c H locs 0 0 Q (F0 m 5 ls []) := by
    intro n
    induction n with
    | zero =>
      intro i hi0 hiN hnn
      exfalso; omega
    | succ n ih_5 =>
      intro i hi0 hiN hnn H locs ls hP hD hS hl
      have hx := mGap_rg hI room first hi0 hiN
      refine x_ilw hC hl 0 dX5_gap_5 rfl ?_
      refine x_al hC hl 2 dX5_gap_7 rfl rfl ?_
      refine x_get5 (v := .ref (h 1)) hC hP 0 rfl 1 (by decide) tb_620 rfl rfl dX5_gap_8 ?_
      refine x_ic hC dX5_gap_11 ?_
      refine x_iald hC hP 1 rfl (by omega) (by decide) dX5_gap_12 ?_
      refine x_ic_ge hC 79 dX5_gap_13 (by decide) (by omega) (by omega) (fun c_13 => ?_) (fun c_13 => ?_)
      · obtain rfl : i = mS 1 := by omega
        refine x_il hC hl 4 dX5_gap_79 rfl rfl ?_
        refine x_il hC hl 1 dX5_gap_80 rfl rfl ?_
        refine x_isub hC dX5_gap_81 ?_
        exact x_retI (congrArg iI (by first | rfl | omega | grind : first - (mGap mS room first (mS 1)) = first - mGap mS room first (mS 1))) hend hP hD hS dX5_gap_82
      · refine x_al hC hl 2 dX5_gap_16 rfl rfl ?_
        refine x_ilw hC hl 0 dX5_gap_17 rfl ?_
        refine x_ic hC dX5_gap_19 ?_
        refine x_vI (As := [.int (iI i), .int (iI 3)]) hC (k5_of l D cs h mF mS mA mV mT mB i 3 (by first | assumption | omega) (by first | assumption | omega) (by first | assumption | omega)) lk5_34 (q0 := 0) (ci := 5) rfl rfl rfl (sub_all hP hD hS hA) hP hS rfl hl.1 rfl (Nat.le_of_ble_eq_true rfl) ⟨rfl, rfl⟩ ⟨Nat.le_of_ble_eq_true rfl, Nat.le_of_ble_eq_true rfl⟩ ⟨Nat.le_of_ble_eq_true rfl, Nat.le_of_ble_eq_true rfl⟩ dX5_gap_20 (fun H locs hP hD hS hHs => ?_)
        have q_20 := imB (S := mS) (by assumption) (29 + 4 * i + 3) (by omega)
        refine x_il hC hl 3 dX5_gap_23 rfl rfl ?_
        refine x_ic_ne hC 42 dX5_gap_24 (by decide) (by omega) (by omega) (fun c_24 => ?_) (fun c_24 => ?_)
        · refine x_ic hC dX5_gap_42 ?_
          refine x_isw hC [(5, .int (iI 0)), (4, .int (iI i)), (3, .int (iI (mGap mS room first i))), (0, .ref (h 0)), (1, .int (iI room)), (2, .int (iI first))] hl dX5_gap_43 (by decide) rfl (fun ls hl => ?_)
          refine x_ilw hC hl 0 dX5_gap_45 rfl ?_
          refine x_if_eq hC 71 dX5_gap_47 (by decide) (by omega) (fun c_47 => ?_) (fun hz => absurd hz (by decide))
          refine x_il hC hl 2 dX5_gap_71 rfl rfl ?_
          refine x_is hC [(3, .int (iI (mGap mS room first i))), (5, .int (iI 0)), (4, .int (iI i)), (0, .ref (h 0)), (1, .int (iI room)), (2, .int (iI first))] hl dX5_gap_72 rfl (by decide) rfl (fun ls hl => ?_)
          refine x_iinc hC [(4, .int (iI (i + 1))), (3, .int (iI (mGap mS room first i))), (5, .int (iI 0)), (0, .ref (h 0)), (1, .int (iI room)), (2, .int (iI first))] 2 hl dX5_gap_73 rfl (by decide) rfl (fun ls hl => ?_)
          refine x_goto hC 5 dX5_gap_76 (by decide) ?_
          have hl : lv_has ls 6 [(4, .int (iI (i + 1))), (3, .int (iI (mGap mS room first (i + 1)))), (0, .ref (h 0)), (1, .int (iI room)), (2, .int (iI first))] := lvE (lv_sub (l' := [(4, .int (iI (i + 1))), (3, .int (iI (mGap mS room first i))), (0, .ref (h 0)), (1, .int (iI room)), (2, .int (iI first))]) hl [0, 1, 3, 4, 5] rfl) (lcE rfl (lcE (congrArg (fun z => Value.int (iI z)) (by unfold mGap; rw [fI_s (by omega)]; first | exact (iif_t (by unfold mGap at *; omega)).symm | exact (iif_f (by unfold mGap at *; omega)).symm : mGap mS room first i = mGap mS room first (i + 1))) (lcE rfl (lcE rfl (lcE rfl (rfl))))))
          exact ih_5 (i + 1) (by omega) (by omega) (by omega) H locs ls hP hD hS hl
        · refine x_al hC hl 2 dX5_gap_27 rfl rfl ?_
          refine x_ilw hC hl 0 dX5_gap_28 rfl ?_
          refine x_ic hC dX5_gap_30 ?_
          refine x_vI (As := [.int (iI i), .int (iI 1)]) hC (k5_of l D cs h mF mS mA mV mT mB i 1 (by first | assumption | omega) (by first | assumption | omega) (by first | assumption | omega)) lk5_34 (q0 := 0) (ci := 5) rfl rfl rfl (sub_all hP hD hS hA) hP hS rfl hl.1 rfl (Nat.le_of_ble_eq_true rfl) ⟨rfl, rfl⟩ ⟨Nat.le_of_ble_eq_true rfl, Nat.le_of_ble_eq_true rfl⟩ ⟨Nat.le_of_ble_eq_true rfl, Nat.le_of_ble_eq_true rfl⟩ dX5_gap_31 (fun H locs hP hD hS hHs => ?_)
          have q_31 := imB (S := mS) (by assumption) (29 + 4 * i + 1) (by omega)
          refine x_il hC hl 4 dX5_gap_34 rfl rfl ?_
          refine x_ic_gt hC 42 dX5_gap_35 (by decide) (by omega) (by omega) (fun c_35 => ?_) (fun c_35 => ?_)
          · refine x_ic hC dX5_gap_42 ?_
            refine x_isw hC [(5, .int (iI 0)), (4, .int (iI i)), (3, .int (iI (mGap mS room first i))), (0, .ref (h 0)), (1, .int (iI room)), (2, .int (iI first))] hl dX5_gap_43 (by decide) rfl (fun ls hl => ?_)
            refine x_ilw hC hl 0 dX5_gap_45 rfl ?_
            refine x_if_eq hC 71 dX5_gap_47 (by decide) (by omega) (fun c_47_2 => ?_) (fun hz => absurd hz (by decide))
            refine x_il hC hl 2 dX5_gap_71 rfl rfl ?_
            refine x_is hC [(3, .int (iI (mGap mS room first i))), (5, .int (iI 0)), (4, .int (iI i)), (0, .ref (h 0)), (1, .int (iI room)), (2, .int (iI first))] hl dX5_gap_72 rfl (by decide) rfl (fun ls hl => ?_)
            refine x_iinc hC [(4, .int (iI (i + 1))), (3, .int (iI (mGap mS room first i))), (5, .int (iI 0)), (0, .ref (h 0)), (1, .int (iI room)), (2, .int (iI first))] 2 hl dX5_gap_73 rfl (by decide) rfl (fun ls hl => ?_)
            refine x_goto hC 5 dX5_gap_76 (by decide) ?_
            have hl : lv_has ls 6 [(4, .int (iI (i + 1))), (3, .int (iI (mGap mS room first (i + 1)))), (0, .ref (h 0)), (1, .int (iI room)), (2, .int (iI first))] := lvE (lv_sub (l' := [(4, .int (iI (i + 1))), (3, .int (iI (mGap mS room first i))), (0, .ref (h 0)), (1, .int (iI room)), (2, .int (iI first))]) hl [0, 1, 3, 4, 5] rfl) (lcE rfl (lcE (congrArg (fun z => Value.int (iI z)) (by unfold mGap; rw [fI_s (by omega)]; first | exact (iif_t (by unfold mGap at *; omega)).symm | exact (iif_f (by unfold mGap at *; omega)).symm : mGap mS room first i = mGap mS room first (i + 1))) (lcE rfl (lcE rfl (lcE rfl (rfl))))))
            exact ih_5 (i + 1) (by omega) (by omega) (by omega) H locs ls hP hD hS hl
          · refine x_ic hC dX5_gap_38 ?_
            refine x_goto hC 43 dX5_gap_39 (by decide) ?_
            refine x_isw hC [(5, .int (iI 1)), (4, .int (iI i)), (3, .int (iI (mGap mS room first i))), (0, .ref (h 0)), (1, .int (iI room)), (2, .int (iI first))] hl dX5_gap_43 (by decide) rfl (fun ls hl => ?_)
            refine x_ilw hC hl 0 dX5_gap_45 rfl ?_
            refine x_if_eq hC 71 dX5_gap_47 (by decide) (by omega) (fun hz => absurd hz (by decide)) (fun c_47_3 => ?_)
            refine x_al hC hl 3 dX5_gap_50 rfl rfl ?_
            refine x_ilw hC hl 1 dX5_gap_51 rfl ?_
            refine x_ic hC dX5_gap_53 ?_
            refine x_vI (As := [.int (iI i), .int (iI 1)]) hC (k5_of l D cs h mF mS mA mV mT mB i 1 (by first | assumption | omega) (by first | assumption | omega) (by first | assumption | omega)) lk5_34 (q0 := 0) (ci := 5) rfl rfl rfl (sub_all hP hD hS hA) hP hS rfl hl.1 rfl (Nat.le_of_ble_eq_true rfl) ⟨rfl, rfl⟩ ⟨Nat.le_of_ble_eq_true rfl, Nat.le_of_ble_eq_true rfl⟩ ⟨Nat.le_of_ble_eq_true rfl, Nat.le_of_ble_eq_true rfl⟩ dX5_gap_54 (fun H locs hP hD hS hHs => ?_)
            have q_54 := imB (S := mS) (by assumption) (29 + 4 * i + 1) (by omega)
            refine x_il hC hl 2 dX5_gap_57 rfl rfl ?_
            refine x_ic_le hC 71 dX5_gap_58 (by decide) (by omega) (by omega) (fun c_58 => ?_) (fun c_58 => ?_)
            · refine x_il hC hl 2 dX5_gap_71 rfl rfl ?_
              refine x_is hC [(3, .int (iI (mGap mS room first i))), (5, .int (iI 1)), (4, .int (iI i)), (0, .ref (h 0)), (1, .int (iI room)), (2, .int (iI first))] hl dX5_gap_72 rfl (by decide) rfl (fun ls hl => ?_)
              refine x_iinc hC [(4, .int (iI (i + 1))), (3, .int (iI (mGap mS room first i))), (5, .int (iI 1)), (0, .ref (h 0)), (1, .int (iI room)), (2, .int (iI first))] 2 hl dX5_gap_73 rfl (by decide) rfl (fun ls hl => ?_)
              refine x_goto hC 5 dX5_gap_76 (by decide) ?_
              have hl : lv_has ls 6 [(4, .int (iI (i + 1))), (3, .int (iI (mGap mS room first (i + 1)))), (0, .ref (h 0)), (1, .int (iI room)), (2, .int (iI first))] := lvE (lv_sub (l' := [(4, .int (iI (i + 1))), (3, .int (iI (mGap mS room first i))), (0, .ref (h 0)), (1, .int (iI room)), (2, .int (iI first))]) hl [0, 1, 3, 4, 5] rfl) (lcE rfl (lcE (congrArg (fun z => Value.int (iI z)) (by unfold mGap; rw [fI_s (by omega)]; first | exact (iif_t (by unfold mGap at *; omega)).symm | exact (iif_f (by unfold mGap at *; omega)).symm : mGap mS room first i = mGap mS room first (i + 1))) (lcE rfl (lcE rfl (lcE rfl (rfl))))))
              exact ih_5 (i + 1) (by omega) (by omega) (by omega) H locs ls hP hD hS hl
            · refine x_al hC hl 3 dX5_gap_61 rfl rfl ?_
              refine x_ilw hC hl 1 dX5_gap_62 rfl ?_
              refine x_ic hC dX5_gap_64 ?_
              refine x_vI (As := [.int (iI i), .int (iI 1)]) hC (k5_of l D cs h mF mS mA mV mT mB i 1 (by first | assumption | omega) (by first | assumption | omega) (by first | assumption | omega)) lk5_34 (q0 := 0) (ci := 5) rfl rfl rfl (sub_all hP hD hS hA) hP hS rfl hl.1 rfl (Nat.le_of_ble_eq_true rfl) ⟨rfl, rfl⟩ ⟨Nat.le_of_ble_eq_true rfl, Nat.le_of_ble_eq_true rfl⟩ ⟨Nat.le_of_ble_eq_true rfl, Nat.le_of_ble_eq_true rfl⟩ dX5_gap_65 (fun H locs hP hD hS hHs => ?_)
              have q_65 := imB (S := mS) (by assumption) (29 + 4 * i + 1) (by omega)
              refine x_goto hC 72 dX5_gap_68 (by decide) ?_
              refine x_is hC [(3, .int (iI (mS (29 + 4 * i + 1)))), (5, .int (iI 1)), (4, .int (iI i)), (0, .ref (h 0)), (1, .int (iI room)), (2, .int (iI first))] hl dX5_gap_72 rfl (by decide) rfl (fun ls hl => ?_)
              refine x_iinc hC [(4, .int (iI (i + 1))), (3, .int (iI (mS (29 + 4 * i + 1)))), (5, .int (iI 1)), (0, .ref (h 0)), (1, .int (iI room)), (2, .int (iI first))] 2 hl dX5_gap_73 rfl (by decide) rfl (fun ls hl => ?_)
              refine x_goto hC 5 dX5_gap_76 (by decide) ?_
              have hl : lv_has ls 6 [(4, .int (iI (i + 1))), (3, .int (iI (mGap mS room first (i + 1)))), (0, .ref (h 0)), (1, .int (iI room)), (2, .int (iI first))] := lvE (lv_sub (l' := [(4, .int (iI (i + 1))), (3, .int (iI (mS (29 + 4 * i + 1)))), (0, .ref (h 0)), (1, .int (iI room)), (2, .int (iI first))]) hl [0, 1, 3, 4, 5] rfl) (lcE rfl (lcE (congrArg (fun z => Value.int (iI z)) (by unfold mGap; rw [fI_s (by omega)]; first | exact (iif_t (by unfold mGap at *; omega)).symm | exact (iif_f (by unfold mGap at *; omega)).symm : mS (29 + 4 * i + 1) = mGap mS room first (i + 1))) (lcE rfl (lcE rfl (lcE rfl (rfl))))))
              exact ih_5 (i + 1) (by omega) (by omega) (by omega) H locs ls hP hD hS hl
  have hl := lv_sub (l' := [(4, .int (iI 0)), (3, .int (iI (mGap mS room first 0))), (0, .ref (h 0)), (1, .int (iI room)), (2, .int (iI first))]) hl [0, 1, 2, 3, 4] rfl
  exact loop_5 (Int.toNat ((mS 1) - 0) + 1) 0 (by omega) (by omega) (by omega) H locs ls hP hD hS hl
abbrev r5_worth : Room := { frames := 2, cells := 0, slots := 0, locals := 47 }
set_option maxHeartbeats 4000000 in
set_option maxRecDepth 100000 in
theorem k5_worth (l : Launch) (D : va_G) (cs : Nat → ClassId) (h : Nat → Nat) (mF : Int → Int) (mS : Int → Int) (mA : Int → Int) (mV : Int → Int) (mT : Int → Int) (mB : Int → Int) (room : Int) (first : Int) (rule : Int) (hI : IM mS) (h1 : 0 ≤ room ∧ room < 8) (h2 : -1 ≤ first ∧ first ≤ 99) (h3 : 0 ≤ rule ∧ rule ≤ 3) : CI l D cs yX5_worth cX5_worth 4 .int r5_worth 0 0 [.ref (h 0), .int (iI room), .int (iI first), .int (iI rule)] (wM h cs mF mS mA mV mT mB) (wM h cs mF mS mA mV mT mB) (iI (mWorth mS room first rule)) := by
  refine CI_start (own := RX5) (by decide) rfl rfl (Nat.le_of_ble_eq_true rfl) ?_
  intro p e s m args below meth c Q A ls hC hl hP hD hA hS hend
  have hl : lv_has ls 4 [(0, .ref (h 0)), (1, .int (iI room)), (2, .int (iI first)), (3, .int (iI rule))] := hl
  obtain ⟨H, hH⟩ : ∃ H : Heap, H = s.heap := ⟨_, rfl⟩
  have hS : va_S A s.heap H [] := by rw [hH]; exact hS
  rw [← hH] at hP
  obtain ⟨locs, hlocs⟩ : ∃ locs : List Loc, locs = [] := ⟨_, rfl⟩
  rw [← hlocs] at hS
  suffices hgo : W p l e r5_worth s m args below meth c H locs 0 0 Q (F0 m 0 ls []) by rw [← hH, ← hlocs]; exact hgo
  clear hH hlocs
  obtain ⟨z0, z1, -⟩ := id hI
  refine x_il hC hl 3 dX5_worth_0 rfl rfl ?_
  refine x_if_ne hC 8 dX5_worth_1 (by decide) (by omega) (fun c_1 => ?_) (fun c_1 => ?_)
  · refine x_il hC hl 3 dX5_worth_8 rfl rfl ?_
    refine x_ic hC dX5_worth_9 ?_
    refine x_ic_ne hC 22 dX5_worth_10 (by decide) (by omega) (by omega) (fun c_10 => ?_) (fun c_10 => ?_)
    · refine x_il hC hl 3 dX5_worth_22 rfl rfl ?_
      refine x_ic hC dX5_worth_23 ?_
      refine x_ic_ne hC 36 dX5_worth_24 (by decide) (by omega) (by omega) (fun c_24 => ?_) (fun c_24 => ?_)
      · refine x_al hC hl 0 dX5_worth_36 rfl rfl ?_
        refine x_il hC hl 1 dX5_worth_37 rfl rfl ?_
        refine x_vI (As := [.int (iI room)]) hC (k5_taken l D cs h mF mS mA mV mT mB room (by first | assumption | omega) (by first | assumption | omega)) lk5_48 (q0 := 0) (ci := 5) rfl rfl rfl (sub_all hP hD hS hA) hP hS rfl hl.1 rfl (Nat.le_of_ble_eq_true rfl) ⟨rfl, rfl⟩ ⟨Nat.le_of_ble_eq_true rfl, Nat.le_of_ble_eq_true rfl⟩ ⟨Nat.le_of_ble_eq_true rfl, Nat.le_of_ble_eq_true rfl⟩ dX5_worth_38 (fun H locs hP hD hS hHs => ?_)
        have q_38 := mTaken_rg (S := mS) (by assumption) room (n := mS 1) (by omega) (by omega)
        refine x_ineg hC dX5_worth_41 ?_
        exact x_retI (congrArg iI (by unfold mWorth; first | exact (iif_t (by omega)).symm | (rw [iif_f (by omega)]; first | exact (iif_t (by omega)).symm | (rw [iif_f (by omega)]; first | exact (iif_t (by omega)).symm | exact (iif_f (by omega)).symm)) : -(mTaken mS room (mS 1)) = mWorth mS room first rule)) hend hP hD hS dX5_worth_42
      · refine x_al hC hl 0 dX5_worth_27 rfl rfl ?_
        refine x_il hC hl 1 dX5_worth_28 rfl rfl ?_
        refine x_ic hC dX5_worth_29 ?_
        refine x_vI (As := [.int (iI room), .int (iI 0)]) hC (k5_room0 l D cs h mF mS mA mV mT mB room 0 (by first | assumption | omega) (by first | assumption | omega) (by first | assumption | omega)) lk5_38 (q0 := 0) (ci := 5) rfl rfl rfl (sub_all hP hD hS hA) hP hS rfl hl.1 rfl (Nat.le_of_ble_eq_true rfl) ⟨rfl, rfl⟩ ⟨Nat.le_of_ble_eq_true rfl, Nat.le_of_ble_eq_true rfl⟩ ⟨Nat.le_of_ble_eq_true rfl, Nat.le_of_ble_eq_true rfl⟩ dX5_worth_30 (fun H locs hP hD hS hHs => ?_)
        have q_30 := imB (S := mS) (by assumption) (5 + 3 * room + 0) (by omega)
        refine x_goto hC 42 dX5_worth_33 (by decide) ?_
        exact x_retI (congrArg iI (by unfold mWorth; first | exact (iif_t (by omega)).symm | (rw [iif_f (by omega)]; first | exact (iif_t (by omega)).symm | (rw [iif_f (by omega)]; first | exact (iif_t (by omega)).symm | exact (iif_f (by omega)).symm)) : mS (5 + 3 * room + 0) = mWorth mS room first rule)) hend hP hD hS dX5_worth_42
    · refine x_al hC hl 0 dX5_worth_13 rfl rfl ?_
      refine x_il hC hl 1 dX5_worth_14 rfl rfl ?_
      refine x_il hC hl 2 dX5_worth_15 rfl rfl ?_
      refine x_vI (As := [.int (iI room), .int (iI first)]) hC (k5_gap l D cs h mF mS mA mV mT mB room first (by first | assumption | omega) (by first | assumption | omega) (by first | assumption | omega)) lk5_45 (q0 := 0) (ci := 5) rfl rfl rfl (sub_all hP hD hS hA) hP hS rfl hl.1 rfl (Nat.le_of_ble_eq_true rfl) ⟨rfl, rfl⟩ ⟨Nat.le_of_ble_eq_true rfl, Nat.le_of_ble_eq_true rfl⟩ ⟨Nat.le_of_ble_eq_true rfl, Nat.le_of_ble_eq_true rfl⟩ dX5_worth_16 (fun H locs hP hD hS hHs => ?_)
      refine x_goto hC 42 dX5_worth_19 (by decide) ?_
      exact x_retI (congrArg iI (by unfold mWorth; first | exact (iif_t (by omega)).symm | (rw [iif_f (by omega)]; first | exact (iif_t (by omega)).symm | (rw [iif_f (by omega)]; first | exact (iif_t (by omega)).symm | exact (iif_f (by omega)).symm)) : first - mGap mS room first (mS 1) = mWorth mS room first rule)) hend hP hD hS dX5_worth_42
  · refine x_ic hC dX5_worth_4 ?_
    refine x_goto hC 42 dX5_worth_5 (by decide) ?_
    exact x_retI (congrArg iI (by unfold mWorth; first | exact (iif_t (by omega)).symm | (rw [iif_f (by omega)]; first | exact (iif_t (by omega)).symm | (rw [iif_f (by omega)]; first | exact (iif_t (by omega)).symm | exact (iif_f (by omega)).symm)) : 0 = mWorth mS room first rule)) hend hP hD hS dX5_worth_42
abbrev r5_dearness : Room := { frames := 1, cells := 0, slots := 0, locals := 22 }
set_option maxHeartbeats 4000000 in
set_option maxRecDepth 100000 in
theorem k5_dearness (l : Launch) (D : va_G) (cs : Nat → ClassId) (h : Nat → Nat) (mF : Int → Int) (mS : Int → Int) (mA : Int → Int) (mV : Int → Int) (mT : Int → Int) (mB : Int → Int) (room : Int) (hI : IM mS) (h1 : 0 ≤ room ∧ room < 8) : CI l D cs yX5_dearness cX5_dearness 2 .int r5_dearness 0 0 [.ref (h 0), .int (iI room)] (wM h cs mF mS mA mV mT mB) (wM h cs mF mS mA mV mT mB) (iI (mDear mS room)) := by
  refine CI_start (own := RX5) (by decide) rfl rfl (Nat.le_of_ble_eq_true rfl) ?_
  intro p e s m args below meth c Q A ls hC hl hP hD hA hS hend
  have hl : lv_has ls 2 [(0, .ref (h 0)), (1, .int (iI room))] := hl
  obtain ⟨H, hH⟩ : ∃ H : Heap, H = s.heap := ⟨_, rfl⟩
  have hS : va_S A s.heap H [] := by rw [hH]; exact hS
  rw [← hH] at hP
  obtain ⟨locs, hlocs⟩ : ∃ locs : List Loc, locs = [] := ⟨_, rfl⟩
  rw [← hlocs] at hS
  suffices hgo : W p l e r5_dearness s m args below meth c H locs 0 0 Q (F0 m 0 ls []) by rw [← hH, ← hlocs]; exact hgo
  clear hH hlocs
  refine x_bi hC dX5_dearness_0 (by decide) ?_
  refine x_al hC hl 0 dX5_dearness_2 rfl rfl ?_
  refine x_il hC hl 1 dX5_dearness_3 rfl rfl ?_
  refine x_ic hC dX5_dearness_4 ?_
  refine x_vI (As := [.int (iI room), .int (iI 1)]) hC (k5_room0 l D cs h mF mS mA mV mT mB room 1 (by first | assumption | omega) (by first | assumption | omega) (by first | assumption | omega)) lk5_38 (q0 := 0) (ci := 5) rfl rfl rfl (sub_all hP hD hS hA) hP hS rfl hl.1 rfl (Nat.le_of_ble_eq_true rfl) ⟨rfl, rfl⟩ ⟨Nat.le_of_ble_eq_true rfl, Nat.le_of_ble_eq_true rfl⟩ ⟨Nat.le_of_ble_eq_true rfl, Nat.le_of_ble_eq_true rfl⟩ dX5_dearness_5 (fun H locs hP hD hS hHs => ?_)
  have q_5 := imB (S := mS) (by assumption) (5 + 3 * room + 1) (by omega)
  refine x_imul hC dX5_dearness_8 ?_
  refine x_al hC hl 0 dX5_dearness_9 rfl rfl ?_
  refine x_il hC hl 1 dX5_dearness_10 rfl rfl ?_
  refine x_ic hC dX5_dearness_11 ?_
  refine x_vI (As := [.int (iI room), .int (iI 0)]) hC (k5_room0 l D cs h mF mS mA mV mT mB room 0 (by first | assumption | omega) (by first | assumption | omega) (by first | assumption | omega)) lk5_38 (q0 := 0) (ci := 5) rfl rfl rfl (sub_all hP hD hS hA) hP hS rfl hl.1 rfl (Nat.le_of_ble_eq_true rfl) ⟨rfl, rfl⟩ ⟨Nat.le_of_ble_eq_true rfl, Nat.le_of_ble_eq_true rfl⟩ ⟨Nat.le_of_ble_eq_true rfl, Nat.le_of_ble_eq_true rfl⟩ dX5_dearness_12 (fun H locs hP hD hS hHs => ?_)
  have q_12 := imB (S := mS) (by assumption) (5 + 3 * room + 0) (by omega)
  refine x_iadd hC dX5_dearness_15 ?_
  exact x_retI (congrArg iI (by rfl : (10 * (mS (5 + 3 * room + 1))) + (mS (5 + 3 * room + 0)) = mDear mS room)) hend hP hD hS dX5_dearness_16
abbrev r5_gets : Room := { frames := 3, cells := 0, slots := 0, locals := 70 }
set_option maxHeartbeats 4000000 in
set_option maxRecDepth 100000 in
theorem k5_gets (l : Launch) (D : va_G) (cs : Nat → ClassId) (h : Nat → Nat) (mF : Int → Int) (mS : Int → Int) (mA : Int → Int) (mV : Int → Int) (mT : Int → Int) (mB : Int → Int) (first : Int) (en : Int) (size : Int) (rule : Int) (hI : IM mS) (h1 : -1 ≤ first ∧ first ≤ 99) (h2 : -1 ≤ en ∧ en ≤ 99) (h3 : -1 ≤ size ∧ size ≤ 99) (h4 : 0 ≤ rule ∧ rule ≤ 3) : CI l D cs yX5_gets cX5_gets 9 .int r5_gets 0 0 [.ref (h 0), .int (iI first), .int (iI en), .int (iI size), .int (iI rule)] (wM h cs mF mS mA mV mT mB) (wM h cs mF mS mA mV mT mB) (iI (mGets mS first en size rule)) := by
  refine CI_start (own := RX5) (by decide) rfl rfl (Nat.le_of_ble_eq_true rfl) ?_
  intro p e s m args below meth c Q A ls hC hl hP hD hA hS hend
  have hl : lv_has ls 9 [(0, .ref (h 0)), (1, .int (iI first)), (2, .int (iI en)), (3, .int (iI size)), (4, .int (iI rule))] := hl
  obtain ⟨H, hH⟩ : ∃ H : Heap, H = s.heap := ⟨_, rfl⟩
  have hS : va_S A s.heap H [] := by rw [hH]; exact hS
  rw [← hH] at hP
  obtain ⟨locs, hlocs⟩ : ∃ locs : List Loc, locs = [] := ⟨_, rfl⟩
  rw [← hlocs] at hS
  suffices hgo : W p l e r5_gets s m args below meth c H locs 0 0 Q (F0 m 0 ls []) by rw [← hH, ← hlocs]; exact hgo
  clear hH hlocs
  obtain ⟨z0, z1, -⟩ := id hI
  refine x_ic hC dX5_gets_0 ?_
  refine x_isw hC [(5, .int (iI (-1))), (0, .ref (h 0)), (1, .int (iI first)), (2, .int (iI en)), (3, .int (iI size)), (4, .int (iI rule))] hl dX5_gets_1 (by decide) rfl (fun ls hl => ?_)
  refine x_ic hC dX5_gets_3 ?_
  refine x_isw hC [(6, .int (iI (-1))), (5, .int (iI (-1))), (0, .ref (h 0)), (1, .int (iI first)), (2, .int (iI en)), (3, .int (iI size)), (4, .int (iI rule))] hl dX5_gets_4 (by decide) rfl (fun ls hl => ?_)
  refine x_ic hC dX5_gets_6 ?_
  refine x_isw hC [(7, .int (iI 0)), (6, .int (iI (-1))), (5, .int (iI (-1))), (0, .ref (h 0)), (1, .int (iI first)), (2, .int (iI en)), (3, .int (iI size)), (4, .int (iI rule))] hl dX5_gets_7 (by decide) rfl (fun ls hl => ?_)
  have loop_9 : ∀ (n : Nat) (i : Int), (hi0 : 0 ≤ i) → (hiN : i ≤ 8) → (8 - i) < (n : Int) → ∀ (H : Heap) (locs : List Loc) (ls : Array Slot), va_P D vwCl (wM h cs mF mS mA mV mT mB) H → va_D A (wM h cs mF mS mA mV mT mB) → va_S A s.heap H locs → lv_has ls 9 [(7, .int (iI i)), (6, .int (iI ((mGetX mS first en size rule i).2))), (5, .int (iI ((mGetX mS first en size rule i).1))), (0, .ref (h 0)), (1, .int (iI first)), (2, .int (iI en)), (3, .int (iI size)), (4, .int (iI rule))] → W p l e r5_gets s m args below meth c H locs 0 0 Q (F0 m 9 ls []) := by
    intro n
    induction n with
    | zero =>
      intro i hi0 hiN hnn
      exfalso; omega
    | succ n ih_9 =>
      intro i hi0 hiN hnn H locs ls hP hD hS hl
      have hx := mGetX_rg mS first en size rule hi0
      refine x_ilw hC hl 0 dX5_gets_9 rfl ?_
      refine x_bi hC dX5_gets_11 (by decide) ?_
      refine x_ic_ge hC 122 dX5_gets_13 (by decide) (by omega) (by omega) (fun c_13 => ?_) (fun c_13 => ?_)
      · obtain rfl : i = 8 := by omega
        have hx8 := mGetX_rg mS first en size rule (n := 8) (by omega)
        refine x_ilw hC hl 2 dX5_gets_122 rfl ?_
        refine x_ic hC dX5_gets_124 ?_
        refine x_ic_eq hC 133 dX5_gets_125 (by decide) (by omega) (by omega) (fun c_125 => ?_) (fun c_125 => ?_)
        · refine x_ilw hC hl 1 dX5_gets_133 rfl ?_
          exact x_retI (congrArg iI (by unfold mGets; first | exact (iif_t (by assumption)).symm | exact (iif_f (by assumption)).symm : (mGetX mS first en size rule 8).2 = mGets mS first en size rule)) hend hP hD hS dX5_gets_135
        · refine x_ilw hC hl 2 dX5_gets_128 rfl ?_
          refine x_goto hC 135 dX5_gets_130 (by decide) ?_
          exact x_retI (congrArg iI (by unfold mGets; first | exact (iif_t (by assumption)).symm | exact (iif_f (by assumption)).symm : (mGetX mS first en size rule 8).1 = mGets mS first en size rule)) hend hP hD hS dX5_gets_135
      · refine x_al hC hl 3 dX5_gets_16 rfl rfl ?_
        refine x_ilw hC hl 0 dX5_gets_17 rfl ?_
        refine x_il hC hl 4 dX5_gets_19 rfl rfl ?_
        refine x_il hC hl 5 dX5_gets_20 rfl rfl ?_
        refine x_il hC hl 6 dX5_gets_21 rfl rfl ?_
        refine x_ic hC dX5_gets_22 ?_
        refine x_vI (As := [.int (iI i), .int (iI first), .int (iI en), .int (iI size), .int (iI (-1))]) hC (k5_canBe l D cs h mF mS mA mV mT mB i first en size (-1) (by first | assumption | omega) (by first | assumption | omega) (by first | assumption | omega) (by first | assumption | omega) (by first | assumption | omega) (by first | assumption | omega)) lk5_52 (q0 := 0) (ci := 5) rfl rfl rfl (sub_all hP hD hS hA) hP hS rfl hl.1 rfl (Nat.le_of_ble_eq_true rfl) ⟨rfl, rfl⟩ ⟨Nat.le_of_ble_eq_true rfl, Nat.le_of_ble_eq_true rfl⟩ ⟨Nat.le_of_ble_eq_true rfl, Nat.le_of_ble_eq_true rfl⟩ dX5_gets_23 (fun H locs hP hD hS hHs => ?_)
        refine x_isw hC [(8, .int (iI (b2p (mCan mS i first en size (-1))))), (7, .int (iI i)), (6, .int (iI ((mGetX mS first en size rule i).2))), (5, .int (iI ((mGetX mS first en size rule i).1))), (0, .ref (h 0)), (1, .int (iI first)), (2, .int (iI en)), (3, .int (iI size)), (4, .int (iI rule))] hl dX5_gets_26 (by decide) rfl (fun ls hl => ?_)
        refine x_ilw hC hl 0 dX5_gets_28 rfl ?_
        refine x_if_eq_b hC 81 dX5_gets_30 (by decide) (fun c_30 => ?_) (fun c_30 => ?_)
        · refine x_ilw hC hl 0 dX5_gets_81 rfl ?_
          refine x_if_eq_b hC 116 dX5_gets_83 (by decide) (fun c_83 => ?_) (fun c_83 => ?_)
          · refine x_iinc hC [(7, .int (iI (i + 1))), (8, .int (iI (b2p (mCan mS i first en size (-1))))), (6, .int (iI ((mGetX mS first en size rule i).2))), (5, .int (iI ((mGetX mS first en size rule i).1))), (0, .ref (h 0)), (1, .int (iI first)), (2, .int (iI en)), (3, .int (iI size)), (4, .int (iI rule))] 1 hl dX5_gets_116 rfl (by decide) rfl (fun ls hl => ?_)
            refine x_goto hC 9 dX5_gets_119 (by decide) ?_
            have hl : lv_has ls 9 [(7, .int (iI (i + 1))), (6, .int (iI ((mGetX mS first en size rule (i + 1)).2))), (5, .int (iI ((mGetX mS first en size rule (i + 1)).1))), (0, .ref (h 0)), (1, .int (iI first)), (2, .int (iI en)), (3, .int (iI size)), (4, .int (iI rule))] := lvE (lv_sub (l' := [(7, .int (iI (i + 1))), (6, .int (iI ((mGetX mS first en size rule i).2))), (5, .int (iI ((mGetX mS first en size rule i).1))), (0, .ref (h 0)), (1, .int (iI first)), (2, .int (iI en)), (3, .int (iI size)), (4, .int (iI rule))]) hl [0, 2, 3, 4, 5, 6, 7, 8] rfl) (lcE rfl (lcE (congrArg (fun z => Value.int (iI z)) (by rw [mGetX_s _ _ _ _ _ hi0]; unfold mGetS iif; grind : (mGetX mS first en size rule i).2 = (mGetX mS first en size rule (i + 1)).2)) (lcE (congrArg (fun z => Value.int (iI z)) (by rw [mGetX_s _ _ _ _ _ hi0]; unfold mGetS iif; grind : (mGetX mS first en size rule i).1 = (mGetX mS first en size rule (i + 1)).1)) (lcE rfl (lcE rfl (lcE rfl (lcE rfl (lcE rfl (rfl)))))))))
            exact ih_9 (i + 1) (by omega) (by omega) (by omega) H locs ls hP hD hS hl
          · refine x_ilw hC hl 2 dX5_gets_86 rfl ?_
            refine x_ic hC dX5_gets_88 ?_
            refine x_ic_eq hC 107 dX5_gets_89 (by decide) (by omega) (by omega) (fun c_89 => ?_) (fun c_89 => ?_)
            · refine x_ilw hC hl 1 dX5_gets_107 rfl ?_
              refine x_goto hC 114 dX5_gets_109 (by decide) ?_
              refine x_isw hC [(6, .int (iI i)), (8, .int (iI (b2p (mCan mS i first en size (-1))))), (7, .int (iI i)), (5, .int (iI ((mGetX mS first en size rule i).1))), (0, .ref (h 0)), (1, .int (iI first)), (2, .int (iI en)), (3, .int (iI size)), (4, .int (iI rule))] hl dX5_gets_114 (by decide) rfl (fun ls hl => ?_)
              refine x_iinc hC [(7, .int (iI (i + 1))), (6, .int (iI i)), (8, .int (iI (b2p (mCan mS i first en size (-1))))), (5, .int (iI ((mGetX mS first en size rule i).1))), (0, .ref (h 0)), (1, .int (iI first)), (2, .int (iI en)), (3, .int (iI size)), (4, .int (iI rule))] 2 hl dX5_gets_116 rfl (by decide) rfl (fun ls hl => ?_)
              refine x_goto hC 9 dX5_gets_119 (by decide) ?_
              have hl : lv_has ls 9 [(7, .int (iI (i + 1))), (6, .int (iI ((mGetX mS first en size rule (i + 1)).2))), (5, .int (iI ((mGetX mS first en size rule (i + 1)).1))), (0, .ref (h 0)), (1, .int (iI first)), (2, .int (iI en)), (3, .int (iI size)), (4, .int (iI rule))] := lvE (lv_sub (l' := [(7, .int (iI (i + 1))), (6, .int (iI i)), (5, .int (iI ((mGetX mS first en size rule i).1))), (0, .ref (h 0)), (1, .int (iI first)), (2, .int (iI en)), (3, .int (iI size)), (4, .int (iI rule))]) hl [0, 1, 3, 4, 5, 6, 7, 8] rfl) (lcE rfl (lcE (congrArg (fun z => Value.int (iI z)) (by rw [mGetX_s _ _ _ _ _ hi0]; unfold mGetS iif; grind : i = (mGetX mS first en size rule (i + 1)).2)) (lcE (congrArg (fun z => Value.int (iI z)) (by rw [mGetX_s _ _ _ _ _ hi0]; unfold mGetS iif; grind : (mGetX mS first en size rule i).1 = (mGetX mS first en size rule (i + 1)).1)) (lcE rfl (lcE rfl (lcE rfl (lcE rfl (lcE rfl (rfl)))))))))
              exact ih_9 (i + 1) (by omega) (by omega) (by omega) H locs ls hP hD hS hl
            · refine x_al hC hl 4 dX5_gets_92 rfl rfl ?_
              refine x_ilw hC hl 1 dX5_gets_93 rfl ?_
              refine x_vI (As := [.int (iI i)]) hC (k5_dearness l D cs h mF mS mA mV mT mB i (by first | assumption | omega) (by first | assumption | omega)) lk5_64 (q0 := 0) (ci := 5) rfl rfl rfl (sub_all hP hD hS hA) hP hS rfl hl.1 rfl (Nat.le_of_ble_eq_true rfl) ⟨rfl, rfl⟩ ⟨Nat.le_of_ble_eq_true rfl, Nat.le_of_ble_eq_true rfl⟩ ⟨Nat.le_of_ble_eq_true rfl, Nat.le_of_ble_eq_true rfl⟩ dX5_gets_95 (fun H locs hP hD hS hHs => ?_)
              have q_95 := mDear_rg (S := mS) (by assumption) i (by omega)
              refine x_al hC hl 4 dX5_gets_98 rfl rfl ?_
              refine x_ilw hC hl 2 dX5_gets_99 rfl ?_
              refine x_vI (As := [.int (iI ((mGetX mS first en size rule i).2))]) hC (k5_dearness l D cs h mF mS mA mV mT mB ((mGetX mS first en size rule i).2) (by first | assumption | omega) (by first | assumption | omega)) lk5_64 (q0 := 0) (ci := 5) rfl rfl rfl (sub_all hP hD hS hA) hP hS rfl hl.1 rfl (Nat.le_of_ble_eq_true rfl) ⟨rfl, rfl⟩ ⟨Nat.le_of_ble_eq_true rfl, Nat.le_of_ble_eq_true rfl⟩ ⟨Nat.le_of_ble_eq_true rfl, Nat.le_of_ble_eq_true rfl⟩ dX5_gets_101 (fun H locs hP hD hS hHs => ?_)
              have q_101 := mDear_rg (S := mS) (by assumption) ((mGetX mS first en size rule i).2) (by omega)
              refine x_ic_ge hC 112 dX5_gets_104 (by decide) (by omega) (by omega) (fun c_104 => ?_) (fun c_104 => ?_)
              · refine x_ilw hC hl 2 dX5_gets_112 rfl ?_
                refine x_isw hC [(6, .int (iI ((mGetX mS first en size rule i).2))), (8, .int (iI (b2p (mCan mS i first en size (-1))))), (7, .int (iI i)), (5, .int (iI ((mGetX mS first en size rule i).1))), (0, .ref (h 0)), (1, .int (iI first)), (2, .int (iI en)), (3, .int (iI size)), (4, .int (iI rule))] hl dX5_gets_114 (by decide) rfl (fun ls hl => ?_)
                refine x_iinc hC [(7, .int (iI (i + 1))), (6, .int (iI ((mGetX mS first en size rule i).2))), (8, .int (iI (b2p (mCan mS i first en size (-1))))), (5, .int (iI ((mGetX mS first en size rule i).1))), (0, .ref (h 0)), (1, .int (iI first)), (2, .int (iI en)), (3, .int (iI size)), (4, .int (iI rule))] 2 hl dX5_gets_116 rfl (by decide) rfl (fun ls hl => ?_)
                refine x_goto hC 9 dX5_gets_119 (by decide) ?_
                have hl : lv_has ls 9 [(7, .int (iI (i + 1))), (6, .int (iI ((mGetX mS first en size rule (i + 1)).2))), (5, .int (iI ((mGetX mS first en size rule (i + 1)).1))), (0, .ref (h 0)), (1, .int (iI first)), (2, .int (iI en)), (3, .int (iI size)), (4, .int (iI rule))] := lvE (lv_sub (l' := [(7, .int (iI (i + 1))), (6, .int (iI ((mGetX mS first en size rule i).2))), (5, .int (iI ((mGetX mS first en size rule i).1))), (0, .ref (h 0)), (1, .int (iI first)), (2, .int (iI en)), (3, .int (iI size)), (4, .int (iI rule))]) hl [0, 1, 3, 4, 5, 6, 7, 8] rfl) (lcE rfl (lcE (congrArg (fun z => Value.int (iI z)) (by rw [mGetX_s _ _ _ _ _ hi0]; unfold mGetS iif; grind : (mGetX mS first en size rule i).2 = (mGetX mS first en size rule (i + 1)).2)) (lcE (congrArg (fun z => Value.int (iI z)) (by rw [mGetX_s _ _ _ _ _ hi0]; unfold mGetS iif; grind : (mGetX mS first en size rule i).1 = (mGetX mS first en size rule (i + 1)).1)) (lcE rfl (lcE rfl (lcE rfl (lcE rfl (lcE rfl (rfl)))))))))
                exact ih_9 (i + 1) (by omega) (by omega) (by omega) H locs ls hP hD hS hl
              · refine x_ilw hC hl 1 dX5_gets_107 rfl ?_
                refine x_goto hC 114 dX5_gets_109 (by decide) ?_
                refine x_isw hC [(6, .int (iI i)), (8, .int (iI (b2p (mCan mS i first en size (-1))))), (7, .int (iI i)), (5, .int (iI ((mGetX mS first en size rule i).1))), (0, .ref (h 0)), (1, .int (iI first)), (2, .int (iI en)), (3, .int (iI size)), (4, .int (iI rule))] hl dX5_gets_114 (by decide) rfl (fun ls hl => ?_)
                refine x_iinc hC [(7, .int (iI (i + 1))), (6, .int (iI i)), (8, .int (iI (b2p (mCan mS i first en size (-1))))), (5, .int (iI ((mGetX mS first en size rule i).1))), (0, .ref (h 0)), (1, .int (iI first)), (2, .int (iI en)), (3, .int (iI size)), (4, .int (iI rule))] 2 hl dX5_gets_116 rfl (by decide) rfl (fun ls hl => ?_)
                refine x_goto hC 9 dX5_gets_119 (by decide) ?_
                have hl : lv_has ls 9 [(7, .int (iI (i + 1))), (6, .int (iI ((mGetX mS first en size rule (i + 1)).2))), (5, .int (iI ((mGetX mS first en size rule (i + 1)).1))), (0, .ref (h 0)), (1, .int (iI first)), (2, .int (iI en)), (3, .int (iI size)), (4, .int (iI rule))] := lvE (lv_sub (l' := [(7, .int (iI (i + 1))), (6, .int (iI i)), (5, .int (iI ((mGetX mS first en size rule i).1))), (0, .ref (h 0)), (1, .int (iI first)), (2, .int (iI en)), (3, .int (iI size)), (4, .int (iI rule))]) hl [0, 1, 3, 4, 5, 6, 7, 8] rfl) (lcE rfl (lcE (congrArg (fun z => Value.int (iI z)) (by rw [mGetX_s _ _ _ _ _ hi0]; unfold mGetS iif; grind : i = (mGetX mS first en size rule (i + 1)).2)) (lcE (congrArg (fun z => Value.int (iI z)) (by rw [mGetX_s _ _ _ _ _ hi0]; unfold mGetS iif; grind : (mGetX mS first en size rule i).1 = (mGetX mS first en size rule (i + 1)).1)) (lcE rfl (lcE rfl (lcE rfl (lcE rfl (lcE rfl (rfl)))))))))
                exact ih_9 (i + 1) (by omega) (by omega) (by omega) H locs ls hP hD hS hl
        · refine x_al hC hl 4 dX5_gets_33 rfl rfl ?_
          refine x_ilw hC hl 1 dX5_gets_34 rfl ?_
          refine x_vI (As := [.int (iI i)]) hC (k5_isOpen l D cs h mF mS mA mV mT mB i (by first | assumption | omega) (by first | assumption | omega)) lk5_56 (q0 := 0) (ci := 5) rfl rfl rfl (sub_all hP hD hS hA) hP hS rfl hl.1 rfl (Nat.le_of_ble_eq_true rfl) ⟨rfl, rfl⟩ ⟨Nat.le_of_ble_eq_true rfl, Nat.le_of_ble_eq_true rfl⟩ ⟨Nat.le_of_ble_eq_true rfl, Nat.le_of_ble_eq_true rfl⟩ dX5_gets_36 (fun H locs hP hD hS hHs => ?_)
          refine x_if_eq_b hC 81 dX5_gets_39 (by decide) (fun c_39 => ?_) (fun c_39 => ?_)
          · refine x_ilw hC hl 0 dX5_gets_81 rfl ?_
            refine x_if_eq_b hC 116 dX5_gets_83 (by decide) (fun c_83_2 => ?_) (fun c_83_2 => ?_)
            · refine x_iinc hC [(7, .int (iI (i + 1))), (8, .int (iI (b2p (mCan mS i first en size (-1))))), (6, .int (iI ((mGetX mS first en size rule i).2))), (5, .int (iI ((mGetX mS first en size rule i).1))), (0, .ref (h 0)), (1, .int (iI first)), (2, .int (iI en)), (3, .int (iI size)), (4, .int (iI rule))] 1 hl dX5_gets_116 rfl (by decide) rfl (fun ls hl => ?_)
              refine x_goto hC 9 dX5_gets_119 (by decide) ?_
              have hl : lv_has ls 9 [(7, .int (iI (i + 1))), (6, .int (iI ((mGetX mS first en size rule (i + 1)).2))), (5, .int (iI ((mGetX mS first en size rule (i + 1)).1))), (0, .ref (h 0)), (1, .int (iI first)), (2, .int (iI en)), (3, .int (iI size)), (4, .int (iI rule))] := lvE (lv_sub (l' := [(7, .int (iI (i + 1))), (6, .int (iI ((mGetX mS first en size rule i).2))), (5, .int (iI ((mGetX mS first en size rule i).1))), (0, .ref (h 0)), (1, .int (iI first)), (2, .int (iI en)), (3, .int (iI size)), (4, .int (iI rule))]) hl [0, 2, 3, 4, 5, 6, 7, 8] rfl) (lcE rfl (lcE (congrArg (fun z => Value.int (iI z)) (by rw [mGetX_s _ _ _ _ _ hi0]; unfold mGetS iif; grind : (mGetX mS first en size rule i).2 = (mGetX mS first en size rule (i + 1)).2)) (lcE (congrArg (fun z => Value.int (iI z)) (by rw [mGetX_s _ _ _ _ _ hi0]; unfold mGetS iif; grind : (mGetX mS first en size rule i).1 = (mGetX mS first en size rule (i + 1)).1)) (lcE rfl (lcE rfl (lcE rfl (lcE rfl (lcE rfl (rfl)))))))))
              exact ih_9 (i + 1) (by omega) (by omega) (by omega) H locs ls hP hD hS hl
            · refine x_ilw hC hl 2 dX5_gets_86 rfl ?_
              refine x_ic hC dX5_gets_88 ?_
              refine x_ic_eq hC 107 dX5_gets_89 (by decide) (by omega) (by omega) (fun c_89_2 => ?_) (fun c_89_2 => ?_)
              · refine x_ilw hC hl 1 dX5_gets_107 rfl ?_
                refine x_goto hC 114 dX5_gets_109 (by decide) ?_
                refine x_isw hC [(6, .int (iI i)), (8, .int (iI (b2p (mCan mS i first en size (-1))))), (7, .int (iI i)), (5, .int (iI ((mGetX mS first en size rule i).1))), (0, .ref (h 0)), (1, .int (iI first)), (2, .int (iI en)), (3, .int (iI size)), (4, .int (iI rule))] hl dX5_gets_114 (by decide) rfl (fun ls hl => ?_)
                refine x_iinc hC [(7, .int (iI (i + 1))), (6, .int (iI i)), (8, .int (iI (b2p (mCan mS i first en size (-1))))), (5, .int (iI ((mGetX mS first en size rule i).1))), (0, .ref (h 0)), (1, .int (iI first)), (2, .int (iI en)), (3, .int (iI size)), (4, .int (iI rule))] 2 hl dX5_gets_116 rfl (by decide) rfl (fun ls hl => ?_)
                refine x_goto hC 9 dX5_gets_119 (by decide) ?_
                have hl : lv_has ls 9 [(7, .int (iI (i + 1))), (6, .int (iI ((mGetX mS first en size rule (i + 1)).2))), (5, .int (iI ((mGetX mS first en size rule (i + 1)).1))), (0, .ref (h 0)), (1, .int (iI first)), (2, .int (iI en)), (3, .int (iI size)), (4, .int (iI rule))] := lvE (lv_sub (l' := [(7, .int (iI (i + 1))), (6, .int (iI i)), (5, .int (iI ((mGetX mS first en size rule i).1))), (0, .ref (h 0)), (1, .int (iI first)), (2, .int (iI en)), (3, .int (iI size)), (4, .int (iI rule))]) hl [0, 1, 3, 4, 5, 6, 7, 8] rfl) (lcE rfl (lcE (congrArg (fun z => Value.int (iI z)) (by rw [mGetX_s _ _ _ _ _ hi0]; unfold mGetS iif; grind : i = (mGetX mS first en size rule (i + 1)).2)) (lcE (congrArg (fun z => Value.int (iI z)) (by rw [mGetX_s _ _ _ _ _ hi0]; unfold mGetS iif; grind : (mGetX mS first en size rule i).1 = (mGetX mS first en size rule (i + 1)).1)) (lcE rfl (lcE rfl (lcE rfl (lcE rfl (lcE rfl (rfl)))))))))
                exact ih_9 (i + 1) (by omega) (by omega) (by omega) H locs ls hP hD hS hl
              · refine x_al hC hl 4 dX5_gets_92 rfl rfl ?_
                refine x_ilw hC hl 1 dX5_gets_93 rfl ?_
                refine x_vI (As := [.int (iI i)]) hC (k5_dearness l D cs h mF mS mA mV mT mB i (by first | assumption | omega) (by first | assumption | omega)) lk5_64 (q0 := 0) (ci := 5) rfl rfl rfl (sub_all hP hD hS hA) hP hS rfl hl.1 rfl (Nat.le_of_ble_eq_true rfl) ⟨rfl, rfl⟩ ⟨Nat.le_of_ble_eq_true rfl, Nat.le_of_ble_eq_true rfl⟩ ⟨Nat.le_of_ble_eq_true rfl, Nat.le_of_ble_eq_true rfl⟩ dX5_gets_95 (fun H locs hP hD hS hHs => ?_)
                have q_95_2 := mDear_rg (S := mS) (by assumption) i (by omega)
                refine x_al hC hl 4 dX5_gets_98 rfl rfl ?_
                refine x_ilw hC hl 2 dX5_gets_99 rfl ?_
                refine x_vI (As := [.int (iI ((mGetX mS first en size rule i).2))]) hC (k5_dearness l D cs h mF mS mA mV mT mB ((mGetX mS first en size rule i).2) (by first | assumption | omega) (by first | assumption | omega)) lk5_64 (q0 := 0) (ci := 5) rfl rfl rfl (sub_all hP hD hS hA) hP hS rfl hl.1 rfl (Nat.le_of_ble_eq_true rfl) ⟨rfl, rfl⟩ ⟨Nat.le_of_ble_eq_true rfl, Nat.le_of_ble_eq_true rfl⟩ ⟨Nat.le_of_ble_eq_true rfl, Nat.le_of_ble_eq_true rfl⟩ dX5_gets_101 (fun H locs hP hD hS hHs => ?_)
                have q_101_2 := mDear_rg (S := mS) (by assumption) ((mGetX mS first en size rule i).2) (by omega)
                refine x_ic_ge hC 112 dX5_gets_104 (by decide) (by omega) (by omega) (fun c_104_2 => ?_) (fun c_104_2 => ?_)
                · refine x_ilw hC hl 2 dX5_gets_112 rfl ?_
                  refine x_isw hC [(6, .int (iI ((mGetX mS first en size rule i).2))), (8, .int (iI (b2p (mCan mS i first en size (-1))))), (7, .int (iI i)), (5, .int (iI ((mGetX mS first en size rule i).1))), (0, .ref (h 0)), (1, .int (iI first)), (2, .int (iI en)), (3, .int (iI size)), (4, .int (iI rule))] hl dX5_gets_114 (by decide) rfl (fun ls hl => ?_)
                  refine x_iinc hC [(7, .int (iI (i + 1))), (6, .int (iI ((mGetX mS first en size rule i).2))), (8, .int (iI (b2p (mCan mS i first en size (-1))))), (5, .int (iI ((mGetX mS first en size rule i).1))), (0, .ref (h 0)), (1, .int (iI first)), (2, .int (iI en)), (3, .int (iI size)), (4, .int (iI rule))] 2 hl dX5_gets_116 rfl (by decide) rfl (fun ls hl => ?_)
                  refine x_goto hC 9 dX5_gets_119 (by decide) ?_
                  have hl : lv_has ls 9 [(7, .int (iI (i + 1))), (6, .int (iI ((mGetX mS first en size rule (i + 1)).2))), (5, .int (iI ((mGetX mS first en size rule (i + 1)).1))), (0, .ref (h 0)), (1, .int (iI first)), (2, .int (iI en)), (3, .int (iI size)), (4, .int (iI rule))] := lvE (lv_sub (l' := [(7, .int (iI (i + 1))), (6, .int (iI ((mGetX mS first en size rule i).2))), (5, .int (iI ((mGetX mS first en size rule i).1))), (0, .ref (h 0)), (1, .int (iI first)), (2, .int (iI en)), (3, .int (iI size)), (4, .int (iI rule))]) hl [0, 1, 3, 4, 5, 6, 7, 8] rfl) (lcE rfl (lcE (congrArg (fun z => Value.int (iI z)) (by rw [mGetX_s _ _ _ _ _ hi0]; unfold mGetS iif; grind : (mGetX mS first en size rule i).2 = (mGetX mS first en size rule (i + 1)).2)) (lcE (congrArg (fun z => Value.int (iI z)) (by rw [mGetX_s _ _ _ _ _ hi0]; unfold mGetS iif; grind : (mGetX mS first en size rule i).1 = (mGetX mS first en size rule (i + 1)).1)) (lcE rfl (lcE rfl (lcE rfl (lcE rfl (lcE rfl (rfl)))))))))
                  exact ih_9 (i + 1) (by omega) (by omega) (by omega) H locs ls hP hD hS hl
                · refine x_ilw hC hl 1 dX5_gets_107 rfl ?_
                  refine x_goto hC 114 dX5_gets_109 (by decide) ?_
                  refine x_isw hC [(6, .int (iI i)), (8, .int (iI (b2p (mCan mS i first en size (-1))))), (7, .int (iI i)), (5, .int (iI ((mGetX mS first en size rule i).1))), (0, .ref (h 0)), (1, .int (iI first)), (2, .int (iI en)), (3, .int (iI size)), (4, .int (iI rule))] hl dX5_gets_114 (by decide) rfl (fun ls hl => ?_)
                  refine x_iinc hC [(7, .int (iI (i + 1))), (6, .int (iI i)), (8, .int (iI (b2p (mCan mS i first en size (-1))))), (5, .int (iI ((mGetX mS first en size rule i).1))), (0, .ref (h 0)), (1, .int (iI first)), (2, .int (iI en)), (3, .int (iI size)), (4, .int (iI rule))] 2 hl dX5_gets_116 rfl (by decide) rfl (fun ls hl => ?_)
                  refine x_goto hC 9 dX5_gets_119 (by decide) ?_
                  have hl : lv_has ls 9 [(7, .int (iI (i + 1))), (6, .int (iI ((mGetX mS first en size rule (i + 1)).2))), (5, .int (iI ((mGetX mS first en size rule (i + 1)).1))), (0, .ref (h 0)), (1, .int (iI first)), (2, .int (iI en)), (3, .int (iI size)), (4, .int (iI rule))] := lvE (lv_sub (l' := [(7, .int (iI (i + 1))), (6, .int (iI i)), (5, .int (iI ((mGetX mS first en size rule i).1))), (0, .ref (h 0)), (1, .int (iI first)), (2, .int (iI en)), (3, .int (iI size)), (4, .int (iI rule))]) hl [0, 1, 3, 4, 5, 6, 7, 8] rfl) (lcE rfl (lcE (congrArg (fun z => Value.int (iI z)) (by rw [mGetX_s _ _ _ _ _ hi0]; unfold mGetS iif; grind : i = (mGetX mS first en size rule (i + 1)).2)) (lcE (congrArg (fun z => Value.int (iI z)) (by rw [mGetX_s _ _ _ _ _ hi0]; unfold mGetS iif; grind : (mGetX mS first en size rule i).1 = (mGetX mS first en size rule (i + 1)).1)) (lcE rfl (lcE rfl (lcE rfl (lcE rfl (lcE rfl (rfl)))))))))
                  exact ih_9 (i + 1) (by omega) (by omega) (by omega) H locs ls hP hD hS hl
          · refine x_ilw hC hl 3 dX5_gets_42 rfl ?_
            refine x_ic hC dX5_gets_44 ?_
            refine x_ic_eq hC 69 dX5_gets_45 (by decide) (by omega) (by omega) (fun c_45 => ?_) (fun c_45 => ?_)
            · refine x_ilw hC hl 1 dX5_gets_69 rfl ?_
              refine x_goto hC 76 dX5_gets_71 (by decide) ?_
              refine x_isw hC [(5, .int (iI i)), (8, .int (iI (b2p (mCan mS i first en size (-1))))), (7, .int (iI i)), (6, .int (iI ((mGetX mS first en size rule i).2))), (0, .ref (h 0)), (1, .int (iI first)), (2, .int (iI en)), (3, .int (iI size)), (4, .int (iI rule))] hl dX5_gets_76 (by decide) rfl (fun ls hl => ?_)
              refine x_goto hC 116 dX5_gets_78 (by decide) ?_
              refine x_iinc hC [(7, .int (iI (i + 1))), (5, .int (iI i)), (8, .int (iI (b2p (mCan mS i first en size (-1))))), (6, .int (iI ((mGetX mS first en size rule i).2))), (0, .ref (h 0)), (1, .int (iI first)), (2, .int (iI en)), (3, .int (iI size)), (4, .int (iI rule))] 2 hl dX5_gets_116 rfl (by decide) rfl (fun ls hl => ?_)
              refine x_goto hC 9 dX5_gets_119 (by decide) ?_
              have hl : lv_has ls 9 [(7, .int (iI (i + 1))), (6, .int (iI ((mGetX mS first en size rule (i + 1)).2))), (5, .int (iI ((mGetX mS first en size rule (i + 1)).1))), (0, .ref (h 0)), (1, .int (iI first)), (2, .int (iI en)), (3, .int (iI size)), (4, .int (iI rule))] := lvE (lv_sub (l' := [(7, .int (iI (i + 1))), (6, .int (iI ((mGetX mS first en size rule i).2))), (5, .int (iI i)), (0, .ref (h 0)), (1, .int (iI first)), (2, .int (iI en)), (3, .int (iI size)), (4, .int (iI rule))]) hl [0, 3, 1, 4, 5, 6, 7, 8] rfl) (lcE rfl (lcE (congrArg (fun z => Value.int (iI z)) (by rw [mGetX_s _ _ _ _ _ hi0]; unfold mGetS iif; grind : (mGetX mS first en size rule i).2 = (mGetX mS first en size rule (i + 1)).2)) (lcE (congrArg (fun z => Value.int (iI z)) (by rw [mGetX_s _ _ _ _ _ hi0]; unfold mGetS iif; grind : i = (mGetX mS first en size rule (i + 1)).1)) (lcE rfl (lcE rfl (lcE rfl (lcE rfl (lcE rfl (rfl)))))))))
              exact ih_9 (i + 1) (by omega) (by omega) (by omega) H locs ls hP hD hS hl
            · refine x_al hC hl 4 dX5_gets_48 rfl rfl ?_
              refine x_ilw hC hl 1 dX5_gets_49 rfl ?_
              refine x_il hC hl 5 dX5_gets_51 rfl rfl ?_
              refine x_ilw hC hl 8 dX5_gets_52 rfl ?_
              refine x_vI (As := [.int (iI i), .int (iI first), .int (iI rule)]) hC (k5_worth l D cs h mF mS mA mV mT mB i first rule (by first | assumption | omega) (by first | assumption | omega) (by first | assumption | omega) (by first | assumption | omega)) lk5_60 (q0 := 0) (ci := 5) rfl rfl rfl (sub_all hP hD hS hA) hP hS rfl hl.1 rfl (Nat.le_of_ble_eq_true rfl) ⟨rfl, rfl⟩ ⟨Nat.le_of_ble_eq_true rfl, Nat.le_of_ble_eq_true rfl⟩ ⟨Nat.le_of_ble_eq_true rfl, Nat.le_of_ble_eq_true rfl⟩ dX5_gets_54 (fun H locs hP hD hS hHs => ?_)
              have q_54 := mWorth_rg (S := mS) (by assumption) i first rule (by omega) (by omega)
              refine x_al hC hl 4 dX5_gets_57 rfl rfl ?_
              refine x_ilw hC hl 3 dX5_gets_58 rfl ?_
              refine x_il hC hl 5 dX5_gets_60 rfl rfl ?_
              refine x_ilw hC hl 8 dX5_gets_61 rfl ?_
              refine x_vI (As := [.int (iI ((mGetX mS first en size rule i).1)), .int (iI first), .int (iI rule)]) hC (k5_worth l D cs h mF mS mA mV mT mB ((mGetX mS first en size rule i).1) first rule (by first | assumption | omega) (by first | assumption | omega) (by first | assumption | omega) (by first | assumption | omega)) lk5_60 (q0 := 0) (ci := 5) rfl rfl rfl (sub_all hP hD hS hA) hP hS rfl hl.1 rfl (Nat.le_of_ble_eq_true rfl) ⟨rfl, rfl⟩ ⟨Nat.le_of_ble_eq_true rfl, Nat.le_of_ble_eq_true rfl⟩ ⟨Nat.le_of_ble_eq_true rfl, Nat.le_of_ble_eq_true rfl⟩ dX5_gets_63 (fun H locs hP hD hS hHs => ?_)
              have q_63 := mWorth_rg (S := mS) (by assumption) ((mGetX mS first en size rule i).1) first rule (by omega) (by omega)
              refine x_ic_ge hC 74 dX5_gets_66 (by decide) (by omega) (by omega) (fun c_66 => ?_) (fun c_66 => ?_)
              · refine x_ilw hC hl 3 dX5_gets_74 rfl ?_
                refine x_isw hC [(5, .int (iI ((mGetX mS first en size rule i).1))), (8, .int (iI (b2p (mCan mS i first en size (-1))))), (7, .int (iI i)), (6, .int (iI ((mGetX mS first en size rule i).2))), (0, .ref (h 0)), (1, .int (iI first)), (2, .int (iI en)), (3, .int (iI size)), (4, .int (iI rule))] hl dX5_gets_76 (by decide) rfl (fun ls hl => ?_)
                refine x_goto hC 116 dX5_gets_78 (by decide) ?_
                refine x_iinc hC [(7, .int (iI (i + 1))), (5, .int (iI ((mGetX mS first en size rule i).1))), (8, .int (iI (b2p (mCan mS i first en size (-1))))), (6, .int (iI ((mGetX mS first en size rule i).2))), (0, .ref (h 0)), (1, .int (iI first)), (2, .int (iI en)), (3, .int (iI size)), (4, .int (iI rule))] 2 hl dX5_gets_116 rfl (by decide) rfl (fun ls hl => ?_)
                refine x_goto hC 9 dX5_gets_119 (by decide) ?_
                have hl : lv_has ls 9 [(7, .int (iI (i + 1))), (6, .int (iI ((mGetX mS first en size rule (i + 1)).2))), (5, .int (iI ((mGetX mS first en size rule (i + 1)).1))), (0, .ref (h 0)), (1, .int (iI first)), (2, .int (iI en)), (3, .int (iI size)), (4, .int (iI rule))] := lvE (lv_sub (l' := [(7, .int (iI (i + 1))), (6, .int (iI ((mGetX mS first en size rule i).2))), (5, .int (iI ((mGetX mS first en size rule i).1))), (0, .ref (h 0)), (1, .int (iI first)), (2, .int (iI en)), (3, .int (iI size)), (4, .int (iI rule))]) hl [0, 3, 1, 4, 5, 6, 7, 8] rfl) (lcE rfl (lcE (congrArg (fun z => Value.int (iI z)) (by rw [mGetX_s _ _ _ _ _ hi0]; unfold mGetS iif; grind : (mGetX mS first en size rule i).2 = (mGetX mS first en size rule (i + 1)).2)) (lcE (congrArg (fun z => Value.int (iI z)) (by rw [mGetX_s _ _ _ _ _ hi0]; unfold mGetS iif; grind : (mGetX mS first en size rule i).1 = (mGetX mS first en size rule (i + 1)).1)) (lcE rfl (lcE rfl (lcE rfl (lcE rfl (lcE rfl (rfl)))))))))
                exact ih_9 (i + 1) (by omega) (by omega) (by omega) H locs ls hP hD hS hl
              · refine x_ilw hC hl 1 dX5_gets_69 rfl ?_
                refine x_goto hC 76 dX5_gets_71 (by decide) ?_
                refine x_isw hC [(5, .int (iI i)), (8, .int (iI (b2p (mCan mS i first en size (-1))))), (7, .int (iI i)), (6, .int (iI ((mGetX mS first en size rule i).2))), (0, .ref (h 0)), (1, .int (iI first)), (2, .int (iI en)), (3, .int (iI size)), (4, .int (iI rule))] hl dX5_gets_76 (by decide) rfl (fun ls hl => ?_)
                refine x_goto hC 116 dX5_gets_78 (by decide) ?_
                refine x_iinc hC [(7, .int (iI (i + 1))), (5, .int (iI i)), (8, .int (iI (b2p (mCan mS i first en size (-1))))), (6, .int (iI ((mGetX mS first en size rule i).2))), (0, .ref (h 0)), (1, .int (iI first)), (2, .int (iI en)), (3, .int (iI size)), (4, .int (iI rule))] 2 hl dX5_gets_116 rfl (by decide) rfl (fun ls hl => ?_)
                refine x_goto hC 9 dX5_gets_119 (by decide) ?_
                have hl : lv_has ls 9 [(7, .int (iI (i + 1))), (6, .int (iI ((mGetX mS first en size rule (i + 1)).2))), (5, .int (iI ((mGetX mS first en size rule (i + 1)).1))), (0, .ref (h 0)), (1, .int (iI first)), (2, .int (iI en)), (3, .int (iI size)), (4, .int (iI rule))] := lvE (lv_sub (l' := [(7, .int (iI (i + 1))), (6, .int (iI ((mGetX mS first en size rule i).2))), (5, .int (iI i)), (0, .ref (h 0)), (1, .int (iI first)), (2, .int (iI en)), (3, .int (iI size)), (4, .int (iI rule))]) hl [0, 3, 1, 4, 5, 6, 7, 8] rfl) (lcE rfl (lcE (congrArg (fun z => Value.int (iI z)) (by rw [mGetX_s _ _ _ _ _ hi0]; unfold mGetS iif; grind : (mGetX mS first en size rule i).2 = (mGetX mS first en size rule (i + 1)).2)) (lcE (congrArg (fun z => Value.int (iI z)) (by rw [mGetX_s _ _ _ _ _ hi0]; unfold mGetS iif; grind : i = (mGetX mS first en size rule (i + 1)).1)) (lcE rfl (lcE rfl (lcE rfl (lcE rfl (lcE rfl (rfl)))))))))
                exact ih_9 (i + 1) (by omega) (by omega) (by omega) H locs ls hP hD hS hl
  have hl := lv_sub (l' := [(7, .int (iI 0)), (6, .int (iI ((mGetX mS first en size rule 0).2))), (5, .int (iI ((mGetX mS first en size rule 0).1))), (0, .ref (h 0)), (1, .int (iI first)), (2, .int (iI en)), (3, .int (iI size)), (4, .int (iI rule))]) hl [0, 1, 2, 3, 4, 5, 6, 7] rfl
  exact loop_9 (Int.toNat (8 - 0) + 1) 0 (by omega) (by omega) (by omega) H locs ls hP hD hS hl
abbrev r5_openMany : Room := { frames := 1, cells := 0, slots := 0, locals := 22 }
set_option maxHeartbeats 4000000 in
set_option maxRecDepth 100000 in
theorem k5_openMany (l : Launch) (D : va_G) (cs : Nat → ClassId) (h : Nat → Nat) (mF : Int → Int) (mS : Int → Int) (mA : Int → Int) (mV : Int → Int) (mT : Int → Int) (mB : Int → Int) (hI : IM mS) : CI l D cs yX5_openMany cX5_openMany 3 .int r5_openMany 0 0 [.ref (h 0)] (wM h cs mF mS mA mV mT mB) (wM h cs mF mS mA mV mT mB) (iI (mOpenN mS 8)) := by
  refine CI_start (own := RX5) (by decide) rfl rfl (Nat.le_of_ble_eq_true rfl) ?_
  intro p e s m args below meth c Q A ls hC hl hP hD hA hS hend
  have hl : lv_has ls 3 [(0, .ref (h 0))] := hl
  obtain ⟨H, hH⟩ : ∃ H : Heap, H = s.heap := ⟨_, rfl⟩
  have hS : va_S A s.heap H [] := by rw [hH]; exact hS
  rw [← hH] at hP
  obtain ⟨locs, hlocs⟩ : ∃ locs : List Loc, locs = [] := ⟨_, rfl⟩
  rw [← hlocs] at hS
  suffices hgo : W p l e r5_openMany s m args below meth c H locs 0 0 Q (F0 m 0 ls []) by rw [← hH, ← hlocs]; exact hgo
  clear hH hlocs
  obtain ⟨z0, z1, -⟩ := id hI
  refine x_ic hC dX5_openMany_0 ?_
  refine x_is hC [(1, .int (iI 0)), (0, .ref (h 0))] hl dX5_openMany_1 rfl (by decide) rfl (fun ls hl => ?_)
  refine x_ic hC dX5_openMany_2 ?_
  refine x_is hC [(2, .int (iI 0)), (1, .int (iI 0)), (0, .ref (h 0))] hl dX5_openMany_3 rfl (by decide) rfl (fun ls hl => ?_)
  have loop_4 : ∀ (n : Nat) (i : Int), (hi0 : 0 ≤ i) → (hiN : i ≤ 8) → (8 - i) < (n : Int) → ∀ (H : Heap) (locs : List Loc) (ls : Array Slot), va_P D vwCl (wM h cs mF mS mA mV mT mB) H → va_D A (wM h cs mF mS mA mV mT mB) → va_S A s.heap H locs → lv_has ls 3 [(2, .int (iI i)), (1, .int (iI (mOpenN mS i))), (0, .ref (h 0))] → W p l e r5_openMany s m args below meth c H locs 0 0 Q (F0 m 4 ls []) := by
    intro n
    induction n with
    | zero =>
      intro i hi0 hiN hnn
      exfalso; omega
    | succ n ih_4 =>
      intro i hi0 hiN hnn H locs ls hP hD hS hl
      refine x_il hC hl 0 dX5_openMany_4 rfl rfl ?_
      refine x_bi hC dX5_openMany_5 (by decide) ?_
      refine x_ic_ge hC 25 dX5_openMany_7 (by decide) (by omega) (by omega) (fun c_7 => ?_) (fun c_7 => ?_)
      · obtain rfl : i = 8 := by omega
        refine x_il hC hl 1 dX5_openMany_25 rfl rfl ?_
        exact x_retI (rfl) hend hP hD hS dX5_openMany_26
      · refine x_il hC hl 1 dX5_openMany_10 rfl rfl ?_
        refine x_al hC hl 2 dX5_openMany_11 rfl rfl ?_
        refine x_il hC hl 0 dX5_openMany_12 rfl rfl ?_
        refine x_ic hC dX5_openMany_13 ?_
        refine x_vI (As := [.int (iI i), .int (iI 2)]) hC (k5_room0 l D cs h mF mS mA mV mT mB i 2 (by first | assumption | omega) (by first | assumption | omega) (by first | assumption | omega)) lk5_38 (q0 := 0) (ci := 5) rfl rfl rfl (sub_all hP hD hS hA) hP hS rfl hl.1 rfl (Nat.le_of_ble_eq_true rfl) ⟨rfl, rfl⟩ ⟨Nat.le_of_ble_eq_true rfl, Nat.le_of_ble_eq_true rfl⟩ ⟨Nat.le_of_ble_eq_true rfl, Nat.le_of_ble_eq_true rfl⟩ dX5_openMany_14 (fun H locs hP hD hS hHs => ?_)
        have q_14 := imB (S := mS) (by assumption) (5 + 3 * i + 2) (by omega)
        refine x_iadd hC dX5_openMany_17 ?_
        refine x_is hC [(1, .int (iI ((mOpenN mS i) + (mS (5 + 3 * i + 2))))), (2, .int (iI i)), (0, .ref (h 0))] hl dX5_openMany_18 rfl (by decide) rfl (fun ls hl => ?_)
        refine x_iinc hC [(2, .int (iI (i + 1))), (1, .int (iI ((mOpenN mS i) + (mS (5 + 3 * i + 2))))), (0, .ref (h 0))] 1 hl dX5_openMany_19 rfl (by decide) rfl (fun ls hl => ?_)
        refine x_goto hC 4 dX5_openMany_22 (by decide) ?_
        have hl : lv_has ls 3 [(2, .int (iI (i + 1))), (1, .int (iI (mOpenN mS (i + 1)))), (0, .ref (h 0))] := lvE (lv_sub (l' := [(2, .int (iI (i + 1))), (1, .int (iI ((mOpenN mS i) + (mS (5 + 3 * i + 2))))), (0, .ref (h 0))]) hl [0, 1, 2] rfl) (lcE rfl (lcE (congrArg (fun z => Value.int (iI z)) (by unfold mOpenN; rw [fI_s (by omega)] : (mOpenN mS i) + (mS (5 + 3 * i + 2)) = mOpenN mS (i + 1))) (lcE rfl (rfl))))
        exact ih_4 (i + 1) (by omega) (by omega) (by omega) H locs ls hP hD hS hl
  have hl := lv_sub (l' := [(2, .int (iI 0)), (1, .int (iI (mOpenN mS 0))), (0, .ref (h 0))]) hl [0, 1, 2] rfl
  exact loop_4 (Int.toNat (8 - 0) + 1) 0 (by omega) (by omega) (by omega) H locs ls hP hD hS hl
abbrev r5_canMove : Room := { frames := 2, cells := 0, slots := 0, locals := 49 }
set_option maxHeartbeats 4000000 in
set_option maxRecDepth 100000 in
theorem k5_canMove (l : Launch) (D : va_G) (cs : Nat → ClassId) (h : Nat → Nat) (mF : Int → Int) (mS : Int → Int) (mA : Int → Int) (mV : Int → Int) (mT : Int → Int) (mB : Int → Int) (talk : Int) (room : Int) (hI : IM mS) (h1 : 0 ≤ talk ∧ talk < 20) (h2 : 0 ≤ room ∧ room < 8) : CI l D cs yX5_canMove cX5_canMove 3 .boolean r5_canMove 0 0 [.ref (h 0), .int (iI talk), .int (iI room)] (wM h cs mF mS mA mV mT mB) (wM h cs mF mS mA mV mT mB) (iI (b2p (mMove mS talk room))) := by
  refine CI_start (own := RX5) (by decide) rfl b2p_nar (Nat.le_of_ble_eq_true rfl) ?_
  intro p e s m args below meth c Q A ls hC hl hP hD hA hS hend
  have hl : lv_has ls 3 [(0, .ref (h 0)), (1, .int (iI talk)), (2, .int (iI room))] := hl
  obtain ⟨H, hH⟩ : ∃ H : Heap, H = s.heap := ⟨_, rfl⟩
  have hS : va_S A s.heap H [] := by rw [hH]; exact hS
  rw [← hH] at hP
  obtain ⟨locs, hlocs⟩ : ∃ locs : List Loc, locs = [] := ⟨_, rfl⟩
  rw [← hlocs] at hS
  suffices hgo : W p l e r5_canMove s m args below meth c H locs 0 0 Q (F0 m 0 ls []) by rw [← hH, ← hlocs]; exact hgo
  clear hH hlocs
  obtain ⟨z0, z1, -⟩ := id hI
  refine x_al hC hl 0 dX5_canMove_0 rfl rfl ?_
  refine x_il hC hl 1 dX5_canMove_1 rfl rfl ?_
  refine x_ic hC dX5_canMove_2 ?_
  refine x_vI (As := [.int (iI talk), .int (iI 3)]) hC (k5_of l D cs h mF mS mA mV mT mB talk 3 (by first | assumption | omega) (by first | assumption | omega) (by first | assumption | omega)) lk5_34 (q0 := 0) (ci := 5) rfl rfl rfl (sub_all hP hD hS hA) hP hS rfl hl.1 rfl (Nat.le_of_ble_eq_true rfl) ⟨rfl, rfl⟩ ⟨Nat.le_of_ble_eq_true rfl, Nat.le_of_ble_eq_true rfl⟩ ⟨Nat.le_of_ble_eq_true rfl, Nat.le_of_ble_eq_true rfl⟩ dX5_canMove_3 (fun H locs hP hD hS hHs => ?_)
  have q_3 := imB (S := mS) (by assumption) (29 + 4 * talk + 3) (by omega)
  refine x_il hC hl 2 dX5_canMove_6 rfl rfl ?_
  refine x_ic_eq hC 49 dX5_canMove_7 (by decide) (by omega) (by omega) (fun c_7 => ?_) (fun c_7 => ?_)
  · refine x_ic hC dX5_canMove_49 ?_
    exact x_retI (congrArg iI (b2p_f (by unfold mMove; grind)).symm) hend hP hD hS dX5_canMove_50
  · refine x_al hC hl 0 dX5_canMove_10 rfl rfl ?_
    refine x_il hC hl 2 dX5_canMove_11 rfl rfl ?_
    refine x_vI (As := [.int (iI room)]) hC (k5_isOpen l D cs h mF mS mA mV mT mB room (by first | assumption | omega) (by first | assumption | omega)) lk5_56 (q0 := 0) (ci := 5) rfl rfl rfl (sub_all hP hD hS hA) hP hS rfl hl.1 rfl (Nat.le_of_ble_eq_true rfl) ⟨rfl, rfl⟩ ⟨Nat.le_of_ble_eq_true rfl, Nat.le_of_ble_eq_true rfl⟩ ⟨Nat.le_of_ble_eq_true rfl, Nat.le_of_ble_eq_true rfl⟩ dX5_canMove_12 (fun H locs hP hD hS hHs => ?_)
    refine x_if_eq_b hC 49 dX5_canMove_15 (by decide) (fun c_15 => ?_) (fun c_15 => ?_)
    · refine x_ic hC dX5_canMove_49 ?_
      exact x_retI (congrArg iI (b2p_f (by unfold mMove; grind)).symm) hend hP hD hS dX5_canMove_50
    · refine x_al hC hl 0 dX5_canMove_18 rfl rfl ?_
      refine x_il hC hl 2 dX5_canMove_19 rfl rfl ?_
      refine x_al hC hl 0 dX5_canMove_20 rfl rfl ?_
      refine x_il hC hl 1 dX5_canMove_21 rfl rfl ?_
      refine x_ic hC dX5_canMove_22 ?_
      refine x_vI (As := [.int (iI talk), .int (iI 0)]) hC (k5_of l D cs h mF mS mA mV mT mB talk 0 (by first | assumption | omega) (by first | assumption | omega) (by first | assumption | omega)) lk5_34 (q0 := 0) (ci := 5) rfl rfl rfl (sub_all hP hD hS hA) hP hS rfl hl.1 rfl (Nat.le_of_ble_eq_true rfl) ⟨rfl, rfl⟩ ⟨Nat.le_of_ble_eq_true rfl, Nat.le_of_ble_eq_true rfl⟩ ⟨Nat.le_of_ble_eq_true rfl, Nat.le_of_ble_eq_true rfl⟩ dX5_canMove_23 (fun H locs hP hD hS hHs => ?_)
      have q_23 := imB (S := mS) (by assumption) (29 + 4 * talk + 0) (by omega)
      refine x_al hC hl 0 dX5_canMove_26 rfl rfl ?_
      refine x_il hC hl 1 dX5_canMove_27 rfl rfl ?_
      refine x_ic hC dX5_canMove_28 ?_
      refine x_vI (As := [.int (iI talk), .int (iI 1)]) hC (k5_of l D cs h mF mS mA mV mT mB talk 1 (by first | assumption | omega) (by first | assumption | omega) (by first | assumption | omega)) lk5_34 (q0 := 0) (ci := 5) rfl rfl rfl (sub_all hP hD hS hA) hP hS rfl hl.1 rfl (Nat.le_of_ble_eq_true rfl) ⟨rfl, rfl⟩ ⟨Nat.le_of_ble_eq_true rfl, Nat.le_of_ble_eq_true rfl⟩ ⟨Nat.le_of_ble_eq_true rfl, Nat.le_of_ble_eq_true rfl⟩ dX5_canMove_29 (fun H locs hP hD hS hHs => ?_)
      have q_29 := imB (S := mS) (by assumption) (29 + 4 * talk + 1) (by omega)
      refine x_al hC hl 0 dX5_canMove_32 rfl rfl ?_
      refine x_il hC hl 1 dX5_canMove_33 rfl rfl ?_
      refine x_ic hC dX5_canMove_34 ?_
      refine x_vI (As := [.int (iI talk), .int (iI 2)]) hC (k5_of l D cs h mF mS mA mV mT mB talk 2 (by first | assumption | omega) (by first | assumption | omega) (by first | assumption | omega)) lk5_34 (q0 := 0) (ci := 5) rfl rfl rfl (sub_all hP hD hS hA) hP hS rfl hl.1 rfl (Nat.le_of_ble_eq_true rfl) ⟨rfl, rfl⟩ ⟨Nat.le_of_ble_eq_true rfl, Nat.le_of_ble_eq_true rfl⟩ ⟨Nat.le_of_ble_eq_true rfl, Nat.le_of_ble_eq_true rfl⟩ dX5_canMove_35 (fun H locs hP hD hS hHs => ?_)
      have q_35 := imB (S := mS) (by assumption) (29 + 4 * talk + 2) (by omega)
      refine x_il hC hl 1 dX5_canMove_38 rfl rfl ?_
      refine x_vI (As := [.int (iI room), .int (iI (mS (29 + 4 * talk + 0))), .int (iI (mS (29 + 4 * talk + 1))), .int (iI (mS (29 + 4 * talk + 2))), .int (iI talk)]) hC (k5_canBe l D cs h mF mS mA mV mT mB room (mS (29 + 4 * talk + 0)) (mS (29 + 4 * talk + 1)) (mS (29 + 4 * talk + 2)) talk (by first | assumption | omega) (by first | assumption | omega) (by first | assumption | omega) (by first | assumption | omega) (by first | assumption | omega) (by first | assumption | omega)) lk5_52 (q0 := 0) (ci := 5) rfl rfl rfl (sub_all hP hD hS hA) hP hS rfl hl.1 rfl (Nat.le_of_ble_eq_true rfl) ⟨rfl, rfl⟩ ⟨Nat.le_of_ble_eq_true rfl, Nat.le_of_ble_eq_true rfl⟩ ⟨Nat.le_of_ble_eq_true rfl, Nat.le_of_ble_eq_true rfl⟩ dX5_canMove_39 (fun H locs hP hD hS hHs => ?_)
      refine x_if_eq_b hC 49 dX5_canMove_42 (by decide) (fun c_42 => ?_) (fun c_42 => ?_)
      · refine x_ic hC dX5_canMove_49 ?_
        exact x_retI (congrArg iI (b2p_f (by unfold mMove; grind)).symm) hend hP hD hS dX5_canMove_50
      · refine x_ic hC dX5_canMove_45 ?_
        refine x_goto hC 50 dX5_canMove_46 (by decide) ?_
        exact x_retI (congrArg iI (b2p_t (by unfold mMove; grind)).symm) hend hP hD hS dX5_canMove_50
abbrev r5_lowestFor : Room := { frames := 3, cells := 0, slots := 0, locals := 71 }
set_option maxHeartbeats 4000000 in
set_option maxRecDepth 100000 in
theorem k5_lowestFor (l : Launch) (D : va_G) (cs : Nat → ClassId) (h : Nat → Nat) (mF : Int → Int) (mS : Int → Int) (mA : Int → Int) (mV : Int → Int) (mT : Int → Int) (mB : Int → Int) (talk : Int) (hI : IM mS) (h1 : 0 ≤ talk ∧ talk < 20) : CI l D cs yX5_lowestFor cX5_lowestFor 3 .int r5_lowestFor 0 0 [.ref (h 0), .int (iI talk)] (wM h cs mF mS mA mV mT mB) (wM h cs mF mS mA mV mT mB) (iI (mLow mS talk)) := by
  refine CI_start (own := RX5) (by decide) rfl rfl (Nat.le_of_ble_eq_true rfl) ?_
  intro p e s m args below meth c Q A ls hC hl hP hD hA hS hend
  have hl : lv_has ls 3 [(0, .ref (h 0)), (1, .int (iI talk))] := hl
  obtain ⟨H, hH⟩ : ∃ H : Heap, H = s.heap := ⟨_, rfl⟩
  have hS : va_S A s.heap H [] := by rw [hH]; exact hS
  rw [← hH] at hP
  obtain ⟨locs, hlocs⟩ : ∃ locs : List Loc, locs = [] := ⟨_, rfl⟩
  rw [← hlocs] at hS
  suffices hgo : W p l e r5_lowestFor s m args below meth c H locs 0 0 Q (F0 m 0 ls []) by rw [← hH, ← hlocs]; exact hgo
  clear hH hlocs
  obtain ⟨z0, z1, -⟩ := id hI
  refine x_ic hC dX5_lowestFor_0 ?_
  refine x_is hC [(2, .int (iI 0)), (0, .ref (h 0)), (1, .int (iI talk))] hl dX5_lowestFor_1 rfl (by decide) rfl (fun ls hl => ?_)
  have loop_2 : ∀ (n : Nat) (i : Int), (hi0 : 0 ≤ i) → (hiN : i ≤ 8) → (hf : fstI (fun r => mMove mS talk r) (-1) (8 - i).toNat i = mLow mS talk) → (8 - i) < (n : Int) → ∀ (H : Heap) (locs : List Loc) (ls : Array Slot), va_P D vwCl (wM h cs mF mS mA mV mT mB) H → va_D A (wM h cs mF mS mA mV mT mB) → va_S A s.heap H locs → lv_has ls 3 [(2, .int (iI i)), (0, .ref (h 0)), (1, .int (iI talk))] → W p l e r5_lowestFor s m args below meth c H locs 0 0 Q (F0 m 2 ls []) := by
    intro n
    induction n with
    | zero =>
      intro i hi0 hiN hf hnn
      exfalso; omega
    | succ n ih_2 =>
      intro i hi0 hiN hf hnn H locs ls hP hD hS hl
      refine x_il hC hl 0 dX5_lowestFor_2 rfl rfl ?_
      refine x_bi hC dX5_lowestFor_3 (by decide) ?_
      refine x_ic_ge hC 25 dX5_lowestFor_5 (by decide) (by omega) (by omega) (fun c_5 => ?_) (fun c_5 => ?_)
      · obtain rfl : i = 8 := by omega
        refine x_ic hC dX5_lowestFor_25 ?_
        exact x_retI (congrArg iI (by exact (fstI_e (by omega)).symm.trans hf : (-1) = mLow mS talk)) hend hP hD hS dX5_lowestFor_26
      · refine x_al hC hl 1 dX5_lowestFor_8 rfl rfl ?_
        refine x_il hC hl 2 dX5_lowestFor_9 rfl rfl ?_
        refine x_il hC hl 0 dX5_lowestFor_10 rfl rfl ?_
        refine x_vI (As := [.int (iI talk), .int (iI i)]) hC (k5_canMove l D cs h mF mS mA mV mT mB talk i (by first | assumption | omega) (by first | assumption | omega) (by first | assumption | omega)) lk5_96 (q0 := 0) (ci := 5) rfl rfl rfl (sub_all hP hD hS hA) hP hS rfl hl.1 rfl (Nat.le_of_ble_eq_true rfl) ⟨rfl, rfl⟩ ⟨Nat.le_of_ble_eq_true rfl, Nat.le_of_ble_eq_true rfl⟩ ⟨Nat.le_of_ble_eq_true rfl, Nat.le_of_ble_eq_true rfl⟩ dX5_lowestFor_11 (fun H locs hP hD hS hHs => ?_)
        refine x_if_eq_b hC 19 dX5_lowestFor_14 (by decide) (fun c_14 => ?_) (fun c_14 => ?_)
        · refine x_iinc hC [(2, .int (iI (i + 1))), (0, .ref (h 0)), (1, .int (iI talk))] 0 hl dX5_lowestFor_19 rfl (by decide) rfl (fun ls hl => ?_)
          refine x_goto hC 2 dX5_lowestFor_22 (by decide) ?_
          have hl := lv_sub (l' := [(2, .int (iI (i + 1))), (0, .ref (h 0)), (1, .int (iI talk))]) hl [0, 1, 2] rfl
          exact ih_2 (i + 1) (by omega) (by omega) ((fstI_f (by omega) (by assumption)).symm.trans hf) (by omega) H locs ls hP hD hS hl
        · refine x_il hC hl 0 dX5_lowestFor_17 rfl rfl ?_
          exact x_retI (congrArg iI (by exact (fstI_t (by omega) (by assumption)).symm.trans hf : i = mLow mS talk)) hend hP hD hS dX5_lowestFor_18
  have hl := lv_sub (l' := [(2, .int (iI 0)), (0, .ref (h 0)), (1, .int (iI talk))]) hl [0, 1, 2] rfl
  exact loop_2 (Int.toNat (8 - 0) + 1) 0 (by omega) (by omega) rfl (by omega) H locs ls hP hD hS hl
abbrev r5_talksIn : Room := { frames := 1, cells := 0, slots := 0, locals := 22 }
set_option maxHeartbeats 4000000 in
set_option maxRecDepth 100000 in
theorem k5_talksIn (l : Launch) (D : va_G) (cs : Nat → ClassId) (h : Nat → Nat) (mF : Int → Int) (mS : Int → Int) (mA : Int → Int) (mV : Int → Int) (mT : Int → Int) (mB : Int → Int) (room : Int) (hI : IM mS) (h1 : 0 ≤ room ∧ room < 8) : CI l D cs yX5_talksIn cX5_talksIn 4 .int r5_talksIn 0 0 [.ref (h 0), .int (iI room)] (wM h cs mF mS mA mV mT mB) (wM h cs mF mS mA mV mT mB) (mskI (fun t => mS (29 + 4 * t + 3) = room) (mS 1)) := by
  refine CI_start (own := RX5) (by decide) rfl rfl (Nat.le_of_ble_eq_true rfl) ?_
  intro p e s m args below meth c Q A ls hC hl hP hD hA hS hend
  have hl : lv_has ls 4 [(0, .ref (h 0)), (1, .int (iI room))] := hl
  obtain ⟨H, hH⟩ : ∃ H : Heap, H = s.heap := ⟨_, rfl⟩
  have hS : va_S A s.heap H [] := by rw [hH]; exact hS
  rw [← hH] at hP
  obtain ⟨locs, hlocs⟩ : ∃ locs : List Loc, locs = [] := ⟨_, rfl⟩
  rw [← hlocs] at hS
  suffices hgo : W p l e r5_talksIn s m args below meth c H locs 0 0 Q (F0 m 0 ls []) by rw [← hH, ← hlocs]; exact hgo
  clear hH hlocs
  obtain ⟨z0, z1, -⟩ := id hI
  refine x_ic hC dX5_talksIn_0 ?_
  refine x_is hC [(2, .int (iI 0)), (0, .ref (h 0)), (1, .int (iI room))] hl dX5_talksIn_1 rfl (by decide) rfl (fun ls hl => ?_)
  refine x_ic hC dX5_talksIn_2 ?_
  refine x_is hC [(3, .int (iI 0)), (2, .int (iI 0)), (0, .ref (h 0)), (1, .int (iI room))] hl dX5_talksIn_3 rfl (by decide) rfl (fun ls hl => ?_)
  have loop_4 : ∀ (n : Nat) (i : Int), (hi0 : 0 ≤ i) → (hiN : i ≤ mS 1) → ((mS 1) - i) < (n : Int) → ∀ (H : Heap) (locs : List Loc) (ls : Array Slot), va_P D vwCl (wM h cs mF mS mA mV mT mB) H → va_D A (wM h cs mF mS mA mV mT mB) → va_S A s.heap H locs → lv_has ls 4 [(3, .int (iI i)), (2, .int (mskI (fun t => mS (29 + 4 * t + 3) = room) i)), (0, .ref (h 0)), (1, .int (iI room))] → W p l e r5_talksIn s m args below meth c H locs 0 0 Q (F0 m 4 ls []) := by
    intro n
    induction n with
    | zero =>
      intro i hi0 hiN hnn
      exfalso; omega
    | succ n ih_4 =>
      intro i hi0 hiN hnn H locs ls hP hD hS hl
      refine x_il hC hl 0 dX5_talksIn_4 rfl rfl ?_
      refine x_al hC hl 2 dX5_talksIn_5 rfl rfl ?_
      refine x_get5 (v := .ref (h 1)) hC hP 0 rfl 1 (by decide) tb_620 rfl rfl dX5_talksIn_6 ?_
      refine x_ic hC dX5_talksIn_9 ?_
      refine x_iald hC hP 1 rfl (by omega) (by decide) dX5_talksIn_10 ?_
      refine x_ic_ge hC 40 dX5_talksIn_11 (by decide) (by omega) (by omega) (fun c_11 => ?_) (fun c_11 => ?_)
      · obtain rfl : i = mS 1 := by omega
        refine x_il hC hl 1 dX5_talksIn_40 rfl rfl ?_
        exact x_retI (rfl) hend hP hD hS dX5_talksIn_41
      · refine x_il hC hl 1 dX5_talksIn_14 rfl rfl ?_
        refine x_al hC hl 2 dX5_talksIn_15 rfl rfl ?_
        refine x_il hC hl 0 dX5_talksIn_16 rfl rfl ?_
        refine x_ic hC dX5_talksIn_17 ?_
        refine x_vI (As := [.int (iI i), .int (iI 3)]) hC (k5_of l D cs h mF mS mA mV mT mB i 3 (by first | assumption | omega) (by first | assumption | omega) (by first | assumption | omega)) lk5_34 (q0 := 0) (ci := 5) rfl rfl rfl (sub_all hP hD hS hA) hP hS rfl hl.1 rfl (Nat.le_of_ble_eq_true rfl) ⟨rfl, rfl⟩ ⟨Nat.le_of_ble_eq_true rfl, Nat.le_of_ble_eq_true rfl⟩ ⟨Nat.le_of_ble_eq_true rfl, Nat.le_of_ble_eq_true rfl⟩ dX5_talksIn_18 (fun H locs hP hD hS hHs => ?_)
        have q_18 := imB (S := mS) (by assumption) (29 + 4 * i + 3) (by omega)
        refine x_il hC hl 3 dX5_talksIn_21 rfl rfl ?_
        refine x_ic_ne hC 31 dX5_talksIn_22 (by decide) (by omega) (by omega) (fun c_22 => ?_) (fun c_22 => ?_)
        · refine x_ic hC dX5_talksIn_31 ?_
          refine x_ior hC dX5_talksIn_32 (mskI (fun t => mS (29 + 4 * t + 3) = room) (i + 1)) (by first | exact mskI_t hi0 (by omega) (by grind) | exact mskI_f hi0 (by grind)) ?_
          refine x_is hC [(2, .int (mskI (fun t => mS (29 + 4 * t + 3) = room) (i + 1))), (3, .int (iI i)), (0, .ref (h 0)), (1, .int (iI room))] hl dX5_talksIn_33 rfl (by decide) rfl (fun ls hl => ?_)
          refine x_iinc hC [(3, .int (iI (i + 1))), (2, .int (mskI (fun t => mS (29 + 4 * t + 3) = room) (i + 1))), (0, .ref (h 0)), (1, .int (iI room))] 1 hl dX5_talksIn_34 rfl (by decide) rfl (fun ls hl => ?_)
          refine x_goto hC 4 dX5_talksIn_37 (by decide) ?_
          have hl := lv_sub (l' := [(3, .int (iI (i + 1))), (2, .int (mskI (fun t => mS (29 + 4 * t + 3) = room) (i + 1))), (0, .ref (h 0)), (1, .int (iI room))]) hl [0, 1, 2, 3] rfl
          exact ih_4 (i + 1) (by omega) (by omega) (by omega) H locs ls hP hD hS hl
        · refine x_ic hC dX5_talksIn_25 ?_
          refine x_il hC hl 0 dX5_talksIn_26 rfl rfl ?_
          refine x_ishl hC dX5_talksIn_27 (iI 1 <<< (iI i &&& 31)) rfl ?_
          refine x_goto hC 32 dX5_talksIn_28 (by decide) ?_
          refine x_ior hC dX5_talksIn_32 (mskI (fun t => mS (29 + 4 * t + 3) = room) (i + 1)) (by first | exact mskI_t hi0 (by omega) (by grind) | exact mskI_f hi0 (by grind)) ?_
          refine x_is hC [(2, .int (mskI (fun t => mS (29 + 4 * t + 3) = room) (i + 1))), (3, .int (iI i)), (0, .ref (h 0)), (1, .int (iI room))] hl dX5_talksIn_33 rfl (by decide) rfl (fun ls hl => ?_)
          refine x_iinc hC [(3, .int (iI (i + 1))), (2, .int (mskI (fun t => mS (29 + 4 * t + 3) = room) (i + 1))), (0, .ref (h 0)), (1, .int (iI room))] 1 hl dX5_talksIn_34 rfl (by decide) rfl (fun ls hl => ?_)
          refine x_goto hC 4 dX5_talksIn_37 (by decide) ?_
          have hl := lv_sub (l' := [(3, .int (iI (i + 1))), (2, .int (mskI (fun t => mS (29 + 4 * t + 3) = room) (i + 1))), (0, .ref (h 0)), (1, .int (iI room))]) hl [0, 1, 2, 3] rfl
          exact ih_4 (i + 1) (by omega) (by omega) (by omega) H locs ls hP hD hS hl
  have hl := lv_sub (l' := [(3, .int (iI 0)), (2, .int (mskI (fun t => mS (29 + 4 * t + 3) = room) 0)), (0, .ref (h 0)), (1, .int (iI room))]) hl [0, 1, 2, 3] rfl
  exact loop_4 (Int.toNat ((mS 1) - 0) + 1) 0 (by omega) (by omega) (by omega) H locs ls hP hD hS hl
abbrev r5_instead : Room := { frames := 3, cells := 0, slots := 0, locals := 71 }
set_option maxHeartbeats 4000000 in
set_option maxRecDepth 100000 in
theorem k5_instead (l : Launch) (D : va_G) (cs : Nat → ClassId) (h : Nat → Nat) (mF : Int → Int) (mS : Int → Int) (mA : Int → Int) (mV : Int → Int) (mT : Int → Int) (mB : Int → Int) (talk : Int) (hI : IM mS) (h1 : 0 ≤ talk ∧ talk < 20) : CI l D cs yX5_instead cX5_instead 4 .int r5_instead 0 0 [.ref (h 0), .int (iI talk)] (wM h cs mF mS mA mV mT mB) (wM h cs mF mS mA mV mT mB) (mskI (fun t => mMove mS talk t) (8)) := by
  refine CI_start (own := RX5) (by decide) rfl rfl (Nat.le_of_ble_eq_true rfl) ?_
  intro p e s m args below meth c Q A ls hC hl hP hD hA hS hend
  have hl : lv_has ls 4 [(0, .ref (h 0)), (1, .int (iI talk))] := hl
  obtain ⟨H, hH⟩ : ∃ H : Heap, H = s.heap := ⟨_, rfl⟩
  have hS : va_S A s.heap H [] := by rw [hH]; exact hS
  rw [← hH] at hP
  obtain ⟨locs, hlocs⟩ : ∃ locs : List Loc, locs = [] := ⟨_, rfl⟩
  rw [← hlocs] at hS
  suffices hgo : W p l e r5_instead s m args below meth c H locs 0 0 Q (F0 m 0 ls []) by rw [← hH, ← hlocs]; exact hgo
  clear hH hlocs
  obtain ⟨z0, z1, -⟩ := id hI
  refine x_ic hC dX5_instead_0 ?_
  refine x_is hC [(2, .int (iI 0)), (0, .ref (h 0)), (1, .int (iI talk))] hl dX5_instead_1 rfl (by decide) rfl (fun ls hl => ?_)
  refine x_ic hC dX5_instead_2 ?_
  refine x_is hC [(3, .int (iI 0)), (2, .int (iI 0)), (0, .ref (h 0)), (1, .int (iI talk))] hl dX5_instead_3 rfl (by decide) rfl (fun ls hl => ?_)
  have loop_4 : ∀ (n : Nat) (i : Int), (hi0 : 0 ≤ i) → (hiN : i ≤ 8) → (8 - i) < (n : Int) → ∀ (H : Heap) (locs : List Loc) (ls : Array Slot), va_P D vwCl (wM h cs mF mS mA mV mT mB) H → va_D A (wM h cs mF mS mA mV mT mB) → va_S A s.heap H locs → lv_has ls 4 [(3, .int (iI i)), (2, .int (mskI (fun t => mMove mS talk t) i)), (0, .ref (h 0)), (1, .int (iI talk))] → W p l e r5_instead s m args below meth c H locs 0 0 Q (F0 m 4 ls []) := by
    intro n
    induction n with
    | zero =>
      intro i hi0 hiN hnn
      exfalso; omega
    | succ n ih_4 =>
      intro i hi0 hiN hnn H locs ls hP hD hS hl
      refine x_il hC hl 0 dX5_instead_4 rfl rfl ?_
      refine x_bi hC dX5_instead_5 (by decide) ?_
      refine x_ic_ge hC 35 dX5_instead_7 (by decide) (by omega) (by omega) (fun c_7 => ?_) (fun c_7 => ?_)
      · obtain rfl : i = 8 := by omega
        refine x_il hC hl 1 dX5_instead_35 rfl rfl ?_
        exact x_retI (rfl) hend hP hD hS dX5_instead_36
      · refine x_il hC hl 1 dX5_instead_10 rfl rfl ?_
        refine x_al hC hl 2 dX5_instead_11 rfl rfl ?_
        refine x_il hC hl 3 dX5_instead_12 rfl rfl ?_
        refine x_il hC hl 0 dX5_instead_13 rfl rfl ?_
        refine x_vI (As := [.int (iI talk), .int (iI i)]) hC (k5_canMove l D cs h mF mS mA mV mT mB talk i (by first | assumption | omega) (by first | assumption | omega) (by first | assumption | omega)) lk5_96 (q0 := 0) (ci := 5) rfl rfl rfl (sub_all hP hD hS hA) hP hS rfl hl.1 rfl (Nat.le_of_ble_eq_true rfl) ⟨rfl, rfl⟩ ⟨Nat.le_of_ble_eq_true rfl, Nat.le_of_ble_eq_true rfl⟩ ⟨Nat.le_of_ble_eq_true rfl, Nat.le_of_ble_eq_true rfl⟩ dX5_instead_14 (fun H locs hP hD hS hHs => ?_)
        refine x_if_eq_b hC 26 dX5_instead_17 (by decide) (fun c_17 => ?_) (fun c_17 => ?_)
        · refine x_ic hC dX5_instead_26 ?_
          refine x_ior hC dX5_instead_27 (mskI (fun t => mMove mS talk t) (i + 1)) (by first | exact mskI_t hi0 (by omega) (by grind) | exact mskI_f hi0 (by grind)) ?_
          refine x_is hC [(2, .int (mskI (fun t => mMove mS talk t) (i + 1))), (3, .int (iI i)), (0, .ref (h 0)), (1, .int (iI talk))] hl dX5_instead_28 rfl (by decide) rfl (fun ls hl => ?_)
          refine x_iinc hC [(3, .int (iI (i + 1))), (2, .int (mskI (fun t => mMove mS talk t) (i + 1))), (0, .ref (h 0)), (1, .int (iI talk))] 1 hl dX5_instead_29 rfl (by decide) rfl (fun ls hl => ?_)
          refine x_goto hC 4 dX5_instead_32 (by decide) ?_
          have hl := lv_sub (l' := [(3, .int (iI (i + 1))), (2, .int (mskI (fun t => mMove mS talk t) (i + 1))), (0, .ref (h 0)), (1, .int (iI talk))]) hl [0, 1, 2, 3] rfl
          exact ih_4 (i + 1) (by omega) (by omega) (by omega) H locs ls hP hD hS hl
        · refine x_ic hC dX5_instead_20 ?_
          refine x_il hC hl 0 dX5_instead_21 rfl rfl ?_
          refine x_ishl hC dX5_instead_22 (iI 1 <<< (iI i &&& 31)) rfl ?_
          refine x_goto hC 27 dX5_instead_23 (by decide) ?_
          refine x_ior hC dX5_instead_27 (mskI (fun t => mMove mS talk t) (i + 1)) (by first | exact mskI_t hi0 (by omega) (by grind) | exact mskI_f hi0 (by grind)) ?_
          refine x_is hC [(2, .int (mskI (fun t => mMove mS talk t) (i + 1))), (3, .int (iI i)), (0, .ref (h 0)), (1, .int (iI talk))] hl dX5_instead_28 rfl (by decide) rfl (fun ls hl => ?_)
          refine x_iinc hC [(3, .int (iI (i + 1))), (2, .int (mskI (fun t => mMove mS talk t) (i + 1))), (0, .ref (h 0)), (1, .int (iI talk))] 1 hl dX5_instead_29 rfl (by decide) rfl (fun ls hl => ?_)
          refine x_goto hC 4 dX5_instead_32 (by decide) ?_
          have hl := lv_sub (l' := [(3, .int (iI (i + 1))), (2, .int (mskI (fun t => mMove mS talk t) (i + 1))), (0, .ref (h 0)), (1, .int (iI talk))]) hl [0, 1, 2, 3] rfl
          exact ih_4 (i + 1) (by omega) (by omega) (by omega) H locs ls hP hD hS hl
  have hl := lv_sub (l' := [(3, .int (iI 0)), (2, .int (mskI (fun t => mMove mS talk t) 0)), (0, .ref (h 0)), (1, .int (iI talk))]) hl [0, 1, 2, 3] rfl
  exact loop_4 (Int.toNat (8 - 0) + 1) 0 (by omega) (by omega) (by omega) H locs ls hP hD hS hl
abbrev r5_beside : Room := { frames := 1, cells := 0, slots := 0, locals := 22 }
set_option maxHeartbeats 4000000 in
set_option maxRecDepth 100000 in
theorem k5_beside (l : Launch) (D : va_G) (cs : Nat → ClassId) (h : Nat → Nat) (mF : Int → Int) (mS : Int → Int) (mA : Int → Int) (mV : Int → Int) (mT : Int → Int) (mB : Int → Int) (talk : Int) (hI : IM mS) (h1 : 0 ≤ talk ∧ talk < 20) : CI l D cs yX5_beside cX5_beside 5 .int r5_beside 0 0 [.ref (h 0), .int (iI talk)] (wM h cs mF mS mA mV mT mB) (wM h cs mF mS mA mV mT mB) (mskI (fun t => ¬ t = talk ∧ ¬ mS (29 + 4 * t + 3) = -1 ∧ mS (29 + 4 * t + 0) < mS (29 + 4 * talk + 1) ∧ mS (29 + 4 * talk + 0) < mS (29 + 4 * t + 1)) (mS 1)) := by
  refine CI_start (own := RX5) (by decide) rfl rfl (Nat.le_of_ble_eq_true rfl) ?_
  intro p e s m args below meth c Q A ls hC hl hP hD hA hS hend
  have hl : lv_has ls 5 [(0, .ref (h 0)), (1, .int (iI talk))] := hl
  obtain ⟨H, hH⟩ : ∃ H : Heap, H = s.heap := ⟨_, rfl⟩
  have hS : va_S A s.heap H [] := by rw [hH]; exact hS
  rw [← hH] at hP
  obtain ⟨locs, hlocs⟩ : ∃ locs : List Loc, locs = [] := ⟨_, rfl⟩
  rw [← hlocs] at hS
  suffices hgo : W p l e r5_beside s m args below meth c H locs 0 0 Q (F0 m 0 ls []) by rw [← hH, ← hlocs]; exact hgo
  clear hH hlocs
  obtain ⟨z0, z1, -⟩ := id hI
  refine x_ic hC dX5_beside_0 ?_
  refine x_is hC [(2, .int (iI 0)), (0, .ref (h 0)), (1, .int (iI talk))] hl dX5_beside_1 rfl (by decide) rfl (fun ls hl => ?_)
  refine x_ic hC dX5_beside_2 ?_
  refine x_is hC [(3, .int (iI 0)), (2, .int (iI 0)), (0, .ref (h 0)), (1, .int (iI talk))] hl dX5_beside_3 rfl (by decide) rfl (fun ls hl => ?_)
  have loop_4 : ∀ (n : Nat) (i : Int), (hi0 : 0 ≤ i) → (hiN : i ≤ mS 1) → ((mS 1) - i) < (n : Int) → ∀ (H : Heap) (locs : List Loc) (ls : Array Slot), va_P D vwCl (wM h cs mF mS mA mV mT mB) H → va_D A (wM h cs mF mS mA mV mT mB) → va_S A s.heap H locs → lv_has ls 5 [(3, .int (iI i)), (2, .int (mskI (fun t => ¬ t = talk ∧ ¬ mS (29 + 4 * t + 3) = -1 ∧ mS (29 + 4 * t + 0) < mS (29 + 4 * talk + 1) ∧ mS (29 + 4 * talk + 0) < mS (29 + 4 * t + 1)) i)), (0, .ref (h 0)), (1, .int (iI talk))] → W p l e r5_beside s m args below meth c H locs 0 0 Q (F0 m 4 ls []) := by
    intro n
    induction n with
    | zero =>
      intro i hi0 hiN hnn
      exfalso; omega
    | succ n ih_4 =>
      intro i hi0 hiN hnn H locs ls hP hD hS hl
      refine x_il hC hl 0 dX5_beside_4 rfl rfl ?_
      refine x_al hC hl 2 dX5_beside_5 rfl rfl ?_
      refine x_get5 (v := .ref (h 1)) hC hP 0 rfl 1 (by decide) tb_620 rfl rfl dX5_beside_6 ?_
      refine x_ic hC dX5_beside_9 ?_
      refine x_iald hC hP 1 rfl (by omega) (by decide) dX5_beside_10 ?_
      refine x_ic_ge hC 87 dX5_beside_11 (by decide) (by omega) (by omega) (fun c_11 => ?_) (fun c_11 => ?_)
      · obtain rfl : i = mS 1 := by omega
        refine x_il hC hl 1 dX5_beside_87 rfl rfl ?_
        exact x_retI (rfl) hend hP hD hS dX5_beside_88
      · refine x_il hC hl 0 dX5_beside_14 rfl rfl ?_
        refine x_il hC hl 3 dX5_beside_15 rfl rfl ?_
        refine x_ic_eq hC 63 dX5_beside_16 (by decide) (by omega) (by omega) (fun c_16 => ?_) (fun c_16 => ?_)
        · refine x_ic hC dX5_beside_63 ?_
          refine x_isw hC [(4, .int (iI 0)), (3, .int (iI i)), (2, .int (mskI (fun t => ¬ t = talk ∧ ¬ mS (29 + 4 * t + 3) = -1 ∧ mS (29 + 4 * t + 0) < mS (29 + 4 * talk + 1) ∧ mS (29 + 4 * talk + 0) < mS (29 + 4 * t + 1)) i)), (0, .ref (h 0)), (1, .int (iI talk))] hl dX5_beside_64 (by decide) rfl (fun ls hl => ?_)
          refine x_il hC hl 2 dX5_beside_66 rfl rfl ?_
          refine x_ilw hC hl 0 dX5_beside_67 rfl ?_
          refine x_if_eq hC 78 dX5_beside_69 (by decide) (by omega) (fun c_69 => ?_) (fun hz => absurd hz (by decide))
          refine x_ic hC dX5_beside_78 ?_
          refine x_ior hC dX5_beside_79 (mskI (fun t => ¬ t = talk ∧ ¬ mS (29 + 4 * t + 3) = -1 ∧ mS (29 + 4 * t + 0) < mS (29 + 4 * talk + 1) ∧ mS (29 + 4 * talk + 0) < mS (29 + 4 * t + 1)) (i + 1)) (by first | exact mskI_t hi0 (by omega) (by grind) | exact mskI_f hi0 (by grind)) ?_
          refine x_is hC [(2, .int (mskI (fun t => ¬ t = talk ∧ ¬ mS (29 + 4 * t + 3) = -1 ∧ mS (29 + 4 * t + 0) < mS (29 + 4 * talk + 1) ∧ mS (29 + 4 * talk + 0) < mS (29 + 4 * t + 1)) (i + 1))), (4, .int (iI 0)), (3, .int (iI i)), (0, .ref (h 0)), (1, .int (iI talk))] hl dX5_beside_80 rfl (by decide) rfl (fun ls hl => ?_)
          refine x_iinc hC [(3, .int (iI (i + 1))), (2, .int (mskI (fun t => ¬ t = talk ∧ ¬ mS (29 + 4 * t + 3) = -1 ∧ mS (29 + 4 * t + 0) < mS (29 + 4 * talk + 1) ∧ mS (29 + 4 * talk + 0) < mS (29 + 4 * t + 1)) (i + 1))), (4, .int (iI 0)), (0, .ref (h 0)), (1, .int (iI talk))] 2 hl dX5_beside_81 rfl (by decide) rfl (fun ls hl => ?_)
          refine x_goto hC 4 dX5_beside_84 (by decide) ?_
          have hl := lv_sub (l' := [(3, .int (iI (i + 1))), (2, .int (mskI (fun t => ¬ t = talk ∧ ¬ mS (29 + 4 * t + 3) = -1 ∧ mS (29 + 4 * t + 0) < mS (29 + 4 * talk + 1) ∧ mS (29 + 4 * talk + 0) < mS (29 + 4 * t + 1)) (i + 1))), (0, .ref (h 0)), (1, .int (iI talk))]) hl [0, 1, 3, 4] rfl
          exact ih_4 (i + 1) (by omega) (by omega) (by omega) H locs ls hP hD hS hl
        · refine x_al hC hl 2 dX5_beside_19 rfl rfl ?_
          refine x_il hC hl 0 dX5_beside_20 rfl rfl ?_
          refine x_ic hC dX5_beside_21 ?_
          refine x_vI (As := [.int (iI i), .int (iI 3)]) hC (k5_of l D cs h mF mS mA mV mT mB i 3 (by first | assumption | omega) (by first | assumption | omega) (by first | assumption | omega)) lk5_34 (q0 := 0) (ci := 5) rfl rfl rfl (sub_all hP hD hS hA) hP hS rfl hl.1 rfl (Nat.le_of_ble_eq_true rfl) ⟨rfl, rfl⟩ ⟨Nat.le_of_ble_eq_true rfl, Nat.le_of_ble_eq_true rfl⟩ ⟨Nat.le_of_ble_eq_true rfl, Nat.le_of_ble_eq_true rfl⟩ dX5_beside_22 (fun H locs hP hD hS hHs => ?_)
          have q_22 := imB (S := mS) (by assumption) (29 + 4 * i + 3) (by omega)
          refine x_ic hC dX5_beside_25 ?_
          refine x_ic_eq hC 63 dX5_beside_26 (by decide) (by omega) (by omega) (fun c_26 => ?_) (fun c_26 => ?_)
          · refine x_ic hC dX5_beside_63 ?_
            refine x_isw hC [(4, .int (iI 0)), (3, .int (iI i)), (2, .int (mskI (fun t => ¬ t = talk ∧ ¬ mS (29 + 4 * t + 3) = -1 ∧ mS (29 + 4 * t + 0) < mS (29 + 4 * talk + 1) ∧ mS (29 + 4 * talk + 0) < mS (29 + 4 * t + 1)) i)), (0, .ref (h 0)), (1, .int (iI talk))] hl dX5_beside_64 (by decide) rfl (fun ls hl => ?_)
            refine x_il hC hl 2 dX5_beside_66 rfl rfl ?_
            refine x_ilw hC hl 0 dX5_beside_67 rfl ?_
            refine x_if_eq hC 78 dX5_beside_69 (by decide) (by omega) (fun c_69_2 => ?_) (fun hz => absurd hz (by decide))
            refine x_ic hC dX5_beside_78 ?_
            refine x_ior hC dX5_beside_79 (mskI (fun t => ¬ t = talk ∧ ¬ mS (29 + 4 * t + 3) = -1 ∧ mS (29 + 4 * t + 0) < mS (29 + 4 * talk + 1) ∧ mS (29 + 4 * talk + 0) < mS (29 + 4 * t + 1)) (i + 1)) (by first | exact mskI_t hi0 (by omega) (by grind) | exact mskI_f hi0 (by grind)) ?_
            refine x_is hC [(2, .int (mskI (fun t => ¬ t = talk ∧ ¬ mS (29 + 4 * t + 3) = -1 ∧ mS (29 + 4 * t + 0) < mS (29 + 4 * talk + 1) ∧ mS (29 + 4 * talk + 0) < mS (29 + 4 * t + 1)) (i + 1))), (4, .int (iI 0)), (3, .int (iI i)), (0, .ref (h 0)), (1, .int (iI talk))] hl dX5_beside_80 rfl (by decide) rfl (fun ls hl => ?_)
            refine x_iinc hC [(3, .int (iI (i + 1))), (2, .int (mskI (fun t => ¬ t = talk ∧ ¬ mS (29 + 4 * t + 3) = -1 ∧ mS (29 + 4 * t + 0) < mS (29 + 4 * talk + 1) ∧ mS (29 + 4 * talk + 0) < mS (29 + 4 * t + 1)) (i + 1))), (4, .int (iI 0)), (0, .ref (h 0)), (1, .int (iI talk))] 2 hl dX5_beside_81 rfl (by decide) rfl (fun ls hl => ?_)
            refine x_goto hC 4 dX5_beside_84 (by decide) ?_
            have hl := lv_sub (l' := [(3, .int (iI (i + 1))), (2, .int (mskI (fun t => ¬ t = talk ∧ ¬ mS (29 + 4 * t + 3) = -1 ∧ mS (29 + 4 * t + 0) < mS (29 + 4 * talk + 1) ∧ mS (29 + 4 * talk + 0) < mS (29 + 4 * t + 1)) (i + 1))), (0, .ref (h 0)), (1, .int (iI talk))]) hl [0, 1, 3, 4] rfl
            exact ih_4 (i + 1) (by omega) (by omega) (by omega) H locs ls hP hD hS hl
          · refine x_al hC hl 2 dX5_beside_29 rfl rfl ?_
            refine x_il hC hl 0 dX5_beside_30 rfl rfl ?_
            refine x_ic hC dX5_beside_31 ?_
            refine x_vI (As := [.int (iI i), .int (iI 0)]) hC (k5_of l D cs h mF mS mA mV mT mB i 0 (by first | assumption | omega) (by first | assumption | omega) (by first | assumption | omega)) lk5_34 (q0 := 0) (ci := 5) rfl rfl rfl (sub_all hP hD hS hA) hP hS rfl hl.1 rfl (Nat.le_of_ble_eq_true rfl) ⟨rfl, rfl⟩ ⟨Nat.le_of_ble_eq_true rfl, Nat.le_of_ble_eq_true rfl⟩ ⟨Nat.le_of_ble_eq_true rfl, Nat.le_of_ble_eq_true rfl⟩ dX5_beside_32 (fun H locs hP hD hS hHs => ?_)
            have q_32 := imB (S := mS) (by assumption) (29 + 4 * i + 0) (by omega)
            refine x_al hC hl 2 dX5_beside_35 rfl rfl ?_
            refine x_il hC hl 3 dX5_beside_36 rfl rfl ?_
            refine x_ic hC dX5_beside_37 ?_
            refine x_vI (As := [.int (iI talk), .int (iI 1)]) hC (k5_of l D cs h mF mS mA mV mT mB talk 1 (by first | assumption | omega) (by first | assumption | omega) (by first | assumption | omega)) lk5_34 (q0 := 0) (ci := 5) rfl rfl rfl (sub_all hP hD hS hA) hP hS rfl hl.1 rfl (Nat.le_of_ble_eq_true rfl) ⟨rfl, rfl⟩ ⟨Nat.le_of_ble_eq_true rfl, Nat.le_of_ble_eq_true rfl⟩ ⟨Nat.le_of_ble_eq_true rfl, Nat.le_of_ble_eq_true rfl⟩ dX5_beside_38 (fun H locs hP hD hS hHs => ?_)
            have q_38 := imB (S := mS) (by assumption) (29 + 4 * talk + 1) (by omega)
            refine x_ic_ge hC 63 dX5_beside_41 (by decide) (by omega) (by omega) (fun c_41 => ?_) (fun c_41 => ?_)
            · refine x_ic hC dX5_beside_63 ?_
              refine x_isw hC [(4, .int (iI 0)), (3, .int (iI i)), (2, .int (mskI (fun t => ¬ t = talk ∧ ¬ mS (29 + 4 * t + 3) = -1 ∧ mS (29 + 4 * t + 0) < mS (29 + 4 * talk + 1) ∧ mS (29 + 4 * talk + 0) < mS (29 + 4 * t + 1)) i)), (0, .ref (h 0)), (1, .int (iI talk))] hl dX5_beside_64 (by decide) rfl (fun ls hl => ?_)
              refine x_il hC hl 2 dX5_beside_66 rfl rfl ?_
              refine x_ilw hC hl 0 dX5_beside_67 rfl ?_
              refine x_if_eq hC 78 dX5_beside_69 (by decide) (by omega) (fun c_69_3 => ?_) (fun hz => absurd hz (by decide))
              refine x_ic hC dX5_beside_78 ?_
              refine x_ior hC dX5_beside_79 (mskI (fun t => ¬ t = talk ∧ ¬ mS (29 + 4 * t + 3) = -1 ∧ mS (29 + 4 * t + 0) < mS (29 + 4 * talk + 1) ∧ mS (29 + 4 * talk + 0) < mS (29 + 4 * t + 1)) (i + 1)) (by first | exact mskI_t hi0 (by omega) (by grind) | exact mskI_f hi0 (by grind)) ?_
              refine x_is hC [(2, .int (mskI (fun t => ¬ t = talk ∧ ¬ mS (29 + 4 * t + 3) = -1 ∧ mS (29 + 4 * t + 0) < mS (29 + 4 * talk + 1) ∧ mS (29 + 4 * talk + 0) < mS (29 + 4 * t + 1)) (i + 1))), (4, .int (iI 0)), (3, .int (iI i)), (0, .ref (h 0)), (1, .int (iI talk))] hl dX5_beside_80 rfl (by decide) rfl (fun ls hl => ?_)
              refine x_iinc hC [(3, .int (iI (i + 1))), (2, .int (mskI (fun t => ¬ t = talk ∧ ¬ mS (29 + 4 * t + 3) = -1 ∧ mS (29 + 4 * t + 0) < mS (29 + 4 * talk + 1) ∧ mS (29 + 4 * talk + 0) < mS (29 + 4 * t + 1)) (i + 1))), (4, .int (iI 0)), (0, .ref (h 0)), (1, .int (iI talk))] 2 hl dX5_beside_81 rfl (by decide) rfl (fun ls hl => ?_)
              refine x_goto hC 4 dX5_beside_84 (by decide) ?_
              have hl := lv_sub (l' := [(3, .int (iI (i + 1))), (2, .int (mskI (fun t => ¬ t = talk ∧ ¬ mS (29 + 4 * t + 3) = -1 ∧ mS (29 + 4 * t + 0) < mS (29 + 4 * talk + 1) ∧ mS (29 + 4 * talk + 0) < mS (29 + 4 * t + 1)) (i + 1))), (0, .ref (h 0)), (1, .int (iI talk))]) hl [0, 1, 3, 4] rfl
              exact ih_4 (i + 1) (by omega) (by omega) (by omega) H locs ls hP hD hS hl
            · refine x_al hC hl 2 dX5_beside_44 rfl rfl ?_
              refine x_il hC hl 3 dX5_beside_45 rfl rfl ?_
              refine x_ic hC dX5_beside_46 ?_
              refine x_vI (As := [.int (iI talk), .int (iI 0)]) hC (k5_of l D cs h mF mS mA mV mT mB talk 0 (by first | assumption | omega) (by first | assumption | omega) (by first | assumption | omega)) lk5_34 (q0 := 0) (ci := 5) rfl rfl rfl (sub_all hP hD hS hA) hP hS rfl hl.1 rfl (Nat.le_of_ble_eq_true rfl) ⟨rfl, rfl⟩ ⟨Nat.le_of_ble_eq_true rfl, Nat.le_of_ble_eq_true rfl⟩ ⟨Nat.le_of_ble_eq_true rfl, Nat.le_of_ble_eq_true rfl⟩ dX5_beside_47 (fun H locs hP hD hS hHs => ?_)
              have q_47 := imB (S := mS) (by assumption) (29 + 4 * talk + 0) (by omega)
              refine x_al hC hl 2 dX5_beside_50 rfl rfl ?_
              refine x_il hC hl 0 dX5_beside_51 rfl rfl ?_
              refine x_ic hC dX5_beside_52 ?_
              refine x_vI (As := [.int (iI i), .int (iI 1)]) hC (k5_of l D cs h mF mS mA mV mT mB i 1 (by first | assumption | omega) (by first | assumption | omega) (by first | assumption | omega)) lk5_34 (q0 := 0) (ci := 5) rfl rfl rfl (sub_all hP hD hS hA) hP hS rfl hl.1 rfl (Nat.le_of_ble_eq_true rfl) ⟨rfl, rfl⟩ ⟨Nat.le_of_ble_eq_true rfl, Nat.le_of_ble_eq_true rfl⟩ ⟨Nat.le_of_ble_eq_true rfl, Nat.le_of_ble_eq_true rfl⟩ dX5_beside_53 (fun H locs hP hD hS hHs => ?_)
              have q_53 := imB (S := mS) (by assumption) (29 + 4 * i + 1) (by omega)
              refine x_ic_ge hC 63 dX5_beside_56 (by decide) (by omega) (by omega) (fun c_56 => ?_) (fun c_56 => ?_)
              · refine x_ic hC dX5_beside_63 ?_
                refine x_isw hC [(4, .int (iI 0)), (3, .int (iI i)), (2, .int (mskI (fun t => ¬ t = talk ∧ ¬ mS (29 + 4 * t + 3) = -1 ∧ mS (29 + 4 * t + 0) < mS (29 + 4 * talk + 1) ∧ mS (29 + 4 * talk + 0) < mS (29 + 4 * t + 1)) i)), (0, .ref (h 0)), (1, .int (iI talk))] hl dX5_beside_64 (by decide) rfl (fun ls hl => ?_)
                refine x_il hC hl 2 dX5_beside_66 rfl rfl ?_
                refine x_ilw hC hl 0 dX5_beside_67 rfl ?_
                refine x_if_eq hC 78 dX5_beside_69 (by decide) (by omega) (fun c_69_4 => ?_) (fun hz => absurd hz (by decide))
                refine x_ic hC dX5_beside_78 ?_
                refine x_ior hC dX5_beside_79 (mskI (fun t => ¬ t = talk ∧ ¬ mS (29 + 4 * t + 3) = -1 ∧ mS (29 + 4 * t + 0) < mS (29 + 4 * talk + 1) ∧ mS (29 + 4 * talk + 0) < mS (29 + 4 * t + 1)) (i + 1)) (by first | exact mskI_t hi0 (by omega) (by grind) | exact mskI_f hi0 (by grind)) ?_
                refine x_is hC [(2, .int (mskI (fun t => ¬ t = talk ∧ ¬ mS (29 + 4 * t + 3) = -1 ∧ mS (29 + 4 * t + 0) < mS (29 + 4 * talk + 1) ∧ mS (29 + 4 * talk + 0) < mS (29 + 4 * t + 1)) (i + 1))), (4, .int (iI 0)), (3, .int (iI i)), (0, .ref (h 0)), (1, .int (iI talk))] hl dX5_beside_80 rfl (by decide) rfl (fun ls hl => ?_)
                refine x_iinc hC [(3, .int (iI (i + 1))), (2, .int (mskI (fun t => ¬ t = talk ∧ ¬ mS (29 + 4 * t + 3) = -1 ∧ mS (29 + 4 * t + 0) < mS (29 + 4 * talk + 1) ∧ mS (29 + 4 * talk + 0) < mS (29 + 4 * t + 1)) (i + 1))), (4, .int (iI 0)), (0, .ref (h 0)), (1, .int (iI talk))] 2 hl dX5_beside_81 rfl (by decide) rfl (fun ls hl => ?_)
                refine x_goto hC 4 dX5_beside_84 (by decide) ?_
                have hl := lv_sub (l' := [(3, .int (iI (i + 1))), (2, .int (mskI (fun t => ¬ t = talk ∧ ¬ mS (29 + 4 * t + 3) = -1 ∧ mS (29 + 4 * t + 0) < mS (29 + 4 * talk + 1) ∧ mS (29 + 4 * talk + 0) < mS (29 + 4 * t + 1)) (i + 1))), (0, .ref (h 0)), (1, .int (iI talk))]) hl [0, 1, 3, 4] rfl
                exact ih_4 (i + 1) (by omega) (by omega) (by omega) H locs ls hP hD hS hl
              · refine x_ic hC dX5_beside_59 ?_
                refine x_goto hC 64 dX5_beside_60 (by decide) ?_
                refine x_isw hC [(4, .int (iI 1)), (3, .int (iI i)), (2, .int (mskI (fun t => ¬ t = talk ∧ ¬ mS (29 + 4 * t + 3) = -1 ∧ mS (29 + 4 * t + 0) < mS (29 + 4 * talk + 1) ∧ mS (29 + 4 * talk + 0) < mS (29 + 4 * t + 1)) i)), (0, .ref (h 0)), (1, .int (iI talk))] hl dX5_beside_64 (by decide) rfl (fun ls hl => ?_)
                refine x_il hC hl 2 dX5_beside_66 rfl rfl ?_
                refine x_ilw hC hl 0 dX5_beside_67 rfl ?_
                refine x_if_eq hC 78 dX5_beside_69 (by decide) (by omega) (fun hz => absurd hz (by decide)) (fun c_69_5 => ?_)
                refine x_ic hC dX5_beside_72 ?_
                refine x_il hC hl 1 dX5_beside_73 rfl rfl ?_
                refine x_ishl hC dX5_beside_74 (iI 1 <<< (iI i &&& 31)) rfl ?_
                refine x_goto hC 79 dX5_beside_75 (by decide) ?_
                refine x_ior hC dX5_beside_79 (mskI (fun t => ¬ t = talk ∧ ¬ mS (29 + 4 * t + 3) = -1 ∧ mS (29 + 4 * t + 0) < mS (29 + 4 * talk + 1) ∧ mS (29 + 4 * talk + 0) < mS (29 + 4 * t + 1)) (i + 1)) (by first | exact mskI_t hi0 (by omega) (by grind) | exact mskI_f hi0 (by grind)) ?_
                refine x_is hC [(2, .int (mskI (fun t => ¬ t = talk ∧ ¬ mS (29 + 4 * t + 3) = -1 ∧ mS (29 + 4 * t + 0) < mS (29 + 4 * talk + 1) ∧ mS (29 + 4 * talk + 0) < mS (29 + 4 * t + 1)) (i + 1))), (4, .int (iI 1)), (3, .int (iI i)), (0, .ref (h 0)), (1, .int (iI talk))] hl dX5_beside_80 rfl (by decide) rfl (fun ls hl => ?_)
                refine x_iinc hC [(3, .int (iI (i + 1))), (2, .int (mskI (fun t => ¬ t = talk ∧ ¬ mS (29 + 4 * t + 3) = -1 ∧ mS (29 + 4 * t + 0) < mS (29 + 4 * talk + 1) ∧ mS (29 + 4 * talk + 0) < mS (29 + 4 * t + 1)) (i + 1))), (4, .int (iI 1)), (0, .ref (h 0)), (1, .int (iI talk))] 2 hl dX5_beside_81 rfl (by decide) rfl (fun ls hl => ?_)
                refine x_goto hC 4 dX5_beside_84 (by decide) ?_
                have hl := lv_sub (l' := [(3, .int (iI (i + 1))), (2, .int (mskI (fun t => ¬ t = talk ∧ ¬ mS (29 + 4 * t + 3) = -1 ∧ mS (29 + 4 * t + 0) < mS (29 + 4 * talk + 1) ∧ mS (29 + 4 * talk + 0) < mS (29 + 4 * t + 1)) (i + 1))), (0, .ref (h 0)), (1, .int (iI talk))]) hl [0, 1, 3, 4] rfl
                exact ih_4 (i + 1) (by omega) (by omega) (by omega) H locs ls hP hD hS hl
  have hl := lv_sub (l' := [(3, .int (iI 0)), (2, .int (mskI (fun t => ¬ t = talk ∧ ¬ mS (29 + 4 * t + 3) = -1 ∧ mS (29 + 4 * t + 0) < mS (29 + 4 * talk + 1) ∧ mS (29 + 4 * talk + 0) < mS (29 + 4 * t + 1)) 0)), (0, .ref (h 0)), (1, .int (iI talk))]) hl [0, 1, 2, 3] rfl
  exact loop_4 (Int.toNat ((mS 1) - 0) + 1) 0 (by omega) (by omega) (by omega) H locs ls hP hD hS hl
abbrev r5_ones : Room := { frames := 0, cells := 0, slots := 0, locals := 0 }
set_option maxHeartbeats 4000000 in
set_option maxRecDepth 100000 in
theorem k5_ones (l : Launch) (D : va_G) (cs : Nat → ClassId) (set : Int32)  : CI l D cs yX5_ones cX5_ones 3 .int r5_ones 0 0 [.int set] (([] : va_W)) (([] : va_W)) (iI (popI set 20)) := by
  refine CI_start (own := RX5) (by decide) rfl rfl (Nat.le_of_ble_eq_true rfl) ?_
  intro p e s m args below meth c Q A ls hC hl hP hD hA hS hend
  have hl : lv_has ls 3 [(0, .int set)] := hl
  obtain ⟨H, hH⟩ : ∃ H : Heap, H = s.heap := ⟨_, rfl⟩
  have hS : va_S A s.heap H [] := by rw [hH]; exact hS
  rw [← hH] at hP
  obtain ⟨locs, hlocs⟩ : ∃ locs : List Loc, locs = [] := ⟨_, rfl⟩
  rw [← hlocs] at hS
  suffices hgo : W p l e r5_ones s m args below meth c H locs 0 0 Q (F0 m 0 ls []) by rw [← hH, ← hlocs]; exact hgo
  clear hH hlocs
  refine x_ic hC dX5_ones_0 ?_
  refine x_is hC [(1, .int (iI 0)), (0, .int set)] hl dX5_ones_1 rfl (by decide) rfl (fun ls hl => ?_)
  refine x_ic hC dX5_ones_2 ?_
  refine x_is hC [(2, .int (iI 0)), (1, .int (iI 0)), (0, .int set)] hl dX5_ones_3 rfl (by decide) rfl (fun ls hl => ?_)
  have loop_4 : ∀ (n : Nat) (i : Int), (hi0 : 0 ≤ i) → (hiN : i ≤ 20) → (20 - i) < (n : Int) → ∀ (H : Heap) (locs : List Loc) (ls : Array Slot), va_P D vwCl (([] : va_W)) H → va_D A (([] : va_W)) → va_S A s.heap H locs → lv_has ls 3 [(2, .int (iI i)), (1, .int (iI (popI set i))), (0, .int set)] → W p l e r5_ones s m args below meth c H locs 0 0 Q (F0 m 4 ls []) := by
    intro n
    induction n with
    | zero =>
      intro i hi0 hiN hnn
      exfalso; omega
    | succ n ih_4 =>
      intro i hi0 hiN hnn H locs ls hP hD hS hl
      refine x_il hC hl 0 dX5_ones_4 rfl rfl ?_
      refine x_bi hC dX5_ones_5 (by decide) ?_
      refine x_ic_ge hC 24 dX5_ones_7 (by decide) (by omega) (by omega) (fun c_7 => ?_) (fun c_7 => ?_)
      · obtain rfl : i = 20 := by omega
        refine x_il hC hl 1 dX5_ones_24 rfl rfl ?_
        exact x_retI (rfl) hend hP hD hS dX5_ones_25
      · refine x_il hC hl 1 dX5_ones_10 rfl rfl ?_
        refine x_il hC hl 2 dX5_ones_11 rfl rfl ?_
        refine x_il hC hl 0 dX5_ones_12 rfl rfl ?_
        refine x_ishr hC dX5_ones_13 (set >>> (iI i &&& 31)) rfl ?_
        refine x_ic hC dX5_ones_14 ?_
        refine x_iand hC dX5_ones_15 (iI (bitI set i)) (bitI_eq set i) ?_
        refine x_iadd hC dX5_ones_16 ?_
        refine x_is hC [(1, .int (iI ((popI set i) + (bitI set i)))), (2, .int (iI i)), (0, .int set)] hl dX5_ones_17 rfl (by decide) rfl (fun ls hl => ?_)
        refine x_iinc hC [(2, .int (iI (i + 1))), (1, .int (iI ((popI set i) + (bitI set i)))), (0, .int set)] 1 hl dX5_ones_18 rfl (by decide) rfl (fun ls hl => ?_)
        refine x_goto hC 4 dX5_ones_21 (by decide) ?_
        have hl : lv_has ls 3 [(2, .int (iI (i + 1))), (1, .int (iI (popI set (i + 1)))), (0, .int set)] := lvE (lv_sub (l' := [(2, .int (iI (i + 1))), (1, .int (iI ((popI set i) + (bitI set i)))), (0, .int set)]) hl [0, 1, 2] rfl) (lcE rfl (lcE (congrArg (fun z => Value.int (iI z)) (by unfold popI; rw [fI_s (by omega)] : (popI set i) + (bitI set i) = popI set (i + 1))) (lcE rfl (rfl))))
        exact ih_4 (i + 1) (by omega) (by omega) (by omega) H locs ls hP hD hS hl
  have hl := lv_sub (l' := [(2, .int (iI 0)), (1, .int (iI (popI set 0))), (0, .int set)]) hl [0, 1, 2] rfl
  exact loop_4 (Int.toNat (20 - 0) + 1) 0 (by omega) (by omega) (by omega) H locs ls hP hD hS hl
abbrev r5_longestFree : Room := { frames := 2, cells := 0, slots := 0, locals := 45 }
set_option maxHeartbeats 4000000 in
set_option maxRecDepth 100000 in
theorem k5_longestFree (l : Launch) (D : va_G) (cs : Nat → ClassId) (h : Nat → Nat) (mF : Int → Int) (mS : Int → Int) (mA : Int → Int) (mV : Int → Int) (mT : Int → Int) (mB : Int → Int) (room : Int) (hI : IM mS) (h1 : 0 ≤ room ∧ room < 8) : CI l D cs yX5_longestFree cX5_longestFree 5 .int r5_longestFree 0 0 [.ref (h 0), .int (iI room)] (wM h cs mF mS mA mV mT mB) (wM h cs mF mS mA mV mT mB) (iI ((mLong mS room 48).1)) := by
  refine CI_start (own := RX5) (by decide) rfl rfl (Nat.le_of_ble_eq_true rfl) ?_
  intro p e s m args below meth c Q A ls hC hl hP hD hA hS hend
  have hl : lv_has ls 5 [(0, .ref (h 0)), (1, .int (iI room))] := hl
  obtain ⟨H, hH⟩ : ∃ H : Heap, H = s.heap := ⟨_, rfl⟩
  have hS : va_S A s.heap H [] := by rw [hH]; exact hS
  rw [← hH] at hP
  obtain ⟨locs, hlocs⟩ : ∃ locs : List Loc, locs = [] := ⟨_, rfl⟩
  rw [← hlocs] at hS
  suffices hgo : W p l e r5_longestFree s m args below meth c H locs 0 0 Q (F0 m 0 ls []) by rw [← hH, ← hlocs]; exact hgo
  clear hH hlocs
  obtain ⟨z0, z1, -⟩ := id hI
  refine x_ic hC dX5_longestFree_0 ?_
  refine x_is hC [(2, .int (iI 0)), (0, .ref (h 0)), (1, .int (iI room))] hl dX5_longestFree_1 rfl (by decide) rfl (fun ls hl => ?_)
  refine x_ic hC dX5_longestFree_2 ?_
  refine x_is hC [(3, .int (iI 0)), (2, .int (iI 0)), (0, .ref (h 0)), (1, .int (iI room))] hl dX5_longestFree_3 rfl (by decide) rfl (fun ls hl => ?_)
  refine x_ic hC dX5_longestFree_4 ?_
  refine x_isw hC [(4, .int (iI 0)), (3, .int (iI 0)), (2, .int (iI 0)), (0, .ref (h 0)), (1, .int (iI room))] hl dX5_longestFree_5 (by decide) rfl (fun ls hl => ?_)
  have loop_7 : ∀ (n : Nat) (i : Int), (hi0 : 0 ≤ i) → (hiN : i ≤ 48) → (48 - i) < (n : Int) → ∀ (H : Heap) (locs : List Loc) (ls : Array Slot), va_P D vwCl (wM h cs mF mS mA mV mT mB) H → va_D A (wM h cs mF mS mA mV mT mB) → va_S A s.heap H locs → lv_has ls 5 [(4, .int (iI i)), (3, .int (iI ((mLong mS room i).2))), (2, .int (iI ((mLong mS room i).1))), (0, .ref (h 0)), (1, .int (iI room))] → W p l e r5_longestFree s m args below meth c H locs 0 0 Q (F0 m 7 ls []) := by
    intro n
    induction n with
    | zero =>
      intro i hi0 hiN hnn
      exfalso; omega
    | succ n ih_7 =>
      intro i hi0 hiN hnn H locs ls hP hD hS hl
      have hx := mLong_rg mS room hi0
      have qt := mTalkAt_rg mS room i (by omega)
      refine x_ilw hC hl 0 dX5_longestFree_7 rfl ?_
      refine x_bi hC dX5_longestFree_9 (by decide) ?_
      refine x_ic_ge hC 51 dX5_longestFree_11 (by decide) (by omega) (by omega) (fun c_11 => ?_) (fun c_11 => ?_)
      · obtain rfl : i = 48 := by omega
        refine x_il hC hl 2 dX5_longestFree_51 rfl rfl ?_
        exact x_retI (rfl) hend hP hD hS dX5_longestFree_52
      · refine x_al hC hl 3 dX5_longestFree_14 rfl rfl ?_
        refine x_il hC hl 4 dX5_longestFree_15 rfl rfl ?_
        refine x_ilw hC hl 0 dX5_longestFree_16 rfl ?_
        refine x_vI (As := [.int (iI room), .int (iI i)]) hC (k5_talkAt l D cs h mF mS mA mV mT mB room i (by first | assumption | omega) (by first | assumption | omega) (by first | assumption | omega)) lk5_143 (q0 := 0) (ci := 5) rfl rfl rfl (sub_all hP hD hS hA) hP hS rfl hl.1 rfl (Nat.le_of_ble_eq_true rfl) ⟨rfl, rfl⟩ ⟨Nat.le_of_ble_eq_true rfl, Nat.le_of_ble_eq_true rfl⟩ ⟨Nat.le_of_ble_eq_true rfl, Nat.le_of_ble_eq_true rfl⟩ dX5_longestFree_18 (fun H locs hP hD hS hHs => ?_)
        refine x_ldc hC (-1000004) tb_836 (by decide) dX5_longestFree_21 ?_
        refine x_ic_ne hC 32 dX5_longestFree_23 (by decide) (by omega) (by omega) (fun c_23 => ?_) (fun c_23 => ?_)
        · refine x_ic hC dX5_longestFree_32 ?_
          refine x_is hC [(3, .int (iI 0)), (4, .int (iI i)), (2, .int (iI ((mLong mS room i).1))), (0, .ref (h 0)), (1, .int (iI room))] hl dX5_longestFree_33 rfl (by decide) rfl (fun ls hl => ?_)
          refine x_il hC hl 0 dX5_longestFree_34 rfl rfl ?_
          refine x_il hC hl 2 dX5_longestFree_35 rfl rfl ?_
          refine x_ic_le hC 43 dX5_longestFree_36 (by decide) (by omega) (by omega) (fun c_36 => ?_) (fun c_36 => ?_)
          · refine x_il hC hl 2 dX5_longestFree_43 rfl rfl ?_
            refine x_is hC [(2, .int (iI ((mLong mS room i).1))), (3, .int (iI 0)), (4, .int (iI i)), (0, .ref (h 0)), (1, .int (iI room))] hl dX5_longestFree_44 rfl (by decide) rfl (fun ls hl => ?_)
            refine x_iinc hC [(4, .int (iI (i + 1))), (2, .int (iI ((mLong mS room i).1))), (3, .int (iI 0)), (0, .ref (h 0)), (1, .int (iI room))] 2 hl dX5_longestFree_45 rfl (by decide) rfl (fun ls hl => ?_)
            refine x_goto hC 7 dX5_longestFree_48 (by decide) ?_
            have hl : lv_has ls 5 [(4, .int (iI (i + 1))), (3, .int (iI ((mLong mS room (i + 1)).2))), (2, .int (iI ((mLong mS room (i + 1)).1))), (0, .ref (h 0)), (1, .int (iI room))] := lvE (lv_sub (l' := [(4, .int (iI (i + 1))), (3, .int (iI 0)), (2, .int (iI ((mLong mS room i).1))), (0, .ref (h 0)), (1, .int (iI room))]) hl [0, 2, 1, 3, 4] rfl) (lcE rfl (lcE (congrArg (fun z => Value.int (iI z)) (by rw [mLong_s _ _ hi0]; unfold mLongS iif; grind : 0 = (mLong mS room (i + 1)).2)) (lcE (congrArg (fun z => Value.int (iI z)) (by rw [mLong_s _ _ hi0]; unfold mLongS iif; grind : (mLong mS room i).1 = (mLong mS room (i + 1)).1)) (lcE rfl (lcE rfl (rfl))))))
            exact ih_7 (i + 1) (by omega) (by omega) (by omega) H locs ls hP hD hS hl
          · refine x_il hC hl 0 dX5_longestFree_39 rfl rfl ?_
            refine x_goto hC 44 dX5_longestFree_40 (by decide) ?_
            refine x_is hC [(2, .int (iI 0)), (3, .int (iI 0)), (4, .int (iI i)), (0, .ref (h 0)), (1, .int (iI room))] hl dX5_longestFree_44 rfl (by decide) rfl (fun ls hl => ?_)
            refine x_iinc hC [(4, .int (iI (i + 1))), (2, .int (iI 0)), (3, .int (iI 0)), (0, .ref (h 0)), (1, .int (iI room))] 2 hl dX5_longestFree_45 rfl (by decide) rfl (fun ls hl => ?_)
            refine x_goto hC 7 dX5_longestFree_48 (by decide) ?_
            have hl : lv_has ls 5 [(4, .int (iI (i + 1))), (3, .int (iI ((mLong mS room (i + 1)).2))), (2, .int (iI ((mLong mS room (i + 1)).1))), (0, .ref (h 0)), (1, .int (iI room))] := lvE (lv_sub (l' := [(4, .int (iI (i + 1))), (3, .int (iI 0)), (2, .int (iI 0)), (0, .ref (h 0)), (1, .int (iI room))]) hl [0, 2, 1, 3, 4] rfl) (lcE rfl (lcE (congrArg (fun z => Value.int (iI z)) (by rw [mLong_s _ _ hi0]; unfold mLongS iif; grind : 0 = (mLong mS room (i + 1)).2)) (lcE (congrArg (fun z => Value.int (iI z)) (by rw [mLong_s _ _ hi0]; unfold mLongS iif; grind : 0 = (mLong mS room (i + 1)).1)) (lcE rfl (lcE rfl (rfl))))))
            exact ih_7 (i + 1) (by omega) (by omega) (by omega) H locs ls hP hD hS hl
        · refine x_il hC hl 1 dX5_longestFree_26 rfl rfl ?_
          refine x_ic hC dX5_longestFree_27 ?_
          refine x_iadd hC dX5_longestFree_28 ?_
          refine x_goto hC 33 dX5_longestFree_29 (by decide) ?_
          refine x_is hC [(3, .int (iI (((mLong mS room i).2) + 1))), (4, .int (iI i)), (2, .int (iI ((mLong mS room i).1))), (0, .ref (h 0)), (1, .int (iI room))] hl dX5_longestFree_33 rfl (by decide) rfl (fun ls hl => ?_)
          refine x_il hC hl 0 dX5_longestFree_34 rfl rfl ?_
          refine x_il hC hl 2 dX5_longestFree_35 rfl rfl ?_
          refine x_ic_le hC 43 dX5_longestFree_36 (by decide) (by omega) (by omega) (fun c_36_2 => ?_) (fun c_36_2 => ?_)
          · refine x_il hC hl 2 dX5_longestFree_43 rfl rfl ?_
            refine x_is hC [(2, .int (iI ((mLong mS room i).1))), (3, .int (iI (((mLong mS room i).2) + 1))), (4, .int (iI i)), (0, .ref (h 0)), (1, .int (iI room))] hl dX5_longestFree_44 rfl (by decide) rfl (fun ls hl => ?_)
            refine x_iinc hC [(4, .int (iI (i + 1))), (2, .int (iI ((mLong mS room i).1))), (3, .int (iI (((mLong mS room i).2) + 1))), (0, .ref (h 0)), (1, .int (iI room))] 2 hl dX5_longestFree_45 rfl (by decide) rfl (fun ls hl => ?_)
            refine x_goto hC 7 dX5_longestFree_48 (by decide) ?_
            have hl : lv_has ls 5 [(4, .int (iI (i + 1))), (3, .int (iI ((mLong mS room (i + 1)).2))), (2, .int (iI ((mLong mS room (i + 1)).1))), (0, .ref (h 0)), (1, .int (iI room))] := lvE (lv_sub (l' := [(4, .int (iI (i + 1))), (3, .int (iI (((mLong mS room i).2) + 1))), (2, .int (iI ((mLong mS room i).1))), (0, .ref (h 0)), (1, .int (iI room))]) hl [0, 2, 1, 3, 4] rfl) (lcE rfl (lcE (congrArg (fun z => Value.int (iI z)) (by rw [mLong_s _ _ hi0]; unfold mLongS iif; grind : ((mLong mS room i).2) + 1 = (mLong mS room (i + 1)).2)) (lcE (congrArg (fun z => Value.int (iI z)) (by rw [mLong_s _ _ hi0]; unfold mLongS iif; grind : (mLong mS room i).1 = (mLong mS room (i + 1)).1)) (lcE rfl (lcE rfl (rfl))))))
            exact ih_7 (i + 1) (by omega) (by omega) (by omega) H locs ls hP hD hS hl
          · refine x_il hC hl 0 dX5_longestFree_39 rfl rfl ?_
            refine x_goto hC 44 dX5_longestFree_40 (by decide) ?_
            refine x_is hC [(2, .int (iI (((mLong mS room i).2) + 1))), (3, .int (iI (((mLong mS room i).2) + 1))), (4, .int (iI i)), (0, .ref (h 0)), (1, .int (iI room))] hl dX5_longestFree_44 rfl (by decide) rfl (fun ls hl => ?_)
            refine x_iinc hC [(4, .int (iI (i + 1))), (2, .int (iI (((mLong mS room i).2) + 1))), (3, .int (iI (((mLong mS room i).2) + 1))), (0, .ref (h 0)), (1, .int (iI room))] 2 hl dX5_longestFree_45 rfl (by decide) rfl (fun ls hl => ?_)
            refine x_goto hC 7 dX5_longestFree_48 (by decide) ?_
            have hl : lv_has ls 5 [(4, .int (iI (i + 1))), (3, .int (iI ((mLong mS room (i + 1)).2))), (2, .int (iI ((mLong mS room (i + 1)).1))), (0, .ref (h 0)), (1, .int (iI room))] := lvE (lv_sub (l' := [(4, .int (iI (i + 1))), (3, .int (iI (((mLong mS room i).2) + 1))), (2, .int (iI (((mLong mS room i).2) + 1))), (0, .ref (h 0)), (1, .int (iI room))]) hl [0, 2, 1, 3, 4] rfl) (lcE rfl (lcE (congrArg (fun z => Value.int (iI z)) (by rw [mLong_s _ _ hi0]; unfold mLongS iif; grind : ((mLong mS room i).2) + 1 = (mLong mS room (i + 1)).2)) (lcE (congrArg (fun z => Value.int (iI z)) (by rw [mLong_s _ _ hi0]; unfold mLongS iif; grind : ((mLong mS room i).2) + 1 = (mLong mS room (i + 1)).1)) (lcE rfl (lcE rfl (rfl))))))
            exact ih_7 (i + 1) (by omega) (by omega) (by omega) H locs ls hP hD hS hl
  have hl := lv_sub (l' := [(4, .int (iI 0)), (3, .int (iI ((mLong mS room 0).2))), (2, .int (iI ((mLong mS room 0).1))), (0, .ref (h 0)), (1, .int (iI room))]) hl [0, 1, 2, 3, 4] rfl
  exact loop_7 (Int.toNat (48 - 0) + 1) 0 (by omega) (by omega) (by omega) H locs ls hP hD hS hl
abbrev r5_talksAt : Room := { frames := 2, cells := 0, slots := 0, locals := 45 }
set_option maxHeartbeats 4000000 in
set_option maxRecDepth 100000 in
theorem k5_talksAt (l : Launch) (D : va_G) (cs : Nat → ClassId) (h : Nat → Nat) (mF : Int → Int) (mS : Int → Int) (mA : Int → Int) (mV : Int → Int) (mT : Int → Int) (mB : Int → Int) (hour : Int) (hI : IM mS) (h1 : 0 ≤ hour ∧ hour < 48) : CI l D cs yX5_talksAt cX5_talksAt 4 .int r5_talksAt 0 0 [.ref (h 0), .int (iI hour)] (wM h cs mF mS mA mV mT mB) (wM h cs mF mS mA mV mT mB) (iI (mTalksAt mS hour 8)) := by
  refine CI_start (own := RX5) (by decide) rfl rfl (Nat.le_of_ble_eq_true rfl) ?_
  intro p e s m args below meth c Q A ls hC hl hP hD hA hS hend
  have hl : lv_has ls 4 [(0, .ref (h 0)), (1, .int (iI hour))] := hl
  obtain ⟨H, hH⟩ : ∃ H : Heap, H = s.heap := ⟨_, rfl⟩
  have hS : va_S A s.heap H [] := by rw [hH]; exact hS
  rw [← hH] at hP
  obtain ⟨locs, hlocs⟩ : ∃ locs : List Loc, locs = [] := ⟨_, rfl⟩
  rw [← hlocs] at hS
  suffices hgo : W p l e r5_talksAt s m args below meth c H locs 0 0 Q (F0 m 0 ls []) by rw [← hH, ← hlocs]; exact hgo
  clear hH hlocs
  obtain ⟨z0, z1, -⟩ := id hI
  refine x_ic hC dX5_talksAt_0 ?_
  refine x_is hC [(2, .int (iI 0)), (0, .ref (h 0)), (1, .int (iI hour))] hl dX5_talksAt_1 rfl (by decide) rfl (fun ls hl => ?_)
  refine x_ic hC dX5_talksAt_2 ?_
  refine x_is hC [(3, .int (iI 0)), (2, .int (iI 0)), (0, .ref (h 0)), (1, .int (iI hour))] hl dX5_talksAt_3 rfl (by decide) rfl (fun ls hl => ?_)
  have loop_4 : ∀ (n : Nat) (i : Int), (hi0 : 0 ≤ i) → (hiN : i ≤ 8) → (8 - i) < (n : Int) → ∀ (H : Heap) (locs : List Loc) (ls : Array Slot), va_P D vwCl (wM h cs mF mS mA mV mT mB) H → va_D A (wM h cs mF mS mA mV mT mB) → va_S A s.heap H locs → lv_has ls 4 [(3, .int (iI i)), (2, .int (iI (mTalksAt mS hour i))), (0, .ref (h 0)), (1, .int (iI hour))] → W p l e r5_talksAt s m args below meth c H locs 0 0 Q (F0 m 4 ls []) := by
    intro n
    induction n with
    | zero =>
      intro i hi0 hiN hnn
      exfalso; omega
    | succ n ih_4 =>
      intro i hi0 hiN hnn H locs ls hP hD hS hl
      have qt := mTalkAt_rg mS i hour (by omega)
      refine x_il hC hl 0 dX5_talksAt_4 rfl rfl ?_
      refine x_bi hC dX5_talksAt_5 (by decide) ?_
      refine x_ic_ge hC 35 dX5_talksAt_7 (by decide) (by omega) (by omega) (fun c_7 => ?_) (fun c_7 => ?_)
      · obtain rfl : i = 8 := by omega
        refine x_il hC hl 1 dX5_talksAt_35 rfl rfl ?_
        exact x_retI (rfl) hend hP hD hS dX5_talksAt_36
      · refine x_il hC hl 1 dX5_talksAt_10 rfl rfl ?_
        refine x_al hC hl 2 dX5_talksAt_11 rfl rfl ?_
        refine x_il hC hl 0 dX5_talksAt_12 rfl rfl ?_
        refine x_il hC hl 3 dX5_talksAt_13 rfl rfl ?_
        refine x_vI (As := [.int (iI i), .int (iI hour)]) hC (k5_talkAt l D cs h mF mS mA mV mT mB i hour (by first | assumption | omega) (by first | assumption | omega) (by first | assumption | omega)) lk5_143 (q0 := 0) (ci := 5) rfl rfl rfl (sub_all hP hD hS hA) hP hS rfl hl.1 rfl (Nat.le_of_ble_eq_true rfl) ⟨rfl, rfl⟩ ⟨Nat.le_of_ble_eq_true rfl, Nat.le_of_ble_eq_true rfl⟩ ⟨Nat.le_of_ble_eq_true rfl, Nat.le_of_ble_eq_true rfl⟩ dX5_talksAt_14 (fun H locs hP hD hS hHs => ?_)
        refine x_ldc hC (-1000004) tb_836 (by decide) dX5_talksAt_17 ?_
        refine x_ic_ne hC 26 dX5_talksAt_19 (by decide) (by omega) (by omega) (fun c_19 => ?_) (fun c_19 => ?_)
        · refine x_ic hC dX5_talksAt_26 ?_
          refine x_iadd hC dX5_talksAt_27 ?_
          refine x_is hC [(2, .int (iI ((mTalksAt mS hour i) + 1))), (3, .int (iI i)), (0, .ref (h 0)), (1, .int (iI hour))] hl dX5_talksAt_28 rfl (by decide) rfl (fun ls hl => ?_)
          refine x_iinc hC [(3, .int (iI (i + 1))), (2, .int (iI ((mTalksAt mS hour i) + 1))), (0, .ref (h 0)), (1, .int (iI hour))] 1 hl dX5_talksAt_29 rfl (by decide) rfl (fun ls hl => ?_)
          refine x_goto hC 4 dX5_talksAt_32 (by decide) ?_
          have hl : lv_has ls 4 [(3, .int (iI (i + 1))), (2, .int (iI (mTalksAt mS hour (i + 1)))), (0, .ref (h 0)), (1, .int (iI hour))] := lvE (lv_sub (l' := [(3, .int (iI (i + 1))), (2, .int (iI ((mTalksAt mS hour i) + 1))), (0, .ref (h 0)), (1, .int (iI hour))]) hl [0, 1, 2, 3] rfl) (lcE rfl (lcE (congrArg (fun z => Value.int (iI z)) (by unfold mTalksAt; rw [fI_s (by omega)]; unfold mTalksAtS; first | exact (iif_t (by omega)).symm | exact (iif_f (by omega)).symm : (mTalksAt mS hour i) + 1 = mTalksAt mS hour (i + 1))) (lcE rfl (lcE rfl (rfl)))))
          exact ih_4 (i + 1) (by omega) (by omega) (by omega) H locs ls hP hD hS hl
        · refine x_ic hC dX5_talksAt_22 ?_
          refine x_goto hC 27 dX5_talksAt_23 (by decide) ?_
          refine x_iadd hC dX5_talksAt_27 ?_
          refine x_is hC [(2, .int (iI ((mTalksAt mS hour i) + 0))), (3, .int (iI i)), (0, .ref (h 0)), (1, .int (iI hour))] hl dX5_talksAt_28 rfl (by decide) rfl (fun ls hl => ?_)
          refine x_iinc hC [(3, .int (iI (i + 1))), (2, .int (iI ((mTalksAt mS hour i) + 0))), (0, .ref (h 0)), (1, .int (iI hour))] 1 hl dX5_talksAt_29 rfl (by decide) rfl (fun ls hl => ?_)
          refine x_goto hC 4 dX5_talksAt_32 (by decide) ?_
          have hl : lv_has ls 4 [(3, .int (iI (i + 1))), (2, .int (iI (mTalksAt mS hour (i + 1)))), (0, .ref (h 0)), (1, .int (iI hour))] := lvE (lv_sub (l' := [(3, .int (iI (i + 1))), (2, .int (iI ((mTalksAt mS hour i) + 0))), (0, .ref (h 0)), (1, .int (iI hour))]) hl [0, 1, 2, 3] rfl) (lcE rfl (lcE (congrArg (fun z => Value.int (iI z)) (by unfold mTalksAt; rw [fI_s (by omega)]; unfold mTalksAtS; first | exact (iif_t (by omega)).symm | exact (iif_f (by omega)).symm : (mTalksAt mS hour i) + 0 = mTalksAt mS hour (i + 1))) (lcE rfl (lcE rfl (rfl)))))
          exact ih_4 (i + 1) (by omega) (by omega) (by omega) H locs ls hP hD hS hl
  have hl := lv_sub (l' := [(3, .int (iI 0)), (2, .int (iI (mTalksAt mS hour 0))), (0, .ref (h 0)), (1, .int (iI hour))]) hl [0, 1, 2, 3] rfl
  exact loop_4 (Int.toNat (8 - 0) + 1) 0 (by omega) (by omega) (by omega) H locs ls hP hD hS hl
abbrev r5_freeAt : Room := { frames := 2, cells := 0, slots := 0, locals := 45 }
set_option maxHeartbeats 4000000 in
set_option maxRecDepth 100000 in
theorem k5_freeAt (l : Launch) (D : va_G) (cs : Nat → ClassId) (h : Nat → Nat) (mF : Int → Int) (mS : Int → Int) (mA : Int → Int) (mV : Int → Int) (mT : Int → Int) (mB : Int → Int) (hour : Int) (hI : IM mS) (h1 : 0 ≤ hour ∧ hour < 48) : CI l D cs yX5_freeAt cX5_freeAt 4 .int r5_freeAt 0 0 [.ref (h 0), .int (iI hour)] (wM h cs mF mS mA mV mT mB) (wM h cs mF mS mA mV mT mB) (mskI (fun t => mS (5 + 3 * t + 2) = 1 ∧ mTalkAt mS t hour = -1000004) (8)) := by
  refine CI_start (own := RX5) (by decide) rfl rfl (Nat.le_of_ble_eq_true rfl) ?_
  intro p e s m args below meth c Q A ls hC hl hP hD hA hS hend
  have hl : lv_has ls 4 [(0, .ref (h 0)), (1, .int (iI hour))] := hl
  obtain ⟨H, hH⟩ : ∃ H : Heap, H = s.heap := ⟨_, rfl⟩
  have hS : va_S A s.heap H [] := by rw [hH]; exact hS
  rw [← hH] at hP
  obtain ⟨locs, hlocs⟩ : ∃ locs : List Loc, locs = [] := ⟨_, rfl⟩
  rw [← hlocs] at hS
  suffices hgo : W p l e r5_freeAt s m args below meth c H locs 0 0 Q (F0 m 0 ls []) by rw [← hH, ← hlocs]; exact hgo
  clear hH hlocs
  obtain ⟨z0, z1, -⟩ := id hI
  refine x_ic hC dX5_freeAt_0 ?_
  refine x_is hC [(2, .int (iI 0)), (0, .ref (h 0)), (1, .int (iI hour))] hl dX5_freeAt_1 rfl (by decide) rfl (fun ls hl => ?_)
  refine x_ic hC dX5_freeAt_2 ?_
  refine x_is hC [(3, .int (iI 0)), (2, .int (iI 0)), (0, .ref (h 0)), (1, .int (iI hour))] hl dX5_freeAt_3 rfl (by decide) rfl (fun ls hl => ?_)
  have loop_4 : ∀ (n : Nat) (i : Int), (hi0 : 0 ≤ i) → (hiN : i ≤ 8) → (8 - i) < (n : Int) → ∀ (H : Heap) (locs : List Loc) (ls : Array Slot), va_P D vwCl (wM h cs mF mS mA mV mT mB) H → va_D A (wM h cs mF mS mA mV mT mB) → va_S A s.heap H locs → lv_has ls 4 [(3, .int (iI i)), (2, .int (mskI (fun t => mS (5 + 3 * t + 2) = 1 ∧ mTalkAt mS t hour = -1000004) i)), (0, .ref (h 0)), (1, .int (iI hour))] → W p l e r5_freeAt s m args below meth c H locs 0 0 Q (F0 m 4 ls []) := by
    intro n
    induction n with
    | zero =>
      intro i hi0 hiN hnn
      exfalso; omega
    | succ n ih_4 =>
      intro i hi0 hiN hnn H locs ls hP hD hS hl
      refine x_il hC hl 0 dX5_freeAt_4 rfl rfl ?_
      refine x_bi hC dX5_freeAt_5 (by decide) ?_
      refine x_ic_ge hC 45 dX5_freeAt_7 (by decide) (by omega) (by omega) (fun c_7 => ?_) (fun c_7 => ?_)
      · obtain rfl : i = 8 := by omega
        refine x_il hC hl 1 dX5_freeAt_45 rfl rfl ?_
        exact x_retI (rfl) hend hP hD hS dX5_freeAt_46
      · refine x_il hC hl 1 dX5_freeAt_10 rfl rfl ?_
        refine x_al hC hl 2 dX5_freeAt_11 rfl rfl ?_
        refine x_il hC hl 0 dX5_freeAt_12 rfl rfl ?_
        refine x_vI (As := [.int (iI i)]) hC (k5_isOpen l D cs h mF mS mA mV mT mB i (by first | assumption | omega) (by first | assumption | omega)) lk5_56 (q0 := 0) (ci := 5) rfl rfl rfl (sub_all hP hD hS hA) hP hS rfl hl.1 rfl (Nat.le_of_ble_eq_true rfl) ⟨rfl, rfl⟩ ⟨Nat.le_of_ble_eq_true rfl, Nat.le_of_ble_eq_true rfl⟩ ⟨Nat.le_of_ble_eq_true rfl, Nat.le_of_ble_eq_true rfl⟩ dX5_freeAt_13 (fun H locs hP hD hS hHs => ?_)
        refine x_if_eq_b hC 36 dX5_freeAt_16 (by decide) (fun c_16 => ?_) (fun c_16 => ?_)
        · refine x_ic hC dX5_freeAt_36 ?_
          refine x_ior hC dX5_freeAt_37 (mskI (fun t => mS (5 + 3 * t + 2) = 1 ∧ mTalkAt mS t hour = -1000004) (i + 1)) (by first | exact mskI_t hi0 (by omega) (by grind) | exact mskI_f hi0 (by grind)) ?_
          refine x_is hC [(2, .int (mskI (fun t => mS (5 + 3 * t + 2) = 1 ∧ mTalkAt mS t hour = -1000004) (i + 1))), (3, .int (iI i)), (0, .ref (h 0)), (1, .int (iI hour))] hl dX5_freeAt_38 rfl (by decide) rfl (fun ls hl => ?_)
          refine x_iinc hC [(3, .int (iI (i + 1))), (2, .int (mskI (fun t => mS (5 + 3 * t + 2) = 1 ∧ mTalkAt mS t hour = -1000004) (i + 1))), (0, .ref (h 0)), (1, .int (iI hour))] 1 hl dX5_freeAt_39 rfl (by decide) rfl (fun ls hl => ?_)
          refine x_goto hC 4 dX5_freeAt_42 (by decide) ?_
          have hl := lv_sub (l' := [(3, .int (iI (i + 1))), (2, .int (mskI (fun t => mS (5 + 3 * t + 2) = 1 ∧ mTalkAt mS t hour = -1000004) (i + 1))), (0, .ref (h 0)), (1, .int (iI hour))]) hl [0, 1, 2, 3] rfl
          exact ih_4 (i + 1) (by omega) (by omega) (by omega) H locs ls hP hD hS hl
        · refine x_al hC hl 2 dX5_freeAt_19 rfl rfl ?_
          refine x_il hC hl 0 dX5_freeAt_20 rfl rfl ?_
          refine x_il hC hl 3 dX5_freeAt_21 rfl rfl ?_
          refine x_vI (As := [.int (iI i), .int (iI hour)]) hC (k5_talkAt l D cs h mF mS mA mV mT mB i hour (by first | assumption | omega) (by first | assumption | omega) (by first | assumption | omega)) lk5_143 (q0 := 0) (ci := 5) rfl rfl rfl (sub_all hP hD hS hA) hP hS rfl hl.1 rfl (Nat.le_of_ble_eq_true rfl) ⟨rfl, rfl⟩ ⟨Nat.le_of_ble_eq_true rfl, Nat.le_of_ble_eq_true rfl⟩ ⟨Nat.le_of_ble_eq_true rfl, Nat.le_of_ble_eq_true rfl⟩ dX5_freeAt_22 (fun H locs hP hD hS hHs => ?_)
          have qt := mTalkAt_rg mS i hour (by omega)
          refine x_ldc hC (-1000004) tb_836 (by decide) dX5_freeAt_25 ?_
          refine x_ic_ne hC 36 dX5_freeAt_27 (by decide) (by omega) (by omega) (fun c_27 => ?_) (fun c_27 => ?_)
          · refine x_ic hC dX5_freeAt_36 ?_
            refine x_ior hC dX5_freeAt_37 (mskI (fun t => mS (5 + 3 * t + 2) = 1 ∧ mTalkAt mS t hour = -1000004) (i + 1)) (by first | exact mskI_t hi0 (by omega) (by grind) | exact mskI_f hi0 (by grind)) ?_
            refine x_is hC [(2, .int (mskI (fun t => mS (5 + 3 * t + 2) = 1 ∧ mTalkAt mS t hour = -1000004) (i + 1))), (3, .int (iI i)), (0, .ref (h 0)), (1, .int (iI hour))] hl dX5_freeAt_38 rfl (by decide) rfl (fun ls hl => ?_)
            refine x_iinc hC [(3, .int (iI (i + 1))), (2, .int (mskI (fun t => mS (5 + 3 * t + 2) = 1 ∧ mTalkAt mS t hour = -1000004) (i + 1))), (0, .ref (h 0)), (1, .int (iI hour))] 1 hl dX5_freeAt_39 rfl (by decide) rfl (fun ls hl => ?_)
            refine x_goto hC 4 dX5_freeAt_42 (by decide) ?_
            have hl := lv_sub (l' := [(3, .int (iI (i + 1))), (2, .int (mskI (fun t => mS (5 + 3 * t + 2) = 1 ∧ mTalkAt mS t hour = -1000004) (i + 1))), (0, .ref (h 0)), (1, .int (iI hour))]) hl [0, 1, 2, 3] rfl
            exact ih_4 (i + 1) (by omega) (by omega) (by omega) H locs ls hP hD hS hl
          · refine x_ic hC dX5_freeAt_30 ?_
            refine x_il hC hl 0 dX5_freeAt_31 rfl rfl ?_
            refine x_ishl hC dX5_freeAt_32 (iI 1 <<< (iI i &&& 31)) rfl ?_
            refine x_goto hC 37 dX5_freeAt_33 (by decide) ?_
            refine x_ior hC dX5_freeAt_37 (mskI (fun t => mS (5 + 3 * t + 2) = 1 ∧ mTalkAt mS t hour = -1000004) (i + 1)) (by first | exact mskI_t hi0 (by omega) (by grind) | exact mskI_f hi0 (by grind)) ?_
            refine x_is hC [(2, .int (mskI (fun t => mS (5 + 3 * t + 2) = 1 ∧ mTalkAt mS t hour = -1000004) (i + 1))), (3, .int (iI i)), (0, .ref (h 0)), (1, .int (iI hour))] hl dX5_freeAt_38 rfl (by decide) rfl (fun ls hl => ?_)
            refine x_iinc hC [(3, .int (iI (i + 1))), (2, .int (mskI (fun t => mS (5 + 3 * t + 2) = 1 ∧ mTalkAt mS t hour = -1000004) (i + 1))), (0, .ref (h 0)), (1, .int (iI hour))] 1 hl dX5_freeAt_39 rfl (by decide) rfl (fun ls hl => ?_)
            refine x_goto hC 4 dX5_freeAt_42 (by decide) ?_
            have hl := lv_sub (l' := [(3, .int (iI (i + 1))), (2, .int (mskI (fun t => mS (5 + 3 * t + 2) = 1 ∧ mTalkAt mS t hour = -1000004) (i + 1))), (0, .ref (h 0)), (1, .int (iI hour))]) hl [0, 1, 2, 3] rfl
            exact ih_4 (i + 1) (by omega) (by omega) (by omega) H locs ls hP hD hS hl
  have hl := lv_sub (l' := [(3, .int (iI 0)), (2, .int (mskI (fun t => mS (5 + 3 * t + 2) = 1 ∧ mTalkAt mS t hour = -1000004) 0)), (0, .ref (h 0)), (1, .int (iI hour))]) hl [0, 1, 2, 3] rfl
  exact loop_4 (Int.toNat (8 - 0) + 1) 0 (by omega) (by omega) (by omega) H locs ls hP hD hS hl
abbrev r5_talks : Room := { frames := 1, cells := 0, slots := 0, locals := 22 }
set_option maxHeartbeats 4000000 in
set_option maxRecDepth 100000 in
theorem k5_talks (l : Launch) (D : va_G) (cs : Nat → ClassId) (h : Nat → Nat) (mF : Int → Int) (mS : Int → Int) (mA : Int → Int) (mV : Int → Int) (mT : Int → Int) (mB : Int → Int) (hI : IM mS) : CI l D cs yX5_talks cX5_talks 3 .int r5_talks 0 0 [.ref (h 0)] (wM h cs mF mS mA mV mT mB) (wM h cs mF mS mA mV mT mB) (iI (mTalks mS (mS 1))) := by
  refine CI_start (own := RX5) (by decide) rfl rfl (Nat.le_of_ble_eq_true rfl) ?_
  intro p e s m args below meth c Q A ls hC hl hP hD hA hS hend
  have hl : lv_has ls 3 [(0, .ref (h 0))] := hl
  obtain ⟨H, hH⟩ : ∃ H : Heap, H = s.heap := ⟨_, rfl⟩
  have hS : va_S A s.heap H [] := by rw [hH]; exact hS
  rw [← hH] at hP
  obtain ⟨locs, hlocs⟩ : ∃ locs : List Loc, locs = [] := ⟨_, rfl⟩
  rw [← hlocs] at hS
  suffices hgo : W p l e r5_talks s m args below meth c H locs 0 0 Q (F0 m 0 ls []) by rw [← hH, ← hlocs]; exact hgo
  clear hH hlocs
  obtain ⟨z0, z1, -⟩ := id hI
  refine x_ic hC dX5_talks_0 ?_
  refine x_is hC [(1, .int (iI 0)), (0, .ref (h 0))] hl dX5_talks_1 rfl (by decide) rfl (fun ls hl => ?_)
  refine x_ic hC dX5_talks_2 ?_
  refine x_is hC [(2, .int (iI 0)), (1, .int (iI 0)), (0, .ref (h 0))] hl dX5_talks_3 rfl (by decide) rfl (fun ls hl => ?_)
  have loop_4 : ∀ (n : Nat) (i : Int), (hi0 : 0 ≤ i) → (hiN : i ≤ mS 1) → ((mS 1) - i) < (n : Int) → ∀ (H : Heap) (locs : List Loc) (ls : Array Slot), va_P D vwCl (wM h cs mF mS mA mV mT mB) H → va_D A (wM h cs mF mS mA mV mT mB) → va_S A s.heap H locs → lv_has ls 3 [(2, .int (iI i)), (1, .int (iI (mTalks mS i))), (0, .ref (h 0))] → W p l e r5_talks s m args below meth c H locs 0 0 Q (F0 m 4 ls []) := by
    intro n
    induction n with
    | zero =>
      intro i hi0 hiN hnn
      exfalso; omega
    | succ n ih_4 =>
      intro i hi0 hiN hnn H locs ls hP hD hS hl
      refine x_il hC hl 0 dX5_talks_4 rfl rfl ?_
      refine x_al hC hl 2 dX5_talks_5 rfl rfl ?_
      refine x_get5 (v := .ref (h 1)) hC hP 0 rfl 1 (by decide) tb_620 rfl rfl dX5_talks_6 ?_
      refine x_ic hC dX5_talks_9 ?_
      refine x_iald hC hP 1 rfl (by omega) (by decide) dX5_talks_10 ?_
      refine x_ic_ge hC 38 dX5_talks_11 (by decide) (by omega) (by omega) (fun c_11 => ?_) (fun c_11 => ?_)
      · obtain rfl : i = mS 1 := by omega
        refine x_il hC hl 1 dX5_talks_38 rfl rfl ?_
        exact x_retI (rfl) hend hP hD hS dX5_talks_39
      · refine x_il hC hl 1 dX5_talks_14 rfl rfl ?_
        refine x_al hC hl 2 dX5_talks_15 rfl rfl ?_
        refine x_il hC hl 0 dX5_talks_16 rfl rfl ?_
        refine x_ic hC dX5_talks_17 ?_
        refine x_vI (As := [.int (iI i), .int (iI 3)]) hC (k5_of l D cs h mF mS mA mV mT mB i 3 (by first | assumption | omega) (by first | assumption | omega) (by first | assumption | omega)) lk5_34 (q0 := 0) (ci := 5) rfl rfl rfl (sub_all hP hD hS hA) hP hS rfl hl.1 rfl (Nat.le_of_ble_eq_true rfl) ⟨rfl, rfl⟩ ⟨Nat.le_of_ble_eq_true rfl, Nat.le_of_ble_eq_true rfl⟩ ⟨Nat.le_of_ble_eq_true rfl, Nat.le_of_ble_eq_true rfl⟩ dX5_talks_18 (fun H locs hP hD hS hHs => ?_)
        have q_18 := imB (S := mS) (by assumption) (29 + 4 * i + 3) (by omega)
        refine x_ic hC dX5_talks_21 ?_
        refine x_ic_ne hC 29 dX5_talks_22 (by decide) (by omega) (by omega) (fun c_22 => ?_) (fun c_22 => ?_)
        · refine x_ic hC dX5_talks_29 ?_
          refine x_iadd hC dX5_talks_30 ?_
          refine x_is hC [(1, .int (iI ((mTalks mS i) + 1))), (2, .int (iI i)), (0, .ref (h 0))] hl dX5_talks_31 rfl (by decide) rfl (fun ls hl => ?_)
          refine x_iinc hC [(2, .int (iI (i + 1))), (1, .int (iI ((mTalks mS i) + 1))), (0, .ref (h 0))] 1 hl dX5_talks_32 rfl (by decide) rfl (fun ls hl => ?_)
          refine x_goto hC 4 dX5_talks_35 (by decide) ?_
          have hl : lv_has ls 3 [(2, .int (iI (i + 1))), (1, .int (iI (mTalks mS (i + 1)))), (0, .ref (h 0))] := lvE (lv_sub (l' := [(2, .int (iI (i + 1))), (1, .int (iI ((mTalks mS i) + 1))), (0, .ref (h 0))]) hl [0, 1, 2] rfl) (lcE rfl (lcE (congrArg (fun z => Value.int (iI z)) (by unfold mTalks; rw [fI_s (by omega)]; unfold mTalksS; first | exact (iif_t (by omega)).symm | exact (iif_f (by omega)).symm : (mTalks mS i) + 1 = mTalks mS (i + 1))) (lcE rfl (rfl))))
          exact ih_4 (i + 1) (by omega) (by omega) (by omega) H locs ls hP hD hS hl
        · refine x_ic hC dX5_talks_25 ?_
          refine x_goto hC 30 dX5_talks_26 (by decide) ?_
          refine x_iadd hC dX5_talks_30 ?_
          refine x_is hC [(1, .int (iI ((mTalks mS i) + 0))), (2, .int (iI i)), (0, .ref (h 0))] hl dX5_talks_31 rfl (by decide) rfl (fun ls hl => ?_)
          refine x_iinc hC [(2, .int (iI (i + 1))), (1, .int (iI ((mTalks mS i) + 0))), (0, .ref (h 0))] 1 hl dX5_talks_32 rfl (by decide) rfl (fun ls hl => ?_)
          refine x_goto hC 4 dX5_talks_35 (by decide) ?_
          have hl : lv_has ls 3 [(2, .int (iI (i + 1))), (1, .int (iI (mTalks mS (i + 1)))), (0, .ref (h 0))] := lvE (lv_sub (l' := [(2, .int (iI (i + 1))), (1, .int (iI ((mTalks mS i) + 0))), (0, .ref (h 0))]) hl [0, 1, 2] rfl) (lcE rfl (lcE (congrArg (fun z => Value.int (iI z)) (by unfold mTalks; rw [fI_s (by omega)]; unfold mTalksS; first | exact (iif_t (by omega)).symm | exact (iif_f (by omega)).symm : (mTalks mS i) + 0 = mTalks mS (i + 1))) (lcE rfl (rfl))))
          exact ih_4 (i + 1) (by omega) (by omega) (by omega) H locs ls hP hD hS hl
  have hl := lv_sub (l' := [(2, .int (iI 0)), (1, .int (iI (mTalks mS 0))), (0, .ref (h 0))]) hl [0, 1, 2] rfl
  exact loop_4 (Int.toNat ((mS 1) - 0) + 1) 0 (by omega) (by omega) (by omega) H locs ls hP hD hS hl
abbrev r5_fewest : Room := { frames := 3, cells := 0, slots := 0, locals := 68 }
set_option maxHeartbeats 4000000 in
set_option maxRecDepth 100000 in
theorem k5_fewest (l : Launch) (D : va_G) (cs : Nat → ClassId) (h : Nat → Nat) (mF : Int → Int) (mS : Int → Int) (mA : Int → Int) (mV : Int → Int) (mT : Int → Int) (mB : Int → Int) (hI : IM mS) : CI l D cs yX5_fewest cX5_fewest 3 .int r5_fewest 0 0 [.ref (h 0)] (wM h cs mF mS mA mV mT mB) (wM h cs mF mS mA mV mT mB) (iI (mFew mS 48)) := by
  refine CI_start (own := RX5) (by decide) rfl rfl (Nat.le_of_ble_eq_true rfl) ?_
  intro p e s m args below meth c Q A ls hC hl hP hD hA hS hend
  have hl : lv_has ls 3 [(0, .ref (h 0))] := hl
  obtain ⟨H, hH⟩ : ∃ H : Heap, H = s.heap := ⟨_, rfl⟩
  have hS : va_S A s.heap H [] := by rw [hH]; exact hS
  rw [← hH] at hP
  obtain ⟨locs, hlocs⟩ : ∃ locs : List Loc, locs = [] := ⟨_, rfl⟩
  rw [← hlocs] at hS
  suffices hgo : W p l e r5_fewest s m args below meth c H locs 0 0 Q (F0 m 0 ls []) by rw [← hH, ← hlocs]; exact hgo
  clear hH hlocs
  obtain ⟨z0, z1, -⟩ := id hI
  refine x_ic hC dX5_fewest_0 ?_
  refine x_is hC [(1, .int (iI 0)), (0, .ref (h 0))] hl dX5_fewest_1 rfl (by decide) rfl (fun ls hl => ?_)
  refine x_ic hC dX5_fewest_2 ?_
  refine x_is hC [(2, .int (iI 0)), (1, .int (iI 0)), (0, .ref (h 0))] hl dX5_fewest_3 rfl (by decide) rfl (fun ls hl => ?_)
  have loop_4 : ∀ (n : Nat) (i : Int), (hi0 : 0 ≤ i) → (hiN : i ≤ 48) → (48 - i) < (n : Int) → ∀ (H : Heap) (locs : List Loc) (ls : Array Slot), va_P D vwCl (wM h cs mF mS mA mV mT mB) H → va_D A (wM h cs mF mS mA mV mT mB) → va_S A s.heap H locs → lv_has ls 3 [(2, .int (iI i)), (1, .int (iI (mFew mS i))), (0, .ref (h 0))] → W p l e r5_fewest s m args below meth c H locs 0 0 Q (F0 m 4 ls []) := by
    intro n
    induction n with
    | zero =>
      intro i hi0 hiN hnn
      exfalso; omega
    | succ n ih_4 =>
      intro i hi0 hiN hnn H locs ls hP hD hS hl
      have hx := mFew_rg mS hi0
      refine x_il hC hl 0 dX5_fewest_4 rfl rfl ?_
      refine x_bi hC dX5_fewest_5 (by decide) ?_
      refine x_ic_ge hC 35 dX5_fewest_7 (by decide) (by omega) (by omega) (fun c_7 => ?_) (fun c_7 => ?_)
      · obtain rfl : i = 48 := by omega
        refine x_il hC hl 1 dX5_fewest_35 rfl rfl ?_
        exact x_retI (rfl) hend hP hD hS dX5_fewest_36
      · refine x_al hC hl 2 dX5_fewest_10 rfl rfl ?_
        refine x_il hC hl 0 dX5_fewest_11 rfl rfl ?_
        refine x_vI (As := [.int (iI i)]) hC (k5_talksAt l D cs h mF mS mA mV mT mB i (by first | assumption | omega) (by first | assumption | omega)) lk5_152 (q0 := 0) (ci := 5) rfl rfl rfl (sub_all hP hD hS hA) hP hS rfl hl.1 rfl (Nat.le_of_ble_eq_true rfl) ⟨rfl, rfl⟩ ⟨Nat.le_of_ble_eq_true rfl, Nat.le_of_ble_eq_true rfl⟩ ⟨Nat.le_of_ble_eq_true rfl, Nat.le_of_ble_eq_true rfl⟩ dX5_fewest_12 (fun H locs hP hD hS hHs => ?_)
        have q_12 := mTalksAt_rg mS i (n := 8) (by omega)
        refine x_il hC hl 1 dX5_fewest_15 rfl rfl ?_
        refine x_ic_le hC 27 dX5_fewest_16 (by decide) (by omega) (by omega) (fun c_16 => ?_) (fun c_16 => ?_)
        · refine x_il hC hl 1 dX5_fewest_27 rfl rfl ?_
          refine x_is hC [(1, .int (iI (mFew mS i))), (2, .int (iI i)), (0, .ref (h 0))] hl dX5_fewest_28 rfl (by decide) rfl (fun ls hl => ?_)
          refine x_iinc hC [(2, .int (iI (i + 1))), (1, .int (iI (mFew mS i))), (0, .ref (h 0))] 1 hl dX5_fewest_29 rfl (by decide) rfl (fun ls hl => ?_)
          refine x_goto hC 4 dX5_fewest_32 (by decide) ?_
          have hl : lv_has ls 3 [(2, .int (iI (i + 1))), (1, .int (iI (mFew mS (i + 1)))), (0, .ref (h 0))] := lvE (lv_sub (l' := [(2, .int (iI (i + 1))), (1, .int (iI (mFew mS i))), (0, .ref (h 0))]) hl [0, 1, 2] rfl) (lcE rfl (lcE (congrArg (fun z => Value.int (iI z)) (by rw [mFew_s _ (by omega)]; unfold mFewS; first | exact (iif_t (by assumption)).symm | exact (iif_f (by omega)).symm : mFew mS i = mFew mS (i + 1))) (lcE rfl (rfl))))
          exact ih_4 (i + 1) (by omega) (by omega) (by omega) H locs ls hP hD hS hl
        · refine x_al hC hl 2 dX5_fewest_19 rfl rfl ?_
          refine x_il hC hl 0 dX5_fewest_20 rfl rfl ?_
          refine x_vI (As := [.int (iI i)]) hC (k5_talksAt l D cs h mF mS mA mV mT mB i (by first | assumption | omega) (by first | assumption | omega)) lk5_152 (q0 := 0) (ci := 5) rfl rfl rfl (sub_all hP hD hS hA) hP hS rfl hl.1 rfl (Nat.le_of_ble_eq_true rfl) ⟨rfl, rfl⟩ ⟨Nat.le_of_ble_eq_true rfl, Nat.le_of_ble_eq_true rfl⟩ ⟨Nat.le_of_ble_eq_true rfl, Nat.le_of_ble_eq_true rfl⟩ dX5_fewest_21 (fun H locs hP hD hS hHs => ?_)
          have q_21 := mTalksAt_rg mS i (n := 8) (by omega)
          refine x_goto hC 28 dX5_fewest_24 (by decide) ?_
          refine x_is hC [(1, .int (iI (mTalksAt mS i 8))), (2, .int (iI i)), (0, .ref (h 0))] hl dX5_fewest_28 rfl (by decide) rfl (fun ls hl => ?_)
          refine x_iinc hC [(2, .int (iI (i + 1))), (1, .int (iI (mTalksAt mS i 8))), (0, .ref (h 0))] 1 hl dX5_fewest_29 rfl (by decide) rfl (fun ls hl => ?_)
          refine x_goto hC 4 dX5_fewest_32 (by decide) ?_
          have hl : lv_has ls 3 [(2, .int (iI (i + 1))), (1, .int (iI (mFew mS (i + 1)))), (0, .ref (h 0))] := lvE (lv_sub (l' := [(2, .int (iI (i + 1))), (1, .int (iI (mTalksAt mS i 8))), (0, .ref (h 0))]) hl [0, 1, 2] rfl) (lcE rfl (lcE (congrArg (fun z => Value.int (iI z)) (by rw [mFew_s _ (by omega)]; unfold mFewS; first | exact (iif_t (by assumption)).symm | exact (iif_f (by omega)).symm : mTalksAt mS i 8 = mFew mS (i + 1))) (lcE rfl (rfl))))
          exact ih_4 (i + 1) (by omega) (by omega) (by omega) H locs ls hP hD hS hl
  have hl := lv_sub (l' := [(2, .int (iI 0)), (1, .int (iI (mFew mS 0))), (0, .ref (h 0))]) hl [0, 1, 2] rfl
  exact loop_4 (Int.toNat (48 - 0) + 1) 0 (by omega) (by omega) (by omega) H locs ls hP hD hS hl
abbrev r5_hoursTaken : Room := { frames := 2, cells := 0, slots := 0, locals := 45 }
set_option maxHeartbeats 4000000 in
set_option maxRecDepth 100000 in
theorem k5_hoursTaken (l : Launch) (D : va_G) (cs : Nat → ClassId) (h : Nat → Nat) (mF : Int → Int) (mS : Int → Int) (mA : Int → Int) (mV : Int → Int) (mT : Int → Int) (mB : Int → Int) (hI : IM mS) : CI l D cs yX5_hoursTaken cX5_hoursTaken 3 .int r5_hoursTaken 0 0 [.ref (h 0)] (wM h cs mF mS mA mV mT mB) (wM h cs mF mS mA mV mT mB) (iI (mHours mS 8)) := by
  refine CI_start (own := RX5) (by decide) rfl rfl (Nat.le_of_ble_eq_true rfl) ?_
  intro p e s m args below meth c Q A ls hC hl hP hD hA hS hend
  have hl : lv_has ls 3 [(0, .ref (h 0))] := hl
  obtain ⟨H, hH⟩ : ∃ H : Heap, H = s.heap := ⟨_, rfl⟩
  have hS : va_S A s.heap H [] := by rw [hH]; exact hS
  rw [← hH] at hP
  obtain ⟨locs, hlocs⟩ : ∃ locs : List Loc, locs = [] := ⟨_, rfl⟩
  rw [← hlocs] at hS
  suffices hgo : W p l e r5_hoursTaken s m args below meth c H locs 0 0 Q (F0 m 0 ls []) by rw [← hH, ← hlocs]; exact hgo
  clear hH hlocs
  obtain ⟨z0, z1, -⟩ := id hI
  refine x_ic hC dX5_hoursTaken_0 ?_
  refine x_is hC [(1, .int (iI 0)), (0, .ref (h 0))] hl dX5_hoursTaken_1 rfl (by decide) rfl (fun ls hl => ?_)
  refine x_ic hC dX5_hoursTaken_2 ?_
  refine x_is hC [(2, .int (iI 0)), (1, .int (iI 0)), (0, .ref (h 0))] hl dX5_hoursTaken_3 rfl (by decide) rfl (fun ls hl => ?_)
  have loop_4 : ∀ (n : Nat) (i : Int), (hi0 : 0 ≤ i) → (hiN : i ≤ 8) → (8 - i) < (n : Int) → ∀ (H : Heap) (locs : List Loc) (ls : Array Slot), va_P D vwCl (wM h cs mF mS mA mV mT mB) H → va_D A (wM h cs mF mS mA mV mT mB) → va_S A s.heap H locs → lv_has ls 3 [(2, .int (iI i)), (1, .int (iI (mHours mS i))), (0, .ref (h 0))] → W p l e r5_hoursTaken s m args below meth c H locs 0 0 Q (F0 m 4 ls []) := by
    intro n
    induction n with
    | zero =>
      intro i hi0 hiN hnn
      exfalso; omega
    | succ n ih_4 =>
      intro i hi0 hiN hnn H locs ls hP hD hS hl
      refine x_il hC hl 0 dX5_hoursTaken_4 rfl rfl ?_
      refine x_bi hC dX5_hoursTaken_5 (by decide) ?_
      refine x_ic_ge hC 24 dX5_hoursTaken_7 (by decide) (by omega) (by omega) (fun c_7 => ?_) (fun c_7 => ?_)
      · obtain rfl : i = 8 := by omega
        refine x_il hC hl 1 dX5_hoursTaken_24 rfl rfl ?_
        exact x_retI (rfl) hend hP hD hS dX5_hoursTaken_25
      · refine x_il hC hl 1 dX5_hoursTaken_10 rfl rfl ?_
        refine x_al hC hl 2 dX5_hoursTaken_11 rfl rfl ?_
        refine x_il hC hl 0 dX5_hoursTaken_12 rfl rfl ?_
        refine x_vI (As := [.int (iI i)]) hC (k5_taken l D cs h mF mS mA mV mT mB i (by first | assumption | omega) (by first | assumption | omega)) lk5_48 (q0 := 0) (ci := 5) rfl rfl rfl (sub_all hP hD hS hA) hP hS rfl hl.1 rfl (Nat.le_of_ble_eq_true rfl) ⟨rfl, rfl⟩ ⟨Nat.le_of_ble_eq_true rfl, Nat.le_of_ble_eq_true rfl⟩ ⟨Nat.le_of_ble_eq_true rfl, Nat.le_of_ble_eq_true rfl⟩ dX5_hoursTaken_13 (fun H locs hP hD hS hHs => ?_)
        have q_13 := mTaken_rg (S := mS) (by assumption) i (n := mS 1) (by omega) (by omega)
        refine x_iadd hC dX5_hoursTaken_16 ?_
        refine x_is hC [(1, .int (iI ((mHours mS i) + (mTaken mS i (mS 1))))), (2, .int (iI i)), (0, .ref (h 0))] hl dX5_hoursTaken_17 rfl (by decide) rfl (fun ls hl => ?_)
        refine x_iinc hC [(2, .int (iI (i + 1))), (1, .int (iI ((mHours mS i) + (mTaken mS i (mS 1))))), (0, .ref (h 0))] 1 hl dX5_hoursTaken_18 rfl (by decide) rfl (fun ls hl => ?_)
        refine x_goto hC 4 dX5_hoursTaken_21 (by decide) ?_
        have hl : lv_has ls 3 [(2, .int (iI (i + 1))), (1, .int (iI (mHours mS (i + 1)))), (0, .ref (h 0))] := lvE (lv_sub (l' := [(2, .int (iI (i + 1))), (1, .int (iI ((mHours mS i) + (mTaken mS i (mS 1))))), (0, .ref (h 0))]) hl [0, 1, 2] rfl) (lcE rfl (lcE (congrArg (fun z => Value.int (iI z)) (by unfold mHours; rw [fI_s (by omega)] : (mHours mS i) + (mTaken mS i (mS 1)) = mHours mS (i + 1))) (lcE rfl (rfl))))
        exact ih_4 (i + 1) (by omega) (by omega) (by omega) H locs ls hP hD hS hl
  have hl := lv_sub (l' := [(2, .int (iI 0)), (1, .int (iI (mHours mS 0))), (0, .ref (h 0))]) hl [0, 1, 2] rfl
  exact loop_4 (Int.toNat (8 - 0) + 1) 0 (by omega) (by omega) (by omega) H locs ls hP hD hS hl
end
