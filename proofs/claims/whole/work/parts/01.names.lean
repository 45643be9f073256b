-- ===== PART A: goes FIRST, ahead of the names: the tables' words, and 'selects' of the private methods out of them =====
/-- a private method of a class that the tables say can be made, by its rows of tables_1 -/
def lw_okq (q : MethodName × Nat) : Prop := (q.1.cls ≠ "java/lang/invoke/MethodHandle" ∧ q.1.cls ≠ "java/lang/invoke/VarHandle") ∧ Cond.instantiable q.1.cls q.2 ∈ tables_1 ∧ Cond.privateMethod q.1 ∈ tables_1 ∧ Cond.instanceMethod q.1 ∈ tables_1
theorem lw_p0 : lw_okq (⟨"TagPress$Matches", "bucketOf", "(I)I"⟩, 7) := ⟨⟨by decide +kernel, by decide +kernel⟩, List.mem_of_getElem? (i := 43) (by decide +kernel), List.mem_of_getElem? (i := 257) (by decide +kernel), List.mem_of_getElem? (i := 258) (by decide +kernel)⟩
theorem lw_p1 : lw_okq (⟨"TagPress$BlockWriter", "putLength", "(I)V"⟩, 3) := ⟨⟨by decide +kernel, by decide +kernel⟩, List.mem_of_getElem? (i := 74) (by decide +kernel), List.mem_of_getElem? (i := 280) (by decide +kernel), List.mem_of_getElem? (i := 281) (by decide +kernel)⟩
theorem lw_p2 : lw_okq (⟨"TagPress$Matches", "findNearest", "(II)V"⟩, 7) := ⟨⟨by decide +kernel, by decide +kernel⟩, List.mem_of_getElem? (i := 43) (by decide +kernel), List.mem_of_getElem? (i := 289) (by decide +kernel), List.mem_of_getElem? (i := 290) (by decide +kernel)⟩
theorem lw_p3 : lw_okq (⟨"TagPress$Matches", "earlier", "(I)I"⟩, 7) := ⟨⟨by decide +kernel, by decide +kernel⟩, List.mem_of_getElem? (i := 43) (by decide +kernel), List.mem_of_getElem? (i := 293) (by decide +kernel), List.mem_of_getElem? (i := 294) (by decide +kernel)⟩
theorem lw_p4 : lw_okq (⟨"TagPress$Matches", "alike", "(III)I"⟩, 7) := ⟨⟨by decide +kernel, by decide +kernel⟩, List.mem_of_getElem? (i := 43) (by decide +kernel), List.mem_of_getElem? (i := 297) (by decide +kernel), List.mem_of_getElem? (i := 298) (by decide +kernel)⟩
theorem lw_p5 : lw_okq (⟨"TagPress$Matches", "findLongest", "(I)V"⟩, 7) := ⟨⟨by decide +kernel, by decide +kernel⟩, List.mem_of_getElem? (i := 43) (by decide +kernel), List.mem_of_getElem? (i := 301) (by decide +kernel), List.mem_of_getElem? (i := 302) (by decide +kernel)⟩
theorem lw_p6 : lw_okq (⟨"TagPress$Matches", "dropIfNextIsLonger", "(I)V"⟩, 7) := ⟨⟨by decide +kernel, by decide +kernel⟩, List.mem_of_getElem? (i := 43) (by decide +kernel), List.mem_of_getElem? (i := 306) (by decide +kernel), List.mem_of_getElem? (i := 307) (by decide +kernel)⟩
theorem lw_p7 : lw_okq (⟨"TagPress$BlockWriter", "putLiterals", "(II)V"⟩, 3) := ⟨⟨by decide +kernel, by decide +kernel⟩, List.mem_of_getElem? (i := 74) (by decide +kernel), List.mem_of_getElem? (i := 310) (by decide +kernel), List.mem_of_getElem? (i := 311) (by decide +kernel)⟩
theorem lw_p8 : lw_okq (⟨"TagPress$BlockWriter", "putMatch", "(II)V"⟩, 3) := ⟨⟨by decide +kernel, by decide +kernel⟩, List.mem_of_getElem? (i := 74) (by decide +kernel), List.mem_of_getElem? (i := 322) (by decide +kernel), List.mem_of_getElem? (i := 323) (by decide +kernel)⟩
theorem lw_p9 : lw_okq (⟨"TagPress", "endWriting", "()I"⟩, 9) := ⟨⟨by decide +kernel, by decide +kernel⟩, List.mem_of_getElem? (i := 15) (by decide +kernel), List.mem_of_getElem? (i := 327) (by decide +kernel), List.mem_of_getElem? (i := 328) (by decide +kernel)⟩
theorem lw_p10 : lw_okq (⟨"TagPress$BlockReader", "readLength", "(I)V"⟩, 8) := ⟨⟨by decide +kernel, by decide +kernel⟩, List.mem_of_getElem? (i := 106) (by decide +kernel), List.mem_of_getElem? (i := 343) (by decide +kernel), List.mem_of_getElem? (i := 344) (by decide +kernel)⟩
theorem lw_p11 : lw_okq (⟨"TagPress$BlockReader", "next", "()I"⟩, 8) := ⟨⟨by decide +kernel, by decide +kernel⟩, List.mem_of_getElem? (i := 106) (by decide +kernel), List.mem_of_getElem? (i := 347) (by decide +kernel), List.mem_of_getElem? (i := 348) (by decide +kernel)⟩
theorem lw_p12 : lw_okq (⟨"TagPress$BlockReader", "fail", "(II)V"⟩, 8) := ⟨⟨by decide +kernel, by decide +kernel⟩, List.mem_of_getElem? (i := 106) (by decide +kernel), List.mem_of_getElem? (i := 351) (by decide +kernel), List.mem_of_getElem? (i := 352) (by decide +kernel)⟩
theorem lw_p13 : lw_okq (⟨"TagPress$BlockReader", "readElement", "()V"⟩, 8) := ⟨⟨by decide +kernel, by decide +kernel⟩, List.mem_of_getElem? (i := 106) (by decide +kernel), List.mem_of_getElem? (i := 356) (by decide +kernel), List.mem_of_getElem? (i := 357) (by decide +kernel)⟩
theorem lw_p14 : lw_okq (⟨"TagPress$BlockReader", "nextNumber", "(I)J"⟩, 8) := ⟨⟨by decide +kernel, by decide +kernel⟩, List.mem_of_getElem? (i := 106) (by decide +kernel), List.mem_of_getElem? (i := 360) (by decide +kernel), List.mem_of_getElem? (i := 361) (by decide +kernel)⟩
theorem lw_p15 : lw_okq (⟨"TagPress$BlockReader", "readLiterals", "(IJ)V"⟩, 8) := ⟨⟨by decide +kernel, by decide +kernel⟩, List.mem_of_getElem? (i := 106) (by decide +kernel), List.mem_of_getElem? (i := 365) (by decide +kernel), List.mem_of_getElem? (i := 366) (by decide +kernel)⟩
def lw_privs_1 : List (MethodName × Nat) := [(⟨"TagPress$Matches", "bucketOf", "(I)I"⟩, 7), (⟨"TagPress$BlockWriter", "putLength", "(I)V"⟩, 3), (⟨"TagPress$Matches", "findNearest", "(II)V"⟩, 7), (⟨"TagPress$Matches", "earlier", "(I)I"⟩, 7), (⟨"TagPress$Matches", "alike", "(III)I"⟩, 7), (⟨"TagPress$Matches", "findLongest", "(I)V"⟩, 7), (⟨"TagPress$Matches", "dropIfNextIsLonger", "(I)V"⟩, 7), (⟨"TagPress$BlockWriter", "putLiterals", "(II)V"⟩, 3), (⟨"TagPress$BlockWriter", "putMatch", "(II)V"⟩, 3), (⟨"TagPress", "endWriting", "()I"⟩, 9), (⟨"TagPress$BlockReader", "readLength", "(I)V"⟩, 8), (⟨"TagPress$BlockReader", "next", "()I"⟩, 8), (⟨"TagPress$BlockReader", "fail", "(II)V"⟩, 8), (⟨"TagPress$BlockReader", "readElement", "()V"⟩, 8), (⟨"TagPress$BlockReader", "nextNumber", "(I)J"⟩, 8), (⟨"TagPress$BlockReader", "readLiterals", "(IJ)V"⟩, 8)]
theorem lw_r1 : ∀ q ∈ lw_privs_1, lw_okq q := List.forall_mem_cons.mpr ⟨lw_p0, List.forall_mem_cons.mpr ⟨lw_p1, List.forall_mem_cons.mpr ⟨lw_p2, List.forall_mem_cons.mpr ⟨lw_p3, List.forall_mem_cons.mpr ⟨lw_p4, List.forall_mem_cons.mpr ⟨lw_p5, List.forall_mem_cons.mpr ⟨lw_p6, List.forall_mem_cons.mpr ⟨lw_p7, List.forall_mem_cons.mpr ⟨lw_p8, List.forall_mem_cons.mpr ⟨lw_p9, List.forall_mem_cons.mpr ⟨lw_p10, List.forall_mem_cons.mpr ⟨lw_p11, List.forall_mem_cons.mpr ⟨lw_p12, List.forall_mem_cons.mpr ⟨lw_p13, List.forall_mem_cons.mpr ⟨lw_p14, List.forall_mem_cons.mpr ⟨lw_p15, fun _ h => absurd h List.not_mem_nil⟩⟩⟩⟩⟩⟩⟩⟩⟩⟩⟩⟩⟩⟩⟩⟩
theorem lw_p16 : lw_okq (⟨"TagPress$BlockReader", "made", "()I"⟩, 8) := ⟨⟨by decide +kernel, by decide +kernel⟩, List.mem_of_getElem? (i := 106) (by decide +kernel), List.mem_of_getElem? (i := 369) (by decide +kernel), List.mem_of_getElem? (i := 370) (by decide +kernel)⟩
theorem lw_p17 : lw_okq (⟨"TagPress$BlockReader", "readCopy", "(IIJ)V"⟩, 8) := ⟨⟨by decide +kernel, by decide +kernel⟩, List.mem_of_getElem? (i := 106) (by decide +kernel), List.mem_of_getElem? (i := 374) (by decide +kernel), List.mem_of_getElem? (i := 375) (by decide +kernel)⟩
theorem lw_p18 : lw_okq (⟨"TagPress", "endReading", "(II)I"⟩, 9) := ⟨⟨by decide +kernel, by decide +kernel⟩, List.mem_of_getElem? (i := 15) (by decide +kernel), List.mem_of_getElem? (i := 379) (by decide +kernel), List.mem_of_getElem? (i := 380) (by decide +kernel)⟩
theorem lw_p19 : lw_okq (⟨"TagPress$StreamReader", "checkHead", "(II)V"⟩, 7) := ⟨⟨by decide +kernel, by decide +kernel⟩, List.mem_of_getElem? (i := 141) (by decide +kernel), List.mem_of_getElem? (i := 443) (by decide +kernel), List.mem_of_getElem? (i := 444) (by decide +kernel)⟩
theorem lw_p20 : lw_okq (⟨"TagPress$StreamReader", "fail", "(II)V"⟩, 7) := ⟨⟨by decide +kernel, by decide +kernel⟩, List.mem_of_getElem? (i := 141) (by decide +kernel), List.mem_of_getElem? (i := 447) (by decide +kernel), List.mem_of_getElem? (i := 448) (by decide +kernel)⟩
theorem lw_p21 : lw_okq (⟨"TagPress$StreamReader", "checkMark", "(II)V"⟩, 7) := ⟨⟨by decide +kernel, by decide +kernel⟩, List.mem_of_getElem? (i := 141) (by decide +kernel), List.mem_of_getElem? (i := 452) (by decide +kernel), List.mem_of_getElem? (i := 453) (by decide +kernel)⟩
theorem lw_p22 : lw_okq (⟨"TagPress$StreamReader", "takeFaultOfBlock", "()V"⟩, 7) := ⟨⟨by decide +kernel, by decide +kernel⟩, List.mem_of_getElem? (i := 141) (by decide +kernel), List.mem_of_getElem? (i := 460) (by decide +kernel), List.mem_of_getElem? (i := 461) (by decide +kernel)⟩
theorem lw_p23 : lw_okq (⟨"TagPress$StreamReader", "checkSum", "(II)V"⟩, 7) := ⟨⟨by decide +kernel, by decide +kernel⟩, List.mem_of_getElem? (i := 141) (by decide +kernel), List.mem_of_getElem? (i := 464) (by decide +kernel), List.mem_of_getElem? (i := 465) (by decide +kernel)⟩
theorem lw_p24 : lw_okq (⟨"TagPress$StreamReader", "readPlain", "(II)V"⟩, 7) := ⟨⟨by decide +kernel, by decide +kernel⟩, List.mem_of_getElem? (i := 141) (by decide +kernel), List.mem_of_getElem? (i := 469) (by decide +kernel), List.mem_of_getElem? (i := 470) (by decide +kernel)⟩
theorem lw_p25 : lw_okq (⟨"TagPressModel", "putBlock", "(III)V"⟩, 16) := ⟨⟨by decide +kernel, by decide +kernel⟩, List.mem_of_getElem? (i := 492) (by decide +kernel), List.mem_of_getElem? (i := 568) (by decide +kernel), List.mem_of_getElem? (i := 569) (by decide +kernel)⟩
theorem lw_p26 : lw_okq (⟨"TagPressModel", "put", "(I)V"⟩, 16) := ⟨⟨by decide +kernel, by decide +kernel⟩, List.mem_of_getElem? (i := 492) (by decide +kernel), List.mem_of_getElem? (i := 572) (by decide +kernel), List.mem_of_getElem? (i := 573) (by decide +kernel)⟩
theorem lw_p27 : lw_okq (⟨"TagPressModel", "match", "(IIII)V"⟩, 16) := ⟨⟨by decide +kernel, by decide +kernel⟩, List.mem_of_getElem? (i := 492) (by decide +kernel), List.mem_of_getElem? (i := 576) (by decide +kernel), List.mem_of_getElem? (i := 577) (by decide +kernel)⟩
theorem lw_p28 : lw_okq (⟨"TagPressModel", "nearest", "(IIII)V"⟩, 16) := ⟨⟨by decide +kernel, by decide +kernel⟩, List.mem_of_getElem? (i := 492) (by decide +kernel), List.mem_of_getElem? (i := 580) (by decide +kernel), List.mem_of_getElem? (i := 581) (by decide +kernel)⟩
theorem lw_p29 : lw_okq (⟨"TagPressModel", "alike", "(III)I"⟩, 16) := ⟨⟨by decide +kernel, by decide +kernel⟩, List.mem_of_getElem? (i := 492) (by decide +kernel), List.mem_of_getElem? (i := 584) (by decide +kernel), List.mem_of_getElem? (i := 585) (by decide +kernel)⟩
theorem lw_p30 : lw_okq (⟨"TagPressModel", "longest", "(III)V"⟩, 16) := ⟨⟨by decide +kernel, by decide +kernel⟩, List.mem_of_getElem? (i := 492) (by decide +kernel), List.mem_of_getElem? (i := 588) (by decide +kernel), List.mem_of_getElem? (i := 589) (by decide +kernel)⟩
theorem lw_p31 : lw_okq (⟨"TagPressModel", "putLiterals", "(II)V"⟩, 16) := ⟨⟨by decide +kernel, by decide +kernel⟩, List.mem_of_getElem? (i := 492) (by decide +kernel), List.mem_of_getElem? (i := 592) (by decide +kernel), List.mem_of_getElem? (i := 593) (by decide +kernel)⟩
def lw_privs_2 : List (MethodName × Nat) := [(⟨"TagPress$BlockReader", "made", "()I"⟩, 8), (⟨"TagPress$BlockReader", "readCopy", "(IIJ)V"⟩, 8), (⟨"TagPress", "endReading", "(II)I"⟩, 9), (⟨"TagPress$StreamReader", "checkHead", "(II)V"⟩, 7), (⟨"TagPress$StreamReader", "fail", "(II)V"⟩, 7), (⟨"TagPress$StreamReader", "checkMark", "(II)V"⟩, 7), (⟨"TagPress$StreamReader", "takeFaultOfBlock", "()V"⟩, 7), (⟨"TagPress$StreamReader", "checkSum", "(II)V"⟩, 7), (⟨"TagPress$StreamReader", "readPlain", "(II)V"⟩, 7), (⟨"TagPressModel", "putBlock", "(III)V"⟩, 16), (⟨"TagPressModel", "put", "(I)V"⟩, 16), (⟨"TagPressModel", "match", "(IIII)V"⟩, 16), (⟨"TagPressModel", "nearest", "(IIII)V"⟩, 16), (⟨"TagPressModel", "alike", "(III)I"⟩, 16), (⟨"TagPressModel", "longest", "(III)V"⟩, 16), (⟨"TagPressModel", "putLiterals", "(II)V"⟩, 16)]
theorem lw_r2 : ∀ q ∈ lw_privs_2, lw_okq q := List.forall_mem_cons.mpr ⟨lw_p16, List.forall_mem_cons.mpr ⟨lw_p17, List.forall_mem_cons.mpr ⟨lw_p18, List.forall_mem_cons.mpr ⟨lw_p19, List.forall_mem_cons.mpr ⟨lw_p20, List.forall_mem_cons.mpr ⟨lw_p21, List.forall_mem_cons.mpr ⟨lw_p22, List.forall_mem_cons.mpr ⟨lw_p23, List.forall_mem_cons.mpr ⟨lw_p24, List.forall_mem_cons.mpr ⟨lw_p25, List.forall_mem_cons.mpr ⟨lw_p26, List.forall_mem_cons.mpr ⟨lw_p27, List.forall_mem_cons.mpr ⟨lw_p28, List.forall_mem_cons.mpr ⟨lw_p29, List.forall_mem_cons.mpr ⟨lw_p30, List.forall_mem_cons.mpr ⟨lw_p31, fun _ h => absurd h List.not_mem_nil⟩⟩⟩⟩⟩⟩⟩⟩⟩⟩⟩⟩⟩⟩⟩⟩
theorem lw_p32 : lw_okq (⟨"TagPressModel", "putNumber", "(II)V"⟩, 16) := ⟨⟨by decide +kernel, by decide +kernel⟩, List.mem_of_getElem? (i := 492) (by decide +kernel), List.mem_of_getElem? (i := 597) (by decide +kernel), List.mem_of_getElem? (i := 598) (by decide +kernel)⟩
theorem lw_p33 : lw_okq (⟨"TagPressModel", "putCopies", "(II)V"⟩, 16) := ⟨⟨by decide +kernel, by decide +kernel⟩, List.mem_of_getElem? (i := 492) (by decide +kernel), List.mem_of_getElem? (i := 601) (by decide +kernel), List.mem_of_getElem? (i := 602) (by decide +kernel)⟩
theorem lw_p34 : lw_okq (⟨"TagPressModel", "know", "(I)V"⟩, 16) := ⟨⟨by decide +kernel, by decide +kernel⟩, List.mem_of_getElem? (i := 492) (by decide +kernel), List.mem_of_getElem? (i := 605) (by decide +kernel), List.mem_of_getElem? (i := 606) (by decide +kernel)⟩
theorem lw_p35 : lw_okq (⟨"TagPressModel", "tried", "(IIZ)I"⟩, 16) := ⟨⟨by decide +kernel, by decide +kernel⟩, List.mem_of_getElem? (i := 492) (by decide +kernel), List.mem_of_getElem? (i := 610) (by decide +kernel), List.mem_of_getElem? (i := 611) (by decide +kernel)⟩
theorem lw_p36 : lw_okq (⟨"TagPressModel", "fewest", "(IZ)I"⟩, 16) := ⟨⟨by decide +kernel, by decide +kernel⟩, List.mem_of_getElem? (i := 492) (by decide +kernel), List.mem_of_getElem? (i := 617) (by decide +kernel), List.mem_of_getElem? (i := 618) (by decide +kernel)⟩
theorem lw_p37 : lw_okq (⟨"TagPressModel", "settle", "()I"⟩, 16) := ⟨⟨by decide +kernel, by decide +kernel⟩, List.mem_of_getElem? (i := 492) (by decide +kernel), List.mem_of_getElem? (i := 621) (by decide +kernel), List.mem_of_getElem? (i := 622) (by decide +kernel)⟩
theorem lw_p38 : lw_okq (⟨"TagPressModel", "beginReading", "()V"⟩, 16) := ⟨⟨by decide +kernel, by decide +kernel⟩, List.mem_of_getElem? (i := 492) (by decide +kernel), List.mem_of_getElem? (i := 629) (by decide +kernel), List.mem_of_getElem? (i := 630) (by decide +kernel)⟩
theorem lw_p39 : lw_okq (⟨"TagPressModel", "takeBlock", "(I)V"⟩, 16) := ⟨⟨by decide +kernel, by decide +kernel⟩, List.mem_of_getElem? (i := 492) (by decide +kernel), List.mem_of_getElem? (i := 633) (by decide +kernel), List.mem_of_getElem? (i := 634) (by decide +kernel)⟩
theorem lw_p40 : lw_okq (⟨"TagPressModel", "takeLength", "(I)J"⟩, 16) := ⟨⟨by decide +kernel, by decide +kernel⟩, List.mem_of_getElem? (i := 492) (by decide +kernel), List.mem_of_getElem? (i := 637) (by decide +kernel), List.mem_of_getElem? (i := 638) (by decide +kernel)⟩
theorem lw_p41 : lw_okq (⟨"TagPressModel", "take", "(I)J"⟩, 16) := ⟨⟨by decide +kernel, by decide +kernel⟩, List.mem_of_getElem? (i := 492) (by decide +kernel), List.mem_of_getElem? (i := 641) (by decide +kernel), List.mem_of_getElem? (i := 642) (by decide +kernel)⟩
theorem lw_p42 : lw_okq (⟨"TagPressModel", "fails", "(II)Z"⟩, 16) := ⟨⟨by decide +kernel, by decide +kernel⟩, List.mem_of_getElem? (i := 492) (by decide +kernel), List.mem_of_getElem? (i := 646) (by decide +kernel), List.mem_of_getElem? (i := 647) (by decide +kernel)⟩
theorem lw_p43 : lw_okq (⟨"TagPressModel", "literals", "(IIIJ)V"⟩, 16) := ⟨⟨by decide +kernel, by decide +kernel⟩, List.mem_of_getElem? (i := 492) (by decide +kernel), List.mem_of_getElem? (i := 654) (by decide +kernel), List.mem_of_getElem? (i := 655) (by decide +kernel)⟩
theorem lw_p44 : lw_okq (⟨"TagPressModel", "copy", "(IIIIJ)V"⟩, 16) := ⟨⟨by decide +kernel, by decide +kernel⟩, List.mem_of_getElem? (i := 492) (by decide +kernel), List.mem_of_getElem? (i := 658) (by decide +kernel), List.mem_of_getElem? (i := 659) (by decide +kernel)⟩
theorem lw_p45 : lw_okq (⟨"TagPressModel", "fitting", "(IIJJJ)Z"⟩, 16) := ⟨⟨by decide +kernel, by decide +kernel⟩, List.mem_of_getElem? (i := 492) (by decide +kernel), List.mem_of_getElem? (i := 663) (by decide +kernel), List.mem_of_getElem? (i := 664) (by decide +kernel)⟩
theorem lw_p46 : lw_okq (⟨"TagPressModel", "endReading", "()I"⟩, 16) := ⟨⟨by decide +kernel, by decide +kernel⟩, List.mem_of_getElem? (i := 492) (by decide +kernel), List.mem_of_getElem? (i := 667) (by decide +kernel), List.mem_of_getElem? (i := 668) (by decide +kernel)⟩
theorem lw_p47 : lw_okq (⟨"TagPressModel", "putRow", "(III)V"⟩, 16) := ⟨⟨by decide +kernel, by decide +kernel⟩, List.mem_of_getElem? (i := 492) (by decide +kernel), List.mem_of_getElem? (i := 678) (by decide +kernel), List.mem_of_getElem? (i := 679) (by decide +kernel)⟩
def lw_privs_3 : List (MethodName × Nat) := [(⟨"TagPressModel", "putNumber", "(II)V"⟩, 16), (⟨"TagPressModel", "putCopies", "(II)V"⟩, 16), (⟨"TagPressModel", "know", "(I)V"⟩, 16), (⟨"TagPressModel", "tried", "(IIZ)I"⟩, 16), (⟨"TagPressModel", "fewest", "(IZ)I"⟩, 16), (⟨"TagPressModel", "settle", "()I"⟩, 16), (⟨"TagPressModel", "beginReading", "()V"⟩, 16), (⟨"TagPressModel", "takeBlock", "(I)V"⟩, 16), (⟨"TagPressModel", "takeLength", "(I)J"⟩, 16), (⟨"TagPressModel", "take", "(I)J"⟩, 16), (⟨"TagPressModel", "fails", "(II)Z"⟩, 16), (⟨"TagPressModel", "literals", "(IIIJ)V"⟩, 16), (⟨"TagPressModel", "copy", "(IIIIJ)V"⟩, 16), (⟨"TagPressModel", "fitting", "(IIJJJ)Z"⟩, 16), (⟨"TagPressModel", "endReading", "()I"⟩, 16), (⟨"TagPressModel", "putRow", "(III)V"⟩, 16)]
theorem lw_r3 : ∀ q ∈ lw_privs_3, lw_okq q := List.forall_mem_cons.mpr ⟨lw_p32, List.forall_mem_cons.mpr ⟨lw_p33, List.forall_mem_cons.mpr ⟨lw_p34, List.forall_mem_cons.mpr ⟨lw_p35, List.forall_mem_cons.mpr ⟨lw_p36, List.forall_mem_cons.mpr ⟨lw_p37, List.forall_mem_cons.mpr ⟨lw_p38, List.forall_mem_cons.mpr ⟨lw_p39, List.forall_mem_cons.mpr ⟨lw_p40, List.forall_mem_cons.mpr ⟨lw_p41, List.forall_mem_cons.mpr ⟨lw_p42, List.forall_mem_cons.mpr ⟨lw_p43, List.forall_mem_cons.mpr ⟨lw_p44, List.forall_mem_cons.mpr ⟨lw_p45, List.forall_mem_cons.mpr ⟨lw_p46, List.forall_mem_cons.mpr ⟨lw_p47, fun _ h => absurd h List.not_mem_nil⟩⟩⟩⟩⟩⟩⟩⟩⟩⟩⟩⟩⟩⟩⟩⟩
theorem lw_p48 : lw_okq (⟨"TagPressModel", "byteOf", "(I)I"⟩, 16) := ⟨⟨by decide +kernel, by decide +kernel⟩, List.mem_of_getElem? (i := 492) (by decide +kernel), List.mem_of_getElem? (i := 691) (by decide +kernel), List.mem_of_getElem? (i := 692) (by decide +kernel)⟩
theorem lw_p49 : lw_okq (⟨"TagPressModel", "orderly", "(II)Z"⟩, 16) := ⟨⟨by decide +kernel, by decide +kernel⟩, List.mem_of_getElem? (i := 492) (by decide +kernel), List.mem_of_getElem? (i := 695) (by decide +kernel), List.mem_of_getElem? (i := 696) (by decide +kernel)⟩
theorem lw_p50 : lw_okq (⟨"TagPressModel", "takeChunk", "(III)V"⟩, 16) := ⟨⟨by decide +kernel, by decide +kernel⟩, List.mem_of_getElem? (i := 492) (by decide +kernel), List.mem_of_getElem? (i := 700) (by decide +kernel), List.mem_of_getElem? (i := 701) (by decide +kernel)⟩
def lw_privs_4 : List (MethodName × Nat) := [(⟨"TagPressModel", "byteOf", "(I)I"⟩, 16), (⟨"TagPressModel", "orderly", "(II)Z"⟩, 16), (⟨"TagPressModel", "takeChunk", "(III)V"⟩, 16)]
theorem lw_r4 : ∀ q ∈ lw_privs_4, lw_okq q := List.forall_mem_cons.mpr ⟨lw_p48, List.forall_mem_cons.mpr ⟨lw_p49, List.forall_mem_cons.mpr ⟨lw_p50, fun _ h => absurd h List.not_mem_nil⟩⟩⟩
def lw_privs : List (MethodName × Nat) := lw_privs_1 ++ (lw_privs_2 ++ (lw_privs_3 ++ (lw_privs_4)))
def lw_tbl : List Cond := k2_sels lw_privs ++ tables_1
theorem lw_privs_ok : ∀ q ∈ lw_privs, lw_okq q := by
  show ∀ q ∈ lw_privs_1 ++ (lw_privs_2 ++ (lw_privs_3 ++ (lw_privs_4))), lw_okq q
  exact List.forall_mem_append.mpr ⟨lw_r1, List.forall_mem_append.mpr ⟨lw_r2, List.forall_mem_append.mpr ⟨lw_r3, lw_r4⟩⟩⟩

/-! ===== names: classes, fields, methods ===== -/
def R_BlockReader : String := "TagPress$BlockReader"
def T_BlockReader : u_T := fun k => match k with
  | 0 => ("TagPress$BlockReader", "source", "LTagPress$Row;", true)
  | 1 => ("TagPress$BlockReader", "target", "LTagPress$Row;", true)
  | 2 => ("TagPress$BlockReader", "at", "I", false)
  | 3 => ("TagPress$BlockReader", "end", "I", false)
  | 4 => ("TagPress$BlockReader", "targetBegin", "I", false)
  | 5 => ("TagPress$BlockReader", "length", "J", false)
  | 6 => ("TagPress$BlockReader", "fault", "I", false)
  | _ => ("TagPress$BlockReader", "faultPlace", "I", false)
def ty_BlockReader : Nat → FieldType := fun k => match k with
  | 0 => .object "TagPress$Row"
  | 1 => .object "TagPress$Row"
  | 2 => .int
  | 3 => .int
  | 4 => .int
  | 5 => .long
  | 6 => .int
  | _ => .int
theorem nm_BlockReader : ∀ a, a < 8 → ∀ b, b < 8 → a ≠ b → (T_BlockReader a).2.1 ≠ (T_BlockReader b).2.1 := by decide +kernel
theorem ty_BlockReader_ok : ∀ k, k < 8 → parseFieldDescriptor (T_BlockReader k).2.2.1 = some (ty_BlockReader k) := by decide +kernel
def R_BlockWriter : String := "TagPress$BlockWriter"
def T_BlockWriter : u_T := fun k => match k with
  | 0 => ("TagPress$BlockWriter", "data", "LTagPress$Row;", true)
  | 1 => ("TagPress$BlockWriter", "target", "LTagPress$Row;", true)
  | _ => ("TagPress$BlockWriter", "matches", "LTagPress$Matches;", true)
def ty_BlockWriter : Nat → FieldType := fun k => match k with
  | 0 => .object "TagPress$Row"
  | 1 => .object "TagPress$Row"
  | _ => .object "TagPress$Matches"
theorem nm_BlockWriter : ∀ a, a < 3 → ∀ b, b < 3 → a ≠ b → (T_BlockWriter a).2.1 ≠ (T_BlockWriter b).2.1 := by decide +kernel
theorem ty_BlockWriter_ok : ∀ k, k < 3 → parseFieldDescriptor (T_BlockWriter k).2.2.1 = some (ty_BlockWriter k) := by decide +kernel
def R_Matches : String := "TagPress$Matches"
def T_Matches : u_T := fun k => match k with
  | 0 => ("TagPress$Matches", "data", "LTagPress$Row;", true)
  | 1 => ("TagPress$Matches", "before", "[I", true)
  | 2 => ("TagPress$Matches", "latest", "[I", true)
  | 3 => ("TagPress$Matches", "from", "I", false)
  | 4 => ("TagPress$Matches", "to", "I", false)
  | 5 => ("TagPress$Matches", "length", "I", false)
  | _ => ("TagPress$Matches", "distance", "I", false)
def ty_Matches : Nat → FieldType := fun k => match k with
  | 0 => .object "TagPress$Row"
  | 1 => .array .int
  | 2 => .array .int
  | 3 => .int
  | 4 => .int
  | 5 => .int
  | _ => .int
theorem nm_Matches : ∀ a, a < 7 → ∀ b, b < 7 → a ≠ b → (T_Matches a).2.1 ≠ (T_Matches b).2.1 := by decide +kernel
theorem ty_Matches_ok : ∀ k, k < 7 → parseFieldDescriptor (T_Matches k).2.2.1 = some (ty_Matches k) := by decide +kernel
def R_Row : String := "TagPress$Row"
def T_Row : u_T := fun k => match k with
  | 0 => ("TagPress$Row", "bytes", "[B", true)
  | _ => ("TagPress$Row", "count", "I", false)
def ty_Row : Nat → FieldType := fun k => match k with
  | 0 => .array .byte
  | _ => .int
theorem nm_Row : ∀ a, a < 2 → ∀ b, b < 2 → a ≠ b → (T_Row a).2.1 ≠ (T_Row b).2.1 := by decide +kernel
theorem ty_Row_ok : ∀ k, k < 2 → parseFieldDescriptor (T_Row k).2.2.1 = some (ty_Row k) := by decide +kernel
def R_StreamReader : String := "TagPress$StreamReader"
def T_StreamReader : u_T := fun k => match k with
  | 0 => ("TagPress$StreamReader", "source", "LTagPress$Row;", true)
  | 1 => ("TagPress$StreamReader", "target", "LTagPress$Row;", true)
  | 2 => ("TagPress$StreamReader", "blocks", "LTagPress$BlockReader;", true)
  | 3 => ("TagPress$StreamReader", "at", "I", false)
  | 4 => ("TagPress$StreamReader", "most", "I", false)
  | 5 => ("TagPress$StreamReader", "fault", "I", false)
  | _ => ("TagPress$StreamReader", "faultPlace", "I", false)
def ty_StreamReader : Nat → FieldType := fun k => match k with
  | 0 => .object "TagPress$Row"
  | 1 => .object "TagPress$Row"
  | 2 => .object "TagPress$BlockReader"
  | 3 => .int
  | 4 => .int
  | 5 => .int
  | _ => .int
theorem nm_StreamReader : ∀ a, a < 7 → ∀ b, b < 7 → a ≠ b → (T_StreamReader a).2.1 ≠ (T_StreamReader b).2.1 := by decide +kernel
theorem ty_StreamReader_ok : ∀ k, k < 7 → parseFieldDescriptor (T_StreamReader k).2.2.1 = some (ty_StreamReader k) := by decide +kernel
def R_StreamWriter : String := "TagPress$StreamWriter"
def T_StreamWriter : u_T := fun k => match k with
  | 0 => ("TagPress$StreamWriter", "data", "LTagPress$Row;", true)
  | 1 => ("TagPress$StreamWriter", "target", "LTagPress$Row;", true)
  | _ => ("TagPress$StreamWriter", "blocks", "LTagPress$BlockWriter;", true)
def ty_StreamWriter : Nat → FieldType := fun k => match k with
  | 0 => .object "TagPress$Row"
  | 1 => .object "TagPress$Row"
  | _ => .object "TagPress$BlockWriter"
theorem nm_StreamWriter : ∀ a, a < 3 → ∀ b, b < 3 → a ≠ b → (T_StreamWriter a).2.1 ≠ (T_StreamWriter b).2.1 := by decide +kernel
theorem ty_StreamWriter_ok : ∀ k, k < 3 → parseFieldDescriptor (T_StreamWriter k).2.2.1 = some (ty_StreamWriter k) := by decide +kernel
def R_TP : String := "TagPress"
def T_TP : u_T := fun k => match k with
  | 0 => ("TagPress", "in", "LTagPress$Row;", true)
  | 1 => ("TagPress", "out", "LTagPress$Row;", true)
  | 2 => ("TagPress", "draft", "LTagPress$Row;", true)
  | 3 => ("TagPress", "matches", "LTagPress$Matches;", true)
  | 4 => ("TagPress", "blockWriter", "LTagPress$BlockWriter;", true)
  | 5 => ("TagPress", "streamWriter", "LTagPress$StreamWriter;", true)
  | 6 => ("TagPress", "blockReader", "LTagPress$BlockReader;", true)
  | 7 => ("TagPress", "streamReader", "LTagPress$StreamReader;", true)
  | _ => ("TagPress", "latestPlace", "I", false)
def ty_TP : Nat → FieldType := fun k => match k with
  | 0 => .object "TagPress$Row"
  | 1 => .object "TagPress$Row"
  | 2 => .object "TagPress$Row"
  | 3 => .object "TagPress$Matches"
  | 4 => .object "TagPress$BlockWriter"
  | 5 => .object "TagPress$StreamWriter"
  | 6 => .object "TagPress$BlockReader"
  | 7 => .object "TagPress$StreamReader"
  | _ => .int
theorem nm_TP : ∀ a, a < 9 → ∀ b, b < 9 → a ≠ b → (T_TP a).2.1 ≠ (T_TP b).2.1 := by decide +kernel
theorem ty_TP_ok : ∀ k, k < 9 → parseFieldDescriptor (T_TP k).2.2.1 = some (ty_TP k) := by decide +kernel
def R_Mo : String := "TagPressModel"
def T_Mo : u_T := fun k => match k with
  | 0 => ("TagPressModel", "in", "[B", true)
  | 1 => ("TagPressModel", "inLong", "I", false)
  | 2 => ("TagPressModel", "out", "[B", true)
  | 3 => ("TagPressModel", "outLong", "I", false)
  | 4 => ("TagPressModel", "made", "[B", true)
  | 5 => ("TagPressModel", "madeLong", "I", false)
  | 6 => ("TagPressModel", "near", "[I", true)
  | 7 => ("TagPressModel", "far", "[I", true)
  | 8 => ("TagPressModel", "known", "I", false)
  | 9 => ("TagPressModel", "foundAt", "I", false)
  | 10 => ("TagPressModel", "foundLong", "I", false)
  | 11 => ("TagPressModel", "told", "I", false)
  | 12 => ("TagPressModel", "at", "I", false)
  | 13 => ("TagPressModel", "end", "I", false)
  | 14 => ("TagPressModel", "fault", "I", false)
  | _ => ("TagPressModel", "faultAt", "I", false)
def ty_Mo : Nat → FieldType := fun k => match k with
  | 0 => .array .byte
  | 1 => .int
  | 2 => .array .byte
  | 3 => .int
  | 4 => .array .byte
  | 5 => .int
  | 6 => .array .int
  | 7 => .array .int
  | 8 => .int
  | 9 => .int
  | 10 => .int
  | 11 => .int
  | 12 => .int
  | 13 => .int
  | 14 => .int
  | _ => .int
theorem nm_Mo : ∀ a, a < 16 → ∀ b, b < 16 → a ≠ b → (T_Mo a).2.1 ≠ (T_Mo b).2.1 := by decide +kernel
theorem ty_Mo_ok : ∀ k, k < 16 → parseFieldDescriptor (T_Mo k).2.2.1 = some (ty_Mo k) := by decide +kernel
def R_Chunk : String := "TagPress$Chunk"
def R_Sums : String := "TagPress$Sums"
def R_La : String := "TagPressLaw"
def R_Ar : String := "java/util/Arrays"
abbrev vwCl : List vw_C := [(R_BlockReader, T_BlockReader, 8), (R_BlockWriter, T_BlockWriter, 3), (R_Matches, T_Matches, 7), (R_Row, T_Row, 2), (R_StreamReader, T_StreamReader, 7), (R_StreamWriter, T_StreamWriter, 3), (R_TP, T_TP, 9), (R_Mo, T_Mo, 16)]
abbrev c_BlockReader_init : ByteArray := prog_2_method_1_code
def y_BlockReader_init : MethodName := ⟨R_BlockReader, "<init>", "(LTagPress$Row;LTagPress$Row;)V"⟩
abbrev c_BlockReader_readBlock : ByteArray := prog_2_method_2_code
def y_BlockReader_readBlock : MethodName := ⟨R_BlockReader, "readBlock", "(III)V"⟩
abbrev c_BlockReader_readLength : ByteArray := prog_2_method_3_code
def y_BlockReader_readLength : MethodName := ⟨R_BlockReader, "readLength", "(I)V"⟩
abbrev c_BlockReader_readElement : ByteArray := prog_2_method_4_code
def y_BlockReader_readElement : MethodName := ⟨R_BlockReader, "readElement", "()V"⟩
abbrev c_BlockReader_readLiterals : ByteArray := prog_2_method_5_code
def y_BlockReader_readLiterals : MethodName := ⟨R_BlockReader, "readLiterals", "(IJ)V"⟩
abbrev c_BlockReader_readCopy : ByteArray := prog_2_method_6_code
def y_BlockReader_readCopy : MethodName := ⟨R_BlockReader, "readCopy", "(IIJ)V"⟩
abbrev c_BlockReader_made : ByteArray := prog_2_method_7_code
def y_BlockReader_made : MethodName := ⟨R_BlockReader, "made", "()I"⟩
abbrev c_BlockReader_next : ByteArray := prog_2_method_8_code
def y_BlockReader_next : MethodName := ⟨R_BlockReader, "next", "()I"⟩
abbrev c_BlockReader_nextNumber : ByteArray := prog_2_method_9_code
def y_BlockReader_nextNumber : MethodName := ⟨R_BlockReader, "nextNumber", "(I)J"⟩
abbrev c_BlockReader_fail : ByteArray := prog_2_method_10_code
def y_BlockReader_fail : MethodName := ⟨R_BlockReader, "fail", "(II)V"⟩
abbrev c_BlockWriter_init : ByteArray := prog_3_method_1_code
def y_BlockWriter_init : MethodName := ⟨R_BlockWriter, "<init>", "(LTagPress$Row;LTagPress$Row;LTagPress$Matches;)V"⟩
abbrev c_BlockWriter_putBlock : ByteArray := prog_3_method_2_code
def y_BlockWriter_putBlock : MethodName := ⟨R_BlockWriter, "putBlock", "(III)V"⟩
abbrev c_BlockWriter_putLength : ByteArray := prog_3_method_3_code
def y_BlockWriter_putLength : MethodName := ⟨R_BlockWriter, "putLength", "(I)V"⟩
abbrev c_BlockWriter_putLiterals : ByteArray := prog_3_method_4_code
def y_BlockWriter_putLiterals : MethodName := ⟨R_BlockWriter, "putLiterals", "(II)V"⟩
abbrev c_BlockWriter_putMatch : ByteArray := prog_3_method_5_code
def y_BlockWriter_putMatch : MethodName := ⟨R_BlockWriter, "putMatch", "(II)V"⟩
abbrev c_Matches_init : ByteArray := prog_5_method_1_code
def y_Matches_init : MethodName := ⟨R_Matches, "<init>", "(LTagPress$Row;)V"⟩
abbrev c_Matches_index : ByteArray := prog_5_method_2_code
def y_Matches_index : MethodName := ⟨R_Matches, "index", "()V"⟩
abbrev c_Matches_bucketOf : ByteArray := prog_5_method_3_code
def y_Matches_bucketOf : MethodName := ⟨R_Matches, "bucketOf", "(I)I"⟩
abbrev c_Matches_keepWithin : ByteArray := prog_5_method_4_code
def y_Matches_keepWithin : MethodName := ⟨R_Matches, "keepWithin", "(II)V"⟩
abbrev c_Matches_findAt : ByteArray := prog_5_method_5_code
def y_Matches_findAt : MethodName := ⟨R_Matches, "findAt", "(II)V"⟩
abbrev c_Matches_findNearest : ByteArray := prog_5_method_6_code
def y_Matches_findNearest : MethodName := ⟨R_Matches, "findNearest", "(II)V"⟩
abbrev c_Matches_findLongest : ByteArray := prog_5_method_7_code
def y_Matches_findLongest : MethodName := ⟨R_Matches, "findLongest", "(I)V"⟩
abbrev c_Matches_dropIfNextIsLonger : ByteArray := prog_5_method_8_code
def y_Matches_dropIfNextIsLonger : MethodName := ⟨R_Matches, "dropIfNextIsLonger", "(I)V"⟩
abbrev c_Matches_earlier : ByteArray := prog_5_method_9_code
def y_Matches_earlier : MethodName := ⟨R_Matches, "earlier", "(I)I"⟩
abbrev c_Matches_alike : ByteArray := prog_5_method_10_code
def y_Matches_alike : MethodName := ⟨R_Matches, "alike", "(III)I"⟩
abbrev c_Row_init : ByteArray := prog_6_method_1_code
def y_Row_init : MethodName := ⟨R_Row, "<init>", "()V"⟩
abbrev c_Row_fits : ByteArray := prog_6_method_2_code
def y_Row_fits : MethodName := ⟨R_Row, "fits", "()Z"⟩
abbrev c_Row_at : ByteArray := prog_6_method_3_code
def y_Row_at : MethodName := ⟨R_Row, "at", "(I)I"⟩
abbrev c_Row_put : ByteArray := prog_6_method_4_code
def y_Row_put : MethodName := ⟨R_Row, "put", "(I)V"⟩
abbrev c_Row_set : ByteArray := prog_6_method_5_code
def y_Row_set : MethodName := ⟨R_Row, "set", "(II)V"⟩
abbrev c_Row_putNumber : ByteArray := prog_6_method_6_code
def y_Row_putNumber : MethodName := ⟨R_Row, "putNumber", "(II)V"⟩
abbrev c_Row_setNumber : ByteArray := prog_6_method_7_code
def y_Row_setNumber : MethodName := ⟨R_Row, "setNumber", "(III)V"⟩
abbrev c_Row_numberAt : ByteArray := prog_6_method_8_code
def y_Row_numberAt : MethodName := ⟨R_Row, "numberAt", "(II)J"⟩
abbrev c_Row_putFrom : ByteArray := prog_6_method_9_code
def y_Row_putFrom : MethodName := ⟨R_Row, "putFrom", "(LTagPress$Row;II)V"⟩
abbrev c_Row_putBack : ByteArray := prog_6_method_10_code
def y_Row_putBack : MethodName := ⟨R_Row, "putBack", "(II)V"⟩
abbrev c_Row_shorten : ByteArray := prog_6_method_11_code
def y_Row_shorten : MethodName := ⟨R_Row, "shorten", "(I)V"⟩
abbrev c_Row_become : ByteArray := prog_6_method_12_code
def y_Row_become : MethodName := ⟨R_Row, "become", "(LTagPress$Row;)V"⟩
abbrev c_StreamReader_init : ByteArray := prog_7_method_1_code
def y_StreamReader_init : MethodName := ⟨R_StreamReader, "<init>", "(LTagPress$Row;LTagPress$Row;LTagPress$BlockReader;)V"⟩
abbrev c_StreamReader_begin : ByteArray := prog_7_method_2_code
def y_StreamReader_begin : MethodName := ⟨R_StreamReader, "begin", "(I)V"⟩
abbrev c_StreamReader_hasMore : ByteArray := prog_7_method_3_code
def y_StreamReader_hasMore : MethodName := ⟨R_StreamReader, "hasMore", "()Z"⟩
abbrev c_StreamReader_readChunk : ByteArray := prog_7_method_4_code
def y_StreamReader_readChunk : MethodName := ⟨R_StreamReader, "readChunk", "()V"⟩
abbrev c_StreamReader_checkHead : ByteArray := prog_7_method_5_code
def y_StreamReader_checkHead : MethodName := ⟨R_StreamReader, "checkHead", "(II)V"⟩
abbrev c_StreamReader_checkMark : ByteArray := prog_7_method_6_code
def y_StreamReader_checkMark : MethodName := ⟨R_StreamReader, "checkMark", "(II)V"⟩
abbrev c_StreamReader_takeFaultOfBlock : ByteArray := prog_7_method_7_code
def y_StreamReader_takeFaultOfBlock : MethodName := ⟨R_StreamReader, "takeFaultOfBlock", "()V"⟩
abbrev c_StreamReader_readPlain : ByteArray := prog_7_method_8_code
def y_StreamReader_readPlain : MethodName := ⟨R_StreamReader, "readPlain", "(II)V"⟩
abbrev c_StreamReader_checkSum : ByteArray := prog_7_method_9_code
def y_StreamReader_checkSum : MethodName := ⟨R_StreamReader, "checkSum", "(II)V"⟩
abbrev c_StreamReader_fail : ByteArray := prog_7_method_10_code
def y_StreamReader_fail : MethodName := ⟨R_StreamReader, "fail", "(II)V"⟩
abbrev c_StreamWriter_init : ByteArray := prog_8_method_1_code
def y_StreamWriter_init : MethodName := ⟨R_StreamWriter, "<init>", "(LTagPress$Row;LTagPress$Row;LTagPress$BlockWriter;)V"⟩
abbrev c_StreamWriter_putMark : ByteArray := prog_8_method_2_code
def y_StreamWriter_putMark : MethodName := ⟨R_StreamWriter, "putMark", "()V"⟩
abbrev c_StreamWriter_putData : ByteArray := prog_8_method_3_code
def y_StreamWriter_putData : MethodName := ⟨R_StreamWriter, "putData", "(III)V"⟩
abbrev c_StreamWriter_putSpare : ByteArray := prog_8_method_4_code
def y_StreamWriter_putSpare : MethodName := ⟨R_StreamWriter, "putSpare", "(I)V"⟩
abbrev c_Sums_sumOf : ByteArray := prog_9_method_2_code
def y_Sums_sumOf : MethodName := ⟨R_Sums, "sumOf", "(LTagPress$Row;II)I"⟩
abbrev c_Sums_goRight : ByteArray := prog_9_method_3_code
def y_Sums_goRight : MethodName := ⟨R_Sums, "goRight", "(I)I"⟩
abbrev c_TP_init : ByteArray := prog_1_method_1_code
def y_TP_init : MethodName := ⟨R_TP, "<init>", "()V"⟩
abbrev c_TP_write : ByteArray := prog_1_method_2_code
def y_TP_write : MethodName := ⟨R_TP, "write", "(JI)Z"⟩
abbrev c_TP_again : ByteArray := prog_1_method_3_code
def y_TP_again : MethodName := ⟨R_TP, "again", "(II)Z"⟩
abbrev c_TP_clear : ByteArray := prog_1_method_4_code
def y_TP_clear : MethodName := ⟨R_TP, "clear", "()V"⟩
abbrev c_TP_turn : ByteArray := prog_1_method_5_code
def y_TP_turn : MethodName := ⟨R_TP, "turn", "()V"⟩
abbrev c_TP_pack : ByteArray := prog_1_method_6_code
def y_TP_pack : MethodName := ⟨R_TP, "pack", "(I)I"⟩
abbrev c_TP_unpack : ByteArray := prog_1_method_7_code
def y_TP_unpack : MethodName := ⟨R_TP, "unpack", "(I)I"⟩
abbrev c_TP_chunks : ByteArray := prog_1_method_8_code
def y_TP_chunks : MethodName := ⟨R_TP, "chunks", "(III)I"⟩
abbrev c_TP_unchunk : ByteArray := prog_1_method_9_code
def y_TP_unchunk : MethodName := ⟨R_TP, "unchunk", "(I)I"⟩
abbrev c_TP_place : ByteArray := prog_1_method_10_code
def y_TP_place : MethodName := ⟨R_TP, "place", "()I"⟩
abbrev c_TP_sum : ByteArray := prog_1_method_11_code
def y_TP_sum : MethodName := ⟨R_TP, "sum", "()I"⟩
abbrev c_TP_size : ByteArray := prog_1_method_12_code
def y_TP_size : MethodName := ⟨R_TP, "size", "()I"⟩
abbrev c_TP_byteAt : ByteArray := prog_1_method_13_code
def y_TP_byteAt : MethodName := ⟨R_TP, "byteAt", "(I)I"⟩
abbrev c_TP_isNoWay : ByteArray := prog_1_method_14_code
def y_TP_isNoWay : MethodName := ⟨R_TP, "isNoWay", "(I)Z"⟩
abbrev c_TP_isNoMost : ByteArray := prog_1_method_15_code
def y_TP_isNoMost : MethodName := ⟨R_TP, "isNoMost", "(I)Z"⟩
abbrev c_TP_endWriting : ByteArray := prog_1_method_16_code
def y_TP_endWriting : MethodName := ⟨R_TP, "endWriting", "()I"⟩
abbrev c_TP_endReading : ByteArray := prog_1_method_17_code
def y_TP_endReading : MethodName := ⟨R_TP, "endReading", "(II)I"⟩
abbrev c_La_law : ByteArray := code
def y_La_law : MethodName := ⟨R_La, "law", "([I)Z"⟩
abbrev c_Mo_init : ByteArray := prog_11_method_1_code
def y_Mo_init : MethodName := ⟨R_Mo, "<init>", "()V"⟩
abbrev c_Mo_write : ByteArray := prog_11_method_2_code
def y_Mo_write : MethodName := ⟨R_Mo, "write", "(JI)Z"⟩
abbrev c_Mo_again : ByteArray := prog_11_method_3_code
def y_Mo_again : MethodName := ⟨R_Mo, "again", "(II)Z"⟩
abbrev c_Mo_clear : ByteArray := prog_11_method_4_code
def y_Mo_clear : MethodName := ⟨R_Mo, "clear", "()V"⟩
abbrev c_Mo_turn : ByteArray := prog_11_method_5_code
def y_Mo_turn : MethodName := ⟨R_Mo, "turn", "()V"⟩
abbrev c_Mo_put : ByteArray := prog_11_method_6_code
def y_Mo_put : MethodName := ⟨R_Mo, "put", "(I)V"⟩
abbrev c_Mo_putNumber : ByteArray := prog_11_method_7_code
def y_Mo_putNumber : MethodName := ⟨R_Mo, "putNumber", "(II)V"⟩
abbrev c_Mo_settle : ByteArray := prog_11_method_8_code
def y_Mo_settle : MethodName := ⟨R_Mo, "settle", "()I"⟩
abbrev c_Mo_alike : ByteArray := prog_11_method_9_code
def y_Mo_alike : MethodName := ⟨R_Mo, "alike", "(III)I"⟩
abbrev c_Mo_nearest : ByteArray := prog_11_method_10_code
def y_Mo_nearest : MethodName := ⟨R_Mo, "nearest", "(IIII)V"⟩
abbrev c_Mo_longest : ByteArray := prog_11_method_11_code
def y_Mo_longest : MethodName := ⟨R_Mo, "longest", "(III)V"⟩
abbrev c_Mo_match : ByteArray := prog_11_method_12_code
def y_Mo_match : MethodName := ⟨R_Mo, "match", "(IIII)V"⟩
abbrev c_Mo_bytesFor : ByteArray := prog_11_method_13_code
def y_Mo_bytesFor : MethodName := ⟨R_Mo, "bytesFor", "(IZ)I"⟩
abbrev c_Mo_fewest : ByteArray := prog_11_method_14_code
def y_Mo_fewest : MethodName := ⟨R_Mo, "fewest", "(IZ)I"⟩
abbrev c_Mo_tried : ByteArray := prog_11_method_15_code
def y_Mo_tried : MethodName := ⟨R_Mo, "tried", "(IIZ)I"⟩
abbrev c_Mo_know : ByteArray := prog_11_method_16_code
def y_Mo_know : MethodName := ⟨R_Mo, "know", "(I)V"⟩
abbrev c_Mo_putCopies : ByteArray := prog_11_method_17_code
def y_Mo_putCopies : MethodName := ⟨R_Mo, "putCopies", "(II)V"⟩
abbrev c_Mo_putLiterals : ByteArray := prog_11_method_18_code
def y_Mo_putLiterals : MethodName := ⟨R_Mo, "putLiterals", "(II)V"⟩
abbrev c_Mo_putBlock : ByteArray := prog_11_method_19_code
def y_Mo_putBlock : MethodName := ⟨R_Mo, "putBlock", "(III)V"⟩
abbrev c_Mo_pack : ByteArray := prog_11_method_20_code
def y_Mo_pack : MethodName := ⟨R_Mo, "pack", "(I)I"⟩
abbrev c_Mo_fails : ByteArray := prog_11_method_21_code
def y_Mo_fails : MethodName := ⟨R_Mo, "fails", "(II)Z"⟩
abbrev c_Mo_take : ByteArray := prog_11_method_22_code
def y_Mo_take : MethodName := ⟨R_Mo, "take", "(I)J"⟩
abbrev c_Mo_takeLength : ByteArray := prog_11_method_23_code
def y_Mo_takeLength : MethodName := ⟨R_Mo, "takeLength", "(I)J"⟩
abbrev c_Mo_fitting : ByteArray := prog_11_method_24_code
def y_Mo_fitting : MethodName := ⟨R_Mo, "fitting", "(IIJJJ)Z"⟩
abbrev c_Mo_literals : ByteArray := prog_11_method_25_code
def y_Mo_literals : MethodName := ⟨R_Mo, "literals", "(IIIJ)V"⟩
abbrev c_Mo_copy : ByteArray := prog_11_method_26_code
def y_Mo_copy : MethodName := ⟨R_Mo, "copy", "(IIIIJ)V"⟩
abbrev c_Mo_takeBlock : ByteArray := prog_11_method_27_code
def y_Mo_takeBlock : MethodName := ⟨R_Mo, "takeBlock", "(I)V"⟩
abbrev c_Mo_beginReading : ByteArray := prog_11_method_28_code
def y_Mo_beginReading : MethodName := ⟨R_Mo, "beginReading", "()V"⟩
abbrev c_Mo_endReading : ByteArray := prog_11_method_29_code
def y_Mo_endReading : MethodName := ⟨R_Mo, "endReading", "()I"⟩
abbrev c_Mo_unpack : ByteArray := prog_11_method_30_code
def y_Mo_unpack : MethodName := ⟨R_Mo, "unpack", "(I)I"⟩
abbrev c_Mo_sumOf : ByteArray := prog_11_method_31_code
def y_Mo_sumOf : MethodName := ⟨R_Mo, "sumOf", "([BII)I"⟩
abbrev c_Mo_mark : ByteArray := prog_11_method_32_code
def y_Mo_mark : MethodName := ⟨R_Mo, "mark", "(I)I"⟩
abbrev c_Mo_putRow : ByteArray := prog_11_method_33_code
def y_Mo_putRow : MethodName := ⟨R_Mo, "putRow", "(III)V"⟩
abbrev c_Mo_chunks : ByteArray := prog_11_method_34_code
def y_Mo_chunks : MethodName := ⟨R_Mo, "chunks", "(III)I"⟩
abbrev c_Mo_byteOf : ByteArray := prog_11_method_35_code
def y_Mo_byteOf : MethodName := ⟨R_Mo, "byteOf", "(I)I"⟩
abbrev c_Mo_orderly : ByteArray := prog_11_method_36_code
def y_Mo_orderly : MethodName := ⟨R_Mo, "orderly", "(II)Z"⟩
abbrev c_Mo_takeChunk : ByteArray := prog_11_method_37_code
def y_Mo_takeChunk : MethodName := ⟨R_Mo, "takeChunk", "(III)V"⟩
abbrev c_Mo_unchunk : ByteArray := prog_11_method_38_code
def y_Mo_unchunk : MethodName := ⟨R_Mo, "unchunk", "(I)I"⟩
abbrev c_Mo_place : ByteArray := prog_11_method_39_code
def y_Mo_place : MethodName := ⟨R_Mo, "place", "()I"⟩
abbrev c_Mo_sum : ByteArray := prog_11_method_40_code
def y_Mo_sum : MethodName := ⟨R_Mo, "sum", "()I"⟩
abbrev c_Mo_size : ByteArray := prog_11_method_41_code
def y_Mo_size : MethodName := ⟨R_Mo, "size", "()I"⟩
abbrev c_Mo_byteAt : ByteArray := prog_11_method_42_code
def y_Mo_byteAt : MethodName := ⟨R_Mo, "byteAt", "(I)I"⟩
abbrev c_Ar_fill : ByteArray := prog_14_method_103_code
def y_Ar_fill : MethodName := ⟨R_Ar, "fill", "([II)V"⟩
